section
def jcc (cI cJ cZ cR cH : ClassId) : Nat → ClassId := fun k => match k with
  | 0 => cI
  | 1 => cJ
  | 2 => cZ
  | 5 => cR
  | _ => cH
/-- memory as the constructors leave it -/
def jm0 : jMem := fun r j => if r = 3 then 4 else if r = 54 then 4 else if r = 14 then -1 else if r = 60 then -1 else if r = 0 then (if j = 8 then 1 else 0) else if r = 53 then (if j = 6 then 1 else 0) else if r = 7 then (if j = 9 then 14 else if j = 11 then 3 else 0) else if (r = 25 ∨ r = 27 ∨ r = 29 ∨ r = 31 ∨ r = 33 ∨ r = 35) ∧ j = 1 then -1 else 0
theorem jm0_R : jRM jm0 := by
  intro k j hk
  have h1 : ∀ κ : Nat, jR κ 0 := by
    intro κ
    unfold jR
    split <;> first | trivial | decide | omega
  have h2 : ∀ κ : Nat, κ ≠ 5 → κ ≠ 3 → κ ≠ 7 → jR κ 4 ∧ jR κ (-1) ∧ jR κ 1 := by
    intro κ h h' h''
    unfold jR
    split <;> first | exact ⟨trivial, trivial, trivial⟩ | exact absurd rfl h | exact absurd rfl h' | exact absurd rfl h'' | omega
  have h3 : ∀ k : Nat, k < 53 → (k = 3 ∨ k = 54 ∨ k = 14 ∨ k = 60) → ∀ j : Nat, jK k j ≠ 5 ∧ jK k j ≠ 3 ∧ jK k j ≠ 7 := by
    intro k _ h j
    have e3 : (jSh 3).1 = 0 := by decide +kernel
    have e54 : (jSh 54).1 = 0 := by decide +kernel
    have e14 : (jSh 14).1 = 1 := by decide +kernel
    have e60 : (jSh 60).1 = 0 := by decide +kernel
    rcases h with rfl | rfl | rfl | rfl <;> simp [jK, e3, e54, e14, e60]
  have h4 : jK 0 8 = 1 ∧ jK 53 6 = 2 ∧ jK 25 1 = 1 ∧ jK 27 1 = 1 ∧ jK 29 1 = 1 ∧ jK 31 1 = 1 ∧ jK 33 1 = 1 ∧ jK 35 1 = 1 := by decide +kernel
  unfold jm0
  split
  · rename_i h; exact (h2 _ (h3 k hk (by omega) j).1 (h3 k hk (by omega) j).2.1 (h3 k hk (by omega) j).2.2).1
  split
  · rename_i h; exact (h2 _ (h3 k hk (by omega) j).1 (h3 k hk (by omega) j).2.1 (h3 k hk (by omega) j).2.2).1
  split
  · rename_i h; exact (h2 _ (h3 k hk (by omega) j).1 (h3 k hk (by omega) j).2.1 (h3 k hk (by omega) j).2.2).2.1
  split
  · rename_i h; exact (h2 _ (h3 k hk (by omega) j).1 (h3 k hk (by omega) j).2.1 (h3 k hk (by omega) j).2.2).2.1
  split
  · rename_i h
    split
    · rename_i h'
      have e1 : k = 0 := by omega
      have e2 : j = 8 := by omega
      subst e1 e2; rw [h4.1]; exact (h2 1 (by decide) (by decide) (by decide)).2.2
    · exact h1 _
  split
  · rename_i h
    split
    · rename_i h'
      have e1 : k = 53 := by omega
      have e2 : j = 6 := by omega
      subst e1 e2; rw [h4.2.1]; exact (h2 2 (by decide) (by decide) (by decide)).2.2
    · exact h1 _
  split
  · rename_i h
    split
    · rename_i h'
      have e1 : k = 7 := by omega
      have e2 : j = 9 := by omega
      subst e1 e2; rw [show jK 7 9 = 1 by decide +kernel]; exact ⟨by decide, by decide⟩
    split
    · rename_i h'
      have e1 : k = 7 := by omega
      have e2 : j = 11 := by omega
      subst e1 e2; rw [show jK 7 11 = 1 by decide +kernel]; exact ⟨by decide, by decide⟩
    · exact h1 _
  split
  · rename_i h
    obtain ⟨h, h'⟩ := h
    have e2 : j = 1 := by omega
    subst e2
    have e3 : k = 25 ∨ k = 27 ∨ k = 29 ∨ k = 31 ∨ k = 33 ∨ k = 35 := by omega
    rcases e3 with rfl | rfl | rfl | rfl | rfl | rfl
    · rw [h4.2.2.1]; exact (h2 1 (by decide) (by decide) (by decide)).2.1
    · rw [h4.2.2.2.1]; exact (h2 1 (by decide) (by decide) (by decide)).2.1
    · rw [h4.2.2.2.2.1]; exact (h2 1 (by decide) (by decide) (by decide)).2.1
    · rw [h4.2.2.2.2.2.1]; exact (h2 1 (by decide) (by decide) (by decide)).2.1
    · rw [h4.2.2.2.2.2.2.1]; exact (h2 1 (by decide) (by decide) (by decide)).2.1
    · rw [h4.2.2.2.2.2.2.2]; exact (h2 1 (by decide) (by decide) (by decide)).2.1
  · exact h1 _
theorem arrV_cg {c : ClassId} {n : Nat} {f g : Nat → Value} (h : ∀ j, j < n → f j = g j) : arrV c n f = arrV c n g := by
  unfold arrV
  congr 1
  apply Array.ext
  · simp
  · intro j h1 h2
    simp only [Array.getElem_ofFn]
    exact h j (by simpa using h1)
theorem jc_i {D : va_G} {cl : List vw_C} {a n : Nat} {c : ClassId} {f g : Nat → Int32} {H : Heap} (h : va_at D cl (a, .inl (c, n, .inl f)) H) (hf : ∀ j, j < n → f j = g j) : va_at D cl (a, .inl (c, n, .inl g)) H := by
  have e : vp_cell c (n, .inl f) = vp_cell c (n, .inl g) := by
    show arrV c n (fun j => .int (f j)) = arrV c n (fun j => .int (g j))
    exact arrV_cg (fun j hj => by rw [hf j hj])
  show H[a]? = some (vp_cell c (n, .inl g))
  rw [← e]; exact h
theorem jc_l {D : va_G} {cl : List vw_C} {a n : Nat} {c : ClassId} {f g : Nat → Int64} {H : Heap} (h : va_at D cl (a, .inl (c, n, .inr (.inl f))) H) (hf : ∀ j, j < n → f j = g j) : va_at D cl (a, .inl (c, n, .inr (.inl g))) H := by
  have e : vp_cell c (n, .inr (.inl f)) = vp_cell c (n, .inr (.inl g)) := by
    show arrV c n (fun j => .long (f j)) = arrV c n (fun j => .long (g j))
    exact arrV_cg (fun j hj => by rw [hf j hj])
  show H[a]? = some (vp_cell c (n, .inr (.inl g)))
  rw [← e]; exact h
theorem jc_r {D : va_G} {cl : List vw_C} {a n : Nat} {c : ClassId} {f g : Nat → Option Nat} {H : Heap} (h : va_at D cl (a, .inl (c, n, .inr (.inr (.inr (.inr f))))) H) (hf : ∀ j, j < n → f j = g j) : va_at D cl (a, .inl (c, n, .inr (.inr (.inr (.inr g))))) H := by
  have e : vp_cell c (n, .inr (.inr (.inr (.inr f)))) = vp_cell c (n, .inr (.inr (.inr (.inr g)))) := by
    rw [vp_cell_q, vp_cell_q]
    exact arrV_cg (fun j hj => by rw [hf j hj])
  show H[a]? = some (vp_cell c (n, .inr (.inr (.inr (.inr g)))))
  rw [← e]; exact h
set_option maxRecDepth 100000 in
theorem vk_X10 : Cond.classLink RL 16 RX10 ∈ jgw := jgw_in 33 rfl rfl
set_option maxRecDepth 100000 in
theorem vt_X10 : Cond.instantiable RX10 9 ∈ jgw := jgw_in 34 rfl rfl
set_option maxRecDepth 100000 in
theorem vz_X10 : Cond.initialized RX10 ∈ jgw := jgw_in 19 rfl rfl
set_option maxRecDepth 100000 in
theorem vc_X10 : Cond.code yX10_init cX10_init 2 none ∈ jgw := jgw_in 37 rfl rfl
set_option maxRecDepth 100000 in
theorem vm_X10 : Cond.instanceMethod yX10_init ∈ jgw := jgw_in 36 rfl rfl
set_option maxRecDepth 100000 in
theorem vi_X10 : Cond.methodLink RL 61 yX10_init ∈ jgw := jgw_in 35 rfl rfl
set_option maxRecDepth 100000 in
set_option maxHeartbeats 4000000 in
theorem jm0_P {dC : Nat → ClassId} {dI : Nat → Nat → Nat} {cI cJ cZ cR cH : ClassId} {b L w : Nat} {xs : Nat → Int32} {H : Heap} {A : Nat → Prop} {z1 z2 z3 z4 z5 z6 z7 z8 z9 z10 z11 z12 z13 z14 z15 z16 z17 z18 z19 z20 z21 z22 z23 z24 z25 z26 z27 z28 z29 z30 z31 z32 z33 z34 z35 z36 z37 z38 z39 z40 z41 z42 z43 z44 z45 z46 z47 z48 z49 z50 z51 z52 z53 : Nat} (hP : va_P (dC, dI) vwCl ((z1, .inr (7, [.ref z2, .ref z3, .ref z4, .ref z5, .ref z6, .ref z7, .ref z8, .ref z17, .int 1])) :: (z2, .inl (cR, 6, .inr (.inr (.inr (.inr (va_up (va_up (va_up (va_up (va_up (va_up (fun _ => none) 0 (some z26)) 1 (some z28)) 2 (some z30)) 3 (some z32)) 4 (some z34)) 5 (some z36))))))) :: (z3, .inl (cH, 4, .inr (.inr (.inr (.inr (va_up (va_up (va_up (va_up (fun _ => none) 0 (some z38)) 1 (some z42)) 2 (some z46)) 3 (some z50))))))) :: (z5, .inl (cI, 34, .inl fun _ => 0)) :: (z6, .inl (cI, 34, .inl fun _ => 0)) :: (z7, .inr (3, [.int 0, .int 0])) :: (z8, .inr (2, [.ref z7, .ref z9, .ref z10, .ref z11, .ref z12, .ref z13, .ref z14, .ref z15, .ref z16, .int 14, .int 0, .int 3, .int 0, .long 0])) :: (z9, .inl (cI, 34, .inl fun _ => 0)) :: (z10, .inl (cI, 34, .inl fun _ => 0)) :: (z11, .inl (cJ, 40, .inr (.inl fun _ => 0))) :: (z12, .inl (cJ, 90, .inr (.inl fun _ => 0))) :: (z13, .inl (cJ, 90, .inr (.inl fun _ => 0))) :: (z14, .inl (cJ, 10, .inr (.inl fun _ => 0))) :: (z16, .inl (cJ, 5120, .inr (.inl fun _ => 0))) :: (z15, .inl (cJ, 512, .inr (.inl fun j => if j < 512 then (-1) else (fun _ => 0) j))) :: (z17, .inr (1, [.ref z18, .ref z22, .ref z7, .int 0, .int 0, .int 0])) :: (z18, .inr (6, [.ref z19, .ref z20, .ref z21, .int 0, .int 0])) :: (z19, .inl (cI, 34, .inl fun _ => 0)) :: (z20, .inl (cI, 5, .inl fun _ => 0)) :: (z21, .inl (cI, 40, .inl fun _ => 0)) :: (z22, .inr (5, [.ref z23, .ref z24, .ref z25, .int 0])) :: (z23, .inl (cI, 20, .inl fun _ => 0)) :: (z24, .inl (cI, 20, .inl fun _ => 0)) :: (z25, .inl (cI, 20, .inl fun _ => 0)) :: (z26, .inr (4, [.ref z27, .int (-1), .int 0])) :: (z27, .inl (cI, 40, .inl fun _ => 0)) :: (z28, .inr (4, [.ref z29, .int (-1), .int 0])) :: (z29, .inl (cI, 40, .inl fun _ => 0)) :: (z30, .inr (4, [.ref z31, .int (-1), .int 0])) :: (z31, .inl (cI, 40, .inl fun _ => 0)) :: (z32, .inr (4, [.ref z33, .int (-1), .int 0])) :: (z33, .inl (cI, 40, .inl fun _ => 0)) :: (z34, .inr (4, [.ref z35, .int (-1), .int 0])) :: (z35, .inl (cI, 40, .inl fun _ => 0)) :: (z36, .inr (4, [.ref z37, .int (-1), .int 0])) :: (z37, .inl (cI, 40, .inl fun _ => 0)) :: (z38, .inr (0, [.ref z39, .ref z40, .ref z41, .int 0, .int 0])) :: (z39, .inl (cI, 34, .inl fun _ => 0)) :: (z40, .inl (cI, 34, .inl fun _ => 0)) :: (z41, .inl (cI, 4, .inl fun _ => 0)) :: (z42, .inr (0, [.ref z43, .ref z44, .ref z45, .int 0, .int 0])) :: (z43, .inl (cI, 34, .inl fun _ => 0)) :: (z44, .inl (cI, 34, .inl fun _ => 0)) :: (z45, .inl (cI, 4, .inl fun _ => 0)) :: (z46, .inr (0, [.ref z47, .ref z48, .ref z49, .int 0, .int 0])) :: (z47, .inl (cI, 34, .inl fun _ => 0)) :: (z48, .inl (cI, 34, .inl fun _ => 0)) :: (z49, .inl (cI, 4, .inl fun _ => 0)) :: (z50, .inr (0, [.ref z51, .ref z52, .ref z53, .int 0, .int 0])) :: (z51, .inl (cI, 34, .inl fun _ => 0)) :: (z52, .inl (cI, 34, .inl fun _ => 0)) :: (z53, .inl (cI, 4, .inl fun _ => 0)) :: (z4, .inl (cI, 34, .inl fun j => if j < 34 then 4 else (fun _ => 0) j)) :: []) H) (hD : va_D A ((z1, .inr (7, [.ref z2, .ref z3, .ref z4, .ref z5, .ref z6, .ref z7, .ref z8, .ref z17, .int 1])) :: (z2, .inl (cR, 6, .inr (.inr (.inr (.inr (va_up (va_up (va_up (va_up (va_up (va_up (fun _ => none) 0 (some z26)) 1 (some z28)) 2 (some z30)) 3 (some z32)) 4 (some z34)) 5 (some z36))))))) :: (z3, .inl (cH, 4, .inr (.inr (.inr (.inr (va_up (va_up (va_up (va_up (fun _ => none) 0 (some z38)) 1 (some z42)) 2 (some z46)) 3 (some z50))))))) :: (z5, .inl (cI, 34, .inl fun _ => 0)) :: (z6, .inl (cI, 34, .inl fun _ => 0)) :: (z7, .inr (3, [.int 0, .int 0])) :: (z8, .inr (2, [.ref z7, .ref z9, .ref z10, .ref z11, .ref z12, .ref z13, .ref z14, .ref z15, .ref z16, .int 14, .int 0, .int 3, .int 0, .long 0])) :: (z9, .inl (cI, 34, .inl fun _ => 0)) :: (z10, .inl (cI, 34, .inl fun _ => 0)) :: (z11, .inl (cJ, 40, .inr (.inl fun _ => 0))) :: (z12, .inl (cJ, 90, .inr (.inl fun _ => 0))) :: (z13, .inl (cJ, 90, .inr (.inl fun _ => 0))) :: (z14, .inl (cJ, 10, .inr (.inl fun _ => 0))) :: (z16, .inl (cJ, 5120, .inr (.inl fun _ => 0))) :: (z15, .inl (cJ, 512, .inr (.inl fun j => if j < 512 then (-1) else (fun _ => 0) j))) :: (z17, .inr (1, [.ref z18, .ref z22, .ref z7, .int 0, .int 0, .int 0])) :: (z18, .inr (6, [.ref z19, .ref z20, .ref z21, .int 0, .int 0])) :: (z19, .inl (cI, 34, .inl fun _ => 0)) :: (z20, .inl (cI, 5, .inl fun _ => 0)) :: (z21, .inl (cI, 40, .inl fun _ => 0)) :: (z22, .inr (5, [.ref z23, .ref z24, .ref z25, .int 0])) :: (z23, .inl (cI, 20, .inl fun _ => 0)) :: (z24, .inl (cI, 20, .inl fun _ => 0)) :: (z25, .inl (cI, 20, .inl fun _ => 0)) :: (z26, .inr (4, [.ref z27, .int (-1), .int 0])) :: (z27, .inl (cI, 40, .inl fun _ => 0)) :: (z28, .inr (4, [.ref z29, .int (-1), .int 0])) :: (z29, .inl (cI, 40, .inl fun _ => 0)) :: (z30, .inr (4, [.ref z31, .int (-1), .int 0])) :: (z31, .inl (cI, 40, .inl fun _ => 0)) :: (z32, .inr (4, [.ref z33, .int (-1), .int 0])) :: (z33, .inl (cI, 40, .inl fun _ => 0)) :: (z34, .inr (4, [.ref z35, .int (-1), .int 0])) :: (z35, .inl (cI, 40, .inl fun _ => 0)) :: (z36, .inr (4, [.ref z37, .int (-1), .int 0])) :: (z37, .inl (cI, 40, .inl fun _ => 0)) :: (z38, .inr (0, [.ref z39, .ref z40, .ref z41, .int 0, .int 0])) :: (z39, .inl (cI, 34, .inl fun _ => 0)) :: (z40, .inl (cI, 34, .inl fun _ => 0)) :: (z41, .inl (cI, 4, .inl fun _ => 0)) :: (z42, .inr (0, [.ref z43, .ref z44, .ref z45, .int 0, .int 0])) :: (z43, .inl (cI, 34, .inl fun _ => 0)) :: (z44, .inl (cI, 34, .inl fun _ => 0)) :: (z45, .inl (cI, 4, .inl fun _ => 0)) :: (z46, .inr (0, [.ref z47, .ref z48, .ref z49, .int 0, .int 0])) :: (z47, .inl (cI, 34, .inl fun _ => 0)) :: (z48, .inl (cI, 34, .inl fun _ => 0)) :: (z49, .inl (cI, 4, .inl fun _ => 0)) :: (z50, .inr (0, [.ref z51, .ref z52, .ref z53, .int 0, .int 0])) :: (z51, .inl (cI, 34, .inl fun _ => 0)) :: (z52, .inl (cI, 34, .inl fun _ => 0)) :: (z53, .inl (cI, 4, .inl fun _ => 0)) :: (z4, .inl (cI, 34, .inl fun j => if j < 34 then 4 else (fun _ => 0) j)) :: [])) : va_P (dC, dI) vwCl (jW (fun k => ((z1 :: z2 :: z3 :: z4 :: z5 :: z6 :: z7 :: z8 :: z9 :: z10 :: z11 :: z12 :: z13 :: z14 :: z15 :: z16 :: z17 :: z18 :: z19 :: z20 :: z21 :: z22 :: z23 :: z24 :: z25 :: z26 :: z27 :: z28 :: z29 :: z30 :: z31 :: z32 :: z33 :: z34 :: z35 :: z36 :: z37 :: z38 :: z39 :: z40 :: z41 :: z42 :: z43 :: z44 :: z45 :: z46 :: z47 :: z48 :: z49 :: z50 :: z51 :: z52 :: z53 :: []) : List Nat).getD k w, (dC, dI), jcc cI cJ cZ cR cH, (b, L, xs)) jm0) H ∧ (∀ σ, va_D A (jW (fun k => ((z1 :: z2 :: z3 :: z4 :: z5 :: z6 :: z7 :: z8 :: z9 :: z10 :: z11 :: z12 :: z13 :: z14 :: z15 :: z16 :: z17 :: z18 :: z19 :: z20 :: z21 :: z22 :: z23 :: z24 :: z25 :: z26 :: z27 :: z28 :: z29 :: z30 :: z31 :: z32 :: z33 :: z34 :: z35 :: z36 :: z37 :: z38 :: z39 :: z40 :: z41 :: z42 :: z43 :: z44 :: z45 :: z46 :: z47 :: z48 :: z49 :: z50 :: z51 :: z52 :: z53 :: []) : List Nat).getD k w, (dC, dI), jcc cI cJ cZ cR cH, (b, L, xs)) σ)) ∧ ∀ σ (i : Nat) (q : Nat × va_E), (jW (fun k => ((z1 :: z2 :: z3 :: z4 :: z5 :: z6 :: z7 :: z8 :: z9 :: z10 :: z11 :: z12 :: z13 :: z14 :: z15 :: z16 :: z17 :: z18 :: z19 :: z20 :: z21 :: z22 :: z23 :: z24 :: z25 :: z26 :: z27 :: z28 :: z29 :: z30 :: z31 :: z32 :: z33 :: z34 :: z35 :: z36 :: z37 :: z38 :: z39 :: z40 :: z41 :: z42 :: z43 :: z44 :: z45 :: z46 :: z47 :: z48 :: z49 :: z50 :: z51 :: z52 :: z53 :: []) : List Nat).getD k w, (dC, dI), jcc cI cJ cZ cR cH, (b, L, xs)) σ)[i]? = some q → ∃ (x : va_E) (i2 : Nat), ((z1, .inr (7, [.ref z2, .ref z3, .ref z4, .ref z5, .ref z6, .ref z7, .ref z8, .ref z17, .int 1])) :: (z2, .inl (cR, 6, .inr (.inr (.inr (.inr (va_up (va_up (va_up (va_up (va_up (va_up (fun _ => none) 0 (some z26)) 1 (some z28)) 2 (some z30)) 3 (some z32)) 4 (some z34)) 5 (some z36))))))) :: (z3, .inl (cH, 4, .inr (.inr (.inr (.inr (va_up (va_up (va_up (va_up (fun _ => none) 0 (some z38)) 1 (some z42)) 2 (some z46)) 3 (some z50))))))) :: (z5, .inl (cI, 34, .inl fun _ => 0)) :: (z6, .inl (cI, 34, .inl fun _ => 0)) :: (z7, .inr (3, [.int 0, .int 0])) :: (z8, .inr (2, [.ref z7, .ref z9, .ref z10, .ref z11, .ref z12, .ref z13, .ref z14, .ref z15, .ref z16, .int 14, .int 0, .int 3, .int 0, .long 0])) :: (z9, .inl (cI, 34, .inl fun _ => 0)) :: (z10, .inl (cI, 34, .inl fun _ => 0)) :: (z11, .inl (cJ, 40, .inr (.inl fun _ => 0))) :: (z12, .inl (cJ, 90, .inr (.inl fun _ => 0))) :: (z13, .inl (cJ, 90, .inr (.inl fun _ => 0))) :: (z14, .inl (cJ, 10, .inr (.inl fun _ => 0))) :: (z16, .inl (cJ, 5120, .inr (.inl fun _ => 0))) :: (z15, .inl (cJ, 512, .inr (.inl fun j => if j < 512 then (-1) else (fun _ => 0) j))) :: (z17, .inr (1, [.ref z18, .ref z22, .ref z7, .int 0, .int 0, .int 0])) :: (z18, .inr (6, [.ref z19, .ref z20, .ref z21, .int 0, .int 0])) :: (z19, .inl (cI, 34, .inl fun _ => 0)) :: (z20, .inl (cI, 5, .inl fun _ => 0)) :: (z21, .inl (cI, 40, .inl fun _ => 0)) :: (z22, .inr (5, [.ref z23, .ref z24, .ref z25, .int 0])) :: (z23, .inl (cI, 20, .inl fun _ => 0)) :: (z24, .inl (cI, 20, .inl fun _ => 0)) :: (z25, .inl (cI, 20, .inl fun _ => 0)) :: (z26, .inr (4, [.ref z27, .int (-1), .int 0])) :: (z27, .inl (cI, 40, .inl fun _ => 0)) :: (z28, .inr (4, [.ref z29, .int (-1), .int 0])) :: (z29, .inl (cI, 40, .inl fun _ => 0)) :: (z30, .inr (4, [.ref z31, .int (-1), .int 0])) :: (z31, .inl (cI, 40, .inl fun _ => 0)) :: (z32, .inr (4, [.ref z33, .int (-1), .int 0])) :: (z33, .inl (cI, 40, .inl fun _ => 0)) :: (z34, .inr (4, [.ref z35, .int (-1), .int 0])) :: (z35, .inl (cI, 40, .inl fun _ => 0)) :: (z36, .inr (4, [.ref z37, .int (-1), .int 0])) :: (z37, .inl (cI, 40, .inl fun _ => 0)) :: (z38, .inr (0, [.ref z39, .ref z40, .ref z41, .int 0, .int 0])) :: (z39, .inl (cI, 34, .inl fun _ => 0)) :: (z40, .inl (cI, 34, .inl fun _ => 0)) :: (z41, .inl (cI, 4, .inl fun _ => 0)) :: (z42, .inr (0, [.ref z43, .ref z44, .ref z45, .int 0, .int 0])) :: (z43, .inl (cI, 34, .inl fun _ => 0)) :: (z44, .inl (cI, 34, .inl fun _ => 0)) :: (z45, .inl (cI, 4, .inl fun _ => 0)) :: (z46, .inr (0, [.ref z47, .ref z48, .ref z49, .int 0, .int 0])) :: (z47, .inl (cI, 34, .inl fun _ => 0)) :: (z48, .inl (cI, 34, .inl fun _ => 0)) :: (z49, .inl (cI, 4, .inl fun _ => 0)) :: (z50, .inr (0, [.ref z51, .ref z52, .ref z53, .int 0, .int 0])) :: (z51, .inl (cI, 34, .inl fun _ => 0)) :: (z52, .inl (cI, 34, .inl fun _ => 0)) :: (z53, .inl (cI, 4, .inl fun _ => 0)) :: (z4, .inl (cI, 34, .inl fun j => if j < 34 then 4 else (fun _ => 0) j)) :: [])[i2]? = some (q.1, x) := by
  have e : ∀ (σ : jMem) (i : Nat) (q : Nat × va_E), (jW (fun k => ((z1 :: z2 :: z3 :: z4 :: z5 :: z6 :: z7 :: z8 :: z9 :: z10 :: z11 :: z12 :: z13 :: z14 :: z15 :: z16 :: z17 :: z18 :: z19 :: z20 :: z21 :: z22 :: z23 :: z24 :: z25 :: z26 :: z27 :: z28 :: z29 :: z30 :: z31 :: z32 :: z33 :: z34 :: z35 :: z36 :: z37 :: z38 :: z39 :: z40 :: z41 :: z42 :: z43 :: z44 :: z45 :: z46 :: z47 :: z48 :: z49 :: z50 :: z51 :: z52 :: z53 :: []) : List Nat).getD k w, (dC, dI), jcc cI cJ cZ cR cH, (b, L, xs)) σ)[i]? = some q → ∃ (x : va_E) (i2 : Nat), ((z1, .inr (7, [.ref z2, .ref z3, .ref z4, .ref z5, .ref z6, .ref z7, .ref z8, .ref z17, .int 1])) :: (z2, .inl (cR, 6, .inr (.inr (.inr (.inr (va_up (va_up (va_up (va_up (va_up (va_up (fun _ => none) 0 (some z26)) 1 (some z28)) 2 (some z30)) 3 (some z32)) 4 (some z34)) 5 (some z36))))))) :: (z3, .inl (cH, 4, .inr (.inr (.inr (.inr (va_up (va_up (va_up (va_up (fun _ => none) 0 (some z38)) 1 (some z42)) 2 (some z46)) 3 (some z50))))))) :: (z5, .inl (cI, 34, .inl fun _ => 0)) :: (z6, .inl (cI, 34, .inl fun _ => 0)) :: (z7, .inr (3, [.int 0, .int 0])) :: (z8, .inr (2, [.ref z7, .ref z9, .ref z10, .ref z11, .ref z12, .ref z13, .ref z14, .ref z15, .ref z16, .int 14, .int 0, .int 3, .int 0, .long 0])) :: (z9, .inl (cI, 34, .inl fun _ => 0)) :: (z10, .inl (cI, 34, .inl fun _ => 0)) :: (z11, .inl (cJ, 40, .inr (.inl fun _ => 0))) :: (z12, .inl (cJ, 90, .inr (.inl fun _ => 0))) :: (z13, .inl (cJ, 90, .inr (.inl fun _ => 0))) :: (z14, .inl (cJ, 10, .inr (.inl fun _ => 0))) :: (z16, .inl (cJ, 5120, .inr (.inl fun _ => 0))) :: (z15, .inl (cJ, 512, .inr (.inl fun j => if j < 512 then (-1) else (fun _ => 0) j))) :: (z17, .inr (1, [.ref z18, .ref z22, .ref z7, .int 0, .int 0, .int 0])) :: (z18, .inr (6, [.ref z19, .ref z20, .ref z21, .int 0, .int 0])) :: (z19, .inl (cI, 34, .inl fun _ => 0)) :: (z20, .inl (cI, 5, .inl fun _ => 0)) :: (z21, .inl (cI, 40, .inl fun _ => 0)) :: (z22, .inr (5, [.ref z23, .ref z24, .ref z25, .int 0])) :: (z23, .inl (cI, 20, .inl fun _ => 0)) :: (z24, .inl (cI, 20, .inl fun _ => 0)) :: (z25, .inl (cI, 20, .inl fun _ => 0)) :: (z26, .inr (4, [.ref z27, .int (-1), .int 0])) :: (z27, .inl (cI, 40, .inl fun _ => 0)) :: (z28, .inr (4, [.ref z29, .int (-1), .int 0])) :: (z29, .inl (cI, 40, .inl fun _ => 0)) :: (z30, .inr (4, [.ref z31, .int (-1), .int 0])) :: (z31, .inl (cI, 40, .inl fun _ => 0)) :: (z32, .inr (4, [.ref z33, .int (-1), .int 0])) :: (z33, .inl (cI, 40, .inl fun _ => 0)) :: (z34, .inr (4, [.ref z35, .int (-1), .int 0])) :: (z35, .inl (cI, 40, .inl fun _ => 0)) :: (z36, .inr (4, [.ref z37, .int (-1), .int 0])) :: (z37, .inl (cI, 40, .inl fun _ => 0)) :: (z38, .inr (0, [.ref z39, .ref z40, .ref z41, .int 0, .int 0])) :: (z39, .inl (cI, 34, .inl fun _ => 0)) :: (z40, .inl (cI, 34, .inl fun _ => 0)) :: (z41, .inl (cI, 4, .inl fun _ => 0)) :: (z42, .inr (0, [.ref z43, .ref z44, .ref z45, .int 0, .int 0])) :: (z43, .inl (cI, 34, .inl fun _ => 0)) :: (z44, .inl (cI, 34, .inl fun _ => 0)) :: (z45, .inl (cI, 4, .inl fun _ => 0)) :: (z46, .inr (0, [.ref z47, .ref z48, .ref z49, .int 0, .int 0])) :: (z47, .inl (cI, 34, .inl fun _ => 0)) :: (z48, .inl (cI, 34, .inl fun _ => 0)) :: (z49, .inl (cI, 4, .inl fun _ => 0)) :: (z50, .inr (0, [.ref z51, .ref z52, .ref z53, .int 0, .int 0])) :: (z51, .inl (cI, 34, .inl fun _ => 0)) :: (z52, .inl (cI, 34, .inl fun _ => 0)) :: (z53, .inl (cI, 4, .inl fun _ => 0)) :: (z4, .inl (cI, 34, .inl fun j => if j < 34 then 4 else (fun _ => 0) j)) :: [])[i2]? = some (q.1, x) ∧ ((0 :: 1 :: 2 :: 52 :: 3 :: 4 :: 5 :: 6 :: 7 :: 8 :: 9 :: 10 :: 11 :: 12 :: 14 :: 13 :: 15 :: 16 :: 17 :: 18 :: 19 :: 20 :: 21 :: 22 :: 23 :: 24 :: 25 :: 26 :: 27 :: 28 :: 29 :: 30 :: 31 :: 32 :: 33 :: 34 :: 35 :: 36 :: 37 :: 38 :: 39 :: 40 :: 41 :: 42 :: 43 :: 44 :: 45 :: 46 :: 47 :: 48 :: 49 :: 50 :: 51 :: []) : List Nat)[i]? = some i2 := by
    intro σ k q hq
    have hk : k < 53 := by
      have := (List.getElem?_eq_some_iff.mp hq).1
      rwa [jW_len] at this
    rw [jW_at _ _ hk] at hq
    cases hq
    match k, hk with
    | 0, _ => exact ⟨_, 0, rfl, rfl⟩
    | 1, _ => exact ⟨_, 1, rfl, rfl⟩
    | 2, _ => exact ⟨_, 2, rfl, rfl⟩
    | 3, _ => exact ⟨_, 52, rfl, rfl⟩
    | 4, _ => exact ⟨_, 3, rfl, rfl⟩
    | 5, _ => exact ⟨_, 4, rfl, rfl⟩
    | 6, _ => exact ⟨_, 5, rfl, rfl⟩
    | 7, _ => exact ⟨_, 6, rfl, rfl⟩
    | 8, _ => exact ⟨_, 7, rfl, rfl⟩
    | 9, _ => exact ⟨_, 8, rfl, rfl⟩
    | 10, _ => exact ⟨_, 9, rfl, rfl⟩
    | 11, _ => exact ⟨_, 10, rfl, rfl⟩
    | 12, _ => exact ⟨_, 11, rfl, rfl⟩
    | 13, _ => exact ⟨_, 12, rfl, rfl⟩
    | 14, _ => exact ⟨_, 14, rfl, rfl⟩
    | 15, _ => exact ⟨_, 13, rfl, rfl⟩
    | 16, _ => exact ⟨_, 15, rfl, rfl⟩
    | 17, _ => exact ⟨_, 16, rfl, rfl⟩
    | 18, _ => exact ⟨_, 17, rfl, rfl⟩
    | 19, _ => exact ⟨_, 18, rfl, rfl⟩
    | 20, _ => exact ⟨_, 19, rfl, rfl⟩
    | 21, _ => exact ⟨_, 20, rfl, rfl⟩
    | 22, _ => exact ⟨_, 21, rfl, rfl⟩
    | 23, _ => exact ⟨_, 22, rfl, rfl⟩
    | 24, _ => exact ⟨_, 23, rfl, rfl⟩
    | 25, _ => exact ⟨_, 24, rfl, rfl⟩
    | 26, _ => exact ⟨_, 25, rfl, rfl⟩
    | 27, _ => exact ⟨_, 26, rfl, rfl⟩
    | 28, _ => exact ⟨_, 27, rfl, rfl⟩
    | 29, _ => exact ⟨_, 28, rfl, rfl⟩
    | 30, _ => exact ⟨_, 29, rfl, rfl⟩
    | 31, _ => exact ⟨_, 30, rfl, rfl⟩
    | 32, _ => exact ⟨_, 31, rfl, rfl⟩
    | 33, _ => exact ⟨_, 32, rfl, rfl⟩
    | 34, _ => exact ⟨_, 33, rfl, rfl⟩
    | 35, _ => exact ⟨_, 34, rfl, rfl⟩
    | 36, _ => exact ⟨_, 35, rfl, rfl⟩
    | 37, _ => exact ⟨_, 36, rfl, rfl⟩
    | 38, _ => exact ⟨_, 37, rfl, rfl⟩
    | 39, _ => exact ⟨_, 38, rfl, rfl⟩
    | 40, _ => exact ⟨_, 39, rfl, rfl⟩
    | 41, _ => exact ⟨_, 40, rfl, rfl⟩
    | 42, _ => exact ⟨_, 41, rfl, rfl⟩
    | 43, _ => exact ⟨_, 42, rfl, rfl⟩
    | 44, _ => exact ⟨_, 43, rfl, rfl⟩
    | 45, _ => exact ⟨_, 44, rfl, rfl⟩
    | 46, _ => exact ⟨_, 45, rfl, rfl⟩
    | 47, _ => exact ⟨_, 46, rfl, rfl⟩
    | 48, _ => exact ⟨_, 47, rfl, rfl⟩
    | 49, _ => exact ⟨_, 48, rfl, rfl⟩
    | 50, _ => exact ⟨_, 49, rfl, rfl⟩
    | 51, _ => exact ⟨_, 50, rfl, rfl⟩
    | 52, _ => exact ⟨_, 51, rfl, rfl⟩
    | k + 53, h => exact absurd h (by omega)
  refine ⟨?_, fun σ => ?_, fun σ i q hq => ?_⟩
  · intro k q hq
    have hk : k < 53 := by
      have := (List.getElem?_eq_some_iff.mp hq).1
      rwa [jW_len] at this
    rw [jW_at _ _ hk] at hq
    cases hq
    match k, hk with
    | 0, _ => exact (hP 0 _ rfl)
    | 1, _ => exact jc_r (hP 1 _ rfl) (fun j hj => by have hj : j < 6 := hj; rcases (show j = 0 ∨ j = 1 ∨ j = 2 ∨ j = 3 ∨ j = 4 ∨ j = 5 by omega) with rfl | rfl | rfl | rfl | rfl | rfl <;> rfl)
    | 2, _ => exact jc_r (hP 2 _ rfl) (fun j hj => by have hj : j < 4 := hj; rcases (show j = 0 ∨ j = 1 ∨ j = 2 ∨ j = 3 by omega) with rfl | rfl | rfl | rfl <;> rfl)
    | 3, _ => exact jc_i (hP 52 _ rfl) (by decide +kernel)
    | 4, _ => exact jc_i (hP 3 _ rfl) (by decide +kernel)
    | 5, _ => exact jc_i (hP 4 _ rfl) (by decide +kernel)
    | 6, _ => exact (hP 5 _ rfl)
    | 7, _ => exact (hP 6 _ rfl)
    | 8, _ => exact jc_i (hP 7 _ rfl) (by decide +kernel)
    | 9, _ => exact jc_i (hP 8 _ rfl) (by decide +kernel)
    | 10, _ => exact jc_l (hP 9 _ rfl) (by decide +kernel)
    | 11, _ => exact jc_l (hP 10 _ rfl) (by decide +kernel)
    | 12, _ => exact jc_l (hP 11 _ rfl) (by decide +kernel)
    | 13, _ => exact jc_l (hP 12 _ rfl) (by decide +kernel)
    | 14, _ => exact jc_l (hP 14 _ rfl) (by decide +kernel)
    | 15, _ => exact jc_l (hP 13 _ rfl) (by decide +kernel)
    | 16, _ => exact (hP 15 _ rfl)
    | 17, _ => exact (hP 16 _ rfl)
    | 18, _ => exact jc_i (hP 17 _ rfl) (by decide +kernel)
    | 19, _ => exact jc_i (hP 18 _ rfl) (by decide +kernel)
    | 20, _ => exact jc_i (hP 19 _ rfl) (by decide +kernel)
    | 21, _ => exact (hP 20 _ rfl)
    | 22, _ => exact jc_i (hP 21 _ rfl) (by decide +kernel)
    | 23, _ => exact jc_i (hP 22 _ rfl) (by decide +kernel)
    | 24, _ => exact jc_i (hP 23 _ rfl) (by decide +kernel)
    | 25, _ => exact (hP 24 _ rfl)
    | 26, _ => exact jc_i (hP 25 _ rfl) (by decide +kernel)
    | 27, _ => exact (hP 26 _ rfl)
    | 28, _ => exact jc_i (hP 27 _ rfl) (by decide +kernel)
    | 29, _ => exact (hP 28 _ rfl)
    | 30, _ => exact jc_i (hP 29 _ rfl) (by decide +kernel)
    | 31, _ => exact (hP 30 _ rfl)
    | 32, _ => exact jc_i (hP 31 _ rfl) (by decide +kernel)
    | 33, _ => exact (hP 32 _ rfl)
    | 34, _ => exact jc_i (hP 33 _ rfl) (by decide +kernel)
    | 35, _ => exact (hP 34 _ rfl)
    | 36, _ => exact jc_i (hP 35 _ rfl) (by decide +kernel)
    | 37, _ => exact (hP 36 _ rfl)
    | 38, _ => exact jc_i (hP 37 _ rfl) (by decide +kernel)
    | 39, _ => exact jc_i (hP 38 _ rfl) (by decide +kernel)
    | 40, _ => exact jc_i (hP 39 _ rfl) (by decide +kernel)
    | 41, _ => exact (hP 40 _ rfl)
    | 42, _ => exact jc_i (hP 41 _ rfl) (by decide +kernel)
    | 43, _ => exact jc_i (hP 42 _ rfl) (by decide +kernel)
    | 44, _ => exact jc_i (hP 43 _ rfl) (by decide +kernel)
    | 45, _ => exact (hP 44 _ rfl)
    | 46, _ => exact jc_i (hP 45 _ rfl) (by decide +kernel)
    | 47, _ => exact jc_i (hP 46 _ rfl) (by decide +kernel)
    | 48, _ => exact jc_i (hP 47 _ rfl) (by decide +kernel)
    | 49, _ => exact (hP 48 _ rfl)
    | 50, _ => exact jc_i (hP 49 _ rfl) (by decide +kernel)
    | 51, _ => exact jc_i (hP 50 _ rfl) (by decide +kernel)
    | 52, _ => exact jc_i (hP 51 _ rfl) (by decide +kernel)
    | k + 53, h => exact absurd h (by omega)
  · refine ⟨fun i j p q hi hj hpq => ?_, fun k q hk => ?_⟩
    · obtain ⟨x, i2, h1, h2⟩ := e σ i p hi
      obtain ⟨y, j2, h3, h4⟩ := e σ j q hj
      have e1 := hD.1 i2 j2 _ _ h1 h3 hpq
      subst e1
      have hn : ∀ i, i < 53 → ∀ j, j < 53 → ((0 :: 1 :: 2 :: 52 :: 3 :: 4 :: 5 :: 6 :: 7 :: 8 :: 9 :: 10 :: 11 :: 12 :: 14 :: 13 :: 15 :: 16 :: 17 :: 18 :: 19 :: 20 :: 21 :: 22 :: 23 :: 24 :: 25 :: 26 :: 27 :: 28 :: 29 :: 30 :: 31 :: 32 :: 33 :: 34 :: 35 :: 36 :: 37 :: 38 :: 39 :: 40 :: 41 :: 42 :: 43 :: 44 :: 45 :: 46 :: 47 :: 48 :: 49 :: 50 :: 51 :: []) : List Nat)[i]? = ((0 :: 1 :: 2 :: 52 :: 3 :: 4 :: 5 :: 6 :: 7 :: 8 :: 9 :: 10 :: 11 :: 12 :: 14 :: 13 :: 15 :: 16 :: 17 :: 18 :: 19 :: 20 :: 21 :: 22 :: 23 :: 24 :: 25 :: 26 :: 27 :: 28 :: 29 :: 30 :: 31 :: 32 :: 33 :: 34 :: 35 :: 36 :: 37 :: 38 :: 39 :: 40 :: 41 :: 42 :: 43 :: 44 :: 45 :: 46 :: 47 :: 48 :: 49 :: 50 :: 51 :: []) : List Nat)[j]? → i = j := by decide +kernel
      have hi7 : i < 53 := by have := (List.getElem?_eq_some_iff.mp hi).1; rwa [jW_len] at this
      have hj7 : j < 53 := by have := (List.getElem?_eq_some_iff.mp hj).1; rwa [jW_len] at this
      exact hn i hi7 j hj7 (h2.trans h4.symm)
    · obtain ⟨x, i2, h1, h2⟩ := e σ k q hk
      exact hD.2 i2 (q.1, x) h1
  · obtain ⟨x, i2, h1, h2⟩ := e σ i q hq
    exact ⟨x, i2, h1⟩
end
