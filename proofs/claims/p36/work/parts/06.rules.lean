/-! ===== one rule an instruction ===== -/
section
variable {E : jEnv} {M : jM} {d : Nat} {Rr : Int → jMem → Prop} {Γ : List Nat} {pc : Nat} {ls : List Int} {st : List Value} {σ : jMem}
theorem j1 {x : Int} (h : jR 1 x) : (Int32.ofInt x).toInt = x := by rw [j32_eq]; exact j32_id h.1 h.2
theorem j2 {x : Int} (h : jR 2 x) : (Int64.ofInt x).toInt = x := by rw [j64_eq]; exact j64_id h.1 h.2
theorem jlt {x y : Int} (hx : jR 1 x) (hy : jR 1 y) : (Int32.ofInt x < Int32.ofInt y) ↔ x < y := by rw [Int32.lt_iff_toInt_lt, j1 hx, j1 hy]
theorem jleq {x y : Int} (hx : jR 1 x) (hy : jR 1 y) : (Int32.ofInt x ≤ Int32.ofInt y) ↔ x ≤ y := by rw [Int32.le_iff_toInt_le, j1 hx, j1 hy]
theorem jeq {x y : Int} (hx : jR 1 x) (hy : jR 1 y) : (Int32.ofInt x = Int32.ofInt y) ↔ x = y := by rw [← Int32.toInt_inj, j1 hx, j1 hy]
theorem jR0 : jR 1 0 := ⟨by decide, by decide⟩
theorem jin {x : Int} {n : Nat} (hx : jR 1 x) (h0 : 0 ≤ x) (h1 : x < n) : vp_in (Int32.ofInt x) n := vp_in_iff.mpr (by rw [j1 hx]; exact ⟨h0, h1⟩)
theorem jnat {x : Int} (hx : jR 1 x) : (Int32.ofInt x).toNatClampNeg = x.toNat := by
  show (Int32.ofInt x).toInt.toNat = _
  rw [j1 hx]
theorem jg_iconst {n : Int} (hd : decode M.2.1 pc = .ok (.iconst n, 1)) (k : jGo E M d Rr Γ (pc + 1) ls (jV E 1 n :: st) σ) : jGo E M d Rr Γ pc ls (st) σ := by
  intro A0 H0 p l e R s m args below meth c cells slots Q C H locs sl hP hR hS hL
  have K := k A0 H0 p l e R s m args below meth c cells slots Q C
  obtain ⟨⟨hx, hb, hml, hown, hts⟩, hK, ⟨hr1, hr2, hr3, hr4⟩, hD, hsc, hret⟩ := C
  exact lv_iconst hx hb hd rfl (K H locs sl hP hR hS hL)
theorem jg_bipush {n : Int} (hn : (Int8.ofInt n).toInt32 = Int32.ofInt n) (hd : decode M.2.1 pc = .ok (.bipush n, 2)) (k : jGo E M d Rr Γ (pc + 2) ls (jV E 1 n :: st) σ) : jGo E M d Rr Γ pc ls (st) σ := by
  intro A0 H0 p l e R s m args below meth c cells slots Q C H locs sl hP hR hS hL
  have K := k A0 H0 p l e R s m args below meth c cells slots Q C
  obtain ⟨⟨hx, hb, hml, hown, hts⟩, hK, ⟨hr1, hr2, hr3, hr4⟩, hD, hsc, hret⟩ := C
  exact lv_bipush hx hb hd hn (K H locs sl hP hR hS hL)
theorem jg_sipush {n : Int} (hn : (Int16.ofInt n).toInt32 = Int32.ofInt n) (hd : decode M.2.1 pc = .ok (.sipush n, 3)) (k : jGo E M d Rr Γ (pc + 3) ls (jV E 1 n :: st) σ) : jGo E M d Rr Γ pc ls (st) σ := by
  intro A0 H0 p l e R s m args below meth c cells slots Q C H locs sl hP hR hS hL
  have K := k A0 H0 p l e R s m args below meth c cells slots Q C
  obtain ⟨⟨hx, hb, hml, hown, hts⟩, hK, ⟨hr1, hr2, hr3, hr4⟩, hD, hsc, hret⟩ := C
  exact lv_sipush hx hb hd hn (K H locs sl hP hR hS hL)
theorem jg_ldc {n : Int} {index : Nat} (hw : Jvm.Cond.constant M.1.cls index (Int32.ofInt n) ∈ jgw) (hd : decode M.2.1 pc = .ok (.ldc index, 2)) (k : jGo E M d Rr Γ (pc + 2) ls (jV E 1 n :: st) σ) : jGo E M d Rr Γ pc ls (st) σ := by
  intro A0 H0 p l e R s m args below meth c cells slots Q C H locs sl hP hR hS hL
  have K := k A0 H0 p l e R s m args below meth c cells slots Q C
  obtain ⟨⟨hx, hb, hml, hown, hts⟩, hK, ⟨hr1, hr2, hr3, hr4⟩, hD, hsc, hret⟩ := C
  exact lv_ldc hx hb hown (hts _ hw) hd (K H locs sl hP hR hS hL)
theorem jg_ldcw {n : Int} {index : Nat} (hw : Jvm.Cond.constant M.1.cls index (Int32.ofInt n) ∈ jgw) (hd : decode M.2.1 pc = .ok (.ldc_w index, 3)) (k : jGo E M d Rr Γ (pc + 3) ls (jV E 1 n :: st) σ) : jGo E M d Rr Γ pc ls (st) σ := by
  intro A0 H0 p l e R s m args below meth c cells slots Q C H locs sl hP hR hS hL
  have K := k A0 H0 p l e R s m args below meth c cells slots Q C
  obtain ⟨⟨hx, hb, hml, hown, hts⟩, hK, ⟨hr1, hr2, hr3, hr4⟩, hD, hsc, hret⟩ := C
  exact lv_ldcw hx hb hown (hts _ hw) hd (K H locs sl hP hR hS hL)
theorem jg_ldc2 {n : Int} {index : Nat} (hw : Jvm.Cond.constantLong M.1.cls index (Int64.ofInt n) ∈ jgw) (hd : decode M.2.1 pc = .ok (.ldc2_w index, 3)) (k : jGo E M d Rr Γ (pc + 3) ls (jV E 2 n :: st) σ) : jGo E M d Rr Γ pc ls (st) σ := by
  intro A0 H0 p l e R s m args below meth c cells slots Q C H locs sl hP hR hS hL
  have K := k A0 H0 p l e R s m args below meth c cells slots Q C
  obtain ⟨⟨hx, hb, hml, hown, hts⟩, hK, ⟨hr1, hr2, hr3, hr4⟩, hD, hsc, hret⟩ := C
  exact lv_ldc2 hx hb hown (hts _ hw) hd (K H locs sl hP hR hS hL)
theorem jg_lconst {n : Int} {i : Fin 2} (hn : Int64.ofNat (i : Nat) = Int64.ofInt n) (hd : decode M.2.1 pc = .ok (.lconst i, 1)) (k : jGo E M d Rr Γ (pc + 1) ls (jV E 2 n :: st) σ) : jGo E M d Rr Γ pc ls (st) σ := by
  intro A0 H0 p l e R s m args below meth c cells slots Q C H locs sl hP hR hS hL
  have K := k A0 H0 p l e R s m args below meth c cells slots Q C
  obtain ⟨⟨hx, hb, hml, hown, hts⟩, hK, ⟨hr1, hr2, hr3, hr4⟩, hD, hsc, hret⟩ := C
  exact lv_lconst hx hb hd hn (K H locs sl hP hR hS hL)
theorem jg_iload_n {i : Fin 4} {n : Nat} (hi : (i : Nat) = n) (hΓ : Γ[n]? = some 1) (hd : decode M.2.1 pc = .ok (.iload_n i, 1)) (k : jR 1 (ls.getD n 0) → jGo E M d Rr Γ (pc + 1) ls (jV E 1 (ls.getD n 0) :: st) σ) : jGo E M d Rr Γ pc ls (st) σ := by
  intro A0 H0 p l e R s m args below meth c cells slots Q C H locs sl hP hR hS hL
  have K := fun z => k z A0 H0 p l e R s m args below meth c cells slots Q C
  obtain ⟨⟨hx, hb, hml, hown, hts⟩, hK, ⟨hr1, hr2, hr3, hr4⟩, hD, hsc, hret⟩ := C
  have g := jLv_get hL hΓ (by decide)
  exact lv_iload_n hx hb hd hi g.1 (K g.2 H locs sl hP hR hS hL)
theorem jg_iload {n : Nat} (hΓ : Γ[n]? = some 1) (hd : decode M.2.1 pc = .ok (.iload n, 2)) (k : jR 1 (ls.getD n 0) → jGo E M d Rr Γ (pc + 2) ls (jV E 1 (ls.getD n 0) :: st) σ) : jGo E M d Rr Γ pc ls (st) σ := by
  intro A0 H0 p l e R s m args below meth c cells slots Q C H locs sl hP hR hS hL
  have K := fun z => k z A0 H0 p l e R s m args below meth c cells slots Q C
  obtain ⟨⟨hx, hb, hml, hown, hts⟩, hK, ⟨hr1, hr2, hr3, hr4⟩, hD, hsc, hret⟩ := C
  have g := jLv_get hL hΓ (by decide)
  exact lv_iload hx hb hd  g.1 (K g.2 H locs sl hP hR hS hL)
theorem jg_lload_n {i : Fin 4} {n : Nat} (hi : (i : Nat) = n) (hΓ : Γ[n]? = some 2) (hd : decode M.2.1 pc = .ok (.lload_n i, 1)) (k : jR 2 (ls.getD n 0) → jGo E M d Rr Γ (pc + 1) ls (jV E 2 (ls.getD n 0) :: st) σ) : jGo E M d Rr Γ pc ls (st) σ := by
  intro A0 H0 p l e R s m args below meth c cells slots Q C H locs sl hP hR hS hL
  have K := fun z => k z A0 H0 p l e R s m args below meth c cells slots Q C
  obtain ⟨⟨hx, hb, hml, hown, hts⟩, hK, ⟨hr1, hr2, hr3, hr4⟩, hD, hsc, hret⟩ := C
  have g := jLv_get hL hΓ (by decide)
  exact lv_lload_n hx hb hd hi g.1 (K g.2 H locs sl hP hR hS hL)
theorem jg_lload {n : Nat} (hΓ : Γ[n]? = some 2) (hd : decode M.2.1 pc = .ok (.lload n, 2)) (k : jR 2 (ls.getD n 0) → jGo E M d Rr Γ (pc + 2) ls (jV E 2 (ls.getD n 0) :: st) σ) : jGo E M d Rr Γ pc ls (st) σ := by
  intro A0 H0 p l e R s m args below meth c cells slots Q C H locs sl hP hR hS hL
  have K := fun z => k z A0 H0 p l e R s m args below meth c cells slots Q C
  obtain ⟨⟨hx, hb, hml, hown, hts⟩, hK, ⟨hr1, hr2, hr3, hr4⟩, hD, hsc, hret⟩ := C
  have g := jLv_get hL hΓ (by decide)
  exact lv_lload hx hb hd  g.1 (K g.2 H locs sl hP hR hS hL)
theorem jg_aload_n {i : Fin 4} {n : Nat} (hi : (i : Nat) = n) (hΓ : Γ[n]? = some 3) (hd : decode M.2.1 pc = .ok (.aload_n i, 1)) (k : jR 3 (ls.getD n 0) → jGo E M d Rr Γ (pc + 1) ls (jV E 3 (ls.getD n 0) :: st) σ) : jGo E M d Rr Γ pc ls (st) σ := by
  intro A0 H0 p l e R s m args below meth c cells slots Q C H locs sl hP hR hS hL
  have K := fun z => k z A0 H0 p l e R s m args below meth c cells slots Q C
  obtain ⟨⟨hx, hb, hml, hown, hts⟩, hK, ⟨hr1, hr2, hr3, hr4⟩, hD, hsc, hret⟩ := C
  have g := jLv_get hL hΓ (by decide)
  exact lv_aload_n hx hb hd hi g.1 (K g.2 H locs sl hP hR hS hL)
theorem jg_aload {n : Nat} (hΓ : Γ[n]? = some 3) (hd : decode M.2.1 pc = .ok (.aload n, 2)) (k : jR 3 (ls.getD n 0) → jGo E M d Rr Γ (pc + 2) ls (jV E 3 (ls.getD n 0) :: st) σ) : jGo E M d Rr Γ pc ls (st) σ := by
  intro A0 H0 p l e R s m args below meth c cells slots Q C H locs sl hP hR hS hL
  have K := fun z => k z A0 H0 p l e R s m args below meth c cells slots Q C
  obtain ⟨⟨hx, hb, hml, hown, hts⟩, hK, ⟨hr1, hr2, hr3, hr4⟩, hD, hsc, hret⟩ := C
  have g := jLv_get hL hΓ (by decide)
  exact lv_aload hx hb hd  g.1 (K g.2 H locs sl hP hR hS hL)
theorem jg_istore_n {i : Fin 4} {n : Nat} {v : Int} {Γ1 : List Nat} (hi : (i : Nat) = n) (hv : jR 1 v) (hn : n < M.2.2.1) (hst : jst Γ n 1 Γ1 = true) (hd : decode M.2.1 pc = .ok (.istore_n i, 1)) (k : jGo E M d Rr Γ1 (pc + 1) (ls.set n v) (st) σ) : jGo E M d Rr Γ pc ls (jV E 1 v :: st) σ := by
  intro A0 H0 p l e R s m args below meth c cells slots Q C H locs sl hP hR hS hL
  have K := k A0 H0 p l e R s m args below meth c cells slots Q C
  obtain ⟨⟨hx, hb, hml, hown, hts⟩, hK, ⟨hr1, hr2, hr3, hr4⟩, hD, hsc, hret⟩ := C
  exact lv_istore_n hx hb hd hi (jLv_has hL) hn rfl (fun sl1 hs => K H locs sl1 hP hR hS (jLv_store1 hL hn (by decide) hv hst hs))
theorem jg_istore {n : Nat} {v : Int} {Γ1 : List Nat} (hv : jR 1 v) (hn : n < M.2.2.1) (hst : jst Γ n 1 Γ1 = true) (hd : decode M.2.1 pc = .ok (.istore n, 2)) (k : jGo E M d Rr Γ1 (pc + 2) (ls.set n v) (st) σ) : jGo E M d Rr Γ pc ls (jV E 1 v :: st) σ := by
  intro A0 H0 p l e R s m args below meth c cells slots Q C H locs sl hP hR hS hL
  have K := k A0 H0 p l e R s m args below meth c cells slots Q C
  obtain ⟨⟨hx, hb, hml, hown, hts⟩, hK, ⟨hr1, hr2, hr3, hr4⟩, hD, hsc, hret⟩ := C
  exact lv_istore hx hb hd  (jLv_has hL) hn rfl (fun sl1 hs => K H locs sl1 hP hR hS (jLv_store1 hL hn (by decide) hv hst hs))
theorem jg_lstore_n {i : Fin 4} {n : Nat} {v : Int} {Γ1 : List Nat} (hi : (i : Nat) = n) (hv : jR 2 v) (hn : n + 1 < M.2.2.1) (hst : jst Γ n 2 Γ1 = true) (hd : decode M.2.1 pc = .ok (.lstore_n i, 1)) (k : jGo E M d Rr Γ1 (pc + 1) (ls.set n v) (st) σ) : jGo E M d Rr Γ pc ls (jV E 2 v :: st) σ := by
  intro A0 H0 p l e R s m args below meth c cells slots Q C H locs sl hP hR hS hL
  have K := k A0 H0 p l e R s m args below meth c cells slots Q C
  obtain ⟨⟨hx, hb, hml, hown, hts⟩, hK, ⟨hr1, hr2, hr3, hr4⟩, hD, hsc, hret⟩ := C
  exact lv_lstore_n hx hb hd hi (jLv_has hL) hn rfl (fun sl1 hs => K H locs sl1 hP hR hS (jLv_store2 hL (by omega) hv hst hs))
theorem jg_lstore {n : Nat} {v : Int} {Γ1 : List Nat} (hv : jR 2 v) (hn : n + 1 < M.2.2.1) (hst : jst Γ n 2 Γ1 = true) (hd : decode M.2.1 pc = .ok (.lstore n, 2)) (k : jGo E M d Rr Γ1 (pc + 2) (ls.set n v) (st) σ) : jGo E M d Rr Γ pc ls (jV E 2 v :: st) σ := by
  intro A0 H0 p l e R s m args below meth c cells slots Q C H locs sl hP hR hS hL
  have K := k A0 H0 p l e R s m args below meth c cells slots Q C
  obtain ⟨⟨hx, hb, hml, hown, hts⟩, hK, ⟨hr1, hr2, hr3, hr4⟩, hD, hsc, hret⟩ := C
  exact lv_lstore hx hb hd  (jLv_has hL) hn rfl (fun sl1 hs => K H locs sl1 hP hR hS (jLv_store2 hL (by omega) hv hst hs))
theorem jg_astore_n {i : Fin 4} {n : Nat} {v : Int} {Γ1 : List Nat} (hi : (i : Nat) = n) (hv : jR 3 v) (hn : n < M.2.2.1) (hst : jst Γ n 3 Γ1 = true) (hd : decode M.2.1 pc = .ok (.astore_n i, 1)) (k : jGo E M d Rr Γ1 (pc + 1) (ls.set n v) (st) σ) : jGo E M d Rr Γ pc ls (jV E 3 v :: st) σ := by
  intro A0 H0 p l e R s m args below meth c cells slots Q C H locs sl hP hR hS hL
  have K := k A0 H0 p l e R s m args below meth c cells slots Q C
  obtain ⟨⟨hx, hb, hml, hown, hts⟩, hK, ⟨hr1, hr2, hr3, hr4⟩, hD, hsc, hret⟩ := C
  exact lv_astore_n hx hb hd hi (jLv_has hL) hn rfl (fun sl1 hs => K H locs sl1 hP hR hS (jLv_store1 hL hn (by decide) hv hst hs))
theorem jg_astore {n : Nat} {v : Int} {Γ1 : List Nat} (hv : jR 3 v) (hn : n < M.2.2.1) (hst : jst Γ n 3 Γ1 = true) (hd : decode M.2.1 pc = .ok (.astore n, 2)) (k : jGo E M d Rr Γ1 (pc + 2) (ls.set n v) (st) σ) : jGo E M d Rr Γ pc ls (jV E 3 v :: st) σ := by
  intro A0 H0 p l e R s m args below meth c cells slots Q C H locs sl hP hR hS hL
  have K := k A0 H0 p l e R s m args below meth c cells slots Q C
  obtain ⟨⟨hx, hb, hml, hown, hts⟩, hK, ⟨hr1, hr2, hr3, hr4⟩, hD, hsc, hret⟩ := C
  exact lv_astore hx hb hd  (jLv_has hL) hn rfl (fun sl1 hs => K H locs sl1 hP hR hS (jLv_store1 hL hn (by decide) hv hst hs))
theorem jg_iinc {n : Nat} {b : Int} {Γ1 : List Nat} (hΓ : Γ[n]? = some 1) (hst : jst Γ n 1 Γ1 = true) (hd : decode M.2.1 pc = .ok (.iinc n b, 3)) (k : jGo E M d Rr Γ1 (pc + 3) (ls.set n (j32 (ls.getD n 0 + b))) (st) σ) : jGo E M d Rr Γ pc ls (st) σ := by
  intro A0 H0 p l e R s m args below meth c cells slots Q C H locs sl hP hR hS hL
  have K := k A0 H0 p l e R s m args below meth c cells slots Q C
  obtain ⟨⟨hx, hb, hml, hown, hts⟩, hK, ⟨hr1, hr2, hr3, hr4⟩, hD, hsc, hret⟩ := C
  have g := jLv_get hL hΓ (by decide)
  have hn : n < M.2.2.1 := by rw [← hL.2.1]; exact (List.getElem?_eq_some_iff.mp hΓ).1
  have hg : n < Γ.length := (List.getElem?_eq_some_iff.mp hΓ).1
  have hh : lv_has sl M.2.2.1 ((n, Value.int (Int32.ofInt (ls.getD n 0))) :: jList E Γ ls) := ⟨(jLv_has hL).1, (jLv_has hL).2.1, fun q hq => by
    rcases List.mem_cons.mp hq with rfl | hq
    · exact g.1
    · exact (jLv_has hL).2.2 q hq⟩
  refine lv_iinc hx hb hd hh (k := 0) rfl rfl hn rfl (fun sl1 hs => K H locs sl1 hP hR hS ?_)
  refine jLv_store1 (κ := 1) hL hn (by decide) ⟨j32_ge _, j32_lt _⟩ hst ?_
  refine ⟨hs.1, hs.2.1, fun q hq => ?_⟩
  rcases List.mem_cons.mp hq with rfl | hq
  · have h1 := hs.2.2 _ List.mem_cons_self
    rw [show jV E 1 (j32 (ls.getD n 0 + b)) = Value.int (Int32.ofInt (ls.getD n 0) + Int32.ofInt b) by
      show Value.int _ = _
      rw [j32_o, Int32.ofInt_add]]
    exact h1
  · refine hs.2.2 q (List.mem_cons_of_mem _ ?_)
    obtain ⟨q1, q2⟩ := List.mem_filter.mp hq
    exact List.mem_filter.mpr ⟨List.mem_cons_of_mem _ q1, q2⟩
theorem jg_iadd {x y : Int}  (hd : decode M.2.1 pc = .ok (.iadd, 1)) (k : jGo E M d Rr Γ (pc + 1) ls (jV E 1 (j32 (x + y)) :: st) σ) : jGo E M d Rr Γ pc ls (jV E 1 y :: jV E 1 x :: st) σ := by
  intro A0 H0 p l e R s m args below meth c cells slots Q C H locs sl hP hR hS hL
  have K := k A0 H0 p l e R s m args below meth c cells slots Q C
  obtain ⟨⟨hx, hb, hml, hown, hts⟩, hK, ⟨hr1, hr2, hr3, hr4⟩, hD, hsc, hret⟩ := C
  refine lv_iadd hx hb hd ?_
  have K1 := K H locs sl hP hR hS hL
  rw [show jV E 1 (j32 (x + y)) = Value.int (Int32.ofInt x + Int32.ofInt y) by show Value.int _ = _; rw [j32_o, Int32.ofInt_add]] at K1
  exact K1
theorem jg_isub {x y : Int}  (hd : decode M.2.1 pc = .ok (.isub, 1)) (k : jGo E M d Rr Γ (pc + 1) ls (jV E 1 (j32 (x - y)) :: st) σ) : jGo E M d Rr Γ pc ls (jV E 1 y :: jV E 1 x :: st) σ := by
  intro A0 H0 p l e R s m args below meth c cells slots Q C H locs sl hP hR hS hL
  have K := k A0 H0 p l e R s m args below meth c cells slots Q C
  obtain ⟨⟨hx, hb, hml, hown, hts⟩, hK, ⟨hr1, hr2, hr3, hr4⟩, hD, hsc, hret⟩ := C
  refine lv_isub hx hb hd ?_
  have K1 := K H locs sl hP hR hS hL
  rw [show jV E 1 (j32 (x - y)) = Value.int (Int32.ofInt x - Int32.ofInt y) by show Value.int _ = _; rw [j32_o, Int32.ofInt_sub]] at K1
  exact K1
theorem jg_imul {x y : Int}  (hd : decode M.2.1 pc = .ok (.imul, 1)) (k : jGo E M d Rr Γ (pc + 1) ls (jV E 1 (j32 (x * y)) :: st) σ) : jGo E M d Rr Γ pc ls (jV E 1 y :: jV E 1 x :: st) σ := by
  intro A0 H0 p l e R s m args below meth c cells slots Q C H locs sl hP hR hS hL
  have K := k A0 H0 p l e R s m args below meth c cells slots Q C
  obtain ⟨⟨hx, hb, hml, hown, hts⟩, hK, ⟨hr1, hr2, hr3, hr4⟩, hD, hsc, hret⟩ := C
  refine lv_imul hx hb hd ?_
  have K1 := K H locs sl hP hR hS hL
  rw [show jV E 1 (j32 (x * y)) = Value.int (Int32.ofInt x * Int32.ofInt y) by show Value.int _ = _; rw [j32_o, Int32.ofInt_mul]] at K1
  exact K1
theorem jg_ladd {x y : Int}  (hd : decode M.2.1 pc = .ok (.ladd, 1)) (k : jGo E M d Rr Γ (pc + 1) ls (jV E 2 (j64 (x + y)) :: st) σ) : jGo E M d Rr Γ pc ls (jV E 2 y :: jV E 2 x :: st) σ := by
  intro A0 H0 p l e R s m args below meth c cells slots Q C H locs sl hP hR hS hL
  have K := k A0 H0 p l e R s m args below meth c cells slots Q C
  obtain ⟨⟨hx, hb, hml, hown, hts⟩, hK, ⟨hr1, hr2, hr3, hr4⟩, hD, hsc, hret⟩ := C
  refine lv_ladd hx hb hd ?_
  have K1 := K H locs sl hP hR hS hL
  rw [show jV E 2 (j64 (x + y)) = Value.long (Int64.ofInt x + Int64.ofInt y) by show Value.long _ = _; rw [j64_o, Int64.ofInt_add]] at K1
  exact K1
theorem jg_lsub {x y : Int}  (hd : decode M.2.1 pc = .ok (.lsub, 1)) (k : jGo E M d Rr Γ (pc + 1) ls (jV E 2 (j64 (x - y)) :: st) σ) : jGo E M d Rr Γ pc ls (jV E 2 y :: jV E 2 x :: st) σ := by
  intro A0 H0 p l e R s m args below meth c cells slots Q C H locs sl hP hR hS hL
  have K := k A0 H0 p l e R s m args below meth c cells slots Q C
  obtain ⟨⟨hx, hb, hml, hown, hts⟩, hK, ⟨hr1, hr2, hr3, hr4⟩, hD, hsc, hret⟩ := C
  refine lv_lsub hx hb hd ?_
  have K1 := K H locs sl hP hR hS hL
  rw [show jV E 2 (j64 (x - y)) = Value.long (Int64.ofInt x - Int64.ofInt y) by show Value.long _ = _; rw [j64_o, Int64.ofInt_sub]] at K1
  exact K1
theorem jg_lmul {x y : Int}  (hd : decode M.2.1 pc = .ok (.lmul, 1)) (k : jGo E M d Rr Γ (pc + 1) ls (jV E 2 (j64 (x * y)) :: st) σ) : jGo E M d Rr Γ pc ls (jV E 2 y :: jV E 2 x :: st) σ := by
  intro A0 H0 p l e R s m args below meth c cells slots Q C H locs sl hP hR hS hL
  have K := k A0 H0 p l e R s m args below meth c cells slots Q C
  obtain ⟨⟨hx, hb, hml, hown, hts⟩, hK, ⟨hr1, hr2, hr3, hr4⟩, hD, hsc, hret⟩ := C
  refine lv_lmul hx hb hd ?_
  have K1 := K H locs sl hP hR hS hL
  rw [show jV E 2 (j64 (x * y)) = Value.long (Int64.ofInt x * Int64.ofInt y) by show Value.long _ = _; rw [j64_o, Int64.ofInt_mul]] at K1
  exact K1
def jand (x y : Int) : Int := (Int32.ofInt x &&& Int32.ofInt y).toInt
def jor (x y : Int) : Int := (Int32.ofInt x ||| Int32.ofInt y).toInt
def jdiv (x y : Int) : Int := (Int32.ofInt x / Int32.ofInt y).toInt
def jrem (x y : Int) : Int := (Int32.ofInt x - Int32.ofInt x / Int32.ofInt y * Int32.ofInt y).toInt
def jshl (x y : Int) : Int := (Int32.ofInt x <<< (Int32.ofInt y &&& 31)).toInt
def jshr (x y : Int) : Int := (Int32.ofInt x >>> (Int32.ofInt y &&& 31)).toInt
def jandl (x y : Int) : Int := (Int64.ofInt x &&& Int64.ofInt y).toInt
def jorl (x y : Int) : Int := (Int64.ofInt x ||| Int64.ofInt y).toInt
def jdivl (x y : Int) : Int := (Int64.ofInt x / Int64.ofInt y).toInt
def jreml (x y : Int) : Int := (Int64.ofInt x - Int64.ofInt x / Int64.ofInt y * Int64.ofInt y).toInt
def jshll (x y : Int) : Int := (Int64.ofInt x <<< ((Int32.ofInt y).toInt64 &&& 63)).toInt
def jshrl (x y : Int) : Int := (Int64.ofInt x >>> ((Int32.ofInt y).toInt64 &&& 63)).toInt
def jushrl (x y : Int) : Int := (((Int64.ofInt x).toUInt64 >>> ((Int32.ofInt y).toInt64.toUInt64 &&& Int64.toUInt64 63)).toInt64).toInt
def ji2b (x : Int) : Int := (Int32.ofInt x).toInt8.toInt32.toInt
def ji2s (x : Int) : Int := (Int32.ofInt x).toInt16.toInt32.toInt
def ji2c (x : Int) : Int := ((Int32.ofInt x).toUInt32 % 65536).toInt32.toInt
theorem jb32 (z : Int32) : jV E 1 z.toInt = .int z := by show Value.int (Int32.ofInt z.toInt) = _; rw [Int32.ofInt_toInt]
theorem jb64 (z : Int64) : jV E 2 z.toInt = .long z := by show Value.long (Int64.ofInt z.toInt) = _; rw [Int64.ofInt_toInt]
theorem jR32 (z : Int32) : jR 1 z.toInt := ⟨z.le_toInt, z.toInt_lt⟩
theorem jR64 (z : Int64) : jR 2 z.toInt := ⟨z.le_toInt, z.toInt_lt⟩
theorem jg_iand {x y : Int}  (hd : decode M.2.1 pc = .ok (.iand, 1)) (k : jGo E M d Rr Γ (pc + 1) ls (jV E 1 (jand x y) :: st) σ) : jGo E M d Rr Γ pc ls (jV E 1 y :: jV E 1 x :: st) σ := by
  intro A0 H0 p l e R s m args below meth c cells slots Q C H locs sl hP hR hS hL
  have K := k A0 H0 p l e R s m args below meth c cells slots Q C
  obtain ⟨⟨hx, hb, hml, hown, hts⟩, hK, ⟨hr1, hr2, hr3, hr4⟩, hD, hsc, hret⟩ := C
  refine lv_iand hx hb hd ?_
  have K1 := K H locs sl hP hR hS hL
  rw [jand, jb32] at K1
  exact K1
theorem jg_ior {x y : Int}  (hd : decode M.2.1 pc = .ok (.ior, 1)) (k : jGo E M d Rr Γ (pc + 1) ls (jV E 1 (jor x y) :: st) σ) : jGo E M d Rr Γ pc ls (jV E 1 y :: jV E 1 x :: st) σ := by
  intro A0 H0 p l e R s m args below meth c cells slots Q C H locs sl hP hR hS hL
  have K := k A0 H0 p l e R s m args below meth c cells slots Q C
  obtain ⟨⟨hx, hb, hml, hown, hts⟩, hK, ⟨hr1, hr2, hr3, hr4⟩, hD, hsc, hret⟩ := C
  refine lv_ior hx hb hd ?_
  have K1 := K H locs sl hP hR hS hL
  rw [jor, jb32] at K1
  exact K1
theorem jg_ishl {x y : Int}  (hd : decode M.2.1 pc = .ok (.ishl, 1)) (k : jGo E M d Rr Γ (pc + 1) ls (jV E 1 (jshl x y) :: st) σ) : jGo E M d Rr Γ pc ls (jV E 1 y :: jV E 1 x :: st) σ := by
  intro A0 H0 p l e R s m args below meth c cells slots Q C H locs sl hP hR hS hL
  have K := k A0 H0 p l e R s m args below meth c cells slots Q C
  obtain ⟨⟨hx, hb, hml, hown, hts⟩, hK, ⟨hr1, hr2, hr3, hr4⟩, hD, hsc, hret⟩ := C
  refine lv_ishl hx hb hd ?_
  have K1 := K H locs sl hP hR hS hL
  rw [jshl, jb32] at K1
  exact K1
theorem jg_ishr {x y : Int}  (hd : decode M.2.1 pc = .ok (.ishr, 1)) (k : jGo E M d Rr Γ (pc + 1) ls (jV E 1 (jshr x y) :: st) σ) : jGo E M d Rr Γ pc ls (jV E 1 y :: jV E 1 x :: st) σ := by
  intro A0 H0 p l e R s m args below meth c cells slots Q C H locs sl hP hR hS hL
  have K := k A0 H0 p l e R s m args below meth c cells slots Q C
  obtain ⟨⟨hx, hb, hml, hown, hts⟩, hK, ⟨hr1, hr2, hr3, hr4⟩, hD, hsc, hret⟩ := C
  refine lv_ishr hx hb hd ?_
  have K1 := K H locs sl hP hR hS hL
  rw [jshr, jb32] at K1
  exact K1
theorem jg_land {x y : Int}  (hd : decode M.2.1 pc = .ok (.land, 1)) (k : jGo E M d Rr Γ (pc + 1) ls (jV E 2 (jandl x y) :: st) σ) : jGo E M d Rr Γ pc ls (jV E 2 y :: jV E 2 x :: st) σ := by
  intro A0 H0 p l e R s m args below meth c cells slots Q C H locs sl hP hR hS hL
  have K := k A0 H0 p l e R s m args below meth c cells slots Q C
  obtain ⟨⟨hx, hb, hml, hown, hts⟩, hK, ⟨hr1, hr2, hr3, hr4⟩, hD, hsc, hret⟩ := C
  refine lv_land hx hb hd ?_
  have K1 := K H locs sl hP hR hS hL
  rw [jandl, jb64] at K1
  exact K1
theorem jg_lor {x y : Int}  (hd : decode M.2.1 pc = .ok (.lor, 1)) (k : jGo E M d Rr Γ (pc + 1) ls (jV E 2 (jorl x y) :: st) σ) : jGo E M d Rr Γ pc ls (jV E 2 y :: jV E 2 x :: st) σ := by
  intro A0 H0 p l e R s m args below meth c cells slots Q C H locs sl hP hR hS hL
  have K := k A0 H0 p l e R s m args below meth c cells slots Q C
  obtain ⟨⟨hx, hb, hml, hown, hts⟩, hK, ⟨hr1, hr2, hr3, hr4⟩, hD, hsc, hret⟩ := C
  refine lv_lor hx hb hd ?_
  have K1 := K H locs sl hP hR hS hL
  rw [jorl, jb64] at K1
  exact K1
theorem jg_idiv {x y : Int} (hy : jR 1 y) (hne : ¬ y = 0) (hd : decode M.2.1 pc = .ok (.idiv, 1)) (k : jGo E M d Rr Γ (pc + 1) ls (jV E 1 (jdiv x y) :: st) σ) : jGo E M d Rr Γ pc ls (jV E 1 y :: jV E 1 x :: st) σ := by
  intro A0 H0 p l e R s m args below meth c cells slots Q C H locs sl hP hR hS hL
  have K := k A0 H0 p l e R s m args below meth c cells slots Q C
  obtain ⟨⟨hx, hb, hml, hown, hts⟩, hK, ⟨hr1, hr2, hr3, hr4⟩, hD, hsc, hret⟩ := C
  refine lv_idiv hx hb hd (fun z => hne ((jeq hy jR0).mp z)) ?_
  have K1 := K H locs sl hP hR hS hL
  rw [jdiv, jb32] at K1
  exact K1
theorem jg_irem {x y : Int} (hy : jR 1 y) (hne : ¬ y = 0) (hd : decode M.2.1 pc = .ok (.irem, 1)) (k : jGo E M d Rr Γ (pc + 1) ls (jV E 1 (jrem x y) :: st) σ) : jGo E M d Rr Γ pc ls (jV E 1 y :: jV E 1 x :: st) σ := by
  intro A0 H0 p l e R s m args below meth c cells slots Q C H locs sl hP hR hS hL
  have K := k A0 H0 p l e R s m args below meth c cells slots Q C
  obtain ⟨⟨hx, hb, hml, hown, hts⟩, hK, ⟨hr1, hr2, hr3, hr4⟩, hD, hsc, hret⟩ := C
  refine lv_irem hx hb hd (fun z => hne ((jeq hy jR0).mp z)) ?_
  have K1 := K H locs sl hP hR hS hL
  rw [jrem, jb32] at K1
  exact K1
theorem jg_ldiv {x y : Int} (hy : jR 2 y) (hne : ¬ y = 0) (hd : decode M.2.1 pc = .ok (.ldiv, 1)) (k : jGo E M d Rr Γ (pc + 1) ls (jV E 2 (jdivl x y) :: st) σ) : jGo E M d Rr Γ pc ls (jV E 2 y :: jV E 2 x :: st) σ := by
  intro A0 H0 p l e R s m args below meth c cells slots Q C H locs sl hP hR hS hL
  have K := k A0 H0 p l e R s m args below meth c cells slots Q C
  obtain ⟨⟨hx, hb, hml, hown, hts⟩, hK, ⟨hr1, hr2, hr3, hr4⟩, hD, hsc, hret⟩ := C
  refine lv_ldiv hx hb hd (fun z => hne ?_) ?_
  · have z2 := congrArg Int64.toInt z
    rw [j2 hy] at z2
    exact z2
  · have K1 := K H locs sl hP hR hS hL
    rw [jdivl, jb64] at K1
    exact K1
theorem jg_lrem {x y : Int} (hy : jR 2 y) (hne : ¬ y = 0) (hd : decode M.2.1 pc = .ok (.lrem, 1)) (k : jGo E M d Rr Γ (pc + 1) ls (jV E 2 (jreml x y) :: st) σ) : jGo E M d Rr Γ pc ls (jV E 2 y :: jV E 2 x :: st) σ := by
  intro A0 H0 p l e R s m args below meth c cells slots Q C H locs sl hP hR hS hL
  have K := k A0 H0 p l e R s m args below meth c cells slots Q C
  obtain ⟨⟨hx, hb, hml, hown, hts⟩, hK, ⟨hr1, hr2, hr3, hr4⟩, hD, hsc, hret⟩ := C
  refine lv_lrem hx hb hd (fun z => hne ?_) ?_
  · have z2 := congrArg Int64.toInt z
    rw [j2 hy] at z2
    exact z2
  · have K1 := K H locs sl hP hR hS hL
    rw [jreml, jb64] at K1
    exact K1
theorem jg_lshl {x y : Int}  (hd : decode M.2.1 pc = .ok (.lshl, 1)) (k : jGo E M d Rr Γ (pc + 1) ls (jV E 2 (jshll x y) :: st) σ) : jGo E M d Rr Γ pc ls (jV E 1 y :: jV E 2 x :: st) σ := by
  intro A0 H0 p l e R s m args below meth c cells slots Q C H locs sl hP hR hS hL
  have K := k A0 H0 p l e R s m args below meth c cells slots Q C
  obtain ⟨⟨hx, hb, hml, hown, hts⟩, hK, ⟨hr1, hr2, hr3, hr4⟩, hD, hsc, hret⟩ := C
  refine lv_lshl hx hb hd rfl ?_
  have K1 := K H locs sl hP hR hS hL
  rw [jshll, jb64] at K1
  exact K1
theorem jg_lshr {x y : Int}  (hd : decode M.2.1 pc = .ok (.lshr, 1)) (k : jGo E M d Rr Γ (pc + 1) ls (jV E 2 (jshrl x y) :: st) σ) : jGo E M d Rr Γ pc ls (jV E 1 y :: jV E 2 x :: st) σ := by
  intro A0 H0 p l e R s m args below meth c cells slots Q C H locs sl hP hR hS hL
  have K := k A0 H0 p l e R s m args below meth c cells slots Q C
  obtain ⟨⟨hx, hb, hml, hown, hts⟩, hK, ⟨hr1, hr2, hr3, hr4⟩, hD, hsc, hret⟩ := C
  refine lv_lshr hx hb hd rfl ?_
  have K1 := K H locs sl hP hR hS hL
  rw [jshrl, jb64] at K1
  exact K1
theorem jg_lushr {x y : Int}  (hd : decode M.2.1 pc = .ok (.lushr, 1)) (k : jGo E M d Rr Γ (pc + 1) ls (jV E 2 (jushrl x y) :: st) σ) : jGo E M d Rr Γ pc ls (jV E 1 y :: jV E 2 x :: st) σ := by
  intro A0 H0 p l e R s m args below meth c cells slots Q C H locs sl hP hR hS hL
  have K := k A0 H0 p l e R s m args below meth c cells slots Q C
  obtain ⟨⟨hx, hb, hml, hown, hts⟩, hK, ⟨hr1, hr2, hr3, hr4⟩, hD, hsc, hret⟩ := C
  refine lv_lushr hx hb hd rfl ?_
  have K1 := K H locs sl hP hR hS hL
  rw [jushrl, jb64] at K1
  exact K1
theorem jg_i2l {x : Int} (hx0 : jR 1 x) (hd : decode M.2.1 pc = .ok (.i2l, 1)) (k : jGo E M d Rr Γ (pc + 1) ls (jV E 2 x :: st) σ) : jGo E M d Rr Γ pc ls (jV E 1 x :: st) σ := by
  intro A0 H0 p l e R s m args below meth c cells slots Q C H locs sl hP hR hS hL
  have K := k A0 H0 p l e R s m args below meth c cells slots Q C
  obtain ⟨⟨hx, hb, hml, hown, hts⟩, hK, ⟨hr1, hr2, hr3, hr4⟩, hD, hsc, hret⟩ := C
  refine lv_i2l hx hb hd (v := Int64.ofInt x) ?_ (K H locs sl hP hR hS hL)
  apply Int64.toInt_inj.mp
  rw [Int32.toInt_toInt64, j1 hx0, j64_eq, j64_id (by have := hx0.1; omega) (by have := hx0.2; omega)]
theorem jg_l2i {x : Int} (hd : decode M.2.1 pc = .ok (.l2i, 1)) (k : jGo E M d Rr Γ (pc + 1) ls (jV E 1 (j32 x) :: st) σ) : jGo E M d Rr Γ pc ls (jV E 2 x :: st) σ := by
  intro A0 H0 p l e R s m args below meth c cells slots Q C H locs sl hP hR hS hL
  have K := k A0 H0 p l e R s m args below meth c cells slots Q C
  obtain ⟨⟨hx, hb, hml, hown, hts⟩, hK, ⟨hr1, hr2, hr3, hr4⟩, hD, hsc, hret⟩ := C
  refine lv_l2i hx hb hd (v := Int32.ofInt (j32 x)) ?_ (K H locs sl hP hR hS hL)
  rw [j32_o]
  apply Int32.toInt_inj.mp
  rw [Int64.toInt_toInt32, j64_eq, j32_eq]
  unfold j32 j64
  rw [Int.bmod_def]
  split <;> omega
theorem jg_i2b {x : Int} (hd : decode M.2.1 pc = .ok (.i2b, 1)) (k : jGo E M d Rr Γ (pc + 1) ls (jV E 1 (ji2b x) :: st) σ) : jGo E M d Rr Γ pc ls (jV E 1 x :: st) σ := by
  intro A0 H0 p l e R s m args below meth c cells slots Q C H locs sl hP hR hS hL
  have K := k A0 H0 p l e R s m args below meth c cells slots Q C
  obtain ⟨⟨hx, hb, hml, hown, hts⟩, hK, ⟨hr1, hr2, hr3, hr4⟩, hD, hsc, hret⟩ := C
  refine lv_i2b hx hb hd rfl ?_
  have K1 := K H locs sl hP hR hS hL
  rw [ji2b, jb32] at K1
  exact K1
theorem jg_i2s {x : Int} (hd : decode M.2.1 pc = .ok (.i2s, 1)) (k : jGo E M d Rr Γ (pc + 1) ls (jV E 1 (ji2s x) :: st) σ) : jGo E M d Rr Γ pc ls (jV E 1 x :: st) σ := by
  intro A0 H0 p l e R s m args below meth c cells slots Q C H locs sl hP hR hS hL
  have K := k A0 H0 p l e R s m args below meth c cells slots Q C
  obtain ⟨⟨hx, hb, hml, hown, hts⟩, hK, ⟨hr1, hr2, hr3, hr4⟩, hD, hsc, hret⟩ := C
  refine lv_i2s hx hb hd rfl ?_
  have K1 := K H locs sl hP hR hS hL
  rw [ji2s, jb32] at K1
  exact K1
theorem jg_i2c {x : Int} (hd : decode M.2.1 pc = .ok (.i2c, 1)) (k : jGo E M d Rr Γ (pc + 1) ls (jV E 1 (ji2c x) :: st) σ) : jGo E M d Rr Γ pc ls (jV E 1 x :: st) σ := by
  intro A0 H0 p l e R s m args below meth c cells slots Q C H locs sl hP hR hS hL
  have K := k A0 H0 p l e R s m args below meth c cells slots Q C
  obtain ⟨⟨hx, hb, hml, hown, hts⟩, hK, ⟨hr1, hr2, hr3, hr4⟩, hD, hsc, hret⟩ := C
  refine lv_i2c hx hb hd rfl ?_
  have K1 := K H locs sl hP hR hS hL
  rw [ji2c, jb32] at K1
  exact K1
theorem jg_icmp_eq {x y : Int} {off : Int} (tgt : Nat) (hxx : jR 1 x) (hy : jR 1 y) (hd : decode M.2.1 pc = .ok (.if_icmp .eq off, 3)) (ht : (pc : Int) + off = (tgt : Int)) (kt : x = y → jGo E M d Rr Γ tgt ls st σ) (kf : ¬ (x = y) → jGo E M d Rr Γ (pc + 3) ls st σ) : jGo E M d Rr Γ pc ls (jV E 1 y :: jV E 1 x :: st) σ := by
  intro A0 H0 p l e R s m args below meth c cells slots Q C H locs sl hP hR hS hL
  have KT := fun z => kt z A0 H0 p l e R s m args below meth c cells slots Q C
  have KF := fun z => kf z A0 H0 p l e R s m args below meth c cells slots Q C
  obtain ⟨⟨hx, hb, hml, hown, hts⟩, hK, ⟨hr1, hr2, hr3, hr4⟩, hD, hsc, hret⟩ := C
  exact lv_icmp_eq hx hb hd ht (fun z => KT ((jeq hxx hy).mp z) H locs sl hP hR hS hL) (fun z => KF (fun w => z ((jeq hxx hy).mpr w)) H locs sl hP hR hS hL)
theorem jg_if_eq {x : Int} {off : Int} (tgt : Nat) (hxx : jR 1 x) (hd : decode M.2.1 pc = .ok (.ifCond .eq off, 3)) (ht : (pc : Int) + off = (tgt : Int)) (kt : x = 0 → jGo E M d Rr Γ tgt ls st σ) (kf : ¬ (x = 0) → jGo E M d Rr Γ (pc + 3) ls st σ) : jGo E M d Rr Γ pc ls (jV E 1 x :: st) σ := by
  intro A0 H0 p l e R s m args below meth c cells slots Q C H locs sl hP hR hS hL
  have KT := fun z => kt z A0 H0 p l e R s m args below meth c cells slots Q C
  have KF := fun z => kf z A0 H0 p l e R s m args below meth c cells slots Q C
  obtain ⟨⟨hx, hb, hml, hown, hts⟩, hK, ⟨hr1, hr2, hr3, hr4⟩, hD, hsc, hret⟩ := C
  exact lv_if_eq hx hb hd ht (fun z => KT ((jeq hxx jR0).mp z) H locs sl hP hR hS hL) (fun z => KF (fun w => z ((jeq hxx jR0).mpr w)) H locs sl hP hR hS hL)
theorem jg_icmp_ne {x y : Int} {off : Int} (tgt : Nat) (hxx : jR 1 x) (hy : jR 1 y) (hd : decode M.2.1 pc = .ok (.if_icmp .ne off, 3)) (ht : (pc : Int) + off = (tgt : Int)) (kt : ¬ (x = y) → jGo E M d Rr Γ tgt ls st σ) (kf : x = y → jGo E M d Rr Γ (pc + 3) ls st σ) : jGo E M d Rr Γ pc ls (jV E 1 y :: jV E 1 x :: st) σ := by
  intro A0 H0 p l e R s m args below meth c cells slots Q C H locs sl hP hR hS hL
  have KT := fun z => kt z A0 H0 p l e R s m args below meth c cells slots Q C
  have KF := fun z => kf z A0 H0 p l e R s m args below meth c cells slots Q C
  obtain ⟨⟨hx, hb, hml, hown, hts⟩, hK, ⟨hr1, hr2, hr3, hr4⟩, hD, hsc, hret⟩ := C
  exact lv_icmp_ne hx hb hd ht (fun z => KT (fun w => z ((jeq hxx hy).mpr w)) H locs sl hP hR hS hL) (fun z => KF ((jeq hxx hy).mp (by first | exact z | exact Classical.not_not.mp z)) H locs sl hP hR hS hL)
theorem jg_if_ne {x : Int} {off : Int} (tgt : Nat) (hxx : jR 1 x) (hd : decode M.2.1 pc = .ok (.ifCond .ne off, 3)) (ht : (pc : Int) + off = (tgt : Int)) (kt : ¬ (x = 0) → jGo E M d Rr Γ tgt ls st σ) (kf : x = 0 → jGo E M d Rr Γ (pc + 3) ls st σ) : jGo E M d Rr Γ pc ls (jV E 1 x :: st) σ := by
  intro A0 H0 p l e R s m args below meth c cells slots Q C H locs sl hP hR hS hL
  have KT := fun z => kt z A0 H0 p l e R s m args below meth c cells slots Q C
  have KF := fun z => kf z A0 H0 p l e R s m args below meth c cells slots Q C
  obtain ⟨⟨hx, hb, hml, hown, hts⟩, hK, ⟨hr1, hr2, hr3, hr4⟩, hD, hsc, hret⟩ := C
  exact lv_if_ne hx hb hd ht (fun z => KT (fun w => z ((jeq hxx jR0).mpr w)) H locs sl hP hR hS hL) (fun z => KF ((jeq hxx jR0).mp (by first | exact z | exact Classical.not_not.mp z)) H locs sl hP hR hS hL)
theorem jg_icmp_lt {x y : Int} {off : Int} (tgt : Nat) (hxx : jR 1 x) (hy : jR 1 y) (hd : decode M.2.1 pc = .ok (.if_icmp .lt off, 3)) (ht : (pc : Int) + off = (tgt : Int)) (kt : x < y → jGo E M d Rr Γ tgt ls st σ) (kf : ¬ (x < y) → jGo E M d Rr Γ (pc + 3) ls st σ) : jGo E M d Rr Γ pc ls (jV E 1 y :: jV E 1 x :: st) σ := by
  intro A0 H0 p l e R s m args below meth c cells slots Q C H locs sl hP hR hS hL
  have KT := fun z => kt z A0 H0 p l e R s m args below meth c cells slots Q C
  have KF := fun z => kf z A0 H0 p l e R s m args below meth c cells slots Q C
  obtain ⟨⟨hx, hb, hml, hown, hts⟩, hK, ⟨hr1, hr2, hr3, hr4⟩, hD, hsc, hret⟩ := C
  exact lv_icmp_lt hx hb hd ht (fun z => KT ((jlt hxx hy).mp z) H locs sl hP hR hS hL) (fun z => KF (fun w => z ((jlt hxx hy).mpr w)) H locs sl hP hR hS hL)
theorem jg_if_lt {x : Int} {off : Int} (tgt : Nat) (hxx : jR 1 x) (hd : decode M.2.1 pc = .ok (.ifCond .lt off, 3)) (ht : (pc : Int) + off = (tgt : Int)) (kt : x < 0 → jGo E M d Rr Γ tgt ls st σ) (kf : ¬ (x < 0) → jGo E M d Rr Γ (pc + 3) ls st σ) : jGo E M d Rr Γ pc ls (jV E 1 x :: st) σ := by
  intro A0 H0 p l e R s m args below meth c cells slots Q C H locs sl hP hR hS hL
  have KT := fun z => kt z A0 H0 p l e R s m args below meth c cells slots Q C
  have KF := fun z => kf z A0 H0 p l e R s m args below meth c cells slots Q C
  obtain ⟨⟨hx, hb, hml, hown, hts⟩, hK, ⟨hr1, hr2, hr3, hr4⟩, hD, hsc, hret⟩ := C
  exact lv_if_lt hx hb hd ht (fun z => KT ((jlt hxx jR0).mp z) H locs sl hP hR hS hL) (fun z => KF (fun w => z ((jlt hxx jR0).mpr w)) H locs sl hP hR hS hL)
theorem jg_icmp_ge {x y : Int} {off : Int} (tgt : Nat) (hxx : jR 1 x) (hy : jR 1 y) (hd : decode M.2.1 pc = .ok (.if_icmp .ge off, 3)) (ht : (pc : Int) + off = (tgt : Int)) (kt : y ≤ x → jGo E M d Rr Γ tgt ls st σ) (kf : ¬ (y ≤ x) → jGo E M d Rr Γ (pc + 3) ls st σ) : jGo E M d Rr Γ pc ls (jV E 1 y :: jV E 1 x :: st) σ := by
  intro A0 H0 p l e R s m args below meth c cells slots Q C H locs sl hP hR hS hL
  have KT := fun z => kt z A0 H0 p l e R s m args below meth c cells slots Q C
  have KF := fun z => kf z A0 H0 p l e R s m args below meth c cells slots Q C
  obtain ⟨⟨hx, hb, hml, hown, hts⟩, hK, ⟨hr1, hr2, hr3, hr4⟩, hD, hsc, hret⟩ := C
  exact lv_icmp_ge hx hb hd ht (fun z => KT ((jleq hy hxx).mp z) H locs sl hP hR hS hL) (fun z => KF (fun w => z ((jleq hy hxx).mpr w)) H locs sl hP hR hS hL)
theorem jg_if_ge {x : Int} {off : Int} (tgt : Nat) (hxx : jR 1 x) (hd : decode M.2.1 pc = .ok (.ifCond .ge off, 3)) (ht : (pc : Int) + off = (tgt : Int)) (kt : 0 ≤ x → jGo E M d Rr Γ tgt ls st σ) (kf : ¬ (0 ≤ x) → jGo E M d Rr Γ (pc + 3) ls st σ) : jGo E M d Rr Γ pc ls (jV E 1 x :: st) σ := by
  intro A0 H0 p l e R s m args below meth c cells slots Q C H locs sl hP hR hS hL
  have KT := fun z => kt z A0 H0 p l e R s m args below meth c cells slots Q C
  have KF := fun z => kf z A0 H0 p l e R s m args below meth c cells slots Q C
  obtain ⟨⟨hx, hb, hml, hown, hts⟩, hK, ⟨hr1, hr2, hr3, hr4⟩, hD, hsc, hret⟩ := C
  exact lv_if_ge hx hb hd ht (fun z => KT ((jleq jR0 hxx).mp z) H locs sl hP hR hS hL) (fun z => KF (fun w => z ((jleq jR0 hxx).mpr w)) H locs sl hP hR hS hL)
theorem jg_icmp_gt {x y : Int} {off : Int} (tgt : Nat) (hxx : jR 1 x) (hy : jR 1 y) (hd : decode M.2.1 pc = .ok (.if_icmp .gt off, 3)) (ht : (pc : Int) + off = (tgt : Int)) (kt : y < x → jGo E M d Rr Γ tgt ls st σ) (kf : ¬ (y < x) → jGo E M d Rr Γ (pc + 3) ls st σ) : jGo E M d Rr Γ pc ls (jV E 1 y :: jV E 1 x :: st) σ := by
  intro A0 H0 p l e R s m args below meth c cells slots Q C H locs sl hP hR hS hL
  have KT := fun z => kt z A0 H0 p l e R s m args below meth c cells slots Q C
  have KF := fun z => kf z A0 H0 p l e R s m args below meth c cells slots Q C
  obtain ⟨⟨hx, hb, hml, hown, hts⟩, hK, ⟨hr1, hr2, hr3, hr4⟩, hD, hsc, hret⟩ := C
  exact lv_icmp_gt hx hb hd ht (fun z => KT ((jlt hy hxx).mp z) H locs sl hP hR hS hL) (fun z => KF (fun w => z ((jlt hy hxx).mpr w)) H locs sl hP hR hS hL)
theorem jg_if_gt {x : Int} {off : Int} (tgt : Nat) (hxx : jR 1 x) (hd : decode M.2.1 pc = .ok (.ifCond .gt off, 3)) (ht : (pc : Int) + off = (tgt : Int)) (kt : 0 < x → jGo E M d Rr Γ tgt ls st σ) (kf : ¬ (0 < x) → jGo E M d Rr Γ (pc + 3) ls st σ) : jGo E M d Rr Γ pc ls (jV E 1 x :: st) σ := by
  intro A0 H0 p l e R s m args below meth c cells slots Q C H locs sl hP hR hS hL
  have KT := fun z => kt z A0 H0 p l e R s m args below meth c cells slots Q C
  have KF := fun z => kf z A0 H0 p l e R s m args below meth c cells slots Q C
  obtain ⟨⟨hx, hb, hml, hown, hts⟩, hK, ⟨hr1, hr2, hr3, hr4⟩, hD, hsc, hret⟩ := C
  exact lv_if_gt hx hb hd ht (fun z => KT ((jlt jR0 hxx).mp z) H locs sl hP hR hS hL) (fun z => KF (fun w => z ((jlt jR0 hxx).mpr w)) H locs sl hP hR hS hL)
theorem jg_icmp_le {x y : Int} {off : Int} (tgt : Nat) (hxx : jR 1 x) (hy : jR 1 y) (hd : decode M.2.1 pc = .ok (.if_icmp .le off, 3)) (ht : (pc : Int) + off = (tgt : Int)) (kt : x ≤ y → jGo E M d Rr Γ tgt ls st σ) (kf : ¬ (x ≤ y) → jGo E M d Rr Γ (pc + 3) ls st σ) : jGo E M d Rr Γ pc ls (jV E 1 y :: jV E 1 x :: st) σ := by
  intro A0 H0 p l e R s m args below meth c cells slots Q C H locs sl hP hR hS hL
  have KT := fun z => kt z A0 H0 p l e R s m args below meth c cells slots Q C
  have KF := fun z => kf z A0 H0 p l e R s m args below meth c cells slots Q C
  obtain ⟨⟨hx, hb, hml, hown, hts⟩, hK, ⟨hr1, hr2, hr3, hr4⟩, hD, hsc, hret⟩ := C
  exact lv_icmp_le hx hb hd ht (fun z => KT ((jleq hxx hy).mp z) H locs sl hP hR hS hL) (fun z => KF (fun w => z ((jleq hxx hy).mpr w)) H locs sl hP hR hS hL)
theorem jg_if_le {x : Int} {off : Int} (tgt : Nat) (hxx : jR 1 x) (hd : decode M.2.1 pc = .ok (.ifCond .le off, 3)) (ht : (pc : Int) + off = (tgt : Int)) (kt : x ≤ 0 → jGo E M d Rr Γ tgt ls st σ) (kf : ¬ (x ≤ 0) → jGo E M d Rr Γ (pc + 3) ls st σ) : jGo E M d Rr Γ pc ls (jV E 1 x :: st) σ := by
  intro A0 H0 p l e R s m args below meth c cells slots Q C H locs sl hP hR hS hL
  have KT := fun z => kt z A0 H0 p l e R s m args below meth c cells slots Q C
  have KF := fun z => kf z A0 H0 p l e R s m args below meth c cells slots Q C
  obtain ⟨⟨hx, hb, hml, hown, hts⟩, hK, ⟨hr1, hr2, hr3, hr4⟩, hD, hsc, hret⟩ := C
  exact lv_if_le hx hb hd ht (fun z => KT ((jleq hxx jR0).mp z) H locs sl hP hR hS hL) (fun z => KF (fun w => z ((jleq hxx jR0).mpr w)) H locs sl hP hR hS hL)
theorem jg_goto {off : Int} (tgt : Nat) (hd : decode M.2.1 pc = .ok (.goto off, 3)) (ht : (pc : Int) + off = (tgt : Int)) (k : jGo E M d Rr Γ tgt ls st σ) : jGo E M d Rr Γ pc ls st σ := by
  intro A0 H0 p l e R s m args below meth c cells slots Q C H locs sl hP hR hS hL
  have K := k A0 H0 p l e R s m args below meth c cells slots Q C
  obtain ⟨⟨hx, hb, hml, hown, hts⟩, hK, ⟨hr1, hr2, hr3, hr4⟩, hD, hsc, hret⟩ := C
  exact lv_goto hx hb hd ht (K H locs sl hP hR hS hL)
def jcmp (x y : Int) : Int := if y < x then 1 else if x = y then 0 else -1
theorem jg_lcmp {x y : Int} (hxx : jR 2 x) (hy : jR 2 y) (hd : decode M.2.1 pc = .ok (.lcmp, 1)) (k : jGo E M d Rr Γ (pc + 1) ls (jV E 1 (jcmp x y) :: st) σ) : jGo E M d Rr Γ pc ls (jV E 2 y :: jV E 2 x :: st) σ := by
  intro A0 H0 p l e R s m args below meth c cells slots Q C H locs sl hP hR hS hL
  have K := k A0 H0 p l e R s m args below meth c cells slots Q C
  obtain ⟨⟨hx, hb, hml, hown, hts⟩, hK, ⟨hr1, hr2, hr3, hr4⟩, hD, hsc, hret⟩ := C
  refine W.lcmp hx hb hd ?_
  have e : lg_cmp (Int64.ofInt x) (Int64.ofInt y) = Int32.ofInt (jcmp x y) := by
    unfold lg_cmp jcmp
    simp only [gt_iff_lt, Int64.lt_iff_toInt_lt, ← Int64.toInt_inj, j2 hxx, j2 hy]
    split
    · rfl
    · split <;> rfl
  rw [e]
  exact K H locs sl hP hR hS hL
theorem jg_dup {κ : Nat} {v : Int} (hκ : κ ≠ 2) (hd : decode M.2.1 pc = .ok (.dup, 1)) (k : jGo E M d Rr Γ (pc + 1) ls (jV E κ v :: jV E κ v :: st) σ) : jGo E M d Rr Γ pc ls (jV E κ v :: st) σ := by
  intro A0 H0 p l e R s m args below meth c cells slots Q C H locs sl hP hR hS hL
  have K := k A0 H0 p l e R s m args below meth c cells slots Q C
  obtain ⟨⟨hx, hb, hml, hown, hts⟩, hK, ⟨hr1, hr2, hr3, hr4⟩, hD, hsc, hret⟩ := C
  exact lv_dup hx hb hd (jV_cat hκ) (K H locs sl hP hR hS hL)
theorem jg_dup2 {κ κ2 : Nat} {v w : Int} (hκ : κ ≠ 2) (hκ2 : κ2 ≠ 2) (hd : decode M.2.1 pc = .ok (.dup2, 1)) (k : jGo E M d Rr Γ (pc + 1) ls (jV E κ v :: jV E κ2 w :: jV E κ v :: jV E κ2 w :: st) σ) : jGo E M d Rr Γ pc ls (jV E κ v :: jV E κ2 w :: st) σ := by
  intro A0 H0 p l e R s m args below meth c cells slots Q C H locs sl hP hR hS hL
  have K := k A0 H0 p l e R s m args below meth c cells slots Q C
  obtain ⟨⟨hx, hb, hml, hown, hts⟩, hK, ⟨hr1, hr2, hr3, hr4⟩, hD, hsc, hret⟩ := C
  exact lv_dup2_11 hx hb hd (jV_cat hκ) (jV_cat hκ2) (K H locs sl hP hR hS hL)
theorem jg_pop {κ : Nat} {v : Int} (hκ : κ ≠ 2) (hd : decode M.2.1 pc = .ok (.pop, 1)) (k : jGo E M d Rr Γ (pc + 1) ls (st) σ) : jGo E M d Rr Γ pc ls (jV E κ v :: st) σ := by
  intro A0 H0 p l e R s m args below meth c cells slots Q C H locs sl hP hR hS hL
  have K := k A0 H0 p l e R s m args below meth c cells slots Q C
  obtain ⟨⟨hx, hb, hml, hown, hts⟩, hK, ⟨hr1, hr2, hr3, hr4⟩, hD, hsc, hret⟩ := C
  exact lv_pop hx hb hd (jV_cat hκ) (K H locs sl hP hR hS hL)
end
