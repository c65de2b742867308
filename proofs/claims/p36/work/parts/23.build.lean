/-! ===== the objects are made: rows of the kit with the array classes fixed ahead ===== -/
section
variable {p : Program} {l : Launch} {e : Env} {R : Room} {s : State} {m : MethodId} {args : Array Value} {below : List Frame} {meth : Method} {c : Code} {H H0 : Heap} {locs : List Loc} {cells slots : Nat} {Q : State → Prop} {cc : ByteArray} {pc : Nat} {ls : Array Slot} {rest : List Value} {D : va_G} {ws : va_W} {A : Nat → Prop} {cI cJ cZ cR cH : ClassId}
abbrev jT5 (cI cJ cZ cR cH : ClassId) : List (ClassId × FieldType) := [(cI, .int), (cJ, .long), (cI, .int), (cR, .object "TileDesk$Rack"), (cH, .object "TileDesk$Hand")]
set_option maxRecDepth 100000 in
theorem wa_int : Cond.arrayClass .int ∈ jgw := jgw_in 62 rfl rfl
set_option maxRecDepth 100000 in
theorem wa_long : Cond.arrayClass .long ∈ jgw := jgw_in 117 rfl rfl
set_option maxRecDepth 100000 in
theorem jn_good {y : MethodName} {b : ByteArray} {n : Nat} {r : Option FieldType} (h : Cond.code y b n r ∈ jgw) : GoodIn jgw (Cond.code y b n r :: jgw) := fun w hw => by
  rcases List.mem_cons.mp hw with rfl | hw
  · exact jgw_good _ h
  · exact jgw_good _ hw
theorem jn_int (hx : p.tables.exec = Jvm.exec) (hb : c.code = cc) (hts : ∀ w ∈ jgw, w.before args s = true) (hK : va_K D vwCl (jT5 cI cJ cZ cR cH) s) (hP : va_P D vwCl ws H) (hD : va_D A ws) (hS : va_S A H0 H locs) (hA : ∀ q, H0.size ≤ q → A q) {n : Int32} (N' : Nat) (hn : ¬ n < 0) (hN : n.toNatClampNeg = N') (hbytes : N' * 4 ≤ 536870912) (hcells : cells + 1 ≤ R.cells) (hslots : slots + N' ≤ R.slots) (hdg : decode cc pc = .ok (.newarray .int, 2))
    (kk : ∀ (q : Nat) (H1 : Heap), va_P D vwCl (ws ++ [(q, .inl (cI, N', .inl fun _ => 0))]) H1 → va_D A (ws ++ [(q, .inl (cI, N', .inl fun _ => 0))]) → va_S A H0 H1 locs → W p l e R s m args below meth c H1 locs (cells + 1) (slots + N') Q (F0 m (pc + 2) ls (.ref q :: rest))) : W p l e R s m args below meth c H locs cells slots Q (F0 m pc ls (.int n :: rest)) := by
  refine va_newa (atype := .int) (ty := .int) hx hb (hts _ wa_int) rfl hK hP hD hS hA (a0 := (N', .inl fun _ => 0)) (fun _ => rfl) hn hN hbytes hcells hslots hdg (fun q cA H1 hK1 hP1 hD1 hS1 => ?_)
  have h1 : s.vm.findClass ("[" ++ FieldType.int.toString) = some cA := (hK1.2 5 (cA, .int) rfl).2
  have h0 : s.vm.findClass ("[" ++ FieldType.int.toString) = some cI := (hK.2 0 (cI, .int) rfl).2
  have e1 : cA = cI := Option.some.inj (h1.symm.trans h0)
  subst e1
  exact kk q H1 hP1 hD1 hS1
theorem jn_long (hx : p.tables.exec = Jvm.exec) (hb : c.code = cc) (hts : ∀ w ∈ jgw, w.before args s = true) (hK : va_K D vwCl (jT5 cI cJ cZ cR cH) s) (hP : va_P D vwCl ws H) (hD : va_D A ws) (hS : va_S A H0 H locs) (hA : ∀ q, H0.size ≤ q → A q) {n : Int32} (N' : Nat) (hn : ¬ n < 0) (hN : n.toNatClampNeg = N') (hbytes : N' * 8 ≤ 536870912) (hcells : cells + 1 ≤ R.cells) (hslots : slots + N' ≤ R.slots) (hdg : decode cc pc = .ok (.newarray .long, 2))
    (kk : ∀ (q : Nat) (H1 : Heap), va_P D vwCl (ws ++ [(q, .inl (cJ, N', .inr (.inl fun _ => 0)))]) H1 → va_D A (ws ++ [(q, .inl (cJ, N', .inr (.inl fun _ => 0)))]) → va_S A H0 H1 locs → W p l e R s m args below meth c H1 locs (cells + 1) (slots + N') Q (F0 m (pc + 2) ls (.ref q :: rest))) : W p l e R s m args below meth c H locs cells slots Q (F0 m pc ls (.int n :: rest)) := by
  refine va_newa (atype := .long) (ty := .long) hx hb (hts _ wa_long) rfl hK hP hD hS hA (a0 := (N', .inr (.inl fun _ => 0))) (fun _ => rfl) hn hN hbytes hcells hslots hdg (fun q cA H1 hK1 hP1 hD1 hS1 => ?_)
  have h1 : s.vm.findClass ("[" ++ FieldType.long.toString) = some cA := (hK1.2 5 (cA, .long) rfl).2
  have h0 : s.vm.findClass ("[" ++ FieldType.long.toString) = some cJ := (hK.2 1 (cJ, .long) rfl).2
  have e1 : cA = cJ := Option.some.inj (h1.symm.trans h0)
  subst e1
  exact kk q H1 hP1 hD1 hS1
theorem jn_refs {own C : String} {index k : Nat} {cA0 : ClassId} (hx : p.tables.exec = Jvm.exec) (hb : c.code = cc) (hown : s.vm.findClass own = some m.cls) (hcl : (Cond.classLink own index C).before args s = true) (hov : va_AO C s) (hK : va_K D vwCl (jT5 cI cJ cZ cR cH) s) (hk : (jT5 cI cJ cZ cR cH)[k]? = some (cA0, .object C)) (hP : va_P D vwCl ws H) (hD : va_D A ws) (hS : va_S A H0 H locs) (hA : ∀ q, H0.size ≤ q → A q) {n : Int32} (N' : Nat) (hn : ¬ n < 0) (hN : n.toNatClampNeg = N') (hbytes : N' * 4 ≤ 536870912) (hcells : cells + 1 ≤ R.cells) (hslots : slots + N' ≤ R.slots) (hdg : decode cc pc = .ok (.anewarray index, 3))
    (kk : ∀ (q : Nat) (H1 : Heap), va_P D vwCl (ws ++ [(q, .inl (cA0, N', .inr (.inr (.inr (.inr fun _ => none)))))]) H1 → va_D A (ws ++ [(q, .inl (cA0, N', .inr (.inr (.inr (.inr fun _ => none)))))]) → va_S A H0 H1 locs → W p l e R s m args below meth c H1 locs (cells + 1) (slots + N') Q (F0 m (pc + 3) ls (.ref q :: rest))) : W p l e R s m args below meth c H locs cells slots Q (F0 m pc ls (.int n :: rest)) := by
  refine va_newq hx hb hown hcl hov hK hP hD hS hA hn hN hbytes hcells hslots hdg (fun q cA H1 hK1 hP1 hD1 hS1 => ?_)
  obtain ⟨-, -, -, -, -, h1⟩ := (hK1.2 5 (cA, .object C) rfl).2
  obtain ⟨-, -, -, -, -, h0⟩ := (hK.2 k (cA0, .object C) hk).2
  have e1 : cA = cA0 := Option.some.inj (h1.symm.trans h0)
  subst e1
  exact kk q H1 hP1 hD1 hS1
end
section
variable {p : Program} {l : Launch} {e : Env} {R : Room} {s : State} {m : MethodId} {args : Array Value} {below : List Frame} {meth : Method} {c : Code} {H0 : Heap} {cells slots : Nat} {Q : State → Prop} {A : Nat → Prop} {cI cJ cZ cR cH : ClassId} {dC : Nat → ClassId} {dI : Nat → Nat → Nat} {h0 n : Nat} {f : Nat → Int32} {v : Int32}
theorem fill_loop_i (hx : p.tables.exec = Jvm.exec) (hb : c.code = cJ7_fill_53178) (hK : va_K (dC, dI) vwCl (jT5 cI cJ cZ cR cH) s) (hn : n < 10000) (hend : ∀ (H : Heap) (locs : List Loc) (ls : Array Slot), va_P (dC, dI) vwCl [(h0, .inl (cI, n, .inl fun j => if j < n then v else f j))] H → va_D A [(h0, .inl (cI, n, .inl fun j => if j < n then v else f j))] → va_S A H0 H locs → W p l e R s m args below meth c H locs cells slots Q (F0 m 20 ls [])) : ∀ k i : Nat, i + k = n → ∀ (H : Heap) (locs : List Loc) (ls : Array Slot), va_P (dC, dI) vwCl [(h0, .inl (cI, n, .inl fun j => if j < i then v else f j))] H → va_D A [(h0, .inl (cI, n, .inl fun j => if j < i then v else f j))] → va_S A H0 H locs → lv_has ls 4 [(2, .int (Int32.ofInt i)), (3, .int (Int32.ofInt n)), (0, .ref h0), (1, .int v)] → W p l e R s m args below meth c H locs cells slots Q (F0 m 5 ls []) := by
  have e0 : ∀ i : Nat, i < 20000 → (Int32.ofInt (i : Int)).toInt = i := fun i hi => by rw [j32_eq]; exact j32_id (by omega) (by omega)
  intro k
  induction k with
  | zero =>
    intro i hi H locs ls hP hD hS hl
    have hi' : i = n := by omega
    subst hi'
    refine lv_iload_n hx hb dJ7_fill_53178_5 rfl (lv_at hl 0 rfl) ?_
    refine lv_iload_n hx hb dJ7_fill_53178_6 rfl (lv_at hl 1 rfl) ?_
    refine lv_icmp_ge (tgt := 20) hx hb dJ7_fill_53178_7 (by decide) (fun _ => ?_) (fun c => absurd (Int32.le_refl _) c)
    exact hend H locs ls hP hD hS
  | succ k ih =>
    intro i hi H locs ls hP hD hS hl
    refine lv_iload_n hx hb dJ7_fill_53178_5 rfl (lv_at hl 0 rfl) ?_
    refine lv_iload_n hx hb dJ7_fill_53178_6 rfl (lv_at hl 1 rfl) ?_
    refine lv_icmp_ge (tgt := 20) hx hb dJ7_fill_53178_7 (by decide) (fun c => absurd c (by rw [Int32.le_iff_toInt_le, e0 i (by omega), e0 n (by omega)]; omega)) (fun _ => ?_)
    refine lv_aload_n hx hb dJ7_fill_53178_10 rfl (lv_at hl 2 rfl) ?_
    refine lv_iload_n hx hb dJ7_fill_53178_11 rfl (lv_at hl 0 rfl) ?_
    refine lv_iload_n hx hb dJ7_fill_53178_12 rfl (lv_at hl 3 rfl) ?_
    have hR1 : jR 1 (i : Int) := ⟨by omega, by omega⟩
    refine va_iast hx hb hK hP hD hS 0 0 rfl rfl (jin hR1 (by omega) (by omega)) dJ7_fill_53178_13 (fun H1 locs1 hP1 hD1 hS1 => ?_)
    refine lv_iinc (v := Int32.ofInt ((i + 1 : Nat) : Int)) (lv' := [(2, .int (Int32.ofInt ((i + 1 : Nat) : Int))), (3, .int (Int32.ofInt n)), (0, .ref h0), (1, .int v)]) hx hb dJ7_fill_53178_14 hl (k := 0) rfl (by rw [← Int32.ofInt_add]; rfl) (by decide) rfl (fun ls hl => ?_)
    refine lv_goto (tgt := 5) hx hb dJ7_fill_53178_17 (by decide) ?_
    have ef : (fun q : Nat => if q = (Int32.ofInt (i : Int)).toNatClampNeg then v else (fun j => if j < i then v else f j) q) = fun j => if j < i + 1 then v else f j := by
      funext q
      rw [jnat hR1, Int.toNat_natCast]
      by_cases h1 : q = i
      · subst h1; simp
      · by_cases h2 : q < i
        · simp [h1, h2, show q < i + 1 by omega]
        · simp [h1, h2, show ¬ q < i + 1 by omega]
    refine ih (i + 1) (by omega) H1 locs1 ls ?_ ?_ hS1 hl
    · rw [← ef]; exact hP1
    · rw [← ef]; exact hD1
end
section
variable {p : Program} {l : Launch} {e : Env} {R : Room} {s : State} {m : MethodId} {args : Array Value} {below : List Frame} {meth : Method} {c : Code} {H0 : Heap} {cells slots : Nat} {Q : State → Prop} {A : Nat → Prop} {cI cJ cZ cR cH : ClassId} {dC : Nat → ClassId} {dI : Nat → Nat → Nat} {h0 n : Nat} {f : Nat → Int64} {v : Int64}
theorem fill_loop_l (hx : p.tables.exec = Jvm.exec) (hb : c.code = cJ7_fill_d0a16) (hK : va_K (dC, dI) vwCl (jT5 cI cJ cZ cR cH) s) (hn : n < 10000) (hend : ∀ (H : Heap) (locs : List Loc) (ls : Array Slot), va_P (dC, dI) vwCl [(h0, .inl (cJ, n, .inr (.inl fun j => if j < n then v else f j)))] H → va_D A [(h0, .inl (cJ, n, .inr (.inl fun j => if j < n then v else f j)))] → va_S A H0 H locs → W p l e R s m args below meth c H locs cells slots Q (F0 m 22 ls [])) : ∀ k i : Nat, i + k = n → ∀ (H : Heap) (locs : List Loc) (ls : Array Slot), va_P (dC, dI) vwCl [(h0, .inl (cJ, n, .inr (.inl fun j => if j < i then v else f j)))] H → va_D A [(h0, .inl (cJ, n, .inr (.inl fun j => if j < i then v else f j)))] → va_S A H0 H locs → lv_has ls 5 [(3, .int (Int32.ofInt i)), (4, .int (Int32.ofInt n)), (0, .ref h0), (1, .long v)] → W p l e R s m args below meth c H locs cells slots Q (F0 m 6 ls []) := by
  have e0 : ∀ i : Nat, i < 20000 → (Int32.ofInt (i : Int)).toInt = i := fun i hi => by rw [j32_eq]; exact j32_id (by omega) (by omega)
  intro k
  induction k with
  | zero =>
    intro i hi H locs ls hP hD hS hl
    have hi' : i = n := by omega
    subst hi'
    refine lv_iload_n hx hb dJ7_fill_d0a16_6 rfl (lv_at hl 0 rfl) ?_
    refine lv_iload hx hb dJ7_fill_d0a16_7 (lv_at hl 1 rfl) ?_
    refine lv_icmp_ge (tgt := 22) hx hb dJ7_fill_d0a16_9 (by decide) (fun _ => ?_) (fun c => absurd (Int32.le_refl _) c)
    exact hend H locs ls hP hD hS
  | succ k ih =>
    intro i hi H locs ls hP hD hS hl
    refine lv_iload_n hx hb dJ7_fill_d0a16_6 rfl (lv_at hl 0 rfl) ?_
    refine lv_iload hx hb dJ7_fill_d0a16_7 (lv_at hl 1 rfl) ?_
    refine lv_icmp_ge (tgt := 22) hx hb dJ7_fill_d0a16_9 (by decide) (fun c => absurd c (by rw [Int32.le_iff_toInt_le, e0 i (by omega), e0 n (by omega)]; omega)) (fun _ => ?_)
    refine lv_aload_n hx hb dJ7_fill_d0a16_12 rfl (lv_at hl 2 rfl) ?_
    refine lv_iload_n hx hb dJ7_fill_d0a16_13 rfl (lv_at hl 0 rfl) ?_
    refine lv_lload_n hx hb dJ7_fill_d0a16_14 rfl (lv_at hl 3 rfl) ?_
    have hR1 : jR 1 (i : Int) := ⟨by omega, by omega⟩
    refine va_last hx hb hK hP hD hS 0 1 rfl rfl (jin hR1 (by omega) (by omega)) dJ7_fill_d0a16_15 (fun H1 locs1 hP1 hD1 hS1 => ?_)
    refine lv_iinc (v := Int32.ofInt ((i + 1 : Nat) : Int)) (lv' := [(3, .int (Int32.ofInt ((i + 1 : Nat) : Int))), (4, .int (Int32.ofInt n)), (0, .ref h0), (1, .long v)]) hx hb dJ7_fill_d0a16_16 hl (k := 0) rfl (by rw [← Int32.ofInt_add]; rfl) (by decide) rfl (fun ls hl => ?_)
    refine lv_goto (tgt := 6) hx hb dJ7_fill_d0a16_19 (by decide) ?_
    have ef : (fun q : Nat => if q = (Int32.ofInt (i : Int)).toNatClampNeg then v else (fun j => if j < i then v else f j) q) = fun j => if j < i + 1 then v else f j := by
      funext q
      rw [jnat hR1, Int.toNat_natCast]
      by_cases h1 : q = i
      · subst h1; simp
      · by_cases h2 : q < i
        · simp [h1, h2, show q < i + 1 by omega]
        · simp [h1, h2, show ¬ q < i + 1 by omega]
    refine ih (i + 1) (by omega) H1 locs1 ls ?_ ?_ hS1 hl
    · rw [← ef]; exact hP1
    · rw [← ef]; exact hD1
end
section
/-- Arrays.fill of ints, over a world of the row alone -/
theorem c_fill_i (l : Launch) (dC : Nat → ClassId) (dI : Nat → Nat → Nat) (cI cJ cZ cR cH : ClassId) (h0 sz n : Nat) (f : Nat → Int32) (v : Int32) (hn : n < 10000) :
    Met l yJ7_fill_53178 (Cond.code yJ7_fill_53178 cJ7_fill_53178 4 none :: jgw) { frames := 1, cells := 0, slots := 0, locals := 40 } (va_Pc [.ref h0, .int v] (fun U => U.heap.size = sz ∧ va_P (dC, dI) vwCl [(h0, .inl (cI, n, .inl f))] U.heap ∧ va_K (dC, dI) vwCl (jT5 cI cJ cZ cR cH) U ∧ va_D (fun _ => True) [(h0, .inl (cI, n, .inl f))]))
      (va_Qv (fun _ : Unit => True) (fun _ t => va_P (dC, dI) vwCl [(h0, .inl (cI, n, .inl fun j => if j < n then v else f j))] t.heap ∧ va_K (dC, dI) vwCl (jT5 cI cJ cZ cR cH) t ∧ va_D (va_A [(h0, .inl (cI, n, .inl f))] sz) [(h0, .inl (cI, n, .inl fun j => if j < n then v else f j))]) (va_A [(h0, .inl (cI, n, .inl f))] sz)) 0 0 (va_A [(h0, .inl (cI, n, .inl f))] sz) := by
  refine Met.ofW (cc := cJ7_fill_53178) (maxL := 4) (ret := none) (by decide +kernel) rfl ?_
  intro p e s m args below meth c s₁ B hml hv
  obtain ⟨rfl, hsz, hP, hK, hD0⟩ := hv
  have hx := B.exec
  have hb := B.bytes
  have hr := B.returns
  have hts := atoms_spec (ws := Cond.code yJ7_fill_53178 cJ7_fill_53178 4 none :: jgw) B.pre
  have hlocks := B.notSynchronized
  subst hsz
  have hD := hD0.self (sz := s.heap.size)
  generalize hAe : va_A [(h0, .inl (cI, n, .inl f))] s.heap.size = A at hD ⊢
  have hA : ∀ q : Nat, s.heap.size ≤ q → A q := fun q h => by rw [← hAe]; exact Or.inr h
  have hl := lv_entry ([.ref h0, .int v]) (n := 4) (Nat.le_of_ble_eq_true rfl)
  rw [lg_entry_eq]
  generalize (lg_sl ([.ref h0, .int v]) ++ List.replicate (4 - (lg_sl ([.ref h0, .int v])).length) Slot.unset).toArray = ls at hl ⊢
  have hl : lv_has ls 4 [(0, .ref h0), (1, .int v)] := hl
  refine lv_iconst (v := 0) hx hb dJ7_fill_53178_0 (by decide) ?_
  refine lv_istore_n (lv' := [(2, .int 0), (0, .ref h0), (1, .int v)]) hx hb dJ7_fill_53178_1 rfl hl (by decide) rfl (fun ls hl => ?_)
  refine lv_aload_n hx hb dJ7_fill_53178_2 rfl (lv_at hl 1 rfl) ?_
  refine va_alen hx hb hK hP 0 0 rfl rfl rfl dJ7_fill_53178_3 ?_
  refine lv_istore_n (lv' := [(3, .int (Int32.ofNat n)), (2, .int 0), (0, .ref h0), (1, .int v)]) hx hb dJ7_fill_53178_4 rfl hl (by decide) rfl (fun ls hl => ?_)
  refine fill_loop_i (H0 := s.heap) (A := A) hx hb hK hn (fun H locs ls hP hD hS => W.vret hx hb hr (fun t ht hW => ⟨⟨(), rfl, trivial, by rw [ht]; exact hP, va_K.moved hW.alike hK, hD⟩, hS.F ht⟩) hS.2.2 dJ7_fill_53178_20) n 0 (by omega) s.heap [] ls ?_ ?_ va_S.rf ?_
  · simpa using hP
  · simpa using hD
  · exact lv_sub hl [1, 0, 2, 3] rfl
/-- Arrays.fill of longs, over a world of the row alone -/
theorem c_fill_l (l : Launch) (dC : Nat → ClassId) (dI : Nat → Nat → Nat) (cI cJ cZ cR cH : ClassId) (h0 sz n : Nat) (f : Nat → Int64) (v : Int64) (hn : n < 10000) :
    Met l yJ7_fill_d0a16 (Cond.code yJ7_fill_d0a16 cJ7_fill_d0a16 5 none :: jgw) { frames := 1, cells := 0, slots := 0, locals := 40 } (va_Pc [.ref h0, .long v] (fun U => U.heap.size = sz ∧ va_P (dC, dI) vwCl [(h0, .inl (cJ, n, .inr (.inl f)))] U.heap ∧ va_K (dC, dI) vwCl (jT5 cI cJ cZ cR cH) U ∧ va_D (fun _ => True) [(h0, .inl (cJ, n, .inr (.inl f)))]))
      (va_Qv (fun _ : Unit => True) (fun _ t => va_P (dC, dI) vwCl [(h0, .inl (cJ, n, .inr (.inl fun j => if j < n then v else f j)))] t.heap ∧ va_K (dC, dI) vwCl (jT5 cI cJ cZ cR cH) t ∧ va_D (va_A [(h0, .inl (cJ, n, .inr (.inl f)))] sz) [(h0, .inl (cJ, n, .inr (.inl fun j => if j < n then v else f j)))]) (va_A [(h0, .inl (cJ, n, .inr (.inl f)))] sz)) 0 0 (va_A [(h0, .inl (cJ, n, .inr (.inl f)))] sz) := by
  refine Met.ofW (cc := cJ7_fill_d0a16) (maxL := 5) (ret := none) (by decide +kernel) rfl ?_
  intro p e s m args below meth c s₁ B hml hv
  obtain ⟨rfl, hsz, hP, hK, hD0⟩ := hv
  have hx := B.exec
  have hb := B.bytes
  have hr := B.returns
  have hts := atoms_spec (ws := Cond.code yJ7_fill_d0a16 cJ7_fill_d0a16 5 none :: jgw) B.pre
  have hlocks := B.notSynchronized
  subst hsz
  have hD := hD0.self (sz := s.heap.size)
  generalize hAe : va_A [(h0, .inl (cJ, n, .inr (.inl f)))] s.heap.size = A at hD ⊢
  have hA : ∀ q : Nat, s.heap.size ≤ q → A q := fun q h => by rw [← hAe]; exact Or.inr h
  have hl := lv_entry ([.ref h0, .long v]) (n := 5) (Nat.le_of_ble_eq_true rfl)
  rw [lg_entry_eq]
  generalize (lg_sl ([.ref h0, .long v]) ++ List.replicate (5 - (lg_sl ([.ref h0, .long v])).length) Slot.unset).toArray = ls at hl ⊢
  have hl : lv_has ls 5 [(0, .ref h0), (1, .long v)] := hl
  refine lv_iconst (v := 0) hx hb dJ7_fill_d0a16_0 (by decide) ?_
  refine lv_istore_n (lv' := [(3, .int 0), (0, .ref h0), (1, .long v)]) hx hb dJ7_fill_d0a16_1 rfl hl (by decide) rfl (fun ls hl => ?_)
  refine lv_aload_n hx hb dJ7_fill_d0a16_2 rfl (lv_at hl 1 rfl) ?_
  refine va_alen hx hb hK hP 0 1 rfl rfl rfl dJ7_fill_d0a16_3 ?_
  refine lv_istore (lv' := [(4, .int (Int32.ofNat n)), (3, .int 0), (0, .ref h0), (1, .long v)]) hx hb dJ7_fill_d0a16_4 hl (by decide) rfl (fun ls hl => ?_)
  refine fill_loop_l (H0 := s.heap) (A := A) hx hb hK hn (fun H locs ls hP hD hS => W.vret hx hb hr (fun t ht hW => ⟨⟨(), rfl, trivial, by rw [ht]; exact hP, va_K.moved hW.alike hK, hD⟩, hS.F ht⟩) hS.2.2 dJ7_fill_d0a16_22) n 0 (by omega) s.heap [] ls ?_ ?_ va_S.rf ?_
  · simpa using hP
  · simpa using hD
  · exact lv_sub hl [1, 0, 2, 3] rfl
end
section
def jNe (U : State) : Prop := va_Nw (.methodLinkNest RX10 35 yX4_init "TileDesk") U ∧ va_Nw (.methodLinkNest RX10 60 yX5_init "TileDesk") U ∧ va_Nw (.methodLinkNest RX10 61 yX1_init "TileDesk") U ∧ va_Nw (.methodLinkNest RX2 11 yX9_init "TileDesk") U ∧ va_Nw (.methodLinkNest RX2 20 yX6_init "TileDesk") U ∧ va_AO RX5 U ∧ va_AO RX1 U
theorem jNe_same {u U : State} (h : u.vm = U.vm) (q : jNe u) : jNe U := ⟨va_Nw.same rfl h q.1, va_Nw.same rfl h q.2.1, va_Nw.same rfl h q.2.2.1, va_Nw.same rfl h q.2.2.2.1, va_Nw.same rfl h q.2.2.2.2.1, va_AO.moved (by rw [h]; exact Vm.Alike.refl _) q.2.2.2.2.2.1, va_AO.moved (by rw [h]; exact Vm.Alike.refl _) q.2.2.2.2.2.2⟩
theorem jNe_warm {s U : State} (hW : s.WarmedH U.vm) (q : jNe s) : jNe U := ⟨va_Nw.warmM hW q.1, va_Nw.warmM hW q.2.1, va_Nw.warmM hW q.2.2.1, va_Nw.warmM hW q.2.2.2.1, va_Nw.warmM hW q.2.2.2.2.1, q.2.2.2.2.2.1.moved hW.alike, q.2.2.2.2.2.2.moved hW.alike⟩
/-- a place of a row becomes another -/
def jun (f : Nat → Int32) (k : Nat) (v : Int32) : Nat → Int32 := fun q => if q = k then v else f q
set_option maxRecDepth 100000 in
theorem wi_X10_3 : Cond.methodLink RX10 3 objectInit ∈ jgw := jgw_in 38 (by decide +kernel) (by decide +kernel)
set_option maxRecDepth 100000 in
theorem wi_X10_42 : Cond.methodLink RX10 42 yX3_init ∈ jgw := jgw_in 65 rfl rfl
set_option maxRecDepth 100000 in
theorem wi_X10_51 : Cond.methodLink RX10 51 yX2_init ∈ jgw := jgw_in 120 rfl rfl
set_option maxRecDepth 100000 in
theorem wi_X10_62 : Cond.methodLink RX10 62 yJ7_fill_53178 ∈ jgw := jgw_in 234 rfl rfl
set_option maxRecDepth 100000 in
theorem wi_X1_1 : Cond.methodLink RX1 1 objectInit ∈ jgw := jgw_in 204 (by decide +kernel) (by decide +kernel)
set_option maxRecDepth 100000 in
theorem wi_X2_3 : Cond.methodLink RX2 3 objectInit ∈ jgw := jgw_in 123 (by decide +kernel) (by decide +kernel)
set_option maxRecDepth 100000 in
theorem wi_X3_5 : Cond.methodLink RX3 5 objectInit ∈ jgw := jgw_in 68 (by decide +kernel) (by decide +kernel)
set_option maxRecDepth 100000 in
theorem wi_X3_62 : Cond.methodLink RX3 62 yJ7_fill_d0a16 ∈ jgw := jgw_in 70 rfl rfl
set_option maxRecDepth 100000 in
theorem wi_X4_1 : Cond.methodLink RX4 1 objectInit ∈ jgw := jgw_in 50 (by decide +kernel) (by decide +kernel)
set_option maxRecDepth 100000 in
theorem wi_X5_1 : Cond.methodLink RX5 1 objectInit ∈ jgw := jgw_in 189 (by decide +kernel) (by decide +kernel)
set_option maxRecDepth 100000 in
theorem wi_X6_1 : Cond.methodLink RX6 1 objectInit ∈ jgw := jgw_in 152 (by decide +kernel) (by decide +kernel)
set_option maxRecDepth 100000 in
theorem wi_X9_1 : Cond.methodLink RX9 1 objectInit ∈ jgw := jgw_in 129 (by decide +kernel) (by decide +kernel)
set_option maxRecDepth 100000 in
theorem wj_Obj : Cond.instanceMethod objectInit ∈ jgw := jgw_in 39 (by decide +kernel) (by decide +kernel)
set_option maxRecDepth 100000 in
theorem wj_ObjC : Cond.code objectInit ⟨#[0xb1]⟩ 1 none ∈ jgw := jgw_in 40 (by decide +kernel) (by decide +kernel)
set_option maxRecDepth 100000 in
theorem wf_X10c_11 : Cond.fieldLink RX10 11 RX10 (TX10 0).2.1 (TX10 0).2.2.1 ∈ jgw := jgw_in 237 rfl rfl
set_option maxRecDepth 100000 in
theorem wf_X10c_17 : Cond.fieldLink RX10 17 RX10 (TX10 1).2.1 (TX10 1).2.2.1 ∈ jgw := jgw_in 238 rfl rfl
set_option maxRecDepth 100000 in
theorem wf_X10c_23 : Cond.fieldLink RX10 23 RX10 (TX10 2).2.1 (TX10 2).2.2.1 ∈ jgw := jgw_in 239 rfl rfl
set_option maxRecDepth 100000 in
theorem wf_X10c_27 : Cond.fieldLink RX10 27 RX10 (TX10 3).2.1 (TX10 3).2.2.1 ∈ jgw := jgw_in 240 rfl rfl
set_option maxRecDepth 100000 in
theorem wf_X10c_30 : Cond.fieldLink RX10 30 RX10 (TX10 4).2.1 (TX10 4).2.2.1 ∈ jgw := jgw_in 241 rfl rfl
set_option maxRecDepth 100000 in
theorem wf_X10c_36 : Cond.fieldLink RX10 36 RX10 (TX10 5).2.1 (TX10 5).2.2.1 ∈ jgw := jgw_in 242 rfl rfl
set_option maxRecDepth 100000 in
theorem wf_X10c_45 : Cond.fieldLink RX10 45 RX10 (TX10 6).2.1 (TX10 6).2.2.1 ∈ jgw := jgw_in 243 rfl rfl
set_option maxRecDepth 100000 in
theorem wf_X10c_52 : Cond.fieldLink RX10 52 RX10 (TX10 7).2.1 (TX10 7).2.2.1 ∈ jgw := jgw_in 244 rfl rfl
set_option maxRecDepth 100000 in
theorem wf_X10c_56 : Cond.fieldLink RX10 56 RX10 (TX10 8).2.1 (TX10 8).2.2.1 ∈ jgw := jgw_in 245 rfl rfl
set_option maxRecDepth 100000 in
theorem wf_X1c_15 : Cond.fieldLink RX1 15 RX1 (TX1 1).2.1 (TX1 1).2.2.1 ∈ jgw := jgw_in 210 rfl rfl
set_option maxRecDepth 100000 in
theorem wf_X1c_18 : Cond.fieldLink RX1 18 RX1 (TX1 2).2.1 (TX1 2).2.2.1 ∈ jgw := jgw_in 213 rfl rfl
set_option maxRecDepth 100000 in
theorem wf_X1c_21 : Cond.fieldLink RX1 21 RX1 (TX1 3).2.1 (TX1 3).2.2.1 ∈ jgw := jgw_in 216 rfl rfl
set_option maxRecDepth 100000 in
theorem wf_X1c_25 : Cond.fieldLink RX1 25 RX1 (TX1 4).2.1 (TX1 4).2.2.1 ∈ jgw := jgw_in 218 rfl rfl
set_option maxRecDepth 100000 in
theorem wf_X1c_9 : Cond.fieldLink RX1 9 RX1 (TX1 0).2.1 (TX1 0).2.2.1 ∈ jgw := jgw_in 205 rfl rfl
set_option maxRecDepth 100000 in
theorem wf_X2c_12 : Cond.fieldLink RX2 12 RX2 (TX2 0).2.1 (TX2 0).2.2.1 ∈ jgw := jgw_in 166 rfl rfl
set_option maxRecDepth 100000 in
theorem wf_X2c_21 : Cond.fieldLink RX2 21 RX2 (TX2 1).2.1 (TX2 1).2.2.1 ∈ jgw := jgw_in 167 rfl rfl
set_option maxRecDepth 100000 in
theorem wf_X2c_25 : Cond.fieldLink RX2 25 RX2 (TX2 3).2.1 (TX2 3).2.2.1 ∈ jgw := jgw_in 169 rfl rfl
set_option maxRecDepth 100000 in
theorem wf_X2c_29 : Cond.fieldLink RX2 29 RX2 (TX2 4).2.1 (TX2 4).2.2.1 ∈ jgw := jgw_in 170 rfl rfl
set_option maxRecDepth 100000 in
theorem wf_X2c_32 : Cond.fieldLink RX2 32 RX2 (TX2 5).2.1 (TX2 5).2.2.1 ∈ jgw := jgw_in 171 rfl rfl
set_option maxRecDepth 100000 in
theorem wf_X2c_35 : Cond.fieldLink RX2 35 RX2 (TX2 2).2.1 (TX2 2).2.2.1 ∈ jgw := jgw_in 168 rfl rfl
set_option maxRecDepth 100000 in
theorem wf_X3c_13 : Cond.fieldLink RX3 13 RX3 (TX3 1).2.1 (TX3 1).2.2.1 ∈ jgw := jgw_in 74 rfl rfl
set_option maxRecDepth 100000 in
theorem wf_X3c_17 : Cond.fieldLink RX3 17 RX3 (TX3 2).2.1 (TX3 2).2.2.1 ∈ jgw := jgw_in 75 rfl rfl
set_option maxRecDepth 100000 in
theorem wf_X3c_20 : Cond.fieldLink RX3 20 RX3 (TX3 3).2.1 (TX3 3).2.2.1 ∈ jgw := jgw_in 76 rfl rfl
set_option maxRecDepth 100000 in
theorem wf_X3c_24 : Cond.fieldLink RX3 24 RX3 (TX3 4).2.1 (TX3 4).2.2.1 ∈ jgw := jgw_in 77 rfl rfl
set_option maxRecDepth 100000 in
theorem wf_X3c_27 : Cond.fieldLink RX3 27 RX3 (TX3 5).2.1 (TX3 5).2.2.1 ∈ jgw := jgw_in 78 rfl rfl
set_option maxRecDepth 100000 in
theorem wf_X3c_30 : Cond.fieldLink RX3 30 RX3 (TX3 6).2.1 (TX3 6).2.2.1 ∈ jgw := jgw_in 79 rfl rfl
set_option maxRecDepth 100000 in
theorem wf_X3c_33 : Cond.fieldLink RX3 33 RX3 (TX3 7).2.1 (TX3 7).2.2.1 ∈ jgw := jgw_in 80 rfl rfl
set_option maxRecDepth 100000 in
theorem wf_X3c_36 : Cond.fieldLink RX3 36 RX3 (TX3 8).2.1 (TX3 8).2.2.1 ∈ jgw := jgw_in 81 rfl rfl
set_option maxRecDepth 100000 in
theorem wf_X3c_39 : Cond.fieldLink RX3 39 RX3 (TX3 9).2.1 (TX3 9).2.2.1 ∈ jgw := jgw_in 82 rfl rfl
set_option maxRecDepth 100000 in
theorem wf_X3c_43 : Cond.fieldLink RX3 43 RX3 (TX3 10).2.1 (TX3 10).2.2.1 ∈ jgw := jgw_in 83 rfl rfl
set_option maxRecDepth 100000 in
theorem wf_X3c_46 : Cond.fieldLink RX3 46 RX3 (TX3 11).2.1 (TX3 11).2.2.1 ∈ jgw := jgw_in 84 rfl rfl
set_option maxRecDepth 100000 in
theorem wf_X3c_49 : Cond.fieldLink RX3 49 RX3 (TX3 12).2.1 (TX3 12).2.2.1 ∈ jgw := jgw_in 85 rfl rfl
set_option maxRecDepth 100000 in
theorem wf_X3c_52 : Cond.fieldLink RX3 52 RX3 (TX3 13).2.1 (TX3 13).2.2.1 ∈ jgw := jgw_in 87 rfl rfl
set_option maxRecDepth 100000 in
theorem wf_X3c_56 : Cond.fieldLink RX3 56 RX3 (TX3 0).2.1 (TX3 0).2.2.1 ∈ jgw := jgw_in 73 rfl rfl
set_option maxRecDepth 100000 in
theorem wf_X4c_13 : Cond.fieldLink RX4 13 RX4 (TX4 1).2.1 (TX4 1).2.2.1 ∈ jgw := jgw_in 54 rfl rfl
set_option maxRecDepth 100000 in
theorem wf_X4c_7 : Cond.fieldLink RX4 7 RX4 (TX4 0).2.1 (TX4 0).2.2.1 ∈ jgw := jgw_in 51 rfl rfl
set_option maxRecDepth 100000 in
theorem wf_X5c_13 : Cond.fieldLink RX5 13 RX5 (TX5 1).2.1 (TX5 1).2.2.1 ∈ jgw := jgw_in 191 rfl rfl
set_option maxRecDepth 100000 in
theorem wf_X5c_17 : Cond.fieldLink RX5 17 RX5 (TX5 2).2.1 (TX5 2).2.2.1 ∈ jgw := jgw_in 192 rfl rfl
set_option maxRecDepth 100000 in
theorem wf_X5c_9 : Cond.fieldLink RX5 9 RX5 (TX5 0).2.1 (TX5 0).2.2.1 ∈ jgw := jgw_in 190 rfl rfl
set_option maxRecDepth 100000 in
theorem wf_X6c_13 : Cond.fieldLink RX6 13 RX6 (TX6 1).2.1 (TX6 1).2.2.1 ∈ jgw := jgw_in 154 rfl rfl
set_option maxRecDepth 100000 in
theorem wf_X6c_16 : Cond.fieldLink RX6 16 RX6 (TX6 2).2.1 (TX6 2).2.2.1 ∈ jgw := jgw_in 155 rfl rfl
set_option maxRecDepth 100000 in
theorem wf_X6c_19 : Cond.fieldLink RX6 19 RX6 (TX6 3).2.1 (TX6 3).2.2.1 ∈ jgw := jgw_in 156 rfl rfl
set_option maxRecDepth 100000 in
theorem wf_X6c_9 : Cond.fieldLink RX6 9 RX6 (TX6 0).2.1 (TX6 0).2.2.1 ∈ jgw := jgw_in 153 rfl rfl
set_option maxRecDepth 100000 in
theorem wf_X9c_15 : Cond.fieldLink RX9 15 RX9 (TX9 1).2.1 (TX9 1).2.2.1 ∈ jgw := jgw_in 131 rfl rfl
set_option maxRecDepth 100000 in
theorem wf_X9c_18 : Cond.fieldLink RX9 18 RX9 (TX9 2).2.1 (TX9 2).2.2.1 ∈ jgw := jgw_in 132 rfl rfl
set_option maxRecDepth 100000 in
theorem wf_X9c_21 : Cond.fieldLink RX9 21 RX9 (TX9 3).2.1 (TX9 3).2.2.1 ∈ jgw := jgw_in 133 rfl rfl
set_option maxRecDepth 100000 in
theorem wf_X9c_25 : Cond.fieldLink RX9 25 RX9 (TX9 4).2.1 (TX9 4).2.2.1 ∈ jgw := jgw_in 134 rfl rfl
set_option maxRecDepth 100000 in
theorem wf_X9c_9 : Cond.fieldLink RX9 9 RX9 (TX9 0).2.1 (TX9 0).2.2.1 ∈ jgw := jgw_in 130 rfl rfl
set_option maxRecDepth 100000 in
theorem wn_X3c_60 : Cond.constantLong RX3 60 ((-1) : Int64) ∈ jgw := jgw_in 69 (by decide +kernel) (by decide +kernel)
set_option maxRecDepth 100000 in
theorem wc_J7_fill_53178 : Cond.code yJ7_fill_53178 cJ7_fill_53178 4 none ∈ jgw := jgw_in 236 rfl rfl
set_option maxRecDepth 100000 in
theorem wc_J7_fill_d0a16 : Cond.code yJ7_fill_d0a16 cJ7_fill_d0a16 5 none ∈ jgw := jgw_in 72 rfl rfl
set_option maxRecDepth 100000 in
theorem wc_X1_init : Cond.code yX1_init cX1_init 1 none ∈ jgw := jgw_in 203 rfl rfl
set_option maxRecDepth 100000 in
theorem wc_X2_init : Cond.code yX2_init cX2_init 2 none ∈ jgw := jgw_in 122 rfl rfl
set_option maxRecDepth 100000 in
theorem wc_X3_init : Cond.code yX3_init cX3_init 2 none ∈ jgw := jgw_in 67 rfl rfl
set_option maxRecDepth 100000 in
theorem wc_X4_init : Cond.code yX4_init cX4_init 1 none ∈ jgw := jgw_in 49 rfl rfl
set_option maxRecDepth 100000 in
theorem wc_X5_init : Cond.code yX5_init cX5_init 1 none ∈ jgw := jgw_in 188 rfl rfl
set_option maxRecDepth 100000 in
theorem wc_X6_init : Cond.code yX6_init cX6_init 1 none ∈ jgw := jgw_in 151 rfl rfl
set_option maxRecDepth 100000 in
theorem wc_X9_init : Cond.code yX9_init cX9_init 1 none ∈ jgw := jgw_in 128 rfl rfl
set_option maxRecDepth 100000 in
theorem ws_J7_fill_53178 : Cond.static yJ7_fill_53178 ∈ jgw := jgw_in 235 rfl rfl
set_option maxRecDepth 100000 in
theorem ws_J7_fill_d0a16 : Cond.static yJ7_fill_d0a16 ∈ jgw := jgw_in 71 rfl rfl
set_option maxRecDepth 100000 in
theorem wz_J7 : Cond.initialized RJ7 ∈ jgw := jgw_in 22 rfl rfl
set_option maxRecDepth 100000 in
theorem wz_X1 : Cond.initialized RX1 ∈ jgw := jgw_in 27 rfl rfl
set_option maxRecDepth 100000 in
theorem wz_X2 : Cond.initialized RX2 ∈ jgw := jgw_in 23 rfl rfl
set_option maxRecDepth 100000 in
theorem wz_X3 : Cond.initialized RX3 ∈ jgw := jgw_in 21 rfl rfl
set_option maxRecDepth 100000 in
theorem wz_X4 : Cond.initialized RX4 ∈ jgw := jgw_in 20 rfl rfl
set_option maxRecDepth 100000 in
theorem wz_X5 : Cond.initialized RX5 ∈ jgw := jgw_in 26 rfl rfl
set_option maxRecDepth 100000 in
theorem wz_X6 : Cond.initialized RX6 ∈ jgw := jgw_in 25 rfl rfl
set_option maxRecDepth 100000 in
theorem wz_X9 : Cond.initialized RX9 ∈ jgw := jgw_in 24 rfl rfl
set_option maxRecDepth 100000 in
theorem wk_X10_15 : Cond.classLink RX10 15 RX1 ∈ jgw := jgw_in 43 rfl rfl
set_option maxRecDepth 100000 in
theorem wk_X10_33 : Cond.classLink RX10 33 RX4 ∈ jgw := jgw_in 45 rfl rfl
set_option maxRecDepth 100000 in
theorem wk_X10_40 : Cond.classLink RX10 40 RX3 ∈ jgw := jgw_in 63 rfl rfl
set_option maxRecDepth 100000 in
theorem wk_X10_49 : Cond.classLink RX10 49 RX2 ∈ jgw := jgw_in 118 rfl rfl
set_option maxRecDepth 100000 in
theorem wk_X10_9 : Cond.classLink RX10 9 RX5 ∈ jgw := jgw_in 41 rfl rfl
set_option maxRecDepth 100000 in
theorem wk_X2_18 : Cond.classLink RX2 18 RX6 ∈ jgw := jgw_in 147 rfl rfl
set_option maxRecDepth 100000 in
theorem wk_X2_9 : Cond.classLink RX2 9 RX9 ∈ jgw := jgw_in 124 rfl rfl
set_option maxRecDepth 100000 in
theorem wt_X1 : Cond.instantiable RX1 5 ∈ jgw := jgw_in 200 rfl rfl
set_option maxRecDepth 100000 in
theorem wt_X2 : Cond.instantiable RX2 6 ∈ jgw := jgw_in 119 rfl rfl
set_option maxRecDepth 100000 in
theorem wt_X3 : Cond.instantiable RX3 14 ∈ jgw := jgw_in 64 rfl rfl
set_option maxRecDepth 100000 in
theorem wt_X4 : Cond.instantiable RX4 2 ∈ jgw := jgw_in 46 rfl rfl
set_option maxRecDepth 100000 in
theorem wt_X5 : Cond.instantiable RX5 3 ∈ jgw := jgw_in 185 rfl rfl
set_option maxRecDepth 100000 in
theorem wt_X6 : Cond.instantiable RX6 4 ∈ jgw := jgw_in 148 rfl rfl
set_option maxRecDepth 100000 in
theorem wt_X9 : Cond.instantiable RX9 5 ∈ jgw := jgw_in 125 rfl rfl
set_option maxRecDepth 100000 in
theorem wm_X1_init : Cond.instanceMethod yX1_init ∈ jgw := jgw_in 202 rfl rfl
set_option maxRecDepth 100000 in
theorem wm_X2_init : Cond.instanceMethod yX2_init ∈ jgw := jgw_in 121 rfl rfl
set_option maxRecDepth 100000 in
theorem wm_X3_init : Cond.instanceMethod yX3_init ∈ jgw := jgw_in 66 rfl rfl
set_option maxRecDepth 100000 in
theorem wm_X4_init : Cond.instanceMethod yX4_init ∈ jgw := jgw_in 48 rfl rfl
set_option maxRecDepth 100000 in
theorem wm_X5_init : Cond.instanceMethod yX5_init ∈ jgw := jgw_in 187 rfl rfl
set_option maxRecDepth 100000 in
theorem wm_X6_init : Cond.instanceMethod yX6_init ∈ jgw := jgw_in 150 rfl rfl
set_option maxRecDepth 100000 in
theorem wm_X9_init : Cond.instanceMethod yX9_init ∈ jgw := jgw_in 127 rfl rfl
set_option maxHeartbeats 4000000 in
set_option maxRecDepth 100000 in
theorem c_X5_init (l : Launch) (dC : Nat → ClassId) (dI : Nat → Nat → Nat) (cI cJ cZ cR cH : ClassId) (h0 sz : Nat) : Met l yX5_init (Cond.code yX5_init cX5_init 1 none :: jgw) { frames := 2, cells := 1, slots := 40, locals := 60 } (va_Pc [.ref h0] (fun U => U.heap.size = sz ∧ va_P (dC, dI) vwCl [(h0, .inr (4, [.null, .int 0, .int 0]))] U.heap ∧ va_K (dC, dI) vwCl (jT5 cI cJ cZ cR cH) U ∧ va_D (fun _ => True) [(h0, .inr (4, [.null, .int 0, .int 0]))])) (va_Qv (fun _ : Unit => True) (fun _ t => ∃ (q1 : Nat), va_P (dC, dI) vwCl [(h0, .inr (4, [.ref q1, .int (-1), .int 0])), (q1, .inl (cI, 40, .inl fun _ => 0))] t.heap ∧ va_K (dC, dI) vwCl (jT5 cI cJ cZ cR cH) t ∧ va_D (va_A [(h0, .inr (4, [.null, .int 0, .int 0]))] sz) [(h0, .inr (4, [.ref q1, .int (-1), .int 0])), (q1, .inl (cI, 40, .inl fun _ => 0))]) (va_A [(h0, .inr (4, [.null, .int 0, .int 0]))] sz)) 1 40 (va_A [(h0, .inr (4, [.null, .int 0, .int 0]))] sz) := by
  refine Met.ofW (cc := cX5_init) (maxL := 1) (ret := none) (by decide +kernel) rfl ?_
  intro p e s m args below meth c s₁ B hml hv
  obtain ⟨rfl, hsz, hP, hK, hD0⟩ := hv
  have hx := B.exec
  have hb := B.bytes
  have hr := B.returns
  have hts0 := atoms_spec (ws := (Cond.code yX5_init cX5_init 1 none :: jgw)) B.pre
  have hts : ∀ w ∈ jgw, w.before _ s = true := fun w hw => hts0 w (List.mem_cons_of_mem _ hw)
  have hown : s.vm.findClass RX5 = some m.cls := findClass_of_methodNamed B.named
  have hlocks := B.notSynchronized
  have hin : meth.name = "<init>" := (name_of_methodNamed B.named B.method).1
  subst hsz
  have hD := hD0.self (sz := s.heap.size)
  generalize hAe : va_A [(h0, .inr (4, [.null, .int 0, .int 0]))] s.heap.size = A at hD ⊢
  have hA : ∀ q : Nat, s.heap.size ≤ q → A q := fun q h => by rw [← hAe]; exact Or.inr h
  have hS : va_S A s.heap s.heap [] := va_S.rf
  have hP : va_P (dC, dI) vwCl [(h0, .inr (4, [.null, .int 0, .int 0]))] s.heap := hP
  have hl := lv_entry ([.ref h0]) (n := 1) (Nat.le_of_ble_eq_true rfl)
  rw [lg_entry_eq]
  generalize (lg_sl ([.ref h0]) ++ List.replicate (1 - (lg_sl ([.ref h0])).length) Slot.unset).toArray = ls at hl ⊢
  have hl : lv_has ls 1 [(0, .ref h0)] := hl
  refine lv_aload_n hx hb dX5_init_0 rfl (lv_at hl 0 rfl) ?_
  refine W.objInit hx hb hown (hts _ wi_X5_1) (hts _ wj_Obj) (hts _ wj_ObjC) rfl (by rw [hml]; exact hl.1) rfl dX5_init_1 (Nat.le_of_ble_eq_true rfl) (Nat.le_of_ble_eq_true rfl) ?_
  refine W.eq (g2 := F0 m 4 ls []) rfl ?_
  refine lv_aload_n hx hb dX5_init_4 rfl (lv_at hl 0 rfl) ?_
  refine lv_bipush (v := 40) hx hb dX5_init_5 (by decide) ?_
  refine jn_int hx hb hts hK hP hD hS hA 40 (by decide) (by decide) (Nat.le_of_ble_eq_true rfl) (Nat.le_of_ble_eq_true rfl) (Nat.le_of_ble_eq_true rfl) dX5_init_7 (fun q1 H hP hD hS => ?_)
  have hP : va_P (dC, dI) vwCl [(h0, .inr (4, [.null, .int 0, .int 0])), (q1, .inl (cI, 40, .inl fun _ => 0))] H := hP
  have hD : va_D A [(h0, .inr (4, [.null, .int 0, .int 0])), (q1, .inl (cI, 40, .inl fun _ => 0))] := hD
  refine W.widen (k := 1) (n := 40) (Nat.le_of_ble_eq_true rfl) (Nat.le_of_ble_eq_true rfl) ?_
  refine va_putF (D := (dC, dI)) (ref := RX5) (ci := 4) (v := .ref q1) (ty := .array .int) (C := RX5) (T := TX5) (N := 3) hx hb hts wcX5.2.1 tyX5 tyX5_ok nmX5 hown hK hP hD hS 0 rfl rfl 0 (by decide) (hts _ wf_X5c_9) (fun x h => by first | exact h | (rw [wcX5.2.2 0 (by decide)] at h; exact h)) rfl hin rfl (by decide +kernel) rfl rfl (Nat.le_of_ble_eq_true rfl) dX5_init_9 (fun H locs hP hD hS => ?_)
  have hP : va_P (dC, dI) vwCl [(h0, .inr (4, [.ref q1, .int 0, .int 0])), (q1, .inl (cI, 40, .inl fun _ => 0))] H := hP
  have hD : va_D A [(h0, .inr (4, [.ref q1, .int 0, .int 0])), (q1, .inl (cI, 40, .inl fun _ => 0))] := hD
  refine lv_aload_n hx hb dX5_init_12 rfl (lv_at hl 0 rfl) ?_
  refine lv_iconst (v := (-1)) hx hb dX5_init_13 (by decide) ?_
  refine va_put (D := (dC, dI)) (ref := RX5) (ci := 4) (v := .int (-1)) (ty := .int) (C := RX5) (T := TX5) (N := 3) hx hb hts wcX5.2.1 tyX5 tyX5_ok nmX5 hown hK hP hD hS 0 rfl rfl 1 (by decide) (hts _ wf_X5c_13) (fun x h => by first | exact h | (rw [wcX5.2.2 1 (by decide)] at h; exact h)) rfl (by decide +kernel) rfl rfl (Nat.le_of_ble_eq_true rfl) dX5_init_14 (fun H locs hP hD hS => ?_)
  have hP : va_P (dC, dI) vwCl [(h0, .inr (4, [.ref q1, .int (-1), .int 0])), (q1, .inl (cI, 40, .inl fun _ => 0))] H := hP
  have hD : va_D A [(h0, .inr (4, [.ref q1, .int (-1), .int 0])), (q1, .inl (cI, 40, .inl fun _ => 0))] := hD
  refine lv_aload_n hx hb dX5_init_17 rfl (lv_at hl 0 rfl) ?_
  refine lv_iconst (v := 0) hx hb dX5_init_18 (by decide) ?_
  refine va_put (D := (dC, dI)) (ref := RX5) (ci := 4) (v := .int 0) (ty := .int) (C := RX5) (T := TX5) (N := 3) hx hb hts wcX5.2.1 tyX5 tyX5_ok nmX5 hown hK hP hD hS 0 rfl rfl 2 (by decide) (hts _ wf_X5c_17) (fun x h => by first | exact h | (rw [wcX5.2.2 2 (by decide)] at h; exact h)) rfl (by decide +kernel) rfl rfl (Nat.le_of_ble_eq_true rfl) dX5_init_19 (fun H locs hP hD hS => ?_)
  have hP : va_P (dC, dI) vwCl [(h0, .inr (4, [.ref q1, .int (-1), .int 0])), (q1, .inl (cI, 40, .inl fun _ => 0))] H := hP
  have hD : va_D A [(h0, .inr (4, [.ref q1, .int (-1), .int 0])), (q1, .inl (cI, 40, .inl fun _ => 0))] := hD
  have hP9 := hP.sub (ws' := [(h0, .inr (4, [.ref q1, .int (-1), .int 0])), (q1, .inl (cI, 40, .inl fun _ => 0))]) [0, 1] rfl
  have hD9 := hD.sub (ws' := [(h0, .inr (4, [.ref q1, .int (-1), .int 0])), (q1, .inl (cI, 40, .inl fun _ => 0))]) [0, 1] (by decide) rfl
  exact W.vret hx hb hr (fun t ht hW => ⟨⟨(), rfl, trivial, q1, by rw [ht]; exact hP9, va_K.moved hW.alike hK, hD9⟩, hS.F ht⟩) hS.2.2 dX5_init_22
set_option maxHeartbeats 4000000 in
set_option maxRecDepth 100000 in
theorem c_X1_init (l : Launch) (dC : Nat → ClassId) (dI : Nat → Nat → Nat) (cI cJ cZ cR cH : ClassId) (h0 sz : Nat) : Met l yX1_init (Cond.code yX1_init cX1_init 1 none :: jgw) { frames := 2, cells := 3, slots := 72, locals := 60 } (va_Pc [.ref h0] (fun U => U.heap.size = sz ∧ va_P (dC, dI) vwCl [(h0, .inr (0, [.null, .null, .null, .int 0, .int 0]))] U.heap ∧ va_K (dC, dI) vwCl (jT5 cI cJ cZ cR cH) U ∧ va_D (fun _ => True) [(h0, .inr (0, [.null, .null, .null, .int 0, .int 0]))])) (va_Qv (fun _ : Unit => True) (fun _ t => ∃ (q1 q2 q3 : Nat), va_P (dC, dI) vwCl [(h0, .inr (0, [.ref q1, .ref q2, .ref q3, .int 0, .int 0])), (q1, .inl (cI, 34, .inl fun _ => 0)), (q2, .inl (cI, 34, .inl fun _ => 0)), (q3, .inl (cI, 4, .inl fun _ => 0))] t.heap ∧ va_K (dC, dI) vwCl (jT5 cI cJ cZ cR cH) t ∧ va_D (va_A [(h0, .inr (0, [.null, .null, .null, .int 0, .int 0]))] sz) [(h0, .inr (0, [.ref q1, .ref q2, .ref q3, .int 0, .int 0])), (q1, .inl (cI, 34, .inl fun _ => 0)), (q2, .inl (cI, 34, .inl fun _ => 0)), (q3, .inl (cI, 4, .inl fun _ => 0))]) (va_A [(h0, .inr (0, [.null, .null, .null, .int 0, .int 0]))] sz)) 3 72 (va_A [(h0, .inr (0, [.null, .null, .null, .int 0, .int 0]))] sz) := by
  refine Met.ofW (cc := cX1_init) (maxL := 1) (ret := none) (by decide +kernel) rfl ?_
  intro p e s m args below meth c s₁ B hml hv
  obtain ⟨rfl, hsz, hP, hK, hD0⟩ := hv
  have hx := B.exec
  have hb := B.bytes
  have hr := B.returns
  have hts0 := atoms_spec (ws := (Cond.code yX1_init cX1_init 1 none :: jgw)) B.pre
  have hts : ∀ w ∈ jgw, w.before _ s = true := fun w hw => hts0 w (List.mem_cons_of_mem _ hw)
  have hown : s.vm.findClass RX1 = some m.cls := findClass_of_methodNamed B.named
  have hlocks := B.notSynchronized
  have hin : meth.name = "<init>" := (name_of_methodNamed B.named B.method).1
  subst hsz
  have hD := hD0.self (sz := s.heap.size)
  generalize hAe : va_A [(h0, .inr (0, [.null, .null, .null, .int 0, .int 0]))] s.heap.size = A at hD ⊢
  have hA : ∀ q : Nat, s.heap.size ≤ q → A q := fun q h => by rw [← hAe]; exact Or.inr h
  have hS : va_S A s.heap s.heap [] := va_S.rf
  have hP : va_P (dC, dI) vwCl [(h0, .inr (0, [.null, .null, .null, .int 0, .int 0]))] s.heap := hP
  have hl := lv_entry ([.ref h0]) (n := 1) (Nat.le_of_ble_eq_true rfl)
  rw [lg_entry_eq]
  generalize (lg_sl ([.ref h0]) ++ List.replicate (1 - (lg_sl ([.ref h0])).length) Slot.unset).toArray = ls at hl ⊢
  have hl : lv_has ls 1 [(0, .ref h0)] := hl
  refine lv_aload_n hx hb dX1_init_0 rfl (lv_at hl 0 rfl) ?_
  refine W.objInit hx hb hown (hts _ wi_X1_1) (hts _ wj_Obj) (hts _ wj_ObjC) rfl (by rw [hml]; exact hl.1) rfl dX1_init_1 (Nat.le_of_ble_eq_true rfl) (Nat.le_of_ble_eq_true rfl) ?_
  refine W.eq (g2 := F0 m 4 ls []) rfl ?_
  refine lv_aload_n hx hb dX1_init_4 rfl (lv_at hl 0 rfl) ?_
  refine lv_bipush (v := 34) hx hb dX1_init_5 (by decide) ?_
  refine jn_int hx hb hts hK hP hD hS hA 34 (by decide) (by decide) (Nat.le_of_ble_eq_true rfl) (Nat.le_of_ble_eq_true rfl) (Nat.le_of_ble_eq_true rfl) dX1_init_7 (fun q1 H hP hD hS => ?_)
  have hP : va_P (dC, dI) vwCl [(h0, .inr (0, [.null, .null, .null, .int 0, .int 0])), (q1, .inl (cI, 34, .inl fun _ => 0))] H := hP
  have hD : va_D A [(h0, .inr (0, [.null, .null, .null, .int 0, .int 0])), (q1, .inl (cI, 34, .inl fun _ => 0))] := hD
  refine W.widen (k := 1) (n := 34) (Nat.le_of_ble_eq_true rfl) (Nat.le_of_ble_eq_true rfl) ?_
  refine va_putF (D := (dC, dI)) (ref := RX1) (ci := 0) (v := .ref q1) (ty := .array .int) (C := RX1) (T := TX1) (N := 5) hx hb hts wcX1.2.1 tyX1 tyX1_ok nmX1 hown hK hP hD hS 0 rfl rfl 0 (by decide) (hts _ wf_X1c_9) (fun x h => by first | exact h | (rw [wcX1.2.2 0 (by decide)] at h; exact h)) rfl hin rfl (by decide +kernel) rfl rfl (Nat.le_of_ble_eq_true rfl) dX1_init_9 (fun H locs hP hD hS => ?_)
  have hP : va_P (dC, dI) vwCl [(h0, .inr (0, [.ref q1, .null, .null, .int 0, .int 0])), (q1, .inl (cI, 34, .inl fun _ => 0))] H := hP
  have hD : va_D A [(h0, .inr (0, [.ref q1, .null, .null, .int 0, .int 0])), (q1, .inl (cI, 34, .inl fun _ => 0))] := hD
  refine lv_aload_n hx hb dX1_init_12 rfl (lv_at hl 0 rfl) ?_
  refine lv_bipush (v := 34) hx hb dX1_init_13 (by decide) ?_
  refine jn_int hx hb hts hK hP hD hS hA 34 (by decide) (by decide) (Nat.le_of_ble_eq_true rfl) (Nat.le_of_ble_eq_true rfl) (Nat.le_of_ble_eq_true rfl) dX1_init_15 (fun q2 H hP hD hS => ?_)
  have hP : va_P (dC, dI) vwCl [(h0, .inr (0, [.ref q1, .null, .null, .int 0, .int 0])), (q1, .inl (cI, 34, .inl fun _ => 0)), (q2, .inl (cI, 34, .inl fun _ => 0))] H := hP
  have hD : va_D A [(h0, .inr (0, [.ref q1, .null, .null, .int 0, .int 0])), (q1, .inl (cI, 34, .inl fun _ => 0)), (q2, .inl (cI, 34, .inl fun _ => 0))] := hD
  refine W.widen (k := 2) (n := 68) (Nat.le_of_ble_eq_true rfl) (Nat.le_of_ble_eq_true rfl) ?_
  refine va_putF (D := (dC, dI)) (ref := RX1) (ci := 0) (v := .ref q2) (ty := .array .int) (C := RX1) (T := TX1) (N := 5) hx hb hts wcX1.2.1 tyX1 tyX1_ok nmX1 hown hK hP hD hS 0 rfl rfl 1 (by decide) (hts _ wf_X1c_15) (fun x h => by first | exact h | (rw [wcX1.2.2 1 (by decide)] at h; exact h)) rfl hin rfl (by decide +kernel) rfl rfl (Nat.le_of_ble_eq_true rfl) dX1_init_17 (fun H locs hP hD hS => ?_)
  have hP : va_P (dC, dI) vwCl [(h0, .inr (0, [.ref q1, .ref q2, .null, .int 0, .int 0])), (q1, .inl (cI, 34, .inl fun _ => 0)), (q2, .inl (cI, 34, .inl fun _ => 0))] H := hP
  have hD : va_D A [(h0, .inr (0, [.ref q1, .ref q2, .null, .int 0, .int 0])), (q1, .inl (cI, 34, .inl fun _ => 0)), (q2, .inl (cI, 34, .inl fun _ => 0))] := hD
  refine lv_aload_n hx hb dX1_init_20 rfl (lv_at hl 0 rfl) ?_
  refine lv_iconst (v := 4) hx hb dX1_init_21 (by decide) ?_
  refine jn_int hx hb hts hK hP hD hS hA 4 (by decide) (by decide) (Nat.le_of_ble_eq_true rfl) (Nat.le_of_ble_eq_true rfl) (Nat.le_of_ble_eq_true rfl) dX1_init_22 (fun q3 H hP hD hS => ?_)
  have hP : va_P (dC, dI) vwCl [(h0, .inr (0, [.ref q1, .ref q2, .null, .int 0, .int 0])), (q1, .inl (cI, 34, .inl fun _ => 0)), (q2, .inl (cI, 34, .inl fun _ => 0)), (q3, .inl (cI, 4, .inl fun _ => 0))] H := hP
  have hD : va_D A [(h0, .inr (0, [.ref q1, .ref q2, .null, .int 0, .int 0])), (q1, .inl (cI, 34, .inl fun _ => 0)), (q2, .inl (cI, 34, .inl fun _ => 0)), (q3, .inl (cI, 4, .inl fun _ => 0))] := hD
  refine W.widen (k := 3) (n := 72) (Nat.le_of_ble_eq_true rfl) (Nat.le_of_ble_eq_true rfl) ?_
  refine va_putF (D := (dC, dI)) (ref := RX1) (ci := 0) (v := .ref q3) (ty := .array .int) (C := RX1) (T := TX1) (N := 5) hx hb hts wcX1.2.1 tyX1 tyX1_ok nmX1 hown hK hP hD hS 0 rfl rfl 2 (by decide) (hts _ wf_X1c_18) (fun x h => by first | exact h | (rw [wcX1.2.2 2 (by decide)] at h; exact h)) rfl hin rfl (by decide +kernel) rfl rfl (Nat.le_of_ble_eq_true rfl) dX1_init_24 (fun H locs hP hD hS => ?_)
  have hP : va_P (dC, dI) vwCl [(h0, .inr (0, [.ref q1, .ref q2, .ref q3, .int 0, .int 0])), (q1, .inl (cI, 34, .inl fun _ => 0)), (q2, .inl (cI, 34, .inl fun _ => 0)), (q3, .inl (cI, 4, .inl fun _ => 0))] H := hP
  have hD : va_D A [(h0, .inr (0, [.ref q1, .ref q2, .ref q3, .int 0, .int 0])), (q1, .inl (cI, 34, .inl fun _ => 0)), (q2, .inl (cI, 34, .inl fun _ => 0)), (q3, .inl (cI, 4, .inl fun _ => 0))] := hD
  refine lv_aload_n hx hb dX1_init_27 rfl (lv_at hl 0 rfl) ?_
  refine lv_iconst (v := 0) hx hb dX1_init_28 (by decide) ?_
  refine va_put (D := (dC, dI)) (ref := RX1) (ci := 0) (v := .int 0) (ty := .int) (C := RX1) (T := TX1) (N := 5) hx hb hts wcX1.2.1 tyX1 tyX1_ok nmX1 hown hK hP hD hS 0 rfl rfl 3 (by decide) (hts _ wf_X1c_21) (fun x h => by first | exact h | (rw [wcX1.2.2 3 (by decide)] at h; exact h)) rfl (by decide +kernel) rfl rfl (Nat.le_of_ble_eq_true rfl) dX1_init_29 (fun H locs hP hD hS => ?_)
  have hP : va_P (dC, dI) vwCl [(h0, .inr (0, [.ref q1, .ref q2, .ref q3, .int 0, .int 0])), (q1, .inl (cI, 34, .inl fun _ => 0)), (q2, .inl (cI, 34, .inl fun _ => 0)), (q3, .inl (cI, 4, .inl fun _ => 0))] H := hP
  have hD : va_D A [(h0, .inr (0, [.ref q1, .ref q2, .ref q3, .int 0, .int 0])), (q1, .inl (cI, 34, .inl fun _ => 0)), (q2, .inl (cI, 34, .inl fun _ => 0)), (q3, .inl (cI, 4, .inl fun _ => 0))] := hD
  refine lv_aload_n hx hb dX1_init_32 rfl (lv_at hl 0 rfl) ?_
  refine lv_iconst (v := 0) hx hb dX1_init_33 (by decide) ?_
  refine va_put (D := (dC, dI)) (ref := RX1) (ci := 0) (v := .int 0) (ty := .int) (C := RX1) (T := TX1) (N := 5) hx hb hts wcX1.2.1 tyX1 tyX1_ok nmX1 hown hK hP hD hS 0 rfl rfl 4 (by decide) (hts _ wf_X1c_25) (fun x h => by first | exact h | (rw [wcX1.2.2 4 (by decide)] at h; exact h)) rfl (by decide +kernel) rfl rfl (Nat.le_of_ble_eq_true rfl) dX1_init_34 (fun H locs hP hD hS => ?_)
  have hP : va_P (dC, dI) vwCl [(h0, .inr (0, [.ref q1, .ref q2, .ref q3, .int 0, .int 0])), (q1, .inl (cI, 34, .inl fun _ => 0)), (q2, .inl (cI, 34, .inl fun _ => 0)), (q3, .inl (cI, 4, .inl fun _ => 0))] H := hP
  have hD : va_D A [(h0, .inr (0, [.ref q1, .ref q2, .ref q3, .int 0, .int 0])), (q1, .inl (cI, 34, .inl fun _ => 0)), (q2, .inl (cI, 34, .inl fun _ => 0)), (q3, .inl (cI, 4, .inl fun _ => 0))] := hD
  have hP9 := hP.sub (ws' := [(h0, .inr (0, [.ref q1, .ref q2, .ref q3, .int 0, .int 0])), (q1, .inl (cI, 34, .inl fun _ => 0)), (q2, .inl (cI, 34, .inl fun _ => 0)), (q3, .inl (cI, 4, .inl fun _ => 0))]) [0, 1, 2, 3] rfl
  have hD9 := hD.sub (ws' := [(h0, .inr (0, [.ref q1, .ref q2, .ref q3, .int 0, .int 0])), (q1, .inl (cI, 34, .inl fun _ => 0)), (q2, .inl (cI, 34, .inl fun _ => 0)), (q3, .inl (cI, 4, .inl fun _ => 0))]) [0, 1, 2, 3] (by decide) rfl
  exact W.vret hx hb hr (fun t ht hW => ⟨⟨(), rfl, trivial, q1, q2, q3, by rw [ht]; exact hP9, va_K.moved hW.alike hK, hD9⟩, hS.F ht⟩) hS.2.2 dX1_init_37
set_option maxHeartbeats 4000000 in
set_option maxRecDepth 100000 in
theorem c_X4_init (l : Launch) (dC : Nat → ClassId) (dI : Nat → Nat → Nat) (cI cJ cZ cR cH : ClassId) (h0 sz : Nat) : Met l yX4_init (Cond.code yX4_init cX4_init 1 none :: jgw) { frames := 2, cells := 0, slots := 0, locals := 60 } (va_Pc [.ref h0] (fun U => U.heap.size = sz ∧ va_P (dC, dI) vwCl [(h0, .inr (3, [.int 0, .int 0]))] U.heap ∧ va_K (dC, dI) vwCl (jT5 cI cJ cZ cR cH) U ∧ va_D (fun _ => True) [(h0, .inr (3, [.int 0, .int 0]))])) (va_Qv (fun _ : Unit => True) (fun _ t => va_P (dC, dI) vwCl [(h0, .inr (3, [.int 0, .int 0]))] t.heap ∧ va_K (dC, dI) vwCl (jT5 cI cJ cZ cR cH) t ∧ va_D (va_A [(h0, .inr (3, [.int 0, .int 0]))] sz) [(h0, .inr (3, [.int 0, .int 0]))]) (va_A [(h0, .inr (3, [.int 0, .int 0]))] sz)) 0 0 (va_A [(h0, .inr (3, [.int 0, .int 0]))] sz) := by
  refine Met.ofW (cc := cX4_init) (maxL := 1) (ret := none) (by decide +kernel) rfl ?_
  intro p e s m args below meth c s₁ B hml hv
  obtain ⟨rfl, hsz, hP, hK, hD0⟩ := hv
  have hx := B.exec
  have hb := B.bytes
  have hr := B.returns
  have hts0 := atoms_spec (ws := (Cond.code yX4_init cX4_init 1 none :: jgw)) B.pre
  have hts : ∀ w ∈ jgw, w.before _ s = true := fun w hw => hts0 w (List.mem_cons_of_mem _ hw)
  have hown : s.vm.findClass RX4 = some m.cls := findClass_of_methodNamed B.named
  have hlocks := B.notSynchronized
  have hin : meth.name = "<init>" := (name_of_methodNamed B.named B.method).1
  subst hsz
  have hD := hD0.self (sz := s.heap.size)
  generalize hAe : va_A [(h0, .inr (3, [.int 0, .int 0]))] s.heap.size = A at hD ⊢
  have hA : ∀ q : Nat, s.heap.size ≤ q → A q := fun q h => by rw [← hAe]; exact Or.inr h
  have hS : va_S A s.heap s.heap [] := va_S.rf
  have hP : va_P (dC, dI) vwCl [(h0, .inr (3, [.int 0, .int 0]))] s.heap := hP
  have hl := lv_entry ([.ref h0]) (n := 1) (Nat.le_of_ble_eq_true rfl)
  rw [lg_entry_eq]
  generalize (lg_sl ([.ref h0]) ++ List.replicate (1 - (lg_sl ([.ref h0])).length) Slot.unset).toArray = ls at hl ⊢
  have hl : lv_has ls 1 [(0, .ref h0)] := hl
  refine lv_aload_n hx hb dX4_init_0 rfl (lv_at hl 0 rfl) ?_
  refine W.objInit hx hb hown (hts _ wi_X4_1) (hts _ wj_Obj) (hts _ wj_ObjC) rfl (by rw [hml]; exact hl.1) rfl dX4_init_1 (Nat.le_of_ble_eq_true rfl) (Nat.le_of_ble_eq_true rfl) ?_
  refine W.eq (g2 := F0 m 4 ls []) rfl ?_
  refine lv_aload_n hx hb dX4_init_4 rfl (lv_at hl 0 rfl) ?_
  refine lv_iconst (v := 0) hx hb dX4_init_5 (by decide) ?_
  refine va_put (D := (dC, dI)) (ref := RX4) (ci := 3) (v := .int 0) (ty := .boolean) (C := RX4) (T := TX4) (N := 2) hx hb hts wcX4.2.1 tyX4 tyX4_ok nmX4 hown hK hP hD hS 0 rfl rfl 0 (by decide) (hts _ wf_X4c_7) (fun x h => by first | exact h | (rw [wcX4.2.2 0 (by decide)] at h; exact h)) rfl (by decide +kernel) rfl rfl (Nat.le_of_ble_eq_true rfl) dX4_init_6 (fun H locs hP hD hS => ?_)
  have hP : va_P (dC, dI) vwCl [(h0, .inr (3, [.int 0, .int 0]))] H := hP
  have hD : va_D A [(h0, .inr (3, [.int 0, .int 0]))] := hD
  refine lv_aload_n hx hb dX4_init_9 rfl (lv_at hl 0 rfl) ?_
  refine lv_iconst (v := 0) hx hb dX4_init_10 (by decide) ?_
  refine va_put (D := (dC, dI)) (ref := RX4) (ci := 3) (v := .int 0) (ty := .boolean) (C := RX4) (T := TX4) (N := 2) hx hb hts wcX4.2.1 tyX4 tyX4_ok nmX4 hown hK hP hD hS 0 rfl rfl 1 (by decide) (hts _ wf_X4c_13) (fun x h => by first | exact h | (rw [wcX4.2.2 1 (by decide)] at h; exact h)) rfl (by decide +kernel) rfl rfl (Nat.le_of_ble_eq_true rfl) dX4_init_11 (fun H locs hP hD hS => ?_)
  have hP : va_P (dC, dI) vwCl [(h0, .inr (3, [.int 0, .int 0]))] H := hP
  have hD : va_D A [(h0, .inr (3, [.int 0, .int 0]))] := hD
  have hP9 := hP.sub (ws' := [(h0, .inr (3, [.int 0, .int 0]))]) [0] rfl
  have hD9 := hD.sub (ws' := [(h0, .inr (3, [.int 0, .int 0]))]) [0] (by decide) rfl
  exact W.vret hx hb hr (fun t ht hW => ⟨⟨(), rfl, trivial, by rw [ht]; exact hP9, va_K.moved hW.alike hK, hD9⟩, hS.F ht⟩) hS.2.2 dX4_init_14
set_option maxHeartbeats 4000000 in
set_option maxRecDepth 100000 in
theorem c_X6_init (l : Launch) (dC : Nat → ClassId) (dI : Nat → Nat → Nat) (cI cJ cZ cR cH : ClassId) (h0 sz : Nat) : Met l yX6_init (Cond.code yX6_init cX6_init 1 none :: jgw) { frames := 2, cells := 3, slots := 60, locals := 60 } (va_Pc [.ref h0] (fun U => U.heap.size = sz ∧ va_P (dC, dI) vwCl [(h0, .inr (5, [.null, .null, .null, .int 0]))] U.heap ∧ va_K (dC, dI) vwCl (jT5 cI cJ cZ cR cH) U ∧ va_D (fun _ => True) [(h0, .inr (5, [.null, .null, .null, .int 0]))])) (va_Qv (fun _ : Unit => True) (fun _ t => ∃ (q1 q2 q3 : Nat), va_P (dC, dI) vwCl [(h0, .inr (5, [.ref q1, .ref q2, .ref q3, .int 0])), (q1, .inl (cI, 20, .inl fun _ => 0)), (q2, .inl (cI, 20, .inl fun _ => 0)), (q3, .inl (cI, 20, .inl fun _ => 0))] t.heap ∧ va_K (dC, dI) vwCl (jT5 cI cJ cZ cR cH) t ∧ va_D (va_A [(h0, .inr (5, [.null, .null, .null, .int 0]))] sz) [(h0, .inr (5, [.ref q1, .ref q2, .ref q3, .int 0])), (q1, .inl (cI, 20, .inl fun _ => 0)), (q2, .inl (cI, 20, .inl fun _ => 0)), (q3, .inl (cI, 20, .inl fun _ => 0))]) (va_A [(h0, .inr (5, [.null, .null, .null, .int 0]))] sz)) 3 60 (va_A [(h0, .inr (5, [.null, .null, .null, .int 0]))] sz) := by
  refine Met.ofW (cc := cX6_init) (maxL := 1) (ret := none) (by decide +kernel) rfl ?_
  intro p e s m args below meth c s₁ B hml hv
  obtain ⟨rfl, hsz, hP, hK, hD0⟩ := hv
  have hx := B.exec
  have hb := B.bytes
  have hr := B.returns
  have hts0 := atoms_spec (ws := (Cond.code yX6_init cX6_init 1 none :: jgw)) B.pre
  have hts : ∀ w ∈ jgw, w.before _ s = true := fun w hw => hts0 w (List.mem_cons_of_mem _ hw)
  have hown : s.vm.findClass RX6 = some m.cls := findClass_of_methodNamed B.named
  have hlocks := B.notSynchronized
  have hin : meth.name = "<init>" := (name_of_methodNamed B.named B.method).1
  subst hsz
  have hD := hD0.self (sz := s.heap.size)
  generalize hAe : va_A [(h0, .inr (5, [.null, .null, .null, .int 0]))] s.heap.size = A at hD ⊢
  have hA : ∀ q : Nat, s.heap.size ≤ q → A q := fun q h => by rw [← hAe]; exact Or.inr h
  have hS : va_S A s.heap s.heap [] := va_S.rf
  have hP : va_P (dC, dI) vwCl [(h0, .inr (5, [.null, .null, .null, .int 0]))] s.heap := hP
  have hl := lv_entry ([.ref h0]) (n := 1) (Nat.le_of_ble_eq_true rfl)
  rw [lg_entry_eq]
  generalize (lg_sl ([.ref h0]) ++ List.replicate (1 - (lg_sl ([.ref h0])).length) Slot.unset).toArray = ls at hl ⊢
  have hl : lv_has ls 1 [(0, .ref h0)] := hl
  refine lv_aload_n hx hb dX6_init_0 rfl (lv_at hl 0 rfl) ?_
  refine W.objInit hx hb hown (hts _ wi_X6_1) (hts _ wj_Obj) (hts _ wj_ObjC) rfl (by rw [hml]; exact hl.1) rfl dX6_init_1 (Nat.le_of_ble_eq_true rfl) (Nat.le_of_ble_eq_true rfl) ?_
  refine W.eq (g2 := F0 m 4 ls []) rfl ?_
  refine lv_aload_n hx hb dX6_init_4 rfl (lv_at hl 0 rfl) ?_
  refine lv_bipush (v := 20) hx hb dX6_init_5 (by decide) ?_
  refine jn_int hx hb hts hK hP hD hS hA 20 (by decide) (by decide) (Nat.le_of_ble_eq_true rfl) (Nat.le_of_ble_eq_true rfl) (Nat.le_of_ble_eq_true rfl) dX6_init_7 (fun q1 H hP hD hS => ?_)
  have hP : va_P (dC, dI) vwCl [(h0, .inr (5, [.null, .null, .null, .int 0])), (q1, .inl (cI, 20, .inl fun _ => 0))] H := hP
  have hD : va_D A [(h0, .inr (5, [.null, .null, .null, .int 0])), (q1, .inl (cI, 20, .inl fun _ => 0))] := hD
  refine W.widen (k := 1) (n := 20) (Nat.le_of_ble_eq_true rfl) (Nat.le_of_ble_eq_true rfl) ?_
  refine va_putF (D := (dC, dI)) (ref := RX6) (ci := 5) (v := .ref q1) (ty := .array .int) (C := RX6) (T := TX6) (N := 4) hx hb hts wcX6.2.1 tyX6 tyX6_ok nmX6 hown hK hP hD hS 0 rfl rfl 0 (by decide) (hts _ wf_X6c_9) (fun x h => by first | exact h | (rw [wcX6.2.2 0 (by decide)] at h; exact h)) rfl hin rfl (by decide +kernel) rfl rfl (Nat.le_of_ble_eq_true rfl) dX6_init_9 (fun H locs hP hD hS => ?_)
  have hP : va_P (dC, dI) vwCl [(h0, .inr (5, [.ref q1, .null, .null, .int 0])), (q1, .inl (cI, 20, .inl fun _ => 0))] H := hP
  have hD : va_D A [(h0, .inr (5, [.ref q1, .null, .null, .int 0])), (q1, .inl (cI, 20, .inl fun _ => 0))] := hD
  refine lv_aload_n hx hb dX6_init_12 rfl (lv_at hl 0 rfl) ?_
  refine lv_bipush (v := 20) hx hb dX6_init_13 (by decide) ?_
  refine jn_int hx hb hts hK hP hD hS hA 20 (by decide) (by decide) (Nat.le_of_ble_eq_true rfl) (Nat.le_of_ble_eq_true rfl) (Nat.le_of_ble_eq_true rfl) dX6_init_15 (fun q2 H hP hD hS => ?_)
  have hP : va_P (dC, dI) vwCl [(h0, .inr (5, [.ref q1, .null, .null, .int 0])), (q1, .inl (cI, 20, .inl fun _ => 0)), (q2, .inl (cI, 20, .inl fun _ => 0))] H := hP
  have hD : va_D A [(h0, .inr (5, [.ref q1, .null, .null, .int 0])), (q1, .inl (cI, 20, .inl fun _ => 0)), (q2, .inl (cI, 20, .inl fun _ => 0))] := hD
  refine W.widen (k := 2) (n := 40) (Nat.le_of_ble_eq_true rfl) (Nat.le_of_ble_eq_true rfl) ?_
  refine va_putF (D := (dC, dI)) (ref := RX6) (ci := 5) (v := .ref q2) (ty := .array .int) (C := RX6) (T := TX6) (N := 4) hx hb hts wcX6.2.1 tyX6 tyX6_ok nmX6 hown hK hP hD hS 0 rfl rfl 1 (by decide) (hts _ wf_X6c_13) (fun x h => by first | exact h | (rw [wcX6.2.2 1 (by decide)] at h; exact h)) rfl hin rfl (by decide +kernel) rfl rfl (Nat.le_of_ble_eq_true rfl) dX6_init_17 (fun H locs hP hD hS => ?_)
  have hP : va_P (dC, dI) vwCl [(h0, .inr (5, [.ref q1, .ref q2, .null, .int 0])), (q1, .inl (cI, 20, .inl fun _ => 0)), (q2, .inl (cI, 20, .inl fun _ => 0))] H := hP
  have hD : va_D A [(h0, .inr (5, [.ref q1, .ref q2, .null, .int 0])), (q1, .inl (cI, 20, .inl fun _ => 0)), (q2, .inl (cI, 20, .inl fun _ => 0))] := hD
  refine lv_aload_n hx hb dX6_init_20 rfl (lv_at hl 0 rfl) ?_
  refine lv_bipush (v := 20) hx hb dX6_init_21 (by decide) ?_
  refine jn_int hx hb hts hK hP hD hS hA 20 (by decide) (by decide) (Nat.le_of_ble_eq_true rfl) (Nat.le_of_ble_eq_true rfl) (Nat.le_of_ble_eq_true rfl) dX6_init_23 (fun q3 H hP hD hS => ?_)
  have hP : va_P (dC, dI) vwCl [(h0, .inr (5, [.ref q1, .ref q2, .null, .int 0])), (q1, .inl (cI, 20, .inl fun _ => 0)), (q2, .inl (cI, 20, .inl fun _ => 0)), (q3, .inl (cI, 20, .inl fun _ => 0))] H := hP
  have hD : va_D A [(h0, .inr (5, [.ref q1, .ref q2, .null, .int 0])), (q1, .inl (cI, 20, .inl fun _ => 0)), (q2, .inl (cI, 20, .inl fun _ => 0)), (q3, .inl (cI, 20, .inl fun _ => 0))] := hD
  refine W.widen (k := 3) (n := 60) (Nat.le_of_ble_eq_true rfl) (Nat.le_of_ble_eq_true rfl) ?_
  refine va_putF (D := (dC, dI)) (ref := RX6) (ci := 5) (v := .ref q3) (ty := .array .int) (C := RX6) (T := TX6) (N := 4) hx hb hts wcX6.2.1 tyX6 tyX6_ok nmX6 hown hK hP hD hS 0 rfl rfl 2 (by decide) (hts _ wf_X6c_16) (fun x h => by first | exact h | (rw [wcX6.2.2 2 (by decide)] at h; exact h)) rfl hin rfl (by decide +kernel) rfl rfl (Nat.le_of_ble_eq_true rfl) dX6_init_25 (fun H locs hP hD hS => ?_)
  have hP : va_P (dC, dI) vwCl [(h0, .inr (5, [.ref q1, .ref q2, .ref q3, .int 0])), (q1, .inl (cI, 20, .inl fun _ => 0)), (q2, .inl (cI, 20, .inl fun _ => 0)), (q3, .inl (cI, 20, .inl fun _ => 0))] H := hP
  have hD : va_D A [(h0, .inr (5, [.ref q1, .ref q2, .ref q3, .int 0])), (q1, .inl (cI, 20, .inl fun _ => 0)), (q2, .inl (cI, 20, .inl fun _ => 0)), (q3, .inl (cI, 20, .inl fun _ => 0))] := hD
  refine lv_aload_n hx hb dX6_init_28 rfl (lv_at hl 0 rfl) ?_
  refine lv_iconst (v := 0) hx hb dX6_init_29 (by decide) ?_
  refine va_put (D := (dC, dI)) (ref := RX6) (ci := 5) (v := .int 0) (ty := .int) (C := RX6) (T := TX6) (N := 4) hx hb hts wcX6.2.1 tyX6 tyX6_ok nmX6 hown hK hP hD hS 0 rfl rfl 3 (by decide) (hts _ wf_X6c_19) (fun x h => by first | exact h | (rw [wcX6.2.2 3 (by decide)] at h; exact h)) rfl (by decide +kernel) rfl rfl (Nat.le_of_ble_eq_true rfl) dX6_init_30 (fun H locs hP hD hS => ?_)
  have hP : va_P (dC, dI) vwCl [(h0, .inr (5, [.ref q1, .ref q2, .ref q3, .int 0])), (q1, .inl (cI, 20, .inl fun _ => 0)), (q2, .inl (cI, 20, .inl fun _ => 0)), (q3, .inl (cI, 20, .inl fun _ => 0))] H := hP
  have hD : va_D A [(h0, .inr (5, [.ref q1, .ref q2, .ref q3, .int 0])), (q1, .inl (cI, 20, .inl fun _ => 0)), (q2, .inl (cI, 20, .inl fun _ => 0)), (q3, .inl (cI, 20, .inl fun _ => 0))] := hD
  have hP9 := hP.sub (ws' := [(h0, .inr (5, [.ref q1, .ref q2, .ref q3, .int 0])), (q1, .inl (cI, 20, .inl fun _ => 0)), (q2, .inl (cI, 20, .inl fun _ => 0)), (q3, .inl (cI, 20, .inl fun _ => 0))]) [0, 1, 2, 3] rfl
  have hD9 := hD.sub (ws' := [(h0, .inr (5, [.ref q1, .ref q2, .ref q3, .int 0])), (q1, .inl (cI, 20, .inl fun _ => 0)), (q2, .inl (cI, 20, .inl fun _ => 0)), (q3, .inl (cI, 20, .inl fun _ => 0))]) [0, 1, 2, 3] (by decide) rfl
  exact W.vret hx hb hr (fun t ht hW => ⟨⟨(), rfl, trivial, q1, q2, q3, by rw [ht]; exact hP9, va_K.moved hW.alike hK, hD9⟩, hS.F ht⟩) hS.2.2 dX6_init_33
set_option maxHeartbeats 4000000 in
set_option maxRecDepth 100000 in
theorem c_X9_init (l : Launch) (dC : Nat → ClassId) (dI : Nat → Nat → Nat) (cI cJ cZ cR cH : ClassId) (h0 sz : Nat) : Met l yX9_init (Cond.code yX9_init cX9_init 1 none :: jgw) { frames := 2, cells := 3, slots := 79, locals := 60 } (va_Pc [.ref h0] (fun U => U.heap.size = sz ∧ va_P (dC, dI) vwCl [(h0, .inr (6, [.null, .null, .null, .int 0, .int 0]))] U.heap ∧ va_K (dC, dI) vwCl (jT5 cI cJ cZ cR cH) U ∧ va_D (fun _ => True) [(h0, .inr (6, [.null, .null, .null, .int 0, .int 0]))])) (va_Qv (fun _ : Unit => True) (fun _ t => ∃ (q1 q2 q3 : Nat), va_P (dC, dI) vwCl [(h0, .inr (6, [.ref q1, .ref q2, .ref q3, .int 0, .int 0])), (q1, .inl (cI, 34, .inl fun _ => 0)), (q2, .inl (cI, 5, .inl fun _ => 0)), (q3, .inl (cI, 40, .inl fun _ => 0))] t.heap ∧ va_K (dC, dI) vwCl (jT5 cI cJ cZ cR cH) t ∧ va_D (va_A [(h0, .inr (6, [.null, .null, .null, .int 0, .int 0]))] sz) [(h0, .inr (6, [.ref q1, .ref q2, .ref q3, .int 0, .int 0])), (q1, .inl (cI, 34, .inl fun _ => 0)), (q2, .inl (cI, 5, .inl fun _ => 0)), (q3, .inl (cI, 40, .inl fun _ => 0))]) (va_A [(h0, .inr (6, [.null, .null, .null, .int 0, .int 0]))] sz)) 3 79 (va_A [(h0, .inr (6, [.null, .null, .null, .int 0, .int 0]))] sz) := by
  refine Met.ofW (cc := cX9_init) (maxL := 1) (ret := none) (by decide +kernel) rfl ?_
  intro p e s m args below meth c s₁ B hml hv
  obtain ⟨rfl, hsz, hP, hK, hD0⟩ := hv
  have hx := B.exec
  have hb := B.bytes
  have hr := B.returns
  have hts0 := atoms_spec (ws := (Cond.code yX9_init cX9_init 1 none :: jgw)) B.pre
  have hts : ∀ w ∈ jgw, w.before _ s = true := fun w hw => hts0 w (List.mem_cons_of_mem _ hw)
  have hown : s.vm.findClass RX9 = some m.cls := findClass_of_methodNamed B.named
  have hlocks := B.notSynchronized
  have hin : meth.name = "<init>" := (name_of_methodNamed B.named B.method).1
  subst hsz
  have hD := hD0.self (sz := s.heap.size)
  generalize hAe : va_A [(h0, .inr (6, [.null, .null, .null, .int 0, .int 0]))] s.heap.size = A at hD ⊢
  have hA : ∀ q : Nat, s.heap.size ≤ q → A q := fun q h => by rw [← hAe]; exact Or.inr h
  have hS : va_S A s.heap s.heap [] := va_S.rf
  have hP : va_P (dC, dI) vwCl [(h0, .inr (6, [.null, .null, .null, .int 0, .int 0]))] s.heap := hP
  have hl := lv_entry ([.ref h0]) (n := 1) (Nat.le_of_ble_eq_true rfl)
  rw [lg_entry_eq]
  generalize (lg_sl ([.ref h0]) ++ List.replicate (1 - (lg_sl ([.ref h0])).length) Slot.unset).toArray = ls at hl ⊢
  have hl : lv_has ls 1 [(0, .ref h0)] := hl
  refine lv_aload_n hx hb dX9_init_0 rfl (lv_at hl 0 rfl) ?_
  refine W.objInit hx hb hown (hts _ wi_X9_1) (hts _ wj_Obj) (hts _ wj_ObjC) rfl (by rw [hml]; exact hl.1) rfl dX9_init_1 (Nat.le_of_ble_eq_true rfl) (Nat.le_of_ble_eq_true rfl) ?_
  refine W.eq (g2 := F0 m 4 ls []) rfl ?_
  refine lv_aload_n hx hb dX9_init_4 rfl (lv_at hl 0 rfl) ?_
  refine lv_bipush (v := 34) hx hb dX9_init_5 (by decide) ?_
  refine jn_int hx hb hts hK hP hD hS hA 34 (by decide) (by decide) (Nat.le_of_ble_eq_true rfl) (Nat.le_of_ble_eq_true rfl) (Nat.le_of_ble_eq_true rfl) dX9_init_7 (fun q1 H hP hD hS => ?_)
  have hP : va_P (dC, dI) vwCl [(h0, .inr (6, [.null, .null, .null, .int 0, .int 0])), (q1, .inl (cI, 34, .inl fun _ => 0))] H := hP
  have hD : va_D A [(h0, .inr (6, [.null, .null, .null, .int 0, .int 0])), (q1, .inl (cI, 34, .inl fun _ => 0))] := hD
  refine W.widen (k := 1) (n := 34) (Nat.le_of_ble_eq_true rfl) (Nat.le_of_ble_eq_true rfl) ?_
  refine va_putF (D := (dC, dI)) (ref := RX9) (ci := 6) (v := .ref q1) (ty := .array .int) (C := RX9) (T := TX9) (N := 5) hx hb hts wcX9.2.1 tyX9 tyX9_ok nmX9 hown hK hP hD hS 0 rfl rfl 0 (by decide) (hts _ wf_X9c_9) (fun x h => by first | exact h | (rw [wcX9.2.2 0 (by decide)] at h; exact h)) rfl hin rfl (by decide +kernel) rfl rfl (Nat.le_of_ble_eq_true rfl) dX9_init_9 (fun H locs hP hD hS => ?_)
  have hP : va_P (dC, dI) vwCl [(h0, .inr (6, [.ref q1, .null, .null, .int 0, .int 0])), (q1, .inl (cI, 34, .inl fun _ => 0))] H := hP
  have hD : va_D A [(h0, .inr (6, [.ref q1, .null, .null, .int 0, .int 0])), (q1, .inl (cI, 34, .inl fun _ => 0))] := hD
  refine lv_aload_n hx hb dX9_init_12 rfl (lv_at hl 0 rfl) ?_
  refine lv_iconst (v := 5) hx hb dX9_init_13 (by decide) ?_
  refine jn_int hx hb hts hK hP hD hS hA 5 (by decide) (by decide) (Nat.le_of_ble_eq_true rfl) (Nat.le_of_ble_eq_true rfl) (Nat.le_of_ble_eq_true rfl) dX9_init_14 (fun q2 H hP hD hS => ?_)
  have hP : va_P (dC, dI) vwCl [(h0, .inr (6, [.ref q1, .null, .null, .int 0, .int 0])), (q1, .inl (cI, 34, .inl fun _ => 0)), (q2, .inl (cI, 5, .inl fun _ => 0))] H := hP
  have hD : va_D A [(h0, .inr (6, [.ref q1, .null, .null, .int 0, .int 0])), (q1, .inl (cI, 34, .inl fun _ => 0)), (q2, .inl (cI, 5, .inl fun _ => 0))] := hD
  refine W.widen (k := 2) (n := 39) (Nat.le_of_ble_eq_true rfl) (Nat.le_of_ble_eq_true rfl) ?_
  refine va_putF (D := (dC, dI)) (ref := RX9) (ci := 6) (v := .ref q2) (ty := .array .int) (C := RX9) (T := TX9) (N := 5) hx hb hts wcX9.2.1 tyX9 tyX9_ok nmX9 hown hK hP hD hS 0 rfl rfl 1 (by decide) (hts _ wf_X9c_15) (fun x h => by first | exact h | (rw [wcX9.2.2 1 (by decide)] at h; exact h)) rfl hin rfl (by decide +kernel) rfl rfl (Nat.le_of_ble_eq_true rfl) dX9_init_16 (fun H locs hP hD hS => ?_)
  have hP : va_P (dC, dI) vwCl [(h0, .inr (6, [.ref q1, .ref q2, .null, .int 0, .int 0])), (q1, .inl (cI, 34, .inl fun _ => 0)), (q2, .inl (cI, 5, .inl fun _ => 0))] H := hP
  have hD : va_D A [(h0, .inr (6, [.ref q1, .ref q2, .null, .int 0, .int 0])), (q1, .inl (cI, 34, .inl fun _ => 0)), (q2, .inl (cI, 5, .inl fun _ => 0))] := hD
  refine lv_aload_n hx hb dX9_init_19 rfl (lv_at hl 0 rfl) ?_
  refine lv_bipush (v := 40) hx hb dX9_init_20 (by decide) ?_
  refine jn_int hx hb hts hK hP hD hS hA 40 (by decide) (by decide) (Nat.le_of_ble_eq_true rfl) (Nat.le_of_ble_eq_true rfl) (Nat.le_of_ble_eq_true rfl) dX9_init_22 (fun q3 H hP hD hS => ?_)
  have hP : va_P (dC, dI) vwCl [(h0, .inr (6, [.ref q1, .ref q2, .null, .int 0, .int 0])), (q1, .inl (cI, 34, .inl fun _ => 0)), (q2, .inl (cI, 5, .inl fun _ => 0)), (q3, .inl (cI, 40, .inl fun _ => 0))] H := hP
  have hD : va_D A [(h0, .inr (6, [.ref q1, .ref q2, .null, .int 0, .int 0])), (q1, .inl (cI, 34, .inl fun _ => 0)), (q2, .inl (cI, 5, .inl fun _ => 0)), (q3, .inl (cI, 40, .inl fun _ => 0))] := hD
  refine W.widen (k := 3) (n := 79) (Nat.le_of_ble_eq_true rfl) (Nat.le_of_ble_eq_true rfl) ?_
  refine va_putF (D := (dC, dI)) (ref := RX9) (ci := 6) (v := .ref q3) (ty := .array .int) (C := RX9) (T := TX9) (N := 5) hx hb hts wcX9.2.1 tyX9 tyX9_ok nmX9 hown hK hP hD hS 0 rfl rfl 2 (by decide) (hts _ wf_X9c_18) (fun x h => by first | exact h | (rw [wcX9.2.2 2 (by decide)] at h; exact h)) rfl hin rfl (by decide +kernel) rfl rfl (Nat.le_of_ble_eq_true rfl) dX9_init_24 (fun H locs hP hD hS => ?_)
  have hP : va_P (dC, dI) vwCl [(h0, .inr (6, [.ref q1, .ref q2, .ref q3, .int 0, .int 0])), (q1, .inl (cI, 34, .inl fun _ => 0)), (q2, .inl (cI, 5, .inl fun _ => 0)), (q3, .inl (cI, 40, .inl fun _ => 0))] H := hP
  have hD : va_D A [(h0, .inr (6, [.ref q1, .ref q2, .ref q3, .int 0, .int 0])), (q1, .inl (cI, 34, .inl fun _ => 0)), (q2, .inl (cI, 5, .inl fun _ => 0)), (q3, .inl (cI, 40, .inl fun _ => 0))] := hD
  refine lv_aload_n hx hb dX9_init_27 rfl (lv_at hl 0 rfl) ?_
  refine lv_iconst (v := 0) hx hb dX9_init_28 (by decide) ?_
  refine va_put (D := (dC, dI)) (ref := RX9) (ci := 6) (v := .int 0) (ty := .int) (C := RX9) (T := TX9) (N := 5) hx hb hts wcX9.2.1 tyX9 tyX9_ok nmX9 hown hK hP hD hS 0 rfl rfl 3 (by decide) (hts _ wf_X9c_21) (fun x h => by first | exact h | (rw [wcX9.2.2 3 (by decide)] at h; exact h)) rfl (by decide +kernel) rfl rfl (Nat.le_of_ble_eq_true rfl) dX9_init_29 (fun H locs hP hD hS => ?_)
  have hP : va_P (dC, dI) vwCl [(h0, .inr (6, [.ref q1, .ref q2, .ref q3, .int 0, .int 0])), (q1, .inl (cI, 34, .inl fun _ => 0)), (q2, .inl (cI, 5, .inl fun _ => 0)), (q3, .inl (cI, 40, .inl fun _ => 0))] H := hP
  have hD : va_D A [(h0, .inr (6, [.ref q1, .ref q2, .ref q3, .int 0, .int 0])), (q1, .inl (cI, 34, .inl fun _ => 0)), (q2, .inl (cI, 5, .inl fun _ => 0)), (q3, .inl (cI, 40, .inl fun _ => 0))] := hD
  refine lv_aload_n hx hb dX9_init_32 rfl (lv_at hl 0 rfl) ?_
  refine lv_iconst (v := 0) hx hb dX9_init_33 (by decide) ?_
  refine va_put (D := (dC, dI)) (ref := RX9) (ci := 6) (v := .int 0) (ty := .int) (C := RX9) (T := TX9) (N := 5) hx hb hts wcX9.2.1 tyX9 tyX9_ok nmX9 hown hK hP hD hS 0 rfl rfl 4 (by decide) (hts _ wf_X9c_25) (fun x h => by first | exact h | (rw [wcX9.2.2 4 (by decide)] at h; exact h)) rfl (by decide +kernel) rfl rfl (Nat.le_of_ble_eq_true rfl) dX9_init_34 (fun H locs hP hD hS => ?_)
  have hP : va_P (dC, dI) vwCl [(h0, .inr (6, [.ref q1, .ref q2, .ref q3, .int 0, .int 0])), (q1, .inl (cI, 34, .inl fun _ => 0)), (q2, .inl (cI, 5, .inl fun _ => 0)), (q3, .inl (cI, 40, .inl fun _ => 0))] H := hP
  have hD : va_D A [(h0, .inr (6, [.ref q1, .ref q2, .ref q3, .int 0, .int 0])), (q1, .inl (cI, 34, .inl fun _ => 0)), (q2, .inl (cI, 5, .inl fun _ => 0)), (q3, .inl (cI, 40, .inl fun _ => 0))] := hD
  have hP9 := hP.sub (ws' := [(h0, .inr (6, [.ref q1, .ref q2, .ref q3, .int 0, .int 0])), (q1, .inl (cI, 34, .inl fun _ => 0)), (q2, .inl (cI, 5, .inl fun _ => 0)), (q3, .inl (cI, 40, .inl fun _ => 0))]) [0, 1, 2, 3] rfl
  have hD9 := hD.sub (ws' := [(h0, .inr (6, [.ref q1, .ref q2, .ref q3, .int 0, .int 0])), (q1, .inl (cI, 34, .inl fun _ => 0)), (q2, .inl (cI, 5, .inl fun _ => 0)), (q3, .inl (cI, 40, .inl fun _ => 0))]) [0, 1, 2, 3] (by decide) rfl
  exact W.vret hx hb hr (fun t ht hW => ⟨⟨(), rfl, trivial, q1, q2, q3, by rw [ht]; exact hP9, va_K.moved hW.alike hK, hD9⟩, hS.F ht⟩) hS.2.2 dX9_init_37
set_option maxHeartbeats 4000000 in
set_option maxRecDepth 100000 in
theorem c_X3_init (l : Launch) (dC : Nat → ClassId) (dI : Nat → Nat → Nat) (cI cJ cZ cR cH : ClassId) (h0 sz : Nat) (a0 : Nat) : Met l yX3_init (Cond.code yX3_init cX3_init 2 none :: jgw) { frames := 3, cells := 8, slots := 5930, locals := 100 } (va_Pc [.ref h0, .ref a0] (fun U => U.heap.size = sz ∧ va_P (dC, dI) vwCl [(h0, .inr (2, [.null, .null, .null, .null, .null, .null, .null, .null, .null, .int 0, .int 0, .int 0, .int 0, .long 0]))] U.heap ∧ va_K (dC, dI) vwCl (jT5 cI cJ cZ cR cH) U ∧ va_D (fun _ => True) [(h0, .inr (2, [.null, .null, .null, .null, .null, .null, .null, .null, .null, .int 0, .int 0, .int 0, .int 0, .long 0]))])) (va_Qv (fun _ : Unit => True) (fun _ t => ∃ (q1 q2 q3 q4 q5 q6 q7 q8 : Nat), va_P (dC, dI) vwCl [(h0, .inr (2, [.ref a0, .ref q1, .ref q2, .ref q3, .ref q4, .ref q5, .ref q6, .ref q7, .ref q8, .int 14, .int 0, .int 3, .int 0, .long 0])), (q1, .inl (cI, 34, .inl fun _ => 0)), (q2, .inl (cI, 34, .inl fun _ => 0)), (q3, .inl (cJ, 40, .inr (.inl fun _ => 0))), (q4, .inl (cJ, 90, .inr (.inl fun _ => 0))), (q5, .inl (cJ, 90, .inr (.inl fun _ => 0))), (q6, .inl (cJ, 10, .inr (.inl fun _ => 0))), (q8, .inl (cJ, 5120, .inr (.inl fun _ => 0))), (q7, .inl (cJ, 512, .inr (.inl fun j => if j < 512 then (-1) else (fun _ => 0) j)))] t.heap ∧ va_K (dC, dI) vwCl (jT5 cI cJ cZ cR cH) t ∧ va_D (va_A [(h0, .inr (2, [.null, .null, .null, .null, .null, .null, .null, .null, .null, .int 0, .int 0, .int 0, .int 0, .long 0]))] sz) [(h0, .inr (2, [.ref a0, .ref q1, .ref q2, .ref q3, .ref q4, .ref q5, .ref q6, .ref q7, .ref q8, .int 14, .int 0, .int 3, .int 0, .long 0])), (q1, .inl (cI, 34, .inl fun _ => 0)), (q2, .inl (cI, 34, .inl fun _ => 0)), (q3, .inl (cJ, 40, .inr (.inl fun _ => 0))), (q4, .inl (cJ, 90, .inr (.inl fun _ => 0))), (q5, .inl (cJ, 90, .inr (.inl fun _ => 0))), (q6, .inl (cJ, 10, .inr (.inl fun _ => 0))), (q8, .inl (cJ, 5120, .inr (.inl fun _ => 0))), (q7, .inl (cJ, 512, .inr (.inl fun j => if j < 512 then (-1) else (fun _ => 0) j)))]) (va_A [(h0, .inr (2, [.null, .null, .null, .null, .null, .null, .null, .null, .null, .int 0, .int 0, .int 0, .int 0, .long 0]))] sz)) 8 5930 (va_A [(h0, .inr (2, [.null, .null, .null, .null, .null, .null, .null, .null, .null, .int 0, .int 0, .int 0, .int 0, .long 0]))] sz) := by
  refine Met.ofW (cc := cX3_init) (maxL := 2) (ret := none) (by decide +kernel) rfl ?_
  intro p e s m args below meth c s₁ B hml hv
  obtain ⟨rfl, hsz, hP, hK, hD0⟩ := hv
  have hx := B.exec
  have hb := B.bytes
  have hr := B.returns
  have hts0 := atoms_spec (ws := (Cond.code yX3_init cX3_init 2 none :: jgw)) B.pre
  have hts : ∀ w ∈ jgw, w.before _ s = true := fun w hw => hts0 w (List.mem_cons_of_mem _ hw)
  have hown : s.vm.findClass RX3 = some m.cls := findClass_of_methodNamed B.named
  have hlocks := B.notSynchronized
  have hin : meth.name = "<init>" := (name_of_methodNamed B.named B.method).1
  subst hsz
  have hD := hD0.self (sz := s.heap.size)
  generalize hAe : va_A [(h0, .inr (2, [.null, .null, .null, .null, .null, .null, .null, .null, .null, .int 0, .int 0, .int 0, .int 0, .long 0]))] s.heap.size = A at hD ⊢
  have hA : ∀ q : Nat, s.heap.size ≤ q → A q := fun q h => by rw [← hAe]; exact Or.inr h
  have hS : va_S A s.heap s.heap [] := va_S.rf
  have hP : va_P (dC, dI) vwCl [(h0, .inr (2, [.null, .null, .null, .null, .null, .null, .null, .null, .null, .int 0, .int 0, .int 0, .int 0, .long 0]))] s.heap := hP
  have hl := lv_entry ([.ref h0, .ref a0]) (n := 2) (Nat.le_of_ble_eq_true rfl)
  rw [lg_entry_eq]
  generalize (lg_sl ([.ref h0, .ref a0]) ++ List.replicate (2 - (lg_sl ([.ref h0, .ref a0])).length) Slot.unset).toArray = ls at hl ⊢
  have hl : lv_has ls 2 [(0, .ref h0), (1, .ref a0)] := hl
  refine lv_aload_n hx hb dX3_init_0 rfl (lv_at hl 0 rfl) ?_
  refine W.objInit hx hb hown (hts _ wi_X3_5) (hts _ wj_Obj) (hts _ wj_ObjC) rfl (by rw [hml]; exact hl.1) rfl dX3_init_1 (Nat.le_of_ble_eq_true rfl) (Nat.le_of_ble_eq_true rfl) ?_
  refine W.eq (g2 := F0 m 4 ls []) rfl ?_
  refine lv_aload_n hx hb dX3_init_4 rfl (lv_at hl 0 rfl) ?_
  refine lv_bipush (v := 34) hx hb dX3_init_5 (by decide) ?_
  refine jn_int hx hb hts hK hP hD hS hA 34 (by decide) (by decide) (Nat.le_of_ble_eq_true rfl) (Nat.le_of_ble_eq_true rfl) (Nat.le_of_ble_eq_true rfl) dX3_init_7 (fun q1 H hP hD hS => ?_)
  have hP : va_P (dC, dI) vwCl [(h0, .inr (2, [.null, .null, .null, .null, .null, .null, .null, .null, .null, .int 0, .int 0, .int 0, .int 0, .long 0])), (q1, .inl (cI, 34, .inl fun _ => 0))] H := hP
  have hD : va_D A [(h0, .inr (2, [.null, .null, .null, .null, .null, .null, .null, .null, .null, .int 0, .int 0, .int 0, .int 0, .long 0])), (q1, .inl (cI, 34, .inl fun _ => 0))] := hD
  refine W.widen (k := 1) (n := 34) (Nat.le_of_ble_eq_true rfl) (Nat.le_of_ble_eq_true rfl) ?_
  refine va_putF (D := (dC, dI)) (ref := RX3) (ci := 2) (v := .ref q1) (ty := .array .int) (C := RX3) (T := TX3) (N := 14) hx hb hts wcX3.2.1 tyX3 tyX3_ok nmX3 hown hK hP hD hS 0 rfl rfl 1 (by decide) (hts _ wf_X3c_13) (fun x h => by first | exact h | (rw [wcX3.2.2 1 (by decide)] at h; exact h)) rfl hin rfl (by decide +kernel) rfl rfl (Nat.le_of_ble_eq_true rfl) dX3_init_9 (fun H locs hP hD hS => ?_)
  have hP : va_P (dC, dI) vwCl [(h0, .inr (2, [.null, .ref q1, .null, .null, .null, .null, .null, .null, .null, .int 0, .int 0, .int 0, .int 0, .long 0])), (q1, .inl (cI, 34, .inl fun _ => 0))] H := hP
  have hD : va_D A [(h0, .inr (2, [.null, .ref q1, .null, .null, .null, .null, .null, .null, .null, .int 0, .int 0, .int 0, .int 0, .long 0])), (q1, .inl (cI, 34, .inl fun _ => 0))] := hD
  refine lv_aload_n hx hb dX3_init_12 rfl (lv_at hl 0 rfl) ?_
  refine lv_bipush (v := 34) hx hb dX3_init_13 (by decide) ?_
  refine jn_int hx hb hts hK hP hD hS hA 34 (by decide) (by decide) (Nat.le_of_ble_eq_true rfl) (Nat.le_of_ble_eq_true rfl) (Nat.le_of_ble_eq_true rfl) dX3_init_15 (fun q2 H hP hD hS => ?_)
  have hP : va_P (dC, dI) vwCl [(h0, .inr (2, [.null, .ref q1, .null, .null, .null, .null, .null, .null, .null, .int 0, .int 0, .int 0, .int 0, .long 0])), (q1, .inl (cI, 34, .inl fun _ => 0)), (q2, .inl (cI, 34, .inl fun _ => 0))] H := hP
  have hD : va_D A [(h0, .inr (2, [.null, .ref q1, .null, .null, .null, .null, .null, .null, .null, .int 0, .int 0, .int 0, .int 0, .long 0])), (q1, .inl (cI, 34, .inl fun _ => 0)), (q2, .inl (cI, 34, .inl fun _ => 0))] := hD
  refine W.widen (k := 2) (n := 68) (Nat.le_of_ble_eq_true rfl) (Nat.le_of_ble_eq_true rfl) ?_
  refine va_putF (D := (dC, dI)) (ref := RX3) (ci := 2) (v := .ref q2) (ty := .array .int) (C := RX3) (T := TX3) (N := 14) hx hb hts wcX3.2.1 tyX3 tyX3_ok nmX3 hown hK hP hD hS 0 rfl rfl 2 (by decide) (hts _ wf_X3c_17) (fun x h => by first | exact h | (rw [wcX3.2.2 2 (by decide)] at h; exact h)) rfl hin rfl (by decide +kernel) rfl rfl (Nat.le_of_ble_eq_true rfl) dX3_init_17 (fun H locs hP hD hS => ?_)
  have hP : va_P (dC, dI) vwCl [(h0, .inr (2, [.null, .ref q1, .ref q2, .null, .null, .null, .null, .null, .null, .int 0, .int 0, .int 0, .int 0, .long 0])), (q1, .inl (cI, 34, .inl fun _ => 0)), (q2, .inl (cI, 34, .inl fun _ => 0))] H := hP
  have hD : va_D A [(h0, .inr (2, [.null, .ref q1, .ref q2, .null, .null, .null, .null, .null, .null, .int 0, .int 0, .int 0, .int 0, .long 0])), (q1, .inl (cI, 34, .inl fun _ => 0)), (q2, .inl (cI, 34, .inl fun _ => 0))] := hD
  refine lv_aload_n hx hb dX3_init_20 rfl (lv_at hl 0 rfl) ?_
  refine lv_bipush (v := 40) hx hb dX3_init_21 (by decide) ?_
  refine jn_long hx hb hts hK hP hD hS hA 40 (by decide) (by decide) (Nat.le_of_ble_eq_true rfl) (Nat.le_of_ble_eq_true rfl) (Nat.le_of_ble_eq_true rfl) dX3_init_23 (fun q3 H hP hD hS => ?_)
  have hP : va_P (dC, dI) vwCl [(h0, .inr (2, [.null, .ref q1, .ref q2, .null, .null, .null, .null, .null, .null, .int 0, .int 0, .int 0, .int 0, .long 0])), (q1, .inl (cI, 34, .inl fun _ => 0)), (q2, .inl (cI, 34, .inl fun _ => 0)), (q3, .inl (cJ, 40, .inr (.inl fun _ => 0)))] H := hP
  have hD : va_D A [(h0, .inr (2, [.null, .ref q1, .ref q2, .null, .null, .null, .null, .null, .null, .int 0, .int 0, .int 0, .int 0, .long 0])), (q1, .inl (cI, 34, .inl fun _ => 0)), (q2, .inl (cI, 34, .inl fun _ => 0)), (q3, .inl (cJ, 40, .inr (.inl fun _ => 0)))] := hD
  refine W.widen (k := 3) (n := 108) (Nat.le_of_ble_eq_true rfl) (Nat.le_of_ble_eq_true rfl) ?_
  refine va_putF (D := (dC, dI)) (ref := RX3) (ci := 2) (v := .ref q3) (ty := .array .long) (C := RX3) (T := TX3) (N := 14) hx hb hts wcX3.2.1 tyX3 tyX3_ok nmX3 hown hK hP hD hS 0 rfl rfl 3 (by decide) (hts _ wf_X3c_20) (fun x h => by first | exact h | (rw [wcX3.2.2 3 (by decide)] at h; exact h)) rfl hin rfl (by decide +kernel) rfl rfl (Nat.le_of_ble_eq_true rfl) dX3_init_25 (fun H locs hP hD hS => ?_)
  have hP : va_P (dC, dI) vwCl [(h0, .inr (2, [.null, .ref q1, .ref q2, .ref q3, .null, .null, .null, .null, .null, .int 0, .int 0, .int 0, .int 0, .long 0])), (q1, .inl (cI, 34, .inl fun _ => 0)), (q2, .inl (cI, 34, .inl fun _ => 0)), (q3, .inl (cJ, 40, .inr (.inl fun _ => 0)))] H := hP
  have hD : va_D A [(h0, .inr (2, [.null, .ref q1, .ref q2, .ref q3, .null, .null, .null, .null, .null, .int 0, .int 0, .int 0, .int 0, .long 0])), (q1, .inl (cI, 34, .inl fun _ => 0)), (q2, .inl (cI, 34, .inl fun _ => 0)), (q3, .inl (cJ, 40, .inr (.inl fun _ => 0)))] := hD
  refine lv_aload_n hx hb dX3_init_28 rfl (lv_at hl 0 rfl) ?_
  refine lv_bipush (v := 90) hx hb dX3_init_29 (by decide) ?_
  refine jn_long hx hb hts hK hP hD hS hA 90 (by decide) (by decide) (Nat.le_of_ble_eq_true rfl) (Nat.le_of_ble_eq_true rfl) (Nat.le_of_ble_eq_true rfl) dX3_init_31 (fun q4 H hP hD hS => ?_)
  have hP : va_P (dC, dI) vwCl [(h0, .inr (2, [.null, .ref q1, .ref q2, .ref q3, .null, .null, .null, .null, .null, .int 0, .int 0, .int 0, .int 0, .long 0])), (q1, .inl (cI, 34, .inl fun _ => 0)), (q2, .inl (cI, 34, .inl fun _ => 0)), (q3, .inl (cJ, 40, .inr (.inl fun _ => 0))), (q4, .inl (cJ, 90, .inr (.inl fun _ => 0)))] H := hP
  have hD : va_D A [(h0, .inr (2, [.null, .ref q1, .ref q2, .ref q3, .null, .null, .null, .null, .null, .int 0, .int 0, .int 0, .int 0, .long 0])), (q1, .inl (cI, 34, .inl fun _ => 0)), (q2, .inl (cI, 34, .inl fun _ => 0)), (q3, .inl (cJ, 40, .inr (.inl fun _ => 0))), (q4, .inl (cJ, 90, .inr (.inl fun _ => 0)))] := hD
  refine W.widen (k := 4) (n := 198) (Nat.le_of_ble_eq_true rfl) (Nat.le_of_ble_eq_true rfl) ?_
  refine va_putF (D := (dC, dI)) (ref := RX3) (ci := 2) (v := .ref q4) (ty := .array .long) (C := RX3) (T := TX3) (N := 14) hx hb hts wcX3.2.1 tyX3 tyX3_ok nmX3 hown hK hP hD hS 0 rfl rfl 4 (by decide) (hts _ wf_X3c_24) (fun x h => by first | exact h | (rw [wcX3.2.2 4 (by decide)] at h; exact h)) rfl hin rfl (by decide +kernel) rfl rfl (Nat.le_of_ble_eq_true rfl) dX3_init_33 (fun H locs hP hD hS => ?_)
  have hP : va_P (dC, dI) vwCl [(h0, .inr (2, [.null, .ref q1, .ref q2, .ref q3, .ref q4, .null, .null, .null, .null, .int 0, .int 0, .int 0, .int 0, .long 0])), (q1, .inl (cI, 34, .inl fun _ => 0)), (q2, .inl (cI, 34, .inl fun _ => 0)), (q3, .inl (cJ, 40, .inr (.inl fun _ => 0))), (q4, .inl (cJ, 90, .inr (.inl fun _ => 0)))] H := hP
  have hD : va_D A [(h0, .inr (2, [.null, .ref q1, .ref q2, .ref q3, .ref q4, .null, .null, .null, .null, .int 0, .int 0, .int 0, .int 0, .long 0])), (q1, .inl (cI, 34, .inl fun _ => 0)), (q2, .inl (cI, 34, .inl fun _ => 0)), (q3, .inl (cJ, 40, .inr (.inl fun _ => 0))), (q4, .inl (cJ, 90, .inr (.inl fun _ => 0)))] := hD
  refine lv_aload_n hx hb dX3_init_36 rfl (lv_at hl 0 rfl) ?_
  refine lv_bipush (v := 90) hx hb dX3_init_37 (by decide) ?_
  refine jn_long hx hb hts hK hP hD hS hA 90 (by decide) (by decide) (Nat.le_of_ble_eq_true rfl) (Nat.le_of_ble_eq_true rfl) (Nat.le_of_ble_eq_true rfl) dX3_init_39 (fun q5 H hP hD hS => ?_)
  have hP : va_P (dC, dI) vwCl [(h0, .inr (2, [.null, .ref q1, .ref q2, .ref q3, .ref q4, .null, .null, .null, .null, .int 0, .int 0, .int 0, .int 0, .long 0])), (q1, .inl (cI, 34, .inl fun _ => 0)), (q2, .inl (cI, 34, .inl fun _ => 0)), (q3, .inl (cJ, 40, .inr (.inl fun _ => 0))), (q4, .inl (cJ, 90, .inr (.inl fun _ => 0))), (q5, .inl (cJ, 90, .inr (.inl fun _ => 0)))] H := hP
  have hD : va_D A [(h0, .inr (2, [.null, .ref q1, .ref q2, .ref q3, .ref q4, .null, .null, .null, .null, .int 0, .int 0, .int 0, .int 0, .long 0])), (q1, .inl (cI, 34, .inl fun _ => 0)), (q2, .inl (cI, 34, .inl fun _ => 0)), (q3, .inl (cJ, 40, .inr (.inl fun _ => 0))), (q4, .inl (cJ, 90, .inr (.inl fun _ => 0))), (q5, .inl (cJ, 90, .inr (.inl fun _ => 0)))] := hD
  refine W.widen (k := 5) (n := 288) (Nat.le_of_ble_eq_true rfl) (Nat.le_of_ble_eq_true rfl) ?_
  refine va_putF (D := (dC, dI)) (ref := RX3) (ci := 2) (v := .ref q5) (ty := .array .long) (C := RX3) (T := TX3) (N := 14) hx hb hts wcX3.2.1 tyX3 tyX3_ok nmX3 hown hK hP hD hS 0 rfl rfl 5 (by decide) (hts _ wf_X3c_27) (fun x h => by first | exact h | (rw [wcX3.2.2 5 (by decide)] at h; exact h)) rfl hin rfl (by decide +kernel) rfl rfl (Nat.le_of_ble_eq_true rfl) dX3_init_41 (fun H locs hP hD hS => ?_)
  have hP : va_P (dC, dI) vwCl [(h0, .inr (2, [.null, .ref q1, .ref q2, .ref q3, .ref q4, .ref q5, .null, .null, .null, .int 0, .int 0, .int 0, .int 0, .long 0])), (q1, .inl (cI, 34, .inl fun _ => 0)), (q2, .inl (cI, 34, .inl fun _ => 0)), (q3, .inl (cJ, 40, .inr (.inl fun _ => 0))), (q4, .inl (cJ, 90, .inr (.inl fun _ => 0))), (q5, .inl (cJ, 90, .inr (.inl fun _ => 0)))] H := hP
  have hD : va_D A [(h0, .inr (2, [.null, .ref q1, .ref q2, .ref q3, .ref q4, .ref q5, .null, .null, .null, .int 0, .int 0, .int 0, .int 0, .long 0])), (q1, .inl (cI, 34, .inl fun _ => 0)), (q2, .inl (cI, 34, .inl fun _ => 0)), (q3, .inl (cJ, 40, .inr (.inl fun _ => 0))), (q4, .inl (cJ, 90, .inr (.inl fun _ => 0))), (q5, .inl (cJ, 90, .inr (.inl fun _ => 0)))] := hD
  refine lv_aload_n hx hb dX3_init_44 rfl (lv_at hl 0 rfl) ?_
  refine lv_bipush (v := 10) hx hb dX3_init_45 (by decide) ?_
  refine jn_long hx hb hts hK hP hD hS hA 10 (by decide) (by decide) (Nat.le_of_ble_eq_true rfl) (Nat.le_of_ble_eq_true rfl) (Nat.le_of_ble_eq_true rfl) dX3_init_47 (fun q6 H hP hD hS => ?_)
  have hP : va_P (dC, dI) vwCl [(h0, .inr (2, [.null, .ref q1, .ref q2, .ref q3, .ref q4, .ref q5, .null, .null, .null, .int 0, .int 0, .int 0, .int 0, .long 0])), (q1, .inl (cI, 34, .inl fun _ => 0)), (q2, .inl (cI, 34, .inl fun _ => 0)), (q3, .inl (cJ, 40, .inr (.inl fun _ => 0))), (q4, .inl (cJ, 90, .inr (.inl fun _ => 0))), (q5, .inl (cJ, 90, .inr (.inl fun _ => 0))), (q6, .inl (cJ, 10, .inr (.inl fun _ => 0)))] H := hP
  have hD : va_D A [(h0, .inr (2, [.null, .ref q1, .ref q2, .ref q3, .ref q4, .ref q5, .null, .null, .null, .int 0, .int 0, .int 0, .int 0, .long 0])), (q1, .inl (cI, 34, .inl fun _ => 0)), (q2, .inl (cI, 34, .inl fun _ => 0)), (q3, .inl (cJ, 40, .inr (.inl fun _ => 0))), (q4, .inl (cJ, 90, .inr (.inl fun _ => 0))), (q5, .inl (cJ, 90, .inr (.inl fun _ => 0))), (q6, .inl (cJ, 10, .inr (.inl fun _ => 0)))] := hD
  refine W.widen (k := 6) (n := 298) (Nat.le_of_ble_eq_true rfl) (Nat.le_of_ble_eq_true rfl) ?_
  refine va_putF (D := (dC, dI)) (ref := RX3) (ci := 2) (v := .ref q6) (ty := .array .long) (C := RX3) (T := TX3) (N := 14) hx hb hts wcX3.2.1 tyX3 tyX3_ok nmX3 hown hK hP hD hS 0 rfl rfl 6 (by decide) (hts _ wf_X3c_30) (fun x h => by first | exact h | (rw [wcX3.2.2 6 (by decide)] at h; exact h)) rfl hin rfl (by decide +kernel) rfl rfl (Nat.le_of_ble_eq_true rfl) dX3_init_49 (fun H locs hP hD hS => ?_)
  have hP : va_P (dC, dI) vwCl [(h0, .inr (2, [.null, .ref q1, .ref q2, .ref q3, .ref q4, .ref q5, .ref q6, .null, .null, .int 0, .int 0, .int 0, .int 0, .long 0])), (q1, .inl (cI, 34, .inl fun _ => 0)), (q2, .inl (cI, 34, .inl fun _ => 0)), (q3, .inl (cJ, 40, .inr (.inl fun _ => 0))), (q4, .inl (cJ, 90, .inr (.inl fun _ => 0))), (q5, .inl (cJ, 90, .inr (.inl fun _ => 0))), (q6, .inl (cJ, 10, .inr (.inl fun _ => 0)))] H := hP
  have hD : va_D A [(h0, .inr (2, [.null, .ref q1, .ref q2, .ref q3, .ref q4, .ref q5, .ref q6, .null, .null, .int 0, .int 0, .int 0, .int 0, .long 0])), (q1, .inl (cI, 34, .inl fun _ => 0)), (q2, .inl (cI, 34, .inl fun _ => 0)), (q3, .inl (cJ, 40, .inr (.inl fun _ => 0))), (q4, .inl (cJ, 90, .inr (.inl fun _ => 0))), (q5, .inl (cJ, 90, .inr (.inl fun _ => 0))), (q6, .inl (cJ, 10, .inr (.inl fun _ => 0)))] := hD
  refine lv_aload_n hx hb dX3_init_52 rfl (lv_at hl 0 rfl) ?_
  refine lv_sipush (v := 512) hx hb dX3_init_53 (by decide) ?_
  refine jn_long hx hb hts hK hP hD hS hA 512 (by decide) (by decide) (Nat.le_of_ble_eq_true rfl) (Nat.le_of_ble_eq_true rfl) (Nat.le_of_ble_eq_true rfl) dX3_init_56 (fun q7 H hP hD hS => ?_)
  have hP : va_P (dC, dI) vwCl [(h0, .inr (2, [.null, .ref q1, .ref q2, .ref q3, .ref q4, .ref q5, .ref q6, .null, .null, .int 0, .int 0, .int 0, .int 0, .long 0])), (q1, .inl (cI, 34, .inl fun _ => 0)), (q2, .inl (cI, 34, .inl fun _ => 0)), (q3, .inl (cJ, 40, .inr (.inl fun _ => 0))), (q4, .inl (cJ, 90, .inr (.inl fun _ => 0))), (q5, .inl (cJ, 90, .inr (.inl fun _ => 0))), (q6, .inl (cJ, 10, .inr (.inl fun _ => 0))), (q7, .inl (cJ, 512, .inr (.inl fun _ => 0)))] H := hP
  have hD : va_D A [(h0, .inr (2, [.null, .ref q1, .ref q2, .ref q3, .ref q4, .ref q5, .ref q6, .null, .null, .int 0, .int 0, .int 0, .int 0, .long 0])), (q1, .inl (cI, 34, .inl fun _ => 0)), (q2, .inl (cI, 34, .inl fun _ => 0)), (q3, .inl (cJ, 40, .inr (.inl fun _ => 0))), (q4, .inl (cJ, 90, .inr (.inl fun _ => 0))), (q5, .inl (cJ, 90, .inr (.inl fun _ => 0))), (q6, .inl (cJ, 10, .inr (.inl fun _ => 0))), (q7, .inl (cJ, 512, .inr (.inl fun _ => 0)))] := hD
  refine W.widen (k := 7) (n := 810) (Nat.le_of_ble_eq_true rfl) (Nat.le_of_ble_eq_true rfl) ?_
  refine va_putF (D := (dC, dI)) (ref := RX3) (ci := 2) (v := .ref q7) (ty := .array .long) (C := RX3) (T := TX3) (N := 14) hx hb hts wcX3.2.1 tyX3 tyX3_ok nmX3 hown hK hP hD hS 0 rfl rfl 7 (by decide) (hts _ wf_X3c_33) (fun x h => by first | exact h | (rw [wcX3.2.2 7 (by decide)] at h; exact h)) rfl hin rfl (by decide +kernel) rfl rfl (Nat.le_of_ble_eq_true rfl) dX3_init_58 (fun H locs hP hD hS => ?_)
  have hP : va_P (dC, dI) vwCl [(h0, .inr (2, [.null, .ref q1, .ref q2, .ref q3, .ref q4, .ref q5, .ref q6, .ref q7, .null, .int 0, .int 0, .int 0, .int 0, .long 0])), (q1, .inl (cI, 34, .inl fun _ => 0)), (q2, .inl (cI, 34, .inl fun _ => 0)), (q3, .inl (cJ, 40, .inr (.inl fun _ => 0))), (q4, .inl (cJ, 90, .inr (.inl fun _ => 0))), (q5, .inl (cJ, 90, .inr (.inl fun _ => 0))), (q6, .inl (cJ, 10, .inr (.inl fun _ => 0))), (q7, .inl (cJ, 512, .inr (.inl fun _ => 0)))] H := hP
  have hD : va_D A [(h0, .inr (2, [.null, .ref q1, .ref q2, .ref q3, .ref q4, .ref q5, .ref q6, .ref q7, .null, .int 0, .int 0, .int 0, .int 0, .long 0])), (q1, .inl (cI, 34, .inl fun _ => 0)), (q2, .inl (cI, 34, .inl fun _ => 0)), (q3, .inl (cJ, 40, .inr (.inl fun _ => 0))), (q4, .inl (cJ, 90, .inr (.inl fun _ => 0))), (q5, .inl (cJ, 90, .inr (.inl fun _ => 0))), (q6, .inl (cJ, 10, .inr (.inl fun _ => 0))), (q7, .inl (cJ, 512, .inr (.inl fun _ => 0)))] := hD
  refine lv_aload_n hx hb dX3_init_61 rfl (lv_at hl 0 rfl) ?_
  refine lv_sipush (v := 5120) hx hb dX3_init_62 (by decide) ?_
  refine jn_long hx hb hts hK hP hD hS hA 5120 (by decide) (by decide) (Nat.le_of_ble_eq_true rfl) (Nat.le_of_ble_eq_true rfl) (Nat.le_of_ble_eq_true rfl) dX3_init_65 (fun q8 H hP hD hS => ?_)
  have hP : va_P (dC, dI) vwCl [(h0, .inr (2, [.null, .ref q1, .ref q2, .ref q3, .ref q4, .ref q5, .ref q6, .ref q7, .null, .int 0, .int 0, .int 0, .int 0, .long 0])), (q1, .inl (cI, 34, .inl fun _ => 0)), (q2, .inl (cI, 34, .inl fun _ => 0)), (q3, .inl (cJ, 40, .inr (.inl fun _ => 0))), (q4, .inl (cJ, 90, .inr (.inl fun _ => 0))), (q5, .inl (cJ, 90, .inr (.inl fun _ => 0))), (q6, .inl (cJ, 10, .inr (.inl fun _ => 0))), (q7, .inl (cJ, 512, .inr (.inl fun _ => 0))), (q8, .inl (cJ, 5120, .inr (.inl fun _ => 0)))] H := hP
  have hD : va_D A [(h0, .inr (2, [.null, .ref q1, .ref q2, .ref q3, .ref q4, .ref q5, .ref q6, .ref q7, .null, .int 0, .int 0, .int 0, .int 0, .long 0])), (q1, .inl (cI, 34, .inl fun _ => 0)), (q2, .inl (cI, 34, .inl fun _ => 0)), (q3, .inl (cJ, 40, .inr (.inl fun _ => 0))), (q4, .inl (cJ, 90, .inr (.inl fun _ => 0))), (q5, .inl (cJ, 90, .inr (.inl fun _ => 0))), (q6, .inl (cJ, 10, .inr (.inl fun _ => 0))), (q7, .inl (cJ, 512, .inr (.inl fun _ => 0))), (q8, .inl (cJ, 5120, .inr (.inl fun _ => 0)))] := hD
  refine W.widen (k := 8) (n := 5930) (Nat.le_of_ble_eq_true rfl) (Nat.le_of_ble_eq_true rfl) ?_
  refine va_putF (D := (dC, dI)) (ref := RX3) (ci := 2) (v := .ref q8) (ty := .array .long) (C := RX3) (T := TX3) (N := 14) hx hb hts wcX3.2.1 tyX3 tyX3_ok nmX3 hown hK hP hD hS 0 rfl rfl 8 (by decide) (hts _ wf_X3c_36) (fun x h => by first | exact h | (rw [wcX3.2.2 8 (by decide)] at h; exact h)) rfl hin rfl (by decide +kernel) rfl rfl (Nat.le_of_ble_eq_true rfl) dX3_init_67 (fun H locs hP hD hS => ?_)
  have hP : va_P (dC, dI) vwCl [(h0, .inr (2, [.null, .ref q1, .ref q2, .ref q3, .ref q4, .ref q5, .ref q6, .ref q7, .ref q8, .int 0, .int 0, .int 0, .int 0, .long 0])), (q1, .inl (cI, 34, .inl fun _ => 0)), (q2, .inl (cI, 34, .inl fun _ => 0)), (q3, .inl (cJ, 40, .inr (.inl fun _ => 0))), (q4, .inl (cJ, 90, .inr (.inl fun _ => 0))), (q5, .inl (cJ, 90, .inr (.inl fun _ => 0))), (q6, .inl (cJ, 10, .inr (.inl fun _ => 0))), (q7, .inl (cJ, 512, .inr (.inl fun _ => 0))), (q8, .inl (cJ, 5120, .inr (.inl fun _ => 0)))] H := hP
  have hD : va_D A [(h0, .inr (2, [.null, .ref q1, .ref q2, .ref q3, .ref q4, .ref q5, .ref q6, .ref q7, .ref q8, .int 0, .int 0, .int 0, .int 0, .long 0])), (q1, .inl (cI, 34, .inl fun _ => 0)), (q2, .inl (cI, 34, .inl fun _ => 0)), (q3, .inl (cJ, 40, .inr (.inl fun _ => 0))), (q4, .inl (cJ, 90, .inr (.inl fun _ => 0))), (q5, .inl (cJ, 90, .inr (.inl fun _ => 0))), (q6, .inl (cJ, 10, .inr (.inl fun _ => 0))), (q7, .inl (cJ, 512, .inr (.inl fun _ => 0))), (q8, .inl (cJ, 5120, .inr (.inl fun _ => 0)))] := hD
  refine lv_aload_n hx hb dX3_init_70 rfl (lv_at hl 0 rfl) ?_
  refine lv_bipush (v := 14) hx hb dX3_init_71 (by decide) ?_
  refine va_put (D := (dC, dI)) (ref := RX3) (ci := 2) (v := .int 14) (ty := .int) (C := RX3) (T := TX3) (N := 14) hx hb hts wcX3.2.1 tyX3 tyX3_ok nmX3 hown hK hP hD hS 0 rfl rfl 9 (by decide) (hts _ wf_X3c_39) (fun x h => by first | exact h | (rw [wcX3.2.2 9 (by decide)] at h; exact h)) rfl (by decide +kernel) rfl rfl (Nat.le_of_ble_eq_true rfl) dX3_init_73 (fun H locs hP hD hS => ?_)
  have hP : va_P (dC, dI) vwCl [(h0, .inr (2, [.null, .ref q1, .ref q2, .ref q3, .ref q4, .ref q5, .ref q6, .ref q7, .ref q8, .int 14, .int 0, .int 0, .int 0, .long 0])), (q1, .inl (cI, 34, .inl fun _ => 0)), (q2, .inl (cI, 34, .inl fun _ => 0)), (q3, .inl (cJ, 40, .inr (.inl fun _ => 0))), (q4, .inl (cJ, 90, .inr (.inl fun _ => 0))), (q5, .inl (cJ, 90, .inr (.inl fun _ => 0))), (q6, .inl (cJ, 10, .inr (.inl fun _ => 0))), (q7, .inl (cJ, 512, .inr (.inl fun _ => 0))), (q8, .inl (cJ, 5120, .inr (.inl fun _ => 0)))] H := hP
  have hD : va_D A [(h0, .inr (2, [.null, .ref q1, .ref q2, .ref q3, .ref q4, .ref q5, .ref q6, .ref q7, .ref q8, .int 14, .int 0, .int 0, .int 0, .long 0])), (q1, .inl (cI, 34, .inl fun _ => 0)), (q2, .inl (cI, 34, .inl fun _ => 0)), (q3, .inl (cJ, 40, .inr (.inl fun _ => 0))), (q4, .inl (cJ, 90, .inr (.inl fun _ => 0))), (q5, .inl (cJ, 90, .inr (.inl fun _ => 0))), (q6, .inl (cJ, 10, .inr (.inl fun _ => 0))), (q7, .inl (cJ, 512, .inr (.inl fun _ => 0))), (q8, .inl (cJ, 5120, .inr (.inl fun _ => 0)))] := hD
  refine lv_aload_n hx hb dX3_init_76 rfl (lv_at hl 0 rfl) ?_
  refine lv_iconst (v := 0) hx hb dX3_init_77 (by decide) ?_
  refine va_put (D := (dC, dI)) (ref := RX3) (ci := 2) (v := .int 0) (ty := .int) (C := RX3) (T := TX3) (N := 14) hx hb hts wcX3.2.1 tyX3 tyX3_ok nmX3 hown hK hP hD hS 0 rfl rfl 10 (by decide) (hts _ wf_X3c_43) (fun x h => by first | exact h | (rw [wcX3.2.2 10 (by decide)] at h; exact h)) rfl (by decide +kernel) rfl rfl (Nat.le_of_ble_eq_true rfl) dX3_init_78 (fun H locs hP hD hS => ?_)
  have hP : va_P (dC, dI) vwCl [(h0, .inr (2, [.null, .ref q1, .ref q2, .ref q3, .ref q4, .ref q5, .ref q6, .ref q7, .ref q8, .int 14, .int 0, .int 0, .int 0, .long 0])), (q1, .inl (cI, 34, .inl fun _ => 0)), (q2, .inl (cI, 34, .inl fun _ => 0)), (q3, .inl (cJ, 40, .inr (.inl fun _ => 0))), (q4, .inl (cJ, 90, .inr (.inl fun _ => 0))), (q5, .inl (cJ, 90, .inr (.inl fun _ => 0))), (q6, .inl (cJ, 10, .inr (.inl fun _ => 0))), (q7, .inl (cJ, 512, .inr (.inl fun _ => 0))), (q8, .inl (cJ, 5120, .inr (.inl fun _ => 0)))] H := hP
  have hD : va_D A [(h0, .inr (2, [.null, .ref q1, .ref q2, .ref q3, .ref q4, .ref q5, .ref q6, .ref q7, .ref q8, .int 14, .int 0, .int 0, .int 0, .long 0])), (q1, .inl (cI, 34, .inl fun _ => 0)), (q2, .inl (cI, 34, .inl fun _ => 0)), (q3, .inl (cJ, 40, .inr (.inl fun _ => 0))), (q4, .inl (cJ, 90, .inr (.inl fun _ => 0))), (q5, .inl (cJ, 90, .inr (.inl fun _ => 0))), (q6, .inl (cJ, 10, .inr (.inl fun _ => 0))), (q7, .inl (cJ, 512, .inr (.inl fun _ => 0))), (q8, .inl (cJ, 5120, .inr (.inl fun _ => 0)))] := hD
  refine lv_aload_n hx hb dX3_init_81 rfl (lv_at hl 0 rfl) ?_
  refine lv_iconst (v := 3) hx hb dX3_init_82 (by decide) ?_
  refine va_put (D := (dC, dI)) (ref := RX3) (ci := 2) (v := .int 3) (ty := .int) (C := RX3) (T := TX3) (N := 14) hx hb hts wcX3.2.1 tyX3 tyX3_ok nmX3 hown hK hP hD hS 0 rfl rfl 11 (by decide) (hts _ wf_X3c_46) (fun x h => by first | exact h | (rw [wcX3.2.2 11 (by decide)] at h; exact h)) rfl (by decide +kernel) rfl rfl (Nat.le_of_ble_eq_true rfl) dX3_init_83 (fun H locs hP hD hS => ?_)
  have hP : va_P (dC, dI) vwCl [(h0, .inr (2, [.null, .ref q1, .ref q2, .ref q3, .ref q4, .ref q5, .ref q6, .ref q7, .ref q8, .int 14, .int 0, .int 3, .int 0, .long 0])), (q1, .inl (cI, 34, .inl fun _ => 0)), (q2, .inl (cI, 34, .inl fun _ => 0)), (q3, .inl (cJ, 40, .inr (.inl fun _ => 0))), (q4, .inl (cJ, 90, .inr (.inl fun _ => 0))), (q5, .inl (cJ, 90, .inr (.inl fun _ => 0))), (q6, .inl (cJ, 10, .inr (.inl fun _ => 0))), (q7, .inl (cJ, 512, .inr (.inl fun _ => 0))), (q8, .inl (cJ, 5120, .inr (.inl fun _ => 0)))] H := hP
  have hD : va_D A [(h0, .inr (2, [.null, .ref q1, .ref q2, .ref q3, .ref q4, .ref q5, .ref q6, .ref q7, .ref q8, .int 14, .int 0, .int 3, .int 0, .long 0])), (q1, .inl (cI, 34, .inl fun _ => 0)), (q2, .inl (cI, 34, .inl fun _ => 0)), (q3, .inl (cJ, 40, .inr (.inl fun _ => 0))), (q4, .inl (cJ, 90, .inr (.inl fun _ => 0))), (q5, .inl (cJ, 90, .inr (.inl fun _ => 0))), (q6, .inl (cJ, 10, .inr (.inl fun _ => 0))), (q7, .inl (cJ, 512, .inr (.inl fun _ => 0))), (q8, .inl (cJ, 5120, .inr (.inl fun _ => 0)))] := hD
  refine lv_aload_n hx hb dX3_init_86 rfl (lv_at hl 0 rfl) ?_
  refine lv_iconst (v := 0) hx hb dX3_init_87 (by decide) ?_
  refine va_put (D := (dC, dI)) (ref := RX3) (ci := 2) (v := .int 0) (ty := .int) (C := RX3) (T := TX3) (N := 14) hx hb hts wcX3.2.1 tyX3 tyX3_ok nmX3 hown hK hP hD hS 0 rfl rfl 12 (by decide) (hts _ wf_X3c_49) (fun x h => by first | exact h | (rw [wcX3.2.2 12 (by decide)] at h; exact h)) rfl (by decide +kernel) rfl rfl (Nat.le_of_ble_eq_true rfl) dX3_init_88 (fun H locs hP hD hS => ?_)
  have hP : va_P (dC, dI) vwCl [(h0, .inr (2, [.null, .ref q1, .ref q2, .ref q3, .ref q4, .ref q5, .ref q6, .ref q7, .ref q8, .int 14, .int 0, .int 3, .int 0, .long 0])), (q1, .inl (cI, 34, .inl fun _ => 0)), (q2, .inl (cI, 34, .inl fun _ => 0)), (q3, .inl (cJ, 40, .inr (.inl fun _ => 0))), (q4, .inl (cJ, 90, .inr (.inl fun _ => 0))), (q5, .inl (cJ, 90, .inr (.inl fun _ => 0))), (q6, .inl (cJ, 10, .inr (.inl fun _ => 0))), (q7, .inl (cJ, 512, .inr (.inl fun _ => 0))), (q8, .inl (cJ, 5120, .inr (.inl fun _ => 0)))] H := hP
  have hD : va_D A [(h0, .inr (2, [.null, .ref q1, .ref q2, .ref q3, .ref q4, .ref q5, .ref q6, .ref q7, .ref q8, .int 14, .int 0, .int 3, .int 0, .long 0])), (q1, .inl (cI, 34, .inl fun _ => 0)), (q2, .inl (cI, 34, .inl fun _ => 0)), (q3, .inl (cJ, 40, .inr (.inl fun _ => 0))), (q4, .inl (cJ, 90, .inr (.inl fun _ => 0))), (q5, .inl (cJ, 90, .inr (.inl fun _ => 0))), (q6, .inl (cJ, 10, .inr (.inl fun _ => 0))), (q7, .inl (cJ, 512, .inr (.inl fun _ => 0))), (q8, .inl (cJ, 5120, .inr (.inl fun _ => 0)))] := hD
  refine lv_aload_n hx hb dX3_init_91 rfl (lv_at hl 0 rfl) ?_
  refine lv_lconst (v := 0) hx hb dX3_init_92 (by decide) ?_
  refine va_put (D := (dC, dI)) (ref := RX3) (ci := 2) (v := .long 0) (ty := .long) (C := RX3) (T := TX3) (N := 14) hx hb hts wcX3.2.1 tyX3 tyX3_ok nmX3 hown hK hP hD hS 0 rfl rfl 13 (by decide) (hts _ wf_X3c_52) (fun x h => by first | exact h | (rw [wcX3.2.2 13 (by decide)] at h; exact h)) rfl (by decide +kernel) rfl rfl (Nat.le_of_ble_eq_true rfl) dX3_init_93 (fun H locs hP hD hS => ?_)
  have hP : va_P (dC, dI) vwCl [(h0, .inr (2, [.null, .ref q1, .ref q2, .ref q3, .ref q4, .ref q5, .ref q6, .ref q7, .ref q8, .int 14, .int 0, .int 3, .int 0, .long 0])), (q1, .inl (cI, 34, .inl fun _ => 0)), (q2, .inl (cI, 34, .inl fun _ => 0)), (q3, .inl (cJ, 40, .inr (.inl fun _ => 0))), (q4, .inl (cJ, 90, .inr (.inl fun _ => 0))), (q5, .inl (cJ, 90, .inr (.inl fun _ => 0))), (q6, .inl (cJ, 10, .inr (.inl fun _ => 0))), (q7, .inl (cJ, 512, .inr (.inl fun _ => 0))), (q8, .inl (cJ, 5120, .inr (.inl fun _ => 0)))] H := hP
  have hD : va_D A [(h0, .inr (2, [.null, .ref q1, .ref q2, .ref q3, .ref q4, .ref q5, .ref q6, .ref q7, .ref q8, .int 14, .int 0, .int 3, .int 0, .long 0])), (q1, .inl (cI, 34, .inl fun _ => 0)), (q2, .inl (cI, 34, .inl fun _ => 0)), (q3, .inl (cJ, 40, .inr (.inl fun _ => 0))), (q4, .inl (cJ, 90, .inr (.inl fun _ => 0))), (q5, .inl (cJ, 90, .inr (.inl fun _ => 0))), (q6, .inl (cJ, 10, .inr (.inl fun _ => 0))), (q7, .inl (cJ, 512, .inr (.inl fun _ => 0))), (q8, .inl (cJ, 5120, .inr (.inl fun _ => 0)))] := hD
  refine lv_aload_n hx hb dX3_init_96 rfl (lv_at hl 0 rfl) ?_
  refine lv_aload_n hx hb dX3_init_97 rfl (lv_at hl 1 rfl) ?_
  refine va_putF (D := (dC, dI)) (ref := RX3) (ci := 2) (v := .ref a0) (ty := .object "TileDesk$Others") (C := RX3) (T := TX3) (N := 14) hx hb hts wcX3.2.1 tyX3 tyX3_ok nmX3 hown hK hP hD hS 0 rfl rfl 0 (by decide) (hts _ wf_X3c_56) (fun x h => by first | exact h | (rw [wcX3.2.2 0 (by decide)] at h; exact h)) rfl hin rfl (by decide +kernel) rfl rfl (Nat.le_of_ble_eq_true rfl) dX3_init_98 (fun H locs hP hD hS => ?_)
  have hP : va_P (dC, dI) vwCl [(h0, .inr (2, [.ref a0, .ref q1, .ref q2, .ref q3, .ref q4, .ref q5, .ref q6, .ref q7, .ref q8, .int 14, .int 0, .int 3, .int 0, .long 0])), (q1, .inl (cI, 34, .inl fun _ => 0)), (q2, .inl (cI, 34, .inl fun _ => 0)), (q3, .inl (cJ, 40, .inr (.inl fun _ => 0))), (q4, .inl (cJ, 90, .inr (.inl fun _ => 0))), (q5, .inl (cJ, 90, .inr (.inl fun _ => 0))), (q6, .inl (cJ, 10, .inr (.inl fun _ => 0))), (q7, .inl (cJ, 512, .inr (.inl fun _ => 0))), (q8, .inl (cJ, 5120, .inr (.inl fun _ => 0)))] H := hP
  have hD : va_D A [(h0, .inr (2, [.ref a0, .ref q1, .ref q2, .ref q3, .ref q4, .ref q5, .ref q6, .ref q7, .ref q8, .int 14, .int 0, .int 3, .int 0, .long 0])), (q1, .inl (cI, 34, .inl fun _ => 0)), (q2, .inl (cI, 34, .inl fun _ => 0)), (q3, .inl (cJ, 40, .inr (.inl fun _ => 0))), (q4, .inl (cJ, 90, .inr (.inl fun _ => 0))), (q5, .inl (cJ, 90, .inr (.inl fun _ => 0))), (q6, .inl (cJ, 10, .inr (.inl fun _ => 0))), (q7, .inl (cJ, 512, .inr (.inl fun _ => 0))), (q8, .inl (cJ, 5120, .inr (.inl fun _ => 0)))] := hD
  refine lv_aload_n hx hb dX3_init_101 rfl (lv_at hl 0 rfl) ?_
  refine va_get (ref := RX3) (v := .ref q7) (C := RX3) (T := TX3) (N := 14) hx hb hts wcX3.2.1 hown hK hP 0 rfl wcX3.1 7 (by decide) (hts _ wf_X3c_33) (fun x h => by first | exact h | (rw [wcX3.2.2 7 (by decide)] at h; exact h)) rfl dX3_init_102 ?_
  refine lv_ldc2 (v := (-1)) hx hb hown (hts _ wn_X3c_60) dX3_init_105 ?_
  have hPc := hP.sub (ws' := [(q7, .inl (cJ, 512, .inr (.inl fun _ => 0)))]) [7] rfl
  have hDc := hD.sub (ws' := [(q7, .inl (cJ, 512, .inr (.inl fun _ => 0)))]) [7] (by decide) rfl
  have hFc := va_free (wc := [(q7, .inl (cJ, 512, .inr (.inl fun _ => 0)))]) hD hS hA [7] rfl
  refine va_callv (va_runS (As := [.ref q7, .long (-1)]) (rest := []) ⟨hx, hb, hml, hown, hts⟩ (c_fill_l l dC dI cI cJ cZ cR cH q7 H.size 512 (fun _ => 0) (-1) (by decide)) ⟨callB_of 2 hts (jn_good wc_J7_fill_d0a16) rfl rfl rfl (hts _ wz_J7) (hts _ wi_X3_62) (by decide +kernel) ⟨Nat.le_of_ble_eq_true rfl, Nat.le_of_ble_eq_true rfl⟩, hts _ ws_J7_fill_d0a16⟩ ⟨fun a U g mk q => by obtain ⟨q0, q1, qP, qK, qD⟩ := q; exact ⟨q0, q1, qP, va_K.moved (u := U) (U := U.calling g mk a) (Vm.Alike.refl U.vm) qK, qD⟩, fun U hU hW => ⟨rfl, by rw [hU], by rw [hU]; exact hPc, va_K.moved hW.alike hK, hDc.weaken (fun _ _ _ _ => trivial)⟩⟩ rfl rfl hl.1 rfl (lv_room (Nat.le_of_ble_eq_true rfl)) dX3_init_108 ⟨Nat.le_of_ble_eq_true rfl, Nat.le_of_ble_eq_true rfl⟩) hS (fun q _ h => hFc q h) hFc (fun u t H1 locs ht hvm hu hB hz1 hk1 hS => ?_)
  obtain ⟨hP1, hK1, hD1⟩ := hB
  rw [ht] at hP1
  obtain ⟨hP, hD⟩ := va_join (wr := [(h0, .inr (2, [.ref a0, .ref q1, .ref q2, .ref q3, .ref q4, .ref q5, .ref q6, .ref q7, .ref q8, .int 14, .int 0, .int 3, .int 0, .long 0])), (q1, .inl (cI, 34, .inl fun _ => 0)), (q2, .inl (cI, 34, .inl fun _ => 0)), (q3, .inl (cJ, 40, .inr (.inl fun _ => 0))), (q4, .inl (cJ, 90, .inr (.inl fun _ => 0))), (q5, .inl (cJ, 90, .inr (.inl fun _ => 0))), (q6, .inl (cJ, 10, .inr (.inl fun _ => 0))), (q8, .inl (cJ, 5120, .inr (.inl fun _ => 0)))]) (w1 := [(q7, .inl (cJ, 512, .inr (.inl fun j => if j < 512 then (-1) else (fun _ => 0) j)))]) hP hD [7] [0, 1, 2, 3, 4, 5, 6, 8] rfl rfl (by decide) (by decide) hk1 hFc hP1 hD1
  generalize H1 = H at hP hS ⊢
  have hP : va_P (dC, dI) vwCl [(h0, .inr (2, [.ref a0, .ref q1, .ref q2, .ref q3, .ref q4, .ref q5, .ref q6, .ref q7, .ref q8, .int 14, .int 0, .int 3, .int 0, .long 0])), (q1, .inl (cI, 34, .inl fun _ => 0)), (q2, .inl (cI, 34, .inl fun _ => 0)), (q3, .inl (cJ, 40, .inr (.inl fun _ => 0))), (q4, .inl (cJ, 90, .inr (.inl fun _ => 0))), (q5, .inl (cJ, 90, .inr (.inl fun _ => 0))), (q6, .inl (cJ, 10, .inr (.inl fun _ => 0))), (q8, .inl (cJ, 5120, .inr (.inl fun _ => 0))), (q7, .inl (cJ, 512, .inr (.inl fun j => if j < 512 then (-1) else (fun _ => 0) j)))] H := hP
  have hD : va_D A [(h0, .inr (2, [.ref a0, .ref q1, .ref q2, .ref q3, .ref q4, .ref q5, .ref q6, .ref q7, .ref q8, .int 14, .int 0, .int 3, .int 0, .long 0])), (q1, .inl (cI, 34, .inl fun _ => 0)), (q2, .inl (cI, 34, .inl fun _ => 0)), (q3, .inl (cJ, 40, .inr (.inl fun _ => 0))), (q4, .inl (cJ, 90, .inr (.inl fun _ => 0))), (q5, .inl (cJ, 90, .inr (.inl fun _ => 0))), (q6, .inl (cJ, 10, .inr (.inl fun _ => 0))), (q8, .inl (cJ, 5120, .inr (.inl fun _ => 0))), (q7, .inl (cJ, 512, .inr (.inl fun j => if j < 512 then (-1) else (fun _ => 0) j)))] := hD
  have hP9 := hP.sub (ws' := [(h0, .inr (2, [.ref a0, .ref q1, .ref q2, .ref q3, .ref q4, .ref q5, .ref q6, .ref q7, .ref q8, .int 14, .int 0, .int 3, .int 0, .long 0])), (q1, .inl (cI, 34, .inl fun _ => 0)), (q2, .inl (cI, 34, .inl fun _ => 0)), (q3, .inl (cJ, 40, .inr (.inl fun _ => 0))), (q4, .inl (cJ, 90, .inr (.inl fun _ => 0))), (q5, .inl (cJ, 90, .inr (.inl fun _ => 0))), (q6, .inl (cJ, 10, .inr (.inl fun _ => 0))), (q8, .inl (cJ, 5120, .inr (.inl fun _ => 0))), (q7, .inl (cJ, 512, .inr (.inl fun j => if j < 512 then (-1) else (fun _ => 0) j)))]) [0, 1, 2, 3, 4, 5, 6, 7, 8] rfl
  have hD9 := hD.sub (ws' := [(h0, .inr (2, [.ref a0, .ref q1, .ref q2, .ref q3, .ref q4, .ref q5, .ref q6, .ref q7, .ref q8, .int 14, .int 0, .int 3, .int 0, .long 0])), (q1, .inl (cI, 34, .inl fun _ => 0)), (q2, .inl (cI, 34, .inl fun _ => 0)), (q3, .inl (cJ, 40, .inr (.inl fun _ => 0))), (q4, .inl (cJ, 90, .inr (.inl fun _ => 0))), (q5, .inl (cJ, 90, .inr (.inl fun _ => 0))), (q6, .inl (cJ, 10, .inr (.inl fun _ => 0))), (q8, .inl (cJ, 5120, .inr (.inl fun _ => 0))), (q7, .inl (cJ, 512, .inr (.inl fun j => if j < 512 then (-1) else (fun _ => 0) j)))]) [0, 1, 2, 3, 4, 5, 6, 7, 8] (by decide) rfl
  exact W.vret hx hb hr (fun t ht hW => ⟨⟨(), rfl, trivial, q1, q2, q3, q4, q5, q6, q7, q8, by rw [ht]; exact hP9, va_K.moved hW.alike hK, hD9⟩, hS.F ht⟩) hS.2.2 dX3_init_111
set_option maxHeartbeats 4000000 in
set_option maxRecDepth 100000 in
theorem c_X2_init (l : Launch) (dC : Nat → ClassId) (dI : Nat → Nat → Nat) (cI cJ cZ cR cH : ClassId) (h0 sz : Nat) (a0 : Nat) : Met l yX2_init (Cond.code yX2_init cX2_init 2 none :: jgw) { frames := 3, cells := 8, slots := 148, locals := 90 } (va_Pc [.ref h0, .ref a0] (fun U => U.heap.size = sz ∧ va_P (dC, dI) vwCl [(h0, .inr (1, [.null, .null, .null, .int 0, .int 0, .int 0]))] U.heap ∧ va_K (dC, dI) vwCl (jT5 cI cJ cZ cR cH) U ∧ va_D (fun _ => True) [(h0, .inr (1, [.null, .null, .null, .int 0, .int 0, .int 0]))] ∧ jNe U)) (va_Qv (fun _ : Unit => True) (fun _ t => ∃ (q1 q2 q3 q4 q5 q6 q7 q8 : Nat), va_P (dC, dI) vwCl [(h0, .inr (1, [.ref q1, .ref q5, .ref a0, .int 0, .int 0, .int 0])), (q1, .inr (6, [.ref q2, .ref q3, .ref q4, .int 0, .int 0])), (q2, .inl (cI, 34, .inl fun _ => 0)), (q3, .inl (cI, 5, .inl fun _ => 0)), (q4, .inl (cI, 40, .inl fun _ => 0)), (q5, .inr (5, [.ref q6, .ref q7, .ref q8, .int 0])), (q6, .inl (cI, 20, .inl fun _ => 0)), (q7, .inl (cI, 20, .inl fun _ => 0)), (q8, .inl (cI, 20, .inl fun _ => 0))] t.heap ∧ va_K (dC, dI) vwCl (jT5 cI cJ cZ cR cH) t ∧ va_D (va_A [(h0, .inr (1, [.null, .null, .null, .int 0, .int 0, .int 0]))] sz) [(h0, .inr (1, [.ref q1, .ref q5, .ref a0, .int 0, .int 0, .int 0])), (q1, .inr (6, [.ref q2, .ref q3, .ref q4, .int 0, .int 0])), (q2, .inl (cI, 34, .inl fun _ => 0)), (q3, .inl (cI, 5, .inl fun _ => 0)), (q4, .inl (cI, 40, .inl fun _ => 0)), (q5, .inr (5, [.ref q6, .ref q7, .ref q8, .int 0])), (q6, .inl (cI, 20, .inl fun _ => 0)), (q7, .inl (cI, 20, .inl fun _ => 0)), (q8, .inl (cI, 20, .inl fun _ => 0))]) (va_A [(h0, .inr (1, [.null, .null, .null, .int 0, .int 0, .int 0]))] sz)) 8 148 (va_A [(h0, .inr (1, [.null, .null, .null, .int 0, .int 0, .int 0]))] sz) := by
  refine Met.ofW (cc := cX2_init) (maxL := 2) (ret := none) (by decide +kernel) rfl ?_
  intro p e s m args below meth c s₁ B hml hv
  obtain ⟨rfl, hsz, hP, hK, hD0, hNe⟩ := hv
  have hx := B.exec
  have hb := B.bytes
  have hr := B.returns
  have hts0 := atoms_spec (ws := (Cond.code yX2_init cX2_init 2 none :: jgw)) B.pre
  have hts : ∀ w ∈ jgw, w.before _ s = true := fun w hw => hts0 w (List.mem_cons_of_mem _ hw)
  have hown : s.vm.findClass RX2 = some m.cls := findClass_of_methodNamed B.named
  have hlocks := B.notSynchronized
  have hin : meth.name = "<init>" := (name_of_methodNamed B.named B.method).1
  subst hsz
  have hD := hD0.self (sz := s.heap.size)
  generalize hAe : va_A [(h0, .inr (1, [.null, .null, .null, .int 0, .int 0, .int 0]))] s.heap.size = A at hD ⊢
  have hA : ∀ q : Nat, s.heap.size ≤ q → A q := fun q h => by rw [← hAe]; exact Or.inr h
  have hS : va_S A s.heap s.heap [] := va_S.rf
  have hP : va_P (dC, dI) vwCl [(h0, .inr (1, [.null, .null, .null, .int 0, .int 0, .int 0]))] s.heap := hP
  have hl := lv_entry ([.ref h0, .ref a0]) (n := 2) (Nat.le_of_ble_eq_true rfl)
  rw [lg_entry_eq]
  generalize (lg_sl ([.ref h0, .ref a0]) ++ List.replicate (2 - (lg_sl ([.ref h0, .ref a0])).length) Slot.unset).toArray = ls at hl ⊢
  have hl : lv_has ls 2 [(0, .ref h0), (1, .ref a0)] := hl
  refine lv_aload_n hx hb dX2_init_0 rfl (lv_at hl 0 rfl) ?_
  refine W.objInit hx hb hown (hts _ wi_X2_3) (hts _ wj_Obj) (hts _ wj_ObjC) rfl (by rw [hml]; exact hl.1) rfl dX2_init_1 (Nat.le_of_ble_eq_true rfl) (Nat.le_of_ble_eq_true rfl) ?_
  refine W.eq (g2 := F0 m 4 ls []) rfl ?_
  refine lv_aload_n hx hb dX2_init_4 rfl (lv_at hl 0 rfl) ?_
  refine va_new (ci := 6) (fs := [.null, .null, .null, .int 0, .int 0]) (C := RX9) (T := TX9) (N := 5) hx hb hts wcX9.2.1 tyX9 tyX9_ok hown (hts _ wk_X2_9) (hts _ wt_X9) (hts _ wz_X9) hK hP hD hS hA rfl (fun j hj => by rcases (show j = 0 ∨ j = 1 ∨ j = 2 ∨ j = 3 ∨ j = 4 by omega) with rfl | rfl | rfl | rfl | rfl <;> rfl) (Nat.le_of_ble_eq_true rfl) (Nat.le_of_ble_eq_true rfl) dX2_init_5 (fun q1 H hP hD hS => ?_)
  have hP : va_P (dC, dI) vwCl [(h0, .inr (1, [.null, .null, .null, .int 0, .int 0, .int 0])), (q1, .inr (6, [.null, .null, .null, .int 0, .int 0]))] H := hP
  have hD : va_D A [(h0, .inr (1, [.null, .null, .null, .int 0, .int 0, .int 0])), (q1, .inr (6, [.null, .null, .null, .int 0, .int 0]))] := hD
  refine W.widen (k := 1) (n := 5) (Nat.le_of_ble_eq_true rfl) (Nat.le_of_ble_eq_true rfl) ?_
  refine lv_dup hx hb dX2_init_8 rfl ?_
  have hPc := hP.sub (ws' := [(q1, .inr (6, [.null, .null, .null, .int 0, .int 0]))]) [1] rfl
  have hDc := hD.sub (ws' := [(q1, .inr (6, [.null, .null, .null, .int 0, .int 0]))]) [1] (by decide) rfl
  have hFc := va_free (wc := [(q1, .inr (6, [.null, .null, .null, .int 0, .int 0]))]) hD hS hA [1] rfl
  refine va_callv (va_runIN (As := []) (rest := [.ref q1, .ref h0]) ⟨hx, hb, hml, hown, hts⟩ (c_X9_init l dC dI cI cJ cZ cR cH q1 H.size) ⟨va_cnB 0 hts (jn_good wc_X9_init) rfl rfl rfl hNe.2.2.2.1 (hts _ wz_X9) (by decide +kernel) ⟨Nat.le_of_ble_eq_true rfl, Nat.le_of_ble_eq_true rfl⟩, rfl, hts _ wm_X9_init⟩ ⟨fun a U g mk q => by obtain ⟨q0, q1, qP, qK, qD⟩ := q; exact ⟨q0, q1, qP, va_K.moved (u := U) (U := U.calling g mk a) (Vm.Alike.refl U.vm) qK, qD⟩, fun U hU hW => ⟨rfl, by rw [hU], by rw [hU]; exact hPc, va_K.moved hW.alike hK, hDc.weaken (fun _ _ _ _ => trivial)⟩⟩ rfl rfl hl.1 rfl (lv_room (Nat.le_of_ble_eq_true rfl)) dX2_init_9 ⟨Nat.le_of_ble_eq_true rfl, Nat.le_of_ble_eq_true rfl⟩) hS (fun q _ h => hFc q h) hFc (fun u t H1 locs ht hvm hu hB hz1 hk1 hS => ?_)
  obtain ⟨q2, q3, q4, hP1, hK1, hD1⟩ := hB
  rw [ht] at hP1
  obtain ⟨hP, hD⟩ := va_join (wr := [(h0, .inr (1, [.null, .null, .null, .int 0, .int 0, .int 0]))]) (w1 := [(q1, .inr (6, [.ref q2, .ref q3, .ref q4, .int 0, .int 0])), (q2, .inl (cI, 34, .inl fun _ => 0)), (q3, .inl (cI, 5, .inl fun _ => 0)), (q4, .inl (cI, 40, .inl fun _ => 0))]) hP hD [1] [0] rfl rfl (by decide) (by decide) hk1 hFc hP1 hD1
  generalize H1 = H at hP hS ⊢
  have hP : va_P (dC, dI) vwCl [(h0, .inr (1, [.null, .null, .null, .int 0, .int 0, .int 0])), (q1, .inr (6, [.ref q2, .ref q3, .ref q4, .int 0, .int 0])), (q2, .inl (cI, 34, .inl fun _ => 0)), (q3, .inl (cI, 5, .inl fun _ => 0)), (q4, .inl (cI, 40, .inl fun _ => 0))] H := hP
  have hD : va_D A [(h0, .inr (1, [.null, .null, .null, .int 0, .int 0, .int 0])), (q1, .inr (6, [.ref q2, .ref q3, .ref q4, .int 0, .int 0])), (q2, .inl (cI, 34, .inl fun _ => 0)), (q3, .inl (cI, 5, .inl fun _ => 0)), (q4, .inl (cI, 40, .inl fun _ => 0))] := hD
  refine W.widen (k := 4) (n := 84) (Nat.le_of_ble_eq_true rfl) (Nat.le_of_ble_eq_true rfl) ?_
  refine va_putF (D := (dC, dI)) (ref := RX2) (ci := 1) (v := .ref q1) (ty := .object "TileDesk$Ways") (C := RX2) (T := TX2) (N := 6) hx hb hts wcX2.2.1 tyX2 tyX2_ok nmX2 hown hK hP hD hS 0 rfl rfl 0 (by decide) (hts _ wf_X2c_12) (fun x h => by first | exact h | (rw [wcX2.2.2 0 (by decide)] at h; exact h)) rfl hin rfl (by decide +kernel) rfl rfl (Nat.le_of_ble_eq_true rfl) dX2_init_12 (fun H locs hP hD hS => ?_)
  have hP : va_P (dC, dI) vwCl [(h0, .inr (1, [.ref q1, .null, .null, .int 0, .int 0, .int 0])), (q1, .inr (6, [.ref q2, .ref q3, .ref q4, .int 0, .int 0])), (q2, .inl (cI, 34, .inl fun _ => 0)), (q3, .inl (cI, 5, .inl fun _ => 0)), (q4, .inl (cI, 40, .inl fun _ => 0))] H := hP
  have hD : va_D A [(h0, .inr (1, [.ref q1, .null, .null, .int 0, .int 0, .int 0])), (q1, .inr (6, [.ref q2, .ref q3, .ref q4, .int 0, .int 0])), (q2, .inl (cI, 34, .inl fun _ => 0)), (q3, .inl (cI, 5, .inl fun _ => 0)), (q4, .inl (cI, 40, .inl fun _ => 0))] := hD
  refine lv_aload_n hx hb dX2_init_15 rfl (lv_at hl 0 rfl) ?_
  refine va_new (ci := 5) (fs := [.null, .null, .null, .int 0]) (C := RX6) (T := TX6) (N := 4) hx hb hts wcX6.2.1 tyX6 tyX6_ok hown (hts _ wk_X2_18) (hts _ wt_X6) (hts _ wz_X6) hK hP hD hS hA rfl (fun j hj => by rcases (show j = 0 ∨ j = 1 ∨ j = 2 ∨ j = 3 by omega) with rfl | rfl | rfl | rfl <;> rfl) (Nat.le_of_ble_eq_true rfl) (Nat.le_of_ble_eq_true rfl) dX2_init_16 (fun q5 H hP hD hS => ?_)
  have hP : va_P (dC, dI) vwCl [(h0, .inr (1, [.ref q1, .null, .null, .int 0, .int 0, .int 0])), (q1, .inr (6, [.ref q2, .ref q3, .ref q4, .int 0, .int 0])), (q2, .inl (cI, 34, .inl fun _ => 0)), (q3, .inl (cI, 5, .inl fun _ => 0)), (q4, .inl (cI, 40, .inl fun _ => 0)), (q5, .inr (5, [.null, .null, .null, .int 0]))] H := hP
  have hD : va_D A [(h0, .inr (1, [.ref q1, .null, .null, .int 0, .int 0, .int 0])), (q1, .inr (6, [.ref q2, .ref q3, .ref q4, .int 0, .int 0])), (q2, .inl (cI, 34, .inl fun _ => 0)), (q3, .inl (cI, 5, .inl fun _ => 0)), (q4, .inl (cI, 40, .inl fun _ => 0)), (q5, .inr (5, [.null, .null, .null, .int 0]))] := hD
  refine W.widen (k := 5) (n := 88) (Nat.le_of_ble_eq_true rfl) (Nat.le_of_ble_eq_true rfl) ?_
  refine lv_dup hx hb dX2_init_19 rfl ?_
  have hPc := hP.sub (ws' := [(q5, .inr (5, [.null, .null, .null, .int 0]))]) [5] rfl
  have hDc := hD.sub (ws' := [(q5, .inr (5, [.null, .null, .null, .int 0]))]) [5] (by decide) rfl
  have hFc := va_free (wc := [(q5, .inr (5, [.null, .null, .null, .int 0]))]) hD hS hA [5] rfl
  refine va_callv (va_runIN (As := []) (rest := [.ref q5, .ref h0]) ⟨hx, hb, hml, hown, hts⟩ (c_X6_init l dC dI cI cJ cZ cR cH q5 H.size) ⟨va_cnB 0 hts (jn_good wc_X6_init) rfl rfl rfl hNe.2.2.2.2.1 (hts _ wz_X6) (by decide +kernel) ⟨Nat.le_of_ble_eq_true rfl, Nat.le_of_ble_eq_true rfl⟩, rfl, hts _ wm_X6_init⟩ ⟨fun a U g mk q => by obtain ⟨q0, q1, qP, qK, qD⟩ := q; exact ⟨q0, q1, qP, va_K.moved (u := U) (U := U.calling g mk a) (Vm.Alike.refl U.vm) qK, qD⟩, fun U hU hW => ⟨rfl, by rw [hU], by rw [hU]; exact hPc, va_K.moved hW.alike hK, hDc.weaken (fun _ _ _ _ => trivial)⟩⟩ rfl rfl hl.1 rfl (lv_room (Nat.le_of_ble_eq_true rfl)) dX2_init_20 ⟨Nat.le_of_ble_eq_true rfl, Nat.le_of_ble_eq_true rfl⟩) hS (fun q _ h => hFc q h) hFc (fun u t H1 locs ht hvm hu hB hz1 hk1 hS => ?_)
  obtain ⟨q6, q7, q8, hP1, hK1, hD1⟩ := hB
  rw [ht] at hP1
  obtain ⟨hP, hD⟩ := va_join (wr := [(h0, .inr (1, [.ref q1, .null, .null, .int 0, .int 0, .int 0])), (q1, .inr (6, [.ref q2, .ref q3, .ref q4, .int 0, .int 0])), (q2, .inl (cI, 34, .inl fun _ => 0)), (q3, .inl (cI, 5, .inl fun _ => 0)), (q4, .inl (cI, 40, .inl fun _ => 0))]) (w1 := [(q5, .inr (5, [.ref q6, .ref q7, .ref q8, .int 0])), (q6, .inl (cI, 20, .inl fun _ => 0)), (q7, .inl (cI, 20, .inl fun _ => 0)), (q8, .inl (cI, 20, .inl fun _ => 0))]) hP hD [5] [0, 1, 2, 3, 4] rfl rfl (by decide) (by decide) hk1 hFc hP1 hD1
  generalize H1 = H at hP hS ⊢
  have hP : va_P (dC, dI) vwCl [(h0, .inr (1, [.ref q1, .null, .null, .int 0, .int 0, .int 0])), (q1, .inr (6, [.ref q2, .ref q3, .ref q4, .int 0, .int 0])), (q2, .inl (cI, 34, .inl fun _ => 0)), (q3, .inl (cI, 5, .inl fun _ => 0)), (q4, .inl (cI, 40, .inl fun _ => 0)), (q5, .inr (5, [.ref q6, .ref q7, .ref q8, .int 0])), (q6, .inl (cI, 20, .inl fun _ => 0)), (q7, .inl (cI, 20, .inl fun _ => 0)), (q8, .inl (cI, 20, .inl fun _ => 0))] H := hP
  have hD : va_D A [(h0, .inr (1, [.ref q1, .null, .null, .int 0, .int 0, .int 0])), (q1, .inr (6, [.ref q2, .ref q3, .ref q4, .int 0, .int 0])), (q2, .inl (cI, 34, .inl fun _ => 0)), (q3, .inl (cI, 5, .inl fun _ => 0)), (q4, .inl (cI, 40, .inl fun _ => 0)), (q5, .inr (5, [.ref q6, .ref q7, .ref q8, .int 0])), (q6, .inl (cI, 20, .inl fun _ => 0)), (q7, .inl (cI, 20, .inl fun _ => 0)), (q8, .inl (cI, 20, .inl fun _ => 0))] := hD
  refine W.widen (k := 8) (n := 148) (Nat.le_of_ble_eq_true rfl) (Nat.le_of_ble_eq_true rfl) ?_
  refine va_putF (D := (dC, dI)) (ref := RX2) (ci := 1) (v := .ref q5) (ty := .object "TileDesk$Rules") (C := RX2) (T := TX2) (N := 6) hx hb hts wcX2.2.1 tyX2 tyX2_ok nmX2 hown hK hP hD hS 0 rfl rfl 1 (by decide) (hts _ wf_X2c_21) (fun x h => by first | exact h | (rw [wcX2.2.2 1 (by decide)] at h; exact h)) rfl hin rfl (by decide +kernel) rfl rfl (Nat.le_of_ble_eq_true rfl) dX2_init_23 (fun H locs hP hD hS => ?_)
  have hP : va_P (dC, dI) vwCl [(h0, .inr (1, [.ref q1, .ref q5, .null, .int 0, .int 0, .int 0])), (q1, .inr (6, [.ref q2, .ref q3, .ref q4, .int 0, .int 0])), (q2, .inl (cI, 34, .inl fun _ => 0)), (q3, .inl (cI, 5, .inl fun _ => 0)), (q4, .inl (cI, 40, .inl fun _ => 0)), (q5, .inr (5, [.ref q6, .ref q7, .ref q8, .int 0])), (q6, .inl (cI, 20, .inl fun _ => 0)), (q7, .inl (cI, 20, .inl fun _ => 0)), (q8, .inl (cI, 20, .inl fun _ => 0))] H := hP
  have hD : va_D A [(h0, .inr (1, [.ref q1, .ref q5, .null, .int 0, .int 0, .int 0])), (q1, .inr (6, [.ref q2, .ref q3, .ref q4, .int 0, .int 0])), (q2, .inl (cI, 34, .inl fun _ => 0)), (q3, .inl (cI, 5, .inl fun _ => 0)), (q4, .inl (cI, 40, .inl fun _ => 0)), (q5, .inr (5, [.ref q6, .ref q7, .ref q8, .int 0])), (q6, .inl (cI, 20, .inl fun _ => 0)), (q7, .inl (cI, 20, .inl fun _ => 0)), (q8, .inl (cI, 20, .inl fun _ => 0))] := hD
  refine lv_aload_n hx hb dX2_init_26 rfl (lv_at hl 0 rfl) ?_
  refine lv_iconst (v := 0) hx hb dX2_init_27 (by decide) ?_
  refine va_put (D := (dC, dI)) (ref := RX2) (ci := 1) (v := .int 0) (ty := .int) (C := RX2) (T := TX2) (N := 6) hx hb hts wcX2.2.1 tyX2 tyX2_ok nmX2 hown hK hP hD hS 0 rfl rfl 3 (by decide) (hts _ wf_X2c_25) (fun x h => by first | exact h | (rw [wcX2.2.2 3 (by decide)] at h; exact h)) rfl (by decide +kernel) rfl rfl (Nat.le_of_ble_eq_true rfl) dX2_init_28 (fun H locs hP hD hS => ?_)
  have hP : va_P (dC, dI) vwCl [(h0, .inr (1, [.ref q1, .ref q5, .null, .int 0, .int 0, .int 0])), (q1, .inr (6, [.ref q2, .ref q3, .ref q4, .int 0, .int 0])), (q2, .inl (cI, 34, .inl fun _ => 0)), (q3, .inl (cI, 5, .inl fun _ => 0)), (q4, .inl (cI, 40, .inl fun _ => 0)), (q5, .inr (5, [.ref q6, .ref q7, .ref q8, .int 0])), (q6, .inl (cI, 20, .inl fun _ => 0)), (q7, .inl (cI, 20, .inl fun _ => 0)), (q8, .inl (cI, 20, .inl fun _ => 0))] H := hP
  have hD : va_D A [(h0, .inr (1, [.ref q1, .ref q5, .null, .int 0, .int 0, .int 0])), (q1, .inr (6, [.ref q2, .ref q3, .ref q4, .int 0, .int 0])), (q2, .inl (cI, 34, .inl fun _ => 0)), (q3, .inl (cI, 5, .inl fun _ => 0)), (q4, .inl (cI, 40, .inl fun _ => 0)), (q5, .inr (5, [.ref q6, .ref q7, .ref q8, .int 0])), (q6, .inl (cI, 20, .inl fun _ => 0)), (q7, .inl (cI, 20, .inl fun _ => 0)), (q8, .inl (cI, 20, .inl fun _ => 0))] := hD
  refine lv_aload_n hx hb dX2_init_31 rfl (lv_at hl 0 rfl) ?_
  refine lv_iconst (v := 0) hx hb dX2_init_32 (by decide) ?_
  refine va_put (D := (dC, dI)) (ref := RX2) (ci := 1) (v := .int 0) (ty := .int) (C := RX2) (T := TX2) (N := 6) hx hb hts wcX2.2.1 tyX2 tyX2_ok nmX2 hown hK hP hD hS 0 rfl rfl 4 (by decide) (hts _ wf_X2c_29) (fun x h => by first | exact h | (rw [wcX2.2.2 4 (by decide)] at h; exact h)) rfl (by decide +kernel) rfl rfl (Nat.le_of_ble_eq_true rfl) dX2_init_33 (fun H locs hP hD hS => ?_)
  have hP : va_P (dC, dI) vwCl [(h0, .inr (1, [.ref q1, .ref q5, .null, .int 0, .int 0, .int 0])), (q1, .inr (6, [.ref q2, .ref q3, .ref q4, .int 0, .int 0])), (q2, .inl (cI, 34, .inl fun _ => 0)), (q3, .inl (cI, 5, .inl fun _ => 0)), (q4, .inl (cI, 40, .inl fun _ => 0)), (q5, .inr (5, [.ref q6, .ref q7, .ref q8, .int 0])), (q6, .inl (cI, 20, .inl fun _ => 0)), (q7, .inl (cI, 20, .inl fun _ => 0)), (q8, .inl (cI, 20, .inl fun _ => 0))] H := hP
  have hD : va_D A [(h0, .inr (1, [.ref q1, .ref q5, .null, .int 0, .int 0, .int 0])), (q1, .inr (6, [.ref q2, .ref q3, .ref q4, .int 0, .int 0])), (q2, .inl (cI, 34, .inl fun _ => 0)), (q3, .inl (cI, 5, .inl fun _ => 0)), (q4, .inl (cI, 40, .inl fun _ => 0)), (q5, .inr (5, [.ref q6, .ref q7, .ref q8, .int 0])), (q6, .inl (cI, 20, .inl fun _ => 0)), (q7, .inl (cI, 20, .inl fun _ => 0)), (q8, .inl (cI, 20, .inl fun _ => 0))] := hD
  refine lv_aload_n hx hb dX2_init_36 rfl (lv_at hl 0 rfl) ?_
  refine lv_iconst (v := 0) hx hb dX2_init_37 (by decide) ?_
  refine va_put (D := (dC, dI)) (ref := RX2) (ci := 1) (v := .int 0) (ty := .int) (C := RX2) (T := TX2) (N := 6) hx hb hts wcX2.2.1 tyX2 tyX2_ok nmX2 hown hK hP hD hS 0 rfl rfl 5 (by decide) (hts _ wf_X2c_32) (fun x h => by first | exact h | (rw [wcX2.2.2 5 (by decide)] at h; exact h)) rfl (by decide +kernel) rfl rfl (Nat.le_of_ble_eq_true rfl) dX2_init_38 (fun H locs hP hD hS => ?_)
  have hP : va_P (dC, dI) vwCl [(h0, .inr (1, [.ref q1, .ref q5, .null, .int 0, .int 0, .int 0])), (q1, .inr (6, [.ref q2, .ref q3, .ref q4, .int 0, .int 0])), (q2, .inl (cI, 34, .inl fun _ => 0)), (q3, .inl (cI, 5, .inl fun _ => 0)), (q4, .inl (cI, 40, .inl fun _ => 0)), (q5, .inr (5, [.ref q6, .ref q7, .ref q8, .int 0])), (q6, .inl (cI, 20, .inl fun _ => 0)), (q7, .inl (cI, 20, .inl fun _ => 0)), (q8, .inl (cI, 20, .inl fun _ => 0))] H := hP
  have hD : va_D A [(h0, .inr (1, [.ref q1, .ref q5, .null, .int 0, .int 0, .int 0])), (q1, .inr (6, [.ref q2, .ref q3, .ref q4, .int 0, .int 0])), (q2, .inl (cI, 34, .inl fun _ => 0)), (q3, .inl (cI, 5, .inl fun _ => 0)), (q4, .inl (cI, 40, .inl fun _ => 0)), (q5, .inr (5, [.ref q6, .ref q7, .ref q8, .int 0])), (q6, .inl (cI, 20, .inl fun _ => 0)), (q7, .inl (cI, 20, .inl fun _ => 0)), (q8, .inl (cI, 20, .inl fun _ => 0))] := hD
  refine lv_aload_n hx hb dX2_init_41 rfl (lv_at hl 0 rfl) ?_
  refine lv_aload_n hx hb dX2_init_42 rfl (lv_at hl 1 rfl) ?_
  refine va_putF (D := (dC, dI)) (ref := RX2) (ci := 1) (v := .ref a0) (ty := .object "TileDesk$Others") (C := RX2) (T := TX2) (N := 6) hx hb hts wcX2.2.1 tyX2 tyX2_ok nmX2 hown hK hP hD hS 0 rfl rfl 2 (by decide) (hts _ wf_X2c_35) (fun x h => by first | exact h | (rw [wcX2.2.2 2 (by decide)] at h; exact h)) rfl hin rfl (by decide +kernel) rfl rfl (Nat.le_of_ble_eq_true rfl) dX2_init_43 (fun H locs hP hD hS => ?_)
  have hP : va_P (dC, dI) vwCl [(h0, .inr (1, [.ref q1, .ref q5, .ref a0, .int 0, .int 0, .int 0])), (q1, .inr (6, [.ref q2, .ref q3, .ref q4, .int 0, .int 0])), (q2, .inl (cI, 34, .inl fun _ => 0)), (q3, .inl (cI, 5, .inl fun _ => 0)), (q4, .inl (cI, 40, .inl fun _ => 0)), (q5, .inr (5, [.ref q6, .ref q7, .ref q8, .int 0])), (q6, .inl (cI, 20, .inl fun _ => 0)), (q7, .inl (cI, 20, .inl fun _ => 0)), (q8, .inl (cI, 20, .inl fun _ => 0))] H := hP
  have hD : va_D A [(h0, .inr (1, [.ref q1, .ref q5, .ref a0, .int 0, .int 0, .int 0])), (q1, .inr (6, [.ref q2, .ref q3, .ref q4, .int 0, .int 0])), (q2, .inl (cI, 34, .inl fun _ => 0)), (q3, .inl (cI, 5, .inl fun _ => 0)), (q4, .inl (cI, 40, .inl fun _ => 0)), (q5, .inr (5, [.ref q6, .ref q7, .ref q8, .int 0])), (q6, .inl (cI, 20, .inl fun _ => 0)), (q7, .inl (cI, 20, .inl fun _ => 0)), (q8, .inl (cI, 20, .inl fun _ => 0))] := hD
  have hP9 := hP.sub (ws' := [(h0, .inr (1, [.ref q1, .ref q5, .ref a0, .int 0, .int 0, .int 0])), (q1, .inr (6, [.ref q2, .ref q3, .ref q4, .int 0, .int 0])), (q2, .inl (cI, 34, .inl fun _ => 0)), (q3, .inl (cI, 5, .inl fun _ => 0)), (q4, .inl (cI, 40, .inl fun _ => 0)), (q5, .inr (5, [.ref q6, .ref q7, .ref q8, .int 0])), (q6, .inl (cI, 20, .inl fun _ => 0)), (q7, .inl (cI, 20, .inl fun _ => 0)), (q8, .inl (cI, 20, .inl fun _ => 0))]) [0, 1, 2, 3, 4, 5, 6, 7, 8] rfl
  have hD9 := hD.sub (ws' := [(h0, .inr (1, [.ref q1, .ref q5, .ref a0, .int 0, .int 0, .int 0])), (q1, .inr (6, [.ref q2, .ref q3, .ref q4, .int 0, .int 0])), (q2, .inl (cI, 34, .inl fun _ => 0)), (q3, .inl (cI, 5, .inl fun _ => 0)), (q4, .inl (cI, 40, .inl fun _ => 0)), (q5, .inr (5, [.ref q6, .ref q7, .ref q8, .int 0])), (q6, .inl (cI, 20, .inl fun _ => 0)), (q7, .inl (cI, 20, .inl fun _ => 0)), (q8, .inl (cI, 20, .inl fun _ => 0))]) [0, 1, 2, 3, 4, 5, 6, 7, 8] (by decide) rfl
  exact W.vret hx hb hr (fun t ht hW => ⟨⟨(), rfl, trivial, q1, q2, q3, q4, q5, q6, q7, q8, by rw [ht]; exact hP9, va_K.moved hW.alike hK, hD9⟩, hS.F ht⟩) hS.2.2 dX2_init_46
end
