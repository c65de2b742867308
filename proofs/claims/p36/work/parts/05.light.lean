/-! ===== the light layer: ints as mathematical numbers, cells by fixed numbers ===== -/
section
def j32 (x : Int) : Int := (x + 2147483648) % 4294967296 - 2147483648
def j64 (x : Int) : Int := (x + 9223372036854775808) % 18446744073709551616 - 9223372036854775808
theorem j32_eq (x : Int) : (Int32.ofInt x).toInt = j32 x := by
  rw [Int32.toInt_ofInt, Int.bmod_def]
  simp only [j32, Int32.size]
  split <;> omega
theorem j64_eq (x : Int) : (Int64.ofInt x).toInt = j64 x := by
  rw [Int64.toInt_ofInt, Int.bmod_def]
  simp only [j64, Int64.size]
  split <;> omega
theorem j32_id {x : Int} (h1 : -2147483648 ≤ x) (h2 : x < 2147483648) : j32 x = x := by unfold j32; omega
theorem j64_id {x : Int} (h1 : -9223372036854775808 ≤ x) (h2 : x < 9223372036854775808) : j64 x = x := by unfold j64; omega
theorem j32_ge (x : Int) : -2147483648 ≤ j32 x := by unfold j32; omega
theorem j32_lt (x : Int) : j32 x < 2147483648 := by unfold j32; omega
theorem j64_ge (x : Int) : -9223372036854775808 ≤ j64 x := by unfold j64; omega
theorem j64_lt (x : Int) : j64 x < 9223372036854775808 := by unfold j64; omega
theorem j32_o (x : Int) : Int32.ofInt (j32 x) = Int32.ofInt x := by rw [← j32_eq, Int32.ofInt_toInt]
theorem j64_o (x : Int) : Int64.ofInt (j64 x) = Int64.ofInt x := by rw [← j64_eq, Int64.ofInt_toInt]
/-- kinds: 1 an int, 2 a long, 3 a cell, 4 the script (or nothing), 5 a boolean -/
def jR (κ : Nat) (v : Int) : Prop := match κ with
  | 2 => -9223372036854775808 ≤ v ∧ v < 9223372036854775808
  | 3 => 0 ≤ v ∧ v < 53
  | 4 => True
  | 5 => 0 ≤ v ∧ v ≤ 1
  | 6 => True
  | 7 => 0 ≤ v
  | _ => -2147483648 ≤ v ∧ v < 2147483648
def jTab : List (Nat × Nat × List (Nat × Nat)) := [
  (4, 7, [(3, 1), (3, 2), (3, 3), (3, 4), (3, 5), (3, 6), (3, 7), (3, 16), (1, 0)]),
  (3, 5, [(3, 25), (3, 27), (3, 29), (3, 31), (3, 33), (3, 35)]),
  (3, 6, [(3, 37), (3, 41), (3, 45), (3, 49)]),
  (0, 34, []),
  (0, 34, []),
  (0, 34, []),
  (4, 3, [(5, 0), (5, 0)]),
  (4, 2, [(3, 6), (3, 8), (3, 9), (3, 10), (3, 11), (3, 12), (3, 13), (3, 14), (3, 15), (1, 0), (1, 0), (1, 0), (1, 0), (2, 0)]),
  (0, 34, []),
  (0, 34, []),
  (1, 40, []),
  (1, 90, []),
  (1, 90, []),
  (1, 10, []),
  (1, 512, []),
  (1, 5120, []),
  (4, 1, [(3, 17), (3, 21), (3, 6), (1, 0), (1, 0), (1, 0)]),
  (4, 6, [(3, 18), (3, 19), (3, 20), (1, 0), (1, 0)]),
  (0, 34, []),
  (0, 5, []),
  (0, 40, []),
  (4, 5, [(3, 22), (3, 23), (3, 24), (1, 0)]),
  (0, 20, []),
  (0, 20, []),
  (0, 20, []),
  (4, 4, [(3, 26), (1, 0), (1, 0)]),
  (0, 40, []),
  (4, 4, [(3, 28), (1, 0), (1, 0)]),
  (0, 40, []),
  (4, 4, [(3, 30), (1, 0), (1, 0)]),
  (0, 40, []),
  (4, 4, [(3, 32), (1, 0), (1, 0)]),
  (0, 40, []),
  (4, 4, [(3, 34), (1, 0), (1, 0)]),
  (0, 40, []),
  (4, 4, [(3, 36), (1, 0), (1, 0)]),
  (0, 40, []),
  (4, 0, [(3, 38), (3, 39), (3, 40), (1, 0), (1, 0)]),
  (0, 34, []),
  (0, 34, []),
  (0, 4, []),
  (4, 0, [(3, 42), (3, 43), (3, 44), (1, 0), (1, 0)]),
  (0, 34, []),
  (0, 34, []),
  (0, 4, []),
  (4, 0, [(3, 46), (3, 47), (3, 48), (1, 0), (1, 0)]),
  (0, 34, []),
  (0, 34, []),
  (0, 4, []),
  (4, 0, [(3, 50), (3, 51), (3, 52), (1, 0), (1, 0)]),
  (0, 34, []),
  (0, 34, []),
  (0, 4, []),
  (4, 8, [(3, 54), (3, 55), (3, 56), (3, 57), (3, 58), (3, 59), (2, 0), (3, 60), (3, 61), (3, 62), (5, 0), (5, 0), (1, 0), (3, 63), (3, 64), (3, 65), (3, 66), (3, 67), (3, 68), (3, 69), (1, 0), (3, 70), (3, 71), (3, 72), (3, 73), (3, 74), (3, 75), (1, 0), (3, 76), (1, 0), (1, 0), (1, 0)]),
  (0, 34, []),
  (0, 34, []),
  (0, 136, []),
  (0, 136, []),
  (0, 4, []),
  (0, 20, []),
  (0, 6, []),
  (0, 6, []),
  (0, 240, []),
  (0, 20, []),
  (0, 20, []),
  (0, 20, []),
  (0, 40, []),
  (0, 34, []),
  (0, 34, []),
  (0, 34, []),
  (0, 34, []),
  (0, 5, []),
  (0, 250, []),
  (0, 250, []),
  (0, 40, []),
  (2, 34, []),
  (0, 34, [])]

def jSh (k : Nat) : Nat × Nat × List (Nat × Nat) := jTab.getD k (9, 0, [])
abbrev jMem : Type := Int → Int → Int
abbrev jEnv : Type := (Nat → Nat) × va_G × (Nat → ClassId) × (Nat × Nat × (Nat → Int32))
def jV (E : jEnv) (κ : Nat) (v : Int) : Value := match κ with
  | 2 => .long (Int64.ofInt v)
  | 3 => .ref (E.1 v.toNat)
  | 4 => .ref E.2.2.2.1
  | 6 => .ref (E.1 60)
  | 7 => .ref v.toNat
  | _ => .int (Int32.ofInt v)
def jFv (E : jEnv) (q : Nat × Nat) (v : Int) : Value := if q.1 = 3 then .ref (E.1 q.2) else if q.1 = 2 then .long (Int64.ofInt v) else .int (Int32.ofInt v)
def jCell (E : jEnv) (σ : jMem) (k : Nat) : va_E :=
  if (jSh k).1 = 0 then .inl (E.2.2.1 0, (jSh k).2.1, .inl fun j : Nat => Int32.ofInt (σ k j))
  else if (jSh k).1 = 1 then .inl (E.2.2.1 1, (jSh k).2.1, .inr (.inl fun j : Nat => Int64.ofInt (σ k j)))
  else if (jSh k).1 = 2 then .inl (E.2.2.1 2, (jSh k).2.1, .inl fun j : Nat => Int32.ofInt (σ k j))
  else if (jSh k).1 = 3 then .inl (E.2.2.1 (jSh k).2.1, (jSh k).2.2.length, .inr (.inr (.inr (.inr fun j : Nat => some (E.1 ((jSh k).2.2.getD j (0, 0)).2)))))
  else .inr ((jSh k).2.1, (List.range (jSh k).2.2.length).map fun j : Nat => jFv E ((jSh k).2.2.getD j (0, 0)) (σ k j))
def jW (E : jEnv) (σ : jMem) : va_W := (List.range 53).map fun k : Nat => (E.1 k, jCell E σ k)
/-- the kind of a slot -/
def jK (k j : Nat) : Nat :=
  if (jSh k).1 = 0 then 1 else if (jSh k).1 = 1 then 2 else if (jSh k).1 = 2 then 5 else if (jSh k).1 = 3 then 4
  else if ((jSh k).2.2.getD j (3, 0)).1 = 3 then 4 else ((jSh k).2.2.getD j (3, 0)).1
def jRM (σ : jMem) : Prop := ∀ k j : Nat, k < 53 → jR (jK k j) (σ k j)
def jTy (E : jEnv) : List (ClassId × FieldType) := [(E.2.2.1 0, .int), (E.2.2.1 1, .long), (E.2.2.1 0, .int), (E.2.2.1 5, .object "TileDesk$Rack"), (E.2.2.1 6, .object "TileDesk$Hand")]
abbrev vwCl : List vw_C := [(RX1, TX1, 5), (RX2, TX2, 6), (RX3, TX3, 14), (RX4, TX4, 2), (RX5, TX5, 3), (RX6, TX6, 4), (RX9, TX9, 5), (RX10, TX10, 9)]
/-- the locals, kinds by place (0: nothing is said) -/
def jLv (E : jEnv) (nL : Nat) (Γ : List Nat) (ls : List Int) (sl : Array Slot) : Prop :=
  ls.length = nL ∧ Γ.length = nL ∧ sl.size = nL ∧ lv_wf sl ∧ ∀ i κ : Nat, Γ[i]? = some κ → κ ≠ 0 → sl[i]? = some (.val (jV E κ (ls.getD i 0))) ∧ jR κ (ls.getD i 0)
/-- the tables' words that a callee may lean on -/
def jgw : List Cond := lw_tbl.filter goodWord
abbrev jM : Type := MethodName × ByteArray × Nat × Option FieldType
def jRi (M : jM) (pc : Nat) : Prop := match M.2.2.2 with
  | none => decode M.2.1 pc = .ok (.return_, 1)
  | some .long => decode M.2.1 pc = .ok (.lreturn, 1)
  | some _ => decode M.2.1 pc = .ok (.ireturn, 1)
/-- the kind of an answer -/
def jRk (r : Option FieldType) : Nat := match r with
  | none => 4
  | some .long => 2
  | some .boolean => 5
  | some _ => 1
def jRs (E : jEnv) (r : Option FieldType) (v : Int) : List Value := match r with
  | none => []
  | some t => [jV E (jRk (some t)) v]
def jScr (E : jEnv) (M : jM) (A0 : Nat → Prop) (s : State) (H0 : Heap) : Prop := M.1.name = "law" → va_X E.2.2.2.1 E.2.2.2.2.1 E.2.2.2.2.2 s H0 ∧ E.2.2.2.1 < H0.size ∧ ¬ A0 E.2.2.2.1
def jCx (E : jEnv) (M : jM) (d : Nat) (Rr : Int → jMem → Prop) (A0 : Nat → Prop) (H0 : Heap) (p : Program) (l : Launch) (e : Env) (R : Room) (s : State) (m : MethodId) (args : Array Value) (below : List Frame) (meth : Method) (c : Code) (cells slots : Nat) (Q : State → Prop) : Prop :=
  CallFix p m c M.2.1 M.2.2.1 s args jgw M.1.cls ∧ va_K E.2.1 vwCl (jTy E) s ∧ (d ≤ R.frames ∧ 80 * d ≤ R.locals ∧ cells ≤ R.cells ∧ slots ≤ R.slots) ∧ (∀ σ, va_D A0 (jW E σ)) ∧ jScr E M A0 s H0 ∧
  ∀ (pc : Nat) (v : Int) (σ : jMem) (H : Heap) (locs : List Loc) (sl : Array Slot), jRi M pc → jR (jRk M.2.2.2) v → Rr v σ → va_P E.2.1 vwCl (jW E σ) H → jRM σ → va_S A0 H0 H locs → W p l e R s m args below meth c H locs cells slots Q (F0 m pc sl (jRs E M.2.2.2 v))
/-- from this place on the method comes to its end -/
def jGo (E : jEnv) (M : jM) (d : Nat) (Rr : Int → jMem → Prop) (Γ : List Nat) (pc : Nat) (ls : List Int) (st : List Value) (σ : jMem) : Prop :=
  ∀ (A0 : Nat → Prop) (H0 : Heap) (p : Program) (l : Launch) (e : Env) (R : Room) (s : State) (m : MethodId) (args : Array Value) (below : List Frame) (meth : Method) (c : Code) (cells slots : Nat) (Q : State → Prop),
    jCx E M d Rr A0 H0 p l e R s m args below meth c cells slots Q → ∀ (H : Heap) (locs : List Loc) (sl : Array Slot), va_P E.2.1 vwCl (jW E σ) H → jRM σ → va_S A0 H0 H locs → jLv E M.2.2.1 Γ ls sl → W p l e R s m args below meth c H locs cells slots Q (F0 m pc sl st)
def jRoom (d : Nat) : Room := { frames := d, cells := 0, slots := 0, locals := 80 * d }
def jInj (E : jEnv) : Prop := ∀ i j : Nat, i < 53 → j < 53 → E.1 i = E.1 j → i = j
def jA (E : jEnv) : Nat → Prop := fun q => ∃ k : Nat, k < 53 ∧ q = E.1 k
def jB (E : jEnv) (σ : jMem) (U : State) : Prop := va_P E.2.1 vwCl (jW E σ) U.heap ∧ va_K E.2.1 vwCl (jTy E) U
def jQ (E : jEnv) (M : jM) (Rr : Int → jMem → Prop) : Array Value → State → Outcome → State → Prop := fun _ st oc t =>
  (∃ (v : Int) (σ : jMem), oc = .returned (jRs E M.2.2.2 v).head? ∧ jR (jRk M.2.2.2) v ∧ jRM σ ∧ Rr v σ ∧ jB E σ t) ∧ va_F (jA E) st t
def jAs (E : jEnv) (κs : List Nat) (vs : List Int) : List Value := List.zipWith (jV E) κs vs
def jRa : List Nat → List Int → Prop
  | [], [] => True
  | κ :: κs, v :: vs => jR κ v ∧ jRa κs vs
  | _, _ => False
abbrev jF : Type := List Int → jMem → (Int → jMem → Prop) → Prop
def jOk (M : jM) (κs : List Nat) (d : Nat) (f : jF) : Prop :=
  ∀ (l : Launch) (E : jEnv) (vs : List Int) (σ : jMem) (Rr : Int → jMem → Prop), jInj E → jRa κs vs → jRM σ → f vs σ Rr →
    Met l M.1 (.code M.1 M.2.1 M.2.2.1 M.2.2.2 :: jgw) (jRoom d) (va_Pc (jAs E κs vs) (jB E σ)) (jQ E M Rr) 0 0 (jA E)
theorem jgw_good : GoodIn jgw jgw := fun w hw => ⟨hw, good_of_word (List.mem_filter.mp hw).2⟩
theorem jgw_in {w : Cond} (i : Nat) (h : lw_tbl[i]? = some w) (hg : goodWord w = true) : w ∈ jgw := List.mem_filter.mpr ⟨List.mem_of_getElem? h, hg⟩
theorem jW_at (E : jEnv) (σ : jMem) {k : Nat} (hk : k < 53) : (jW E σ)[k]? = some (E.1 k, jCell E σ k) := by
  simp [jW, hk]
theorem jW_len (E : jEnv) (σ : jMem) : (jW E σ).length = 53 := by simp [jW]
theorem jW_set {E : jEnv} {σ σ' : jMem} {k : Nat} {e : va_E} (hk : k < 53) (he : jCell E σ' k = e) (ho : ∀ q : Nat, q ≠ k → jCell E σ' q = jCell E σ q) : (jW E σ).set k (E.1 k, e) = jW E σ' := by
  apply List.ext_getElem?
  intro q
  by_cases hq : q = k
  · subst hq
    rw [List.getElem?_set_self (by rw [jW_len]; exact hk), jW_at E σ' hk, he]
  · rw [List.getElem?_set_ne (fun z => hq z.symm)]
    by_cases hq2 : q < 53
    · rw [jW_at E σ hq2, jW_at E σ' hq2, ho q hq]
    · rw [List.getElem?_eq_none (by rw [jW_len]; omega), List.getElem?_eq_none (by rw [jW_len]; omega)]
def jU (σ : jMem) (r j v : Int) : jMem := fun a b => if a = r ∧ b = j then v else σ a b
theorem jU_same (σ : jMem) (r j v : Int) : jU σ r j v r j = v := by simp [jU]
theorem jU_cell {E : jEnv} {σ : jMem} {k q : Nat} {j v : Int} (h : q ≠ k) : jCell E (jU σ k j v) q = jCell E σ q := by
  have e : ∀ b : Int, jU σ k j v q b = σ q b := fun b => by
    simp only [jU]
    rw [if_neg]
    rintro ⟨z, -⟩
    exact h (by omega)
  simp only [jCell, e]
theorem jRM_set {σ : jMem} {k : Nat} {j v : Int} (h : jRM σ) (hv : ∀ i : Nat, (i : Int) = j → jR (jK k i) v) : jRM (jU σ k j v) := by
  intro a b ha
  simp only [jU]
  split
  · rename_i hq
    have e : a = k := by omega
    subst e
    exact hv b hq.2
  · exact h a b ha
theorem jD_of {E : jEnv} (h : jInj E) (σ : jMem) : va_D (jA E) (jW E σ) := by
  have key : ∀ (i : Nat) (q : Nat × va_E), (jW E σ)[i]? = some q → i < 53 ∧ q.1 = E.1 i := by
    intro i q hi
    have hl : i < 53 := by
      have := (List.getElem?_eq_some_iff.mp hi).1
      rw [jW_len] at this; exact this
    rw [jW_at E σ hl] at hi
    cases hi
    exact ⟨hl, rfl⟩
  refine ⟨fun i j x y hi hj hxy => ?_, fun k q hk => ⟨k, (key k q hk).1, (key k q hk).2⟩⟩
  obtain ⟨h1, h2⟩ := key i x hi
  obtain ⟨h3, h4⟩ := key j y hj
  exact h i j h1 h3 (by rw [← h2, ← h4, hxy])
theorem jInj_of {E : jEnv} {A : Nat → Prop} {σ : jMem} (h : va_D A (jW E σ)) : jInj E := fun i j hi hj hij =>
  h.1 i j _ _ (jW_at E σ hi) (jW_at E σ hj) hij
theorem jA_of {E : jEnv} {A : Nat → Prop} {σ : jMem} (h : va_D A (jW E σ)) : ∀ q, jA E q → A q := by
  rintro q ⟨k, hk, rfl⟩
  exact h.2 k _ (jW_at E σ hk)
def jle (Γ' Γ : List Nat) : Bool := Γ'.length == Γ.length && (List.range Γ'.length).all fun i => Γ'.getD i 0 == 0 || Γ'.getD i 0 == Γ.getD i 0
def jst (Γ : List Nat) (i κ : Nat) (Γ' : List Nat) : Bool :=
  Γ'.length == Γ.length && (List.range Γ'.length).all fun j => Γ'.getD j 0 == 0 || (if j == i then Γ'.getD j 0 == κ else Γ'.getD j 0 == Γ.getD j 0 && !(j + 1 == i && Γ.getD j 0 == 2) && !(κ == 2 && j == i + 1))
theorem jLv_weak {E : jEnv} {nL : Nat} {Γ Γ' : List Nat} {ls : List Int} {sl : Array Slot} (h : jLv E nL Γ ls sl) (hle : jle Γ' Γ = true) : jLv E nL Γ' ls sl := by
  obtain ⟨h1, h2, h3, h4, h5⟩ := h
  simp only [jle, Bool.and_eq_true, beq_iff_eq, List.all_eq_true, List.mem_range, Bool.or_eq_true] at hle
  obtain ⟨g1, g2⟩ := hle
  refine ⟨h1, g1.trans h2, h3, h4, fun i κ hi hκ => ?_⟩
  have hl : i < Γ'.length := (List.getElem?_eq_some_iff.mp hi).1
  have e1 : Γ'.getD i 0 = κ := by simp [hi]
  rcases g2 i hl with z | z
  · exact absurd (e1.symm.trans z) hκ
  · refine h5 i κ ?_ hκ
    rw [e1] at z
    have hl2 : i < Γ.length := by omega
    rw [List.getElem?_eq_getElem hl2, Option.some.injEq, z]
    simp [hl2]
def jList (E : jEnv) (Γ : List Nat) (ls : List Int) : List (Nat × Value) := (List.range Γ.length).filterMap fun i => if Γ.getD i 0 = 0 then none else some (i, jV E (Γ.getD i 0) (ls.getD i 0))
theorem jLv_has {E : jEnv} {nL : Nat} {Γ : List Nat} {ls : List Int} {sl : Array Slot} (h : jLv E nL Γ ls sl) : lv_has sl nL (jList E Γ ls) := by
  obtain ⟨h1, h2, h3, h4, h5⟩ := h
  refine ⟨h3, h4, fun q hq => ?_⟩
  obtain ⟨i, hi, he⟩ := List.mem_filterMap.mp hq
  rw [List.mem_range] at hi
  split at he
  · cases he
  · rename_i hne
    cases he
    exact (h5 i _ (by simp [hi]) hne).1
theorem jV_cat {E : jEnv} {κ : Nat} {v : Int} (h : κ ≠ 2) : (jV E κ v).category = 1 := by
  unfold jV
  split
  · exact absurd rfl h
  all_goals rfl
theorem jV_cat2 {E : jEnv} {κ : Nat} {v : Int} : ((jV E κ v).category == 2) = (κ == 2) := by
  by_cases h : κ = 2
  · subst h; rfl
  · rw [jV_cat h]; simp [h]
theorem jLv_stored {E : jEnv} {nL i κ : Nat} {Γ Γ' : List Nat} {ls : List Int} {v : Int} {sl sl' : Array Slot} (h : jLv E nL Γ ls sl) (hi : i < nL) (hv : jR κ v) (hst : jst Γ i κ Γ' = true)
    (hs : lv_has sl' nL ((i, jV E κ v) :: (jList E Γ ls).filter (fun q => !(q.1 == i) && (!(κ == 2 && q.1 == i + 1) && !(q.1 + 1 == i && q.2.category == 2))))) : jLv E nL Γ' (ls.set i v) sl' := by
  obtain ⟨h1, h2, h3, h4, h5⟩ := h
  obtain ⟨s1, s2, s3⟩ := hs
  simp only [jst, Bool.and_eq_true, beq_iff_eq, List.all_eq_true, List.mem_range, Bool.or_eq_true] at hst
  obtain ⟨g1, g2⟩ := hst
  refine ⟨by rw [List.length_set]; exact h1, g1.trans h2, s1, s2, fun k κ' hk hκ => ?_⟩
  have hl : k < Γ'.length := (List.getElem?_eq_some_iff.mp hk).1
  have e1 : Γ'.getD k 0 = κ' := by simp [hk]
  rcases g2 k hl with z | z
  · exact absurd (e1.symm.trans z) hκ
  rw [e1] at z
  by_cases hki : k = i
  · subst hki
    rw [if_pos rfl, beq_iff_eq] at z
    subst z
    have e2 : (ls.set k v).getD k 0 = v := by simp [h1, hi]
    rw [e2]
    exact ⟨s3 (k, jV E κ' v) List.mem_cons_self, hv⟩
  · rw [if_neg hki] at z
    simp only [Bool.and_eq_true, beq_iff_eq, Bool.not_eq_true', Bool.and_eq_false_iff, beq_eq_false_iff_ne] at z
    obtain ⟨⟨z1, z2⟩, z3⟩ := z
    have hl2 : k < Γ.length := by omega
    have e3 : Γ[k]? = some κ' := by
      rw [List.getElem?_eq_getElem hl2, Option.some.injEq, z1]
      simp [hl2]
    have e2 : (ls.set i v).getD k 0 = ls.getD k 0 := by
      simp [List.getElem?_set, Ne.symm hki]
    rw [e2]
    refine ⟨s3 (k, jV E κ' (ls.getD k 0)) (List.mem_cons_of_mem _ (List.mem_filter.mpr ⟨List.mem_filterMap.mpr ⟨k, List.mem_range.mpr hl2, ?_⟩, ?_⟩)), (h5 k κ' e3 hκ).2⟩
    · rw [← z1, if_neg hκ]
    · rw [jV_cat2]
      simp only [Bool.and_eq_true, Bool.not_eq_true', beq_eq_false_iff_ne, Bool.and_eq_false_iff]
      refine ⟨hki, ?_, ?_⟩
      · exact z3
      · rw [z1]; exact z2
theorem jLv_store1 {E : jEnv} {nL i κ : Nat} {Γ Γ' : List Nat} {ls : List Int} {v : Int} {sl sl' : Array Slot} (h : jLv E nL Γ ls sl) (hi : i < nL) (hc : κ ≠ 2) (hv : jR κ v) (hst : jst Γ i κ Γ' = true)
    (hs : lv_has sl' nL ((i, jV E κ v) :: (jList E Γ ls).filter (fun q => !(q.1 == i) && !(q.1 + 1 == i && q.2.category == 2)))) : jLv E nL Γ' (ls.set i v) sl' := by
  refine jLv_stored h hi hv hst ?_
  have e : (κ == 2) = false := by simp [hc]
  simp only [e, Bool.false_and, Bool.not_false, Bool.true_and]
  exact hs
theorem jLv_store2 {E : jEnv} {nL i : Nat} {Γ Γ' : List Nat} {ls : List Int} {v : Int} {sl sl' : Array Slot} (h : jLv E nL Γ ls sl) (hi : i < nL) (hv : jR 2 v) (hst : jst Γ i 2 Γ' = true)
    (hs : lv_has sl' nL ((i, jV E 2 v) :: (jList E Γ ls).filter (fun q => !(q.1 == i) && (!(q.1 == i + 1) && !(q.1 + 1 == i && q.2.category == 2))))) : jLv E nL Γ' (ls.set i v) sl' := by
  refine jLv_stored h hi hv hst ?_
  simp only [BEq.rfl, Bool.true_and]
  exact hs
theorem jLv_get {E : jEnv} {nL i κ : Nat} {Γ : List Nat} {ls : List Int} {sl : Array Slot} (h : jLv E nL Γ ls sl) (hi : Γ[i]? = some κ) (hκ : κ ≠ 0) : sl[i]? = some (.val (jV E κ (ls.getD i 0))) ∧ jR κ (ls.getD i 0) := h.2.2.2.2 i κ hi hκ
end
