/-! ===== two desks and a row of numbers: the law's own machine ===== -/
section
/-- what the reference would hold, told by the class's own cells: no cell of the machine, free to be chosen -/
def jCan (s : jMem) : jMem := fun x y => if x < 53 then s x y else if x = 53 then (if y = 6 then s 0 8 else if y = 10 then s 6 0 else if y = 11 then s 6 1 else if y = 12 then s 21 3 else 0) else if x = 54 then s 3 y else if x = 55 then s 4 y else if x = 56 then s (38 + 4 * (y / 34)) (y % 34) else if x = 57 then s (39 + 4 * (y / 34)) (y % 34) else if x = 58 then s (37 + 4 * y) 4 else if x = 59 then s (40 + 4 * (y / 5)) (y % 5) else if x = 60 then s (25 + 2 * y) 1 else if x = 61 then s (25 + 2 * y) 2 else if x = 62 then s (26 + 2 * (y / 40)) (y % 40) else if x = 63 then s 22 y else if x = 64 then s 23 y else if x = 65 then s 24 y else 0
def jCz (o : jO) : jO := match o with
  | some q => some (q.1, jCan q.2)
  | none => none
theorem jCan_lt (s : jMem) {x : Int} (h : x < 53) : jCan s x = s x := by funext y; unfold jCan; rw [if_pos h]
theorem jW_can (E : jEnv) (σ : jMem) : jW E (jCan σ) = jW E σ := by
  unfold jW
  refine List.map_congr_left fun k hk => ?_
  have hk : k < 53 := List.mem_range.mp hk
  have e : jCan σ (k : Int) = σ (k : Int) := jCan_lt σ (by omega)
  unfold jCell
  rw [e]
theorem jRM_can {σ : jMem} (h : jRM σ) : jRM (jCan σ) := fun k j hk => by rw [jCan_lt σ (by omega)]; exact h k j hk
theorem jHo_cz {P : Int → jMem → Prop} {o : jO} (h : jHo P (jCz o)) : jHo (fun v s => P v (jCan s)) o := by
  obtain ⟨v, s, e, h⟩ := h
  cases ho : o with
  | none => rw [ho] at e; cases e
  | some q => rw [ho] at e; cases e; exact ⟨q.1, q.2, rfl, h⟩
abbrev qEnv : Type := jEnv × jEnv
abbrev qMem : Type := jMem × jMem × Int × (Int → Int)
def qFw (E : qEnv) (μ : qMem) : va_W := if μ.2.2.1 < 0 then [] else [(μ.2.2.1.toNat, .inl (E.1.2.2.1 0, 34, .inl fun j : Nat => Int32.ofInt (μ.2.2.2 j)))]
def qW (E : qEnv) (μ : qMem) : va_W := jW E.1 μ.1 ++ (jW E.2 μ.2.1 ++ qFw E μ)
def qP (E : qEnv) (A0 : Nat → Prop) (μ : qMem) (H : Heap) : Prop := va_P E.1.2.1 vwCl (qW E μ) H ∧ va_D A0 (qW E μ)
def qRM (μ : qMem) : Prop := jRM μ.1 ∧ jRM μ.2.1 ∧ ∀ j : Nat, jR 1 (μ.2.2.2 j)
def qCx (E : qEnv) (M : jM) (d : Nat) (Rr : Int → qMem → Prop) (A0 : Nat → Prop) (H0 : Heap) (p : Program) (l : Launch) (e : Env) (R : Room) (s : State) (m : MethodId) (args : Array Value) (below : List Frame) (meth : Method) (c : Code) (cells slots : Nat) (Q : State → Prop) : Prop :=
  CallFix p m c M.2.1 M.2.2.1 s args jgw M.1.cls ∧ va_K E.1.2.1 vwCl (jTy E.1) s ∧ (d ≤ R.frames ∧ 80 * d ≤ R.locals ∧ cells ≤ R.cells ∧ slots ≤ R.slots) ∧ (E.2.2 = E.1.2 ∧ E.1.1 60 = E.2.1 0 ∧ ∀ q, H0.size ≤ q → A0 q) ∧ jScr E.1 M A0 s H0 ∧
  ∀ (pc : Nat) (v : Int) (μ : qMem) (H : Heap) (locs : List Loc) (sl : Array Slot), jRi M pc → jR (jRk M.2.2.2) v → Rr v μ → qP E A0 μ H → qRM μ → va_S A0 H0 H locs → W p l e R s m args below meth c H locs cells slots Q (F0 m pc sl (jRs E.1 M.2.2.2 v))
def qGo (E : qEnv) (M : jM) (d : Nat) (Rr : Int → qMem → Prop) (Γ : List Nat) (pc : Nat) (ls : List Int) (st : List Value) (σ : qMem) : Prop :=
  ∀ (A0 : Nat → Prop) (H0 : Heap) (p : Program) (l : Launch) (e : Env) (R : Room) (s : State) (m : MethodId) (args : Array Value) (below : List Frame) (meth : Method) (c : Code) (cells slots : Nat) (Q : State → Prop),
    qCx E M d Rr A0 H0 p l e R s m args below meth c cells slots Q → ∀ (H : Heap) (locs : List Loc) (sl : Array Slot), qP E A0 σ H → qRM σ → va_S A0 H0 H locs → jLv E.1 M.2.2.1 Γ ls sl → W p l e R s m args below meth c H locs cells slots Q (F0 m pc sl st)
theorem qW_fst (E : qEnv) (μ : qMem) : (qW E μ).map (·.1) = (List.range 53).map E.1.1 ++ ((List.range 53).map E.2.1 ++ if μ.2.2.1 < 0 then [] else [μ.2.2.1.toNat]) := by
  unfold qW qFw jW
  rw [List.map_append, List.map_append, List.map_map, List.map_map]
  congr 1
  congr 1
  split <;> rfl
theorem va_D_adr {A : Nat → Prop} {ws ws' : va_W} (h : ws.map (·.1) = ws'.map (·.1)) (hD : va_D A ws) : va_D A ws' := by
  have e : ∀ (k : Nat) (q : Nat × va_E), ws'[k]? = some q → ∃ q', ws[k]? = some q' ∧ q'.1 = q.1 := by
    intro k q hk
    have h1 : (ws.map (·.1))[k]? = some q.1 := by rw [h, List.getElem?_map, hk]; rfl
    rw [List.getElem?_map] at h1
    cases hw : ws[k]? with
    | none => rw [hw] at h1; cases h1
    | some q' => rw [hw] at h1; exact ⟨q', rfl, Option.some.inj h1⟩
  refine ⟨fun i j p q hi hj hpq => ?_, fun k q hk => ?_⟩
  · obtain ⟨p', a1, a2⟩ := e i p hi
    obtain ⟨q', b1, b2⟩ := e j q hj
    exact hD.1 i j p' q' a1 b1 (by rw [a2, b2]; exact hpq)
  · obtain ⟨q', a1, a2⟩ := e k q hk
    rw [← a2]; exact hD.2 k q' a1
theorem qW_1 (E : qEnv) (μ : qMem) {k : Nat} (hk : k < 53) : (qW E μ)[k]? = (jW E.1 μ.1)[k]? := by
  unfold qW
  rw [List.getElem?_append_left (by rw [jW_len]; exact hk)]
theorem qW_2 (E : qEnv) (μ : qMem) {k : Nat} (hk : k < 53) : (qW E μ)[53 + k]? = (jW E.2 μ.2.1)[k]? := by
  unfold qW
  rw [List.getElem?_append_right (by rw [jW_len]; omega), jW_len, show 53 + k - 53 = k by omega, List.getElem?_append_left (by rw [jW_len]; exact hk)]
theorem qW_3 (E : qEnv) (μ : qMem) (k : Nat) : (qW E μ)[106 + k]? = (qFw E μ)[k]? := by
  unfold qW
  rw [List.getElem?_append_right (by rw [jW_len]; omega), jW_len, List.getElem?_append_right (by rw [jW_len]; omega), jW_len, show 106 + k - 53 - 53 = k by omega]
theorem qP_1 {E : qEnv} {A0 : Nat → Prop} {μ : qMem} {H : Heap} (h : qP E A0 μ H) : va_P E.1.2.1 vwCl (jW E.1 μ.1) H := by
  intro k q hk
  have hl : k < 53 := by have := (List.getElem?_eq_some_iff.mp hk).1; rwa [jW_len] at this
  exact h.1 k q (by rw [qW_1 E μ hl]; exact hk)
theorem qP_2 {E : qEnv} {A0 : Nat → Prop} {μ : qMem} {H : Heap} (e : E.2.2 = E.1.2) (h : qP E A0 μ H) : va_P E.2.2.1 vwCl (jW E.2 μ.2.1) H := by
  rw [e]
  intro k q hk
  have hl : k < 53 := by have := (List.getElem?_eq_some_iff.mp hk).1; rwa [jW_len] at this
  exact h.1 (53 + k) q (by rw [qW_2 E μ hl]; exact hk)
theorem qK_2 {E : qEnv} {s : State} (e : E.2.2 = E.1.2) (h : va_K E.1.2.1 vwCl (jTy E.1) s) : va_K E.2.2.1 vwCl (jTy E.2) s := by
  have : jTy E.2 = jTy E.1 := by unfold jTy; rw [e]
  rw [this, e]; exact h
theorem qD_1 {E : qEnv} {A0 : Nat → Prop} {μ : qMem} (h : va_D A0 (qW E μ)) : jInj E.1 ∧ ∀ q, jA E.1 q → A0 q := by
  refine ⟨fun i j hi hj hij => ?_, ?_⟩
  · exact h.1 i j _ _ (by rw [qW_1 E μ hi]; exact jW_at E.1 μ.1 hi) (by rw [qW_1 E μ hj]; exact jW_at E.1 μ.1 hj) hij
  · rintro q ⟨k, hk, rfl⟩
    exact h.2 k _ (by rw [qW_1 E μ hk]; exact jW_at E.1 μ.1 hk)
theorem qD_2 {E : qEnv} {A0 : Nat → Prop} {μ : qMem} (h : va_D A0 (qW E μ)) : jInj E.2 ∧ ∀ q, jA E.2 q → A0 q := by
  refine ⟨fun i j hi hj hij => ?_, ?_⟩
  · have := h.1 (53 + i) (53 + j) _ _ (by rw [qW_2 E μ hi]; exact jW_at E.2 μ.2.1 hi) (by rw [qW_2 E μ hj]; exact jW_at E.2 μ.2.1 hj) hij
    omega
  · rintro q ⟨k, hk, rfl⟩
    exact h.2 (53 + k) _ (by rw [qW_2 E μ hk]; exact jW_at E.2 μ.2.1 hk)
theorem qP_set1 {E : qEnv} {A0 : Nat → Prop} {μ : qMem} {H H1 : Heap} {σ' : jMem} (h : qP E A0 μ H) (h1 : va_P E.1.2.1 vwCl (jW E.1 σ') H1) (hk : ∀ q : Nat, q < H.size → ¬ jA E.1 q → H1[q]? = H[q]?) : qP E A0 (σ', μ.2) H1 := by
  refine ⟨fun k q hq => ?_, va_D_adr (by rw [qW_fst, qW_fst]) h.2⟩
  by_cases hl : k < 53
  · rw [qW_1 E _ hl] at hq
    exact h1 k q hq
  · have hq2 : (qW E μ)[k]? = some q := by
      unfold qW at hq ⊢
      rw [List.getElem?_append_right (by rw [jW_len]; omega), jW_len] at hq ⊢
      exact hq
    have a := h.1 k q hq2
    refine a.kept (hk q.1 a.lt ?_)
    rintro ⟨i, hi, e⟩
    have := h.2.1 k i q _ hq2 (by rw [qW_1 E μ hi]; exact jW_at E.1 μ.1 hi) e
    omega
theorem qP_set2 {E : qEnv} {A0 : Nat → Prop} {μ : qMem} {H H1 : Heap} {σ' : jMem} (e2 : E.2.2 = E.1.2) (h : qP E A0 μ H) (h1 : va_P E.2.2.1 vwCl (jW E.2 σ') H1) (hk : ∀ q : Nat, q < H.size → ¬ jA E.2 q → H1[q]? = H[q]?) : qP E A0 (μ.1, σ', μ.2.2) H1 := by
  rw [e2] at h1
  refine ⟨fun k q hq => ?_, va_D_adr (by rw [qW_fst, qW_fst]) h.2⟩
  have other : (k < 53 ∨ 106 ≤ k) → (qW E μ)[k]? = some q → va_at E.1.2.1 vwCl q H1 := by
    intro hl hq2
    have a := h.1 k q hq2
    refine a.kept (hk q.1 a.lt ?_)
    rintro ⟨i, hi, e⟩
    have := h.2.1 k (53 + i) q _ hq2 (by rw [qW_2 E μ hi]; exact jW_at E.2 μ.2.1 hi) e
    omega
  by_cases hl : k < 53
  · exact other (Or.inl hl) (by rw [qW_1 E _ hl] at hq ⊢; exact hq)
  · by_cases hl2 : k < 106
    · obtain ⟨i, rfl⟩ : ∃ i, k = 53 + i := ⟨k - 53, by omega⟩
      rw [qW_2 E _ (by omega)] at hq
      exact h1 i q hq
    · obtain ⟨i, rfl⟩ : ∃ i, k = 106 + i := ⟨k - 106, by omega⟩
      exact other (Or.inr (by omega)) (by rw [qW_3] at hq ⊢; exact hq)
/-- nothing of it has changed -/
theorem qP_kept {E : qEnv} {A0 : Nat → Prop} {μ : qMem} {H H1 : Heap} (h : qP E A0 μ H) (hk : ∀ q : Nat, q < H.size → H1[q]? = H[q]?) : qP E A0 μ H1 := ⟨fun k q hq => (h.1 k q hq).kept (hk q.1 (h.1 k q hq).lt), h.2⟩
section
variable {p : Program} {l : Launch} {e : Env} {R : Room} {s : State} {m : MethodId} {args : Array Value} {below : List Frame} {meth : Method} {c : Code} {H : Heap} {locs : List Loc} {cells slots : Nat} {Q : State → Prop} {ls : Array Slot} {rest st0 : List Value} {a : Array Value} {A0 : Nat → Prop} {H0 : Heap} {M' : jM} {P : Int → jMem → Prop} {E : qEnv} {μ : qMem} {pc : Nat}
theorem qcall1 (hr : va_Run p l e R s m args below meth c H locs cells slots 0 0 (F0 m pc ls st0) rest (jQ E.1 M' P a) (jA E.1)) (hP : qP E A0 μ H) (hRM : qRM μ) (hS : va_S A0 H0 H locs)
    (kk : ∀ (v : Int) (σ' : jMem) (H1 : Heap) (locs1 : List Loc), jR (jRk M'.2.2.2) v → P v σ' → qP E A0 (σ', μ.2) H1 → qRM (σ', μ.2) → va_S A0 H0 H1 locs1 → W p l e R s m args below meth c H1 locs1 cells slots Q (F0 m (pc + 3) ls (jRs E.1 M'.2.2.2 v ++ rest))) : W p l e R s m args below meth c H locs cells slots Q (F0 m pc ls st0) := by
  have hA := (qD_1 hP.2).2
  intro T hT X
  obtain ⟨v0, st₀, t, T', L, h0, X', hL, e1, e2, ⟨⟨v, σ', hv, hvR, hRM', hPv, hB⟩, hz, hk⟩, st⟩ := hr T hT X
  rw [h0] at hz hk
  have hv2 : v0.toList = jRs E.1 M'.2.2.2 v := by
    have hv3 : v0 = (jRs E.1 M'.2.2.2 v).head? := by cases hv; rfl
    rw [hv3]
    unfold jRs
    cases M'.2.2.2 <;> rfl
  rw [hv2] at st
  obtain ⟨t2, a1, b1⟩ := kk v σ' T'.heap (locs ++ L) hvR hPv (qP_set1 hP (by rw [e1]; exact hB.1) (fun q h1 h2 => by rw [e1]; exact hk q h1 h2)) ⟨hRM', hRM.2⟩
    ⟨Nat.le_trans hS.1 (by rw [e1]; exact hz), fun q h1 h2 => by rw [e1, hk q (Nat.lt_of_lt_of_le h1 hS.1) (fun z => h2 (hA q z))]; exact hS.2.1 q h1 h2, fun q hq => by
      rcases List.mem_append.mp hq with h | h
      · exact hS.2.2 q h
      · exact hA _ (hL q h)⟩ T' rfl X'
  exact ⟨t2, st t2 a1, b1⟩
theorem qcall2 (e2 : E.2.2 = E.1.2) (hr : va_Run p l e R s m args below meth c H locs cells slots 0 0 (F0 m pc ls st0) rest (jQ E.2 M' P a) (jA E.2)) (hP : qP E A0 μ H) (hRM : qRM μ) (hS : va_S A0 H0 H locs)
    (kk : ∀ (v : Int) (σ' : jMem) (H1 : Heap) (locs1 : List Loc), jR (jRk M'.2.2.2) v → P v σ' → qP E A0 (μ.1, σ', μ.2.2) H1 → qRM (μ.1, σ', μ.2.2) → va_S A0 H0 H1 locs1 → W p l e R s m args below meth c H1 locs1 cells slots Q (F0 m (pc + 3) ls (jRs E.2 M'.2.2.2 v ++ rest))) : W p l e R s m args below meth c H locs cells slots Q (F0 m pc ls st0) := by
  have hA := (qD_2 hP.2).2
  intro T hT X
  obtain ⟨v0, st₀, t, T', L, h0, X', hL, e1, e3, ⟨⟨v, σ', hv, hvR, hRM', hPv, hB⟩, hz, hk⟩, st⟩ := hr T hT X
  rw [h0] at hz hk
  have hv2 : v0.toList = jRs E.2 M'.2.2.2 v := by
    have hv3 : v0 = (jRs E.2 M'.2.2.2 v).head? := by cases hv; rfl
    rw [hv3]
    unfold jRs
    cases M'.2.2.2 <;> rfl
  rw [hv2] at st
  obtain ⟨t2, a1, b1⟩ := kk v σ' T'.heap (locs ++ L) hvR hPv (qP_set2 e2 hP (by rw [e1]; exact hB.1) (fun q h1 h2 => by rw [e1]; exact hk q h1 h2)) ⟨hRM.1, hRM', hRM.2.2⟩
    ⟨Nat.le_trans hS.1 (by rw [e1]; exact hz), fun q h1 h2 => by rw [e1, hk q (Nat.lt_of_lt_of_le h1 hS.1) (fun z => h2 (hA q z))]; exact hS.2.1 q h1 h2, fun q hq => by
      rcases List.mem_append.mp hq with h | h
      · exact hS.2.2 q h
      · exact hA _ (hL q h)⟩ T' rfl X'
  exact ⟨t2, st t2 a1, b1⟩
end
variable {E : qEnv} {M : jM} {d : Nat} {Rr : Int → qMem → Prop} {Γ : List Nat} {pc : Nat} {ls : List Int} {st : List Value} {σ : qMem}
theorem qGo_can1 {s : jMem} {r : jMem × Int × (Int → Int)} (k : qGo E M d Rr Γ pc ls st (jCan s, r)) : qGo E M d Rr Γ pc ls st (s, r) := by
  intro A0 H0 p l e R s1 m args below meth c cells slots Q C H locs sl hP hR hS hL
  have e1 : qW E (jCan s, r) = qW E (s, r) := by unfold qW; rw [jW_can]; rfl
  exact k A0 H0 p l e R s1 m args below meth c cells slots Q C H locs sl ⟨by rw [e1]; exact hP.1, by rw [e1]; exact hP.2⟩ ⟨jRM_can hR.1, hR.2⟩ hS hL
theorem qGo_can2 {s1 s : jMem} {r : Int × (Int → Int)} (k : qGo E M d Rr Γ pc ls st (s1, jCan s, r)) : qGo E M d Rr Γ pc ls st (s1, s, r) := by
  intro A0 H0 p l e R s2 m args below meth c cells slots Q C H locs sl hP hR hS hL
  have e1 : qW E (s1, jCan s, r) = qW E (s1, s, r) := by unfold qW; rw [jW_can]; rfl
  exact k A0 H0 p l e R s2 m args below meth c cells slots Q C H locs sl ⟨by rw [e1]; exact hP.1, by rw [e1]; exact hP.2⟩ ⟨hR.1, jRM_can hR.2.1, hR.2.2⟩ hS hL
theorem qg_callS1 {M' : jM} {κs : List Nat} {d' idx : Nat} {f : jF} {vs : List Int} {P : Int → jMem → Prop} (hM : jOk M' κs d' f) (hd' : d' + 1 ≤ d) (hst : (st.map fun v => v.category).sum ≤ 8) (hw : jcs M M' idx κs.length) (hw2 : Cond.static M'.1 ∈ jgw)
    (hd : decode M.2.1 pc = .ok (.invokestatic idx, 3)) (ha : jRa κs vs) (hlen : vs.length = κs.length) (hf : f vs σ.1 P) (k : ∀ v σ', P v σ' → jR (jRk M'.2.2.2) v → qGo E M d Rr Γ (pc + 3) ls (jRs E.1 M'.2.2.2 v ++ st) (σ', σ.2)) :
    qGo E M d Rr Γ pc ls ((jAs E.1 κs vs).reverse ++ st) σ := by
  intro A0 H0 p l e R s m args below meth c cells slots Q C H locs sl hP hR hS hL
  have K := fun v σ' z z2 => k v σ' z z2 A0 H0 p l e R s m args below meth c cells slots Q C
  obtain ⟨⟨hx, hb, hml, hown, hts⟩, hK, ⟨hr1, hr2, hr3, hr4⟩, hD, hsc, hret⟩ := C
  have hMet := hM l E.1 vs σ.1 P (qD_1 hP.2).1 ha hR.1 hf
  have cb := jcallB (M := M) (R := R) (d' := d') hts hw (by omega) (by omega)
  have hrun := va_runS (p := p) (e := e) (m := m) (below := below) (meth := meth) (locs := locs) (cells := cells) (slots := slots) (rest := st) (g := F0 m pc sl ((jAs E.1 κs vs).reverse ++ st)) ⟨hx, hb, hml, hown, hts⟩ hMet ⟨cb, hts _ hw2⟩ (jPre (qP_1 hP) hK) rfl (by simp [jAs, hlen]) hL.2.2.1 rfl (lv_room hst) hd ⟨hr3, hr4⟩
  exact qcall1 hrun hP hR hS (fun v σ' H1 locs1 hv hPv hP1 hRM hS1 => K v σ' hPv hv H1 locs1 sl hP1 hRM hS1 hL)
theorem qg_callV1 {M' : jM} {κs : List Nat} {d' idx ci : Nat} {f : jF} {r : Int} {vs : List Int} {P : Int → jMem → Prop} {C : String} {T : u_T} {N : Nat} (hM : jOk M' (3 :: κs) d' f) (hd' : d' + 1 ≤ d) (hst : (st.map fun v => v.category).sum ≤ 8) (hw : jcs M M' idx κs.length) (hw2 : Cond.instanceMethod M'.1 ∈ jgw) (hw3 : Cond.selects M'.1.cls M'.1 M'.1 ∈ jgw)
    (hc : jcw ci C T N) (hC : C = M'.1.cls) (hci : ci < 20) (hd : decode M.2.1 pc = .ok (.invokevirtual idx, 3)) (ha : jRa (3 :: κs) (r :: vs)) (hlen : vs.length = κs.length) (hcl : jcl r = ci) (hf : f (r :: vs) σ.1 P) (k : ∀ v σ', P v σ' → jR (jRk M'.2.2.2) v → qGo E M d Rr Γ (pc + 3) ls (jRs E.1 M'.2.2.2 v ++ st) (σ', σ.2)) :
    qGo E M d Rr Γ pc ls ((jAs E.1 (3 :: κs) (r :: vs)).reverse ++ st) σ := by
  intro A0 H0 p l e R s m args below meth c cells slots Q Cx H locs sl hP hR hS hL
  have K := fun v σ' z z2 => k v σ' z z2 A0 H0 p l e R s m args below meth c cells slots Q Cx
  obtain ⟨⟨hx, hb, hml, hown, hts⟩, hK, ⟨hr1, hr2, hr3, hr4⟩, hD, hsc, hret⟩ := Cx
  have hMet := hM l E.1 (r :: vs) σ.1 P (qD_1 hP.2).1 ha hR.1 hf
  have cb := jcallB (M := M) (R := R) (d' := d') hts hw (by omega) (by omega)
  obtain ⟨q, rfl, hk, hs, h2, h3⟩ := jObj ha.1 hci hcl
  have hw4 := jW_o (E := E.1) (σ := σ.1) hk hs
  rw [h2] at hw4
  have hrec := va_recv hK (qP_1 hP) hc.1 hw4
  rw [show ((C, T, N) : vw_C).1 = M'.1.cls from hC] at hrec
  have hpre := jPre (As := jAs E.1 (3 :: κs) ((q : Int) :: vs)) (qP_1 hP) hK
  have hrun := va_runV (p := p) (e := e) (m := m) (below := below) (meth := meth) (locs := locs) (cells := cells) (slots := slots) (rest := st) (As := jAs E.1 κs vs) (b := E.1.1 q) (g := F0 m pc sl ((jAs E.1 (3 :: κs) ((q : Int) :: vs)).reverse ++ st)) ⟨hx, hb, hml, hown, hts⟩ hMet ⟨cb, hts _ hw2, hts _ hw3⟩ ⟨hpre.1, hrec, hpre.2⟩ rfl (by simp [jAs, hlen]) hL.2.2.1 (by simp [jAs]; rfl) (lv_room hst) hd ⟨hr3, hr4⟩
  exact qcall1 hrun hP hR hS (fun v σ' H1 locs1 hv hPv hP1 hRM hS1 => K v σ' hPv hv H1 locs1 sl hP1 hRM hS1 hL)
/-- the second desk -/
theorem qg_callS2 {M' : jM} {κs : List Nat} {d' idx : Nat} {f : jF} {vs : List Int} {P : Int → jMem → Prop} (hM : jOk M' (3 :: κs) d' f) (hd' : d' + 1 ≤ d) (hst : (st.map fun v => v.category).sum ≤ 8) (hw : jcs M M' idx (3 :: κs).length) (hw2 : Cond.static M'.1 ∈ jgw)
    (hd : decode M.2.1 pc = .ok (.invokestatic idx, 3)) (ha : jRa (3 :: κs) (0 :: vs)) (hlen : vs.length = κs.length) (hE : ∀ E E' : jEnv, jAs E κs vs = jAs E' κs vs) (hEr : ∀ (E E' : jEnv) (v : Int), jRs E M'.2.2.2 v = jRs E' M'.2.2.2 v) (hf : f (0 :: vs) σ.2.1 P) (k : ∀ v σ', P v σ' → jR (jRk M'.2.2.2) v → qGo E M d Rr Γ (pc + 3) ls (jRs E.1 M'.2.2.2 v ++ st) (σ.1, σ', σ.2.2)) :
    qGo E M d Rr Γ pc ls ((jAs E.1 (6 :: κs) (0 :: vs)).reverse ++ st) σ := by
  intro A0 H0 p l e R s m args below meth c cells slots Q C H locs sl hP hR hS hL
  have K := fun v σ' z z2 => k v σ' z z2 A0 H0 p l e R s m args below meth c cells slots Q C
  obtain ⟨⟨hx, hb, hml, hown, hts⟩, hK, ⟨hr1, hr2, hr3, hr4⟩, ⟨hD1, hD2, hD3⟩, hsc, hret⟩ := C
  have hMet := hM l E.2 (0 :: vs) σ.2.1 P (qD_2 hP.2).1 ha hR.2.1 hf
  have cb := jcallB (M := M) (R := R) (d' := d') hts hw (by omega) (by omega)
  have eAs : jAs E.1 (6 :: κs) (0 :: vs) = jAs E.2 (3 :: κs) (0 :: vs) := by
    show Value.ref (E.1.1 60) :: jAs E.1 κs vs = Value.ref (E.2.1 0) :: jAs E.2 κs vs
    rw [hD2, hE E.1 E.2]
  rw [eAs]
  have hrun := va_runS (p := p) (e := e) (m := m) (below := below) (meth := meth) (locs := locs) (cells := cells) (slots := slots) (rest := st) (g := F0 m pc sl ((jAs E.2 (3 :: κs) (0 :: vs)).reverse ++ st)) ⟨hx, hb, hml, hown, hts⟩ hMet ⟨cb, hts _ hw2⟩ (jPre (qP_2 hD1 hP) (qK_2 hD1 hK)) rfl (by simp [jAs, hlen]) hL.2.2.1 rfl (lv_room hst) hd ⟨hr3, hr4⟩
  exact qcall2 hD1 hrun hP hR hS (fun v σ' H1 locs1 hv hPv hP1 hRM hS1 => by rw [hEr E.2 E.1 v]; exact K v σ' hPv hv H1 locs1 sl hP1 hRM hS1 hL)
theorem qg_callV2 {M' : jM} {κs : List Nat} {d' idx : Nat} {f : jF} {vs : List Int} {P : Int → jMem → Prop} {C : String} {T : u_T} {N : Nat} (hM : jOk M' (3 :: κs) d' f) (hd' : d' + 1 ≤ d) (hst : (st.map fun v => v.category).sum ≤ 8) (hw : jcs M M' idx κs.length) (hw2 : Cond.instanceMethod M'.1 ∈ jgw) (hw3 : Cond.selects M'.1.cls M'.1 M'.1 ∈ jgw)
    (hc : jcw 7 C T N) (hC : C = M'.1.cls) (hd : decode M.2.1 pc = .ok (.invokevirtual idx, 3)) (ha : jRa (3 :: κs) (0 :: vs)) (hlen : vs.length = κs.length) (hE : ∀ E E' : jEnv, jAs E κs vs = jAs E' κs vs) (hEr : ∀ (E E' : jEnv) (v : Int), jRs E M'.2.2.2 v = jRs E' M'.2.2.2 v) (hf : f (0 :: vs) σ.2.1 P) (k : ∀ v σ', P v σ' → jR (jRk M'.2.2.2) v → qGo E M d Rr Γ (pc + 3) ls (jRs E.1 M'.2.2.2 v ++ st) (σ.1, σ', σ.2.2)) :
    qGo E M d Rr Γ pc ls ((jAs E.1 (6 :: κs) (0 :: vs)).reverse ++ st) σ := by
  intro A0 H0 p l e R s m args below meth c cells slots Q Cx H locs sl hP hR hS hL
  have K := fun v σ' z z2 => k v σ' z z2 A0 H0 p l e R s m args below meth c cells slots Q Cx
  obtain ⟨⟨hx, hb, hml, hown, hts⟩, hK, ⟨hr1, hr2, hr3, hr4⟩, ⟨hD1, hD2, hD3⟩, hsc, hret⟩ := Cx
  have hMet := hM l E.2 (0 :: vs) σ.2.1 P (qD_2 hP.2).1 ha hR.2.1 hf
  have cb := jcallB (M := M) (R := R) (d' := d') hts hw (by omega) (by omega)
  have hk : (0 : Nat) < 53 := by decide
  have hs : (jSh 0).1 = 4 := by decide +kernel
  have h2 : (jSh 0).2.1 = 7 := by decide +kernel
  have hw4 := jW_o (E := E.2) (σ := σ.2.1) hk hs
  rw [h2] at hw4
  have hrec := va_recv (qK_2 hD1 hK) (qP_2 hD1 hP) hc.1 hw4
  rw [show ((C, T, N) : vw_C).1 = M'.1.cls from hC] at hrec
  have eAs : jAs E.1 (6 :: κs) (0 :: vs) = jAs E.2 (3 :: κs) (0 :: vs) := by
    show Value.ref (E.1.1 60) :: jAs E.1 κs vs = Value.ref (E.2.1 0) :: jAs E.2 κs vs
    rw [hD2, hE E.1 E.2]
  rw [eAs]
  have hpre := jPre (As := jAs E.2 (3 :: κs) (0 :: vs)) (qP_2 hD1 hP) (qK_2 hD1 hK)
  have hrun := va_runV (p := p) (e := e) (m := m) (below := below) (meth := meth) (locs := locs) (cells := cells) (slots := slots) (rest := st) (As := jAs E.2 κs vs) (b := E.2.1 0) (g := F0 m pc sl ((jAs E.2 (3 :: κs) (0 :: vs)).reverse ++ st)) ⟨hx, hb, hml, hown, hts⟩ hMet ⟨cb, hts _ hw2, hts _ hw3⟩ ⟨hpre.1, hrec, hpre.2⟩ rfl (by simp [jAs, hlen]) hL.2.2.1 (by simp [jAs]; rfl) (lv_room hst) hd ⟨hr3, hr4⟩
  exact qcall2 hD1 hrun hP hR hS (fun v σ' H1 locs1 hv hPv hP1 hRM hS1 => by rw [hEr E.2 E.1 v]; exact K v σ' hPv hv H1 locs1 sl hP1 hRM hS1 hL)
/-- the row of numbers -/
theorem qg_fld {a x : Int} (ha : a = σ.2.2.1) (ha0 : 0 ≤ a) (hxx : jR 1 x) (h0 : 0 ≤ x) (h1 : x < 34) (hd : decode M.2.1 pc = .ok (.iaload, 1)) (k : jR 1 (σ.2.2.2 x) → qGo E M d Rr Γ (pc + 1) ls (jV E.1 1 (σ.2.2.2 x) :: st) σ) : qGo E M d Rr Γ pc ls (jV E.1 1 x :: jV E.1 7 a :: st) σ := by
  intro A0 H0 p l e R s m args below meth c cells slots Q C H locs sl hP hR hS hL
  have K := fun z => k z A0 H0 p l e R s m args below meth c cells slots Q C
  obtain ⟨⟨hx, hb, hml, hown, hts⟩, hK, ⟨hr1, hr2, hr3, hr4⟩, hD, hsc, hret⟩ := C
  obtain ⟨j, rfl⟩ := jnn h0
  have at106 : (qW E σ)[106]? = some (a.toNat, .inl (E.1.2.2.1 0, 34, .inl fun j : Nat => Int32.ofInt (σ.2.2.2 j))) := by
    rw [show 106 = 106 + 0 from rfl, qW_3]
    unfold qFw
    rw [if_neg (by omega), ha]; rfl
  refine va_iald hx hb hK hP.1 106 0 at106 rfl (jin hxx h0 h1) hd ?_
  rw [jnat hxx]
  exact K (hR.2.2 j) H locs sl hP hR hS hL
theorem qg_fst {a x v : Int} (ha : a = σ.2.2.1) (ha0 : 0 ≤ a) (hxx : jR 1 x) (hv : jR 1 v) (h0 : 0 ≤ x) (h1 : x < 34) (hd : decode M.2.1 pc = .ok (.iastore, 1)) (k : qGo E M d Rr Γ (pc + 1) ls st (σ.1, σ.2.1, σ.2.2.1, fun j => if j = x then v else σ.2.2.2 j)) : qGo E M d Rr Γ pc ls (jV E.1 1 v :: jV E.1 1 x :: jV E.1 7 a :: st) σ := by
  intro A0 H0 p l e R s m args below meth c cells slots Q C H locs sl hP hR hS hL
  have K := k A0 H0 p l e R s m args below meth c cells slots Q C
  obtain ⟨⟨hx, hb, hml, hown, hts⟩, hK, ⟨hr1, hr2, hr3, hr4⟩, hD, hsc, hret⟩ := C
  obtain ⟨j, rfl⟩ := jnn h0
  have at106 : (qW E σ)[106]? = some (a.toNat, .inl (E.1.2.2.1 0, 34, .inl fun j : Nat => Int32.ofInt (σ.2.2.2 j))) := by
    rw [show 106 = 106 + 0 from rfl, qW_3]
    unfold qFw
    rw [if_neg (by omega), ha]; rfl
  refine va_iast hx hb hK hP.1 hP.2 hS 106 0 at106 rfl (jin hxx h0 h1) hd (fun H1 locs1 hP1 hD1 hS1 => ?_)
  have es : (qW E σ).set 106 (a.toNat, .inl (E.1.2.2.1 0, 34, .inl (upd (fun j : Nat => Int32.ofInt (σ.2.2.2 j)) (Int32.ofInt ((j : Nat) : Int)).toNatClampNeg (Int32.ofInt v)))) = qW E (σ.1, σ.2.1, σ.2.2.1, fun i => if i = (j : Int) then v else σ.2.2.2 i) := by
    unfold qW qFw
    dsimp only
    rw [if_neg (by omega), if_neg (by omega)]
    rw [List.set_append_right _ _ (by rw [jW_len]; omega), jW_len, List.set_append_right _ _ (by rw [jW_len]; omega), jW_len]
    congr 2
    show [_] = [_]
    congr 1
    rw [← ha]
    congr 4
    refine congrArg Sum.inl ?_
    funext i
    rw [jnat hxx, Int.toNat_natCast]
    unfold upd
    by_cases e : i = j
    · subst e; simp
    · have : ¬ ((i : Int) = (j : Int)) := by omega
      simp [e, this]
  rw [es] at hP1 hD1
  refine K H1 locs1 sl ⟨hP1, hD1⟩ ⟨hR.1, hR.2.1, fun i => ?_⟩ hS1 hL
  show jR 1 (if (i : Int) = (j : Int) then v else σ.2.2.2 i)
  split
  · exact hv
  · exact hR.2.2 i
/-- a reference that is no cell of the first desk -/
theorem qg_aloadk_n {i : Fin 4} {n κ : Nat} (hκ : κ = 4 ∨ κ = 6 ∨ κ = 7) (v : Int) (hi : (i : Nat) = n) (hΓ : Γ[n]? = some κ) (hv : ls.getD n 0 = v) (hd : decode M.2.1 pc = .ok (.aload_n i, 1)) (k : qGo E M d Rr Γ (pc + 1) ls (jV E.1 κ v :: st) σ) : qGo E M d Rr Γ pc ls st σ := by
  subst hv
  intro A0 H0 p l e R s m args below meth c cells slots Q C H locs sl hP hR hS hL
  have K := k A0 H0 p l e R s m args below meth c cells slots Q C
  obtain ⟨⟨hx, hb, hml, hown, hts⟩, hK, ⟨hr1, hr2, hr3, hr4⟩, hD, hsc, hret⟩ := C
  have g := jLv_get hL hΓ (by omega)
  rcases hκ with rfl | rfl | rfl
  · exact lv_aload_n hx hb hd hi g.1 (K H locs sl hP hR hS hL)
  · exact lv_aload_n hx hb hd hi g.1 (K H locs sl hP hR hS hL)
  · exact lv_aload_n hx hb hd hi g.1 (K H locs sl hP hR hS hL)
theorem qg_aload7 {n : Nat} (v : Int) (hΓ : Γ[n]? = some 7) (hv : ls.getD n 0 = v) (hd : decode M.2.1 pc = .ok (.aload n, 2)) (k : jR 7 v → qGo E M d Rr Γ (pc + 2) ls (jV E.1 7 v :: st) σ) : qGo E M d Rr Γ pc ls st σ := by
  subst hv
  intro A0 H0 p l e R s m args below meth c cells slots Q C H locs sl hP hR hS hL
  have g := jLv_get hL hΓ (by omega)
  have K := k g.2 A0 H0 p l e R s m args below meth c cells slots Q C
  obtain ⟨⟨hx, hb, hml, hown, hts⟩, hK, ⟨hr1, hr2, hr3, hr4⟩, hD, hsc, hret⟩ := C
  exact lv_aload hx hb hd g.1 (K H locs sl hP hR hS hL)
end
/-! ===== the script's cells ===== -/
section
def qCell (xs : Int → Int) (L k : Int) : Int := if k < L then xs k else j32 (747796405 * j32 (k + 1))
def qXs (xs : Nat → Int32) : Int → Int := fun i => (xs i.toNat).toInt
theorem qCell_R {xs : Nat → Int32} {L k : Int} : jR 1 (qCell (qXs xs) L k) := by
  unfold qCell qXs
  split
  · exact jR32 _
  · exact ⟨j32_ge _, j32_lt _⟩
set_option maxRecDepth 100000 in
theorem wnL_7 : Cond.constant RL 7 (Int32.ofInt 747796405) ∈ jgw := jgw_in 318 (by decide +kernel) (by decide +kernel)
set_option maxRecDepth 100000 in
theorem wlL_62 : Cond.methodLink RL 62 yL_cell ∈ jgw := jgw_in 315 rfl rfl
set_option maxRecDepth 100000 in
theorem wmL_cell : Cond.static yL_cell ∈ jgw ∧ Cond.initialized RL ∈ jgw ∧ Cond.code yL_cell cL_cell 2 (some .int) ∈ jgw := ⟨jgw_in 316 rfl rfl, jgw_in 18 rfl rfl, jgw_in 317 rfl rfl⟩
abbrev ML_cell : jM := (yL_cell, cL_cell, 2, some .int)
theorem c_cell (l : Launch) (b L : Nat) (xs : Nat → Int32) (k : Int) (hk0 : 0 ≤ k) (hk : jR 1 k) (hL : L < 2147483648) : Met l yL_cell (.code yL_cell cL_cell 2 (some .int) :: jgw) (jRoom 0) (va_Pc [.ref b, .int (Int32.ofInt k)] (fun U => va_X b L xs U U.heap ∧ b < U.heap.size)) (fun _ st oc t => oc = .returned (some (.int (Int32.ofInt (qCell (qXs xs) L k)))) ∧ va_F (fun _ => False) st t) 0 0 (fun _ => False) := by
  refine Met.ofW (cc := cL_cell) (maxL := 2) (ret := some .int) (by decide +kernel) rfl ?_
  intro p e s m args below meth c s₁ B hml hv
  obtain ⟨rfl, hX, hbl⟩ := hv
  have hx := B.exec
  have hb := B.bytes
  have hr := B.returns
  have hts0 := atoms_spec (ws := Cond.code yL_cell cL_cell 2 (some .int) :: jgw) B.pre
  have hts : ∀ w ∈ jgw, w.before _ s = true := fun w hw => hts0 w (List.mem_cons_of_mem _ hw)
  have hown : s.vm.findClass RL = some m.cls := findClass_of_methodNamed B.named
  have hlocks := B.notSynchronized
  have hS : va_S (fun _ => False) s.heap s.heap [] := va_S.rf
  have hl := lv_entry ([.ref b, .int (Int32.ofInt k)]) (n := 2) (Nat.le_of_ble_eq_true rfl)
  rw [lg_entry_eq]
  generalize (lg_sl ([.ref b, .int (Int32.ofInt k)]) ++ List.replicate (2 - (lg_sl ([.ref b, .int (Int32.ofInt k)])).length) Slot.unset).toArray = ls at hl ⊢
  have hl : lv_has ls 2 [(0, .ref b), (1, .int (Int32.ofInt k))] := hl
  have hLR : jR 1 (L : Int) := ⟨by omega, by omega⟩
  have e1 : Int32.ofNat L = Int32.ofInt (L : Int) := rfl
  refine lv_iload_n hx hb dL_cell_0 rfl (lv_at hl 1 rfl) ?_
  refine lv_aload_n hx hb dL_cell_1 rfl (lv_at hl 0 rfl) ?_
  refine va_slen hx hb hX hbl (fun z => z) hS dL_cell_2 ?_
  rw [e1]
  refine lv_icmp_ge (tgt := 12) hx hb dL_cell_3 rfl (fun c => ?_) (fun c => ?_)
  · rw [jleq hLR hk] at c
    refine lv_ldc hx hb hown (hts _ wnL_7) dL_cell_12 ?_
    refine lv_iload_n hx hb dL_cell_14 rfl (lv_at hl 1 rfl) ?_
    refine lv_iconst (v := Int32.ofInt 1) hx hb dL_cell_15 rfl ?_
    refine lv_iadd hx hb dL_cell_16 ?_
    refine lv_imul hx hb dL_cell_17 ?_
    have ev : Int32.ofInt 747796405 * (Int32.ofInt k + Int32.ofInt 1) = Int32.ofInt (qCell (qXs xs) L k) := by
      unfold qCell
      rw [if_neg (by omega), j32_o, Int32.ofInt_mul, j32_o, Int32.ofInt_add]
    rw [ev]
    exact W.iret hx hb hr (fun t ht hW => ⟨rfl, hS.F ht⟩) hS.2.2 dL_cell_18
  · rw [jleq hLR hk] at c
    refine lv_aload_n hx hb dL_cell_6 rfl (lv_at hl 0 rfl) ?_
    refine lv_iload_n hx hb dL_cell_7 rfl (lv_at hl 1 rfl) ?_
    refine va_sld hx hb hX hbl (fun z => z) hS (jin hk hk0 (by omega)) dL_cell_8 ?_
    rw [jnat hk]
    refine lv_goto (tgt := 18) hx hb dL_cell_9 rfl ?_
    have ev : xs k.toNat = Int32.ofInt (qCell (qXs xs) L k) := by
      unfold qCell qXs
      rw [if_pos (by omega), Int32.ofInt_toInt]
    rw [ev]
    exact W.iret hx hb hr (fun t ht hW => ⟨rfl, hS.F ht⟩) hS.2.2 dL_cell_18
/-- the call, from the law -/
theorem qcallC {p : Program} {l : Launch} {e : Env} {R : Room} {s : State} {m : MethodId} {args : Array Value} {below : List Frame} {meth : Method} {c : Code} {H : Heap} {locs : List Loc} {cells slots : Nat} {Q : State → Prop} {sl : Array Slot} {st : List Value} {A0 : Nat → Prop} {H0 : Heap} {E : qEnv} {μ : qMem} {pc b L nL : Nat} {cc : ByteArray} {xs : Nat → Int32} {k : Int} (hcf : CallFix p m c cc nL s args jgw RL) (hX : va_X b L xs s H0) (hbl : b < H0.size) (hbA : ¬ A0 b) (hk0 : 0 ≤ k) (hk : jR 1 k) (hL : L < 2147483648) (hfr : 1 ≤ R.frames ∧ 80 ≤ R.locals ∧ cells ≤ R.cells ∧ slots ≤ R.slots) (hsl : sl.size = nL) (hP : qP E A0 μ H) (hS : va_S A0 H0 H locs) (hst : (st.map fun v => v.category).sum ≤ 8) (hd : decode cc pc = .ok (.invokestatic 62, 3))
    (kk : ∀ (H1 : Heap) (locs1 : List Loc), qP E A0 μ H1 → va_S A0 H0 H1 locs1 → W p l e R s m args below meth c H1 locs1 cells slots Q (F0 m (pc + 3) sl (.int (Int32.ofInt (qCell (qXs xs) L k)) :: st))) : W p l e R s m args below meth c H locs cells slots Q (F0 m pc sl (.int (Int32.ofInt k) :: .ref b :: st)) := by
  have hts := hcf.2.2.2.2
  have hMet := c_cell l b L xs k hk0 hk hL
  have cb : CallB R s args RL 62 yL_cell cL_cell 2 (some .int) (Cond.code yL_cell cL_cell 2 (some .int) :: jgw) (jRoom 0) 0 0 2 := by
    refine callB_of 2 hts (fun w hw => ?_) rfl rfl rfl (hts _ wmL_cell.2.1) (hts _ wlL_62) ⟨by decide, by decide, by decide +kernel⟩ ⟨hfr.1, ?_⟩
    · rcases List.mem_cons.mp hw with rfl | hw
      · exact jgw_good _ wmL_cell.2.2
      · exact jgw_good _ hw
    · have := hfr.2.1
      show 8 + (2 + 11) + 80 * 0 ≤ R.locals
      omega
  have hXH : va_X b L xs s H := hX.kept (hS.2.1 b hbl hbA)
  have hpre : PreS s H (va_Pc [.ref b, .int (Int32.ofInt k)] (fun U => va_X b L xs U U.heap ∧ b < U.heap.size)) [.ref b, .int (Int32.ofInt k)] :=
    ⟨fun a U g mk q => ⟨q.1, va_X.moved (u := U) (U := U.calling g mk a) (Vm.Alike.refl U.vm) q.2.1, q.2.2⟩, fun U hU hW => ⟨rfl, by rw [hU]; exact va_X.moved hW.alike hXH, by rw [hU]; exact Nat.lt_of_lt_of_le hbl hS.1⟩⟩
  have hrun := va_runS (p := p) (e := e) (m := m) (below := below) (meth := meth) (locs := locs) (cells := cells) (slots := slots) (rest := st) (g := F0 m pc sl (.int (Int32.ofInt k) :: .ref b :: st)) hcf hMet ⟨cb, hts _ wmL_cell.1⟩ hpre rfl rfl hsl rfl (lv_room hst) hd ⟨hfr.2.2.1, hfr.2.2.2⟩
  intro T hT X
  obtain ⟨v0, st₀, t, T', Lc, h0, X', hLc, e1, e2, ⟨hv, hz, hkk⟩, stp⟩ := hrun T hT X
  rw [h0] at hz hkk
  have hv2 : v0.toList = [.int (Int32.ofInt (qCell (qXs xs) L k))] := by cases hv; rfl
  rw [hv2] at stp
  have hk2 : ∀ q : Nat, q < H.size → T'.heap[q]? = H[q]? := fun q hq => by rw [e1]; exact hkk q hq (fun z => z)
  obtain ⟨t2, a1, b1⟩ := kk T'.heap (locs ++ Lc) (qP_kept hP hk2)
    ⟨Nat.le_trans hS.1 (by rw [e1]; exact hz), fun q h1 h2 => by rw [hk2 q (Nat.lt_of_lt_of_le h1 hS.1)]; exact hS.2.1 q h1 h2, fun q hq => by
      rcases List.mem_append.mp hq with h | h
      · exact hS.2.2 q h
      · exact absurd (hLc q h) (fun z => z)⟩ T' rfl X'
  exact ⟨t2, stp t2 a1, b1⟩
def qxs (E : qEnv) : Int → Int := qXs E.1.2.2.2.2.2
def qxl (E : qEnv) : Int := (E.1.2.2.2.2.1 : Int)
variable {E : qEnv} {M : jM} {d : Nat} {Rr : Int → qMem → Prop} {Γ : List Nat} {pc : Nat} {ls : List Int} {st : List Value} {σ : qMem}
theorem qg_cell {k : Int} (hM : M.1.name = "law" ∧ M.1.cls = RL) (hLE : qxl E < 2147483648) (hk0 : 0 ≤ k) (hk : jR 1 k) (hdd : 1 ≤ d) (hst : (st.map fun v => v.category).sum ≤ 8) (hd : decode M.2.1 pc = .ok (.invokestatic 62, 3)) (kn : qGo E M d Rr Γ (pc + 3) ls (jV E.1 1 (qCell (qxs E) (qxl E) k) :: st) σ) : qGo E M d Rr Γ pc ls (jV E.1 1 k :: jV E.1 4 0 :: st) σ := by
  intro A0 H0 p l e R s m args below meth c cells slots Q C H locs sl hP hR hS hL
  have K := kn A0 H0 p l e R s m args below meth c cells slots Q C
  obtain ⟨hcf, hK, ⟨hr1, hr2, hr3, hr4⟩, hD, hsc, hret⟩ := C
  obtain ⟨hX, hbl, hbA⟩ := hsc hM.1
  have hcf2 : CallFix p m c M.2.1 M.2.2.1 s args jgw RL := by rw [← hM.2]; exact hcf
  refine qcallC (L := E.1.2.2.2.2.1) hcf2 hX hbl hbA hk0 hk (by unfold qxl at hLE; omega) ⟨by omega, by omega, hr3, hr4⟩ hL.2.2.1 hP hS hst hd (fun H1 locs1 hP1 hS1 => ?_)
  exact K H1 locs1 sl hP1 hR hS1 hL
end
section
variable {E : qEnv} {M : jM} {d : Nat} {Rr : Int → qMem → Prop} {Γ : List Nat} {pc : Nat} {ls : List Int} {st : List Value} {σ : qMem}
theorem qg_iconst {n : Int} (hd : decode M.2.1 pc = .ok (.iconst n, 1)) (k : qGo E M d Rr Γ (pc + 1) ls (jV E.1 1 n :: st) σ) : qGo E M d Rr Γ pc ls (st) σ := by
  intro A0 H0 p l e R s m args below meth c cells slots Q C H locs sl hP hR hS hL
  have K := k A0 H0 p l e R s m args below meth c cells slots Q C
  obtain ⟨⟨hx, hb, hml, hown, hts⟩, hK, ⟨hr1, hr2, hr3, hr4⟩, hD, hsc, hret⟩ := C
  exact lv_iconst hx hb hd rfl (K H locs sl hP hR hS hL)
theorem qg_bipush {n : Int} (hn : (Int8.ofInt n).toInt32 = Int32.ofInt n) (hd : decode M.2.1 pc = .ok (.bipush n, 2)) (k : qGo E M d Rr Γ (pc + 2) ls (jV E.1 1 n :: st) σ) : qGo E M d Rr Γ pc ls (st) σ := by
  intro A0 H0 p l e R s m args below meth c cells slots Q C H locs sl hP hR hS hL
  have K := k A0 H0 p l e R s m args below meth c cells slots Q C
  obtain ⟨⟨hx, hb, hml, hown, hts⟩, hK, ⟨hr1, hr2, hr3, hr4⟩, hD, hsc, hret⟩ := C
  exact lv_bipush hx hb hd hn (K H locs sl hP hR hS hL)
theorem qg_sipush {n : Int} (hn : (Int16.ofInt n).toInt32 = Int32.ofInt n) (hd : decode M.2.1 pc = .ok (.sipush n, 3)) (k : qGo E M d Rr Γ (pc + 3) ls (jV E.1 1 n :: st) σ) : qGo E M d Rr Γ pc ls (st) σ := by
  intro A0 H0 p l e R s m args below meth c cells slots Q C H locs sl hP hR hS hL
  have K := k A0 H0 p l e R s m args below meth c cells slots Q C
  obtain ⟨⟨hx, hb, hml, hown, hts⟩, hK, ⟨hr1, hr2, hr3, hr4⟩, hD, hsc, hret⟩ := C
  exact lv_sipush hx hb hd hn (K H locs sl hP hR hS hL)
theorem qg_ldc {n : Int} {index : Nat} (hw : Jvm.Cond.constant M.1.cls index (Int32.ofInt n) ∈ jgw) (hd : decode M.2.1 pc = .ok (.ldc index, 2)) (k : qGo E M d Rr Γ (pc + 2) ls (jV E.1 1 n :: st) σ) : qGo E M d Rr Γ pc ls (st) σ := by
  intro A0 H0 p l e R s m args below meth c cells slots Q C H locs sl hP hR hS hL
  have K := k A0 H0 p l e R s m args below meth c cells slots Q C
  obtain ⟨⟨hx, hb, hml, hown, hts⟩, hK, ⟨hr1, hr2, hr3, hr4⟩, hD, hsc, hret⟩ := C
  exact lv_ldc hx hb hown (hts _ hw) hd (K H locs sl hP hR hS hL)
theorem qg_iload_n {i : Fin 4} {n : Nat} (hi : (i : Nat) = n) (hΓ : Γ[n]? = some 1) (hd : decode M.2.1 pc = .ok (.iload_n i, 1)) (k : jR 1 (ls.getD n 0) → qGo E M d Rr Γ (pc + 1) ls (jV E.1 1 (ls.getD n 0) :: st) σ) : qGo E M d Rr Γ pc ls (st) σ := by
  intro A0 H0 p l e R s m args below meth c cells slots Q C H locs sl hP hR hS hL
  have K := fun z => k z A0 H0 p l e R s m args below meth c cells slots Q C
  obtain ⟨⟨hx, hb, hml, hown, hts⟩, hK, ⟨hr1, hr2, hr3, hr4⟩, hD, hsc, hret⟩ := C
  have g := jLv_get hL hΓ (by decide)
  exact lv_iload_n hx hb hd hi g.1 (K g.2 H locs sl hP hR hS hL)
theorem qg_iload {n : Nat} (hΓ : Γ[n]? = some 1) (hd : decode M.2.1 pc = .ok (.iload n, 2)) (k : jR 1 (ls.getD n 0) → qGo E M d Rr Γ (pc + 2) ls (jV E.1 1 (ls.getD n 0) :: st) σ) : qGo E M d Rr Γ pc ls (st) σ := by
  intro A0 H0 p l e R s m args below meth c cells slots Q C H locs sl hP hR hS hL
  have K := fun z => k z A0 H0 p l e R s m args below meth c cells slots Q C
  obtain ⟨⟨hx, hb, hml, hown, hts⟩, hK, ⟨hr1, hr2, hr3, hr4⟩, hD, hsc, hret⟩ := C
  have g := jLv_get hL hΓ (by decide)
  exact lv_iload hx hb hd  g.1 (K g.2 H locs sl hP hR hS hL)
theorem qg_istore_n {i : Fin 4} {n : Nat} {v : Int} {Γ1 : List Nat} (hi : (i : Nat) = n) (hv : jR 1 v) (hn : n < M.2.2.1) (hst : jst Γ n 1 Γ1 = true) (hd : decode M.2.1 pc = .ok (.istore_n i, 1)) (k : qGo E M d Rr Γ1 (pc + 1) (ls.set n v) (st) σ) : qGo E M d Rr Γ pc ls (jV E.1 1 v :: st) σ := by
  intro A0 H0 p l e R s m args below meth c cells slots Q C H locs sl hP hR hS hL
  have K := k A0 H0 p l e R s m args below meth c cells slots Q C
  obtain ⟨⟨hx, hb, hml, hown, hts⟩, hK, ⟨hr1, hr2, hr3, hr4⟩, hD, hsc, hret⟩ := C
  exact lv_istore_n hx hb hd hi (jLv_has hL) hn rfl (fun sl1 hs => K H locs sl1 hP hR hS (jLv_store1 hL hn (by decide) hv hst hs))
theorem qg_istore {n : Nat} {v : Int} {Γ1 : List Nat} (hv : jR 1 v) (hn : n < M.2.2.1) (hst : jst Γ n 1 Γ1 = true) (hd : decode M.2.1 pc = .ok (.istore n, 2)) (k : qGo E M d Rr Γ1 (pc + 2) (ls.set n v) (st) σ) : qGo E M d Rr Γ pc ls (jV E.1 1 v :: st) σ := by
  intro A0 H0 p l e R s m args below meth c cells slots Q C H locs sl hP hR hS hL
  have K := k A0 H0 p l e R s m args below meth c cells slots Q C
  obtain ⟨⟨hx, hb, hml, hown, hts⟩, hK, ⟨hr1, hr2, hr3, hr4⟩, hD, hsc, hret⟩ := C
  exact lv_istore hx hb hd  (jLv_has hL) hn rfl (fun sl1 hs => K H locs sl1 hP hR hS (jLv_store1 hL hn (by decide) hv hst hs))
theorem qg_aload_n {i : Fin 4} {n : Nat} (hi : (i : Nat) = n) (hΓ : Γ[n]? = some 3) (hd : decode M.2.1 pc = .ok (.aload_n i, 1)) (k : jR 3 (ls.getD n 0) → qGo E M d Rr Γ (pc + 1) ls (jV E.1 3 (ls.getD n 0) :: st) σ) : qGo E M d Rr Γ pc ls (st) σ := by
  intro A0 H0 p l e R s m args below meth c cells slots Q C H locs sl hP hR hS hL
  have K := fun z => k z A0 H0 p l e R s m args below meth c cells slots Q C
  obtain ⟨⟨hx, hb, hml, hown, hts⟩, hK, ⟨hr1, hr2, hr3, hr4⟩, hD, hsc, hret⟩ := C
  have g := jLv_get hL hΓ (by decide)
  exact lv_aload_n hx hb hd hi g.1 (K g.2 H locs sl hP hR hS hL)
theorem qg_iinc {n : Nat} {b : Int} {Γ1 : List Nat} (hΓ : Γ[n]? = some 1) (hst : jst Γ n 1 Γ1 = true) (hd : decode M.2.1 pc = .ok (.iinc n b, 3)) (k : qGo E M d Rr Γ1 (pc + 3) (ls.set n (j32 (ls.getD n 0 + b))) (st) σ) : qGo E M d Rr Γ pc ls (st) σ := by
  intro A0 H0 p l e R s m args below meth c cells slots Q C H locs sl hP hR hS hL
  have K := k A0 H0 p l e R s m args below meth c cells slots Q C
  obtain ⟨⟨hx, hb, hml, hown, hts⟩, hK, ⟨hr1, hr2, hr3, hr4⟩, hD, hsc, hret⟩ := C
  have g := jLv_get hL hΓ (by decide)
  have hn : n < M.2.2.1 := by rw [← hL.2.1]; exact (List.getElem?_eq_some_iff.mp hΓ).1
  have hg : n < Γ.length := (List.getElem?_eq_some_iff.mp hΓ).1
  have hh : lv_has sl M.2.2.1 ((n, Value.int (Int32.ofInt (ls.getD n 0))) :: jList E.1 Γ ls) := ⟨(jLv_has hL).1, (jLv_has hL).2.1, fun q hq => by
    rcases List.mem_cons.mp hq with rfl | hq
    · exact g.1
    · exact (jLv_has hL).2.2 q hq⟩
  refine lv_iinc hx hb hd hh (k := 0) rfl rfl hn rfl (fun sl1 hs => K H locs sl1 hP hR hS ?_)
  refine jLv_store1 (κ := 1) hL hn (by decide) ⟨j32_ge _, j32_lt _⟩ hst ?_
  refine ⟨hs.1, hs.2.1, fun q hq => ?_⟩
  rcases List.mem_cons.mp hq with rfl | hq
  · have h1 := hs.2.2 _ List.mem_cons_self
    rw [show jV E.1 1 (j32 (ls.getD n 0 + b)) = Value.int (Int32.ofInt (ls.getD n 0) + Int32.ofInt b) by
      show Value.int _ = _
      rw [j32_o, Int32.ofInt_add]]
    exact h1
  · refine hs.2.2 q (List.mem_cons_of_mem _ ?_)
    obtain ⟨q1, q2⟩ := List.mem_filter.mp hq
    exact List.mem_filter.mpr ⟨List.mem_cons_of_mem _ q1, q2⟩
theorem qg_iadd {x y : Int}  (hd : decode M.2.1 pc = .ok (.iadd, 1)) (k : qGo E M d Rr Γ (pc + 1) ls (jV E.1 1 (j32 (x + y)) :: st) σ) : qGo E M d Rr Γ pc ls (jV E.1 1 y :: jV E.1 1 x :: st) σ := by
  intro A0 H0 p l e R s m args below meth c cells slots Q C H locs sl hP hR hS hL
  have K := k A0 H0 p l e R s m args below meth c cells slots Q C
  obtain ⟨⟨hx, hb, hml, hown, hts⟩, hK, ⟨hr1, hr2, hr3, hr4⟩, hD, hsc, hret⟩ := C
  refine lv_iadd hx hb hd ?_
  have K1 := K H locs sl hP hR hS hL
  rw [show jV E.1 1 (j32 (x + y)) = Value.int (Int32.ofInt x + Int32.ofInt y) by show Value.int _ = _; rw [j32_o, Int32.ofInt_add]] at K1
  exact K1
theorem qg_isub {x y : Int}  (hd : decode M.2.1 pc = .ok (.isub, 1)) (k : qGo E M d Rr Γ (pc + 1) ls (jV E.1 1 (j32 (x - y)) :: st) σ) : qGo E M d Rr Γ pc ls (jV E.1 1 y :: jV E.1 1 x :: st) σ := by
  intro A0 H0 p l e R s m args below meth c cells slots Q C H locs sl hP hR hS hL
  have K := k A0 H0 p l e R s m args below meth c cells slots Q C
  obtain ⟨⟨hx, hb, hml, hown, hts⟩, hK, ⟨hr1, hr2, hr3, hr4⟩, hD, hsc, hret⟩ := C
  refine lv_isub hx hb hd ?_
  have K1 := K H locs sl hP hR hS hL
  rw [show jV E.1 1 (j32 (x - y)) = Value.int (Int32.ofInt x - Int32.ofInt y) by show Value.int _ = _; rw [j32_o, Int32.ofInt_sub]] at K1
  exact K1
theorem qg_imul {x y : Int}  (hd : decode M.2.1 pc = .ok (.imul, 1)) (k : qGo E M d Rr Γ (pc + 1) ls (jV E.1 1 (j32 (x * y)) :: st) σ) : qGo E M d Rr Γ pc ls (jV E.1 1 y :: jV E.1 1 x :: st) σ := by
  intro A0 H0 p l e R s m args below meth c cells slots Q C H locs sl hP hR hS hL
  have K := k A0 H0 p l e R s m args below meth c cells slots Q C
  obtain ⟨⟨hx, hb, hml, hown, hts⟩, hK, ⟨hr1, hr2, hr3, hr4⟩, hD, hsc, hret⟩ := C
  refine lv_imul hx hb hd ?_
  have K1 := K H locs sl hP hR hS hL
  rw [show jV E.1 1 (j32 (x * y)) = Value.int (Int32.ofInt x * Int32.ofInt y) by show Value.int _ = _; rw [j32_o, Int32.ofInt_mul]] at K1
  exact K1
theorem qg_iand {x y : Int}  (hd : decode M.2.1 pc = .ok (.iand, 1)) (k : qGo E M d Rr Γ (pc + 1) ls (jV E.1 1 (jand x y) :: st) σ) : qGo E M d Rr Γ pc ls (jV E.1 1 y :: jV E.1 1 x :: st) σ := by
  intro A0 H0 p l e R s m args below meth c cells slots Q C H locs sl hP hR hS hL
  have K := k A0 H0 p l e R s m args below meth c cells slots Q C
  obtain ⟨⟨hx, hb, hml, hown, hts⟩, hK, ⟨hr1, hr2, hr3, hr4⟩, hD, hsc, hret⟩ := C
  refine lv_iand hx hb hd ?_
  have K1 := K H locs sl hP hR hS hL
  rw [jand, jb32] at K1
  exact K1
theorem qg_ishr {x y : Int}  (hd : decode M.2.1 pc = .ok (.ishr, 1)) (k : qGo E M d Rr Γ (pc + 1) ls (jV E.1 1 (jshr x y) :: st) σ) : qGo E M d Rr Γ pc ls (jV E.1 1 y :: jV E.1 1 x :: st) σ := by
  intro A0 H0 p l e R s m args below meth c cells slots Q C H locs sl hP hR hS hL
  have K := k A0 H0 p l e R s m args below meth c cells slots Q C
  obtain ⟨⟨hx, hb, hml, hown, hts⟩, hK, ⟨hr1, hr2, hr3, hr4⟩, hD, hsc, hret⟩ := C
  refine lv_ishr hx hb hd ?_
  have K1 := K H locs sl hP hR hS hL
  rw [jshr, jb32] at K1
  exact K1
theorem qg_icmp_eq {x y : Int} {off : Int} (tgt : Nat) (hxx : jR 1 x) (hy : jR 1 y) (hd : decode M.2.1 pc = .ok (.if_icmp .eq off, 3)) (ht : (pc : Int) + off = (tgt : Int)) (kt : x = y → qGo E M d Rr Γ tgt ls st σ) (kf : ¬ (x = y) → qGo E M d Rr Γ (pc + 3) ls st σ) : qGo E M d Rr Γ pc ls (jV E.1 1 y :: jV E.1 1 x :: st) σ := by
  intro A0 H0 p l e R s m args below meth c cells slots Q C H locs sl hP hR hS hL
  have KT := fun z => kt z A0 H0 p l e R s m args below meth c cells slots Q C
  have KF := fun z => kf z A0 H0 p l e R s m args below meth c cells slots Q C
  obtain ⟨⟨hx, hb, hml, hown, hts⟩, hK, ⟨hr1, hr2, hr3, hr4⟩, hD, hsc, hret⟩ := C
  exact lv_icmp_eq hx hb hd ht (fun z => KT ((jeq hxx hy).mp z) H locs sl hP hR hS hL) (fun z => KF (fun w => z ((jeq hxx hy).mpr w)) H locs sl hP hR hS hL)
theorem qg_icmp_ne {x y : Int} {off : Int} (tgt : Nat) (hxx : jR 1 x) (hy : jR 1 y) (hd : decode M.2.1 pc = .ok (.if_icmp .ne off, 3)) (ht : (pc : Int) + off = (tgt : Int)) (kt : ¬ (x = y) → qGo E M d Rr Γ tgt ls st σ) (kf : x = y → qGo E M d Rr Γ (pc + 3) ls st σ) : qGo E M d Rr Γ pc ls (jV E.1 1 y :: jV E.1 1 x :: st) σ := by
  intro A0 H0 p l e R s m args below meth c cells slots Q C H locs sl hP hR hS hL
  have KT := fun z => kt z A0 H0 p l e R s m args below meth c cells slots Q C
  have KF := fun z => kf z A0 H0 p l e R s m args below meth c cells slots Q C
  obtain ⟨⟨hx, hb, hml, hown, hts⟩, hK, ⟨hr1, hr2, hr3, hr4⟩, hD, hsc, hret⟩ := C
  exact lv_icmp_ne hx hb hd ht (fun z => KT (fun w => z ((jeq hxx hy).mpr w)) H locs sl hP hR hS hL) (fun z => KF ((jeq hxx hy).mp (by first | exact z | exact Classical.not_not.mp z)) H locs sl hP hR hS hL)
theorem qg_icmp_lt {x y : Int} {off : Int} (tgt : Nat) (hxx : jR 1 x) (hy : jR 1 y) (hd : decode M.2.1 pc = .ok (.if_icmp .lt off, 3)) (ht : (pc : Int) + off = (tgt : Int)) (kt : x < y → qGo E M d Rr Γ tgt ls st σ) (kf : ¬ (x < y) → qGo E M d Rr Γ (pc + 3) ls st σ) : qGo E M d Rr Γ pc ls (jV E.1 1 y :: jV E.1 1 x :: st) σ := by
  intro A0 H0 p l e R s m args below meth c cells slots Q C H locs sl hP hR hS hL
  have KT := fun z => kt z A0 H0 p l e R s m args below meth c cells slots Q C
  have KF := fun z => kf z A0 H0 p l e R s m args below meth c cells slots Q C
  obtain ⟨⟨hx, hb, hml, hown, hts⟩, hK, ⟨hr1, hr2, hr3, hr4⟩, hD, hsc, hret⟩ := C
  exact lv_icmp_lt hx hb hd ht (fun z => KT ((jlt hxx hy).mp z) H locs sl hP hR hS hL) (fun z => KF (fun w => z ((jlt hxx hy).mpr w)) H locs sl hP hR hS hL)
theorem qg_icmp_ge {x y : Int} {off : Int} (tgt : Nat) (hxx : jR 1 x) (hy : jR 1 y) (hd : decode M.2.1 pc = .ok (.if_icmp .ge off, 3)) (ht : (pc : Int) + off = (tgt : Int)) (kt : y ≤ x → qGo E M d Rr Γ tgt ls st σ) (kf : ¬ (y ≤ x) → qGo E M d Rr Γ (pc + 3) ls st σ) : qGo E M d Rr Γ pc ls (jV E.1 1 y :: jV E.1 1 x :: st) σ := by
  intro A0 H0 p l e R s m args below meth c cells slots Q C H locs sl hP hR hS hL
  have KT := fun z => kt z A0 H0 p l e R s m args below meth c cells slots Q C
  have KF := fun z => kf z A0 H0 p l e R s m args below meth c cells slots Q C
  obtain ⟨⟨hx, hb, hml, hown, hts⟩, hK, ⟨hr1, hr2, hr3, hr4⟩, hD, hsc, hret⟩ := C
  exact lv_icmp_ge hx hb hd ht (fun z => KT ((jleq hy hxx).mp z) H locs sl hP hR hS hL) (fun z => KF (fun w => z ((jleq hy hxx).mpr w)) H locs sl hP hR hS hL)
theorem qg_icmp_gt {x y : Int} {off : Int} (tgt : Nat) (hxx : jR 1 x) (hy : jR 1 y) (hd : decode M.2.1 pc = .ok (.if_icmp .gt off, 3)) (ht : (pc : Int) + off = (tgt : Int)) (kt : y < x → qGo E M d Rr Γ tgt ls st σ) (kf : ¬ (y < x) → qGo E M d Rr Γ (pc + 3) ls st σ) : qGo E M d Rr Γ pc ls (jV E.1 1 y :: jV E.1 1 x :: st) σ := by
  intro A0 H0 p l e R s m args below meth c cells slots Q C H locs sl hP hR hS hL
  have KT := fun z => kt z A0 H0 p l e R s m args below meth c cells slots Q C
  have KF := fun z => kf z A0 H0 p l e R s m args below meth c cells slots Q C
  obtain ⟨⟨hx, hb, hml, hown, hts⟩, hK, ⟨hr1, hr2, hr3, hr4⟩, hD, hsc, hret⟩ := C
  exact lv_icmp_gt hx hb hd ht (fun z => KT ((jlt hy hxx).mp z) H locs sl hP hR hS hL) (fun z => KF (fun w => z ((jlt hy hxx).mpr w)) H locs sl hP hR hS hL)
theorem qg_icmp_le {x y : Int} {off : Int} (tgt : Nat) (hxx : jR 1 x) (hy : jR 1 y) (hd : decode M.2.1 pc = .ok (.if_icmp .le off, 3)) (ht : (pc : Int) + off = (tgt : Int)) (kt : x ≤ y → qGo E M d Rr Γ tgt ls st σ) (kf : ¬ (x ≤ y) → qGo E M d Rr Γ (pc + 3) ls st σ) : qGo E M d Rr Γ pc ls (jV E.1 1 y :: jV E.1 1 x :: st) σ := by
  intro A0 H0 p l e R s m args below meth c cells slots Q C H locs sl hP hR hS hL
  have KT := fun z => kt z A0 H0 p l e R s m args below meth c cells slots Q C
  have KF := fun z => kf z A0 H0 p l e R s m args below meth c cells slots Q C
  obtain ⟨⟨hx, hb, hml, hown, hts⟩, hK, ⟨hr1, hr2, hr3, hr4⟩, hD, hsc, hret⟩ := C
  exact lv_icmp_le hx hb hd ht (fun z => KT ((jleq hxx hy).mp z) H locs sl hP hR hS hL) (fun z => KF (fun w => z ((jleq hxx hy).mpr w)) H locs sl hP hR hS hL)
theorem qg_if_eq {x : Int} {off : Int} (tgt : Nat) (hxx : jR 1 x) (hd : decode M.2.1 pc = .ok (.ifCond .eq off, 3)) (ht : (pc : Int) + off = (tgt : Int)) (kt : x = 0 → qGo E M d Rr Γ tgt ls st σ) (kf : ¬ (x = 0) → qGo E M d Rr Γ (pc + 3) ls st σ) : qGo E M d Rr Γ pc ls (jV E.1 1 x :: st) σ := by
  intro A0 H0 p l e R s m args below meth c cells slots Q C H locs sl hP hR hS hL
  have KT := fun z => kt z A0 H0 p l e R s m args below meth c cells slots Q C
  have KF := fun z => kf z A0 H0 p l e R s m args below meth c cells slots Q C
  obtain ⟨⟨hx, hb, hml, hown, hts⟩, hK, ⟨hr1, hr2, hr3, hr4⟩, hD, hsc, hret⟩ := C
  exact lv_if_eq hx hb hd ht (fun z => KT ((jeq hxx jR0).mp z) H locs sl hP hR hS hL) (fun z => KF (fun w => z ((jeq hxx jR0).mpr w)) H locs sl hP hR hS hL)
theorem qg_if_ne {x : Int} {off : Int} (tgt : Nat) (hxx : jR 1 x) (hd : decode M.2.1 pc = .ok (.ifCond .ne off, 3)) (ht : (pc : Int) + off = (tgt : Int)) (kt : ¬ (x = 0) → qGo E M d Rr Γ tgt ls st σ) (kf : x = 0 → qGo E M d Rr Γ (pc + 3) ls st σ) : qGo E M d Rr Γ pc ls (jV E.1 1 x :: st) σ := by
  intro A0 H0 p l e R s m args below meth c cells slots Q C H locs sl hP hR hS hL
  have KT := fun z => kt z A0 H0 p l e R s m args below meth c cells slots Q C
  have KF := fun z => kf z A0 H0 p l e R s m args below meth c cells slots Q C
  obtain ⟨⟨hx, hb, hml, hown, hts⟩, hK, ⟨hr1, hr2, hr3, hr4⟩, hD, hsc, hret⟩ := C
  exact lv_if_ne hx hb hd ht (fun z => KT (fun w => z ((jeq hxx jR0).mpr w)) H locs sl hP hR hS hL) (fun z => KF ((jeq hxx jR0).mp (by first | exact z | exact Classical.not_not.mp z)) H locs sl hP hR hS hL)
theorem qg_if_lt {x : Int} {off : Int} (tgt : Nat) (hxx : jR 1 x) (hd : decode M.2.1 pc = .ok (.ifCond .lt off, 3)) (ht : (pc : Int) + off = (tgt : Int)) (kt : x < 0 → qGo E M d Rr Γ tgt ls st σ) (kf : ¬ (x < 0) → qGo E M d Rr Γ (pc + 3) ls st σ) : qGo E M d Rr Γ pc ls (jV E.1 1 x :: st) σ := by
  intro A0 H0 p l e R s m args below meth c cells slots Q C H locs sl hP hR hS hL
  have KT := fun z => kt z A0 H0 p l e R s m args below meth c cells slots Q C
  have KF := fun z => kf z A0 H0 p l e R s m args below meth c cells slots Q C
  obtain ⟨⟨hx, hb, hml, hown, hts⟩, hK, ⟨hr1, hr2, hr3, hr4⟩, hD, hsc, hret⟩ := C
  exact lv_if_lt hx hb hd ht (fun z => KT ((jlt hxx jR0).mp z) H locs sl hP hR hS hL) (fun z => KF (fun w => z ((jlt hxx jR0).mpr w)) H locs sl hP hR hS hL)
theorem qg_if_ge {x : Int} {off : Int} (tgt : Nat) (hxx : jR 1 x) (hd : decode M.2.1 pc = .ok (.ifCond .ge off, 3)) (ht : (pc : Int) + off = (tgt : Int)) (kt : 0 ≤ x → qGo E M d Rr Γ tgt ls st σ) (kf : ¬ (0 ≤ x) → qGo E M d Rr Γ (pc + 3) ls st σ) : qGo E M d Rr Γ pc ls (jV E.1 1 x :: st) σ := by
  intro A0 H0 p l e R s m args below meth c cells slots Q C H locs sl hP hR hS hL
  have KT := fun z => kt z A0 H0 p l e R s m args below meth c cells slots Q C
  have KF := fun z => kf z A0 H0 p l e R s m args below meth c cells slots Q C
  obtain ⟨⟨hx, hb, hml, hown, hts⟩, hK, ⟨hr1, hr2, hr3, hr4⟩, hD, hsc, hret⟩ := C
  exact lv_if_ge hx hb hd ht (fun z => KT ((jleq jR0 hxx).mp z) H locs sl hP hR hS hL) (fun z => KF (fun w => z ((jleq jR0 hxx).mpr w)) H locs sl hP hR hS hL)
theorem qg_if_gt {x : Int} {off : Int} (tgt : Nat) (hxx : jR 1 x) (hd : decode M.2.1 pc = .ok (.ifCond .gt off, 3)) (ht : (pc : Int) + off = (tgt : Int)) (kt : 0 < x → qGo E M d Rr Γ tgt ls st σ) (kf : ¬ (0 < x) → qGo E M d Rr Γ (pc + 3) ls st σ) : qGo E M d Rr Γ pc ls (jV E.1 1 x :: st) σ := by
  intro A0 H0 p l e R s m args below meth c cells slots Q C H locs sl hP hR hS hL
  have KT := fun z => kt z A0 H0 p l e R s m args below meth c cells slots Q C
  have KF := fun z => kf z A0 H0 p l e R s m args below meth c cells slots Q C
  obtain ⟨⟨hx, hb, hml, hown, hts⟩, hK, ⟨hr1, hr2, hr3, hr4⟩, hD, hsc, hret⟩ := C
  exact lv_if_gt hx hb hd ht (fun z => KT ((jlt jR0 hxx).mp z) H locs sl hP hR hS hL) (fun z => KF (fun w => z ((jlt jR0 hxx).mpr w)) H locs sl hP hR hS hL)
theorem qg_if_le {x : Int} {off : Int} (tgt : Nat) (hxx : jR 1 x) (hd : decode M.2.1 pc = .ok (.ifCond .le off, 3)) (ht : (pc : Int) + off = (tgt : Int)) (kt : x ≤ 0 → qGo E M d Rr Γ tgt ls st σ) (kf : ¬ (x ≤ 0) → qGo E M d Rr Γ (pc + 3) ls st σ) : qGo E M d Rr Γ pc ls (jV E.1 1 x :: st) σ := by
  intro A0 H0 p l e R s m args below meth c cells slots Q C H locs sl hP hR hS hL
  have KT := fun z => kt z A0 H0 p l e R s m args below meth c cells slots Q C
  have KF := fun z => kf z A0 H0 p l e R s m args below meth c cells slots Q C
  obtain ⟨⟨hx, hb, hml, hown, hts⟩, hK, ⟨hr1, hr2, hr3, hr4⟩, hD, hsc, hret⟩ := C
  exact lv_if_le hx hb hd ht (fun z => KT ((jleq hxx jR0).mp z) H locs sl hP hR hS hL) (fun z => KF (fun w => z ((jleq hxx jR0).mpr w)) H locs sl hP hR hS hL)
theorem qg_goto {off : Int} (tgt : Nat) (hd : decode M.2.1 pc = .ok (.goto off, 3)) (ht : (pc : Int) + off = (tgt : Int)) (k : qGo E M d Rr Γ tgt ls st σ) : qGo E M d Rr Γ pc ls st σ := by
  intro A0 H0 p l e R s m args below meth c cells slots Q C H locs sl hP hR hS hL
  have K := k A0 H0 p l e R s m args below meth c cells slots Q C
  obtain ⟨⟨hx, hb, hml, hown, hts⟩, hK, ⟨hr1, hr2, hr3, hr4⟩, hD, hsc, hret⟩ := C
  exact lv_goto hx hb hd ht (K H locs sl hP hR hS hL)
theorem qg_ret {v : Int} (hd : jRi M pc) (hv : jR (jRk M.2.2.2) v) (hR : Rr v σ) : qGo E M d Rr Γ pc ls (jRs E.1 M.2.2.2 v) σ := by
  intro A0 H0 p l e R s m args below meth c cells slots Q C H locs sl hP hRM hS hL
  exact C.2.2.2.2.2 pc v σ H locs sl hd hv hR hP hRM hS
theorem qg_norm (Γ' : List Nat) (ls' : List Int) (h1 : jle Γ' Γ = true) (h2 : jMask Γ' ls = ls') (k : qGo E M d Rr Γ' pc ls' st σ) : qGo E M d Rr Γ pc ls st σ := by
  intro A0 H0 p l e R s m args below meth c cells slots Q C H locs sl hP hR hS hL
  have w := jLv_weak hL h1
  refine k A0 H0 p l e R s m args below meth c cells slots Q C H locs sl hP hR hS ⟨?_, w.2.1, w.2.2.1, w.2.2.2.1, fun i κ hi hκ => ?_⟩
  · rw [← h2, jMask_len Γ' ls (by rw [w.1, w.2.1]), w.2.1]
  · have := w.2.2.2.2 i κ hi hκ
    rw [← h2, jMask_get Γ' ls i κ hi hκ]
    exact this
end
