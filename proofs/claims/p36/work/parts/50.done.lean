/-! ===== seven pairs, outer ones; done, ways, way ===== -/
section
theorem jSum_pt {f g : Int → Int} {n : Nat} (h : ∀ i : Nat, i < n → f i ≤ g i) (e : jSum g n ≤ jSum f n) : ∀ i : Nat, i < n → f i = g i := by
  induction n with
  | zero => intro i hi; omega
  | succ n ih =>
    have a := jSum_le (f := f) (g := g) (n := n) (fun i hi => h i (by omega))
    have b := h n (by omega)
    simp only [jSum] at e
    intro i hi
    by_cases ei : i = n
    · subst ei; omega
    · exact ih (fun i hi => h i (by omega)) (by omega) i (by omega)
theorem jSum_2 {f : Int → Int} (n : Nat) (c : Int) : jSum (fun q => c * f q) n = c * jSum f n := by
  induction n with
  | zero => simp [jSum]
  | succ n ih =>
    simp only [jSum]
    rw [ih, Int.mul_add]
abbrev yO (q : Int) : Prop := 27 ≤ q ∨ q % 9 = 0 ∨ q % 9 = 8
def yPr (h : Int → Int) : Int := jSum (fun q => if 2 ≤ h q then 1 else 0) 34
def yUn (h : Int → Int) : Int := jSum (fun q => if 1 ≤ h q then 1 else 0) 34
def yL7 (h : Int → Int) : Int := 14 - jmin (yPr h) 7 - jmin (yUn h) 7
def yOu (h : Int → Int) : Int := jSum (fun q => if yO q ∧ 1 ≤ h q then 1 else 0) 34
def yOq (h : Int → Int) : Int := jSum (fun q => if yO q ∧ 2 ≤ h q then 1 else 0) 34
def yL13 (h : Int → Int) : Int := 13 - yOu h + (if 0 < yOq h then 0 else 1)
theorem y01 {c : Prop} [Decidable c] : 0 ≤ (if c then (1 : Int) else 0) ∧ (if c then (1 : Int) else 0) ≤ 1 := by split <;> omega
theorem yc_bd {P : Int → Prop} [DecidablePred P] (n : Nat) : 0 ≤ jSum (fun q => if P q then 1 else 0) n ∧ jSum (fun q => if P q then 1 else 0) n ≤ n := by
  induction n with
  | zero => exact ⟨Int.le_refl 0, Int.le_refl 0⟩
  | succ n ih =>
    simp only [jSum]
    have := y01 (c := P n)
    omega
theorem yL7_0 {h : Int → Int} (hh : ∀ q : Int, 0 ≤ q → q < 34 → 0 ≤ h q) (hs : jSum h 34 = 14) : yL7 h = 0 ↔ jSum (fun q => if h q = 2 then 1 else 0) 34 = 7 := by
  have p2 : ∀ i : Nat, i < 34 → (2 : Int) * (if 2 ≤ h i then 1 else 0) ≤ h i := fun i hi => by
    have := hh i (by omega) (by omega)
    split <;> omega
  have le := jSum_le (f := fun q => 2 * (if 2 ≤ h q then 1 else 0)) (g := h) (n := 34) p2
  rw [jSum_2 (f := fun q => if 2 ≤ h q then 1 else 0)] at le
  have l1 := jSum_le (f := fun q => if h q = 2 then (1 : Int) else 0) (g := fun q => if 2 ≤ h q then 1 else 0) (n := 34) (fun i hi => by split <;> split <;> omega)
  have l2 := jSum_le (f := fun q => if 2 ≤ h q then (1 : Int) else 0) (g := fun q => if 1 ≤ h q then 1 else 0) (n := 34) (fun i hi => by split <;> split <;> omega)
  obtain ⟨a, ha⟩ : ∃ a, a = jSum (fun q => if 2 ≤ h q then (1 : Int) else 0) 34 := ⟨_, rfl⟩
  obtain ⟨b, hb⟩ : ∃ b, b = jSum (fun q => if 1 ≤ h q then (1 : Int) else 0) 34 := ⟨_, rfl⟩
  have eL : yL7 h = 14 - jmin a 7 - jmin b 7 := by rw [ha, hb]; rfl
  rw [eL]
  rw [← ha] at le l1 l2
  rw [← hb] at l2
  constructor
  · intro e
    have a7 : 7 ≤ a := by
      unfold jmin at e
      split at e <;> split at e <;> omega
    have pt := jSum_pt (f := fun q => 2 * (if 2 ≤ h q then 1 else 0)) (g := h) (n := 34) p2 (by
      rw [jSum_2 (f := fun q => if 2 ≤ h q then 1 else 0), ← ha]; omega)
    have e2 : jSum (fun q => if h q = 2 then (1 : Int) else 0) 34 = a := by
      rw [ha]
      refine jSum_cg (fun i hi => ?_)
      have := pt i hi
      by_cases c : 2 ≤ h i
      · rw [if_pos c] at this ⊢
        rw [if_pos (by omega)]
      · rw [if_neg c, if_neg (by omega)]
    omega
  · intro e
    rw [e] at l1
    unfold jmin
    split <;> split <;> omega
theorem yO_13 : jSum (fun q => if yO q then (1 : Int) else 0) 34 = 13 := by decide +kernel
theorem yL13_0 {h : Int → Int} (hh : ∀ q : Int, 0 ≤ q → q < 34 → 0 ≤ h q) (hs : jSum h 34 = 14) : yL13 h = 0 ↔ ∀ i : Nat, i < 34 → if yO i then 0 < h i else h i = 0 := by
  have l1 := jSum_le (f := fun q => if yO q ∧ 1 ≤ h q then (1 : Int) else 0) (g := fun q => if yO q then 1 else 0) (n := 34) (fun i hi => by
    by_cases c : yO (i : Int) ∧ 1 ≤ h i
    · rw [if_pos c, if_pos c.1]; omega
    · rw [if_neg c]; split <;> omega)
  rw [yO_13] at l1
  have p2 : ∀ i : Nat, i < 34 → (if yO (i : Int) ∧ 1 ≤ h i then (1 : Int) else 0) + (if yO (i : Int) ∧ 2 ≤ h i then 1 else 0) ≤ h i := fun i hi => by
    have := hh i (by omega) (by omega)
    by_cases c : yO (i : Int) ∧ 1 ≤ h i
    · rw [if_pos c]
      by_cases d : yO (i : Int) ∧ 2 ≤ h i
      · rw [if_pos d]; omega
      · rw [if_neg d]; omega
    · rw [if_neg c, if_neg (fun z => c ⟨z.1, by omega⟩)]; exact this
  have le := jSum_le (f := fun q => (if yO q ∧ 1 ≤ h q then (1 : Int) else 0) + (if yO q ∧ 2 ≤ h q then 1 else 0)) (g := h) (n := 34) p2
  rw [jSum_add (f := fun q => if yO q ∧ 1 ≤ h q then (1 : Int) else 0) (g := fun q => if yO q ∧ 2 ≤ h q then (1 : Int) else 0) 34, hs] at le
  have q0 := (yc_bd (P := fun q => yO q ∧ 2 ≤ h q) 34).1
  have eL : yL13 h = 13 - jSum (fun q => if yO q ∧ 1 ≤ h q then (1 : Int) else 0) 34 + (if 0 < jSum (fun q => if yO q ∧ 2 ≤ h q then (1 : Int) else 0) 34 then 0 else 1) := rfl
  rw [eL]
  constructor
  · intro e
    have qp : 0 < jSum (fun q => if yO q ∧ 2 ≤ h q then (1 : Int) else 0) 34 := by
      by_cases c : 0 < jSum (fun q => if yO q ∧ 2 ≤ h q then (1 : Int) else 0) 34
      · exact c
      · rw [if_neg c] at e; omega
    rw [if_pos qp] at e
    have pt1 := jSum_pt (f := fun q => if yO q ∧ 1 ≤ h q then (1 : Int) else 0) (g := fun q => if yO q then 1 else 0) (n := 34) (fun i hi => by
      by_cases c : yO (i : Int) ∧ 1 ≤ h i
      · rw [if_pos c, if_pos c.1]; omega
      · rw [if_neg c]; split <;> omega) (by rw [yO_13]; omega)
    have pt2 := jSum_pt (f := fun q => (if yO q ∧ 1 ≤ h q then (1 : Int) else 0) + (if yO q ∧ 2 ≤ h q then 1 else 0)) (g := h) (n := 34) p2 (by
      rw [jSum_add (f := fun q => if yO q ∧ 1 ≤ h q then (1 : Int) else 0) (g := fun q => if yO q ∧ 2 ≤ h q then (1 : Int) else 0) 34, hs]; omega)
    intro i hi
    have a := pt1 i hi
    have b := pt2 i hi
    by_cases c : yO (i : Int)
    · rw [if_pos c] at a ⊢
      by_cases d : yO (i : Int) ∧ 1 ≤ h i
      · omega
      · rw [if_neg d] at a; omega
    · rw [if_neg c]
      rw [if_neg (fun z => c z.1), if_neg (fun z => c z.1)] at b
      omega
  · intro e
    have e13 : jSum (fun q => if yO q ∧ 1 ≤ h q then (1 : Int) else 0) 34 = 13 := by
      rw [← yO_13]
      refine jSum_cg (fun i hi => ?_)
      have := e i hi
      by_cases c : yO (i : Int)
      · rw [if_pos c] at this ⊢
        rw [if_pos ⟨c, by omega⟩]
      · rw [if_neg c, if_neg (fun z => c z.1)]
    have qp : 0 < jSum (fun q => if yO q ∧ 2 ≤ h q then (1 : Int) else 0) 34 := by
      by_cases c : 0 < jSum (fun q => if yO q ∧ 2 ≤ h q then (1 : Int) else 0) 34
      · exact c
      · exfalso
        have z := jSum_pt (f := fun _ => (0 : Int)) (g := fun q => if yO q ∧ 2 ≤ h q then (1 : Int) else 0) (n := 34) (fun i hi => (y01 (c := yO (i : Int) ∧ 2 ≤ h i)).1) (by rw [jSum_0]; omega)
        have e14 : jSum h 34 = jSum (fun q => if yO q then (1 : Int) else 0) 34 := jSum_cg (fun i hi => by
          have a := e i hi
          have b := z i hi
          by_cases d : yO (i : Int)
          · rw [if_pos d] at a
            rw [if_pos d]
            by_cases d2 : 2 ≤ h i
            · rw [if_pos ⟨d, d2⟩] at b; omega
            · omega
          · rw [if_neg d] at a
            rw [if_neg d]; exact a)
        rw [yO_13, hs] at e14
        omega
    rw [e13, if_pos qp]
    omega
theorem zX8_isOuter {q : Int} {s : jMem} (q0 : 0 ≤ q) (q4 : q < 1000) : fX8_isOuter q s = some (jb (yO q), s) := by
  unfold fX8_isOuter
  rw [jGd_e (by decide), jLet_e, jrem_9 q0 q4]
  by_cases a : 27 ≤ q
  · rw [if_pos a, jb_1 (Or.inl a)]; rfl
  · rw [if_neg a]
    by_cases b : q % 9 = 0
    · rw [if_pos b, jb_1 (Or.inr (Or.inl b))]; rfl
    · rw [if_neg b]
      by_cases c : q % 9 = 8
      · rw [if_pos c, jb_1 (Or.inr (Or.inr c))]; rfl
      · rw [if_neg c, jb_0 (by unfold yO; omega)]; rfl
theorem zX11_isOuter {q : Int} {s : jMem} (q0 : 0 ≤ q) (q4 : q < 1000) : fX11_isOuter q s = some (jb (yO q), s) := by
  unfold fX11_isOuter
  rw [jGd_e (by decide), jLet_e, jrem_9 q0 q4]
  by_cases a : 26 < q
  · rw [if_pos a, jb_1 (Or.inl (by omega))]; rfl
  · rw [if_neg a]
    by_cases b : q % 9 = 0
    · rw [if_pos b, jb_1 (Or.inr (Or.inl b))]; rfl
    · rw [if_neg b, jGd_e (by decide), jLet_e]
      by_cases c : q % 9 = 8
      · rw [if_pos c, jb_1 (Or.inr (Or.inr c))]; rfl
      · rw [if_neg c, jb_0 (by unfold yO; omega)]; rfl
theorem zX4_lackOfSeven {r : Int} {h : Int → Int} {s : jMem} (hk : jik r = 34) (hl : jln r = 34) (hh : ∀ q : Int, 0 ≤ q → q < 34 → s r q = h q) : fX4_lackOfSeven r s = some (yL7 h, s) := by
  have main : jHo (fun v t => v = yL7 h ∧ t = s) (fX4_lackOfSeven r s) := by
    unfold fX4_lackOfSeven
    refine gHo_gd (by omega) (gHo_let ?_)
    rw [hl]
    refine gIt6 (fun a1 a2 a3 a4 a5 t => a3 = r ∧ a4 = 34 ∧ t = s ∧ ∃ n : Nat, a5 = n ∧ n ≤ 34 ∧ a1 = jSum (fun q => if 2 ≤ h q then 1 else 0) n ∧ a2 = jSum (fun q => if 1 ≤ h q then 1 else 0) n) (fun _ _ _ _ a5 => (34 - a5).toNat) ?_ 1000 0 0 r 34 0 s ⟨rfl, rfl, rfl, 0, rfl, by omega, rfl, rfl⟩ (by decide)
    rintro rec a1 a2 a3 a4 a5 t ⟨rfl, rfl, rfl, n, rfl, hn, rfl, rfl⟩ ih
    have b1 := yc_bd (P := fun q => 2 ≤ h q) n
    have b2 := yc_bd (P := fun q => 1 ≤ h q) n
    unfold bX4_lackOfSeven_13
    refine gHo_if (fun hc => ?_) (fun hc => ?_)
    · have e : n = 34 := by omega
      subst e
      unfold bX4_lackOfSeven_60
      have m : ∀ x : Int, 0 ≤ x → 0 ≤ jmin x 7 ∧ jmin x 7 ≤ 7 := fun x hx => by unfold jmin; split <;> omega
      have m1 := m _ b1.1
      have m2 := m _ b2.1
      exact gHo_let (gHo_l32 (by omega) (by omega) (gHo_let (gHo_l32 (by omega) (by omega) (gHo_ret ⟨rfl, rfl⟩))))
    · have fin : ∀ x y : Int, x = (if 2 ≤ h n then 1 else 0) → y = (if 1 ≤ h n then 1 else 0) → jHo (fun v t' => v = yL7 h ∧ t' = t) (bX4_lackOfSeven_52 rec (jSum (fun q => if 2 ≤ h q then 1 else 0) n + x) a3 34 n (jSum (fun q => if 1 ≤ h q then 1 else 0) n) y t) := by
        intro x y hx hy
        have : 0 ≤ y ∧ y ≤ 1 := by rw [hy]; exact y01
        unfold bX4_lackOfSeven_52
        refine gHo_l32 (by omega) (by omega) (gHo_l32 (by omega) (by omega) (ih _ _ _ _ _ _ ⟨rfl, rfl, rfl, n + 1, by omega, by omega, by rw [hx]; rfl, by rw [hy]; rfl⟩ (by omega)))
      have fin2 : ∀ x : Int, x = (if 2 ≤ h n then 1 else 0) → jHo (fun v t' => v = yL7 h ∧ t' = t) (bX4_lackOfSeven_38 rec (jSum (fun q => if 1 ≤ h q then 1 else 0) n) a3 34 n (h n) (jSum (fun q => if 2 ≤ h q then 1 else 0) n) x t) := by
        intro x hx
        have : 0 ≤ x ∧ x ≤ 1 := by rw [hx]; exact y01
        unfold bX4_lackOfSeven_38
        refine gHo_l32 (by omega) (by omega) (gHo_if (fun e => ?_) (fun e => ?_))
        · exact fin x 0 hx (by rw [if_neg (by omega)])
        · exact fin x 1 hx (by rw [if_pos (by omega)])
      refine gHo_gd ⟨by omega, by omega⟩ (gHo_let ?_)
      rw [hh n (by omega) (by omega)]
      refine gHo_if (fun e => ?_) (fun e => ?_)
      · exact fin2 0 (by rw [if_neg (by omega)])
      · exact fin2 1 (by rw [if_pos (by omega)])
  obtain ⟨v, t, e, rfl, rfl⟩ := main
  exact e
theorem zX4_hasOuterPair {r : Int} {h : Int → Int} {s : jMem} (hk : jik r = 34) (hh : ∀ q : Int, 0 ≤ q → q < 34 → s r q = h q) : fX4_hasOuterPair r s = some (jb (0 < yOq h), s) := by
  have main : jHo (fun v t => v = jb (0 < yOq h) ∧ t = s) (fX4_hasOuterPair r s) := by
    unfold fX4_hasOuterPair
    refine gIt3 (fun a1 a2 t => a1 = r ∧ t = s ∧ ∃ n : Nat, a2 = n ∧ n ≤ 34 ∧ jSum (fun q => if yO q ∧ 2 ≤ h q then (1 : Int) else 0) n = 0) (fun _ a2 => (34 - a2).toNat) ?_ 1000 r 0 s ⟨rfl, rfl, 0, rfl, by omega, rfl⟩ (by decide)
    rintro rec a1 a2 t ⟨rfl, rfl, n, rfl, hn, hz⟩ ih
    unfold bX4_hasOuterPair_2
    refine gHo_if (fun hc => ?_) (fun hc => ?_)
    · have e : n = 34 := by omega
      subst e
      exact gHo_ret ⟨by rw [jb_0]; unfold yOq; omega, rfl⟩
    · have next : (if yO (n : Int) ∧ 2 ≤ h n then (1 : Int) else 0) = 0 → jHo (fun v t' => v = jb (0 < yOq h) ∧ t' = t) (bX4_hasOuterPair_24 rec a1 n t) := by
        intro z
        unfold bX4_hasOuterPair_24
        refine gHo_l32 (by omega) (by omega) (ih _ _ _ ⟨rfl, rfl, n + 1, by omega, by omega, ?_⟩ (by omega))
        simp only [jSum]
        rw [hz, z]; rfl
      rw [zX8_isOuter (by omega) (by omega), jBd_s]
      by_cases o : yO (n : Int)
      · rw [jb_1 o, if_neg (by decide)]
        refine gHo_gd ⟨by omega, by omega⟩ (gHo_let ?_)
        rw [hh n (by omega) (by omega)]
        refine gHo_if (fun e => next (by rw [if_neg (by omega)])) (fun e => gHo_ret ⟨?_, rfl⟩)
        have le := jSum_le (f := fun p => if p = (n : Int) then (1 : Int) else 0) (g := fun q => if yO q ∧ 2 ≤ h q then (1 : Int) else 0) (n := 34) (fun i hi => by
          by_cases ei : (i : Int) = n
          · rw [if_pos ei, ei, if_pos ⟨o, by omega⟩]; omega
          · rw [if_neg ei]; exact y01.1)
        have k := jSum_one (n : Int) 1 34
        rw [if_pos (by omega)] at k
        rw [jb_1]
        unfold yOq
        omega
      · rw [jb_0 o, if_pos rfl]
        exact next (by rw [if_neg (fun z => o z.1)])
  obtain ⟨v, t, e, rfl, rfl⟩ := main
  exact e
theorem zX4_lackOfOuter {r : Int} {h : Int → Int} {s : jMem} (hk : jik r = 34) (hh : ∀ q : Int, 0 ≤ q → q < 34 → s r q = h q) : fX4_lackOfOuter r s = some (yL13 h, s) := by
  have main : jHo (fun v t => v = yL13 h ∧ t = s) (fX4_lackOfOuter r s) := by
    unfold fX4_lackOfOuter
    refine gIt4 (fun a1 a2 a3 t => a1 = r ∧ t = s ∧ ∃ n : Nat, a3 = n ∧ n ≤ 34 ∧ a2 = jSum (fun q => if yO q ∧ 1 ≤ h q then (1 : Int) else 0) n) (fun _ _ a3 => (34 - a3).toNat) ?_ 1000 r 0 0 s ⟨rfl, rfl, 0, rfl, by omega, rfl⟩ (by decide)
    rintro rec a1 a2 a3 t ⟨rfl, rfl, n, rfl, hn, rfl⟩ ih
    have b1 := yc_bd (P := fun q => yO q ∧ 1 ≤ h q) n
    unfold bX4_lackOfOuter_4
    refine gHo_if (fun hc => ?_) (fun hc => ?_)
    · have e : n = 34 := by omega
      subst e
      unfold bX4_lackOfOuter_32
      refine gHo_l32 (by omega) (by omega) ?_
      rw [zX4_hasOuterPair hk hh, jBd_s]
      have eu : yL13 h = 13 - jSum (fun q => if yO q ∧ 1 ≤ h q then (1 : Int) else 0) 34 + (if 0 < yOq h then 0 else 1) := rfl
      by_cases o : 0 < yOq h
      · rw [if_pos o] at eu
        rw [jb_1 o, if_neg (by decide)]
        exact gHo_l32 (by omega) (by omega) (gHo_ret ⟨eu.symm, rfl⟩)
      · rw [if_neg o] at eu
        rw [jb_0 o, if_pos rfl]
        exact gHo_l32 (by omega) (by omega) (gHo_ret ⟨eu.symm, rfl⟩)
    · have next : ∀ x : Int, x = jSum (fun q => if yO q ∧ 1 ≤ h q then (1 : Int) else 0) n + (if yO (n : Int) ∧ 1 ≤ h n then (1 : Int) else 0) → jHo (fun v t' => v = yL13 h ∧ t' = t) (bX4_lackOfOuter_26 rec a1 x n t) := by
        intro x hx
        unfold bX4_lackOfOuter_26
        exact gHo_l32 (by omega) (by omega) (ih _ _ _ _ ⟨rfl, rfl, n + 1, by omega, by omega, hx⟩ (by omega))
      rw [zX8_isOuter (by omega) (by omega), jBd_s]
      by_cases o : yO (n : Int)
      · rw [jb_1 o, if_neg (by decide)]
        refine gHo_gd ⟨by omega, by omega⟩ (gHo_let ?_)
        rw [hh n (by omega) (by omega)]
        refine gHo_if (fun e => next _ (by rw [if_neg (by omega)]; omega)) (fun e => gHo_l32 (by omega) (by omega) (next _ (by rw [if_pos ⟨o, by omega⟩])))
      · rw [jb_0 o, if_pos rfl]
        exact next _ (by rw [if_neg (fun z => o z.1)]; omega)
  obtain ⟨v, t, e, rfl, rfl⟩ := main
  exact e
theorem zX11_isSeven {h : Int → Int} {s : jMem} (hh : ∀ q : Int, 0 ≤ q → q < 34 → s 68 q = h q) : fX11_isSeven s = some (jb (s 53 20 = 0 ∧ jSum (fun q => if h q = 2 then 1 else 0) 34 = 7), s) := by
  have u := jik_m
  have main : jHo (fun v t => v = jb (s 53 20 = 0 ∧ jSum (fun q => if h q = 2 then 1 else 0) 34 = 7) ∧ t = s) (fX11_isSeven s) := by
    unfold fX11_isSeven
    refine gIt3 (fun a1 a2 t => t = s ∧ ∃ n : Nat, a2 = n ∧ n ≤ 34 ∧ a1 = jSum (fun q => if h q = 2 then 1 else 0) n) (fun _ a2 => (34 - a2).toNat) ?_ 1000 0 0 s ⟨rfl, 0, rfl, by omega, rfl⟩ (by decide)
    rintro rec a1 a2 t ⟨rfl, n, rfl, hn, rfl⟩ ih
    have b1 := yc_bd (P := fun q => h q = 2) n
    unfold bX11_isSeven_4
    refine gHo_if (fun hc => ?_) (fun hc => ?_)
    · have e : n = 34 := by omega
      subst e
      unfold bX11_isSeven_34
      refine gHo_let (gHo_if (fun e0 => gHo_if (fun e1 => ?_) (fun e1 => ?_)) (fun e0 => ?_))
      · exact gHo_ret ⟨by rw [jb_1 ⟨e0, e1⟩], rfl⟩
      · exact gHo_ret ⟨by rw [jb_0 (fun z => e1 z.2)], rfl⟩
      · exact gHo_ret ⟨by rw [jb_0 (fun z => e0 z.1)], rfl⟩
    · have fin : ∀ x : Int, x = (if h n = 2 then 1 else 0) → jHo (fun v t' => v = jb (t 53 20 = 0 ∧ jSum (fun q => if h q = 2 then 1 else 0) 34 = 7) ∧ t' = t) (bX11_isSeven_26 rec n (jSum (fun q => if h q = 2 then 1 else 0) n) x t) := by
        intro x hx
        have : 0 ≤ x ∧ x ≤ 1 := by rw [hx]; exact y01
        unfold bX11_isSeven_26
        exact gHo_l32 (by omega) (by omega) (gHo_l32 (by omega) (by omega) (ih _ _ _ ⟨rfl, n + 1, by omega, by omega, by rw [hx]; rfl⟩ (by omega)))
      refine gHo_gd ⟨by omega, by omega⟩ (gHo_let ?_)
      rw [hh n (by omega) (by omega)]
      refine gHo_if (fun e => ?_) (fun e => ?_)
      · exact fin 1 (by rw [if_pos e])
      · exact fin 0 (by rw [if_neg e])
  obtain ⟨v, t, e, rfl, rfl⟩ := main
  exact e
theorem zX11_isOuterHand {h : Int → Int} {s : jMem} (hh : ∀ q : Int, 0 ≤ q → q < 34 → s 68 q = h q ∧ 0 ≤ h q ∧ h q ≤ 100) : fX11_isOuterHand s = some (jb (s 53 20 = 0 ∧ (∀ i : Nat, i < 34 → if yO i then 0 < h i else h i = 0) ∧ jSum h 34 = 14), s) := by
  have u := jik_m
  have go : ∀ b : Int, b = jb (s 53 20 = 0) → jHo (fun v t => v = jb (s 53 20 = 0 ∧ (∀ i : Nat, i < 34 → if yO i then 0 < h i else h i = 0) ∧ jSum h 34 = 14) ∧ t = s) (bX11_isOuterHand_14 0 b s) := by
    intro b hb
    unfold bX11_isOuterHand_14
    refine gIt4 (fun a1 a2 a3 t => t = s ∧ ∃ n : Nat, a3 = n ∧ n ≤ 34 ∧ a1 = jSum h n ∧ (a2 = 1 ∨ a2 = 0) ∧ (a2 = 1 ↔ s 53 20 = 0 ∧ ∀ i : Nat, i < n → if yO i then 0 < h i else h i = 0)) (fun _ _ a3 => (34 - a3).toNat) ?_ 1000 0 b 0 s ⟨rfl, 0, rfl, by omega, rfl, ?_, ?_⟩ (by decide)
    · rintro rec a1 a2 a3 t ⟨rfl, n, rfl, hn, rfl, h01, hiff⟩ ih
      have b1 := jSum_bd (f := h) (n := n) (fun i hi => by have := hh i (by omega) (by omega); omega)
      unfold bX11_isOuterHand_17
      refine gHo_if (fun hc => ?_) (fun hc => ?_)
      · have e : n = 34 := by omega
        subst e
        unfold bX11_isOuterHand_76
        refine gHo_if (fun e0 => ?_) (fun e0 => gHo_if (fun e1 => ?_) (fun e1 => ?_))
        · exact gHo_ret ⟨by rw [jb_0 (fun z => absurd ((hiff.mpr ⟨z.1, z.2.1⟩).symm.trans e0) (by decide))], rfl⟩
        · have k := hiff.mp (h01.resolve_right e0)
          exact gHo_ret ⟨by rw [jb_1 ⟨k.1, k.2, e1⟩], rfl⟩
        · exact gHo_ret ⟨by rw [jb_0 (fun z => e1 z.2.2)], rfl⟩
      · have hb := hh n (by omega) (by omega)
        have fin : ∀ x : Int, (x = 1 ∨ x = 0) → (x = 1 ↔ t 53 20 = 0 ∧ ∀ i : Nat, i < n + 1 → if yO i then 0 < h i else h i = 0) → jHo (fun v t' => v = jb (t 53 20 = 0 ∧ (∀ i : Nat, i < 34 → if yO i then 0 < h i else h i = 0) ∧ jSum h 34 = 14) ∧ t' = t) (bX11_isOuterHand_60 rec (jSum h n) n x t) := by
          intro x hx hi2
          unfold bX11_isOuterHand_60
          refine gHo_gd ⟨by omega, by omega⟩ (gHo_let ?_)
          rw [hb.1]
          exact gHo_l32 (by omega) (by omega) (gHo_l32 (by omega) (by omega) (ih _ _ _ _ ⟨rfl, n + 1, by omega, by omega, rfl, hx, hi2⟩ (by omega)))
        have yes : a2 = 1 → (if yO (n : Int) then 0 < h n else h n = 0) → jHo (fun v t' => v = jb (t 53 20 = 0 ∧ (∀ i : Nat, i < 34 → if yO i then 0 < h i else h i = 0) ∧ jSum h 34 = 14) ∧ t' = t) (bX11_isOuterHand_55 (bX11_isOuterHand_60 rec) (jSum h n) n t) := by
          intro ha hp
          unfold bX11_isOuterHand_55
          refine fin 1 (Or.inl rfl) ⟨fun _ => ⟨(hiff.mp ha).1, fun i hi => ?_⟩, fun _ => rfl⟩
          by_cases e : i = n
          · subst e; exact hp
          · exact (hiff.mp ha).2 i (by omega)
        have no : (a2 = 1 → ¬ (if yO (n : Int) then 0 < h n else h n = 0)) → jHo (fun v t' => v = jb (t 53 20 = 0 ∧ (∀ i : Nat, i < 34 → if yO i then 0 < h i else h i = 0) ∧ jSum h 34 = 14) ∧ t' = t) (bX11_isOuterHand_59 (bX11_isOuterHand_60 rec) (jSum h n) n t) := by
          intro hp
          unfold bX11_isOuterHand_59
          exact fin 0 (Or.inr rfl) ⟨fun z => absurd z (by decide), fun z => absurd (z.2 n (by omega)) (hp (hiff.mpr ⟨z.1, fun i hi => z.2 i (by omega)⟩))⟩
        refine gHo_if (fun e0 => no (fun z => absurd (z.symm.trans e0) (by decide))) (fun e0 => ?_)
        have a1 := h01.resolve_right e0
        rw [zX11_isOuter (by omega) (by omega), jBd_s]
        by_cases o : yO (n : Int)
        · rw [jb_1 o, if_neg (by decide)]
          refine gHo_gd ⟨by omega, by omega⟩ (gHo_let ?_)
          rw [hb.1]
          refine gHo_if (fun e => no (fun _ => by rw [if_pos o]; omega)) (fun e => yes a1 (by rw [if_pos o]; omega))
        · rw [jb_0 o, if_pos rfl]
          refine gHo_gd ⟨by omega, by omega⟩ (gHo_let ?_)
          rw [hb.1]
          refine gHo_if (fun e => yes a1 (by rw [if_neg o]; exact e)) (fun e => no (fun _ => by rw [if_neg o]; exact e))
    · rw [hb]; unfold jb; split <;> simp
    · rw [hb, jb_o]
      exact ⟨fun z => ⟨z, fun i hi => by omega⟩, fun z => z.1⟩
  have main : jHo (fun v t => v = jb (s 53 20 = 0 ∧ (∀ i : Nat, i < 34 → if yO i then 0 < h i else h i = 0) ∧ jSum h 34 = 14) ∧ t = s) (fX11_isOuterHand s) := by
    unfold fX11_isOuterHand
    refine gHo_let (gHo_if (fun e => go 1 (by rw [jb_1 e])) (fun e => go 0 (by rw [jb_0 e])))
  obtain ⟨v, t, e, rfl, rfl⟩ := main
  exact e
/-- how a full hand is done -/
def yDone (f7 f13 : Int) (w : Nat) (h : Int → Int) : Int := if 0 < (yAll h w 34).length then 1 else if f7 ≠ 0 ∧ w = 4 ∧ yL7 h = 0 then 2 else if f13 ≠ 0 ∧ w = 4 ∧ yL13 h = 0 then 3 else 0
theorem yFull_le {w : Nat} {h : Int → Int} (hf : yFull w h) (q : Int) (q0 : 0 ≤ q) (q4 : q < 34) : 0 ≤ h q ∧ h q ≤ 14 := by
  have z := jSum_le (f := fun p => if p = q then h q else 0) (g := h) (n := 34) (fun i hi => by
    have := hf.2.1 i (by omega) (by omega)
    by_cases e : (i : Int) = q
    · rw [if_pos e, e]; omega
    · rw [if_neg e]; exact this)
  have k := jSum_one q (h q) 34
  rw [if_pos (by omega)] at k
  have := hf.2.1 q q0 q4
  have := hf.2.2
  have := hf.1
  omega
theorem zX11_doneBy {s : jMem} {h : Int → Int} {w : Nat} (hf : yFull w h) (hh : ∀ q : Int, 0 ≤ q → q < 34 → s 68 q = h q) (hw : s 53 20 = 4 - (w : Int)) : jHo (fun v t => v = yDone (s 53 10) (s 53 11) w h ∧ ∀ x : Int, x ≠ 70 → x ≠ 71 → t x = s x) (fX11_doneBy s) := by
  have w4 := hf.1
  unfold fX11_doneBy
  refine gHo_bd (zX11_findWay (i := 0) hf ⟨by omega, by omega⟩ hh hw) (fun v t hv => ?_)
  obtain ⟨fr, hv⟩ := hv
  have hv0 : v ≤ 0 ↔ ¬ 0 < (yAll h w 34).length := by
    rcases hv with ⟨a, b, c, -⟩ | ⟨a, b⟩ <;> omega
  refine gHo_if (fun e => ?_) (fun e => ?_)
  · have n0 := hv0.mp e
    have r53 := fr 53 (by decide) (by decide)
    have r68 := fr 68 (by decide) (by decide)
    have ed : yDone (s 53 10) (s 53 11) w h = if s 53 10 ≠ 0 ∧ w = 4 ∧ yL7 h = 0 then 2 else if s 53 11 ≠ 0 ∧ w = 4 ∧ yL13 h = 0 then 3 else 0 := by
      unfold yDone; rw [if_neg n0]
    have sev : w = 4 → (yL7 h = 0 ↔ jSum (fun q => if h q = 2 then 1 else 0) 34 = 7) := fun z => yL7_0 hf.2.1 (by have := hf.2.2; omega)
    have out : w = 4 → (yL13 h = 0 ↔ ∀ i : Nat, i < 34 → if yO i then 0 < h i else h i = 0) := fun z => yL13_0 hf.2.1 (by have := hf.2.2; omega)
    have third : ¬ (s 53 10 ≠ 0 ∧ w = 4 ∧ yL7 h = 0) → jHo (fun v t => v = yDone (s 53 10) (s 53 11) w h ∧ ∀ x : Int, x ≠ 70 → x ≠ 71 → t x = s x) (bX11_doneBy_30 t) := by
      intro n7
      rw [ed, if_neg n7]
      unfold bX11_doneBy_30
      refine gHo_let ?_
      rw [r53]
      refine gHo_if (fun z => ?_) (fun z => ?_)
      · rw [if_neg (fun y => y.1 z)]
        exact gHo_ret ⟨rfl, fr⟩
      · rw [zX11_isOuterHand (h := h) (fun q q0 q4 => by
          have := yFull_le hf q q0 q4
          rw [r68]
          exact ⟨hh q q0 q4, this.1, by omega⟩), jBd_s, r53]
        by_cases c : s 53 20 = 0 ∧ (∀ i : Nat, i < 34 → if yO i then 0 < h i else h i = 0) ∧ jSum h 34 = 14
        · have e4 : w = 4 := by omega
          rw [jb_1 c, if_neg (show ¬ (1 : Int) = 0 by decide), if_pos (show s 53 11 ≠ 0 ∧ w = 4 ∧ yL13 h = 0 from ⟨z, e4, (out e4).mpr c.2.1⟩)]
          exact gHo_ret ⟨rfl, fr⟩
        · rw [jb_0 c, if_pos (show (0 : Int) = 0 from rfl), if_neg (show ¬ (s 53 11 ≠ 0 ∧ w = 4 ∧ yL13 h = 0) from fun y => c ⟨by omega, (out y.2.1).mp y.2.2, by have := hf.2.2; omega⟩)]
          exact gHo_ret ⟨rfl, fr⟩
    refine gHo_let ?_
    rw [r53]
    refine gHo_if (fun z => third (fun y => y.1 z)) (fun z => ?_)
    rw [zX11_isSeven (h := h) (fun q q0 q4 => by rw [r68]; exact hh q q0 q4), jBd_s, r53]
    by_cases c : s 53 20 = 0 ∧ jSum (fun q => if h q = 2 then 1 else 0) 34 = 7
    · have e4 : w = 4 := by omega
      rw [jb_1 c, if_neg (show ¬ (1 : Int) = 0 by decide), ed, if_pos (show s 53 10 ≠ 0 ∧ w = 4 ∧ yL7 h = 0 from ⟨z, e4, (sev e4).mpr c.2⟩)]
      exact gHo_ret ⟨rfl, fr⟩
    · rw [jb_0 c, if_pos (show (0 : Int) = 0 from rfl)]
      exact third (fun y => c ⟨by omega, (sev y.2.1).mp y.2.2⟩)
  · refine gHo_ret ⟨?_, fr⟩
    unfold yDone
    rw [if_pos (Decidable.byContradiction (fun z => e (hv0.mpr z)))]
/-- the groups a hand still wants -/
def yWn (s : jMem) (h : Int) : Nat := (4 - s 58 h).toNat
theorem iH_full {s : jMem} {h : Int} (hI : iT s) (h0 : 0 ≤ h) (h4 : h < 4) (hs : jSum (vH s h) 34 + 3 * s 58 h = 14) : yFull (yWn s h) (vH s h) ∧ s 58 h = 4 - (yWn s h : Int) := by
  obtain ⟨a1, a2, a3, a4, a5, a6⟩ := hI.2.1 h h0 h4
  have e : ((yWn s h : Nat) : Int) = 4 - s 58 h := by unfold yWn; omega
  exact ⟨⟨by omega, fun q q0 q4 => (a1 q q0 q4).2.2.1, by omega⟩, by omega⟩
theorem zX2_howDone {s : jMem} {h : Int} (hI : iT s) (hF : iF s) (h0 : 0 ≤ h) (h4 : h < 4) : jHo (fun v t => (∀ x : Int, ¬ (17 ≤ x ∧ x ≤ 20) → t x = s x) ∧ v = (if jSum (vH s h) 34 + 3 * s 58 h = 14 then yDone (s 53 10) (s 53 11) (yWn s h) (vH s h) else -2) ∧ (jSum (vH s h) 34 + 3 * s 58 h = 14 → yTab t (yAll (vH s h) (yWn s h) 34) (fun k => s (40 + 4 * h) (k - 1 - (yWn s h : Int))) ∧ t 17 3 = (yWn s h : Int))) (fX2_howDone (37 + 4 * h) s) := by
  obtain ⟨t0, t1, t2, t3, t4, t5, t6, t7, t8, t9⟩ := jh_t h0 h4
  have hh := hI.2.1 h h0 h4
  obtain ⟨a1, a2, a3, a4, a5, a6⟩ := id hh
  obtain ⟨f1, f2, f3⟩ := hF
  unfold fX2_howDone
  rw [jGd_e t1, sX1_isFull h0 h4 (iH_cb hh), jBd_s, iH_sz hh]
  by_cases hs : jSum (vH s h) 34 + 3 * s 58 h = 14
  · obtain ⟨hf, hw⟩ := iH_full hI h0 h4 hs
    have w4 := hf.1
    rw [jb_1 hs, if_neg (show ¬ (1 : Int) = 0 by decide)]
    simp only [if_pos hs]
    refine gHo_bd (zX9_find h0 h4 hf (by rw [a2]; exact hw) (fun q q0 q4 => (a1 q q0 q4).1)) (fun _ t ht => ?_)
    obtain ⟨fr, tab, t173⟩ := ht
    refine gHo_let ?_
    rw [tab.1]
    have r6 := fr 6 (by decide)
    have r37 := fr (37 + 4 * h) (by omega)
    have r38 := fr (38 + 4 * h) (by omega)
    have i38 : ∀ q : Int, 0 ≤ q → q < 34 → t (38 + 4 * h) q = vH s h q := fun q q0 q4 => by rw [r38]; exact (a1 q q0 q4).1
    refine gHo_if (fun e => ?_) (fun e => ?_)
    · have n0 : ¬ 0 < (yAll (vH s h) (yWn s h) 34).length := by omega
      have sev : fX2_isSeven (37 + 4 * h) t = some (jb (s 53 10 ≠ 0 ∧ yWn s h = 4 ∧ yL7 (vH s h) = 0), t) := by
        unfold fX2_isSeven
        rw [jLet_e, r6, f1]
        by_cases z : s 53 10 = 0
        · rw [if_pos z, jb_0 (fun y => y.1 z)]; rfl
        · rw [if_neg z, jGd_e t1, jLet_e, r37, a2, hw]
          by_cases e4 : yWn s h = 4
          · rw [if_pos (by omega), jLet_e, t2, zX4_lackOfSeven t5 t8 i38, jBd_s]
            by_cases c : yL7 (vH s h) = 0
            · rw [if_pos c, jb_1 ⟨z, e4, c⟩]; rfl
            · rw [if_neg c, jb_0 (fun y => c y.2.2)]; rfl
          · rw [if_neg (by omega), jb_0 (fun y => e4 y.2.1)]; rfl
      have out : fX2_isOuterOnes (37 + 4 * h) t = some (jb (s 53 11 ≠ 0 ∧ yWn s h = 4 ∧ yL13 (vH s h) = 0), t) := by
        unfold fX2_isOuterOnes
        rw [jLet_e, r6, f2]
        by_cases z : s 53 11 = 0
        · rw [if_pos z, jb_0 (fun y => y.1 z)]; rfl
        · rw [if_neg z, jGd_e t1, jLet_e, r37, a2, hw]
          by_cases e4 : yWn s h = 4
          · rw [if_pos (by omega), jLet_e, t2, zX4_lackOfOuter t5 i38, jBd_s]
            by_cases c : yL13 (vH s h) = 0
            · rw [if_pos c, jb_1 ⟨z, e4, c⟩]; rfl
            · rw [if_neg c, jb_0 (fun y => c y.2.2)]; rfl
          · rw [if_neg (by omega), jb_0 (fun y => e4 y.2.1)]; rfl
      unfold yDone
      simp only [if_neg n0]
      rw [sev, jBd_s]
      by_cases c7 : s 53 10 ≠ 0 ∧ yWn s h = 4 ∧ yL7 (vH s h) = 0
      · rw [jb_1 c7, if_neg (show ¬ (1 : Int) = 0 by decide)]
        simp only [if_pos c7]
        exact gHo_ret ⟨fr, rfl, fun _ => ⟨tab, t173⟩⟩
      · rw [jb_0 c7, if_pos (show (0 : Int) = 0 from rfl), out, jBd_s]
        simp only [if_neg c7]
        by_cases c13 : s 53 11 ≠ 0 ∧ yWn s h = 4 ∧ yL13 (vH s h) = 0
        · rw [jb_1 c13, if_neg (show ¬ (1 : Int) = 0 by decide)]
          simp only [if_pos c13]
          exact gHo_ret ⟨fr, rfl, fun _ => ⟨tab, t173⟩⟩
        · rw [jb_0 c13, if_pos (show (0 : Int) = 0 from rfl)]
          simp only [if_neg c13]
          exact gHo_ret ⟨fr, rfl, fun _ => ⟨tab, t173⟩⟩
    · unfold yDone
      refine gHo_ret ⟨fr, ?_, fun _ => ⟨tab, t173⟩⟩
      rw [if_pos (by omega)]
  · rw [jb_0 hs, if_pos (show (0 : Int) = 0 from rfl)]
    simp only [if_neg hs]
    exact gHo_ret ⟨fun _ _ => rfl, rfl, fun z => absurd z hs⟩
end
