/-! ===== odds: done is a lack of none ===== -/
section
/-- a plan that is made of pair, runs and threes -/
theorem yDc_plan {L H A T : Int → Int} {w : Nat} {p : Int} (hw : w ≤ 4) (p0 : 0 ≤ p) (p4 : p < 34) (h2 : 2 ≤ H p) (hd : yDc w (yP H p) A T) (hHL : ∀ q : Int, 0 ≤ q → q < 34 → 0 ≤ L q ∧ 0 ≤ H q ∧ H q + L q ≤ 4) : yPn L w H := by
  obtain ⟨d1, d2, d3⟩ := hd
  have hv : ∀ q : Int, 0 ≤ q → q < 34 → H q = A q + A (q - 1) + A (q - 2) + 3 * T q + 2 * (if q = p then 1 else 0) := by
    intro q q0 q4
    have := d2 q q0 q4
    unfold yP at this
    by_cases e : q = p
    · rw [if_pos e] at this; rw [if_pos e]; omega
    · rw [if_neg e] at this; rw [if_neg e]; omega
  obtain ⟨G, hG⟩ : ∃ G : Nat → Int, G = fun m => jSum A m + jSum T m := ⟨_, rfl⟩
  obtain ⟨Q, hQ⟩ : ∃ Q : Nat → Int, Q = jSum (fun q => if q = p then 1 else 0) := ⟨_, rfl⟩
  have G0 : G 0 = 0 := by rw [hG]; rfl
  have Q0 : Q 0 = 0 := by rw [hQ]; rfl
  have Gs : ∀ m : Nat, G (m + 1) = G m + A m + T m := fun m => by rw [hG]; show jSum A m + A m + (jSum T m + T m) = jSum A m + jSum T m + A m + T m; omega
  have Qs : ∀ m : Nat, Q (m + 1) = Q m + (if (m : Int) = p then 1 else 0) := fun m => by rw [hQ]; rfl
  have Gm : ∀ m k : Nat, G m ≤ G (m + k) := fun m k => by
    induction k with
    | zero => exact Int.le_refl _
    | succ k ih =>
      have a := Gs (m + k)
      have b := d1 ((m + k : Nat) : Int)
      rw [show m + (k + 1) = m + k + 1 from rfl]
      omega
  have Qm : ∀ m k : Nat, Q m ≤ Q (m + k) := fun m k => by
    induction k with
    | zero => exact Int.le_refl _
    | succ k ih =>
      have a := Qs (m + k)
      have b := y01 (c := ((m + k : Nat) : Int) = p)
      rw [show m + (k + 1) = m + k + 1 from rfl]
      omega
  have G34 : G 34 = w := by rw [hG]; exact d3
  have Q34 : Q 34 = 1 := by rw [hQ, jSum_one, if_pos ⟨p0, by omega⟩]
  have bG : ∀ m : Nat, m ≤ 34 → 0 ≤ G m ∧ G m ≤ 4 := fun m hm => by
    have a := Gm 0 m
    have b := Gm m (34 - m)
    rw [Nat.zero_add] at a
    rw [show m + (34 - m) = 34 by omega] at b
    omega
  have bQ : ∀ m : Nat, m ≤ 34 → 0 ≤ Q m ∧ Q m ≤ 1 := fun m hm => by
    have a := Qm 0 m
    have b := Qm m (34 - m)
    rw [Nat.zero_add] at a
    rw [show m + (34 - m) = 34 by omega] at b
    omega
  have Az : ∀ q : Int, ¬ (0 ≤ q ∧ q < 27 ∧ q % 9 ≤ 6) → A q = 0 := fun q hq => by
    by_cases z : A q = 0
    · exact z
    · exact absurd ((d1 q).2.2.1 z) hq
  have row : ∀ (r i : Nat), r < 4 → i ≤ yLn (r : Int) → yRP L r 4 i (A (9 * (r : Int) + i - 1)) (A (9 * (r : Int) + i - 2)) (G (9 * r + i) - G (9 * r)) (Q (9 * r + i) - Q (9 * r)) H := by
    intro r i hr
    induction i with
    | zero =>
      intro _
      refine ⟨Az _ (by omega), Az _ (by omega), ?_, ?_⟩
      · rw [Nat.add_zero]; omega
      · rw [Nat.add_zero]; omega
    | succ i ih =>
      intro hi
      have ir := yLn_r (r := (r : Int)) (by omega) (by omega) (show i < yLn (r : Int) by omega)
      have k := ih (by omega)
      have st := Gs (9 * r + i)
      have st2 := Qs (9 * r + i)
      have b1 := bG (9 * r + i + 1) (by omega)
      have b2 := bQ (9 * r + i + 1) (by omega)
      have b3 := bG (9 * r) (by omega)
      have b4 := bQ (9 * r) (by omega)
      have ev := hv (9 * (r : Int) + i) ir.1 ir.2
      have hl := hHL (9 * (r : Int) + i) ir.1 ir.2
      rw [show ((9 * r + i : Nat) : Int) = 9 * (r : Int) + i by omega] at st st2
      have da := d1 (9 * (r : Int) + i)
      have db := d1 (9 * (r : Int) + i - 1)
      have dc := d1 (9 * (r : Int) + i - 2)
      have q1 := y01 (c := 9 * (r : Int) + (i : Int) = p)
      obtain ⟨x, hx⟩ : ∃ x : Int, x = if 9 * (r : Int) + (i : Int) = p then 1 else 0 := ⟨_, rfl⟩
      rw [← hx] at st2 ev q1
      rw [show 9 * r + (i + 1) = 9 * r + i + 1 from rfl, show 9 * (r : Int) + ((i + 1 : Nat) : Int) - 1 = 9 * r + i by omega, show 9 * (r : Int) + ((i + 1 : Nat) : Int) - 2 = 9 * r + i - 1 by omega]
      refine ⟨A (9 * (r : Int) + i - 2), T (9 * (r : Int) + i), x, ?_, da.1, ?_, by omega, by omega, by omega, by omega, by omega, by omega⟩
      · rw [show G (9 * r + i + 1) - G (9 * r) - A (9 * (r : Int) + i) - T (9 * (r : Int) + i) = G (9 * r + i) - G (9 * r) by omega, show Q (9 * r + i + 1) - Q (9 * r) - x = Q (9 * r + i) - Q (9 * r) by omega]
        exact k
      · by_cases z : A (9 * (r : Int) + i) = 0
        · rw [z]; split <;> omega
        · have := da.2.2.1 z
          have i9 : i < 9 := by
            have : yLn (r : Int) ≤ 9 := by unfold yLn; split <;> omega
            omega
          rw [if_pos (by omega)]; omega
  have rw_ : ∀ r : Nat, r < 4 → yRw L r 4 (G (9 * r + yLn (r : Int)) - G (9 * r)) (Q (9 * r + yLn (r : Int)) - Q (9 * r)) H := by
    intro r hr
    have := row r (yLn (r : Int)) hr (Nat.le_refl _)
    have l9 : yLn (r : Int) = 9 ∧ r < 3 ∨ yLn (r : Int) = 7 ∧ r = 3 := by unfold yLn; split <;> omega
    rw [Az (9 * (r : Int) + (yLn (r : Int) : Int) - 1) (by omega), Az (9 * (r : Int) + (yLn (r : Int) : Int) - 2) (by omega)] at this
    exact this
  have tp : ∀ R : Nat, R ≤ 3 → yTP L 4 R (G (9 * R)) (Q (9 * R)) H := by
    intro R
    induction R with
    | zero => intro _; exact ⟨G0, Q0⟩
    | succ R ih =>
      intro hR
      have k := rw_ R (by omega)
      rw [show yLn (R : Int) = 9 by unfold yLn; rw [if_pos (by omega)]] at k
      refine ⟨_, _, ?_, k⟩
      rw [show G (9 * (R + 1)) - (G (9 * R + 9) - G (9 * R)) = G (9 * R) by rw [show 9 * (R + 1) = 9 * R + 9 by omega]; omega, show Q (9 * (R + 1)) - (Q (9 * R + 9) - Q (9 * R)) = Q (9 * R) by rw [show 9 * (R + 1) = 9 * R + 9 by omega]; omega]
      exact ih (by omega)
  have k3 := rw_ 3 (by omega)
  rw [show yLn ((3 : Nat) : Int) = 7 by decide, show 9 * 3 + 7 = 34 by decide, show 9 * 3 = 27 by decide, G34, Q34] at k3
  refine ⟨_, _, ?_, k3⟩
  have := tp 3 (Nat.le_refl _)
  rw [show 9 * 3 = 27 by decide] at this
  rw [show (w : Int) - ((w : Int) - G 27) = G 27 by omega, show 1 - (1 - Q 27) = Q 27 by omega]
  exact this
/-- pair, runs and threes out of a plan -/
def yEx (n : Int → Int) (m : Nat) (g p : Int) (A T Q : Int → Int) : Prop := (∀ q : Int, 0 ≤ A q ∧ (T q = 0 ∨ T q = 1) ∧ (Q q = 0 ∨ Q q = 1) ∧ (A q ≠ 0 → 0 ≤ q ∧ q < m ∧ q < 27 ∧ q % 9 ≤ 6) ∧ (¬ (0 ≤ q ∧ q < m) → T q = 0 ∧ Q q = 0)) ∧ (∀ q : Int, 0 ≤ q → q < m → n q = A q + A (q - 1) + A (q - 2) + 3 * T q + 2 * Q q) ∧ jSum A m + jSum T m = g ∧ jSum Q m = p
theorem yEx_row {L n : Int → Int} {R : Nat} (hR : R < 4) {g0 p0 : Int} {A T Q : Int → Int} (h0 : yEx n (9 * R) g0 p0 A T Q) : ∀ (i : Nat), i ≤ yLn (R : Int) → ∀ (a b g p : Int), yRP L R 4 i a b g p n → ∃ A' T' Q', yEx n (9 * R + i) (g0 + g) (p0 + p) A' T' Q' ∧ A' (9 * (R : Int) + i - 1) = a ∧ A' (9 * (R : Int) + i - 2) = b := by
  intro i
  induction i with
  | zero =>
    intro _ a b g p ⟨h1, h2, h3, h4⟩
    subst h1 h2 h3 h4
    have z : ∀ q : Int, q % 9 ≥ 7 → A q = 0 := fun q hq => by
      by_cases c : A q = 0
      · exact c
      · have := (h0.1 q).2.2.2.1 c; omega
    exact ⟨A, T, Q, by rw [Int.add_zero, Int.add_zero]; exact h0, z _ (by omega), z _ (by omega)⟩
  | succ i ih =>
    intro hi a b g p ⟨c, t, x, k1, k2, k3, k4, k5, k6, k7, k8, k9⟩
    obtain ⟨A', T', Q', ⟨e1, e2, e3, e4⟩, e5, e6⟩ := ih (by omega) _ _ _ _ k1
    have ir := yLn_r (r := (R : Int)) (by omega) (by omega) (show i < yLn (R : Int) by omega)
    obtain ⟨q1, hq1⟩ : ∃ q1 : Int, q1 = 9 * (R : Int) + i := ⟨_, rfl⟩
    have em : ((9 * R + i : Nat) : Int) = q1 := by omega
    have az := e1 q1
    have a0 : A' q1 = 0 := by
      by_cases z : A' q1 = 0
      · exact z
      · have := az.2.2.2.1 z; omega
    have tz := az.2.2.2.2 (by omega)
    have cg : ∀ (f : Int → Int) (v : Int), jSum (yUp f q1 v) (9 * R + i + 1) = jSum f (9 * R + i) + v := by
      intro f v
      show jSum (yUp f q1 v) (9 * R + i) + yUp f q1 v ((9 * R + i : Nat) : Int) = _
      rw [em, yUp_at, jSum_cg (g := f) (fun j hj => yUp_o (by omega))]
    rw [← hq1] at e5 e6 k8
    rw [show 9 * R + (i + 1) = 9 * R + i + 1 from rfl, show 9 * (R : Int) + ((i + 1 : Nat) : Int) - 1 = q1 by omega, show 9 * (R : Int) + ((i + 1 : Nat) : Int) - 2 = q1 - 1 by omega]
    refine ⟨yUp A' q1 a, yUp T' q1 t, yUp Q' q1 x, ⟨fun q => ?_, fun q q0 q4 => ?_, ?_, ?_⟩, yUp_at, ?_⟩
    · have e := e1 q
      by_cases eq : q = q1
      · subst eq
        rw [yUp_at, yUp_at, yUp_at]
        refine ⟨k2, k4, k5, fun z => ?_, fun z => absurd ⟨by omega, by omega⟩ z⟩
        by_cases c : (R : Int) < 3 ∧ i < 7
        · omega
        · rw [if_neg c] at k3; omega
      · rw [yUp_o eq, yUp_o eq, yUp_o eq]
        exact ⟨e.1, e.2.1, e.2.2.1, fun z => by have := e.2.2.2.1 z; omega, fun z => e.2.2.2.2 (by omega)⟩
    · by_cases eq : q = q1
      · subst eq
        rw [yUp_at, yUp_at, yUp_at, yUp_o (by omega), yUp_o (by omega), e5, e6]
        exact k8
      · have e := e2 q q0 (by omega)
        rw [yUp_o eq, yUp_o eq, yUp_o eq, yUp_o (by omega), yUp_o (by omega)]
        exact e
    · rw [cg, cg]; omega
    · rw [cg]; omega
    · rw [yUp_o (by omega)]; exact e5
theorem yEx_all {L n : Int → Int} : ∀ (R m : Nat), R ≤ 4 → m = (if R = 4 then 34 else 9 * R) → ∀ (g p : Int), yTP L 4 R g p n → ∃ A T Q, yEx n m g p A T Q := by
  intro R
  induction R with
  | zero =>
    intro m _ hm g p h
    rw [if_neg (by decide)] at hm
    subst hm
    refine ⟨fun _ => 0, fun _ => 0, fun _ => 0, fun q => ⟨Int.le_refl 0, Or.inl rfl, Or.inl rfl, fun z => absurd rfl z, fun _ => ⟨rfl, rfl⟩⟩, fun q q0 q1 => by omega, ?_, ?_⟩
    · rw [h.1]; rfl
    · rw [h.2]; rfl
  | succ R ih =>
    intro m hR hm g p ⟨g', p', h1, h2⟩
    obtain ⟨A, T, Q, h⟩ := ih (9 * R) (by omega) (by rw [if_neg (by omega)]) _ _ h1
    obtain ⟨A', T', Q', k, -⟩ := yEx_row (by omega) h (yLn (R : Int)) (Nat.le_refl _) _ _ _ _ h2
    have em : m = 9 * R + yLn (R : Int) := by
      rw [hm]
      unfold yLn
      by_cases c : R + 1 = 4
      · rw [if_pos c, if_neg (by omega)]; omega
      · rw [if_neg c, if_pos (by omega)]; omega
    rw [← em, show g - g' + g' = g by omega, show p - p' + p' = p by omega] at k
    exact ⟨A', T', Q', k⟩
theorem yPlan_dc {L H : Int → Int} {w : Nat} (h : yPn L w H) : ∃ (p : Int) (A T : Int → Int), 0 ≤ p ∧ p < 34 ∧ 2 ≤ H p ∧ yDc w (yP H p) A T := by
  obtain ⟨A, T, Q, e1, e2, e3, e4⟩ := yEx_all 4 34 (Nat.le_refl _) rfl _ _ h
  have pos : 0 < jSum Q 34 := by omega
  obtain ⟨k, k34, hk⟩ := jSum_pos pos
  have one : ∀ q : Int, 0 ≤ q → q < 34 → Q q = if q = k then 1 else 0 := by
    have le := jSum_pt (f := fun q => if q = (k : Int) then 1 else 0) (g := Q) (n := 34) (fun i hi => by
      have := (e1 i).2.2.1
      by_cases e : (i : Int) = k
      · rw [if_pos e, e]; omega
      · rw [if_neg e]; omega) (by rw [e4, jSum_one, if_pos (by omega)]; exact Int.le_refl 1)
    intro q q0 q4
    have := le q.toNat (by omega)
    rw [show ((q.toNat : Nat) : Int) = q by omega] at this
    exact this.symm
  have nn := e2 k (by omega) (by omega)
  have a1 := (e1 k).1
  have a2 := (e1 (k - 1)).1
  have a3 := (e1 (k - 2)).1
  have a4 := (e1 k).2.1
  refine ⟨k, A, T, by omega, by omega, by omega, fun q => ?_, fun q q0 q4 => ?_, e3⟩
  · have e := e1 q
    refine ⟨e.1, by omega, fun z => by have := e.2.2.2.1 z; omega, fun z => ?_⟩
    by_cases c : 0 ≤ q ∧ q < ((34 : Nat) : Int)
    · omega
    · have := (e.2.2.2.2 c).1; omega
  · have e := e2 q q0 (by omega)
    have o := one q q0 q4
    unfold yP
    by_cases c : q = (k : Int)
    · rw [if_pos c] at o; rw [if_pos c]; omega
    · rw [if_neg c] at o; rw [if_neg c]; omega
end
