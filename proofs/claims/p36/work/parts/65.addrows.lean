/-! ===== lacks: rows in an order, added up ===== -/
section
def yNg (H : Int → Int) (R : Nat) (n : Int → Int) (j : Nat) : Prop := j < 9 * R ∧ j < 34 ∧ H j < n j
theorem yTP_cg {L : Int → Int} {K : Int} : ∀ (R : Nat), R ≤ 4 → ∀ (g p : Int) (n m : Int → Int), (∀ q : Int, 0 ≤ q → q < 9 * (R : Int) → n q = m q) → yTP L K R g p n → yTP L K R g p m := by
  intro R
  induction R with
  | zero => intro _ g p n m _ h; exact h
  | succ R ih =>
    intro hR g p n m h ⟨g', p', h1, h2⟩
    exact ⟨g', p', ih (by omega) _ _ n m (fun q a b => h q a (by omega)) h1, yRw_cg (fun q hq => h q (by omega) (by omega)) h2⟩
theorem yTC_cg {H n m : Int → Int} : ∀ (R : Nat), R ≤ 4 → (∀ q : Int, 0 ≤ q → q < 9 * (R : Int) → n q = m q) → yTC H n R = yTC H m R := by
  intro R
  induction R with
  | zero => intro _ _; rfl
  | succ R ih =>
    intro hR h
    simp only [yTC]
    rw [ih (by omega) (fun q a b => h q a (by omega)), yCo_cgr (fun q hq => h q (by omega) (by omega))]
theorem yTP_bd {L : Int → Int} {K : Int} (hK : 0 ≤ K) : ∀ (R : Nat) (g p : Int) (n : Int → Int), yTP L K R g p n → 0 ≤ g ∧ 0 ≤ p := by
  intro R
  induction R with
  | zero => intro g p n h; exact ⟨by rw [h.1]; omega, by rw [h.2]; omega⟩
  | succ R ih =>
    intro g p n ⟨g', p', h1, h2⟩
    have a := ih _ _ n h1
    have b := yRw_bd hK h2
    omega
theorem yTC_nn {H n : Int → Int} : ∀ R : Nat, 0 ≤ yTC H n R := by
  intro R
  induction R with
  | zero => exact Int.le_refl 0
  | succ R ih =>
    simp only [yTC]
    have := yCo_nn (H := H) (n := n) (r := (R : Int)) (i := yLn (R : Int))
    omega
/-- the rows but one, and then that one -/
def yRq (c k : Nat) : Nat := if k = 3 then c else if k < c then k else k + 1
/-- plans of the first rows of an order; what is to come; what is wanted -/
def yQP (L : Int → Int) (ρ : Nat → Nat) : Nat → Int → Int → (Int → Int) → Prop
  | 0, g, p, _ => g = 0 ∧ p = 0
  | k + 1, g, p, n => ∃ g' p' : Int, yQP L ρ k (g - g') (p - p') n ∧ yRw L (ρ k) 2 g' p' n
def yQC (H : Int → Int) (ρ : Nat → Nat) (n : Int → Int) : Nat → Int
  | 0 => 0
  | k + 1 => yQC H ρ n k + yCo H (ρ k) n (yLn (ρ k))
def yQN (H : Int → Int) (ρ : Nat → Nat) (k : Nat) (n : Int → Int) (j : Nat) : Prop := (∃ i : Nat, i < k ∧ j / 9 = ρ i) ∧ j < 34 ∧ H j < n j
theorem yQP_cg {L : Int → Int} {ρ : Nat → Nat} : ∀ (k : Nat) (g p : Int) (n m : Int → Int), (∀ q : Int, (∃ i : Nat, i < k ∧ q / 9 = ρ i) → n q = m q) → yQP L ρ k g p n → yQP L ρ k g p m := by
  intro k
  induction k with
  | zero => intro g p n m _ h; exact h
  | succ k ih =>
    intro g p n m h ⟨g', p', h1, h2⟩
    exact ⟨g', p', ih _ _ n m (fun q ⟨i, a, b⟩ => h q ⟨i, by omega, b⟩) h1, yRw_cg (fun q hq => h q ⟨k, by omega, hq⟩) h2⟩
theorem yQC_cg {H n m : Int → Int} {ρ : Nat → Nat} : ∀ (k : Nat), (∀ q : Int, (∃ i : Nat, i < k ∧ q / 9 = ρ i) → n q = m q) → yQC H ρ n k = yQC H ρ m k := by
  intro k
  induction k with
  | zero => intro _; rfl
  | succ k ih =>
    intro h
    simp only [yQC]
    rw [ih (fun q ⟨i, a, b⟩ => h q ⟨i, by omega, b⟩), yCo_cgr (fun q hq => h q ⟨k, by omega, hq⟩)]
theorem yQC_H {H H' n : Int → Int} {ρ : Nat → Nat} : ∀ (k : Nat), (∀ q : Int, (∃ i : Nat, i < k ∧ q / 9 = ρ i) → H q = H' q) → yQC H ρ n k = yQC H' ρ n k := by
  intro k
  induction k with
  | zero => intro _; rfl
  | succ k ih =>
    intro h
    simp only [yQC]
    rw [ih (fun q ⟨i, a, b⟩ => h q ⟨i, by omega, b⟩)]
    congr 1
    unfold yCo
    exact jSum_cg (fun j hj => by rw [h _ ⟨k, by omega, by unfold yLn at hj; split at hj <;> omega⟩])
theorem yQP_bd {L : Int → Int} {ρ : Nat → Nat} : ∀ (k : Nat) (g p : Int) (n : Int → Int), yQP L ρ k g p n → 0 ≤ g ∧ 0 ≤ p := by
  intro k
  induction k with
  | zero => intro g p n h; exact ⟨by rw [h.1]; omega, by rw [h.2]; omega⟩
  | succ k ih =>
    intro g p n ⟨g', p', h1, h2⟩
    have a := ih _ _ n h1
    have b := yRw_bd (by decide) h2
    omega
theorem yQC_nn {H n : Int → Int} {ρ : Nat → Nat} : ∀ k : Nat, 0 ≤ yQC H ρ n k := by
  intro k
  induction k with
  | zero => exact Int.le_refl 0
  | succ k ih =>
    simp only [yQC]
    have := yCo_nn (H := H) (n := n) (r := (ρ k : Int)) (i := yLn (ρ k : Int))
    omega
theorem yLt_of {m k : Nat} (h : ∀ j : Nat, m.testBit j = true → j < k) : m < 2 ^ k := by
  apply Nat.lt_pow_two_of_testBit
  intro i hi
  cases e : m.testBit i with
  | false => rfl
  | true => exact absurd (h i e) (by omega)
/-- the bits of both -/
theorem yAdd_d {m1 m2 r j : Nat} (h1 : ∀ j : Nat, m1.testBit j = true → j / 9 ≠ r) (h2 : m2 < 2 ^ 9) : (m1 + 2 ^ (9 * r) * m2).testBit j = true ↔ m1.testBit j = true ∨ (9 * r ≤ j ∧ m2.testBit (j - 9 * r) = true) := by
  obtain ⟨lo, hlo⟩ : ∃ lo, lo = m1 % 2 ^ (9 * r) := ⟨_, rfl⟩
  obtain ⟨u, hu⟩ : ∃ u, u = m1 / 2 ^ (9 * r) := ⟨_, rfl⟩
  have lt : lo < 2 ^ (9 * r) := by rw [hlo]; exact Nat.mod_lt _ (Nat.two_pow_pos _)
  have e1 : m1 = 2 ^ (9 * r) * u + lo := by rw [hu, hlo]; exact (Nat.div_add_mod _ _).symm
  have u0 : u % 2 ^ 9 = 0 := by
    apply Nat.eq_of_testBit_eq
    intro i
    rw [Nat.zero_testBit, Nat.testBit_mod_two_pow]
    by_cases c : i < 9
    · have : u.testBit i = m1.testBit (9 * r + i) := by rw [hu, Nat.testBit_div_two_pow]; congr 1; omega
      have z : m1.testBit (9 * r + i) = false := by
        cases e : m1.testBit (9 * r + i) with
        | false => rfl
        | true => exact absurd (show (9 * r + i) / 9 = r by omega) (h1 _ e)
      rw [this, z, Bool.and_false]
    · simp [c]
  obtain ⟨v, hv⟩ : ∃ v, v = u / 2 ^ 9 := ⟨_, rfl⟩
  have e2 : u = 2 ^ 9 * v + 0 := by
    have := Nat.div_add_mod u (2 ^ 9)
    rw [u0, ← hv] at this; omega
  have e3 : m1 + 2 ^ (9 * r) * m2 = 2 ^ (9 * r) * (2 ^ 9 * v + m2) + lo := by
    rw [e1, e2, Nat.add_zero, Nat.mul_add]; omega
  rw [e3, e1, Nat.testBit_two_pow_mul_add _ lt, Nat.testBit_two_pow_mul_add _ lt]
  by_cases c : j < 9 * r
  · rw [if_pos c, if_pos c]
    constructor
    · exact Or.inl
    · rintro (k | k)
      · exact k
      · omega
  · rw [if_neg c, if_neg c, Nat.testBit_two_pow_mul_add v h2, e2, Nat.testBit_two_pow_mul_add v (Nat.two_pow_pos 9)]
    by_cases d : j - 9 * r < 9
    · rw [if_pos d, if_pos d, Nat.zero_testBit]
      constructor
      · exact fun k => Or.inr ⟨by omega, k⟩
      · rintro (k | k)
        · exact absurd k (by decide)
        · exact k.2
    · rw [if_neg d, if_neg d]
      constructor
      · exact Or.inl
      · rintro (k | k)
        · exact k
        · have : m2.testBit (j - 9 * r) = false := Nat.testBit_lt_two_pow (Nat.lt_of_lt_of_le h2 (Nat.pow_le_pow_right (by decide) (by omega)))
          rw [this] at k
          exact absurd k.2 (by decide)
theorem yLn_9 (r : Int) : yLn r ≤ 9 := by unfold yLn; split <;> omega
theorem yBst_addq {H L : Int → Int} {ρ : Nat → Nat} {k lim : Nat} {g1 p1 g2 p2 vA vB : Int} (hR : ρ k < 4) (hi : ∀ i : Nat, i < k → ρ i ≠ ρ k) (h14 : lim ≤ 14) (hA : yBst lim (yQP L ρ k g1 p1) (fun n => yQC H ρ n k) (yQN H ρ k) vA) (hB : yBst lim (yRw L (ρ k) 2 g2 p2) (fun n => yCo H (ρ k) n (yLn (ρ k))) (yNd H (ρ k) (yLn (ρ k))) vB) : ∃ T1 m1 T2 m2 : Nat, yVl vA T1 m1 ∧ yVl vB T2 m2 ∧ m1 + 2 ^ (9 * ρ k) * m2 < 2 ^ 34 ∧ 2 ^ (9 * ρ k) * m2 < 2 ^ 34 ∧ T1 ≤ 64 ∧ T2 ≤ 64 ∧ (T1 + T2 ≤ lim → yGd lim (yQP L ρ (k + 1) (g1 + g2) (p1 + p2)) (fun n => yQC H ρ n (k + 1)) (yQN H ρ (k + 1)) (T1 + T2) (m1 + 2 ^ (9 * ρ k) * m2)) ∧ ∀ n, yQP L ρ k g1 p1 n → yRw L (ρ k) 2 g2 p2 n → yQC H ρ n (k + 1) ≤ (lim : Int) → T2 ≤ lim ∧ T1 + T2 ≤ lim ∧ ((T1 + T2 : Nat) : Int) ≤ yQC H ρ n (k + 1) ∧ (((T1 + T2 : Nat) : Int) = yQC H ρ n (k + 1) → ∀ j : Nat, yQN H ρ (k + 1) n j → (m1 + 2 ^ (9 * ρ k) * m2).testBit j = true) := by
  obtain ⟨r, hr⟩ : ∃ r, r = ρ k := ⟨_, rfl⟩
  obtain ⟨T1, m1, v1, hA⟩ := hA
  obtain ⟨T2, m2, v2, hB⟩ := hB
  dsimp only at hA hB
  rw [← hr] at hR hB
  simp only [← hr] at hi ⊢
  have eqP : ∀ g p n, yQP L ρ (k + 1) g p n ↔ ∃ g' p' : Int, yQP L ρ k (g - g') (p - p') n ∧ yRw L r 2 g' p' n := fun g p n => by rw [hr]; exact Iff.rfl
  have eqC : ∀ n, yQC H ρ n (k + 1) = yQC H ρ n k + yCo H r n (yLn r) := fun n => by rw [hr]; rfl
  have l9 := yLn_9 (r : Int)
  have ln34 : ∀ j : Nat, j < yLn r → 9 * r + j < 34 := fun j hj => by
    have := yLn_r (r := (r : Int)) (by omega) (by omega) hj
    omega
  have b1 : ∀ j : Nat, m1.testBit j = true → j < 34 ∧ j / 9 ≠ r := by
    intro j hj
    rcases hA with ⟨a, b, c⟩ | ⟨a, b, c, d⟩
    · rw [b, Nat.zero_testBit] at hj; exact absurd hj (by decide)
    · obtain ⟨n, _, _, ⟨i, i1, i2⟩, h3, _⟩ := (d j).mp hj
      exact ⟨h3, by rw [i2]; exact hi i i1⟩
  have b2 : m2 < 2 ^ yLn r := by
    apply yLt_of
    intro j hj
    rcases hB with ⟨a, b, c⟩ | ⟨a, b, c, d⟩
    · rw [b, Nat.zero_testBit] at hj; exact absurd hj (by decide)
    · obtain ⟨n, _, _, h3⟩ := (d j).mp hj
      exact h3.1
  have b29 : m2 < 2 ^ 9 := Nat.lt_of_lt_of_le b2 (Nat.pow_le_pow_right (by decide) l9)
  have bb2 : ∀ j : Nat, m2.testBit j = true → j < yLn r := by
    intro j hj
    rcases hB with ⟨a, b, c⟩ | ⟨a, b, c, d⟩
    · rw [b, Nat.zero_testBit] at hj; exact absurd hj (by decide)
    · obtain ⟨n, _, _, h3⟩ := (d j).mp hj
      exact h3.1
  have tb : ∀ j : Nat, (m1 + 2 ^ (9 * r) * m2).testBit j = true ↔ m1.testBit j = true ∨ (9 * r ≤ j ∧ m2.testBit (j - 9 * r) = true) := fun j => yAdd_d (fun j hj => (b1 j hj).2) b29
  have t1 : T1 ≤ 64 := by rcases hA with ⟨a, -⟩ | ⟨a, -⟩ <;> omega
  have t2 : T2 ≤ 64 := by rcases hB with ⟨a, -⟩ | ⟨a, -⟩ <;> omega
  have lt34 : m1 + 2 ^ (9 * r) * m2 < 2 ^ 34 := by
    apply yLt_of
    intro j hj
    rcases (tb j).mp hj with h | ⟨h, h'⟩
    · exact (b1 j h).1
    · have := ln34 _ (bb2 _ h'); omega
  refine ⟨T1, m1, T2, m2, v1, v2, lt34, by omega, t1, t2, fun hle => ?_, fun n hn1 hn2 hlim => ?_⟩
  · rcases hA with ⟨a, -⟩ | ⟨a1, ⟨n1, a2, a3⟩, a4, a5⟩
    · omega
    rcases hB with ⟨a, -⟩ | ⟨c1, ⟨n2, c2, c3⟩, c4, c5⟩
    · omega
    have mix : ∀ x y : Int → Int, yQP L ρ k g1 p1 x → yQC H ρ x k = (T1 : Int) → yRw L r 2 g2 p2 y → yCo H r y (yLn r) = (T2 : Int) → ∃ n, yQP L ρ (k + 1) (g1 + g2) (p1 + p2) n ∧ yQC H ρ n (k + 1) = ((T1 + T2 : Nat) : Int) ∧ (∀ q : Int, q / 9 ≠ (r : Int) → n q = x q) ∧ ∀ q : Int, q / 9 = (r : Int) → n q = y q := by
      intro x y hx1 hx2 hy1 hy2
      have e1 : ∀ q : Int, q / 9 ≠ (r : Int) → (fun q => if q / 9 = (r : Int) then y q else x q) q = x q := fun q hq => by dsimp only; rw [if_neg hq]
      have e2 : ∀ q : Int, q / 9 = (r : Int) → (fun q => if q / 9 = (r : Int) then y q else x q) q = y q := fun q hq => by dsimp only; rw [if_pos hq]
      have e3 : ∀ q : Int, (∃ i : Nat, i < k ∧ q / 9 = ρ i) → (fun q => if q / 9 = (r : Int) then y q else x q) q = x q := fun q ⟨i, i1, i2⟩ => e1 q (by rw [i2]; have := hi i i1; omega)
      refine ⟨fun q => if q / 9 = (r : Int) then y q else x q, (eqP _ _ _).mpr ⟨g2, p2, ?_, yRw_cg (fun q hq => (e2 q hq).symm) hy1⟩, ?_, e1, e2⟩
      · rw [show g1 + g2 - g2 = g1 by omega, show p1 + p2 - p2 = p1 by omega]
        exact yQP_cg k _ _ x _ (fun q hq => (e3 q hq).symm) hx1
      · rw [eqC, yQC_cg (m := x) k e3, yCo_cgr (m := y) (fun q hq => e2 q hq), hx2, hy2]
        omega
    obtain ⟨n, k1, k2, k3, k4⟩ := mix n1 n2 a2 a3 c2 c3
    refine Or.inr ⟨hle, ⟨n, k1, k2⟩, fun j hj => ?_⟩
    rw [tb] at hj
    rcases hj with j2 | ⟨j1, j2⟩
    · obtain ⟨n', d1, d2, ⟨i, i1, i2⟩, d3, d4⟩ := (a5 j).mp j2
      obtain ⟨n'', l1, l2, l3, l4⟩ := mix n' n2 d1 d2 c2 c3
      have := hi i i1
      exact ⟨n'', l1, l2, ⟨i, by omega, i2⟩, d3, by rw [l3 j (by omega)]; exact d4⟩
    · obtain ⟨n', d1, d2, d3⟩ := (c5 _).mp j2
      obtain ⟨n'', l1, l2, l3, l4⟩ := mix n1 n' a2 a3 d1 d2
      have := ln34 _ d3.1
      have ej : 9 * (r : Int) + ((j - 9 * r : Nat) : Int) = j := by omega
      have d4 := d3.2
      have d5 := d3.1
      rw [ej] at d4
      exact ⟨n'', l1, l2, ⟨k, by omega, by rw [← hr]; omega⟩, by omega, by rw [l4 j (by omega)]; exact d4⟩
  · have nn1 := yQC_nn (H := H) (n := n) (ρ := ρ) k
    have nn2 := yCo_nn (H := H) (n := n) (r := (r : Int)) (i := yLn (r : Int))
    rw [eqC] at hlim ⊢
    rcases hA with ⟨-, -, a⟩ | ⟨a1, -, a4, a5⟩
    · have := a n hn1; omega
    rcases hB with ⟨-, -, c⟩ | ⟨c1, -, c4, c5⟩
    · have := c n hn2; omega
    have x1 := a4 n hn1
    have x2 := c4 n hn2
    refine ⟨by omega, by omega, by omega, fun z j hj => ?_⟩
    obtain ⟨⟨i, i1, i2⟩, j34, jn⟩ := hj
    rw [tb]
    by_cases ei : i < k
    · exact Or.inl ((a5 j).mpr ⟨n, hn1, by omega, ⟨i, ei, i2⟩, j34, jn⟩)
    · have ei : i = k := by omega
      subst ei
      rw [← hr] at i2
      refine Or.inr ⟨by omega, (c5 _).mpr ⟨n, hn2, by omega, ?_, ?_⟩⟩
      · unfold yLn
        split <;> omega
      · have ej : 9 * (r : Int) + ((j - 9 * r : Nat) : Int) = j := by omega
        rw [ej]; exact jn
/-- the lanes of a row with nothing in it -/
theorem yRw_00 {H L n : Int → Int} {r : Int} (hH : ∀ j : Nat, j < yLn r → 0 ≤ H (9 * r + j)) (h : yRw L r 2 0 0 n) : yCo H r n (yLn r) = 0 ∧ ∀ j : Nat, j < yLn r → n (9 * r + j) = 0 := by
  obtain ⟨-, -, -, -, b5, b6⟩ := yRP_bd (by decide) _ _ _ _ _ n h
  have z : ∀ j : Nat, j < yLn r → n (9 * r + j) = 0 := by
    have pt := jSum_pt (f := fun _ => (0 : Int)) (g := fun j => n (9 * r + j)) (n := yLn r) (fun j hj => b5 j hj) (by rw [jSum_0]; omega)
    exact fun j hj => (pt j hj).symm
  refine ⟨?_, z⟩
  unfold yCo
  exact jSum_zero (fun j hj => by
    rw [z j hj]
    have := hH j hj
    unfold yMx
    rw [if_neg (by omega)])
theorem yRP_00 {L : Int → Int} {r : Int} : ∀ (i : Nat), (∀ j : Nat, j < i → L (9 * r + j) ≤ 4) → yRP L r 2 i 0 0 0 0 (fun _ => 0) := by
  intro i
  induction i with
  | zero => intro _; exact ⟨rfl, rfl, rfl, rfl⟩
  | succ i ih =>
    intro h
    refine ⟨0, 0, 0, by simpa using ih (fun j hj => h j (by omega)), by omega, by split <;> omega, Or.inl rfl, Or.inl rfl, by omega, by omega, by simp, ?_⟩
    have := h i (by omega)
    show 0 + L (9 * r + i) ≤ 4
    omega
/-- such a lane is 0 -/
theorem yBst_00 {H L : Int → Int} {r : Int} {lim : Nat} {v : Int} (hH : ∀ j : Nat, j < yLn r → 0 ≤ H (9 * r + j)) (hL : ∀ j : Nat, j < yLn r → L (9 * r + j) ≤ 4) (h : yBst lim (yRw L r 2 0 0) (fun n => yCo H r n (yLn r)) (yNd H r (yLn r)) v) : yVl v 0 0 := by
  obtain ⟨T, m, hv, h⟩ := h
  have z := yRP_00 (yLn r) hL
  have z0 : yRw L r 2 0 0 (fun _ => 0) := z
  have c0 := (yRw_00 hH z0).1
  dsimp only at h
  rcases h with ⟨-, -, h⟩ | ⟨-, -, h4, h5⟩
  · have := h _ z0; omega
  · have := h4 _ z0
    have T0 : T = 0 := by omega
    have m0 : m = 0 := by
      apply Nat.eq_of_testBit_eq
      intro j
      rw [Nat.zero_testBit]
      cases e : m.testBit j with
      | false => rfl
      | true =>
        obtain ⟨n, n1, n2, n3⟩ := (h5 j).mp e
        have := (yRw_00 hH n1).2 j n3.1
        have := hH j n3.1
        have := n3.2
        omega
    subst T0 m0
    exact hv
end
