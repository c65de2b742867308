/-! ===== lacks: the class's rows added up ===== -/
section
def yNg (H : Int → Int) (R : Nat) (n : Int → Int) (j : Nat) : Prop := j < 9 * R ∧ j < 34 ∧ H j < n j
theorem yTP_cg {L : Int → Int} {K : Int} : ∀ (R : Nat), R ≤ 4 → ∀ (g p : Int) (n m : Int → Int), (∀ q : Int, 0 ≤ q → q < 9 * (R : Int) → n q = m q) → yTP L K R g p n → yTP L K R g p m := by
  intro R
  induction R with
  | zero => intro _ g p n m _ h; exact h
  | succ R ih =>
    intro hR g p n m h ⟨g', p', h1, h2⟩
    exact ⟨g', p', ih (by omega) _ _ n m (fun q a b => h q a (by omega)) h1, yRw_cg (fun q hq => h q (by omega) (by omega)) h2⟩
theorem yTC_cg {H n m : Int → Int} : ∀ (R : Nat), R ≤ 4 → (∀ q : Int, 0 ≤ q → q < 9 * (R : Int) → n q = m q) → yTC H n R = yTC H m R := by
  intro R
  induction R with
  | zero => intro _ _; rfl
  | succ R ih =>
    intro hR h
    simp only [yTC]
    rw [ih (by omega) (fun q a b => h q a (by omega)), yCo_cgr (fun q hq => h q (by omega) (by omega))]
theorem yTP_bd {L : Int → Int} {K : Int} (hK : 0 ≤ K) : ∀ (R : Nat) (g p : Int) (n : Int → Int), yTP L K R g p n → 0 ≤ g ∧ 0 ≤ p := by
  intro R
  induction R with
  | zero => intro g p n h; exact ⟨by rw [h.1]; omega, by rw [h.2]; omega⟩
  | succ R ih =>
    intro g p n ⟨g', p', h1, h2⟩
    have a := ih _ _ n h1
    have b := yRw_bd hK h2
    omega
theorem yTC_nn {H n : Int → Int} : ∀ R : Nat, 0 ≤ yTC H n R := by
  intro R
  induction R with
  | zero => exact Int.le_refl 0
  | succ R ih =>
    simp only [yTC]
    have := yCo_nn (H := H) (n := n) (r := (R : Int)) (i := yLn (R : Int))
    omega
theorem yLt_of {m k : Nat} (h : ∀ j : Nat, m.testBit j = true → j < k) : m < 2 ^ k := by
  apply Nat.lt_pow_two_of_testBit
  intro i hi
  cases e : m.testBit i with
  | false => rfl
  | true => exact absurd (h i e) (by omega)
/-- the bits of both -/
theorem yAdd_t {m1 m2 k j : Nat} (h : m1 < 2 ^ k) : (m1 + 2 ^ k * m2).testBit j = true ↔ (j < k ∧ m1.testBit j = true) ∨ (k ≤ j ∧ m2.testBit (j - k) = true) := by
  rw [Nat.add_comm, Nat.testBit_two_pow_mul_add m2 h]
  by_cases e : j < k
  · simp [e]; omega
  · simp [e]; omega
theorem yBst_add {H L : Int → Int} {R lim : Nat} {g1 p1 g2 p2 vA vB : Int} (hR : R < 4) (h14 : lim ≤ 14) (hA : yBst lim (yTP L 2 R g1 p1) (fun n => yTC H n R) (yNg H R) vA) (hB : yBst lim (yRw L R 2 g2 p2) (fun n => yCo H R n (yLn R)) (yNd H R (yLn R)) vB) : ∃ T1 m1 T2 m2 : Nat, yVl vA T1 m1 ∧ yVl vB T2 m2 ∧ m1 < 2 ^ (9 * R) ∧ m2 < 2 ^ yLn R ∧ T1 ≤ 64 ∧ T2 ≤ 64 ∧ (T1 + T2 ≤ lim → yGd lim (yTP L 2 (R + 1) (g1 + g2) (p1 + p2)) (fun n => yTC H n (R + 1)) (yNg H (R + 1)) (T1 + T2) (m1 + 2 ^ (9 * R) * m2)) ∧ ∀ n, yTP L 2 R g1 p1 n → yRw L R 2 g2 p2 n → yTC H n (R + 1) ≤ (lim : Int) → T1 + T2 ≤ lim ∧ ((T1 + T2 : Nat) : Int) ≤ yTC H n (R + 1) ∧ (((T1 + T2 : Nat) : Int) = yTC H n (R + 1) → ∀ j : Nat, yNg H (R + 1) n j → (m1 + 2 ^ (9 * R) * m2).testBit j = true) := by
  obtain ⟨T1, m1, v1, hA⟩ := hA
  obtain ⟨T2, m2, v2, hB⟩ := hB
  dsimp only at hA hB
  have b1 : m1 < 2 ^ (9 * R) := by
    apply yLt_of
    intro j hj
    rcases hA with ⟨a, b, c⟩ | ⟨a, b, c, d⟩
    · rw [b, Nat.zero_testBit] at hj; exact absurd hj (by decide)
    · obtain ⟨n, _, _, h3⟩ := (d j).mp hj
      exact h3.1
  have b2 : m2 < 2 ^ yLn R := by
    apply yLt_of
    intro j hj
    rcases hB with ⟨a, b, c⟩ | ⟨a, b, c, d⟩
    · rw [b, Nat.zero_testBit] at hj; exact absurd hj (by decide)
    · obtain ⟨n, _, _, h3⟩ := (d j).mp hj
      exact h3.1
  have t1 : T1 ≤ 64 := by rcases hA with ⟨a, -⟩ | ⟨a, -⟩ <;> omega
  have t2 : T2 ≤ 64 := by rcases hB with ⟨a, -⟩ | ⟨a, -⟩ <;> omega
  have ln34 : ∀ j : Nat, j < yLn R → 9 * R + j < 34 := fun j hj => by
    have := yLn_r (r := (R : Int)) (by omega) (by omega) hj
    omega
  refine ⟨T1, m1, T2, m2, v1, v2, b1, b2, t1, t2, fun hle => ?_, fun n hn1 hn2 hlim => ?_⟩
  · rcases hA with ⟨a, -⟩ | ⟨a1, ⟨n1, a2, a3⟩, a4, a5⟩
    · omega
    rcases hB with ⟨a, -⟩ | ⟨c1, ⟨n2, c2, c3⟩, c4, c5⟩
    · omega
    have mix : ∀ x y : Int → Int, yTP L 2 R g1 p1 x → yTC H x R = (T1 : Int) → yRw L R 2 g2 p2 y → yCo H R y (yLn R) = (T2 : Int) → ∃ n, yTP L 2 (R + 1) (g1 + g2) (p1 + p2) n ∧ yTC H n (R + 1) = ((T1 + T2 : Nat) : Int) ∧ (∀ q : Int, q < 9 * (R : Int) → n q = x q) ∧ ∀ q : Int, q / 9 = (R : Int) → n q = y q := by
      intro x y hx1 hx2 hy1 hy2
      have e1 : ∀ q : Int, q < 9 * (R : Int) → (fun q => if q < 9 * (R : Int) then x q else y q) q = x q := fun q hq => by dsimp only; rw [if_pos hq]
      have e2 : ∀ q : Int, q / 9 = (R : Int) → (fun q => if q < 9 * (R : Int) then x q else y q) q = y q := fun q hq => by dsimp only; rw [if_neg (by omega)]
      refine ⟨fun q => if q < 9 * (R : Int) then x q else y q, ⟨g2, p2, ?_, yRw_cg (fun q hq => (e2 q hq).symm) hy1⟩, ?_, e1, e2⟩
      · rw [show g1 + g2 - g2 = g1 by omega, show p1 + p2 - p2 = p1 by omega]
        exact yTP_cg R (by omega) _ _ x _ (fun q _ h => (e1 q h).symm) hx1
      · simp only [yTC]
        rw [yTC_cg (m := x) R (by omega) (fun q _ h => e1 q h), yCo_cgr (m := y) (fun q hq => e2 q hq), hx2, hy2]
        omega
    obtain ⟨n, k1, k2, k3, k4⟩ := mix n1 n2 a2 a3 c2 c3
    refine Or.inr ⟨hle, ⟨n, k1, k2⟩, fun j hj => ?_⟩
    rw [yAdd_t b1] at hj
    rcases hj with ⟨j1, j2⟩ | ⟨j1, j2⟩
    · obtain ⟨n', d1, d2, d3⟩ := (a5 j).mp j2
      obtain ⟨n'', l1, l2, l3, l4⟩ := mix n' n2 d1 d2 c2 c3
      exact ⟨n'', l1, l2, by omega, d3.2.1, by rw [l3 j (by omega)]; exact d3.2.2⟩
    · obtain ⟨n', d1, d2, d3⟩ := (c5 _).mp j2
      obtain ⟨n'', l1, l2, l3, l4⟩ := mix n1 n' a2 a3 d1 d2
      have l9 : yLn (R : Int) ≤ 9 := by unfold yLn; split <;> omega
      have := ln34 _ d3.1
      have ej : 9 * (R : Int) + ((j - 9 * R : Nat) : Int) = j := by omega
      have d4 := d3.2
      have d5 := d3.1
      rw [ej] at d4
      exact ⟨n'', l1, l2, by omega, by omega, by rw [l4 j (by omega)]; exact d4⟩
  · have e : yTC H n (R + 1) = yTC H n R + yCo H R n (yLn R) := rfl
    have nn1 := yTC_nn (H := H) (n := n) R
    have nn2 := yCo_nn (H := H) (n := n) (r := (R : Int)) (i := yLn (R : Int))
    rw [e] at hlim ⊢
    rcases hA with ⟨-, -, a⟩ | ⟨a1, -, a4, a5⟩
    · have := a n hn1; omega
    rcases hB with ⟨-, -, c⟩ | ⟨c1, -, c4, c5⟩
    · have := c n hn2; omega
    have x1 := a4 n hn1
    have x2 := c4 n hn2
    refine ⟨by omega, by omega, fun z j hj => ?_⟩
    rw [yAdd_t b1]
    by_cases ej : j < 9 * R
    · exact Or.inl ⟨ej, (a5 j).mpr ⟨n, hn1, by omega, ej, hj.2.1, hj.2.2⟩⟩
    · refine Or.inr ⟨by omega, (c5 _).mpr ⟨n, hn2, by omega, ?_, ?_⟩⟩
      · have h1 := hj.1
        have h2 := hj.2.1
        unfold yLn
        split <;> omega
      · have ej : 9 * (R : Int) + ((j - 9 * R : Nat) : Int) = j := by omega
        rw [ej]; exact hj.2.2
/-- the lanes of a row with nothing in it -/
theorem yRw_00 {H L n : Int → Int} {r : Int} (hH : ∀ j : Nat, j < yLn r → 0 ≤ H (9 * r + j)) (h : yRw L r 2 0 0 n) : yCo H r n (yLn r) = 0 ∧ ∀ j : Nat, j < yLn r → n (9 * r + j) = 0 := by
  obtain ⟨-, -, -, -, b5, b6⟩ := yRP_bd (by decide) _ _ _ _ _ n h
  have z : ∀ j : Nat, j < yLn r → n (9 * r + j) = 0 := by
    have pt := jSum_pt (f := fun _ => (0 : Int)) (g := fun j => n (9 * r + j)) (n := yLn r) (fun j hj => b5 j hj) (by rw [jSum_0]; omega)
    exact fun j hj => (pt j hj).symm
  refine ⟨?_, z⟩
  unfold yCo
  exact jSum_zero (fun j hj => by
    rw [z j hj]
    have := hH j hj
    unfold yMx
    rw [if_neg (by omega)])
theorem yRP_00 {L : Int → Int} {r : Int} : ∀ (i : Nat), (∀ j : Nat, j < i → L (9 * r + j) ≤ 4) → yRP L r 2 i 0 0 0 0 (fun _ => 0) := by
  intro i
  induction i with
  | zero => intro _; exact ⟨rfl, rfl, rfl, rfl⟩
  | succ i ih =>
    intro h
    refine ⟨0, 0, 0, by simpa using ih (fun j hj => h j (by omega)), by omega, by split <;> omega, Or.inl rfl, Or.inl rfl, by omega, by omega, by simp, ?_⟩
    have := h i (by omega)
    show 0 + L (9 * r + i) ≤ 4
    omega
/-- such a lane is 0 -/
theorem yBst_00 {H L : Int → Int} {r : Int} {lim : Nat} {v : Int} (hH : ∀ j : Nat, j < yLn r → 0 ≤ H (9 * r + j)) (hL : ∀ j : Nat, j < yLn r → L (9 * r + j) ≤ 4) (h : yBst lim (yRw L r 2 0 0) (fun n => yCo H r n (yLn r)) (yNd H r (yLn r)) v) : yVl v 0 0 := by
  obtain ⟨T, m, hv, h⟩ := h
  have z := yRP_00 (yLn r) hL
  have z0 : yRw L r 2 0 0 (fun _ => 0) := z
  have c0 := (yRw_00 hH z0).1
  dsimp only at h
  rcases h with ⟨-, -, h⟩ | ⟨-, -, h4, h5⟩
  · have := h _ z0; omega
  · have := h4 _ z0
    have T0 : T = 0 := by omega
    have m0 : m = 0 := by
      apply Nat.eq_of_testBit_eq
      intro j
      rw [Nat.zero_testBit]
      cases e : m.testBit j with
      | false => rfl
      | true =>
        obtain ⟨n, n1, n2, n3⟩ := (h5 j).mp e
        have := (yRw_00 hH n1).2 j n3.1
        have := hH j n3.1
        have := n3.2
        omega
    subst T0 m0
    exact hv
end
