/-! ===== best: a tile that is not wanted ===== -/
section
theorem yUp_back {H : Int → Int} {q : Int} : yUp (yUp H q (H q + -1)) q (yUp H q (H q + -1) q + 1) = H := by
  funext p
  by_cases e : p = q
  · subst e; rw [yUp_at, yUp_at]; omega
  · rw [yUp_o e, yUp_o e]
theorem yLk_c {f7 f13 w lw : Int} {H : Int → Int} : (yLk f7 f13 w lw H = lw ∨ (w = 4 ∧ f7 ≠ 0 ∧ yLk f7 f13 w lw H = yL7 H) ∨ (w = 4 ∧ f13 ≠ 0 ∧ yLk f7 f13 w lw H = yL13 H)) ∧ (w = 4 ∧ f7 ≠ 0 → yLk f7 f13 w lw H ≤ yL7 H) ∧ (w = 4 ∧ f13 ≠ 0 → yLk f7 f13 w lw H ≤ yL13 H) ∧ yLk f7 f13 w lw H ≤ lw := by
  refine ⟨?_, ?_, ?_, yLk_le⟩
  · unfold yLk
    by_cases a : w = 4 ∧ f7 ≠ 0 ∧ yL7 H < lw
    · rw [if_pos a]
      by_cases b : w = 4 ∧ f13 ≠ 0 ∧ yL13 H < yL7 H
      · rw [if_pos b]; exact Or.inr (Or.inr ⟨b.1, b.2.1, rfl⟩)
      · rw [if_neg b]; exact Or.inr (Or.inl ⟨a.1, a.2.1, rfl⟩)
    · rw [if_neg a]
      by_cases b : w = 4 ∧ f13 ≠ 0 ∧ yL13 H < lw
      · rw [if_pos b]; exact Or.inr (Or.inr ⟨b.1, b.2.1, rfl⟩)
      · rw [if_neg b]; exact Or.inl rfl
  · rintro ⟨w4, f⟩
    have am : (if w = 4 ∧ f7 ≠ 0 ∧ yL7 H < lw then yL7 H else lw) ≤ yL7 H := by
      by_cases a : yL7 H < lw
      · rw [if_pos ⟨w4, f, a⟩]; omega
      · rw [if_neg (fun z => a z.2.2)]; omega
    unfold yLk
    generalize (if w = 4 ∧ f7 ≠ 0 ∧ yL7 H < lw then yL7 H else lw) = m at am ⊢
    by_cases b : w = 4 ∧ f13 ≠ 0 ∧ yL13 H < m
    · rw [if_pos b]; have := b.2.2; omega
    · rw [if_neg b]; exact am
  · rintro ⟨w4, f⟩
    unfold yLk
    generalize (if w = 4 ∧ f7 ≠ 0 ∧ yL7 H < lw then yL7 H else lw) = m
    by_cases b : yL13 H < m
    · rw [if_pos ⟨w4, f, b⟩]; omega
    · rw [if_neg (fun z => b z.2.2)]; omega
/-- a tile less never brings it nearer -/
theorem yLack_up {f7 f13 w : Int} {H L : Int → Int} {v v' q : Int} (q0 : 0 ≤ q) (q4 : q < 34) (hH : ∀ p : Int, 0 ≤ p → p < 34 → 0 ≤ H p) (hs : jSum H 34 ≤ 14) (h : yLack f7 f13 w H L v) (k : yLack f7 f13 w (yUp H q (H q + 1)) L v') : v - 1 ≤ v' ∧ v' ≤ v := by
  obtain ⟨lw, l1, rfl⟩ := h
  obtain ⟨lv, l2, rfl⟩ := k
  obtain ⟨w1, w2, w3⟩ := yLw_up hH q0 q4 l1 l2
  obtain ⟨s1, s2, -⟩ := yL7_up q0 q4 hH hs
  obtain ⟨o1, o2, -⟩ := yL13_up q0 q4 hH
  clear w2 l1 l2
  obtain ⟨c1, c2, c3, c4⟩ := yLk_c (f7 := f7) (f13 := f13) (w := w) (lw := lw) (H := H)
  obtain ⟨d1, d2, d3, d4⟩ := yLk_c (f7 := f7) (f13 := f13) (w := w) (lw := lv) (H := yUp H q (H q + 1))
  constructor
  · rcases d1 with d | ⟨x, y, d⟩ | ⟨x, y, d⟩
    · omega
    · have := c2 ⟨x, y⟩; omega
    · have := c3 ⟨x, y⟩; omega
  · rcases c1 with d | ⟨x, y, d⟩ | ⟨x, y, d⟩
    · omega
    · have := d2 ⟨x, y⟩; omega
    · have := d3 ⟨x, y⟩; omega
theorem yTP_nn {L : Int → Int} {K : Int} (hK : 0 ≤ K) : ∀ (R : Nat), R ≤ 4 → ∀ (g p : Int) (n : Int → Int), yTP L K R g p n → ∀ q : Int, 0 ≤ q → q < 9 * (R : Int) → q < 34 → 0 ≤ n q := by
  intro R
  induction R with
  | zero => intro _ g p n _ q q0 q1 _; omega
  | succ R ih =>
    intro hR g p n ⟨g', p', h1, h2⟩ q q0 q1 q4
    by_cases e : q < 9 * (R : Int)
    · exact ih (by omega) _ _ n h1 q q0 e q4
    · obtain ⟨-, -, -, -, b5, -⟩ := yRP_bd hK _ _ _ _ _ n h2
      have := b5 (q - 9 * R).toNat (by unfold yLn; split <;> omega)
      rw [show 9 * (R : Int) + ((q - 9 * R).toNat : Int) = q by omega] at this
      exact this
theorem yTC_eq {H L : Int → Int} {K : Int} (hK : 0 ≤ K) {n : Int → Int} (hn : ∀ q : Int, 0 ≤ q → q < 34 → H q ≤ n q) : ∀ (R m : Nat), R ≤ 4 → m = (if R = 4 then 34 else 9 * R) → ∀ (g p : Int), yTP L K R g p n → yTC H n R = 3 * g + 2 * p - jSum H m := by
  intro R
  induction R with
  | zero =>
    intro m _ hm g p h
    rw [if_neg (by decide)] at hm
    subst hm
    rw [h.1, h.2]
    rfl
  | succ R ih =>
    intro m hR hm g p ⟨g', p', h1, h2⟩
    have k := ih (9 * R) (by omega) (by rw [if_neg (by omega)]) _ _ h1
    obtain ⟨-, -, -, -, b5, b6⟩ := yRP_bd hK _ _ _ _ _ n h2
    have em : m = 9 * R + yLn (R : Int) := by
      rw [hm]
      unfold yLn
      by_cases c : R + 1 = 4
      · rw [if_pos c, if_neg (by omega)]; omega
      · rw [if_neg c, if_pos (by omega)]; omega
    have eq : yCo H R n (yLn R) = jSum (fun j => n (9 * (R : Int) + j) - H (9 * (R : Int) + j)) (yLn R) := jSum_cg (fun j hj => by
      have := yLn_r (r := (R : Int)) (by omega) (by omega) hj
      have := hn _ this.1 this.2
      unfold yMx
      split <;> omega)
    rw [jSum_sub] at eq
    have ap := jSum_ap (f := H) (9 * R) (yLn (R : Int))
    rw [← em, show ((9 * R : Nat) : Int) = 9 * (R : Int) by omega] at ap
    simp only [yTC]
    omega
theorem yKeep7 {H : Int → Int} (hH : ∀ q : Int, 0 ≤ q → q < 34 → 0 ≤ H q) (hs : jSum H 34 = 14) (h : 1 ≤ yL7 H) : ∃ q, 0 ≤ q ∧ q < 34 ∧ 1 ≤ H q ∧ yL7 (yUp H q (H q + -1)) = yL7 H := by
  have fin : ∀ q : Int, 0 ≤ q → q < 34 → 1 ≤ H q → ¬ yh7 (yUp H q (H q + -1)) q → yL7 (yUp H q (H q + -1)) = yL7 H := by
    intro q q0 q4 h1 nk
    have u := yL7_up (H := yUp H q (H q + -1)) q0 q4 (fun p p0 p4 => by
      by_cases e : p = q
      · subst e; rw [yUp_at]; omega
      · rw [yUp_o e]; exact hH p p0 p4) (by rw [yUp_sum q0 q4]; omega)
    rw [yUp_back] at u
    obtain ⟨u1, u2, u3⟩ := u
    have : ¬ yL7 H = yL7 (yUp H q (H q + -1)) - 1 := fun z => nk (u3.mp z)
    omega
  by_cases c1 : ∃ q, 0 ≤ q ∧ q < 34 ∧ 3 ≤ H q
  · obtain ⟨q, q0, q4, h3⟩ := c1
    refine ⟨q, q0, q4, by omega, fin q q0 q4 (by omega) ?_⟩
    unfold yh7
    rw [yUp_at]
    rintro (z | z)
    · omega
    · have := z.1; omega
  by_cases c2 : (∃ q, 0 ≤ q ∧ q < 34 ∧ H q = 1) ∧ 8 ≤ yUn H
  · obtain ⟨⟨q, q0, q4, h3⟩, u8⟩ := c2
    refine ⟨q, q0, q4, by omega, fin q q0 q4 (by omega) ?_⟩
    have eU : yUn (yUp (yUp H q (H q + -1)) q (yUp H q (H q + -1) q + 1)) = yUn (yUp H q (H q + -1)) + ((if 1 ≤ yUp (yUp H q (H q + -1)) q (yUp H q (H q + -1) q + 1) q then 1 else 0) - (if 1 ≤ yUp H q (H q + -1) q then 1 else 0)) := yc_up (P := fun p => 1 ≤ yUp H q (H q + -1) p) (Q := fun p => 1 ≤ yUp (yUp H q (H q + -1)) q (yUp H q (H q + -1) q + 1) p) q0 q4 (fun p p0 p4 hne => by rw [yUp_o (x := q) (v := yUp H q (H q + -1) q + 1) hne])
    rw [yUp_back, yUp_at, if_pos (by omega), if_neg (by omega)] at eU
    unfold yh7
    rw [yUp_at]
    rintro (z | z)
    · omega
    · have := z.2; omega
  exfalso
  have le2 : ∀ q : Int, 0 ≤ q → q < 34 → H q ≤ 2 := fun q q0 q4 => by
    by_cases z : 3 ≤ H q
    · exact absurd ⟨q, q0, q4, z⟩ c1
    · omega
  have tot : jSum H 34 = yPr H + yUn H := by
    unfold yPr yUn
    rw [← jSum_add]
    exact jSum_cg (fun i hi => by
      have := le2 i (by omega) (by omega)
      have := hH i (by omega) (by omega)
      split <;> split <;> omega)
  have le : yPr H ≤ yUn H := jSum_le (fun i hi => by split <;> split <;> omega)
  have both : yPr H = 7 ∧ yUn H = 7 := by
    by_cases z : 8 ≤ yUn H
    · have no1 : ∀ q : Int, 0 ≤ q → q < 34 → H q ≠ 1 := fun q q0 q4 e => c2 ⟨⟨q, q0, q4, e⟩, z⟩
      have : yPr H = yUn H := jSum_cg (fun i hi => by
        have := no1 i (by omega) (by omega)
        split <;> split <;> omega)
      omega
    · omega
  have : yL7 H = 0 := by
    unfold yL7
    rw [both.1, both.2]
    decide
  omega
theorem yKeep13 {H : Int → Int} (hH : ∀ q : Int, 0 ≤ q → q < 34 → 0 ≤ H q) (hs : jSum H 34 = 14) (h : 1 ≤ yL13 H) : ∃ q, 0 ≤ q ∧ q < 34 ∧ 1 ≤ H q ∧ yL13 (yUp H q (H q + -1)) = yL13 H := by
  have fin : ∀ q : Int, 0 ≤ q → q < 34 → 1 ≤ H q → ¬ yh13 (yUp H q (H q + -1)) q → yL13 (yUp H q (H q + -1)) = yL13 H := by
    intro q q0 q4 h1 nk
    have u := yL13_up (H := yUp H q (H q + -1)) q0 q4 (fun p p0 p4 => by
      by_cases e : p = q
      · subst e; rw [yUp_at]; omega
      · rw [yUp_o e]; exact hH p p0 p4)
    rw [yUp_back] at u
    obtain ⟨u1, u2, u3⟩ := u
    have : ¬ yL13 H = yL13 (yUp H q (H q + -1)) - 1 := fun z => nk (u3.mp z)
    omega
  by_cases c0 : ∃ q, 0 ≤ q ∧ q < 34 ∧ 1 ≤ H q ∧ ¬ yO q
  · obtain ⟨q, q0, q4, h3, o⟩ := c0
    exact ⟨q, q0, q4, h3, fin q q0 q4 h3 (fun z => o z.1)⟩
  by_cases c1 : ∃ q, 0 ≤ q ∧ q < 34 ∧ 3 ≤ H q
  · obtain ⟨q, q0, q4, h3⟩ := c1
    refine ⟨q, q0, q4, by omega, fin q q0 q4 (by omega) ?_⟩
    unfold yh13
    rw [yUp_at]
    rintro ⟨-, z⟩
    split at z <;> omega
  by_cases c2 : (∃ q, 0 ≤ q ∧ q < 34 ∧ H q = 2 ∧ yO q) ∧ 2 ≤ yOq H
  · obtain ⟨⟨q, q0, q4, h3, o⟩, u8⟩ := c2
    refine ⟨q, q0, q4, by omega, fin q q0 q4 (by omega) ?_⟩
    have eU : yOq (yUp (yUp H q (H q + -1)) q (yUp H q (H q + -1) q + 1)) = yOq (yUp H q (H q + -1)) + ((if yO q ∧ 2 ≤ yUp (yUp H q (H q + -1)) q (yUp H q (H q + -1) q + 1) q then 1 else 0) - (if yO q ∧ 2 ≤ yUp H q (H q + -1) q then 1 else 0)) := yc_up (P := fun p => yO p ∧ 2 ≤ yUp H q (H q + -1) p) (Q := fun p => yO p ∧ 2 ≤ yUp (yUp H q (H q + -1)) q (yUp H q (H q + -1) q + 1) p) q0 q4 (fun p p0 p4 hne => by rw [yUp_o (x := q) (v := yUp H q (H q + -1) q + 1) hne])
    rw [yUp_back, yUp_at, if_pos ⟨o, by omega⟩, if_neg (fun z => by have := z.2; omega)] at eU
    unfold yh13
    rw [yUp_at, if_pos (by omega)]
    rintro ⟨-, z⟩
    omega
  exfalso
  have le2 : ∀ q : Int, 0 ≤ q → q < 34 → H q ≤ 2 ∧ (1 ≤ H q → yO q) := fun q q0 q4 => by
    refine ⟨?_, fun z => ?_⟩
    · by_cases z : 3 ≤ H q
      · exact absurd ⟨q, q0, q4, z⟩ c1
      · omega
    · by_cases o : yO q
      · exact o
      · exact absurd ⟨q, q0, q4, z, o⟩ c0
  have tot : jSum H 34 = yOq H + yOu H := by
    unfold yOq yOu
    rw [← jSum_add]
    refine jSum_cg (fun i hi => ?_)
    have a := le2 i (by omega) (by omega)
    have b := hH i (by omega) (by omega)
    by_cases o : yO (i : Int)
    · by_cases x : 2 ≤ H i
      · rw [if_pos ⟨o, x⟩, if_pos ⟨o, by omega⟩]; omega
      · by_cases y : 1 ≤ H i
        · rw [if_neg (fun z => x z.2), if_pos ⟨o, y⟩]; omega
        · rw [if_neg (fun z => x z.2), if_neg (fun z => y z.2)]; omega
    · have : ¬ 1 ≤ H i := fun z => o (a.2 z)
      rw [if_neg (fun z => o z.1), if_neg (fun z => o z.1)]; omega
  have o13 : yOu H ≤ 13 := by
    have le := jSum_le (f := fun q => if yO q ∧ 1 ≤ H q then 1 else 0) (g := fun q => if yO q then 1 else 0) (n := 34) (fun i hi => by
      by_cases o : yO (i : Int)
      · rw [if_pos o]; exact y01.2
      · rw [if_neg (fun z => o z.1), if_neg o]; exact Int.le_refl 0)
    have e : jSum (fun q => if yO q then (1 : Int) else 0) 34 = 13 := by decide
    rw [e] at le
    exact le
  have q1 : 0 < yOq H := by omega
  obtain ⟨k, k34, hk⟩ := jSum_pos q1
  have hk2 : yO (k : Int) ∧ 2 ≤ H k := by
    by_cases z : yO (k : Int) ∧ 2 ≤ H k
    · exact z
    · rw [if_neg z] at hk; omega
  have : ¬ 2 ≤ yOq H := fun z => c2 ⟨⟨k, by omega, by omega, by have := le2 k (by omega) (by omega); omega, hk2.1⟩, z⟩
  have : yL13 H = 0 := by
    unfold yL13
    rw [if_pos q1]
    omega
  omega
/-- some tile is not wanted -/
theorem yKeep {f7 f13 w v : Int} {H L : Int → Int} (hw : 0 ≤ w ∧ w ≤ 4) (hH : ∀ q : Int, 0 ≤ q → q < 34 → 0 ≤ H q) (hs : jSum H 34 = 3 * w + 2) (h : yLack f7 f13 w H L v) (v1 : 1 ≤ v) (v14 : v ≤ 14) : ∃ q, 0 ≤ q ∧ q < 34 ∧ 1 ≤ H q ∧ ∀ v', yLack f7 f13 w (yUp H q (H q + -1)) L v' → v' = v := by
  have key : ∃ q, 0 ≤ q ∧ q < 34 ∧ 1 ≤ H q ∧ ∀ v', yLack f7 f13 w (yUp H q (H q + -1)) L v' → v' ≤ v := by
    obtain ⟨lw, l1, rfl⟩ := h
    obtain ⟨c1, -⟩ := yLk_c (f7 := f7) (f13 := f13) (w := w) (lw := lw) (H := H)
    rcases c1 with e | ⟨w4, f, e⟩ | ⟨w4, f, e⟩
    · obtain ⟨n, n1, n2⟩ := l1.2.1 (by omega)
      have nn : ∀ q : Int, 0 ≤ q → q < 34 → 0 ≤ n q := fun q q0 q4 => yTP_nn (by decide) 4 (Nat.le_refl _) _ _ n n1 q q0 (by omega) q4
      by_cases ex : ∃ q, 0 ≤ q ∧ q < 34 ∧ n q < H q
      · obtain ⟨q, q0, q4, hq⟩ := ex
        have := nn q q0 q4
        refine ⟨q, q0, q4, by omega, fun v' hv' => ?_⟩
        obtain ⟨lv, l2, rfl⟩ := hv'
        have up := yTC_up (H := yUp H q (H q + -1)) (n := n) q0 q4
        rw [yUp_back, yUp_at, if_neg (by omega)] at up
        have a := l2.2.2 _ ⟨n, n1, rfl⟩
        have b := yLk_le (f7 := f7) (f13 := f13) (w := w) (lw := lv) (H := yUp H q (H q + -1))
        omega
      · exfalso
        have all : ∀ q : Int, 0 ≤ q → q < 34 → H q ≤ n q := fun q q0 q4 => by
          by_cases z : n q < H q
          · exact absurd ⟨q, q0, q4, z⟩ ex
          · omega
        have := yTC_eq (by decide) all 4 34 (Nat.le_refl _) rfl _ _ n1
        omega
    · rw [e] at v1 ⊢
      obtain ⟨q, q0, q4, h1, h2⟩ := yKeep7 hH (by omega) v1
      refine ⟨q, q0, q4, h1, fun v' hv' => ?_⟩
      obtain ⟨lv, -, rfl⟩ := hv'
      rw [← h2]
      exact yLk_c.2.1 ⟨w4, f⟩
    · rw [e] at v1 ⊢
      obtain ⟨q, q0, q4, h1, h2⟩ := yKeep13 hH (by omega) v1
      refine ⟨q, q0, q4, h1, fun v' hv' => ?_⟩
      obtain ⟨lv, -, rfl⟩ := hv'
      rw [← h2]
      exact yLk_c.2.2.1 ⟨w4, f⟩
  obtain ⟨q, q0, q4, h1, h2⟩ := key
  refine ⟨q, q0, q4, h1, fun v' hv' => ?_⟩
  have a := h2 v' hv'
  have b := yLack_up (H := yUp H q (H q + -1)) q0 q4 (fun p p0 p4 => by
    by_cases e : p = q
    · subst e; rw [yUp_at]; omega
    · rw [yUp_o e]; exact hH p p0 p4) (by rw [yUp_sum q0 q4]; omega) hv' (by rw [yUp_back]; exact h)
  omega
end
