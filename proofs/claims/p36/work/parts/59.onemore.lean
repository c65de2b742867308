/-! ===== lacks: what one tile more does ===== -/
section
theorem yCo_cgH {H K : Int → Int} {r : Int} {n : Int → Int} (h : ∀ q : Int, q / 9 = r → H q = K q) : yCo H r n (yLn r) = yCo K r n (yLn r) := jSum_cg (fun j hj => by rw [h _ (by unfold yLn at hj; split at hj <;> omega)])
theorem yMx_1 {x : Int} : yMx (x - 1) = yMx x - (if 0 < x then 1 else 0) := by
  unfold yMx
  split <;> split <;> omega
/-- one tile more: a plan's tiles to come -/
theorem yCo_up {H : Int → Int} {r q : Int} {n : Int → Int} {i : Nat} (hq : ∀ j : Nat, j < i → 9 * r + (j : Int) ≠ q) : yCo (yUp H q (H q + 1)) r n i = yCo H r n i := jSum_cg (fun j hj => by rw [yUp_o (hq j hj)])
theorem yCo_up1 {H : Int → Int} {r q : Int} {n : Int → Int} {i k : Nat} (hk : k < i) (hq : 9 * r + (k : Int) = q) : yCo (yUp H q (H q + 1)) r n i = yCo H r n i - (if H q < n q then 1 else 0) := by
  have e := jSum_up (f := fun j => yMx (n (9 * r + j) - H (9 * r + j))) (g := fun j => yMx (n (9 * r + j) - yUp H q (H q + 1) (9 * r + j))) (n := i) (k := k) hk (fun j hj hne => by
    rw [yUp_o (by omega)])
  unfold yCo
  rw [e]
  rw [hq, yUp_at, show n q - (H q + 1) = n q - H q - 1 by omega, yMx_1]
  by_cases c : H q < n q
  · rw [if_pos (show 0 < n q - H q by omega), if_pos c]; omega
  · rw [if_neg (show ¬ 0 < n q - H q by omega), if_neg c]; omega
theorem yTC_up {H n : Int → Int} {q : Int} (q0 : 0 ≤ q) (q4 : q < 34) : yTC (yUp H q (H q + 1)) n 4 = yTC H n 4 - (if H q < n q then 1 else 0) := by
  rw [yTC4, yTC4]
  have k : q.toNat % 9 < yLn (q / 9) := by unfold yLn; split <;> omega
  have hk : 9 * (q / 9) + ((q.toNat % 9 : Nat) : Int) = q := by omega
  have one := yCo_up1 (H := H) (n := n) k hk
  have oth : ∀ r : Int, q / 9 ≠ r → yCo (yUp H q (H q + 1)) r n (yLn r) = yCo H r n (yLn r) := fun r hr => yCo_cgH (fun p hp => yUp_o (fun z => hr (by rw [← hp, z])))
  rcases (by omega : q / 9 = 0 ∨ q / 9 = 1 ∨ q / 9 = 2 ∨ q / 9 = 3) with e | e | e | e
  · rw [e] at one
    rw [one, oth 1 (by omega), oth 2 (by omega), oth 3 (by omega)]; omega
  · rw [e] at one
    rw [one, oth 0 (by omega), oth 2 (by omega), oth 3 (by omega)]; omega
  · rw [e] at one
    rw [one, oth 0 (by omega), oth 1 (by omega), oth 3 (by omega)]; omega
  · rw [e] at one
    rw [one, oth 0 (by omega), oth 1 (by omega), oth 2 (by omega)]; omega
/-- the lack of ways, one tile more -/
theorem yTC_14 {H L n : Int → Int} {w : Int} (hH : ∀ q : Int, 0 ≤ q → q < 34 → 0 ≤ H q) (h : yPn L w n) : yTC H n 4 ≤ 60 := by
  obtain ⟨g3, p3, ⟨g2, p2, ⟨g1, p1, ⟨g0, p0, ⟨z1, z2⟩, r0⟩, r1⟩, r2⟩, r3⟩ := h
  have b := fun (r : Nat) (hr : r < 4) (g p : Int) (k : yRw L r 4 g p n) => yCo_bd (H := H) (by decide) (fun j hj => hH _ (by omega) (by unfold yLn at hj; split at hj <;> omega)) k
  have b0 : yCo H 0 n (yLn 0) ≤ 14 := (b 0 (by decide) _ _ r0).2
  have b1 : yCo H 1 n (yLn 1) ≤ 14 := (b 1 (by decide) _ _ r1).2
  have b2 : yCo H 2 n (yLn 2) ≤ 14 := (b 2 (by decide) _ _ r2).2
  have b3 : yCo H 3 n (yLn 3) ≤ 14 := (b 3 (by decide) _ _ r3).2
  rw [yTC4]
  omega
theorem yLw_up {H L : Int → Int} {w q lw lv : Int} (hH : ∀ q : Int, 0 ≤ q → q < 34 → 0 ≤ H q) (q0 : 0 ≤ q) (q4 : q < 34) (h : yLE lw (fun c => ∃ n, yPn L w n ∧ c = yTC H n 4)) (k : yLE lv (fun c => ∃ n, yPn L w n ∧ c = yTC (yUp H q (H q + 1)) n 4)) : lw - 1 ≤ lv ∧ (lv = lw - 1 ↔ lw < 99 ∧ ∃ n, yPn L w n ∧ yTC H n 4 = lw ∧ H q < n q) ∧ lv ≤ lw := by
  obtain ⟨a1, a2, a3⟩ := h
  obtain ⟨b1, b2, b3⟩ := k
  have lo : lw - 1 ≤ lv := by
    by_cases e : lv < 99
    · obtain ⟨n, hn, hc⟩ := b2 e
      have := a3 _ ⟨n, hn, rfl⟩
      rw [yTC_up q0 q4] at hc
      have := y01 (c := H q < n q)
      omega
    · omega
  have hi : lv ≤ lw := by
    by_cases e : lw < 99
    · obtain ⟨n, hn, hc⟩ := a2 e
      have := b3 _ ⟨n, hn, rfl⟩
      rw [yTC_up q0 q4] at this
      have := y01 (c := H q < n q)
      omega
    · omega
  refine ⟨lo, ⟨fun e => ?_, ?_⟩, hi⟩
  · obtain ⟨n, hn, hc⟩ := b2 (by omega)
    have h1 := a3 _ ⟨n, hn, rfl⟩
    rw [yTC_up q0 q4] at hc
    by_cases c : H q < n q
    · rw [if_pos c] at hc
      refine ⟨?_, n, hn, by omega, c⟩
      by_cases z : lw < 99
      · exact z
      · -- no plan at all, then
        have : lw = 99 := by omega
        obtain ⟨n', hn', hc'⟩ := b2 (by omega)
        have := a3 _ ⟨n', hn', rfl⟩
        rw [yTC_up q0 q4] at hc'
        have c0 : yTC H n 4 = 99 := by omega
        -- a plan's tiles are at most fourteen
        exfalso
        have := yTC_14 hH hn
        omega
    · rw [if_neg c] at hc; omega
  · rintro ⟨e, n, hn, hc, c⟩
    have := b3 _ ⟨n, hn, rfl⟩
    rw [yTC_up q0 q4, if_pos c, hc] at this
    omega
/-- what helps seven pairs, outer ones -/
abbrev yh7 (H : Int → Int) (q : Int) : Prop := H q = 1 ∨ H q = 0 ∧ yUn H < 7
abbrev yh13 (H : Int → Int) (q : Int) : Prop := yO q ∧ H q < (if 0 < yOq H then 1 else 2)
theorem yc_up {P Q : Int → Prop} [DecidablePred P] [DecidablePred Q] {q : Int} (q0 : 0 ≤ q) (q4 : q < 34) (h : ∀ p : Int, 0 ≤ p → p < 34 → p ≠ q → (P p ↔ Q p)) : jSum (fun p => if Q p then (1 : Int) else 0) 34 = jSum (fun p => if P p then (1 : Int) else 0) 34 + ((if Q q then 1 else 0) - (if P q then 1 else 0)) := by
  have e := jSum_up (f := fun p => if P p then (1 : Int) else 0) (g := fun p => if Q p then (1 : Int) else 0) (n := 34) (k := q.toNat) (by omega) (fun i hi hne => by
    have := h i (by omega) (by omega) (by omega)
    by_cases c : P i
    · rw [if_pos c, if_pos (this.mp c)]
    · rw [if_neg c, if_neg (fun z => c (this.mpr z))])
  rw [show ((q.toNat : Nat) : Int) = q by omega] at e
  exact e
theorem yL7_up {H : Int → Int} {q : Int} (q0 : 0 ≤ q) (q4 : q < 34) (hH : ∀ p : Int, 0 ≤ p → p < 34 → 0 ≤ H p) (hs : jSum H 34 ≤ 14) : yL7 H - 1 ≤ yL7 (yUp H q (H q + 1)) ∧ yL7 (yUp H q (H q + 1)) ≤ yL7 H ∧ (yL7 (yUp H q (H q + 1)) = yL7 H - 1 ↔ yh7 H q) := by
  have hq := hH q q0 q4
  have eP : yPr (yUp H q (H q + 1)) = yPr H + ((if 2 ≤ H q + 1 then 1 else 0) - (if 2 ≤ H q then 1 else 0)) := by
    have := yc_up (P := fun p => 2 ≤ H p) (Q := fun p => 2 ≤ yUp H q (H q + 1) p) q0 q4 (fun p p0 p4 hne => by rw [yUp_o hne])
    rw [yUp_at] at this
    exact this
  have eU : yUn (yUp H q (H q + 1)) = yUn H + ((if 1 ≤ H q + 1 then 1 else 0) - (if 1 ≤ H q then 1 else 0)) := by
    have := yc_up (P := fun p => 1 ≤ H p) (Q := fun p => 1 ≤ yUp H q (H q + 1) p) q0 q4 (fun p p0 p4 hne => by rw [yUp_o hne])
    rw [yUp_at] at this
    exact this
  have pu : yPr H ≤ yUn H := jSum_le (fun i hi => by split <;> split <;> omega)
  -- seven pairs and one more are fifteen
  have p7 : H q = 1 → yPr H < 7 := by
    intro e
    have le := jSum_le (f := fun p => 2 * (if 2 ≤ H p then (1 : Int) else 0) + (if p = q then 1 else 0)) (g := H) (n := 34) (fun i hi => by
      have := hH i (by omega) (by omega)
      by_cases ei : (i : Int) = q
      · rw [if_pos ei, ei, if_neg (by omega)]; omega
      · rw [if_neg ei]; split <;> omega)
    rw [jSum_add (f := fun p => 2 * (if 2 ≤ H p then (1 : Int) else 0)) (g := fun p => if p = q then (1 : Int) else 0) 34, jSum_2 (f := fun p => if 2 ≤ H p then (1 : Int) else 0), jSum_one, if_pos (by omega)] at le
    have : yPr H = jSum (fun p => if 2 ≤ H p then (1 : Int) else 0) 34 := rfl
    omega
  unfold yL7
  rw [eP, eU]
  unfold yh7
  clear eP eU
  generalize yPr H = a at pu p7 ⊢
  generalize yUn H = b at pu ⊢
  by_cases c0 : H q = 0
  · rw [if_neg (show ¬ 2 ≤ H q + 1 by omega), if_neg (show ¬ 2 ≤ H q by omega), if_pos (show 1 ≤ H q + 1 by omega), if_neg (show ¬ 1 ≤ H q by omega)]
    unfold jmin
    refine ⟨?_, ?_, ?_⟩ <;> split <;> split <;> (try split) <;> (try split) <;> omega
  · by_cases c1 : H q = 1
    · have := p7 c1
      rw [if_pos (show 2 ≤ H q + 1 by omega), if_neg (show ¬ 2 ≤ H q by omega), if_pos (show 1 ≤ H q + 1 by omega), if_pos (show 1 ≤ H q by omega)]
      unfold jmin
      refine ⟨?_, ?_, ?_⟩ <;> split <;> split <;> (try split) <;> (try split) <;> omega
    · rw [if_pos (show 2 ≤ H q + 1 by omega), if_pos (show 2 ≤ H q by omega), if_pos (show 1 ≤ H q + 1 by omega), if_pos (show 1 ≤ H q by omega)]
      unfold jmin
      refine ⟨?_, ?_, ?_⟩ <;> split <;> split <;> (try split) <;> (try split) <;> omega
theorem yL13_up {H : Int → Int} {q : Int} (q0 : 0 ≤ q) (q4 : q < 34) (hH : ∀ p : Int, 0 ≤ p → p < 34 → 0 ≤ H p) : yL13 H - 1 ≤ yL13 (yUp H q (H q + 1)) ∧ yL13 (yUp H q (H q + 1)) ≤ yL13 H ∧ (yL13 (yUp H q (H q + 1)) = yL13 H - 1 ↔ yh13 H q) := by
  have hq := hH q q0 q4
  have eU : yOu (yUp H q (H q + 1)) = yOu H + ((if yO q ∧ 1 ≤ H q + 1 then 1 else 0) - (if yO q ∧ 1 ≤ H q then 1 else 0)) := by
    have := yc_up (P := fun p => yO p ∧ 1 ≤ H p) (Q := fun p => yO p ∧ 1 ≤ yUp H q (H q + 1) p) q0 q4 (fun p p0 p4 hne => by rw [yUp_o hne])
    rw [yUp_at] at this
    exact this
  have eQ : yOq (yUp H q (H q + 1)) = yOq H + ((if yO q ∧ 2 ≤ H q + 1 then 1 else 0) - (if yO q ∧ 2 ≤ H q then 1 else 0)) := by
    have := yc_up (P := fun p => yO p ∧ 2 ≤ H p) (Q := fun p => yO p ∧ 2 ≤ yUp H q (H q + 1) p) q0 q4 (fun p p0 p4 hne => by rw [yUp_o hne])
    rw [yUp_at] at this
    exact this
  have nn : 0 ≤ yOq H := (yc_bd (P := fun p => yO p ∧ 2 ≤ H p) 34).1
  have q2 : yO q → 2 ≤ H q → 1 ≤ yOq H := fun o h2 => by
    have le := jSum_ge (f := fun p => if yO p ∧ 2 ≤ H p then (1 : Int) else 0) (n := 34) (fun i hi => y01.1) (k := q.toNat) (by omega)
    rw [show ((q.toNat : Nat) : Int) = q by omega, if_pos ⟨o, h2⟩] at le
    exact le
  unfold yL13
  rw [eU, eQ]
  obtain ⟨a, ha⟩ : ∃ a, a = yOu H := ⟨_, rfl⟩
  obtain ⟨b, hb⟩ : ∃ b, b = yOq H := ⟨_, rfl⟩
  unfold yh13
  rw [← ha, ← hb]
  rw [← hb] at nn q2
  by_cases o : yO q
  · by_cases c0 : H q = 0
    · rw [if_pos (show yO q ∧ 1 ≤ H q + 1 from ⟨o, by omega⟩), if_neg (show ¬ (yO q ∧ 1 ≤ H q) from fun z => by have := z.2; omega), if_neg (show ¬ (yO q ∧ 2 ≤ H q + 1) from fun z => by have := z.2; omega), if_neg (show ¬ (yO q ∧ 2 ≤ H q) from fun z => by have := z.2; omega)]
      rw [show b + (0 - 0) = b by omega]
      by_cases e : 0 < b
      · rw [if_pos e, if_pos e]; exact ⟨by omega, by omega, fun _ => ⟨o, by omega⟩, fun _ => by omega⟩
      · rw [if_neg e, if_neg e]; exact ⟨by omega, by omega, fun _ => ⟨o, by omega⟩, fun _ => by omega⟩
    · by_cases c1 : H q = 1
      · rw [if_pos (show yO q ∧ 1 ≤ H q + 1 from ⟨o, by omega⟩), if_pos (show (yO q ∧ 1 ≤ H q) from ⟨o, by omega⟩), if_pos (show (yO q ∧ 2 ≤ H q + 1) from ⟨o, by omega⟩), if_neg (show ¬ (yO q ∧ 2 ≤ H q) from fun z => by have := z.2; omega)]
        rw [if_pos (show 0 < b + (1 - 0) by omega)]
        by_cases e : 0 < b
        · rw [if_pos e, if_pos e]; exact ⟨by omega, by omega, fun z => by omega, fun z => by have := z.2; omega⟩
        · rw [if_neg e, if_neg e]; exact ⟨by omega, by omega, fun _ => ⟨o, by omega⟩, fun _ => by omega⟩
      · have := q2 o (by omega)
        rw [if_pos (show yO q ∧ 1 ≤ H q + 1 from ⟨o, by omega⟩), if_pos (show (yO q ∧ 1 ≤ H q) from ⟨o, by omega⟩), if_pos (show (yO q ∧ 2 ≤ H q + 1) from ⟨o, by omega⟩), if_pos (show (yO q ∧ 2 ≤ H q) from ⟨o, by omega⟩)]
        rw [if_pos (show 0 < b + (1 - 1) by omega), if_pos (show 0 < b by omega), if_pos (show 0 < b by omega)]
        exact ⟨by omega, by omega, fun z => by omega, fun z => by have := z.2; omega⟩
  · rw [if_neg (show ¬ (yO q ∧ 1 ≤ H q + 1) from fun z => o z.1), if_neg (show ¬ (yO q ∧ 1 ≤ H q) from fun z => o z.1), if_neg (show ¬ (yO q ∧ 2 ≤ H q + 1) from fun z => o z.1), if_neg (show ¬ (yO q ∧ 2 ≤ H q) from fun z => o z.1)]
    rw [show b + (0 - 0) = b by omega]
    refine ⟨by omega, by omega, fun z => by omega, fun z => absurd z.1 o⟩
/-- what helps: the class's picture of it -/
def yHc (f7 f13 w : Int) (H L : Int → Int) (v q : Int) : Prop := (∃ n, yPn L w n ∧ yTC H n 4 = v ∧ H q < n q) ∨ (w = 4 ∧ f7 ≠ 0 ∧ yL7 H = v ∧ yh7 H q) ∨ (w = 4 ∧ f13 ≠ 0 ∧ yL13 H = v ∧ yh13 H q)
theorem yLk_le {f7 f13 w lw : Int} {H : Int → Int} : yLk f7 f13 w lw H ≤ lw := by
  unfold yLk
  have a : (if w = 4 ∧ f7 ≠ 0 ∧ yL7 H < lw then yL7 H else lw) ≤ lw := by
    by_cases c : w = 4 ∧ f7 ≠ 0 ∧ yL7 H < lw
    · rw [if_pos c]; have := c.2.2; omega
    · rw [if_neg c]; omega
  generalize (if w = 4 ∧ f7 ≠ 0 ∧ yL7 H < lw then yL7 H else lw) = m at a ⊢
  by_cases c : w = 4 ∧ f13 ≠ 0 ∧ yL13 H < m
  · rw [if_pos c]; have := c.2.2; omega
  · rw [if_neg c]; exact a
theorem yHelp {f7 f13 w : Int} {H L : Int → Int} {v v' q : Int} (q0 : 0 ≤ q) (q4 : q < 34) (hH : ∀ p : Int, 0 ≤ p → p < 34 → 0 ≤ H p) (hs : jSum H 34 ≤ 14) (h : yLack f7 f13 w H L v) (k : yLack f7 f13 w (yUp H q (H q + 1)) L v') : v' = v - 1 ↔ yHc f7 f13 w H L v q := by
  obtain ⟨lw, l1, rfl⟩ := h
  obtain ⟨lv, l2, rfl⟩ := k
  obtain ⟨w1, w2, w3⟩ := yLw_up hH q0 q4 l1 l2
  obtain ⟨s1, s2, s3⟩ := yL7_up q0 q4 hH hs
  obtain ⟨o1, o2, o3⟩ := yL13_up q0 q4 hH
  have first : (∃ n, yPn L w n ∧ yTC H n 4 = yLk f7 f13 w lw H ∧ H q < n q) ↔ (lw = yLk f7 f13 w lw H ∧ lv = lw - 1) := by
    constructor
    · rintro ⟨n, a, b, c⟩
      have le := l1.2.2 _ ⟨n, a, rfl⟩
      have le2 := yLk_le (f7 := f7) (f13 := f13) (w := w) (lw := lw) (H := H)
      have e14 := yTC_14 hH a
      exact ⟨by omega, w2.mpr ⟨by omega, n, a, by omega, c⟩⟩
    · rintro ⟨e, f⟩
      obtain ⟨-, n, a, b, c⟩ := w2.mp f
      exact ⟨n, a, by omega, c⟩
  unfold yHc
  rw [first, ← s3, ← o3]
  clear first s3 o3 w2 l1 l2
  unfold yLk
  generalize yL7 (yUp H q (H q + 1)) = a' at s1 s2 ⊢
  generalize yL13 (yUp H q (H q + 1)) = b' at o1 o2 ⊢
  generalize yL7 H = a at s1 s2 ⊢
  generalize yL13 H = b at o1 o2 ⊢
  by_cases c4 : w = 4
  · by_cases c7 : f7 = 0
    · by_cases c13 : f13 = 0
      · simp only [c4, c7, c13, ne_eq, not_true, false_and, and_false, if_false, or_false, true_and]
      · simp only [c4, c7, c13, ne_eq, not_true, not_false_eq_true, true_and, false_and, and_false, if_false, or_false, false_or]
        split <;> split <;> omega
    · by_cases c13 : f13 = 0
      · simp only [c4, c7, c13, ne_eq, not_true, not_false_eq_true, true_and, false_and, and_false, if_false, or_false, false_or]
        split <;> split <;> omega
      · simp only [c4, c7, c13, ne_eq, not_true, not_false_eq_true, true_and, false_and, and_false, if_false, or_false, false_or]
        split <;> split <;> (try split) <;> (try split) <;> omega
  · simp only [c4, false_and, if_false, or_false, true_and]
theorem yHc_4 {f7 f13 w : Int} {H L : Int → Int} {v q : Int} (q0 : 0 ≤ q) (q4 : q < 34) (hL : w = 4 → ∀ p : Int, 0 ≤ p → p < 34 → L p = 0) (h : yHc f7 f13 w H L v q) : H q + L q < 4 := by
  rcases h with ⟨n, hn, -, hq⟩ | ⟨e, -, -, hq⟩ | ⟨e, -, -, hq⟩
  · have key : ∀ (r : Nat) (g p : Int), r < 4 → yRw L r 4 g p n → q / 9 = r → n q + L q ≤ 4 := by
      intro r g p hr hrw hqr
      have all : ∀ (i : Nat) (a b g p : Int), yRP L r 4 i a b g p n → ∀ j : Nat, j < i → n (9 * (r : Int) + j) + L (9 * (r : Int) + j) ≤ 4 := by
        intro i
        induction i with
        | zero => intro _ _ _ _ _ j hj; omega
        | succ i ih =>
          intro a b g p ⟨c, t, q', h1, h2, h3, h4, h5, h6, h7, h8, h9⟩ j hj
          by_cases e : j = i
          · subst e; exact h9
          · exact ih _ _ _ _ h1 j (by omega)
      have := all _ _ _ _ _ hrw (q.toNat % 9) (by unfold yLn; split <;> omega)
      rw [show 9 * (r : Int) + ((q.toNat % 9 : Nat) : Int) = q by omega] at this
      exact this
    obtain ⟨g3, p3, ⟨g2, p2, ⟨g1, p1, ⟨g0, p0, ⟨z1, z2⟩, r0⟩, r1⟩, r2⟩, r3⟩ := hn
    rcases (by omega : q / 9 = 0 ∨ q / 9 = 1 ∨ q / 9 = 2 ∨ q / 9 = 3) with e | e | e | e
    · have := key 0 _ _ (by decide) r0 e; omega
    · have := key 1 _ _ (by decide) r1 e; omega
    · have := key 2 _ _ (by decide) r2 e; omega
    · have := key 3 _ _ (by decide) r3 e; omega
  · have := hL e q q0 q4
    rcases hq with z | z <;> omega
  · have := hL e q q0 q4
    have := hq.2
    split at this <;> omega
end
