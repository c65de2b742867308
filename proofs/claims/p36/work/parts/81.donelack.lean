/-! ===== odds: done is a lack of none, told ===== -/
section
theorem yTC_0 {H n : Int → Int} : ∀ R : Nat, R ≤ 4 → yTC H n R = 0 → ∀ q : Int, 0 ≤ q → q < 9 * (R : Int) → q < 34 → n q ≤ H q := by
  intro R
  induction R with
  | zero => intro _ _ q q0 q1 _; omega
  | succ R ih =>
    intro hR h q q0 q1 q4
    simp only [yTC] at h
    have a := yTC_nn (H := H) (n := n) R
    have b := yCo_nn (H := H) (n := n) (r := (R : Int)) (i := yLn (R : Int))
    by_cases e : q < 9 * (R : Int)
    · exact ih (by omega) (by omega) q q0 e q4
    · have k := jSum_ge (f := fun j => yMx (n (9 * (R : Int) + j) - H (9 * (R : Int) + j))) (n := yLn (R : Int)) (fun i hi => yMx_bd.1) (k := (q - 9 * R).toNat) (by unfold yLn; split <;> omega)
      rw [show 9 * (R : Int) + ((q - 9 * R).toNat : Int) = q by omega] at k
      have m := (yMx_bd (x := n q - H q)).2
      have z : jSum (fun j => yMx (n (9 * (R : Int) + j) - H (9 * (R : Int) + j))) (yLn (R : Int)) = yCo H R n (yLn R) := rfl
      omega
theorem yTC_self {n : Int → Int} : yTC n n 4 = 0 := by
  have z : ∀ r : Int, yCo n r n (yLn r) = 0 := fun r => by
    unfold yCo
    exact jSum_zero (fun i hi => by rw [Int.sub_self]; rfl)
  rw [yTC4, z, z, z, z]; rfl
theorem yPn_sum {L n : Int → Int} {w : Int} (h : yPn L w n) : jSum n 34 = 3 * w + 2 := by
  have := yTC_eq (H := n) (by decide) (fun _ _ _ => Int.le_refl _) 4 34 (Nat.le_refl _) rfl _ _ h
  rw [yTC_self] at this
  omega
theorem yDone_lack {f7 f13 v : Int} {w : Nat} {L h : Int → Int} (hf : yFull w h) (hHL : ∀ q : Int, 0 ≤ q → q < 34 → 0 ≤ L q ∧ h q + L q ≤ 4) (hr : yRoom L) (yl : yLack f7 f13 (w : Int) h L v) : 0 ≤ v ∧ (0 < yDone f7 f13 w h ↔ v = 0) := by
  obtain ⟨w4, hH, hs⟩ := id hf
  have bd := yLack_bd ⟨by omega, by omega⟩ hH (fun q q0 q4 => by have := hHL q q0 q4; have := hH q q0 q4; omega) hr yl
  have v0 : 0 ≤ v := by omega
  refine ⟨v0, ?_⟩
  obtain ⟨lw, l1, rfl⟩ := yl
  obtain ⟨c1, c2, c3, c4⟩ := yLk_c (f7 := f7) (f13 := f13) (w := (w : Int)) (lw := lw) (H := h)
  have dcp : 0 < (yAll h w 34).length ↔ lw ≤ 0 := by
    rw [yAll_dc hf]
    constructor
    · rintro ⟨p, A, T, p0, p4, h2, hd⟩
      have pl := yDc_plan w4 p0 p4 h2 hd (fun q q0 q4 => ⟨(hHL q q0 q4).1, hH q q0 q4, (hHL q q0 q4).2⟩)
      have := l1.2.2 _ ⟨h, pl, rfl⟩
      rw [yTC_self] at this
      exact this
    · intro k
      obtain ⟨n, n1, n2⟩ := l1.2.1 (by omega)
      have t0 := yTC_nn (H := h) (n := n) 4
      have le := yTC_0 4 (Nat.le_refl _) (by omega) (H := h) (n := n)
      have sm := yPn_sum n1
      have eq := jSum_pt (f := n) (g := h) (n := 34) (fun i hi => le i (by omega) (by omega) (by omega)) (by omega)
      have eq2 : ∀ q : Int, 0 ≤ q → q < 34 → n q = h q := fun q q0 q4 => by
        have := eq q.toNat (by omega)
        rw [show ((q.toNat : Nat) : Int) = q by omega] at this
        exact this
      obtain ⟨p, A, T, p0, p4, h2, hd⟩ := yPlan_dc n1
      exact ⟨p, A, T, p0, p4, by rw [← eq2 p p0 p4]; exact h2, yDc_cg (fun q q0 q4 => by unfold yP; rw [eq2 q q0 q4]) hd⟩
  have w44 : (w : Int) = 4 ↔ w = 4 := by omega
  unfold yDone
  by_cases a : 0 < (yAll h w 34).length
  · rw [if_pos a]
    have := dcp.mp a
    exact ⟨fun _ => by omega, fun _ => by decide⟩
  · rw [if_neg a]
    have na : ¬ lw ≤ 0 := fun z => a (dcp.mpr z)
    by_cases b : f7 ≠ 0 ∧ w = 4 ∧ yL7 h = 0
    · rw [if_pos b]
      have := c2 ⟨w44.mpr b.2.1, b.1⟩
      exact ⟨fun _ => by omega, fun _ => by decide⟩
    · rw [if_neg b]
      by_cases c : f13 ≠ 0 ∧ w = 4 ∧ yL13 h = 0
      · rw [if_pos c]
        have := c3 ⟨w44.mpr c.2.1, c.1⟩
        exact ⟨fun _ => by omega, fun _ => by decide⟩
      · rw [if_neg c]
        refine ⟨fun z => absurd z (by decide), fun z => ?_⟩
        exfalso
        rcases c1 with d | ⟨x, y, d⟩ | ⟨x, y, d⟩
        · omega
        · exact b ⟨y, w44.mp x, by omega⟩
        · exact c ⟨y, w44.mp x, by omega⟩
end
