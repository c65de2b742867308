/-! ===== ways: no hand has more than eight ===== -/
section
theorem jSum_z {H : Int → Int} (hH : ∀ q : Int, 0 ≤ q → q < 34 → 0 ≤ H q) (h : jSum H 34 ≤ 0) : ∀ q : Int, 0 ≤ q → q < 34 → H q = 0 := by
  intro q q0 q4
  have z := jSum_le (f := fun p => if p = q then H q else 0) (g := H) (n := 34) (fun i hi => by
    have := hH i (by omega) (by omega)
    by_cases e : (i : Int) = q
    · rw [if_pos e, e]; omega
    · rw [if_neg e]; exact this)
  have k := jSum_one q (H q) 34
  rw [if_pos (by omega)] at k
  have := hH q q0 q4
  omega
/-- what runs and threes leave alone -/
def yWt (g : Int → Int) : Prop := ∀ s : Int, 0 ≤ s → s < 27 → s % 9 ≤ 6 → (g s + g (s + 1) + g (s + 2)) % 3 = 0
theorem yV_mod {g : Int → Int} (hg : yWt g) : ∀ (w : Nat) (H : Int → Int) (f rf : Int), yOk w H → 0 ≤ f → f ≤ 34 → yV w H f rf ≠ [] → jSum (fun q => g q * H q) 34 % 3 = 0 := by
  intro w
  induction w with
  | zero =>
    intro H f rf hok _ _ _
    have z := jSum_z hok.1 (by have := hok.2; omega)
    rw [jSum_cg (g := fun _ => 0) (fun i hi => by rw [z i (by omega) (by omega), Int.mul_zero]), jSum_0]
    rfl
  | succ w ih =>
    intro H f rf hok f0 f34 hne
    obtain ⟨a, b, c, d⟩ := yFs_p H f34
    obtain ⟨s, hs⟩ : ∃ s, s = yFs H f := ⟨_, rfl⟩
    rw [← hs] at a b c d
    by_cases e : 34 ≤ s
    · rw [yV_e w H f rf (by omega)] at hne
      exact absurd rfl hne
    · have s4 : s < 34 := by omega
      have s0 : 0 ≤ s := by omega
      have hn := d s4
      rw [yV_s w H f rf hs s4] at hne
      by_cases k1 : (if 3 ≤ H s ∧ s ≠ rf then (yV w (yT H s) s (-1)).map (fun c => (200 + s) :: c) else []) = []
      · rw [k1, List.nil_append] at hne
        by_cases k2 : yCr H s
        · rw [if_pos k2] at hne
          have hc1 := k2.1
          have r := ih (yR H s) s s (yOk_R hok s0 hn k2) s0 (by omega) (fun z => by rw [z] at hne; exact hne rfl)
          have m := hg s s0 hc1.1 hc1.2
          rw [jSum_wR ⟨s0, by omega⟩] at r
          omega
        · rw [if_neg k2] at hne; exact absurd rfl hne
      · by_cases k3 : 3 ≤ H s ∧ s ≠ rf
        · rw [if_pos k3] at k1
          have r := ih (yT H s) s (-1) (yOk_T hok ⟨s0, s4⟩ k3.1) s0 (by omega) (fun z => by rw [z] at k1; exact k1 rfl)
          rw [jSum_wT ⟨s0, s4⟩] at r
          omega
        · rw [if_neg k3] at k1; exact absurd rfl k1
/-- a pair taken away -/
def yP (h : Int → Int) (p : Int) : Int → Int := fun q => if q = p then h q - 2 else h q
theorem jSum_wP {g h : Int → Int} {p : Int} (hp : 0 ≤ p ∧ p < 34) : jSum (fun q => g q * yP h p q) 34 = jSum (fun q => g q * h q) 34 - 2 * g p := by
  have e : jSum (fun q => g q * yP h p q) 34 = jSum (fun q => g q * (h q - (if q = p then 2 else 0))) 34 := jSum_cg (fun i hi => by
    unfold yP
    by_cases e : (i : Int) = p
    · rw [if_pos e, if_pos e]
    · rw [if_neg e, if_neg e, Int.sub_zero])
  have k := jSum_one p (2 * g p) 34
  rw [if_pos (by omega)] at k
  rw [e, jSum_w (K := fun q => if q = p then 2 else 0), ← k]
  congr 1
  exact jSum_cg (fun i hi => by
    by_cases e : (i : Int) = p
    · rw [if_pos e, if_pos e, e, Int.mul_comm]
    · rw [if_neg e, if_neg e, Int.mul_zero])
theorem jSum_P {h : Int → Int} {p : Int} (hp : 0 ≤ p ∧ p < 34) : jSum (yP h p) 34 = jSum h 34 - 2 := by
  have := jSum_wP (g := fun _ => 1) (h := h) hp
  simp only [Int.one_mul, Int.mul_one] at this
  exact this
/-- a full hand's tiles -/
def yFull (w : Nat) (h : Int → Int) : Prop := w ≤ 4 ∧ (∀ q : Int, 0 ≤ q → q < 34 → 0 ≤ h q) ∧ jSum h 34 = 3 * (w : Int) + 2
theorem yFull_P {w : Nat} {h : Int → Int} {p : Int} (hf : yFull w h) (hp : 0 ≤ p ∧ p < 34) (h2 : 2 ≤ h p) : yOk w (yP h p) := by
  refine ⟨fun q q0 q4 => ?_, ?_⟩
  · have := hf.2.1 q q0 q4
    unfold yP
    by_cases e : q = p
    · subst e; rw [if_pos rfl]; omega
    · rw [if_neg e]; exact this
  · rw [jSum_P hp, hf.2.2]; omega
/-- the ways with a pair, with any of the first n pairs -/
def yL (h : Int → Int) (w : Nat) (p : Int) : List (List Int) := if 2 ≤ h p then (yV w (yP h p) 0 (-1)).map (fun c => p :: c) else []
def yAll (h : Int → Int) (w : Nat) : Nat → List (List Int)
  | 0 => []
  | n + 1 => yAll h w n ++ yL h w n
/-- the row sums -/
def yRs (h : Int → Int) (r : Int) : Int := jSum (fun q => (if q / 9 = r then 1 else 0) * h q) 34
theorem yWt_row (r : Int) : yWt (fun q => if q / 9 = r then 1 else 0) := by
  intro s s0 s27 s6
  dsimp only
  rw [show (s + 1) / 9 = s / 9 by omega, show (s + 2) / 9 = s / 9 by omega]
  by_cases e : s / 9 = r
  · rw [if_pos e]; rfl
  · rw [if_neg e]; rfl
theorem yWt_id : yWt (fun q => q) := by
  intro s s0 s27 s6
  dsimp only
  omega
theorem yL_mod {w : Nat} {h : Int → Int} {p : Int} (hf : yFull w h) (hp : 0 ≤ p ∧ p < 34) (hne : yL h w p ≠ []) : 2 ≤ h p ∧ (∀ r : Int, (yRs h r - (if p / 9 = r then 2 else 0)) % 3 = 0) ∧ (jSum (fun q => q * h q) 34 - 2 * p) % 3 = 0 := by
  unfold yL at hne
  by_cases h2 : 2 ≤ h p
  · rw [if_pos h2] at hne
    have ok := yFull_P hf hp h2
    have ne : yV w (yP h p) 0 (-1) ≠ [] := fun z => by rw [z] at hne; exact hne rfl
    refine ⟨h2, fun r => ?_, ?_⟩
    · have m := yV_mod (yWt_row r) w (yP h p) 0 (-1) ok (by omega) (by omega) ne
      rw [jSum_wP hp] at m
      unfold yRs
      by_cases e : p / 9 = r
      · rw [if_pos e] at m ⊢; exact m
      · rw [if_neg e] at m ⊢; exact m
    · have m := yV_mod yWt_id w (yP h p) 0 (-1) ok (by omega) (by omega) ne
      rw [jSum_wP hp] at m
      exact m
  · rw [if_neg h2] at hne; exact absurd rfl hne
theorem yL_len {w : Nat} {h : Int → Int} {p : Int} (hf : yFull w h) (hp : 0 ≤ p ∧ p < 34) : (yL h w p).length ≤ 3 ∧ ((yL h w p).length = 3 → ∀ q : Int, 0 ≤ q → q < 34 → yP h p q % 3 = 0) := by
  unfold yL
  by_cases h2 : 2 ≤ h p
  · rw [if_pos h2, List.length_map]
    obtain ⟨a, b, c, d⟩ := yV_len w hf.1 (yP h p) 0 (-1) (yFull_P hf hp h2) (by omega) (by omega)
    refine ⟨c, fun z => d (Or.inr ⟨?_, z⟩)⟩
    have := hf.1
    by_cases e : w ≤ 2
    · have := a e; omega
    · by_cases e3 : w = 3
      · have := b e3; omega
      · omega
  · rw [if_neg h2]
    refine ⟨by simp, fun z => by simp at z⟩
theorem yAll_len (h : Int → Int) (w : Nat) : ∀ n : Nat, ((yAll h w n).length : Int) = jSum (fun p => ((yL h w p).length : Int)) n := by
  intro n
  induction n with
  | zero => rfl
  | succ n ih =>
    simp only [yAll, jSum, List.length_append]
    rw [← ih]; omega
theorem yAll_8 {w : Nat} {h : Int → Int} (hf : yFull w h) : (yAll h w 34).length ≤ 8 := by
  have e := yAll_len h w 34
  by_cases none : ∀ p : Int, 0 ≤ p → p < 34 → yL h w p = []
  · rw [jSum_cg (g := fun _ => 0) (fun i hi => by rw [none i (by omega) (by omega)]; rfl), jSum_0] at e
    omega
  · have ⟨p0, h0⟩ : ∃ p : Int, ¬ (0 ≤ p → p < 34 → yL h w p = []) := by
      exact Classical.not_forall.mp none
    have hp0 : 0 ≤ p0 ∧ p0 < 34 ∧ yL h w p0 ≠ [] := by
      refine ⟨?_, ?_, ?_⟩
      · exact Decidable.byContradiction (fun z => h0 (fun a => absurd a z))
      · exact Decidable.byContradiction (fun z => h0 (fun _ a => absurd a z))
      · exact fun z => h0 (fun _ _ => z)
    obtain ⟨p00, p04, pne⟩ := hp0
    obtain ⟨-, r0, m0⟩ := yL_mod hf ⟨p00, p04⟩ pne
    obtain ⟨M, hM⟩ : ∃ M, M = jSum (fun q => q * h q) 34 := ⟨_, rfl⟩
    rw [← hM] at m0
    have same : ∀ p : Int, 0 ≤ p → p < 34 → yL h w p ≠ [] → p / 9 = p0 / 9 ∧ p % 3 = p0 % 3 := by
      intro p q0 q4 ne
      obtain ⟨-, r1, m1⟩ := yL_mod hf ⟨q0, q4⟩ ne
      rw [← hM] at m1
      have a := r0 (p0 / 9)
      have b := r1 (p0 / 9)
      rw [if_pos rfl] at a
      obtain ⟨Y, hY⟩ : ∃ Y, Y = yRs h (p0 / 9) := ⟨_, rfl⟩
      rw [← hY] at a b
      refine ⟨?_, by omega⟩
      by_cases e : p / 9 = p0 / 9
      · exact e
      · rw [if_neg e] at b; omega
    obtain ⟨a, ha⟩ : ∃ a : Int, a = 9 * (p0 / 9) + p0 % 3 := ⟨_, rfl⟩
    have cand : ∀ p : Int, 0 ≤ p → p < 34 → p ≠ a → p ≠ a + 3 → p ≠ a + 6 → yL h w p = [] := by
      intro p q0 q4 n0 n1 n2
      by_cases ne : yL h w p = []
      · exact ne
      · have := same p q0 q4 ne
        omega
    have k0 := jSum_one a ((yL h w a).length : Int) 34
    have k1 := jSum_one (a + 3) ((yL h w (a + 3)).length : Int) 34
    have k2 := jSum_one (a + 6) ((yL h w (a + 6)).length : Int) 34
    have le := jSum_le (f := fun p => ((yL h w p).length : Int)) (g := fun p => (if p = a then ((yL h w a).length : Int) else 0) + ((if p = a + 3 then ((yL h w (a + 3)).length : Int) else 0) + (if p = a + 6 then ((yL h w (a + 6)).length : Int) else 0))) (n := 34) (fun i hi => by
      by_cases e0 : (i : Int) = a
      · rw [if_pos e0, if_neg (by omega), if_neg (by omega), e0]; omega
      · by_cases e1 : (i : Int) = a + 3
        · rw [if_neg e0, if_pos e1, if_neg (by omega), e1]; omega
        · by_cases e2 : (i : Int) = a + 6
          · rw [if_neg e0, if_neg e1, if_pos e2, e2]; omega
          · rw [cand i (by omega) (by omega) e0 e1 e2, if_neg e0, if_neg e1, if_neg e2]
            exact Int.le_refl 0)
    rw [← e, jSum_add (f := fun p => if p = a then ((yL h w a).length : Int) else 0) (g := fun p => (if p = a + 3 then ((yL h w (a + 3)).length : Int) else 0) + (if p = a + 6 then ((yL h w (a + 6)).length : Int) else 0)) 34, jSum_add (f := fun p => if p = a + 3 then ((yL h w (a + 3)).length : Int) else 0) (g := fun p => if p = a + 6 then ((yL h w (a + 6)).length : Int) else 0) 34, k0, k1, k2] at le
    have one : ∀ x y : Int, 0 ≤ x → x < 34 → 0 ≤ y → y < 34 → x ≠ y → (yL h w x).length = 3 → (yL h w y).length = 3 → False := by
      intro x y x0 x4 y0 y4 ne hx hy
      have c1 := (yL_len hf ⟨x0, x4⟩).2 hx x x0 x4
      have c2 := (yL_len hf ⟨y0, y4⟩).2 hy x x0 x4
      unfold yP at c1 c2
      rw [if_pos rfl] at c1
      rw [if_neg ne] at c2
      omega
    have b : ∀ x : Int, 0 ≤ x → x < 34 → (yL h w x).length ≤ 3 := fun x x0 x4 => (yL_len hf ⟨x0, x4⟩).1
    by_cases i0 : 0 ≤ a ∧ a < 34
    · by_cases i1 : 0 ≤ a + 3 ∧ a + 3 < 34
      · have o01 := one a (a + 3) i0.1 i0.2 i1.1 i1.2 (by omega)
        have b0 := b a i0.1 i0.2
        have b1 := b (a + 3) i1.1 i1.2
        by_cases i2 : 0 ≤ a + 6 ∧ a + 6 < 34
        · have o02 := one a (a + 6) i0.1 i0.2 i2.1 i2.2 (by omega)
          have o12 := one (a + 3) (a + 6) i1.1 i1.2 i2.1 i2.2 (by omega)
          have b2 := b (a + 6) i2.1 i2.2
          have n01 : ¬ ((yL h w a).length = 3 ∧ (yL h w (a + 3)).length = 3) := fun z => o01 z.1 z.2
          have n02 : ¬ ((yL h w a).length = 3 ∧ (yL h w (a + 6)).length = 3) := fun z => o02 z.1 z.2
          have n12 : ¬ ((yL h w (a + 3)).length = 3 ∧ (yL h w (a + 6)).length = 3) := fun z => o12 z.1 z.2
          rw [if_pos (by omega), if_pos (by omega), if_pos (by omega)] at le
          omega
        · rw [if_pos (by omega), if_pos (by omega), if_neg (by omega)] at le
          omega
      · have b0 := b a i0.1 i0.2
        rw [if_pos (by omega), if_neg (by omega), if_neg (by omega)] at le
        omega
    · omega
end
