/-! ===== odds: what makes it done ===== -/
section
/-- the unseen tiles that make it done -/
def yMk (f7 f13 : Int) (w : Nat) (h u : Int → Int) : Int := jSum (fun r => if 0 < u r ∧ 0 < yDone f7 f13 w (yUp h r (h r + 1)) then u r else 0) 34
theorem yMk_bd {f7 f13 : Int} {w : Nat} {h u : Int → Int} (hu : ∀ q : Int, 0 ≤ q → q < 34 → 0 ≤ u q ∧ u q ≤ 4) : 0 ≤ yMk f7 f13 w h u ∧ yMk f7 f13 w h u ≤ 136 := by
  have a := jSum_le (f := fun _ => 0) (g := fun r => if 0 < u r ∧ 0 < yDone f7 f13 w (yUp h r (h r + 1)) then u r else 0) (n := 34) (fun i hi => by split <;> omega)
  have b := jSum_le (f := fun r => if 0 < u r ∧ 0 < yDone f7 f13 w (yUp h r (h r + 1)) then u r else 0) (g := fun _ => 4) (n := 34) (fun i hi => by
    have := hu i (by omega) (by omega)
    split <;> omega)
  rw [jSum_0] at a
  have e : jSum (fun _ => (4 : Int)) 34 = 136 := by decide
  rw [e] at b
  exact ⟨a, b⟩
/-- by the lack: with a lack of 1 what helps -/
theorem yMk_lack {f7 f13 v : Int} {w : Nat} {h L u : Int → Int} (hw : w ≤ 4) (hh : ∀ q : Int, 0 ≤ q → q < 34 → 0 ≤ h q ∧ 0 ≤ L q ∧ 0 ≤ u q ∧ u q + h q + L q ≤ 4) (hs : jSum h 34 = 3 * (w : Int) + 1) (hr : yRoom L) (yl : yLack f7 f13 (w : Int) h L v) : 1 ≤ v ∧ (v ≠ 1 → yMk f7 f13 w h u = 0) ∧ (v = 1 → ∀ b : Int → Int, (∀ q : Int, 0 ≤ q → q < 34 → (b q = 1 ∨ b q = 0) ∧ (b q = 1 ↔ yHc f7 f13 (w : Int) h L v q)) → yMk f7 f13 w h u = jSum (fun q => if b q = 0 then 0 else u q) 34) := by
  have hH : ∀ q : Int, 0 ≤ q → q < 34 → 0 ≤ h q := fun q q0 q4 => (hh q q0 q4).1
  have bd := yLack_bd ⟨by omega, by omega⟩ hH (fun q q0 q4 => by have := hh q q0 q4; omega) hr yl
  have key : ∀ q : Int, 0 ≤ q → q < 34 → 0 < u q → (0 < yDone f7 f13 w (yUp h q (h q + 1)) ↔ v = 1 ∧ yHc f7 f13 (w : Int) h L v q) := by
    intro q q0 q4 uq
    obtain ⟨v', yl'⟩ := yLack_ex (f7 := f7) (f13 := f13) (w := (w : Int)) (H := yUp h q (h q + 1)) (L := L)
    have hq := hh q q0 q4
    have dl := yDone_lack (h := yUp h q (h q + 1)) (w := w) ⟨hw, fun p p0 p4 => by
      by_cases e : p = q
      · subst e; rw [yUp_at]; omega
      · rw [yUp_o e]; exact hH p p0 p4, by rw [yUp_sum q0 q4]; omega⟩ (fun p p0 p4 => by
      have := hh p p0 p4
      by_cases e : p = q
      · subst e; rw [yUp_at]; omega
      · rw [yUp_o e]; omega) hr yl'
    have hp := yHelp q0 q4 hH (by omega) yl yl'
    have up := yLack_up q0 q4 hH (by omega) yl yl'
    rw [dl.2]
    constructor
    · intro z
      have : v = 1 := by omega
      exact ⟨this, hp.mp (by omega)⟩
    · rintro ⟨z, k⟩
      have := hp.mpr k
      omega
  refine ⟨by omega, fun z => jSum_zero (fun i hi => ?_), fun z b hb => jSum_cg (fun i hi => ?_)⟩
  · rw [if_neg]
    rintro ⟨a, c⟩
    exact z ((key i (by omega) (by omega) a).mp c).1
  · have hbi := hb i (by omega) (by omega)
    have hi' := hh i (by omega) (by omega)
    by_cases a : 0 < u i
    · have k := key i (by omega) (by omega) a
      by_cases c : b i = 0
      · rw [if_pos c, if_neg]
        rintro ⟨-, d⟩
        have := hbi.2.mpr (k.mp d).2
        omega
      · rw [if_neg c, if_pos ⟨a, k.mpr ⟨z, hbi.2.mp (by omega)⟩⟩]
    · rw [if_neg (fun x => a x.1)]
      split <;> omega
theorem zX11_making {s : jMem} {w : Nat} {f7 f13 : Int} {h u : Int → Int} (hw : w ≤ 4) (e7 : s 53 10 = f7) (e13 : s 53 11 = f13) (h20 : s 53 20 = 4 - (w : Int)) (hh : ∀ p : Int, 0 ≤ p → p < 34 → s 68 p = h p ∧ 0 ≤ h p ∧ h p ≤ 14) (hs : jSum h 34 = 3 * (w : Int) + 1) (hu : ∀ p : Int, 0 ≤ p → p < 34 → s 76 p = u p ∧ 0 ≤ u p ∧ u p ≤ 4) : jHo (fun r t => r = yMk f7 f13 w h u ∧ (∀ x : Int, x ≠ 68 → x ≠ 70 → x ≠ 71 → t x = s x) ∧ t 68 = s 68) (fX11_making s) := by
  have u76 : jik 76 = 34 := by decide +kernel
  have u68 : jik 68 = 34 := by decide +kernel
  obtain ⟨S, hS⟩ : ∃ S : Nat → Int, S = jSum (fun r => if 0 < u r ∧ 0 < yDone f7 f13 w (yUp h r (h r + 1)) then u r else 0) := ⟨_, rfl⟩
  have hSs : ∀ n : Nat, S (n + 1) = S n + (if 0 < u n ∧ 0 < yDone f7 f13 w (yUp h n (h n + 1)) then u n else 0) := fun n => by rw [hS]; rfl
  unfold fX11_making
  refine gIt3 (fun a1 a2 t => (∃ n : Nat, a2 = n ∧ n ≤ 34 ∧ a1 = S n ∧ 0 ≤ a1 ∧ a1 ≤ 4 * (n : Int)) ∧ (∀ x : Int, x ≠ 68 → x ≠ 70 → x ≠ 71 → t x = s x) ∧ t 68 = s 68) (fun _ a2 => (34 - a2).toNat) ?_ 1000 0 0 s ⟨⟨0, rfl, by omega, by rw [hS]; rfl, by omega, by omega⟩, fun _ _ _ _ => rfl, rfl⟩ (by decide)
  rintro rec a1 a2 t ⟨⟨n, rfl, hn, ha, a0, a4⟩, fr, t68⟩ ih
  unfold bX11_making_4
  refine gHo_if (fun c => ?_) (fun c => ?_)
  · have : n = 34 := by omega
    subst this
    exact gHo_ret ⟨by rw [ha, hS]; rfl, fr, t68⟩
  · have n34 : (n : Int) < 34 := by omega
    have hn' := hh n (by omega) n34
    have hu' := hu n (by omega) n34
    have st := hSs n
    refine gHo_gd ⟨by omega, by omega⟩ (gHo_let ?_)
    rw [fr 76 (by decide) (by decide) (by decide), hu'.1]
    refine gHo_if (fun e => ?_) (fun e => ?_)
    · rw [if_neg (fun z => by have := z.1; omega)] at st
      unfold bX11_making_59
      exact gHo_l32 (by omega) (by omega) (ih _ _ _ ⟨⟨n + 1, by omega, by omega, by omega, by omega, by omega⟩, fr, t68⟩ (by omega))
    · refine gHo_gd ⟨by omega, by omega⟩ (gHo_let ?_)
      rw [t68, hn'.1]
      refine gHo_l32 (by omega) (by omega) (gHo_gd ⟨by omega, by omega⟩ (gHo_nm fun t2 ht2 => ?_))
      have g2 : ∀ x : Int, x ≠ 68 → t2 x = t x := fun x hx => by rw [ht2, jU_row hx]
      have g68 : ∀ p : Int, 0 ≤ p → p < 34 → t2 68 p = yUp h n (h n + 1) p := fun p p0 p4 => by
        rw [ht2, jU_at]
        by_cases ep : p = n
        · subst ep; rw [if_pos rfl, yUp_at]
        · rw [if_neg ep, yUp_o ep, t68]; exact (hh p p0 p4).1
      have e53 : t2 53 = s 53 := by rw [g2 53 (by decide), fr 53 (by decide) (by decide) (by decide)]
      refine gHo_bd (zX11_doneBy (s := t2) (h := yUp h n (h n + 1)) (w := w) ⟨hw, fun p p0 p4 => by
        by_cases ep : p = n
        · subst ep; rw [yUp_at]; omega
        · rw [yUp_o ep]; exact (hh p p0 p4).2.1, by rw [yUp_sum (by omega) n34]; omega⟩ g68 (by rw [e53]; exact h20)) (fun v t3 ht3 => ?_)
      obtain ⟨hv, fr3⟩ := ht3
      rw [e53, e7, e13] at hv
      have next : ∀ x : Int, x = (if 0 < u n ∧ 0 < yDone f7 f13 w (yUp h n (h n + 1)) then u n else 0) → jHo (fun r t => r = yMk f7 f13 w h u ∧ (∀ x : Int, x ≠ 68 → x ≠ 70 → x ≠ 71 → t x = s x) ∧ t 68 = s 68) (bX11_making_47 (bX11_making_59 rec) n a1 x t3) := by
        intro x hx
        rw [← hx] at st
        have xb : 0 ≤ x ∧ x ≤ 4 := by rw [hx]; split <;> omega
        unfold bX11_making_47
        refine gHo_l32 (by omega) (by omega) (gHo_gd ⟨by omega, by omega⟩ (gHo_let ?_))
        rw [fr3 68 (by decide) (by decide), g68 n (by omega) n34, yUp_at]
        refine gHo_l32 (by omega) (by omega) (gHo_gd ⟨by omega, by omega⟩ (gHo_nm fun t4 ht4 => ?_))
        unfold bX11_making_59
        refine gHo_l32 (by omega) (by omega) (ih _ _ _ ⟨⟨n + 1, by omega, by omega, by omega, by omega, by omega⟩, fun y y1 y2 y3 => by rw [ht4, jU_row y1, fr3 y y2 y3, g2 y y1, fr y y1 y2 y3], ?_⟩ (by omega))
        funext p
        rw [ht4, jU_at]
        by_cases ep : p = n
        · subst ep; rw [if_pos rfl, hn'.1]; omega
        · rw [if_neg ep, fr3 68 (by decide) (by decide), ht2, jU_at, if_neg ep, t68]
      refine gHo_if (fun e2 => next 0 (by rw [if_neg (fun z => by have := z.2; omega)])) (fun e2 => gHo_gd ⟨by omega, by omega⟩ (gHo_let ?_))
      rw [fr3 76 (by decide) (by decide), g2 76 (by decide), fr 76 (by decide) (by decide) (by decide), hu'.1]
      exact next _ (by rw [if_pos ⟨by omega, by omega⟩])
/-- the most of a row of numbers, from 0 up -/
def yMm (f : Int → Int) : Nat → Int
  | 0 => 0
  | n + 1 => if yMm f n < f n then f n else yMm f n
theorem yMm_s (f : Int → Int) (n : Nat) : yMm f (n + 1) = if yMm f n < f n then f n else yMm f n := rfl
theorem yMm_bd {f : Int → Int} {B : Int} (hB : 0 ≤ B) (n : Nat) (h : ∀ i : Nat, i < n → f i ≤ B) : 0 ≤ yMm f n ∧ yMm f n ≤ B := by
  induction n with
  | zero => exact ⟨Int.le_refl 0, hB⟩
  | succ n ih =>
    have a := ih (fun i hi => h i (by omega))
    have b := h n (by omega)
    rw [yMm_s]
    split <;> omega
theorem yMm_cg {f g : Int → Int} (n : Nat) (h : ∀ i : Nat, i < n → f i = g i) : yMm f n = yMm g n := by
  induction n with
  | zero => rfl
  | succ n ih => rw [yMm_s, yMm_s, ih (fun i hi => h i (by omega)), h n (by omega)]
/-- the best tile to throw for it -/
def yMb (f7 f13 : Int) (w : Nat) (h u : Int → Int) : Int := yMm (fun q => if h q ≤ 0 then 0 else yMk f7 f13 w (yUp h q (h q + -1)) u) 34
theorem zX11_makingBest {s : jMem} {w : Nat} {f7 f13 v : Int} {h L u : Int → Int} (hw : w ≤ 4) (e7 : s 53 10 = f7) (e13 : s 53 11 = f13) (h20 : s 53 20 = 4 - (w : Int)) (hh : ∀ p : Int, 0 ≤ p → p < 34 → s 68 p = h p ∧ s 69 p = L p ∧ 0 ≤ h p ∧ h p ≤ 14 ∧ 0 ≤ L p ∧ L p ≤ 4) (hs : jSum h 34 = 3 * (w : Int) + 2) (hu : ∀ p : Int, 0 ≤ p → p < 34 → s 76 p = u p ∧ 0 ≤ u p ∧ u p ≤ 4) (yl : yLack f7 f13 (w : Int) h L v) : jHo (fun r t => r = (if v ≤ 1 then yMb f7 f13 w h u else 0) ∧ (∀ x : Int, x ≠ 68 → x ≠ 70 → x ≠ 71 → x ≠ 72 → x ≠ 73 → x ≠ 74 → t x = s x) ∧ t 68 = s 68) (fX11_makingBest s) := by
  have u68 : jik 68 = 34 := by decide +kernel
  unfold fX11_makingBest
  refine gHo_bd (zX11_layAll (fun q q0 q4 => by have := hh q q0 q4; omega)) (fun _ t ht => ?_)
  obtain ⟨k1, k2⟩ := ht
  have e53 := k1 53 (by decide) (by decide) (by decide)
  have e68 := k1 68 (by decide) (by decide) (by decide)
  have e69 := k1 69 (by decide) (by decide) (by decide)
  obtain ⟨v', e2, yl', -⟩ := zX11_lackOf (s := t) (w := (w : Int)) ⟨by omega, by omega⟩ (by rw [e53]; exact h20) (fun q q0 q4 => by rw [e68, (hh q q0 q4).1]; exact (hh q q0 q4).2.2.1) k2
  rw [e53, e7, e13, e68, e69] at yl'
  have ev : v' = v := yLack_u (yLack_cg (fun q q0 q4 => ⟨(hh q q0 q4).1, (hh q q0 q4).2.1⟩) yl') yl
  subst ev
  rw [e2, jBd_s]
  refine gHo_if (fun c => ?_) (fun c => gHo_ret ⟨by rw [if_neg c], fun x x1 x2 x3 x4 x5 x6 => k1 x x4 x5 x6, e68⟩)
  rw [if_pos c]
  obtain ⟨F, hF⟩ : ∃ F : Int → Int, F = fun q => if h q ≤ 0 then 0 else yMk f7 f13 w (yUp h q (h q + -1)) u := ⟨_, rfl⟩
  have eF : yMb f7 f13 w h u = yMm F 34 := by rw [hF]; rfl
  have ub : ∀ q : Int, 0 ≤ q → q < 34 → 0 ≤ u q ∧ u q ≤ 4 := fun q q0 q4 => (hu q q0 q4).2
  obtain ⟨X, hX⟩ : ∃ X, X = yMm F 34 := ⟨_, rfl⟩
  rw [eF, ← hX]
  refine gIt3 (fun a1 a2 z => (∃ n : Nat, a2 = n ∧ n ≤ 34 ∧ a1 = yMm F n) ∧ (∀ x : Int, x ≠ 68 → x ≠ 70 → x ≠ 71 → z x = t x) ∧ z 68 = s 68) (fun _ a2 => (34 - a2).toNat) ?_ 1000 0 0 t ⟨⟨0, rfl, by omega, rfl⟩, fun _ _ _ _ => rfl, e68⟩ (by decide)
  rintro rec a1 a2 z ⟨⟨n, rfl, hn, ha⟩, fr, z68⟩ ih
  unfold bX11_makingBest_18
  refine gHo_if (fun c1 => ?_) (fun c1 => ?_)
  · have : n = 34 := by omega
    subst this
    exact gHo_ret ⟨by rw [ha, hX], fun x x1 x2 x3 x4 x5 x6 => by rw [fr x x1 x2 x3]; exact k1 x x4 x5 x6, z68⟩
  · have n34 : (n : Int) < 34 := by omega
    have hn' := hh n (by omega) n34
    have st := yMm_s F n
    have Fn : F n = if h n ≤ 0 then 0 else yMk f7 f13 w (yUp h n (h n + -1)) u := by rw [hF]
    have lo := (yMm_bd (f := F) (B := 136) (by omega) n (fun i hi => by
      rw [hF]
      dsimp only
      split
      · omega
      · exact (yMk_bd ub).2)).1
    refine gHo_gd ⟨by omega, by omega⟩ (gHo_let ?_)
    rw [z68, hn'.1]
    refine gHo_if (fun c2 => ?_) (fun c2 => ?_)
    · rw [if_pos c2] at Fn
      rw [Fn, if_neg (by omega)] at st
      unfold bX11_makingBest_69
      exact gHo_l32 (by omega) (by omega) (ih _ _ _ ⟨⟨n + 1, by omega, by omega, by rw [st]; exact ha⟩, fr, z68⟩ (by omega))
    · rw [if_neg c2] at Fn
      refine gHo_gd ⟨by omega, by omega⟩ (gHo_let ?_)
      refine gHo_l32 (by omega) (by omega) (gHo_gd ⟨by omega, by omega⟩ (gHo_nm fun z2 hz2 => ?_))
      have g2 : ∀ x : Int, x ≠ 68 → z2 x = z x := fun x hx => by rw [hz2, jU_row hx]
      have g68 : ∀ p : Int, 0 ≤ p → p < 34 → z2 68 p = yUp h n (h n + -1) p := fun p p0 p4 => by
        rw [hz2, jU_at]
        by_cases ep : p = n
        · subst ep; rw [if_pos rfl, yUp_at]; omega
        · rw [if_neg ep, yUp_o ep, z68]; exact (hh p p0 p4).1
      have f53 : z2 53 = s 53 := by rw [g2 53 (by decide), fr 53 (by decide) (by decide) (by decide), e53]
      refine gHo_bd (zX11_making (s := z2) (w := w) (f7 := f7) (f13 := f13) (h := yUp h n (h n + -1)) (u := u) hw (by rw [f53]; exact e7) (by rw [f53]; exact e13) (by rw [f53]; exact h20) (fun p p0 p4 => ⟨g68 p p0 p4, by
        by_cases ep : p = n
        · subst ep; rw [yUp_at]; omega
        · rw [yUp_o ep]; have := hh p p0 p4; omega⟩) (by rw [yUp_sum (by omega) n34]; omega) (fun p p0 p4 => by rw [g2 76 (by decide), fr 76 (by decide) (by decide) (by decide), k1 76 (by decide) (by decide) (by decide)]; exact hu p p0 p4)) (fun r z3 hz3 => ?_)
      obtain ⟨er, fr3, z368⟩ := hz3
      rw [← er] at Fn
      rw [Fn] at st
      have next : ∀ x : Int, x = yMm F (n + 1) → jHo (fun r t => r = X ∧ (∀ x : Int, x ≠ 68 → x ≠ 70 → x ≠ 71 → x ≠ 72 → x ≠ 73 → x ≠ 74 → t x = s x) ∧ t 68 = s 68) (bX11_makingBest_58 (bX11_makingBest_69 rec) n x z3) := by
        intro x hx
        unfold bX11_makingBest_58
        refine gHo_gd ⟨by omega, by omega⟩ (gHo_let ?_)
        rw [z368, g68 n (by omega) n34, yUp_at]
        refine gHo_l32 (by omega) (by omega) (gHo_gd ⟨by omega, by omega⟩ (gHo_nm fun z4 hz4 => ?_))
        unfold bX11_makingBest_69
        refine gHo_l32 (by omega) (by omega) (ih _ _ _ ⟨⟨n + 1, by omega, by omega, hx⟩, fun y y1 y2 y3 => by rw [hz4, jU_row y1, fr3 y y1 y2 y3, g2 y y1, fr y y1 y2 y3], ?_⟩ (by omega))
        funext p
        rw [hz4, jU_at]
        by_cases ep : p = n
        · subst ep; rw [if_pos rfl, hn'.1]; omega
        · rw [if_neg ep, z368, hz2, jU_at, if_neg ep, z68]
      refine gHo_if (fun c3 => next _ ?_) (fun c3 => next _ ?_)
      · rw [st, ha, if_neg (by omega)]
      · rw [st, if_pos (by omega)]
end
