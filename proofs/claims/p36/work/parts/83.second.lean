/-! ===== odds: the class's second tiles ===== -/
section
theorem yHb_ex {f7 f13 w v : Int} {H L : Int → Int} : ∃ b : Int → Int, ∀ p : Int, (b p = 1 ∨ b p = 0) ∧ (b p = 1 ↔ yHc f7 f13 w H L v p) := by
  have hp : ∀ p : Int, ∃ x : Int, (x = 1 ∨ x = 0) ∧ (x = 1 ↔ yHc f7 f13 w H L v p) := fun p => by
    rcases Classical.em (yHc f7 f13 w H L v p) with c | c
    · exact ⟨1, Or.inl rfl, fun _ => c, fun _ => rfl⟩
    · exact ⟨0, Or.inr rfl, fun z => absurd z (by decide), fun z => absurd z c⟩
  exact Classical.axiomOfChoice hp
/-- what a limit of 1 tells of a hand of thirteen -/
theorem yMk_ans {z : jMem} {f7 f13 : Int} {w : Nat} {h L u : Int → Int} (hw : w ≤ 4) (ans : yAns 1 (w : Int) z) (e7 : z 6 0 = f7) (e13 : z 6 1 = f13) (hz : ∀ p : Int, 0 ≤ p → p < 34 → z 8 p = h p ∧ z 9 p = L p) (hu : ∀ p : Int, 0 ≤ p → p < 34 → z 5 p = u p) (hh : ∀ q : Int, 0 ≤ q → q < 34 → 0 ≤ h q ∧ 0 ≤ L q ∧ 0 ≤ u q ∧ u q + h q + L q ≤ 4) (hs : jSum h 34 = 3 * (w : Int) + 1) (hr : yRoom L) : (z 7 12 = 1 → fX3_helpingOf 5 z = some (yMk f7 f13 w h u, z)) ∧ (z 7 12 ≠ 1 → yMk f7 f13 w h u = 0) ∧ 1 ≤ z 7 12 := by
  obtain ⟨v, yl⟩ := yLack_ex (f7 := f7) (f13 := f13) (w := (w : Int)) (H := h) (L := L)
  obtain ⟨v1, k1, k2⟩ := yMk_lack hw hh hs hr yl
  obtain ⟨c1, c2⟩ := yAns_v ans e7 e13 hz yl
  obtain ⟨b, hb⟩ := yHb_ex (f7 := f7) (f13 := f13) (w := (w : Int)) (H := h) (L := L) (v := v)
  have one : z 7 12 = 1 ↔ v = 1 := by
    constructor
    · intro e
      by_cases d : v ≤ ((1 : Nat) : Int)
      · omega
      · have := c2 (by omega); omega
    · intro e
      have := (c1 (by omega)).1; omega
  refine ⟨fun e => ?_, fun e => k1 (fun z => e (one.mpr z)), ?_⟩
  · have ev := one.mp e
    have := (yHelp_same (u := u) (u' := u) (b := b) ans e7 e13 hz (fun _ _ _ => ⟨rfl, rfl⟩) yl (by omega) (fun q _ _ => hb q) (fun p p0 p4 => ⟨hu p p0 p4, by have := hh p p0 p4; omega, by have := hh p p0 p4; omega⟩) (fun _ _ _ => rfl)).2
    rw [this, k2 ev b (fun q _ _ => hb q)]
  · by_cases d : v ≤ ((1 : Nat) : Int)
    · have := (c1 d).1; omega
    · have := c2 (by omega); omega
theorem zX10_second {s : jMem} {p : Int} {w : Nat} {f7 f13 v : Int} {h L u : Int → Int} (hw : w ≤ 4) (p0 : 0 ≤ p) (p4 : p < 34) (hr : yAllR 1 (w : Int) s) (ans : yAns 1 (w : Int) s) (e7 : s 6 0 = f7) (e13 : s 6 1 = f13) (hz : ∀ q : Int, 0 ≤ q → q < 34 → s 8 q = h q ∧ s 9 q = L q) (hu : ∀ q : Int, 0 ≤ q → q < 34 → s 5 q = u q ∧ 0 ≤ u q ∧ u q ≤ 4) (hp : 1 ≤ u p) (hh : ∀ q : Int, 0 ≤ q → q < 34 → 0 ≤ h q ∧ 0 ≤ L q ∧ yUp u p (u p + -1) q + h q + L q ≤ 4) (hs : jSum h 34 = 3 * (w : Int) + 2) (hro : yRoom L) (yl : yLack f7 f13 (w : Int) h L v) : jHo (fun r t => r = (if v ≤ 1 then yMb f7 f13 w h (yUp u p (u p + -1)) else 0) ∧ (∀ x : Int, x ≠ 5 → ¬ (7 ≤ x ∧ x ≤ 15) → t x = s x) ∧ t 5 = s 5 ∧ t 8 = s 8 ∧ t 9 = s 9 ∧ yAllR 1 (w : Int) t) (fX10_secondTiles p s) := by
  obtain ⟨u1, u2, u3, u4, u5, u6, u7, u8, u9⟩ := jik_t
  obtain ⟨c1, c2⟩ := yAns_v ans e7 e13 hz yl
  have up := hu p p0 p4
  unfold fX10_secondTiles
  refine gHo_let (gHo_if (fun c => ?_) (fun c => gHo_ret ⟨?_, fun _ _ _ => rfl, rfl, rfl, rfl, hr⟩))
  · have v1 : v ≤ 1 := by
      by_cases d : v ≤ 1
      · exact d
      · have := c2 (by omega); omega
    rw [if_pos v1]
    obtain ⟨U, hU⟩ : ∃ U : Int → Int, U = yUp u p (u p + -1) := ⟨_, rfl⟩
    rw [← hU] at hh ⊢
    have Ub : ∀ q : Int, 0 ≤ q → q < 34 → 0 ≤ U q ∧ U q ≤ 4 := fun q q0 q4 => by
      rw [hU]
      by_cases e : q = p
      · subst e; rw [yUp_at]; omega
      · rw [yUp_o e]; exact (hu q q0 q4).2
    obtain ⟨F, hF⟩ : ∃ F : Int → Int, F = fun q => if h q ≤ 0 then 0 else yMk f7 f13 w (yUp h q (h q + -1)) U := ⟨_, rfl⟩
    have eF : yMb f7 f13 w h U = yMm F 34 := by rw [hF]; rfl
    obtain ⟨X, hX⟩ : ∃ X, X = yMm F 34 := ⟨_, rfl⟩
    rw [eF, ← hX]
    refine gHo_gd ⟨p0, by omega⟩ (gHo_let ?_)
    rw [up.1]
    refine gHo_l32 (by omega) (by omega) (gHo_gd ⟨p0, by omega⟩ (gHo_nm fun s1 hs1 => ?_))
    have g1 : ∀ x : Int, x ≠ 5 → s1 x = s x := fun x hx => by rw [hs1, jU_row hx]
    have g5 : ∀ q : Int, 0 ≤ q → q < 34 → s1 5 q = U q := fun q q0 q4 => by
      rw [hs1, jU_at, hU]
      by_cases e : q = p
      · subst e; rw [if_pos rfl, yUp_at]; omega
      · rw [if_neg e, yUp_o e]; exact (hu q q0 q4).1
    have hr1 : yAllR 1 (w : Int) s1 := yAllR_fr (fun x x1 x2 => g1 x (by omega)) hr
    refine gIt4 (fun a1 x q t => a1 = p ∧ (∃ n : Nat, q = n ∧ n ≤ 34 ∧ x = yMm F n) ∧ (∀ y : Int, ¬ (7 ≤ y ∧ y ≤ 15) → t y = s1 y) ∧ t 8 = s 8 ∧ t 9 = s 9 ∧ yAllR 1 (w : Int) t) (fun _ _ q => (34 - q).toNat) ?_ 1000 p 0 0 s1 ⟨rfl, ⟨0, rfl, by omega, rfl⟩, fun _ _ => rfl, g1 8 (by decide), g1 9 (by decide), hr1⟩ (by decide)
    rintro rec a1 x q t ⟨rfl, ⟨n, rfl, hn, hx⟩, fr, t8, t9, ar⟩ ih
    unfold bX10_secondTiles_27
    refine gHo_if (fun e1 => ?_) (fun e1 => ?_)
    · have : n = 34 := by omega
      subst this
      unfold bX10_secondTiles_103
      refine gHo_gd ⟨p0, by omega⟩ (gHo_let ?_)
      rw [fr 5 (by decide), g5 _ p0 p4]
      have : U a1 = u a1 - 1 := by rw [hU, yUp_at]; omega
      refine gHo_l32 (by omega) (by omega) (gHo_gd ⟨p0, by omega⟩ (gHo_nm fun t2 ht2 => gHo_ret ?_))
      have g2 : ∀ x : Int, x ≠ 5 → t2 x = t x := fun x hx => by rw [ht2, jU_row hx]
      refine ⟨by rw [hx, hX], fun y y1 y2 => by rw [g2 y y1, fr y y2, g1 y y1], ?_, by rw [g2 8 (by decide)]; exact t8, by rw [g2 9 (by decide)]; exact t9, ?_⟩
      · funext q
        rw [ht2, jU_at]
        by_cases e : q = a1
        · subst e; rw [if_pos rfl, up.1]; omega
        · rw [if_neg e, fr 5 (by decide), hs1, jU_at, if_neg e]
      · exact yAllR_fr (fun x x1 x2 => g2 x (by omega)) ar
    · have n34 : (n : Int) < 34 := by omega
      have hzn := hz n (by omega) n34
      have hhn := hh n (by omega) n34
      have st := yMm_s F n
      have Fn : F n = if h n ≤ 0 then 0 else yMk f7 f13 w (yUp h n (h n + -1)) U := by rw [hF]
      have lo := (yMm_bd (f := F) (B := 136) (by omega) n (fun i hi => by
        rw [hF]
        dsimp only
        split
        · omega
        · exact (yMk_bd Ub).2)).1
      refine gHo_gd ⟨by omega, by omega⟩ (gHo_let ?_)
      rw [t8, hzn.1]
      refine gHo_if (fun e2 => ?_) (fun e2 => ?_)
      · rw [if_pos e2] at Fn
        rw [Fn, if_neg (by omega)] at st
        unfold bX10_secondTiles_97
        exact gHo_l32 (by omega) (by omega) (ih _ _ _ _ ⟨rfl, ⟨n + 1, by omega, by omega, by rw [st]; exact hx⟩, fr, t8, t9, ar⟩ (by omega))
      · rw [if_neg e2] at Fn
        have b8 := ar.1.2.2.2.2.1 n (by omega) n34
        rw [t8, hzn.1] at b8
        refine gHo_bd (zX3_change (d := -1) (by omega) n34 (by rw [t8, hzn.1]; omega) (by omega) ar) (fun _ t2 ht2 => ?_)
        obtain ⟨m1, m2, m3⟩ := ht2
        refine gHo_bd (zX3_tot m3) (fun _ t3 ht3 => ?_)
        obtain ⟨n1, n2, n3⟩ := ht3
        have fr3 : ∀ x : Int, ¬ (7 ≤ x ∧ x ≤ 15) → t3 x = t x := fun x hx => by rw [n1 x (by omega) (by omega), m1 x (by omega)]
        have e8 : t3 8 = yUp (t 8) n (t 8 n + -1) := by rw [n1 8 (by decide) (by decide), m2]
        have e9 : t3 9 = t 9 := by rw [n1 9 (by decide) (by decide), m1 9 (by decide)]
        have back : ∀ x' : Int, x' = yMm F (n + 1) → jHo (fun r t => r = X ∧ (∀ x : Int, x ≠ 5 → ¬ (7 ≤ x ∧ x ≤ 15) → t x = s x) ∧ t 5 = s 5 ∧ t 8 = s 8 ∧ t 9 = s 9 ∧ yAllR 1 (w : Int) t) (bX10_secondTiles_88 (bX10_secondTiles_97 rec) a1 x' n t3) := by
          intro x' hx'
          unfold bX10_secondTiles_88
          refine gHo_bd (zX10_back (t := t) (H := h) n2 e8 (by rw [t8, hzn.1]; omega) (by omega) n34) (fun _ y hy => ?_)
          obtain ⟨y1, y2, y3, y4⟩ := hy
          unfold bX10_secondTiles_97
          exact gHo_l32 (by omega) (by omega) (ih _ _ _ _ ⟨rfl, ⟨n + 1, by omega, by omega, hx'⟩, fun z hz => by rw [y1 z hz, fr3 z hz, fr z hz], by rw [y2, t8], by rw [y3, e9, t9], y4⟩ (by omega))
        obtain ⟨k1, k2, -⟩ := yMk_ans (z := t3) (f7 := f7) (f13 := f13) (w := w) (h := yUp h n (h n + -1)) (L := L) (u := U) hw n3 (by rw [fr3 6 (by decide), fr 6 (by decide), g1 6 (by decide)]; exact e7) (by rw [fr3 6 (by decide), fr 6 (by decide), g1 6 (by decide)]; exact e13) (fun q q0 q4 => ⟨by rw [e8, t8]; exact yUp_cg (by omega) n34 (fun q q0 q4 => (hz q q0 q4).1) q q0 q4, by rw [e9, t9]; exact (hz q q0 q4).2⟩) (fun q q0 q4 => by rw [fr3 5 (by decide), fr 5 (by decide)]; exact g5 q q0 q4) (fun q q0 q4 => by
          have a := hh q q0 q4
          have b := Ub q q0 q4
          by_cases e : q = n
          · subst e; rw [yUp_at]; omega
          · rw [yUp_o e]; omega) (by rw [yUp_sum (by omega) n34]; omega) hro
        refine gHo_let (gHo_if (fun e3 => ?_) (fun e3 => ?_))
        · rw [k1 e3, jBd_s]
          refine gHo_let (back _ ?_)
          rw [st, Fn, hx]
          unfold jmax
          rfl
        · rw [k2 e3] at Fn
          rw [Fn, if_neg (by omega)] at st
          exact back _ (by rw [st]; exact hx)
  · rw [if_neg (fun d => c (by have := (c1 d).1; omega))]
end
