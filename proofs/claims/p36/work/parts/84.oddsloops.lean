/-! ===== odds ===== -/
section
theorem yUp_forth {H : Int → Int} {q : Int} : yUp (yUp H q (H q + 1)) q (yUp H q (H q + 1) q + -1) = H := by
  funext p
  by_cases e : p = q
  · subst e; rw [yUp_at, yUp_at]; omega
  · rw [yUp_o e, yUp_o e]
/-- what a first tile is worth -/
def yGp (f7 f13 : Int) (w : Nat) (H L u : Int → Int) (S : Int) (G : Int → Int) : Prop := ∀ p : Int, 0 ≤ p → p < 34 → 0 < u p → (0 ≤ G p ∧ G p ≤ 136) ∧ ∃ v : Int, yLack f7 f13 (w : Int) (yUp H p (H p + 1)) L v ∧ 0 ≤ v ∧ (0 < yDone f7 f13 w (yUp H p (H p + 1)) ↔ v = 0) ∧ G p = if v = 0 then S - 1 else if v ≤ 1 then yMb f7 f13 w (yUp H p (H p + 1)) (yUp u p (u p + -1)) else 0
def yOd (u G : Int → Int) (n : Nat) : Int := jSum (fun p => if u p ≤ 0 then 0 else u p * G p) n
theorem yOd_s (u G : Int → Int) (n : Nat) : yOd u G (n + 1) = yOd u G n + (if u n ≤ 0 then 0 else u n * G n) := rfl
theorem yPrd {a g : Int} (ha : 0 ≤ a ∧ a ≤ 4) (hg : 0 ≤ g ∧ g ≤ 136) : 0 ≤ a * g ∧ a * g ≤ 544 := by
  rcases (by omega : a = 0 ∨ a = 1 ∨ a = 2 ∨ a = 3 ∨ a = 4) with rfl | rfl | rfl | rfl | rfl <;> omega
theorem yGp_ex {f7 f13 S : Int} {w : Nat} {H L u : Int → Int} (hw : w ≤ 4) (hh : ∀ q : Int, 0 ≤ q → q < 34 → 0 ≤ H q ∧ 0 ≤ L q ∧ 0 ≤ u q ∧ u q + H q + L q ≤ 4) (hs : jSum H 34 = 3 * (w : Int) + 1) (hro : yRoom L) (hS : S = jSum u 34) : ∃ G, yGp f7 f13 w H L u S G := by
  have hv : ∀ p : Int, ∃ v : Int, yLack f7 f13 (w : Int) (yUp H p (H p + 1)) L v := fun p => yLack_ex
  obtain ⟨v, hv⟩ := Classical.axiomOfChoice hv
  have up : S ≤ 136 := by
    rw [hS]
    have b := jSum_le (f := u) (g := fun _ => 4) (n := 34) (fun i hi => by have := hh i (by omega) (by omega); omega)
    have e : jSum (fun _ => (4 : Int)) 34 = 136 := by decide
    rw [e] at b
    exact b
  refine ⟨fun p => if v p = 0 then S - 1 else if v p ≤ 1 then yMb f7 f13 w (yUp H p (H p + 1)) (yUp u p (u p + -1)) else 0, fun p p0 p4 hp => ⟨?_, v p, hv p, ?_, ?_, rfl⟩⟩
  · have lo : u p ≤ S := by
      rw [hS]
      have := jSum_ge (f := u) (n := 34) (fun i hi => (hh i (by omega) (by omega)).2.2.1) (k := p.toNat) (by omega)
      rw [show ((p.toNat : Nat) : Int) = p by omega] at this
      exact this
    have mb : 0 ≤ yMb f7 f13 w (yUp H p (H p + 1)) (yUp u p (u p + -1)) ∧ yMb f7 f13 w (yUp H p (H p + 1)) (yUp u p (u p + -1)) ≤ 136 := by
      unfold yMb
      refine yMm_bd (by omega) 34 (fun i hi => ?_)
      split
      · omega
      · exact (yMk_bd (fun q q0 q4 => by
          have := hh q q0 q4
          by_cases e : q = p
          · subst e; rw [yUp_at]; omega
          · rw [yUp_o e]; omega)).2
    dsimp only
    split
    · omega
    · split
      · exact mb
      · omega
  all_goals
    have hp' := hh p p0 p4
    have dl := yDone_lack (f7 := f7) (f13 := f13) (h := yUp H p (H p + 1)) (L := L) (w := w) (v := v p) ⟨hw, fun q q0 q4 => by
      by_cases e : q = p
      · subst e; rw [yUp_at]; omega
      · rw [yUp_o e]; exact (hh q q0 q4).1, by rw [yUp_sum p0 p4]; omega⟩ (fun q q0 q4 => by
      have := hh q q0 q4
      by_cases e : q = p
      · subst e; rw [yUp_at]; omega
      · rw [yUp_o e]; omega) hro (hv p)
  · exact dl.1
  · exact dl.2
theorem zX10_oddsLoop {s : jMem} {w : Nat} {f7 f13 S : Int} {H L u G : Int → Int} (hw : w ≤ 4) (hr : yAllR 1 (w : Int) s) (e7 : s 6 0 = f7) (e13 : s 6 1 = f13) (hz : ∀ q : Int, 0 ≤ q → q < 34 → s 8 q = H q ∧ s 9 q = L q) (hu : ∀ q : Int, 0 ≤ q → q < 34 → s 5 q = u q ∧ 0 ≤ u q ∧ u q ≤ 4) (hh : ∀ q : Int, 0 ≤ q → q < 34 → 0 ≤ H q ∧ 0 ≤ L q ∧ 0 ≤ u q ∧ u q + H q + L q ≤ 4) (hs : jSum H 34 = 3 * (w : Int) + 1) (hro : yRoom L) (hG : yGp f7 f13 w H L u S G) : jHo (fun r t => r = yOd u G 34 ∧ (∀ x : Int, x ≠ 5 → ¬ (7 ≤ x ∧ x ≤ 15) → t x = s x) ∧ yCch t) (jIt (fun _ _ _ _ => none) (bX10_odds_111) 1000 (S - 1) 0 0 s) := by
  obtain ⟨u1, u2, u3, u4, u5, u6, u7, u8, u9⟩ := jik_t
  refine gIt4 (fun a1 x q t => a1 = S - 1 ∧ (∃ n : Nat, q = n ∧ n ≤ 34 ∧ x = yOd u G n ∧ 0 ≤ x ∧ x ≤ 544 * (n : Int)) ∧ (∀ x : Int, x ≠ 5 → ¬ (7 ≤ x ∧ x ≤ 15) → t x = s x) ∧ t 5 = s 5 ∧ t 8 = s 8 ∧ t 9 = s 9 ∧ yAllR 1 (w : Int) t) (fun _ _ q => (34 - q).toNat) ?_ 1000 (S - 1) 0 0 s ⟨rfl, ⟨0, rfl, by omega, rfl, by omega, by omega⟩, fun _ _ _ => rfl, rfl, rfl, rfl, hr⟩ (by decide)
  rintro rec a1 x q t ⟨rfl, ⟨n, rfl, hn, hx, x0, x4⟩, fr, t5, t8, t9, ar⟩ ih
  unfold bX10_odds_111
  refine gHo_if (fun e1 => ?_) (fun e1 => ?_)
  · have : n = 34 := by omega
    subst this
    exact gHo_ret ⟨hx, fr, ar.1.2.2.2.2.2⟩
  · have n34 : (n : Int) < 34 := by omega
    have hzn := hz n (by omega) n34
    have hhn := hh n (by omega) n34
    have hun := hu n (by omega) n34
    have st := yOd_s u G n
    refine gHo_gd ⟨by omega, by omega⟩ (gHo_let ?_)
    rw [t5, hun.1]
    refine gHo_if (fun e2 => ?_) (fun e2 => ?_)
    · rw [if_pos e2] at st
      unfold bX10_odds_188
      exact gHo_l32 (by omega) (by omega) (ih _ _ _ _ ⟨rfl, ⟨n + 1, by omega, by omega, by omega, by omega, by omega⟩, fr, t5, t8, t9, ar⟩ (by omega))
    · rw [if_neg e2] at st
      obtain ⟨gb, v, yl, v0, hd, hg⟩ := hG n (by omega) n34 (by omega)
      refine gHo_bd (zX3_change (d := 1) (by omega) n34 (by rw [t8, hzn.1]; omega) (by omega) ar) (fun _ t2 ht2 => ?_)
      obtain ⟨m1, m2, m3⟩ := ht2
      refine gHo_bd (zX3_tot m3) (fun _ t3 ht3 => ?_)
      obtain ⟨n1, n2, n3⟩ := ht3
      have fr3 : ∀ x : Int, ¬ (7 ≤ x ∧ x ≤ 15) → t3 x = t x := fun x hx => by rw [n1 x (by omega) (by omega), m1 x (by omega)]
      have e8 : t3 8 = yUp (s 8) n (s 8 n + 1) := by rw [n1 8 (by decide) (by decide), m2, t8]
      have e9 : t3 9 = s 9 := by rw [n1 9 (by decide) (by decide), m1 9 (by decide), t9]
      have hz3 : ∀ q : Int, 0 ≤ q → q < 34 → t3 8 q = yUp H n (H n + 1) q ∧ t3 9 q = L q := fun q q0 q4 => ⟨by rw [e8]; exact yUp_cg (by omega) n34 (fun q q0 q4 => (hz q q0 q4).1) q q0 q4, by rw [e9]; exact (hz q q0 q4).2⟩
      have c7 : t3 6 0 = f7 := by rw [fr3 6 (by decide), fr 6 (by decide) (by decide)]; exact e7
      have c13 : t3 6 1 = f13 := by rw [fr3 6 (by decide), fr 6 (by decide) (by decide)]; exact e13
      obtain ⟨c1, c2⟩ := yAns_v n3 c7 c13 hz3 yl
      have pb := yPrd ⟨hun.2.1, hun.2.2⟩ gb
      have fin : ∀ z : jMem, (∀ x : Int, x ≠ 5 → ¬ (7 ≤ x ∧ x ≤ 15) → z x = s x) → z 5 = s 5 → z 8 = yUp (s 8) n (s 8 n + 1) → z 9 = s 9 → yAllR 1 (w : Int) z → jHo (fun r t => r = yOd u G 34 ∧ (∀ x : Int, x ≠ 5 → ¬ (7 ≤ x ∧ x ≤ 15) → t x = s x) ∧ yCch t) (bX10_odds_174 (bX10_odds_188 rec) (S - 1) n x (u n) (G n) z) := by
        intro z z1 z2 z3 z4 z5
        unfold bX10_odds_174
        refine gHo_l32 (by omega) (by omega) (gHo_l32 (by omega) (by omega) ?_)
        refine gHo_bd (zX3_change (d := -1) (by omega) n34 (by rw [z3, yUp_at, hzn.1]; omega) (by omega) z5) (fun _ y hy => ?_)
        obtain ⟨y1, y2, y3⟩ := hy
        unfold bX10_odds_188
        refine gHo_l32 (by omega) (by omega) (ih _ _ _ _ ⟨rfl, ⟨n + 1, by omega, by omega, by omega, by omega, by omega⟩, fun x x1 x2 => by rw [y1 x (by omega), z1 x x1 x2], by rw [y1 5 (by decide), z2], by rw [y2, z3, yUp_forth], by rw [y1 9 (by decide), z4], y3⟩ (by omega))
      refine gHo_gd ⟨by omega, by omega⟩ (gHo_let (gHo_let ?_))
      rw [fr3 5 (by decide), t5, hun.1]
      refine gHo_if (fun e3 => ?_) (fun e3 => ?_)
      · have : v = 0 := by
          by_cases d : v ≤ ((1 : Nat) : Int)
          · have := (c1 d).1; omega
          · have := c2 (by omega); omega
        rw [if_pos this] at hg
        have k := fin t3 (fun x x1 x2 => by rw [fr3 x x2, fr x x1 x2]) (by rw [fr3 5 (by decide), t5]) e8 e9 n2
        rw [hg] at k
        exact k
      · have nv : v ≠ 0 := fun z => e3 (by have := (c1 (by omega)).1; omega)
        rw [if_neg nv] at hg
        refine gHo_bd (zX10_second (s := t3) (w := w) (h := yUp H n (H n + 1)) (L := L) (u := u) hw (by omega) n34 n2 n3 c7 c13 hz3 (fun q q0 q4 => by rw [fr3 5 (by decide), t5]; exact hu q q0 q4) (by omega) (fun q q0 q4 => by
          have a := hh q q0 q4
          by_cases e : q = n
          · subst e; rw [yUp_at, yUp_at]; omega
          · rw [yUp_o e, yUp_o e]; omega) (by rw [yUp_sum (by omega) n34]; omega) hro yl) (fun r z hz' => ?_)
        obtain ⟨er, y1, y2, y3, y4, y5⟩ := hz'
        rw [er, ← hg]
        exact fin z (fun x x1 x2 => by rw [y1 x x1 x2, fr3 x x2, fr x x1 x2]) (by rw [y2, fr3 5 (by decide), t5]) (by rw [y3, e8]) (by rw [y4, e9]) y5
theorem zX11_oddsLoop {s : jMem} {w : Nat} {f7 f13 S : Int} {H L u G : Int → Int} (hw : w ≤ 4) (e7 : s 53 10 = f7) (e13 : s 53 11 = f13) (h20 : s 53 20 = 4 - (w : Int)) (hz : ∀ q : Int, 0 ≤ q → q < 34 → s 68 q = H q ∧ s 69 q = L q) (hu : ∀ q : Int, 0 ≤ q → q < 34 → s 76 q = u q ∧ 0 ≤ u q ∧ u q ≤ 4) (hh : ∀ q : Int, 0 ≤ q → q < 34 → 0 ≤ H q ∧ 0 ≤ L q ∧ 0 ≤ u q ∧ u q + H q + L q ≤ 4) (hs : jSum H 34 = 3 * (w : Int) + 1) (hS : 0 ≤ S ∧ S ≤ 136) (hG : yGp f7 f13 w H L u S G) : jHo (fun r t => r = yOd u G 34 ∧ (∀ x : Int, x ≠ 68 → x ≠ 70 → x ≠ 71 → x ≠ 72 → x ≠ 73 → x ≠ 74 → x ≠ 76 → t x = s x)) (jIt (fun _ _ _ _ => none) (bX11_odds_61) 1000 S 0 0 s) := by
  have u76 : jik 76 = 34 := by decide +kernel
  have u68 : jik 68 = 34 := by decide +kernel
  refine gIt4 (fun a1 x q t => a1 = S ∧ (∃ n : Nat, q = n ∧ n ≤ 34 ∧ x = yOd u G n ∧ 0 ≤ x ∧ x ≤ 544 * (n : Int)) ∧ (∀ x : Int, x ≠ 68 → x ≠ 70 → x ≠ 71 → x ≠ 72 → x ≠ 73 → x ≠ 74 → x ≠ 76 → t x = s x) ∧ t 68 = s 68 ∧ t 76 = s 76) (fun _ _ q => (34 - q).toNat) ?_ 1000 S 0 0 s ⟨rfl, ⟨0, rfl, by omega, rfl, by omega, by omega⟩, fun _ _ _ _ _ _ _ _ => rfl, rfl, rfl⟩ (by decide)
  rintro rec a1 x q t ⟨rfl, ⟨n, rfl, hn, hx, x0, x4⟩, fr, t68, t76⟩ ih
  unfold bX11_odds_61
  refine gHo_if (fun e1 => ?_) (fun e1 => ?_)
  · have : n = 34 := by omega
    subst this
    exact gHo_ret ⟨hx, fr⟩
  · have n34 : (n : Int) < 34 := by omega
    have hzn := hz n (by omega) n34
    have hhn := hh n (by omega) n34
    have hun := hu n (by omega) n34
    have st := yOd_s u G n
    refine gHo_gd ⟨by omega, by omega⟩ (gHo_let ?_)
    rw [t76, hun.1]
    refine gHo_if (fun e2 => ?_) (fun e2 => ?_)
    · rw [if_pos (by omega)] at st
      unfold bX11_odds_167
      exact gHo_l32 (by omega) (by omega) (ih _ _ _ _ ⟨rfl, ⟨n + 1, by omega, by omega, by omega, by omega, by omega⟩, fr, t68, t76⟩ (by omega))
    · rw [if_neg (by omega)] at st
      obtain ⟨gb, v, yl, v0, hd, hg⟩ := hG n (by omega) n34 (by omega)
      have pb := yPrd ⟨hun.2.1, hun.2.2⟩ gb
      refine gHo_gd ⟨by omega, by omega⟩ (gHo_let (gHo_gd ⟨by omega, by omega⟩ (gHo_let ?_)))
      rw [t68, hzn.1]
      refine gHo_l32 (by omega) (by omega) (gHo_gd ⟨by omega, by omega⟩ (gHo_nm fun t2 ht2 => ?_))
      have g2 : ∀ x : Int, x ≠ 68 → t2 x = t x := fun x hx => by rw [ht2, jU_row hx]
      have g68 : ∀ p : Int, t2 68 p = yUp (s 68) n (H n + 1) p := fun p => by
        rw [ht2, jU_at]
        by_cases ep : p = n
        · subst ep; rw [if_pos rfl, yUp_at]
        · rw [if_neg ep, yUp_o ep, t68]
      have h68 : ∀ p : Int, 0 ≤ p → p < 34 → t2 68 p = yUp H n (H n + 1) p := fun p p0 p4 => by
        rw [g68]
        by_cases ep : p = n
        · subst ep; rw [yUp_at, yUp_at]
        · rw [yUp_o ep, yUp_o ep]; exact (hz p p0 p4).1
      have e53 : t2 53 = s 53 := by rw [g2 53 (by decide), fr 53 (by decide) (by decide) (by decide) (by decide) (by decide) (by decide) (by decide)]
      have full : yFull w (yUp H n (H n + 1)) := ⟨hw, fun p p0 p4 => by
        by_cases ep : p = n
        · subst ep; rw [yUp_at]; omega
        · rw [yUp_o ep]; exact (hh p p0 p4).1, by rw [yUp_sum (by omega) n34]; omega⟩
      refine gHo_bd (zX11_doneBy (s := t2) (w := w) full h68 (by rw [e53]; exact h20)) (fun d t3 ht3 => ?_)
      obtain ⟨hdv, fr3⟩ := ht3
      rw [e53, e7, e13] at hdv
      rw [← hdv] at hd
      have e76 : t3 76 = s 76 := by rw [fr3 76 (by decide) (by decide), g2 76 (by decide), t76]
      have e68 : ∀ p : Int, t3 68 p = yUp (s 68) n (H n + 1) p := fun p => by rw [fr3 68 (by decide) (by decide)]; exact g68 p
      have fin : ∀ z : jMem, (∀ x : Int, x ≠ 68 → x ≠ 70 → x ≠ 71 → x ≠ 72 → x ≠ 73 → x ≠ 74 → x ≠ 76 → z x = s x) → (∀ p : Int, z 68 p = yUp (s 68) n (H n + 1) p) → z 76 = s 76 → jHo (fun r t => r = yOd u G 34 ∧ (∀ x : Int, x ≠ 68 → x ≠ 70 → x ≠ 71 → x ≠ 72 → x ≠ 73 → x ≠ 74 → x ≠ 76 → t x = s x)) (bX11_odds_156 (bX11_odds_167 rec) a1 (x + u n * G n) n z) := by
        intro z z1 z2 z3
        unfold bX11_odds_156
        refine gHo_gd ⟨by omega, by omega⟩ (gHo_let ?_)
        rw [z2, yUp_at]
        refine gHo_l32 (by omega) (by omega) (gHo_gd ⟨by omega, by omega⟩ (gHo_nm fun z4 hz4 => ?_))
        unfold bX11_odds_167
        refine gHo_l32 (by omega) (by omega) (ih _ _ _ _ ⟨rfl, ⟨n + 1, by omega, by omega, by omega, by omega, by omega⟩, fun y y1 y2 y3 y4 y5 y6 y7 => by rw [hz4, jU_row y1]; exact z1 y y1 y2 y3 y4 y5 y6 y7, ?_, by rw [hz4, jU_row (by decide)]; exact z3⟩ (by omega))
        funext p
        rw [hz4, jU_at]
        by_cases ep : p = n
        · subst ep; rw [if_pos rfl, hzn.1]; omega
        · rw [if_neg ep, z2, yUp_o ep]
      have fr3' : ∀ x : Int, x ≠ 68 → x ≠ 70 → x ≠ 71 → x ≠ 72 → x ≠ 73 → x ≠ 74 → x ≠ 76 → t3 x = s x := fun x x1 x2 x3 x4 x5 x6 x7 => by rw [fr3 x x2 x3, g2 x x1]; exact fr x x1 x2 x3 x4 x5 x6 x7
      refine gHo_if (fun e3 => ?_) (fun e3 => ?_)
      · have nv : v ≠ 0 := fun z => by have := hd.mpr z; omega
        rw [if_neg nv] at hg
        refine gHo_gd ⟨by omega, by omega⟩ (gHo_let ?_)
        rw [e76, hun.1]
        refine gHo_l32 (by omega) (by omega) (gHo_gd ⟨by omega, by omega⟩ (gHo_nm fun t4 ht4 => ?_))
        have g4 : ∀ x : Int, x ≠ 76 → t4 x = t3 x := fun x hx => by rw [ht4, jU_row hx]
        have f53 : t4 53 = s 53 := by rw [g4 53 (by decide), fr3 53 (by decide) (by decide), e53]
        refine gHo_bd (zX11_makingBest (s := t4) (w := w) (f7 := f7) (f13 := f13) (h := yUp H n (H n + 1)) (L := L) (u := yUp u n (u n + -1)) hw (by rw [f53]; exact e7) (by rw [f53]; exact e13) (by rw [f53]; exact h20) (fun p p0 p4 => ?_) (by rw [yUp_sum (by omega) n34]; omega) (fun p p0 p4 => ?_) yl) (fun r t5 ht5 => ?_)
        · have a := hh p p0 p4
          refine ⟨by rw [g4 68 (by decide), fr3 68 (by decide) (by decide)]; exact h68 p p0 p4, by rw [g4 69 (by decide), fr3' 69 (by decide) (by decide) (by decide) (by decide) (by decide) (by decide) (by decide)]; exact (hz p p0 p4).2, ?_⟩
          by_cases ep : p = n
          · subst ep; rw [yUp_at]; omega
          · rw [yUp_o ep]; omega
        · have a := hu p p0 p4
          rw [ht4, jU_at]
          by_cases ep : p = n
          · subst ep; rw [if_pos rfl, yUp_at]; omega
          · rw [if_neg ep, yUp_o ep, e76]; exact a
        · obtain ⟨er, fr5, e568⟩ := ht5
          rw [er, ← hg]
          refine gHo_l32 (by omega) (by omega) (gHo_l32 (by omega) (by omega) (gHo_gd ⟨by omega, by omega⟩ (gHo_let ?_)))
          have v76 : t5 76 n = u n - 1 := by rw [fr5 76 (by decide) (by decide) (by decide) (by decide) (by decide) (by decide), ht4, jU_at, if_pos rfl]
          rw [v76]
          refine gHo_l32 (by omega) (by omega) (gHo_gd ⟨by omega, by omega⟩ (gHo_nm fun t6 ht6 => ?_))
          refine fin t6 (fun y y1 y2 y3 y4 y5 y6 y7 => by rw [ht6, jU_row y7, fr5 y y1 y2 y3 y4 y5 y6, g4 y y7]; exact fr3' y y1 y2 y3 y4 y5 y6 y7) (fun p => by rw [ht6, jU_row (by decide), e568, g4 68 (by decide)]; exact e68 p) ?_
          funext p
          rw [ht6, jU_at]
          by_cases ep : p = n
          · subst ep; rw [if_pos rfl, hun.1]; omega
          · rw [if_neg ep, fr5 76 (by decide) (by decide) (by decide) (by decide) (by decide) (by decide), ht4, jU_at, if_neg ep, e76]
      · have ev : v = 0 := hd.mp (by omega)
        rw [if_pos ev] at hg
        have k := fin t3 fr3' e68 e76
        rw [hg] at k pb
        refine gHo_l32 (by omega) (by omega) (gHo_l32 (by omega) (by omega) (gHo_l32 (by omega) (by omega) k))
end
