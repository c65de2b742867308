/-! ===== best, in both ===== -/
section
theorem zX10_bestLoop {s : jMem} {h : Int} {lim : Nat} {w f7 f13 : Int} {H L u f m : Int → Int} (h0 : 0 ≤ h) (h4 : h < 4) (hfm : yFm f7 f13 w H L u f m) (hr : yAllR lim w s) (e7 : s 6 0 = f7) (e13 : s 6 1 = f13) (hq : ∀ p : Int, 0 ≤ p → p < 34 → s 8 p = H p ∧ s 9 p = L p ∧ s (38 + 4 * h) p = H p) (hu : ∀ p : Int, 0 ≤ p → p < 34 → s 5 p = u p ∧ 0 ≤ u p ∧ u p ≤ 1000) : jHo (fun b t => (∀ x : Int, ¬ (7 ≤ x ∧ x ≤ 15) → t x = s x) ∧ yCch t ∧ ∃ x, yIc H f m lim 34 b x) (jIt (fun _ _ _ _ _ _ => none) (bX10_bestThrow_46) 1000 (37 + 4 * h) lim (-3) (-1) 0 s) := by
  obtain ⟨t0, t1, t2, t3, t4, t5, t6, t7, t8, t9⟩ := jh_t h0 h4
  refine gIt6 (fun a1 a2 b x q t => a1 = 37 + 4 * h ∧ a2 = lim ∧ (∃ i : Nat, q = i ∧ i ≤ 34 ∧ yIc H f m lim i b x) ∧ (∀ x : Int, ¬ (7 ≤ x ∧ x ≤ 15) → t x = s x) ∧ yAllR lim w t ∧ ∀ p : Int, 0 ≤ p → p < 34 → t 8 p = H p ∧ t 9 p = L p) (fun _ _ _ _ q => (34 - q).toNat) ?_ 1000 (37 + 4 * h) lim (-3) (-1) 0 s ⟨rfl, rfl, ⟨0, rfl, by omega, Or.inl ⟨rfl, rfl, fun q q0 q1 => by omega⟩⟩, fun _ _ => rfl, hr, fun p p0 p4 => ⟨(hq p p0 p4).1, (hq p p0 p4).2.1⟩⟩ (by decide)
  rintro rec a1 a2 b x q t ⟨rfl, rfl, ⟨i, rfl, hi, ic⟩, fr, ar, tq⟩ ih
  unfold bX10_bestThrow_46
  refine gHo_if (fun e => ?_) (fun e => ?_)
  · have : i = 34 := by omega
    subst this
    exact gHo_ret ⟨fr, ar.1.2.2.2.2.2, x, ic⟩
  · have i34 : (i : Int) < 34 := by omega
    have hqi := hq i (by omega) i34
    refine gHo_gd t1 (gHo_let ?_)
    rw [t2]
    refine gHo_gd ⟨by omega, by omega⟩ (gHo_let ?_)
    rw [fr _ (by omega), hqi.2.2]
    refine gHo_if (fun e1 => ?_) (fun e1 => ?_)
    · unfold bX10_bestThrow_132
      exact gHo_l32 (by omega) (by omega) (ih _ _ _ _ _ _ ⟨rfl, rfl, ⟨i + 1, by omega, by omega, yIc_skip ic (fun z => by have := z.1; omega)⟩, fr, ar, tq⟩ (by omega))
    · have m0 := (hfm i (by omega) i34 (by omega)).2.2.1
      have b8 := ar.1.2.2.2.2.1 i (by omega) i34
      refine zX10_less hfm ar (by rw [fr 6 (by decide)]; exact e7) (by rw [fr 6 (by decide)]; exact e13) tq (fun p p0 p4 => by rw [fr 5 (by decide)]; exact hu p p0 p4) (by omega) i34 (by omega) (fun z k1 k2 k3 k4 k5 k6 => ?_)
      have back : ∀ b' x' : Int, yIc H f m lim (i + 1) b' x' → jHo (fun b t => (∀ x : Int, ¬ (7 ≤ x ∧ x ≤ 15) → t x = s x) ∧ yCch t ∧ ∃ x, yIc H f m lim 34 b x) (bX10_bestThrow_122 (bX10_bestThrow_132 rec) (37 + 4 * h) lim b' x' i z) := by
        intro b' x' ic'
        unfold bX10_bestThrow_122
        refine gHo_bd (zX10_back (H := H) k4 k2 ⟨b8.1, b8.2.1⟩ (by omega) i34) (fun _ y hy => ?_)
        obtain ⟨y1, y2, y3, y4⟩ := hy
        unfold bX10_bestThrow_132
        refine gHo_l32 (by omega) (by omega) (ih _ _ _ _ _ _ ⟨rfl, rfl, ⟨i + 1, by omega, by omega, ic'⟩, fun x hx => by rw [y1 x hx, k1 x hx, fr x hx], y4, fun p p0 p4 => by rw [y2, y3, k3]; exact tq p p0 p4⟩ (by omega))
      refine gHo_let (gHo_if (fun e2 => ?_) (fun e2 => ?_))
      · have fl : f i = lim := by
          by_cases c : f i ≤ lim
          · have := (k5 c).1; omega
          · have := k6 (by omega); omega
        rw [(k5 (by omega)).2, jBd_s]
        unfold bX10_bestThrow_106
        exact gHo_if (fun e3 => back _ _ (yIc_keep ic m0 e3)) (fun e3 => back _ _ (yIc_take ic (by omega) fl (by omega)))
      · have nf : ¬ f i = lim := fun c => e2 (by have := (k5 (by omega)).1; omega)
        unfold bX10_bestThrow_106
        refine gHo_if (fun e3 => back _ _ (yIc_skip ic (fun z => nf z.2))) (fun e3 => ?_)
        exfalso
        rcases ic with ⟨-, z, -⟩ | ⟨z1, z2, -, z3, -⟩
        · omega
        · have := (hfm b z1.1 (by omega) z2).2.2.1
          omega
theorem zX10_bestThrow {s : jMem} {h v f7 f13 : Int} {f m : Int → Int} (hI : iT s) (hch : yCch s) (h0 : 0 ≤ h) (h4 : h < 4) (hfm : yFm f7 f13 (4 - s 58 h) (vH s h) (vL s h) (vU s h) f m) (e7 : s 6 0 = f7) (e13 : s 6 1 = f13) (yl : yLack f7 f13 (4 - s 58 h) (vH s h) (vL s h) v) : jHo (fun b t => fC s t ∧ yCch t ∧ ∃ x, yIc (vH s h) f m (if v < 1 then 1 else v) 34 b x) (fX10_bestThrow (37 + 4 * h) s) := by
  obtain ⟨a1, a2, a3, a4, a5, a6⟩ := hI.2.1 h h0 h4
  have bd := iT_lack hI h0 h4 yl
  have rk := zX3_reckon (lim := 14) ⟨by decide, by decide⟩ hI hch h0 h4
  rw [show ((14 : Nat) : Int) = 14 from rfl] at rk
  unfold fX10_bestThrow
  refine gHo_bd rk (fun _ s1 hs1 => gHo_let (gHo_let ?_))
  obtain ⟨k1, k2, k3, k4⟩ := hs1
  have cv := ((yAns_v k4 (by rw [k1 6 (by decide)]; exact e7) (by rw [k1 6 (by decide)]; exact e13) k2 yl).1 (by omega)).1
  rw [cv]
  obtain ⟨l, hl⟩ : ∃ l : Int, l = if v < 1 then 1 else v := ⟨_, rfl⟩
  have el : jmax v 1 = l := by rw [hl]; rfl
  have lb : 1 ≤ l ∧ l ≤ 14 := by rw [hl]; split <;> omega
  rw [el, ← hl]
  have fc1 := fK_C k1
  have hI1 := iT_C hI fc1
  refine gHo_bd (zX10_countHidden hI1 h0 h4) (fun _ s2 hs2 => ?_)
  obtain ⟨-, fr2, u2⟩ := hs2
  have fc2 : fC s s2 := fC_tr fc1 (fun x hx _ => fr2 x hx)
  have hI2 := iT_C hI fc2
  have ch2 : yCch s2 := fun x x0 x1 => by rw [fr2 14 (by decide), fr2 15 (by decide)]; exact k3.1.2.2.2.2.2 x x0 x1
  have rk2 := zX3_reckon (lim := l.toNat) ⟨by omega, by omega⟩ hI2 ch2 h0 h4
  rw [show ((l.toNat : Nat) : Int) = l by omega] at rk2
  have vh2 := vH_C fc2 h
  have vl2 : vL s2 h = vL s h := by funext q; unfold vL; rw [fc2 57 (by decide) (by decide)]
  have e58 := fc2 58 (by decide) (by decide)
  have eU : vU s1 h = vU s h := by
    funext q
    unfold vU vH vL
    rw [fc1 55 (by decide) (by decide), fc1 56 (by decide) (by decide), fc1 57 (by decide) (by decide)]
  refine gHo_bd rk2 (fun _ s3 hs3 => ?_)
  obtain ⟨n1, n2, n3, -⟩ := hs3
  rw [vh2, vl2] at n2
  rw [e58] at n3
  have lp := zX10_bestLoop (s := s3) (h := h) (lim := l.toNat) h0 h4 hfm n3 (by rw [n1 6 (by decide), fr2 6 (by decide), k1 6 (by decide)]; exact e7) (by rw [n1 6 (by decide), fr2 6 (by decide), k1 6 (by decide)]; exact e13) (fun p p0 p4 => ⟨(n2 p p0 p4).1, (n2 p p0 p4).2, by rw [n1 _ (by omega), fr2 _ (by omega), k1 _ (by omega)]; exact (a1 p p0 p4).1⟩) (fun p p0 p4 => by
    rw [n1 5 (by decide), u2 p p0 p4, eU]
    have a := iT_U hI h0 h4 p0 p4
    have b := (a1 p p0 p4).2.2
    exact ⟨rfl, by omega, by omega⟩)
  rw [show ((l.toNat : Nat) : Int) = l by omega] at lp
  refine gHo_mono lp (fun b t ht => ?_)
  obtain ⟨q1, q2, q3⟩ := ht
  exact ⟨fC_tr fc2 (fC_tr (fK_C n1) (fun x _ hx => q1 x (by omega))), q2, q3⟩
/-- a tile more or less, the reference -/
theorem zX11_chg {t : jMem} {w q d : Int} (hr : yRdy t w) (q0 : 0 ≤ q) (q4 : q < 34) (h1 : 0 ≤ t 68 q + d ∧ t 68 q + d ≤ 14) (hd : -14 ≤ d ∧ d ≤ 14) : jHo (fun _ u => (∀ y : Int, y ≠ 68 → y ≠ 72 → y ≠ 73 → y ≠ 74 → u y = t y) ∧ u 68 = yUp (t 68) q (t 68 q + d) ∧ yRdy u w) (fX11_change q d t) := by
  obtain ⟨r1, r2, r3, r4, r5⟩ := hr
  have rq := r3 q q0 q4
  refine gHo_mono (zX11_change (d := d) q0 q4 (fun p p0 p4 => by have := r3 p p0 p4; omega) (by omega) (by omega) r5) (fun _ u hu => ?_)
  obtain ⟨k1, k2, k3⟩ := hu
  refine ⟨k1, k2, r1, by rw [k1 53 (by decide) (by decide) (by decide) (by decide)]; exact r2, fun p p0 p4 => ?_, fun w4 p p0 p4 => ?_, k3⟩
  · rw [k2, k1 69 (by decide) (by decide) (by decide) (by decide)]
    have := r3 p p0 p4
    by_cases e : p = q
    · subst e; rw [yUp_at]; omega
    · rw [yUp_o e]; exact this
  · rw [k1 69 (by decide) (by decide) (by decide) (by decide)]; exact r4 w4 p p0 p4
theorem zX11_bestLoop {s : jMem} {w f7 f13 : Int} {H L u f m : Int → Int} (hfm : yFm f7 f13 w H L u f m) (hr : yRdy s w) (e7 : s 53 10 = f7) (e13 : s 53 11 = f13) (hq : ∀ p : Int, 0 ≤ p → p < 34 → s 68 p = H p ∧ s 69 p = L p) (hs : jSum (s 68) 34 ≤ 14) (hu : ∀ p : Int, 0 ≤ p → p < 34 → s 76 p = u p ∧ 0 ≤ u p ∧ u p ≤ 1000) : jHo (fun b t => (∀ y : Int, y ≠ 53 → y ≠ 68 → y ≠ 72 → y ≠ 73 → y ≠ 74 → y ≠ 75 → t y = s y) ∧ (∀ y : Int, y ≠ 27 → t 53 y = s 53 y) ∧ ∃ l x, yIr H f m 34 b l x) (jIt (fun _ _ _ _ _ => none) (bX11_best_48) 1000 (-3) 99 (-1) 0 s) := by
  have u68 : jik 68 = 34 := by decide +kernel
  refine gIt5 (fun b l x q t => (∃ i : Nat, q = i ∧ i ≤ 34 ∧ yIr H f m i b l x) ∧ (∀ y : Int, y ≠ 53 → y ≠ 68 → y ≠ 72 → y ≠ 73 → y ≠ 74 → y ≠ 75 → t y = s y) ∧ (∀ y : Int, y ≠ 27 → t 53 y = s 53 y) ∧ t 68 = s 68 ∧ yRdy t w) (fun _ _ _ q => (34 - q).toNat) ?_ 1000 (-3) 99 (-1) 0 s ⟨⟨0, rfl, by omega, Or.inl ⟨rfl, rfl, rfl, fun q q0 q1 => by omega⟩⟩, fun _ _ _ _ _ _ _ => rfl, fun _ _ => rfl, rfl, hr⟩ (by decide)
  rintro rec b l x q t ⟨⟨i, rfl, hi, ir⟩, fr, f53, t68, rdy⟩ ih
  unfold bX11_best_48
  refine gHo_if (fun e => ?_) (fun e => ?_)
  · have : i = 34 := by omega
    subst this
    exact gHo_ret ⟨fr, f53, l, x, ir⟩
  · have i34 : (i : Int) < 34 := by omega
    have hqi := hq i (by omega) i34
    have r3 := rdy.2.2.1 i (by omega) i34
    refine gHo_gd ⟨by omega, by omega⟩ (gHo_let ?_)
    rw [t68, hqi.1]
    rw [t68, hqi.1] at r3
    have next : ∀ (b' l' x' : Int) (z : jMem), yIr H f m (i + 1) b' l' x' → (∀ y : Int, y ≠ 53 → y ≠ 68 → y ≠ 72 → y ≠ 73 → y ≠ 74 → y ≠ 75 → z y = s y) → (∀ y : Int, y ≠ 27 → z 53 y = s 53 y) → z 68 = s 68 → yRdy z w → jHo (fun b t => (∀ y : Int, y ≠ 53 → y ≠ 68 → y ≠ 72 → y ≠ 73 → y ≠ 74 → y ≠ 75 → t y = s y) ∧ (∀ y : Int, y ≠ 27 → t 53 y = s 53 y) ∧ ∃ l x, yIr H f m 34 b l x) (bX11_best_126 rec b' l' x' i z) := by
      intro b' l' x' z z1 z2 z3 z4 z5
      unfold bX11_best_126
      exact gHo_l32 (by omega) (by omega) (ih _ _ _ _ _ ⟨⟨i + 1, by omega, by omega, z1⟩, z2, z3, z4, z5⟩ (by omega))
    refine gHo_if (fun e1 => next _ _ _ t ?_ fr f53 t68 rdy) (fun e1 => ?_)
    · rcases ir with ⟨h1, h2, h3, h4⟩ | ⟨h1, h2, h3, h4, h5⟩
      · refine Or.inl ⟨h1, h2, h3, fun q q0 q1 => ?_⟩
        by_cases e : q = i
        · subst e; omega
        · exact h4 q q0 (by omega)
      · refine Or.inr ⟨by omega, h2, h3, h4, fun q q0 q1 a => ?_⟩
        by_cases e : q = i
        · subst e; omega
        · exact h5 q q0 (by omega) a
    · have h1 : 1 ≤ H i := by omega
      obtain ⟨yl, bdf, m0, bb, hm, hb⟩ := hfm i (by omega) i34 h1
      refine gHo_bd (zX11_chg (d := -1) rdy (by omega) i34 (by rw [t68, hqi.1]; omega) (by omega)) (fun _ t2 ht2 => ?_)
      obtain ⟨m1, m2, m3⟩ := ht2
      have g53 := m1 53 (by decide) (by decide) (by decide) (by decide)
      rw [t68] at m2
      have hh : ∀ p : Int, 0 ≤ p → p < 34 → t2 68 p = yUp H i (H i + -1) p ∧ t2 69 p = L p := fun p p0 p4 => ⟨by rw [m2]; exact yUp_cg (by omega) i34 (fun p p0 p4 => (hq p p0 p4).1) p p0 p4, by rw [m1 69 (by decide) (by decide) (by decide) (by decide), fr 69 (by decide) (by decide) (by decide) (by decide) (by decide) (by decide)]; exact (hq p p0 p4).2⟩
      obtain ⟨v, e2, yl2, -⟩ := zX11_lackOf m3.1 m3.2.1 (fun q q0 q4 => (m3.2.2.1 q q0 q4).1) m3.2.2.2.2
      rw [g53, f53 10 (by decide), f53 11 (by decide), e7, e13] at yl2
      have ev : v = f i := yLack_u (yLack_cg hh yl2) yl
      subst ev
      have fr2 : ∀ y : Int, y ≠ 53 → y ≠ 68 → y ≠ 72 → y ≠ 73 → y ≠ 74 → y ≠ 75 → t2 y = s y := fun y y1 y2 y3 y4 y5 y6 => by rw [m1 y y2 y3 y4 y5]; exact fr y y1 y2 y3 y4 y5 y6
      rw [e2, jBd_s]
      have back : ∀ (b' l' x' : Int) (z : jMem), yIr H f m (i + 1) b' l' x' → (∀ y : Int, y ≠ 53 → y ≠ 68 → y ≠ 72 → y ≠ 73 → y ≠ 74 → y ≠ 75 → z y = s y) → (∀ y : Int, y ≠ 27 → z 53 y = s 53 y) → z 68 = yUp (s 68) i (s 68 i + -1) → yRdy z w → jHo (fun b t => (∀ y : Int, y ≠ 53 → y ≠ 68 → y ≠ 72 → y ≠ 73 → y ≠ 74 → y ≠ 75 → t y = s y) ∧ (∀ y : Int, y ≠ 27 → t 53 y = s 53 y) ∧ ∃ l x, yIr H f m 34 b l x) (bX11_best_119 (bX11_best_126 rec) b' l' x' i z) := by
        intro b' l' x' z z1 z2 z3 z4 z5
        unfold bX11_best_119
        have zi : z 68 i = H i + -1 := by rw [z4, yUp_at, hqi.1]
        refine gHo_bd (zX11_chg (d := 1) z5 (by omega) i34 (by omega) (by omega)) (fun _ t3 ht3 => ?_)
        obtain ⟨n1, n2, n3⟩ := ht3
        refine next _ _ _ t3 z1 (fun y y1 y2 y3 y4 y5 y6 => by rw [n1 y y2 y3 y4 y5]; exact z2 y y1 y2 y3 y4 y5 y6) (fun y hy => by rw [n1 53 (by decide) (by decide) (by decide) (by decide)]; exact z3 y hy) ?_ n3
        rw [n2, z4, yUp_back]
      refine gHo_if (fun e3 => back _ _ _ t2 (yIr_skip ir (Or.inr (Or.inl e3)) (by omega) (Or.inl m0)) fr2 (fun y hy => by rw [g53]; exact f53 y hy) m2 m3) (fun e3 => ?_)
      have e76 : ∀ p : Int, 0 ≤ p → p < 34 → t2 76 p = u p ∧ 0 ≤ u p ∧ u p ≤ 1000 := fun p p0 p4 => by
        rw [fr2 76 (by decide) (by decide) (by decide) (by decide) (by decide) (by decide)]; exact hu p p0 p4
      refine gHo_bd (zX11_helping m3 (by rw [m2, yUp_sum (by omega) i34]; omega) (fun p p0 p4 => by have := e76 p p0 p4; omega)) (fun r t3 ht3 => ?_)
      obtain ⟨n1, n2, n3, v', yl3, b', hr', hb'⟩ := ht3
      rw [g53, f53 10 (by decide), f53 11 (by decide), e7, e13] at yl3 hb'
      have ev : v' = f i := yLack_u (yLack_cg hh yl3) yl
      subst ev
      have er : r = m i := by
        rw [hr', hm]
        refine jSum_cg (fun p hp => ?_)
        have a := hb p (by omega) (by omega)
        have c := hb' p (by omega) (by omega)
        have d := yHc_cg (f7 := f7) (f13 := f13) (w := w) (v := f i) (q := (p : Int)) hh (by omega) (by omega)
        have same : b' p = bb p := by
          have x := c.2.trans (d.trans a.2.symm)
          rcases a.1 with y | y
          · rw [x.mpr y, y]
          · rcases c.1 with z | z
            · have := x.mp z; omega
            · omega
        rw [same, (e76 p (by omega) (by omega)).1]
      subst er
      have fr3 : ∀ y : Int, y ≠ 53 → y ≠ 68 → y ≠ 72 → y ≠ 73 → y ≠ 74 → y ≠ 75 → t3 y = s y := fun y y1 y2 y3 y4 y5 y6 => by rw [n1 y y1 y3 y4 y5 y6]; exact fr2 y y1 y2 y3 y4 y5 y6
      have g53' : ∀ y : Int, y ≠ 27 → t3 53 y = s 53 y := fun y hy => by rw [n2 y hy, g53]; exact f53 y hy
      have g68 : t3 68 = yUp (s 68) i (s 68 i + -1) := by rw [n1 68 (by decide) (by decide) (by decide) (by decide) (by decide)]; exact m2
      refine gHo_if (fun e4 => ?_) (fun e4 => gHo_if (fun e5 => ?_) (fun e5 => ?_))
      · unfold bX11_best_108 bX11_best_115
        exact back _ _ _ t3 (yIr_take ir h1 (Or.inl e4)) fr3 g53' g68 n3
      · unfold bX11_best_115
        have : f i = l := by omega
        rw [this]
        exact back _ _ _ t3 (yIr_skip ir (Or.inr (Or.inr ⟨this.symm, e5⟩)) (by omega) (Or.inl m0)) fr3 g53' g68 n3
      · unfold bX11_best_108 bX11_best_115
        exact back _ _ _ t3 (yIr_take ir h1 (Or.inr ⟨by omega, by omega⟩)) fr3 g53' g68 n3
end
