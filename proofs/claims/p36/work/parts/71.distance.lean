/-! ===== lacks: distance, waits, helps ===== -/
section
theorem fK_C {s t : jMem} (h : fK s t) : fC s t := fun x _ x2 => h x (by omega)
theorem iT_nolaid {s : jMem} {h : Int} (hI : iT s) (h0 : 0 ≤ h) (h4 : h < 4) (w4 : 4 - s 58 h = 4) (q : Int) (q0 : 0 ≤ q) (q4 : q < 34) : vL s h q = 0 := by
  obtain ⟨b1, b2⟩ := hI.2.2 h h0 h4
  rw [b2 q q0 q4, show s 58 h = 0 by omega]
  rfl
/-- the reference looks and lays -/
theorem zX11_rdy {s s1 : jMem} {h : Int} {P : Int → jMem → Prop} {K : jMem → jO} (hI : iT s) (fc : fC s s1) (h0 : 0 ≤ h) (h4 : h < 4) (hK : ∀ t : jMem, (∀ x : Int, x ≠ 53 → x ≠ 68 → x ≠ 69 → x ≠ 72 → x ≠ 73 → x ≠ 74 → t x = s1 x) → (∀ y : Int, y ≠ 20 → t 53 y = s1 53 y) → (∀ q : Int, 0 ≤ q → q < 34 → t 68 q = vH s h q ∧ t 69 q = vL s h q) → yRdy t (4 - s 58 h) → jSum (t 68) 34 = jSum (vH s h) 34 → jHo P (K t)) : jHo P (jBd (fX11_look h s1) fun _ z => jBd (fX11_layAll z) fun _ t => K t) := by
  obtain ⟨a1, a2, a3, a4, a5, a6⟩ := hI.2.1 h h0 h4
  have vh : ∀ q : Int, vH s1 h q = vH s h q := fun q => by unfold vH; rw [fc 56 (by decide) (by decide)]
  have vl : ∀ q : Int, vL s1 h q = vL s h q := fun q => by unfold vL; rw [fc 57 (by decide) (by decide)]
  refine gHo_bd (zX11_look h0 h4) (fun _ t ht => ?_)
  obtain ⟨p1, p2, p3, p4⟩ := ht
  have p4' : ∀ q : Int, 0 ≤ q → q < 34 → t 68 q = vH s h q ∧ t 69 q = vL s h q := fun q q0 q4 => by
    have := p4 q q0 q4
    rw [vh, vl] at this
    exact this
  refine gHo_bd (zX11_layAll (fun q q0 q4 => by
    have := p4' q q0 q4
    have := a1 q q0 q4
    omega)) (fun _ t2 ht2 => ?_)
  obtain ⟨k1, k2⟩ := ht2
  have e68 := k1 68 (by decide) (by decide) (by decide)
  have e69 := k1 69 (by decide) (by decide) (by decide)
  have e53 := k1 53 (by decide) (by decide) (by decide)
  refine hK t2 (fun x x1 x2 x3 x4 x5 x6 => by rw [k1 x x4 x5 x6, p1 x x1 x2 x3]) (fun y hy => by rw [e53]; exact p2 y hy) (fun q q0 q4 => by rw [e68, e69]; exact p4' q q0 q4) ⟨⟨by omega, by omega⟩, by rw [e53, p3, fc 58 (by decide) (by decide)]; omega, fun q q0 q4 => ?_, fun w4 q q0 q4 => ?_, k2⟩ (by rw [e68]; exact jSum_cg (fun i hi => (p4' i (by omega) (by omega)).1))
  · rw [e68, e69, (p4' q q0 q4).1, (p4' q q0 q4).2]
    have := a1 q q0 q4
    omega
  · rw [e69, (p4' q q0 q4).2]
    exact iT_nolaid hI h0 h4 w4 q q0 q4
/-- the class's answer, by the reference's lack -/
theorem yAns_v {lim : Nat} {w f7 f13 v : Int} {t : jMem} {H L : Int → Int} (h : yAns lim w t) (e7 : t 6 0 = f7) (e13 : t 6 1 = f13) (hq : ∀ q : Int, 0 ≤ q → q < 34 → t 8 q = H q ∧ t 9 q = L q) (k : yLack f7 f13 w H L v) : (v ≤ lim → t 7 12 = v ∧ ∃ B : Nat, t 7 13 = (B : Int) ∧ B < 2 ^ 34 ∧ ∀ q : Nat, q < 34 → (B.testBit q = true ↔ yHc f7 f13 w H L v q)) ∧ ((lim : Int) < v → (lim : Int) < t 7 12) := by
  obtain ⟨v', B, k1, k2, k3, k4, k5, k6, k7⟩ := h
  rw [e7, e13] at k1 k4
  have : v' = v := yLack_u (yLack_cg hq k1) k
  subst this
  refine ⟨fun z => ⟨(k4 z).1, B, k2, k3, fun q hq' => ?_⟩, k5⟩
  rw [(k4 z).2 q hq']
  exact yHc_cg hq (by omega) (by omega)
theorem iT_lack {s : jMem} {h v f7 f13 : Int} (hI : iT s) (h0 : 0 ≤ h) (h4 : h < 4) (k : yLack f7 f13 (4 - s 58 h) (vH s h) (vL s h) v) : 14 - (jSum (vH s h) 34 + 3 * s 58 h) ≤ v ∧ v ≤ 14 := by
  obtain ⟨a1, a2, a3, a4, a5, a6⟩ := hI.2.1 h h0 h4
  have := yLack_bd ⟨by omega, by omega⟩ (fun q q0 q4 => (a1 q q0 q4).2.2.1) (fun q q0 q4 => (a1 q q0 q4).2.2.2.2.2) (iT_room hI h0 h4) k
  omega
theorem sX11_sizeOf_C {s t : jMem} {h : Int} (hI : iT s) (hC : fC s t) (h0 : 0 ≤ h) (h4 : h < 4) : fX11_sizeOf h t = some (jSum (vH s h) 34 + 3 * s 58 h, t) := by
  obtain ⟨a1, a2, a3, a4, a5, a6⟩ := hI.2.1 h h0 h4
  have e58 := hC 58 (by decide) (by decide)
  have vh : ∀ q : Int, vH t h q = vH s h q := fun q => by unfold vH; rw [hC 56 (by decide) (by decide)]
  rw [sX11_sizeOf h0 h4 (fun i hi => by rw [vh]; exact vH_bd (hI.2.1 h h0 h4) i hi) (by rw [e58]; omega), e58, jSum_cg (fun i hi => vh i)]
theorem zX1_size {s : jMem} {h : Int} (hI : iT s) (h0 : 0 ≤ h) (h4 : h < 4) : fX1_isFull (37 + 4 * h) s = some (jb (jSum (vH s h) 34 + 3 * s 58 h = 14), s) ∧ fX1_rests (37 + 4 * h) s = some (jb (jSum (vH s h) 34 + 3 * s 58 h = 13), s) := by
  obtain ⟨a1, a2, a3, a4, a5, a6⟩ := hI.2.1 h h0 h4
  have nn := jSum_le (f := fun _ => 0) (g := vH s h) (n := 34) (fun i hi => (a1 i (by omega) (by omega)).2.2.1)
  rw [jSum_0] at nn
  have b : 0 ≤ s (37 + 4 * h) 3 ∧ s (37 + 4 * h) 3 ≤ 1000 ∧ 0 ≤ s (37 + 4 * h) 4 ∧ s (37 + 4 * h) 4 ≤ 1000 := by rw [a5, a2]; omega
  rw [sX1_isFull h0 h4 b, sX1_rests h0 h4 b, a5, a2]
  exact ⟨rfl, rfl⟩
theorem op_distance {h : Int} {s : jMem} (hI : iT s) (hF : iF s) (hch : yCch s) : ∃ v s1 s2, fX10_distance h s = some (v, s1) ∧ fX11_distance h s1 = some (v, s2) ∧ fC s s1 ∧ fM s1 s2 ∧ yCch s1 := by
  have w := jrk_t
  by_cases hh : 0 ≤ h ∧ h < 4
  · obtain ⟨h0, h4⟩ := hh
    obtain ⟨t0, t1, -⟩ := jh_t h0 h4
    obtain ⟨a1, a2, a3, a4, a5, a6⟩ := hI.2.1 h h0 h4
    obtain ⟨full, rests⟩ := zX1_size hI h0 h4
    by_cases hs : 13 ≤ jSum (vH s h) 34 + 3 * s 58 h
    · obtain ⟨v0, s1, e1, fk, hq, tb, ans⟩ := zX3_reckon (lim := 14) ⟨by decide, by decide⟩ hI hch h0 h4
      rw [show ((14 : Nat) : Int) = 14 from rfl] at e1
      have fc := fK_C fk
      have e6 := fk 6 (by decide)
      have e53 := fk 53 (by decide)
      have m : jHo (fun r t => r = jmax (s1 7 12) 1 - 1 ∧ fM s1 t ∧ -100 ≤ s1 7 12 ∧ s1 7 12 ≤ 14) (fX11_distance h s1) := by
        rw [fX11_distance, sX11_isHand, jBd_s, jb_1 ⟨h0, by omega⟩, if_neg (show ¬ (1 : Int) = 0 by decide), sX11_sizeOf_C hI fc h0 h4, jBd_s, if_pos hs]
        refine zX11_rdy hI fc h0 h4 (fun t k1 k2 k3 k4 k5 => ?_)
        obtain ⟨v, e2, yl, -⟩ := zX11_lackOf k4.1 k4.2.1 (fun q q0 q4 => (k4.2.2.1 q q0 q4).1) k4.2.2.2.2
        rw [k2 10 (by decide), k2 11 (by decide), e53] at yl
        have yl2 := yLack_cg k3 yl
        have bd := iT_lack hI h0 h4 yl2
        have cv := (yAns_v ans (f7 := s 53 10) (f13 := s 53 11) (by rw [e6]; exact hF.1) (by rw [e6]; exact hF.2.1) hq yl2).1 (by omega)
        rw [e2, jBd_s, cv.1]
        have fm : fM s1 t := fun x y hx hy => by
          by_cases e : x = 53
          · subst e; exact k2 y (by omega)
          · rw [k1 x e (by omega) (by omega) (by omega) (by omega) (by omega)]
        unfold fX11_distanceOf jmax
        by_cases c : 1 ≤ v
        · rw [if_pos c, jLet_e, j32_id (by omega) (by omega)]
          exact gHo_ret ⟨by split <;> omega, fm, by omega, by omega⟩
        · rw [if_neg c]
          exact gHo_ret ⟨by split <;> omega, fm, by omega, by omega⟩
      obtain ⟨v, s2, e2, rfl, fm, c1, c2⟩ := m
      have jm : 1 ≤ jmax (s1 7 12) 1 ∧ jmax (s1 7 12) 1 ≤ 14 := by unfold jmax; split <;> omega
      refine ⟨_, s1, s2, ?_, e2, fc, fm, tb.1.2.2.2.2.2⟩
      have go : bX10_distance_36 h s = some (jmax (s1 7 12) 1 - 1, s1) := by
        unfold bX10_distance_36
        rw [jGd_e ⟨h0, by omega⟩, jLet_e, t0, e1, jBd_s, jLet_e, jLet_e, jLet_e, j32_id (by omega) (by omega)]
        rfl
      rw [fX10_distance, sX10_isHand, jBd_s, jb_1 ⟨h0, h4⟩, if_neg (by decide), jGd_e ⟨h0, by omega⟩, jLet_e, t0, jGd_e t1, full, jBd_s]
      by_cases c : jSum (vH s h) 34 + 3 * s 58 h = 14
      · rw [jb_1 c, if_neg (by decide)]; exact go
      · rw [jb_0 c, if_pos rfl, jGd_e ⟨h0, by omega⟩, jLet_e, jGd_e t1, rests, jBd_s, jb_1 (by omega), if_neg (by decide)]; exact go
    · refine ⟨-2, s, s, ?_, ?_, fC_rf s, fM_rf s, hch⟩
      · rw [fX10_distance, sX10_isHand, jBd_s, jb_1 ⟨h0, h4⟩, if_neg (by decide), jGd_e ⟨h0, by omega⟩, jLet_e, t0, jGd_e t1, full, jBd_s, jb_0 (by omega), if_pos rfl, jGd_e ⟨h0, by omega⟩, jLet_e, jGd_e t1, rests, jBd_s, jb_0 (by omega), if_pos rfl]; rfl
      · rw [fX11_distance, sX11_isHand, jBd_s, jb_1 ⟨h0, by omega⟩, if_neg (by decide), sX11_sizeOf_C hI (fC_rf s) h0 h4, jBd_s, if_neg hs]; rfl
  · refine ⟨-1, s, s, ?_, ?_, fC_rf s, fM_rf s, hch⟩
    · rw [fX10_distance, sX10_isHand, jBd_s, jb_0 hh, if_pos rfl]; rfl
    · rw [fX11_distance, sX11_isHand, jBd_s, jb_0 (by omega), if_pos rfl]; rfl
/-- what helps, by the reference, with the class's answer up to a limit at hand -/
theorem zX11_helpsr {s s1 : jMem} {h i d : Int} {lim : Nat} (hl : 1 ≤ lim) (hI : iT s) (hF : iF s) (fk : fK s s1) (hq : ∀ q : Int, 0 ≤ q → q < 34 → s1 8 q = vH s h q ∧ s1 9 q = vL s h q) (ans : yAns lim (4 - s 58 h) s1) (h0 : 0 ≤ h) (h4 : h < 4) (hi : 0 ≤ i ∧ i < 2147483648) (hs : jSum (vH s h) 34 + 3 * s 58 h = 13) (hd : d = 0 ∧ lim = 14 ∨ d = 1) : jHo (fun r t => fM s1 t ∧ (if d = 0 ∨ s1 7 12 = 1 then ∃ v, fX3_helper i s1 = some (v, s1) ∧ r = v else r = -3)) (fX11_helped h i d s1) := by
  have fc := fK_C fk
  have e6 := fk 6 (by decide)
  have e53 := fk 53 (by decide)
  unfold fX11_helped
  rw [sX11_isHand, jBd_s, jb_1 ⟨h0, by omega⟩, if_neg (show ¬ (1 : Int) = 0 by decide), if_pos hi.1, sX11_sizeOf_C hI fc h0 h4, jBd_s, if_pos hs]
  refine zX11_rdy hI fc h0 h4 (fun t k1 k2 k3 k4 k5 => ?_)
  obtain ⟨a1, a2, a3, a4, a5, a6⟩ := hI.2.1 h h0 h4
  refine gHo_bd (zX11_layHelps k4 (by omega)) (fun _ t2 ht2 => ?_)
  obtain ⟨m1, m2, m3, m4, m5⟩ := ht2
  have m5' := m5
  rw [k2 10 (by decide), k2 11 (by decide), e53] at m4 m5
  have yl := yLack_cg k3 m4
  obtain ⟨v, hv⟩ : ∃ v, v = t2 53 27 := ⟨_, rfl⟩
  rw [← hv] at yl m5
  have bd := iT_lack hI h0 h4 yl
  obtain ⟨cv, cv2⟩ := yAns_v ans (f7 := s 53 10) (f13 := s 53 11) (by rw [e6]; exact hF.1) (by rw [e6]; exact hF.2.1) hq yl
  have fm : fM s1 t2 := fun x y hx hy => by
    by_cases e : x = 53
    · subst e; rw [m2 y (by omega)]; exact k2 y (by omega)
    · rw [m1 x e (by omega) (by omega) (by omega) (by omega), k1 x e (by omega) (by omega) (by omega) (by omega) (by omega)]
  have same : v ≤ lim → fX3_helper i s1 = some (yNt (t2 75) 34 0 i, s1) := by
    intro z
    obtain ⟨-, B, b1, b2, b3⟩ := cv z
    refine zX3_helper hi b2 b1 (fun q hq' => ?_)
    have := m5 q (by omega) (by omega)
    have e := yHc_cg (f7 := s 53 10) (f13 := s 53 11) (w := 4 - s 58 h) (v := v) (q := (q : Int)) k3 (by omega) (by omega)
    rw [b3 q hq', ← e, ← this.2]
    have := this.1
    constructor
    · intro z z1; omega
    · intro z; omega
  have refn := zX11_helpAt (s := t2) (b := t2 75) hi (fun _ _ _ => rfl)
  rcases hd with ⟨rfl, rfl⟩ | rfl
  · rw [if_pos (show (0 : Int) = 0 from rfl), refn, jBd_s]
    refine gHo_ret ⟨fm, ?_⟩
    rw [if_pos (Or.inl rfl)]
    exact ⟨_, same (by omega), rfl⟩
  · rw [if_neg (show ¬ (1 : Int) = 0 by decide)]
    refine gHo_let ?_
    rw [← hv]
    by_cases c : v = 1
    · have z := (cv (by omega)).1
      rw [if_pos c, refn, jBd_s]
      refine gHo_ret ⟨fm, ?_⟩
      rw [if_pos (Or.inr (by omega))]
      exact ⟨_, same (by omega), rfl⟩
    · rw [if_neg c]
      refine gHo_ret ⟨fm, ?_⟩
      rw [if_neg (fun z => ?_)]
      rcases z with z | z
      · exact absurd z (by decide)
      · by_cases e : v ≤ lim
        · have := (cv e).1; omega
        · have := cv2 (by omega); omega
theorem op_waits {h i : Int} {s : jMem} (hI : iT s) (hF : iF s) (hch : yCch s) (hi : i < 2147483648) : ∃ v s1 s2, fX10_waits h i s = some (v, s1) ∧ fX11_waits h i s1 = some (v, s2) ∧ fC s s1 ∧ fM s1 s2 ∧ yCch s1 := by
  have w := jrk_t
  by_cases hh : 0 ≤ h ∧ h < 4
  · obtain ⟨h0, h4⟩ := hh
    obtain ⟨t0, t1, -⟩ := jh_t h0 h4
    by_cases i0 : 0 ≤ i
    · obtain ⟨full, rests⟩ := zX1_size hI h0 h4
      by_cases hs : jSum (vH s h) 34 + 3 * s 58 h = 13
      · obtain ⟨v0, s1, e1, fk, hq, tb, ans⟩ := zX3_reckon (lim := 1) ⟨by decide, by decide⟩ hI hch h0 h4
        rw [show ((1 : Nat) : Int) = 1 from rfl] at e1
        obtain ⟨r, s2, e2, fm, hr⟩ := zX11_helpsr (d := 1) (lim := 1) (by decide) hI hF fk hq ans h0 h4 ⟨i0, hi⟩ hs (Or.inr rfl)
        have e3 : fX11_waits h i s1 = some (r, s2) := by unfold fX11_waits; rw [e2, jBd_s]; rfl
        by_cases c : s1 7 12 = 1
        · rw [if_pos (Or.inr c)] at hr
          obtain ⟨v, e4, rfl⟩ := hr
          refine ⟨r, s1, s2, ?_, e3, fK_C fk, fm, tb.1.2.2.2.2.2⟩
          rw [fX10_waits, sX10_isHand, jBd_s, jb_1 ⟨h0, h4⟩, if_neg (by decide), if_pos i0, jGd_e ⟨h0, by omega⟩, jLet_e, t0, jGd_e t1, rests, jBd_s, jb_1 hs, if_neg (by decide), jGd_e ⟨h0, by omega⟩, jLet_e, e1, jBd_s, jLet_e, if_pos c, e4, jBd_s]; rfl
        · rw [if_neg (fun z => z.elim (by decide) c)] at hr
          subst hr
          refine ⟨-3, s1, s2, ?_, e3, fK_C fk, fm, tb.1.2.2.2.2.2⟩
          rw [fX10_waits, sX10_isHand, jBd_s, jb_1 ⟨h0, h4⟩, if_neg (by decide), if_pos i0, jGd_e ⟨h0, by omega⟩, jLet_e, t0, jGd_e t1, rests, jBd_s, jb_1 hs, if_neg (by decide), jGd_e ⟨h0, by omega⟩, jLet_e, e1, jBd_s, jLet_e, if_neg c]; rfl
      · refine ⟨-2, s, s, ?_, ?_, fC_rf s, fM_rf s, hch⟩
        · rw [fX10_waits, sX10_isHand, jBd_s, jb_1 ⟨h0, h4⟩, if_neg (by decide), if_pos i0, jGd_e ⟨h0, by omega⟩, jLet_e, t0, jGd_e t1, rests, jBd_s, jb_0 hs, if_pos rfl]; rfl
        · rw [fX11_waits, fX11_helped, sX11_isHand, jBd_s, jb_1 ⟨h0, by omega⟩, if_neg (by decide), if_pos i0, sX11_sizeOf_C hI (fC_rf s) h0 h4, jBd_s, if_neg hs]; rfl
    · refine ⟨-1, s, s, ?_, ?_, fC_rf s, fM_rf s, hch⟩
      · rw [fX10_waits, sX10_isHand, jBd_s, jb_1 ⟨h0, h4⟩, if_neg (by decide), if_neg i0]; rfl
      · rw [fX11_waits, fX11_helped, sX11_isHand, jBd_s, jb_1 ⟨h0, by omega⟩, if_neg (by decide), if_neg i0]; rfl
  · refine ⟨-1, s, s, ?_, ?_, fC_rf s, fM_rf s, hch⟩
    · rw [fX10_waits, sX10_isHand, jBd_s, jb_0 hh, if_pos rfl]; rfl
    · rw [fX11_waits, fX11_helped, sX11_isHand, jBd_s, jb_0 (by omega), if_pos rfl]; rfl
theorem op_helps {h i : Int} {s : jMem} (hI : iT s) (hF : iF s) (hch : yCch s) (hi : i < 2147483648) : ∃ v s1 s2, fX10_helps h i s = some (v, s1) ∧ fX11_helps h i s1 = some (v, s2) ∧ fC s s1 ∧ fM s1 s2 ∧ yCch s1 := by
  have w := jrk_t
  by_cases hh : 0 ≤ h ∧ h < 4
  · obtain ⟨h0, h4⟩ := hh
    obtain ⟨t0, t1, -⟩ := jh_t h0 h4
    by_cases i0 : 0 ≤ i
    · obtain ⟨full, rests⟩ := zX1_size hI h0 h4
      by_cases hs : jSum (vH s h) 34 + 3 * s 58 h = 13
      · obtain ⟨v0, s1, e1, fk, hq, tb, ans⟩ := zX3_reckon (lim := 14) ⟨by decide, by decide⟩ hI hch h0 h4
        rw [show ((14 : Nat) : Int) = 14 from rfl] at e1
        obtain ⟨r, s2, e2, fm, hr⟩ := zX11_helpsr (d := 0) (lim := 14) (by decide) hI hF fk hq ans h0 h4 ⟨i0, hi⟩ hs (Or.inl ⟨rfl, rfl⟩)
        have e3 : fX11_helps h i s1 = some (r, s2) := by unfold fX11_helps; rw [e2, jBd_s]; rfl
        rw [if_pos (Or.inl rfl)] at hr
        obtain ⟨v, e4, rfl⟩ := hr
        refine ⟨r, s1, s2, ?_, e3, fK_C fk, fm, tb.1.2.2.2.2.2⟩
        rw [fX10_helps, sX10_isHand, jBd_s, jb_1 ⟨h0, h4⟩, if_neg (by decide), if_pos i0, jGd_e ⟨h0, by omega⟩, jLet_e, t0, jGd_e t1, rests, jBd_s, jb_1 hs, if_neg (by decide), jGd_e ⟨h0, by omega⟩, jLet_e, e1, jBd_s, e4, jBd_s]; rfl
      · refine ⟨-2, s, s, ?_, ?_, fC_rf s, fM_rf s, hch⟩
        · rw [fX10_helps, sX10_isHand, jBd_s, jb_1 ⟨h0, h4⟩, if_neg (by decide), if_pos i0, jGd_e ⟨h0, by omega⟩, jLet_e, t0, jGd_e t1, rests, jBd_s, jb_0 hs, if_pos rfl]; rfl
        · rw [fX11_helps, fX11_helped, sX11_isHand, jBd_s, jb_1 ⟨h0, by omega⟩, if_neg (by decide), if_pos i0, sX11_sizeOf_C hI (fC_rf s) h0 h4, jBd_s, if_neg hs]; rfl
    · refine ⟨-1, s, s, ?_, ?_, fC_rf s, fM_rf s, hch⟩
      · rw [fX10_helps, sX10_isHand, jBd_s, jb_1 ⟨h0, h4⟩, if_neg (by decide), if_neg i0]; rfl
      · rw [fX11_helps, fX11_helped, sX11_isHand, jBd_s, jb_1 ⟨h0, by omega⟩, if_neg (by decide), if_neg i0]; rfl
  · refine ⟨-1, s, s, ?_, ?_, fC_rf s, fM_rf s, hch⟩
    · rw [fX10_helps, sX10_isHand, jBd_s, jb_0 hh, if_pos rfl]; rfl
    · rw [fX11_helps, fX11_helped, sX11_isHand, jBd_s, jb_0 (by omega), if_pos rfl]; rfl
end
