/-! ===== lacks: without, more, lack ===== -/
section
theorem iT_U {s : jMem} {h q : Int} (hI : iT s) (h0 : 0 ≤ h) (h4 : h < 4) (q0 : 0 ≤ q) (q4 : q < 34) : 0 ≤ vU s h q ∧ vU s h q + vH s h q + vL s h q ≤ 4 := by
  obtain ⟨-, -, w3, w4, w5⟩ := hI.1 q q0 q4
  have a := fun g (g0 : 0 ≤ g) (g4 : g < 4) => ((hI.2.1 g g0 g4).1 q q0 q4).2.2
  have a0 := a 0 (by omega) (by omega)
  have a1 := a 1 (by omega) (by omega)
  have a2 := a 2 (by omega) (by omega)
  have a3 := a 3 (by omega) (by omega)
  unfold vU
  rcases (by omega : h = 0 ∨ h = 1 ∨ h = 2 ∨ h = 3) with rfl | rfl | rfl | rfl <;> omega
/-- the class's refusal, the reference's -/
theorem zX10_refusal {s s1 : jMem} {h q : Int} (hI : iT s) (fc : fC s s1) : ∃ c, fX10_refusalOfThrow h q s = some (c, s) ∧ fX11_against h q s1 = some (c, s1) ∧ (c = 0 → (0 ≤ h ∧ h < 4) ∧ (0 ≤ q ∧ q < 34) ∧ jSum (vH s h) 34 + 3 * s 58 h = 14 ∧ 1 ≤ vH s h q) := by
  have w := jrk_t
  have u := jik_m
  by_cases hh : 0 ≤ h ∧ h < 4
  · obtain ⟨h0, h4⟩ := hh
    obtain ⟨t0, t1, t2, t3, t4, t5, t6, t7, t8, t9⟩ := jh_t h0 h4
    obtain ⟨full, rests⟩ := zX1_size hI h0 h4
    obtain ⟨a1, a2, a3, a4, a5, a6⟩ := hI.2.1 h h0 h4
    by_cases hq : 0 ≤ q ∧ q < 34
    · obtain ⟨q0, q4⟩ := hq
      have aq := a1 q q0 q4
      by_cases hs : jSum (vH s h) 34 + 3 * s 58 h = 14
      · by_cases hz : vH s h q = 0
        · refine ⟨-2, ?_, ?_, fun z => absurd z (by decide)⟩
          · rw [fX10_refusalOfThrow, sX10_isHand, jBd_s, jb_1 ⟨h0, h4⟩, if_neg (by decide), sX8_isSort, jBd_s, jb_1 ⟨q0, q4⟩, if_neg (by decide), jGd_e ⟨h0, by omega⟩, jLet_e, t0, jGd_e t1, full, jBd_s, jb_1 hs, if_neg (by decide), jGd_e ⟨h0, by omega⟩, jLet_e, jGd_e t1, jLet_e, t2, jGd_e ⟨q0, by omega⟩, jLet_e, aq.1, if_pos hz]; rfl
          · rw [fX11_against, sX11_isHand, jBd_s, jb_1 ⟨h0, by omega⟩, if_neg (by decide), sX11_isSort, jBd_s, jb_1 ⟨q0, by omega⟩, if_neg (by decide), sX11_isFull_C hI fc h0 h4, jBd_s, jb_1 hs, if_neg (by decide), jLet_e, j32_id (x := 34 * h) (by omega) (by omega), jLet_e, j32_id (x := 34 * h + q) (by omega) (by omega), jGd_e ⟨by omega, by omega⟩, jLet_e, if_pos (show s1 56 (34 * h + q) = 0 from (congrFun (vH_C fc h) q).trans hz)]; rfl
        · refine ⟨0, ?_, ?_, fun _ => ⟨⟨h0, h4⟩, ⟨q0, q4⟩, hs, by omega⟩⟩
          · rw [fX10_refusalOfThrow, sX10_isHand, jBd_s, jb_1 ⟨h0, h4⟩, if_neg (by decide), sX8_isSort, jBd_s, jb_1 ⟨q0, q4⟩, if_neg (by decide), jGd_e ⟨h0, by omega⟩, jLet_e, t0, jGd_e t1, full, jBd_s, jb_1 hs, if_neg (by decide), jGd_e ⟨h0, by omega⟩, jLet_e, jGd_e t1, jLet_e, t2, jGd_e ⟨q0, by omega⟩, jLet_e, aq.1, if_neg hz]; rfl
          · rw [fX11_against, sX11_isHand, jBd_s, jb_1 ⟨h0, by omega⟩, if_neg (by decide), sX11_isSort, jBd_s, jb_1 ⟨q0, by omega⟩, if_neg (by decide), sX11_isFull_C hI fc h0 h4, jBd_s, jb_1 hs, if_neg (by decide), jLet_e, j32_id (x := 34 * h) (by omega) (by omega), jLet_e, j32_id (x := 34 * h + q) (by omega) (by omega), jGd_e ⟨by omega, by omega⟩, jLet_e, if_neg (show ¬ s1 56 (34 * h + q) = 0 from fun z => hz ((congrFun (vH_C fc h) q).symm.trans z))]; rfl
      · refine ⟨-2, ?_, ?_, fun z => absurd z (by decide)⟩
        · rw [fX10_refusalOfThrow, sX10_isHand, jBd_s, jb_1 ⟨h0, h4⟩, if_neg (by decide), sX8_isSort, jBd_s, jb_1 ⟨q0, q4⟩, if_neg (by decide), jGd_e ⟨h0, by omega⟩, jLet_e, t0, jGd_e t1, full, jBd_s, jb_0 hs, if_pos rfl]; rfl
        · rw [fX11_against, sX11_isHand, jBd_s, jb_1 ⟨h0, by omega⟩, if_neg (by decide), sX11_isSort, jBd_s, jb_1 ⟨q0, by omega⟩, if_neg (by decide), sX11_isFull_C hI fc h0 h4, jBd_s, jb_0 hs, if_pos rfl]; rfl
    · refine ⟨-1, ?_, ?_, fun z => absurd z (by decide)⟩
      · rw [fX10_refusalOfThrow, sX10_isHand, jBd_s, jb_1 ⟨h0, h4⟩, if_neg (by decide), sX8_isSort, jBd_s, jb_0 hq, if_pos rfl]; rfl
      · rw [fX11_against, sX11_isHand, jBd_s, jb_1 ⟨h0, by omega⟩, if_neg (by decide), sX11_isSort, jBd_s, jb_0 (by omega), if_pos rfl]; rfl
  · refine ⟨-1, ?_, ?_, fun z => absurd z (by decide)⟩
    · rw [fX10_refusalOfThrow, sX10_isHand, jBd_s, jb_0 hh, if_pos rfl]; rfl
    · rw [fX11_against, sX11_isHand, jBd_s, jb_0 (by omega), if_pos rfl]; rfl
theorem zX10_refusal_u {s s1 : jMem} {h q c : Int} (hI : iT s) (fc : fC s s1) (e : fX10_refusalOfThrow h q s = some (c, s)) : fX11_against h q s1 = some (c, s1) := by
  obtain ⟨c', c1', c2', -⟩ := zX10_refusal (h := h) (q := q) hI fc
  rw [e] at c1'
  injection c1' with c1'
  injection c1' with c1' _
  rw [c1']; exact c2'
/-- a sort has d more -/
theorem yUp_sum {f : Int → Int} {q d : Int} (q0 : 0 ≤ q) (q4 : q < 34) : jSum (yUp f q (f q + d)) 34 = jSum f 34 + d := by
  have e := jSum_up (f := f) (g := yUp f q (f q + d)) (n := 34) (k := q.toNat) (by omega) (fun i hi hne => yUp_o (by omega))
  rw [show ((q.toNat : Nat) : Int) = q by omega, yUp_at] at e
  omega
theorem yUp_cg {f g : Int → Int} {q d : Int} (q0 : 0 ≤ q) (q4 : q < 34) (h : ∀ p : Int, 0 ≤ p → p < 34 → f p = g p) : ∀ p : Int, 0 ≤ p → p < 34 → yUp f q (f q + d) p = yUp g q (g q + d) p := by
  intro p p0 p4
  by_cases e : p = q
  · subst e; rw [yUp_at, yUp_at, h p p0 p4]
  · rw [yUp_o e, yUp_o e, h p p0 p4]
theorem zX10_reckonWithout {s : jMem} {h q : Int} (hI : iT s) (hch : yCch s) (h0 : 0 ≤ h) (h4 : h < 4) (q0 : 0 ≤ q) (q4 : q < 34) (h1 : 1 ≤ vH s h q) : jHo (fun _ t => fK s t ∧ (∀ p : Int, 0 ≤ p → p < 34 → t 8 p = yUp (vH s h) q (vH s h q + -1) p ∧ t 9 p = vL s h p) ∧ yAllR 14 (4 - s 58 h) t ∧ yAns 14 (4 - s 58 h) t) (fX10_reckonWithout (37 + 4 * h) q s) := by
  obtain ⟨a1, a2, a3, a4, a5, a6⟩ := hI.2.1 h h0 h4
  have aq := a1 q q0 q4
  unfold fX10_reckonWithout
  refine gHo_bd (zX3_reckon (lim := 14) ⟨by decide, by decide⟩ hI hch h0 h4) (fun _ t ht => ?_)
  obtain ⟨k1, k2, k3, -⟩ := ht
  have kq := k2 q q0 q4
  refine gHo_bd (zX3_change (d := -1) q0 q4 (by omega) (by omega) k3) (fun _ t2 ht2 => ?_)
  obtain ⟨m1, m2, m3⟩ := ht2
  refine gHo_bd (zX3_tot m3) (fun _ t3 ht3 => gHo_ret ?_)
  obtain ⟨n1, n2, n3⟩ := ht3
  refine ⟨fun x hx => by rw [n1 x (by omega) (by omega), m1 x (by omega), k1 x hx], fun p p0 p4 => ⟨?_, ?_⟩, n2, n3⟩
  · rw [n1 8 (by decide) (by decide), m2]
    exact yUp_cg q0 q4 (fun p p0 p4 => (k2 p p0 p4).1) p p0 p4
  · rw [n1 9 (by decide) (by decide), m1 9 (by decide)]
    exact (k2 p p0 p4).2
/-- a tile less, the reference -/
theorem zX11_less {t : jMem} {w q : Int} (hr : yRdy t w) (q0 : 0 ≤ q) (q4 : q < 34) (h1 : 1 ≤ t 68 q) : jHo (fun _ u => (∀ y : Int, y ≠ 68 → y ≠ 72 → y ≠ 73 → y ≠ 74 → u y = t y) ∧ u 68 = yUp (t 68) q (t 68 q + -1) ∧ yRdy u w) (fX11_change q (-1) t) := by
  obtain ⟨r1, r2, r3, r4, r5⟩ := hr
  have rq := r3 q q0 q4
  refine gHo_mono (zX11_change (d := -1) q0 q4 (fun p p0 p4 => by have := r3 p p0 p4; omega) (by omega) (by omega) r5) (fun _ u hu => ?_)
  obtain ⟨k1, k2, k3⟩ := hu
  refine ⟨k1, k2, r1, by rw [k1 53 (by decide) (by decide) (by decide) (by decide)]; exact r2, fun p p0 p4 => ?_, fun w4 p p0 p4 => ?_, k3⟩
  · rw [k2, k1 69 (by decide) (by decide) (by decide) (by decide)]
    have := r3 p p0 p4
    by_cases e : p = q
    · subst e; rw [yUp_at]; omega
    · rw [yUp_o e]; exact this
  · rw [k1 69 (by decide) (by decide) (by decide) (by decide)]; exact r4 w4 p p0 p4
theorem iT_less {s : jMem} {h q v f7 f13 : Int} (hI : iT s) (h0 : 0 ≤ h) (h4 : h < 4) (q0 : 0 ≤ q) (q4 : q < 34) (h1 : 1 ≤ vH s h q) (hs : jSum (vH s h) 34 + 3 * s 58 h = 14) (k : yLack f7 f13 (4 - s 58 h) (yUp (vH s h) q (vH s h q + -1)) (vL s h) v) : 1 ≤ v ∧ v ≤ 14 := by
  obtain ⟨a1, a2, a3, a4, a5, a6⟩ := hI.2.1 h h0 h4
  have := yLack_bd ⟨by omega, by omega⟩ (fun p p0 p4 => by
    by_cases e : p = q
    · subst e; rw [yUp_at]; omega
    · rw [yUp_o e]; exact (a1 p p0 p4).2.2.1) (fun q q0 q4 => (a1 q q0 q4).2.2.2.2.2) (iT_room hI h0 h4) k
  rw [yUp_sum q0 q4] at this
  omega
theorem op_without {h q : Int} {s : jMem} (hI : iT s) (hF : iF s) (hch : yCch s) : ∃ v s1 s2, fX10_without h q s = some (v, s1) ∧ fX11_without h q s1 = some (v, s2) ∧ fC s s1 ∧ fM s1 s2 ∧ yCch s1 := by
  have w := jrk_t
  obtain ⟨c, c1, -, c3⟩ := zX10_refusal (h := h) (q := q) hI (fC_rf s)
  by_cases hc : c = 0
  · obtain ⟨⟨h0, h4⟩, ⟨q0, q4⟩, hs, h1⟩ := c3 hc
    obtain ⟨t0, t1, -⟩ := jh_t h0 h4
    obtain ⟨v0, s1, e1, fk, hq, tb, ans⟩ := zX10_reckonWithout hI hch h0 h4 q0 q4 h1
    have fc := fK_C fk
    have e6 := fk 6 (by decide)
    have e53 := fk 53 (by decide)
    have hI1 := iT_C hI fc
    have vh := vH_C fc h
    have m : jHo (fun r t => r = s1 7 12 - 1 ∧ fM s1 t ∧ 1 ≤ s1 7 12 ∧ s1 7 12 ≤ 14) (fX11_without h q s1) := by
      have d2 := zX10_refusal_u hI fc c1
      rw [hc] at d2
      unfold fX11_without
      rw [d2, jBd_s, if_pos (show (0 : Int) = 0 from rfl)]
      refine zX11_rdy hI fc h0 h4 (fun t k1 k2 k3 k4 k5 => ?_)
      have kq := k3 q q0 q4
      refine gHo_bd (zX11_less k4 q0 q4 (by omega)) (fun _ t2 ht2 => ?_)
      obtain ⟨m1, m2, m3⟩ := ht2
      have f53 := m1 53 (by decide) (by decide) (by decide) (by decide)
      obtain ⟨v, e2, yl, -⟩ := zX11_lackOf m3.1 m3.2.1 (fun q q0 q4 => (m3.2.2.1 q q0 q4).1) m3.2.2.2.2
      rw [f53, k2 10 (by decide), k2 11 (by decide), e53] at yl
      have yl2 := yLack_cg (H' := yUp (vH s h) q (vH s h q + -1)) (L' := vL s h) (fun p p0 p4 => ⟨by rw [m2]; exact yUp_cg q0 q4 (fun p p0 p4 => (k3 p p0 p4).1) p p0 p4, by rw [m1 69 (by decide) (by decide) (by decide) (by decide)]; exact (k3 p p0 p4).2⟩) yl
      have bd := iT_less hI h0 h4 q0 q4 h1 hs yl2
      have cv := (yAns_v ans (f7 := s 53 10) (f13 := s 53 11) (by rw [e6]; exact hF.1) (by rw [e6]; exact hF.2.1) hq yl2).1 (by omega)
      rw [e2, jBd_s, cv.1]
      have fm : fM s1 t2 := fun x y hx hy => by
        rw [m1 x (by omega) (by omega) (by omega) (by omega)]
        by_cases e : x = 53
        · subst e; exact k2 y (by omega)
        · rw [k1 x e (by omega) (by omega) (by omega) (by omega) (by omega)]
      unfold fX11_distanceOf
      rw [if_pos (show 1 ≤ v from bd.1), jLet_e, j32_id (by omega) (by omega)]
      exact gHo_ret ⟨rfl, fm, by omega, by omega⟩
    obtain ⟨v, s2, e2, rfl, fm, b1, b2⟩ := m
    refine ⟨_, s1, s2, ?_, e2, fc, fm, tb.1.2.2.2.2.2⟩
    rw [fX10_without, c1, jBd_s, if_pos hc, jGd_e ⟨h0, by omega⟩, jLet_e, t0, e1, jBd_s, jLet_e, jLet_e, j32_id (by omega) (by omega)]
    rfl
  · have c2' := zX10_refusal_u hI (fC_rf s) c1
    refine ⟨c, s, s, ?_, ?_, fC_rf s, fM_rf s, hch⟩
    · rw [fX10_without, c1, jBd_s, if_neg hc]; rfl
    · rw [fX11_without, c2', jBd_s, if_neg hc]; rfl
end
