/-! ===== the class's answers, told by what is seen ===== -/
section
def tV (s : jMem) (k q : Int) : Int := if k = 0 then s 54 q else if k = 1 then s 55 q else if 6 ≤ k then vL s (k - 6) q else vH s (k - 2) q
theorem cl_tiles {q pl : Int} {s : jMem} (hI : iT s) (q0 : 0 ≤ q) (q4 : q < 34) (hp : 0 ≤ pl ∧ pl < 10) : fX10_tiles q pl s = some (tV s pl q, s) := by
  obtain ⟨hW, hH, hG⟩ := id hI
  have u := jik_m
  have u2 := jik_t
  have w := jrk_t
  obtain ⟨w1, w2, w3, w4, w5⟩ := hW q q0 q4
  unfold tV
  by_cases p0 : pl = 0
  · rw [if_pos p0]
    simp (disch := omega) only [if_true, if_false, jGd_t, fX10_tiles, sX8_isSort, jBd_s, jb_1, if_neg, if_pos, jGd_e, jLet_e, jRet, w1]
  by_cases p1 : pl = 1
  · rw [if_neg p0, if_pos p1]
    simp (disch := omega) only [if_true, if_false, jGd_t, fX10_tiles, sX8_isSort, jBd_s, jb_1, if_neg, if_pos, jGd_e, jLet_e, jRet, w2]
  rw [if_neg p0, if_neg p1]
  by_cases p6 : 6 ≤ pl
  · rw [if_pos p6]
    obtain ⟨t0, t1, t2, t3, t4, t5, t6, t7, t8, t9⟩ := jh_t (h := pl - 6) (by omega) (by omega)
    obtain ⟨b1, b2, b3, b4, b5, b6⟩ := (hH (pl - 6) (by omega) (by omega)).1 q q0 q4
    simp (disch := omega) only [if_true, if_false, jGd_t, fX10_tiles, sX8_isSort, jBd_s, jb_1, if_neg, if_pos, jGd_e, jLet_e, jRet, j32_id, t0, t1, t3, b2]
  · rw [if_neg p6]
    obtain ⟨t0, t1, t2, t3, t4, t5, t6, t7, t8, t9⟩ := jh_t (h := pl - 2) (by omega) (by omega)
    obtain ⟨b1, b2, b3, b4, b5, b6⟩ := (hH (pl - 2) (by omega) (by omega)).1 q q0 q4
    simp (disch := omega) only [if_true, if_false, jGd_t, fX10_tiles, sX8_isSort, jBd_s, jb_1, if_neg, if_pos, jGd_e, jLet_e, jRet, j32_id, t0, t1, t2, b1]
theorem cl_tiles34 {s : jMem} : fX10_tiles 34 0 s = some (-1, s) := by
  simp (disch := omega) only [if_true, if_false, fX10_tiles, sX8_isSort, jBd_s, jb_0, if_pos, jRet]
theorem cl_about0 {h : Int} {s : jMem} (hI : iT s) (h0 : 0 ≤ h) (h4 : h < 4) : fX10_about h 0 s = some (jSum (vH s h) 34 + 3 * s 58 h, s) := by
  obtain ⟨hW, hH, hG⟩ := id hI
  have w := jrk_t
  obtain ⟨t0, t1, t2, t3, t4, t5, t6, t7, t8, t9⟩ := jh_t h0 h4
  have hh := hH h h0 h4
  have cb := iH_cb hh
  have sz := iH_sz hh
  simp (disch := omega) only [if_true, if_false, jGd_t, fX10_about, sX10_isHand, jBd_s, jb_1, if_neg, if_pos, jGd_e, jLet_e, jRet, t0, t1, sX1_size h0 h4 cb, sz]
theorem cl_about1 {h : Int} {s : jMem} (hI : iT s) (h0 : 0 ≤ h) (h4 : h < 4) : fX10_about h 1 s = some (jSum (vH s h) 34, s) := by
  have w := jrk_t
  obtain ⟨t0, t1, t2, t3, t4, t5, t6, t7, t8, t9⟩ := jh_t h0 h4
  obtain ⟨a1, a2, a3, a4, a5, a6⟩ := hI.2.1 h h0 h4
  simp (disch := omega) only [if_true, if_false, jGd_t, fX10_about, sX10_isHand, jBd_s, jb_1, if_neg, if_pos, jGd_e, jLet_e, jRet, t0, t1, a5]
theorem cl_about2 {h : Int} {s : jMem} (hI : iT s) (h0 : 0 ≤ h) (h4 : h < 4) : fX10_about h 2 s = some (s 58 h, s) := by
  have w := jrk_t
  obtain ⟨t0, t1, t2, t3, t4, t5, t6, t7, t8, t9⟩ := jh_t h0 h4
  obtain ⟨a1, a2, a3, a4, a5, a6⟩ := hI.2.1 h h0 h4
  simp (disch := omega) only [if_true, if_false, jGd_t, fX10_about, sX10_isHand, jBd_s, jb_1, if_neg, if_pos, jGd_e, jLet_e, jRet, t0, t1, a2]
theorem cl_unseen {h : Int} {s : jMem} (hI : iT s) (h0 : 0 ≤ h) (h4 : h < 4) : ∃ s1, fX10_unseen h s = some (jSum (vU s h) 34, s1) ∧ ∀ x : Int, x ≠ 5 → s1 x = s x := by
  have w := jrk_t
  obtain ⟨t0, t1, t2, t3, t4, t5, t6, t7, t8, t9⟩ := jh_t h0 h4
  obtain ⟨v, s1, e1, rfl, fr, -⟩ := zX10_countHidden hI h0 h4
  refine ⟨s1, ?_, fr⟩
  rw [fX10_unseen, sX10_isHand, jBd_s, jb_1 ⟨h0, h4⟩, if_neg (by decide), jGd_e ⟨h0, by omega⟩, jLet_e, t0, e1, jBd_s]
  rfl
/-- the size of a hand -/
def tZ (s : jMem) (h : Int) : Int := jSum (vH s h) 34 + 3 * s 58 h
theorem cl_distance {h : Int} {s : jMem} (hI : iT s) (hF : iF s) (hch : yCch s) (h0 : 0 ≤ h) (h4 : h < 4) : ∃ v s1, fX10_distance h s = some (v, s1) ∧ fC s s1 ∧ yCch s1 ∧ (13 ≤ tZ s h → ∃ l, yLack (s 53 10) (s 53 11) (4 - s 58 h) (vH s h) (vL s h) l ∧ v = jmax l 1 - 1) ∧ (¬ 13 ≤ tZ s h → v = -2) := by
  have w := jrk_t
  obtain ⟨t0, t1, -⟩ := jh_t h0 h4
  obtain ⟨a1, a2, a3, a4, a5, a6⟩ := hI.2.1 h h0 h4
  obtain ⟨full, rests⟩ := zX1_size hI h0 h4
  by_cases hs : 13 ≤ jSum (vH s h) 34 + 3 * s 58 h
  · obtain ⟨v0, s1, e1, fk, hq, tb, ans⟩ := zX3_reckon (lim := 14) ⟨by decide, by decide⟩ hI hch h0 h4
    rw [show ((14 : Nat) : Int) = 14 from rfl] at e1
    have e6 := fk 6 (by decide)
    obtain ⟨l, yl⟩ := yLack_ex (f7 := s 53 10) (f13 := s 53 11) (w := 4 - s 58 h) (H := vH s h) (L := vL s h)
    have bd := iT_lack hI h0 h4 yl
    have cv := (yAns_v ans (f7 := s 53 10) (f13 := s 53 11) (by rw [e6]; exact hF.1) (by rw [e6]; exact hF.2.1) hq yl).1 (by omega)
    have jm : 1 ≤ jmax (s1 7 12) 1 ∧ jmax (s1 7 12) 1 ≤ 14 := by rw [cv.1]; unfold jmax; split <;> omega
    refine ⟨jmax (s1 7 12) 1 - 1, s1, ?_, fK_C fk, tb.1.2.2.2.2.2, fun _ => ⟨l, yl, by rw [cv.1]⟩, fun z => absurd hs z⟩
    have go : bX10_distance_36 h s = some (jmax (s1 7 12) 1 - 1, s1) := by
      unfold bX10_distance_36
      rw [jGd_e ⟨h0, by omega⟩, jLet_e, t0, e1, jBd_s, jLet_e, jLet_e, jLet_e, j32_id (by omega) (by omega)]
      rfl
    rw [fX10_distance, sX10_isHand, jBd_s, jb_1 ⟨h0, h4⟩, if_neg (by decide), jGd_e ⟨h0, by omega⟩, jLet_e, t0, jGd_e t1, full, jBd_s]
    by_cases c : jSum (vH s h) 34 + 3 * s 58 h = 14
    · rw [jb_1 c, if_neg (by decide)]; exact go
    · rw [jb_0 c, if_pos rfl, jGd_e ⟨h0, by omega⟩, jLet_e, jGd_e t1, rests, jBd_s, jb_1 (by omega), if_neg (by decide)]; exact go
  · refine ⟨-2, s, ?_, fC_rf s, hch, fun z => absurd z hs, fun _ => rfl⟩
    rw [fX10_distance, sX10_isHand, jBd_s, jb_1 ⟨h0, h4⟩, if_neg (by decide), jGd_e ⟨h0, by omega⟩, jLet_e, t0, jGd_e t1, full, jBd_s, jb_0 (by omega), if_pos rfl, jGd_e ⟨h0, by omega⟩, jLet_e, jGd_e t1, rests, jBd_s, jb_0 (by omega), if_pos rfl]; rfl
theorem cl_done {h : Int} {s : jMem} (hI : iT s) (hF : iF s) (h0 : 0 ≤ h) (h4 : h < 4) : ∃ v s1, fX10_done h s = some (v, s1) ∧ (∀ x : Int, ¬ (17 ≤ x ∧ x ≤ 20) → s1 x = s x) ∧ v = (if tZ s h = 14 then yDone (s 53 10) (s 53 11) (yWn s h) (vH s h) else -2) := by
  have w := jrk_t
  obtain ⟨t0, t1, -⟩ := jh_t h0 h4
  obtain ⟨v, s1, e1, fr, hv, -⟩ := zX2_howDone hI hF h0 h4
  refine ⟨v, s1, ?_, fr, hv⟩
  rw [fX10_done, sX10_isHand, jBd_s, jb_1 ⟨h0, h4⟩, if_neg (by decide), jGd_e ⟨h0, by omega⟩, jLet_e, t0, e1, jBd_s]; rfl
theorem cl_waits {h : Int} {s : jMem} (hI : iT s) (hF : iF s) (hch : yCch s) (h0 : 0 ≤ h) (h4 : h < 4) (hs : tZ s h = 13) : ∃ v s1, fX10_waits h 0 s = some (v, s1) ∧ fC s s1 ∧ yCch s1 ∧ (v ≠ -3 → ∃ l, yLack (s 53 10) (s 53 11) (4 - s 58 h) (vH s h) (vL s h) l ∧ l ≤ 1) := by
  have hs : jSum (vH s h) 34 + 3 * s 58 h = 13 := hs
  have w := jrk_t
  obtain ⟨t0, t1, -⟩ := jh_t h0 h4
  obtain ⟨full, rests⟩ := zX1_size hI h0 h4
  obtain ⟨v0, s1, e1, fk, hq, tb, ans⟩ := zX3_reckon (lim := 1) ⟨by decide, by decide⟩ hI hch h0 h4
  rw [show ((1 : Nat) : Int) = 1 from rfl] at e1
  have e6 := fk 6 (by decide)
  obtain ⟨l, yl⟩ := yLack_ex (f7 := s 53 10) (f13 := s 53 11) (w := 4 - s 58 h) (H := vH s h) (L := vL s h)
  have cv := yAns_v ans (f7 := s 53 10) (f13 := s 53 11) (by rw [e6]; exact hF.1) (by rw [e6]; exact hF.2.1) hq yl
  by_cases c : s1 7 12 = 1
  · have l1 : l ≤ 1 := by
      by_cases d : l ≤ 1
      · exact d
      · have := cv.2 (by omega); omega
    obtain ⟨-, B, b1, b2, -⟩ := cv.1 (by omega)
    have hh := zX3_helper (s := s1) (i := 0) (by decide) b2 b1 (b := fun q => if B.testBit q.toNat = true then 1 else 0) (fun q _ => by
      rw [Int.toNat_natCast]
      cases B.testBit q <;> simp)
    refine ⟨yNt (fun q => if B.testBit q.toNat = true then 1 else 0) 34 0 0, s1, ?_, fK_C fk, tb.1.2.2.2.2.2, fun _ => ⟨l, yl, l1⟩⟩
    · rw [fX10_waits, sX10_isHand, jBd_s, jb_1 ⟨h0, h4⟩, if_neg (by decide), if_pos (Int.le_refl 0), jGd_e ⟨h0, by omega⟩, jLet_e, t0, jGd_e t1, rests, jBd_s, jb_1 hs, if_neg (by decide), jGd_e ⟨h0, by omega⟩, jLet_e, e1, jBd_s, jLet_e, if_pos c, hh, jBd_s]; rfl
  · refine ⟨-3, s1, ?_, fK_C fk, tb.1.2.2.2.2.2, fun z => absurd rfl z⟩
    rw [fX10_waits, sX10_isHand, jBd_s, jb_1 ⟨h0, h4⟩, if_neg (by decide), if_pos (Int.le_refl 0), jGd_e ⟨h0, by omega⟩, jLet_e, t0, jGd_e t1, rests, jBd_s, jb_1 hs, if_neg (by decide), jGd_e ⟨h0, by omega⟩, jLet_e, e1, jBd_s, jLet_e, if_neg c]; rfl
theorem cl_best {h : Int} {s : jMem} (hI : iT s) (hF : iF s) (hch : yCch s) (h0 : 0 ≤ h) (h4 : h < 4) : ∃ v s1, fX10_best h s = some (v, s1) ∧ fC s s1 ∧ yCch s1 ∧ (tZ s h = 14 → ∀ (f m : Int → Int) (l : Int), yFm (s 53 10) (s 53 11) (4 - s 58 h) (vH s h) (vL s h) (vU s h) f m → yLack (s 53 10) (s 53 11) (4 - s 58 h) (vH s h) (vL s h) l → ∃ x, yIc (vH s h) f m (if l < 1 then 1 else l) 34 v x) ∧ (¬ tZ s h = 14 → v = -2) := by
  have w := jrk_t
  obtain ⟨t0, t1, -⟩ := jh_t h0 h4
  obtain ⟨full, rests⟩ := zX1_size hI h0 h4
  by_cases hs : jSum (vH s h) 34 + 3 * s 58 h = 14
  · obtain ⟨f, m, hfm⟩ := yFm_ex (f7 := s 53 10) (f13 := s 53 11) hI h0 h4 hs
    obtain ⟨v, yl⟩ := yLack_ex (f7 := s 53 10) (f13 := s 53 11) (w := 4 - s 58 h) (H := vH s h) (L := vL s h)
    obtain ⟨b, s1, e1, fc, ch1, x, ic⟩ := zX10_bestThrow hI hch h0 h4 hfm hF.1 hF.2.1 yl
    refine ⟨b, s1, ?_, fc, ch1, fun _ f' m' l' hfm' yl' => ?_, fun z => absurd hs z⟩
    · rw [fX10_best, sX10_isHand, jBd_s, jb_1 ⟨h0, h4⟩, if_neg (by decide), jGd_e ⟨h0, by omega⟩, jLet_e, t0, jGd_e t1, full, jBd_s, jb_1 hs, if_neg (by decide), jGd_e ⟨h0, by omega⟩, jLet_e, e1, jBd_s]
      rfl
    · obtain ⟨b', s1', e1', -, -, x', ic'⟩ := zX10_bestThrow hI hch h0 h4 hfm' hF.1 hF.2.1 yl'
      rw [e1] at e1'
      injection e1' with e1'
      injection e1' with e2 _
      subst e2
      exact ⟨x', ic'⟩
  · refine ⟨-2, s, ?_, fC_rf s, hch, fun z => absurd z hs, fun _ => rfl⟩
    rw [fX10_best, sX10_isHand, jBd_s, jb_1 ⟨h0, h4⟩, if_neg (by decide), jGd_e ⟨h0, by omega⟩, jLet_e, t0, jGd_e t1, full, jBd_s, jb_0 hs, if_pos rfl]; rfl
theorem yIc_u {H f m : Int → Int} {l b b' x x' : Int} (h : yIc H f m l 34 b x) (k : yIc H f m l 34 b' x') : b = b' := by
  rcases h with ⟨h1, h2, h3⟩ | ⟨h1, h2, h3, h4, h5⟩
  · rcases k with ⟨k1, k2, k3⟩ | ⟨k1, k2, k3, k4, k5⟩
    · rw [h1, k1]
    · exact absurd ⟨k2, k3⟩ (h3 b' k1.1 k1.2)
  · rcases k with ⟨k1, k2, k3⟩ | ⟨k1, k2, k3, k4, k5⟩
    · exact absurd ⟨h2, h3⟩ (k3 b h1.1 h1.2)
    · have p := h5 b' k1.1 k1.2 k2 k3
      have q := k5 b h1.1 h1.2 h2 h3
      by_cases c : b' < b
      · have := p.2 c; omega
      · by_cases d : b < b'
        · have := q.2 d; omega
        · omega
theorem cl_alike {h : Int} {s : jMem} (hI : iT s) (h0 : 0 ≤ h) (h4 : h < 4) : fX10_alike h h s = some (1, s) := by
  have w := jrk_t
  obtain ⟨t0, t1, t2, t3, t4, t5, t6, t7, t8, t9⟩ := jh_t h0 h4
  have hb : ∀ q : Int, 0 ≤ q → q < 34 → 0 ≤ s (38 + 4 * h) q ∧ s (38 + 4 * h) q ≤ 4 := fun q q0 q4 => by
    have := (hI.2.1 h h0 h4).1 q q0 q4
    omega
  have same : fX7_same (38 + 4 * h) (38 + 4 * h) s = some (1, s) := by
    rw [fX7_same, zX7_rowKey t5 (by decide) (by decide) hb, jBd_s, zX7_rowKey t5 (by decide) (by decide) hb, jBd_s, zX7_rowKey t5 (by decide) (by decide) hb, jBd_s, zX7_rowKey t5 (by decide) (by decide) hb, jBd_s, zX7_rowKey t5 (by decide) (by decide) hb, jBd_s, zX7_rowKey t5 (by decide) (by decide) hb, jBd_s]
    simp only [jLet_e, if_true]
    rw [zX7_lastRowKey t5 hb, jBd_s, zX7_lastRowKey t5 hb, jBd_s]
    simp only [if_true]
    rfl
  rw [fX10_alike, sX10_isHand, jBd_s, jb_1 ⟨h0, h4⟩, if_neg (by decide), sX10_isHand, jBd_s, jb_1 ⟨h0, h4⟩, if_neg (by decide), jGd_e ⟨h0, by omega⟩, jLet_e, t0, jGd_e t1, jLet_e, t2, jGd_e ⟨h0, by omega⟩, jLet_e, jGd_e t1, jLet_e, t2, same, jBd_s, if_neg (by decide)]
  rfl
/-- what is refused changes nothing -/
theorem cl_refused {s : jMem} : fX10_take 4 0 s = some (-1, s) ∧ fX10_discard 0 (-1) s = some (-1, s) ∧ fX10_open 0 0 0 s = some (-1, s) ∧ fX10_open 0 1 7 s = some (-1, s) ∧ fX10_seed (-1) s = some (-1, s) ∧ fX10_deal (-1) s = some (-1, s) ∧ fX10_draw (-1) s = some (-1, s) := by
  refine ⟨?_, ?_, ?_, ?_, ?_, ?_, ?_⟩
  · rw [fX10_take, sX10_isHand, jBd_s, jb_0 (by decide), if_pos rfl]; rfl
  · rw [fX10_discard, sX10_isHand, jBd_s, jb_1 (by decide), if_neg (by decide), sX8_isSort, jBd_s, jb_0 (by decide), if_pos rfl]; rfl
  · rw [fX10_open, sX10_isHand, jBd_s, jb_1 (by decide), if_neg (by decide), sX8_isSort, jBd_s, jb_1 (by decide), if_neg (by decide), if_pos (by decide)]; rfl
  · rw [fX10_open, sX10_isHand, jBd_s, jb_1 (by decide), if_neg (by decide), sX8_isSort, jBd_s, jb_1 (by decide), if_neg (by decide), if_neg (by decide), if_pos (by decide), if_pos rfl, zX8_startsRun (by decide) (by decide), jBd_s, jb_0 (by decide), if_pos rfl]; rfl
  · rw [fX10_seed, if_neg (by decide)]; rfl
  · rw [fX10_deal, if_neg (by decide)]; rfl
  · rw [fX10_draw, sX10_isHand, jBd_s, jb_0 (by decide), if_pos rfl]; rfl
end
