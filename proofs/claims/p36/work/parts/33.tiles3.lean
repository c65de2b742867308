/-! ===== discard, tiles, about ===== -/
section
theorem op_discard {h q : Int} {s : jMem} (hI : iT s) : ∃ v s1 s2, fX10_discard h q s = some (v, s1) ∧ fX11_discard h q s1 = some (v, s2) ∧ iT s2 ∧ fT s s2 := by
  obtain ⟨hW, hH, hG⟩ := id hI
  have u := jik_m
  have u2 := jik_t
  have w := jrk_t
  by_cases hh : 0 ≤ h ∧ h < 4
  · obtain ⟨h0, h4⟩ := hh
    obtain ⟨t0, t1, t2, t3, t4, t5, t6, t7, t8, t9⟩ := jh_t h0 h4
    have hh := hH h h0 h4
    by_cases hq : 0 ≤ q ∧ q < 34
    · obtain ⟨q0, q4⟩ := hq
      obtain ⟨w1, w2, w3, w4, w5⟩ := hW q q0 q4
      have bd := iT_bd hI h0 h4 q0 q4
      have cb := iH_cb hh
      have gb := iH_gb hh
      have sz := iH_sz hh
      obtain ⟨a1, a2, a3, a4, a5, a6⟩ := id hh
      obtain ⟨b1, b2, b3, b4, b5, b6⟩ := a1 q q0 q4
      by_cases hz : vH s h q = 0
      · refine ⟨-2, s, s, ?_, ?_, hI, fT_rf s⟩
        · rw [fX10_discard, sX10_isHand, jBd_s, jb_1 ⟨h0, h4⟩, if_neg (by decide), sX8_isSort, jBd_s, jb_1 ⟨q0, q4⟩, if_neg (by decide), jGd_e ⟨h0, by omega⟩, jLet_e, t0, jGd_e t1, jLet_e, t2, jGd_e ⟨q0, by omega⟩, jLet_e, b1, if_pos hz]; rfl
        · rw [fX11_discard, sX11_isHand, jBd_s, jb_1 ⟨h0, by omega⟩, if_neg (by decide), sX11_isSort, jBd_s, jb_1 ⟨q0, by omega⟩, if_neg (by decide)]
          simp only [jLet_e]
          rw [j32_id (x := 34 * h) (by omega) (by omega), j32_id (x := 34 * h + q) (by omega) (by omega), jGd_e ⟨by omega, by omega⟩, if_pos (show s 56 (34 * h + q) = 0 from hz)]; rfl
      have hsm : 1 ≤ jSum (vH s h) 34 := by
        have hq' : ((q.toNat : Nat) : Int) = q := Int.toNat_of_nonneg q0
        have e := jSum_up (f := vH s h) (g := fun x => if x = q then 0 else vH s h x) (n := 34) (k := q.toNat) (by omega) (fun i hi hne => by
          show (if (i : Int) = q then 0 else vH s h i) = vH s h i
          rw [if_neg (by omega)])
        rw [hq'] at e
        have e2 := jSum_bd (f := fun x => if x = q then 0 else vH s h x) (n := 34) (fun i hi => by
          have := vH_bd hh i hi
          show 0 ≤ (if (i : Int) = q then 0 else vH s h i) ∧ (if (i : Int) = q then 0 else vH s h i) ≤ 1000
          split <;> omega)
        rw [if_pos rfl] at e
        omega
      obtain ⟨s1, hs1⟩ : ∃ z, z = jU (jU (jU s (38 + 4 * h) q (vH s h q - 1)) (37 + 4 * h) 3 (s (37 + 4 * h) 3 - 1)) 4 q (s 55 q + 1) := ⟨_, rfl⟩
      obtain ⟨s2, hs2⟩ : ∃ z, z = jU (jU s1 56 (34 * h + q) (vH s h q - 1)) 55 q (s 55 q + 1) := ⟨_, rfl⟩
      have r55 : s1 55 = s 55 := by rw [hs1, jU_row (by omega), jU_row (by omega), jU_row (by omega)]
      have r56 : s1 56 = s 56 := by rw [hs1, jU_row (by omega), jU_row (by omega), jU_row (by omega)]
      have r57 : s2 57 = s 57 := by rw [hs2, jU_row (by omega), jU_row (by omega), hs1, jU_row (by omega), jU_row (by omega), jU_row (by omega)]
      have r58 : s2 58 = s 58 := by rw [hs2, jU_row (by omega), jU_row (by omega), hs1, jU_row (by omega), jU_row (by omega), jU_row (by omega)]
      have r59 : s2 59 = s 59 := by rw [hs2, jU_row (by omega), jU_row (by omega), hs1, jU_row (by omega), jU_row (by omega), jU_row (by omega)]
      have hH2 : ∀ g : Int, 0 ≤ g → g < 4 → iH s2 g := by
        refine iH_held h0 h4 q0 q4 hH (d := -1) (fun x y x0 x1 => ?_) ?_ r57 r58 (by omega) (by omega) (by omega)
        · rw [hs2, jU_row (by omega), jU_row (by omega), hs1, jU_row (by omega)]
          simp only [jHeld, jU_eq]
          by_cases e1 : x = 38 + 4 * h ∧ y = q
          · rw [if_neg (by omega), if_pos e1, if_pos e1, e1.1, e1.2, b1]; omega
          · by_cases e2 : x = 37 + 4 * h ∧ y = 3
            · rw [if_pos e2, if_neg e1, if_pos e2, e2.1, e2.2]; omega
            · rw [if_neg e2, if_neg e1, if_neg e1, if_neg e2, if_neg (by omega)]
        · funext y
          rw [hs2, jU_row (by omega), jU_at, r56]
          simp only [jHeld]
          by_cases e1 : y = 34 * h + q
          · rw [if_pos e1, if_neg (by omega), if_neg (by omega), if_pos ⟨trivial, e1⟩, e1]; unfold vH; omega
          · rw [if_neg e1, if_neg (by omega), if_neg (by omega), if_neg (fun z => e1 z.2)]
      refine ⟨jSum (vH s2 h) 34 + 3 * s2 58 h, s1, s2, ?_, ?_, ⟨?_, hH2, fun g g0 g4 => iG_fr (hG g g0 g4) ?_ r57 r58 r59⟩, ?_⟩
      · have hg := sX1_lose (s := s) h0 h4 q0 q4 (by rw [b1]; omega) (by omega)
        rw [b1] at hg
        have x3 : s1 (37 + 4 * h) 3 = s (37 + 4 * h) 3 - 1 := by rw [hs1, jU_row (by omega), jU_at, if_pos rfl]
        have x4 : s1 (37 + 4 * h) 4 = s (37 + 4 * h) 4 := by rw [hs1, jU_row (by omega), jU_at, if_neg (by decide), jU_row (by omega)]
        have hz2 := iH_sz (hH2 h h0 h4)
        have y3 : s2 (37 + 4 * h) = s1 (37 + 4 * h) := by rw [hs2, jU_row (by omega), jU_row (by omega)]
        rw [y3] at hz2
        rw [fX10_discard, sX10_isHand, jBd_s, jb_1 ⟨h0, h4⟩, if_neg (by decide), sX8_isSort, jBd_s, jb_1 ⟨q0, q4⟩, if_neg (by decide), jGd_e ⟨h0, by omega⟩, jLet_e, t0, jGd_e t1]
        simp only [jLet_e, t2, b1]
        rw [jGd_e ⟨q0, by omega⟩, if_neg hz, jGd_e ⟨h0, by omega⟩, jGd_e t1, hg, jBd_s, jU_row (r' := 4) (by omega), jU_row (r' := 4) (by omega), w2, jGd_e ⟨q0, by omega⟩, j32_id (by omega) (by omega), jGd_e ⟨q0, by omega⟩, ← hs1, jGd_e ⟨h0, by omega⟩, jGd_e t1, sX1_size h0 h4 (by rw [x3, x4]; omega), jBd_s, hz2]
        rfl
      · have f5 : jU s1 56 (34 * h + q) (vH s h q - 1) 55 q = s 55 q := by rw [jU_row (by omega), r55]
        have f6 : s1 56 (34 * h + q) = vH s h q := by rw [r56]; rfl
        rw [fX11_discard, sX11_isHand, jBd_s, jb_1 ⟨h0, by omega⟩, if_neg (by decide), sX11_isSort, jBd_s, jb_1 ⟨q0, by omega⟩, if_neg (by decide)]
        simp only [jLet_e]
        rw [j32_id (x := 34 * h) (by omega) (by omega), j32_id (x := 34 * h + q) (by omega) (by omega), jGd_e ⟨by omega, by omega⟩, f6, if_neg hz, jGd_e ⟨by omega, by omega⟩, j32_id (x := vH s h q - 1) (by omega) (by omega), jGd_e ⟨by omega, by omega⟩, f5, jGd_e ⟨q0, by omega⟩, j32_id (x := s 55 q + 1) (by omega) (by omega), jGd_e ⟨q0, by omega⟩, ← hs2, sX11_sizeOf h0 h4 (vH_bd (hH2 h h0 h4)) (iH_gb (hH2 h h0 h4)), jBd_s]
        rfl
      · intro p p0 p4
        obtain ⟨c1, c2, c3, c4, c5⟩ := hW p p0 p4
        have g3 : s2 3 = s 3 := by rw [hs2, jU_row (by omega), jU_row (by omega), hs1, jU_row (by omega), jU_row (by omega), jU_row (by omega)]
        have g4 : s2 4 p = if p = q then s 55 q + 1 else s 4 p := by rw [hs2, jU_row (by omega), jU_row (by omega), hs1, jU_at, jU_row (by omega), jU_row (by omega)]
        have g54 : s2 54 = s 54 := by rw [hs2, jU_row (by omega), jU_row (by omega), hs1, jU_row (by omega), jU_row (by omega), jU_row (by omega)]
        have g55 : s2 55 p = if p = q then s 55 q + 1 else s 55 p := by rw [hs2, jU_at, jU_row (by omega), r55]
        have gH : ∀ x : Int, 0 ≤ x → x < 4 → vH s2 x p = if x = h then vH s x p + (if p = q then -1 else 0) else vH s x p := by
          intro x x0 x4
          unfold vH
          rw [hs2, jU_row (by omega), jU_at, r56]
          by_cases e1 : x = h
          · subst e1
            rw [if_pos rfl]
            by_cases e2 : p = q
            · subst e2; rw [if_pos rfl, if_pos rfl]; unfold vH; omega
            · rw [if_neg (by omega), if_neg e2]; omega
          · rw [if_neg (by omega), if_neg e1]
        have gS := jFour (f := fun x => vH s x p) (g := fun x => vH s2 x p) h0 h4 gH
        have gL : ∀ x : Int, vL s2 x p = vL s x p := fun x => by unfold vL; rw [r57]
        rw [g3, g4, g54, g55, gL, gL, gL, gL]
        by_cases e : p = q
        · subst e
          rw [if_pos rfl] at gS
          rw [if_pos rfl, if_pos rfl]
          omega
        · rw [if_neg e] at gS
          rw [if_neg e, if_neg e]
          omega
      · rw [hs2, jU_row (by omega), jU_row (by omega), hs1, jU_row (by omega), jU_row (by omega), jU_row (by omega)]
      · intro x y x1 x2 x3 x4
        rw [hs2, jU_row (by omega), jU_row (by omega), hs1, jU_row (by omega), jU_row (by omega), jU_row (by omega)]
    · refine ⟨-1, s, s, ?_, ?_, hI, fT_rf s⟩
      · rw [fX10_discard, sX10_isHand, jBd_s, jb_1 ⟨h0, h4⟩, if_neg (by decide), sX8_isSort, jBd_s, jb_0 hq, if_pos rfl]; rfl
      · rw [fX11_discard, sX11_isHand, jBd_s, jb_1 ⟨h0, by omega⟩, if_neg (by decide), sX11_isSort, jBd_s, jb_0 (by omega), if_pos rfl]; rfl
  · refine ⟨-1, s, s, ?_, ?_, hI, fT_rf s⟩
    · rw [fX10_discard, sX10_isHand, jBd_s, jb_0 hh, if_pos rfl]; rfl
    · rw [fX11_discard, sX11_isHand, jBd_s, jb_0 (by omega), if_pos rfl]; rfl
theorem op_tiles {q pl : Int} {s : jMem} (hI : iT s) : ∃ v, fX10_tiles q pl s = some (v, s) ∧ fX11_tiles q pl s = some (v, s) := by
  obtain ⟨hW, hH, hG⟩ := id hI
  have u := jik_m
  have u2 := jik_t
  have w := jrk_t
  by_cases hq : 0 ≤ q ∧ q < 34
  · obtain ⟨q0, q4⟩ := hq
    obtain ⟨w1, w2, w3, w4, w5⟩ := hW q q0 q4
    by_cases hp : 0 ≤ pl ∧ pl < 10
    · by_cases p0 : pl = 0
      · refine ⟨s 54 q, ?_, ?_⟩
        · simp (disch := omega) only [if_true, if_false, jGd_t, fX10_tiles, sX8_isSort, jBd_s, jb_1, if_neg, if_pos, jGd_e, jLet_e, jRet, w1]
        · simp (disch := omega) only [if_true, if_false, jGd_t, fX11_tiles, sX11_isSort, sX11_in, jBd_s, jb_1, if_neg, if_pos, jGd_e, jLet_e, jRet]
      by_cases p1 : pl = 1
      · refine ⟨s 55 q, ?_, ?_⟩
        · simp (disch := omega) only [if_true, if_false, jGd_t, fX10_tiles, sX8_isSort, jBd_s, jb_1, if_neg, if_pos, jGd_e, jLet_e, jRet, w2]
        · simp (disch := omega) only [if_true, if_false, jGd_t, fX11_tiles, sX11_isSort, sX11_in, jBd_s, jb_1, if_neg, if_pos, jGd_e, jLet_e, jRet]
      by_cases p6 : 6 ≤ pl
      · obtain ⟨t0, t1, t2, t3, t4, t5, t6, t7, t8, t9⟩ := jh_t (h := pl - 6) (by omega) (by omega)
        obtain ⟨b1, b2, b3, b4, b5, b6⟩ := (hH (pl - 6) (by omega) (by omega)).1 q q0 q4
        refine ⟨vL s (pl - 6) q, ?_, ?_⟩
        · simp (disch := omega) only [if_true, if_false, jGd_t, fX10_tiles, sX8_isSort, jBd_s, jb_1, if_neg, if_pos, jGd_e, jLet_e, jRet, j32_id, t0, t1, t3, b2]
        · simp (disch := omega) only [if_true, if_false, jGd_t, fX11_tiles, sX11_isSort, sX11_in, jBd_s, jb_1, if_neg, if_pos, jGd_e, jLet_e, jRet, j32_id, vL]
      · obtain ⟨t0, t1, t2, t3, t4, t5, t6, t7, t8, t9⟩ := jh_t (h := pl - 2) (by omega) (by omega)
        obtain ⟨b1, b2, b3, b4, b5, b6⟩ := (hH (pl - 2) (by omega) (by omega)).1 q q0 q4
        refine ⟨vH s (pl - 2) q, ?_, ?_⟩
        · simp (disch := omega) only [if_true, if_false, jGd_t, fX10_tiles, sX8_isSort, jBd_s, jb_1, if_neg, if_pos, jGd_e, jLet_e, jRet, j32_id, t0, t1, t2, b1]
        · simp (disch := omega) only [if_true, if_false, jGd_t, fX11_tiles, sX11_isSort, sX11_in, jBd_s, jb_1, if_neg, if_pos, jGd_e, jLet_e, jRet, j32_id, vH]
    · refine ⟨-1, ?_, ?_⟩
      · by_cases h1 : pl < 0
        · simp (disch := omega) only [if_true, if_false, fX10_tiles, sX8_isSort, jBd_s, jb_1, if_neg, if_pos, jRet]
        · simp (disch := omega) only [if_true, if_false, fX10_tiles, sX8_isSort, jBd_s, jb_1, if_neg, if_pos, jRet]
      · simp (disch := omega) only [if_true, if_false, fX11_tiles, sX11_isSort, sX11_in, jBd_s, jb_1, jb_0, if_neg, if_pos, jRet]
  · refine ⟨-1, ?_, ?_⟩
    · simp (disch := omega) only [if_true, if_false, fX10_tiles, sX8_isSort, jBd_s, jb_0, if_pos, jRet]
    · simp (disch := omega) only [if_true, if_false, fX11_tiles, sX11_isSort, jBd_s, jb_0, if_pos, jRet]
theorem op_about {h a : Int} {s : jMem} (hI : iT s) : ∃ v, fX10_about h a s = some (v, s) ∧ fX11_about h a s = some (v, s) := by
  obtain ⟨hW, hH, hG⟩ := id hI
  have u := jik_m
  have u2 := jik_t
  have w := jrk_t
  by_cases hh : 0 ≤ h ∧ h < 4
  · obtain ⟨h0, h4⟩ := hh
    obtain ⟨t0, t1, t2, t3, t4, t5, t6, t7, t8, t9⟩ := jh_t h0 h4
    have hh := hH h h0 h4
    have cb := iH_cb hh
    have gb := iH_gb hh
    have sz := iH_sz hh
    have vb := vH_bd hh
    obtain ⟨a1, a2, a3, a4, a5, a6⟩ := id hh
    by_cases ha : 0 ≤ a ∧ a < 7
    · by_cases p0 : a = 0
      · subst p0
        refine ⟨jSum (vH s h) 34 + 3 * s 58 h, ?_, ?_⟩
        · simp (disch := omega) only [if_true, if_false, jGd_t, fX10_about, sX10_isHand, jBd_s, jb_1, if_neg, if_pos, jGd_e, jLet_e, jRet, t0, t1, sX1_size h0 h4 cb, sz]
        · simp (disch := omega) only [if_true, if_false, jGd_t, fX11_about, sX11_isHand, sX11_in, jBd_s, jb_1, if_neg, if_pos, jGd_e, jLet_e, jRet, sX11_sizeOf h0 h4 vb gb]
      by_cases p1 : a = 1
      · subst p1
        refine ⟨jSum (vH s h) 34, ?_, ?_⟩
        · simp (disch := omega) only [if_true, if_false, jGd_t, fX10_about, sX10_isHand, jBd_s, jb_1, if_neg, if_pos, jGd_e, jLet_e, jRet, t0, t1, a5]
        · simp (disch := omega) only [if_true, if_false, jGd_t, fX11_about, sX11_isHand, sX11_in, jBd_s, jb_1, if_neg, if_pos, jGd_e, jLet_e, jRet, sX11_heldMany s h0 h4 vb]
      by_cases p2 : a = 2
      · subst p2
        refine ⟨s 58 h, ?_, ?_⟩
        · simp (disch := omega) only [if_true, if_false, jGd_t, fX10_about, sX10_isHand, jBd_s, jb_1, if_neg, if_pos, jGd_e, jLet_e, jRet, t0, t1, a2]
        · simp (disch := omega) only [if_true, if_false, jGd_t, fX11_about, sX11_isHand, sX11_in, jBd_s, jb_1, if_neg, if_pos, jGd_e, jLet_e, jRet]
      by_cases pk : a - 3 < s 58 h
      · refine ⟨s 59 (5 * h + (a - 3)), ?_, ?_⟩
        · have hc := ((hG h h0 h4).1 (a - 3) (by omega) pk).1
          simp (disch := omega) only [if_true, if_false, jGd_t, fX10_about, sX10_isHand, jBd_s, jb_1, if_neg, if_pos, jGd_e, jLet_e, jRet, j32_id, t0, t1, t4, a2, hc]
        · simp (disch := omega) only [if_true, if_false, jGd_t, fX11_about, sX11_isHand, sX11_in, jBd_s, jb_1, if_neg, if_pos, jGd_e, jLet_e, jRet, j32_id]
          rw [show 5 * h + a - 3 = 5 * h + (a - 3) by omega]
      · refine ⟨-3, ?_, ?_⟩
        · simp (disch := omega) only [if_true, if_false, jGd_t, fX10_about, sX10_isHand, jBd_s, jb_1, if_neg, if_pos, jGd_e, jLet_e, jRet, j32_id, t0, t1, a2]
        · simp (disch := omega) only [if_true, if_false, jGd_t, fX11_about, sX11_isHand, sX11_in, jBd_s, jb_1, if_neg, if_pos, jGd_e, jLet_e, jRet, j32_id]
    · refine ⟨-1, ?_, ?_⟩
      · by_cases h1 : a < 0
        · simp (disch := omega) only [if_true, if_false, fX10_about, sX10_isHand, jBd_s, jb_1, if_neg, if_pos, jRet]
        · simp (disch := omega) only [if_true, if_false, fX10_about, sX10_isHand, jBd_s, jb_1, if_neg, if_pos, jRet]
      · simp (disch := omega) only [if_true, if_false, fX11_about, sX11_isHand, sX11_in, jBd_s, jb_1, jb_0, if_neg, if_pos, jRet]
  · refine ⟨-1, ?_, ?_⟩
    · simp (disch := omega) only [if_true, if_false, fX10_about, sX10_isHand, jBd_s, jb_0, if_pos, jRet]
    · simp (disch := omega) only [if_true, if_false, fX11_about, sX11_isHand, jBd_s, jb_0, if_pos, jRet]
end
