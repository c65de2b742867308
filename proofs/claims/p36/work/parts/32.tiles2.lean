/-! ===== take, discard, tiles, about ===== -/
section
theorem iT_bd {s : jMem} {h q : Int} (hI : iT s) (h0 : 0 ≤ h) (h4 : h < 4) (q0 : 0 ≤ q) (q4 : q < 34) : vH s h q + vL s h q + s 54 q + s 55 q ≤ 4 ∧ s 54 q ≤ 4 ∧ s 55 q ≤ 4 ∧ 0 ≤ s 54 q ∧ 0 ≤ s 55 q := by
  obtain ⟨hW, hH, -⟩ := hI
  obtain ⟨w1, w2, w3, w4, w5⟩ := hW q q0 q4
  have b0 := (hH 0 (by omega) (by omega)).1 q q0 q4
  have b1 := (hH 1 (by omega) (by omega)).1 q q0 q4
  have b2 := (hH 2 (by omega) (by omega)).1 q q0 q4
  have b3 := (hH 3 (by omega) (by omega)).1 q q0 q4
  rcases (by omega : h = 0 ∨ h = 1 ∨ h = 2 ∨ h = 3) with rfl | rfl | rfl | rfl <;> omega
theorem op_take {h q : Int} {s : jMem} (hI : iT s) : ∃ v s1 s2, fX10_take h q s = some (v, s1) ∧ fX11_take h q s1 = some (v, s2) ∧ iT s2 ∧ fT s s2 := by
  obtain ⟨hW, hH, hG⟩ := id hI
  have u := jik_m
  have u2 := jik_t
  have w := jrk_t
  by_cases hh : 0 ≤ h ∧ h < 4
  · obtain ⟨h0, h4⟩ := hh
    obtain ⟨t0, t1, t2, t3, t4, t5, t6, t7, t8, t9⟩ := jh_t h0 h4
    have hh := hH h h0 h4
    by_cases hq : 0 ≤ q ∧ q < 34
    · obtain ⟨q0, q4⟩ := hq
      obtain ⟨w1, w2, w3, w4, w5⟩ := hW q q0 q4
      have bd := iT_bd hI h0 h4 q0 q4
      have cb := iH_cb hh
      have gb := iH_gb hh
      have sz := iH_sz hh
      obtain ⟨a1, a2, a3, a4, a5, a6⟩ := id hh
      obtain ⟨b1, b2, b3, b4, b5, b6⟩ := a1 q q0 q4
      by_cases hf : jSum (vH s h) 34 + 3 * s 58 h = 14
      · refine ⟨-2, s, s, ?_, ?_, hI, fT_rf s⟩
        · rw [fX10_take, sX10_isHand, jBd_s, jb_1 ⟨h0, h4⟩, if_neg (by decide), sX8_isSort, jBd_s, jb_1 ⟨q0, q4⟩, if_neg (by decide), jGd_e ⟨h0, by omega⟩, jLet_e, t0, jGd_e t1, sX1_isFull h0 h4 cb, jBd_s, sz, jb_1 hf, if_neg (by decide)]; rfl
        · rw [fX11_take, sX11_isHand, jBd_s, jb_1 ⟨h0, by omega⟩, if_neg (by decide), sX11_isSort, jBd_s, jb_1 ⟨q0, by omega⟩, if_neg (by decide), sX11_sizeOf h0 h4 (vH_bd hh) gb, jBd_s, if_pos hf]; rfl
      by_cases hz : s 54 q = 0
      · refine ⟨-16, s, s, ?_, ?_, hI, fT_rf s⟩
        · rw [fX10_take, sX10_isHand, jBd_s, jb_1 ⟨h0, h4⟩, if_neg (by decide), sX8_isSort, jBd_s, jb_1 ⟨q0, q4⟩, if_neg (by decide), jGd_e ⟨h0, by omega⟩, jLet_e, t0, jGd_e t1, sX1_isFull h0 h4 cb, jBd_s, sz, jb_0 hf, if_pos rfl, jGd_e ⟨q0, by omega⟩, jLet_e, w1, if_pos hz]; rfl
        · rw [fX11_take, sX11_isHand, jBd_s, jb_1 ⟨h0, by omega⟩, if_neg (by decide), sX11_isSort, jBd_s, jb_1 ⟨q0, by omega⟩, if_neg (by decide), sX11_sizeOf h0 h4 (vH_bd hh) gb, jBd_s, if_neg hf, jGd_e ⟨q0, by omega⟩, jLet_e, if_pos hz]; rfl
      obtain ⟨s1, hs1⟩ : ∃ z, z = jU (jU (jU s 3 q (s 54 q - 1)) (38 + 4 * h) q (vH s h q + 1)) (37 + 4 * h) 3 (s (37 + 4 * h) 3 + 1) := ⟨_, rfl⟩
      obtain ⟨s2, hs2⟩ : ∃ z, z = jU (jU s1 54 q (s 54 q - 1)) 56 (34 * h + q) (vH s h q + 1) := ⟨_, rfl⟩
      have r54 : s1 54 = s 54 := by rw [hs1, jU_row (by omega), jU_row (by omega), jU_row (by omega)]
      have r56 : s1 56 = s 56 := by rw [hs1, jU_row (by omega), jU_row (by omega), jU_row (by omega)]
      have r57 : s2 57 = s 57 := by rw [hs2, jU_row (by omega), jU_row (by omega), hs1, jU_row (by omega), jU_row (by omega), jU_row (by omega)]
      have r58 : s2 58 = s 58 := by rw [hs2, jU_row (by omega), jU_row (by omega), hs1, jU_row (by omega), jU_row (by omega), jU_row (by omega)]
      have r59 : s2 59 = s 59 := by rw [hs2, jU_row (by omega), jU_row (by omega), hs1, jU_row (by omega), jU_row (by omega), jU_row (by omega)]
      have hH2 : ∀ g : Int, 0 ≤ g → g < 4 → iH s2 g := by
        refine iH_held h0 h4 q0 q4 hH (d := 1) (fun x y x0 x1 => ?_) ?_ r57 r58 (by omega) (by omega) (by omega)
        · rw [hs2, jU_row (by omega), jU_row (by omega), hs1]
          simp only [jHeld, jU_eq]
          by_cases e1 : x = 38 + 4 * h ∧ y = q
          · rw [if_neg (by omega), if_pos e1, if_pos e1, e1.1, e1.2, b1]
          · by_cases e2 : x = 37 + 4 * h ∧ y = 3
            · rw [if_pos e2, if_neg e1, if_pos e2, e2.1, e2.2]
            · rw [if_neg e2, if_neg e1, if_neg (by omega), if_neg e1, if_neg e2, if_neg (by omega)]
        · funext y
          rw [hs2, jU_at, jU_row (by omega), r56]
          simp only [jHeld]
          by_cases e1 : y = 34 * h + q
          · rw [if_pos e1, if_neg (by omega), if_neg (by omega), if_pos ⟨trivial, e1⟩, e1]; rfl
          · rw [if_neg e1, if_neg (by omega), if_neg (by omega), if_neg (fun z => e1 z.2)]
      refine ⟨jSum (vH s2 h) 34 + 3 * s2 58 h, s1, s2, ?_, ?_, ⟨?_, hH2, fun g g0 g4 => iG_fr (hG g g0 g4) ?_ r57 r58 r59⟩, ?_⟩
      · have e1 : jU s 3 q (s 54 q - 1) (38 + 4 * h) = s (38 + 4 * h) := jU_row (by omega)
        have e2 : jU s 3 q (s 54 q - 1) (37 + 4 * h) = s (37 + 4 * h) := jU_row (by omega)
        have hg := sX1_gain (s := jU s 3 q (s 54 q - 1)) h0 h4 q0 q4 (by rw [e1, b1]; omega) (by rw [e2]; omega)
        rw [e1, e2, b1, ← hs1] at hg
        have x3 : s1 (37 + 4 * h) 3 = s (37 + 4 * h) 3 + 1 := by rw [hs1, jU_at, if_pos rfl]
        have x4 : s1 (37 + 4 * h) 4 = s (37 + 4 * h) 4 := by rw [hs1, jU_at, if_neg (by decide), jU_row (by omega), jU_row (by omega)]
        have hz2 := iH_sz (hH2 h h0 h4)
        have y3 : s2 (37 + 4 * h) = s1 (37 + 4 * h) := by rw [hs2, jU_row (by omega), jU_row (by omega)]
        rw [y3] at hz2
        rw [fX10_take, sX10_isHand, jBd_s, jb_1 ⟨h0, h4⟩, if_neg (by decide), sX8_isSort, jBd_s, jb_1 ⟨q0, q4⟩, if_neg (by decide), jGd_e ⟨h0, by omega⟩, jLet_e, t0, jGd_e t1, sX1_isFull h0 h4 cb, jBd_s, sz, jb_0 hf, if_pos rfl]
        simp only [jLet_e, w1]
        rw [jGd_e ⟨q0, by omega⟩, if_neg hz, jGd_e ⟨q0, by omega⟩, j32_id (by omega) (by omega), jGd_e ⟨q0, by omega⟩, jGd_e ⟨h0, by omega⟩, jGd_e t1, hg, jBd_s, jGd_e ⟨h0, by omega⟩, jGd_e t1, sX1_size h0 h4 (by rw [x3, x4]; omega), jBd_s, hz2]
        rfl
      · have f1 : ∀ i : Nat, i < 34 → 0 ≤ vH s1 h i ∧ vH s1 h i ≤ 1000 := fun i hi => by
          have := vH_bd hh i hi
          unfold vH at this ⊢
          rw [r56]; exact this
        have f2 : s1 58 = s 58 := by rw [hs1, jU_row (by omega), jU_row (by omega), jU_row (by omega)]
        have f3 : vH s1 h = vH s h := by funext p; unfold vH; rw [r56]
        have f4 : jU s1 54 q (s 54 q - 1) 56 (34 * h + q) = vH s h q := by rw [jU_row (by omega), r56]; rfl
        rw [fX11_take, sX11_isHand, jBd_s, jb_1 ⟨h0, by omega⟩, if_neg (by decide), sX11_isSort, jBd_s, jb_1 ⟨q0, by omega⟩, if_neg (by decide), sX11_sizeOf h0 h4 f1 (by rw [f2]; exact gb), jBd_s, f2, f3, if_neg hf]
        simp only [jLet_e, r54]
        rw [jGd_e ⟨q0, by omega⟩, if_neg hz, jGd_e ⟨q0, by omega⟩, j32_id (x := s 54 q - 1) (by omega) (by omega), jGd_e ⟨q0, by omega⟩, j32_id (x := 34 * h) (by omega) (by omega), j32_id (x := 34 * h + q) (by omega) (by omega), jGd_e ⟨by omega, by omega⟩, f4, j32_id (by omega) (by omega), jGd_e ⟨by omega, by omega⟩, ← hs2, sX11_sizeOf h0 h4 (vH_bd (hH2 h h0 h4)) (iH_gb (hH2 h h0 h4)), jBd_s]
        rfl
      · intro p p0 p4
        obtain ⟨c1, c2, c3, c4, c5⟩ := hW p p0 p4
        have g3 : s2 3 = jU s 3 q (s 54 q - 1) 3 := by rw [hs2, jU_row (by omega), jU_row (by omega), hs1, jU_row (by omega), jU_row (by omega)]
        have g4 : s2 4 = s 4 := by rw [hs2, jU_row (by omega), jU_row (by omega), hs1, jU_row (by omega), jU_row (by omega), jU_row (by omega)]
        have g54 : s2 54 = jU s 54 q (s 54 q - 1) 54 := by
          rw [hs2, jU_row (by omega)]
          funext y
          rw [jU_at, jU_at, r54]
        have g55 : s2 55 = s 55 := by rw [hs2, jU_row (by omega), jU_row (by omega), hs1, jU_row (by omega), jU_row (by omega), jU_row (by omega)]
        have gH : ∀ x : Int, 0 ≤ x → x < 4 → vH s2 x p = if x = h then vH s x p + (if p = q then 1 else 0) else vH s x p := by
          intro x x0 x4
          unfold vH
          rw [hs2, jU_at, jU_row (by omega), r56]
          by_cases e1 : x = h
          · subst e1
            rw [if_pos rfl]
            by_cases e2 : p = q
            · subst e2; rw [if_pos rfl, if_pos rfl]; rfl
            · rw [if_neg (by omega), if_neg e2]; omega
          · rw [if_neg (by omega), if_neg e1]
        have gS := jFour (f := fun x => vH s x p) (g := fun x => vH s2 x p) h0 h4 gH
        have gL : ∀ x : Int, vL s2 x p = vL s x p := fun x => by unfold vL; rw [r57]
        rw [g3, g4, g54, g55, gL, gL, gL, gL, jU_at, jU_at]
        by_cases e : p = q
        · subst e
          rw [if_pos rfl] at gS
          rw [if_pos rfl, if_pos rfl]
          omega
        · rw [if_neg e] at gS
          rw [if_neg e, if_neg e]
          omega
      · rw [hs2, jU_row (by omega), jU_row (by omega), hs1, jU_row (by omega), jU_row (by omega), jU_row (by omega)]
      · intro x y x1 x2 x3 x4
        rw [hs2, jU_row (by omega), jU_row (by omega), hs1, jU_row (by omega), jU_row (by omega), jU_row (by omega)]
    · refine ⟨-1, s, s, ?_, ?_, hI, fT_rf s⟩
      · rw [fX10_take, sX10_isHand, jBd_s, jb_1 ⟨h0, h4⟩, if_neg (by decide), sX8_isSort, jBd_s, jb_0 hq, if_pos rfl]; rfl
      · rw [fX11_take, sX11_isHand, jBd_s, jb_1 ⟨h0, by omega⟩, if_neg (by decide), sX11_isSort, jBd_s, jb_0 (by omega), if_pos rfl]; rfl
  · refine ⟨-1, s, s, ?_, ?_, hI, fT_rf s⟩
    · rw [fX10_take, sX10_isHand, jBd_s, jb_0 hh, if_pos rfl]; rfl
    · rw [fX11_take, sX11_isHand, jBd_s, jb_0 (by omega), if_pos rfl]; rfl
end
