/-! ===== draw ===== -/
section
def fD (s s' : jMem) : Prop := ∀ x y : Int, (x ≠ 0 ∨ y ≠ 8) → (x ≠ 53 ∨ y ≠ 6) → x ≠ 3 → x ≠ 4 → ¬ (37 ≤ x ∧ x < 53) → (x < 54 ∨ 59 < x) → s' x y = s x y
theorem fD_rf (s : jMem) : fD s s := fun _ _ _ _ _ _ _ _ => rfl
theorem iW_sum {s : jMem} (hW : iW s) (n : Nat) (hn : n ≤ 34) : jSum (s 54) n = jSum (s 3) n := jSum_cg (fun i hi => ((hW i (by omega) (by omega)).1).symm)
theorem sX10_drawNext_0 {h : Int} {s : jMem} (hw : ∀ i : Nat, i < 34 → 0 ≤ s 3 i ∧ s 3 i ≤ 1000) (ht : jSum (s 3) 34 = 0) : fX10_drawNext (37 + 4 * h) s = some (-3, s) := by
  have u := jik_t
  have ul := jln_t
  unfold fX10_drawNext
  rw [sX8_sum 3 34 s (by omega) (by omega) (by decide) hw, jBd_s, if_pos ht]
  rfl
theorem iT_draw {s : jMem} {h z : Int} {N : Nat} (hI : iT s) (h0 : 0 ≤ h) (h4 : h < 4) (hN : N < 34) (hw : 1 ≤ s 54 N) (hsz : jSum (vH s h) 34 + 3 * s 58 h ≤ 13) : iT (mDraw (cDraw s h N z) h N z) ∧ fD s (mDraw (cDraw s h N z) h N z) := by
  have r54 : cDraw s h N z 54 = s 54 := by unfold cDraw; rw [jU_row (by omega), jU_row (by omega), jU_row (by omega), jU_row (by omega)]
  have r56 : cDraw s h N z 56 = s 56 := by unfold cDraw; rw [jU_row (by omega), jU_row (by omega), jU_row (by omega), jU_row (by omega)]
  have row : ∀ x : Int, x ≠ 53 → x ≠ 54 → x ≠ 56 → mDraw (cDraw s h N z) h N z x = cDraw s h N z x := by
    intro x a b c
    unfold mDraw
    rw [jU_row c, jU_row b, jU_row a]
  have crow : ∀ x : Int, x ≠ 0 → x ≠ 3 → x ≠ 38 + 4 * h → x ≠ 37 + 4 * h → cDraw s h N z x = s x := by
    intro x a b c d
    unfold cDraw
    rw [jU_row d, jU_row c, jU_row b, jU_row a]
  have h37 : jU s 0 8 z (37 + 4 * h) = s (37 + 4 * h) := jU_row (by omega)
  obtain ⟨hW, hH, -⟩ := id hI
  have w3 := hW N (by omega) (by omega)
  have b38 := ((hH h h0 h4).1 N (by omega) (by omega)).1
  constructor
  · refine iT_gain hI h0 h4 (q := N) (by omega) (by omega) hw hsz (fun p => ?_) (fun p => ?_) ?_ ?_ (fun x y x0 x1 => ?_) ?_ ?_ ?_ ?_
    · rw [row 3 (by decide) (by decide) (by decide)]
      unfold cDraw
      rw [jU_row (by omega), jU_row (by omega), jU_at]
      by_cases e : p = N
      · rw [if_pos e, if_pos e, e]
      · rw [if_neg e, if_neg e, jU_row (by decide)]
    · unfold mDraw
      rw [jU_row (by decide), jU_at, jU_row (by decide), r54]
      by_cases e : p = N
      · rw [if_pos e, if_pos e, e]
      · rw [if_neg e, if_neg e]
    · rw [row 4 (by decide) (by decide) (by decide), crow 4 (by decide) (by decide) (by omega) (by omega)]
    · rw [row 55 (by decide) (by decide) (by decide), crow 55 (by decide) (by decide) (by omega) (by omega)]
    · rw [row x (by omega) (by omega) (by omega)]
      unfold cDraw
      simp only [jHeld, jU_eq]
      by_cases e1 : x = 38 + 4 * h ∧ y = N
      · rw [if_neg (by omega), if_pos e1, if_pos e1, e1.1, e1.2]
      · by_cases e2 : x = 37 + 4 * h ∧ y = 3
        · rw [if_pos e2, if_neg e1, if_pos e2, e2.1, e2.2]
        · rw [if_neg e2, if_neg e1, if_neg (by omega), if_neg (by omega), if_neg e1, if_neg e2, if_neg (by omega)]
    · funext y
      unfold mDraw
      rw [jU_at, jU_row (by decide), jU_row (by decide), r56]
      simp only [jHeld]
      by_cases e1 : y = 34 * h + N
      · rw [if_pos e1, if_neg (by omega), if_neg (by omega), if_pos ⟨trivial, e1⟩, e1]
      · rw [if_neg e1, if_neg (by omega), if_neg (by omega), if_neg (fun z => e1 z.2)]
    · rw [row 57 (by decide) (by decide) (by decide), crow 57 (by decide) (by decide) (by omega) (by omega)]
    · rw [row 58 (by decide) (by decide) (by decide), crow 58 (by decide) (by decide) (by omega) (by omega)]
    · rw [row 59 (by decide) (by decide) (by decide), crow 59 (by decide) (by decide) (by omega) (by omega)]
  · intro x y a1 a2 a3 a4 a5 a6
    unfold mDraw cDraw
    simp only [jU_eq]
    rw [if_neg (by omega), if_neg (by omega), if_neg (by omega), if_neg (by omega), if_neg (by omega), if_neg (by omega), if_neg (by omega)]
theorem op_draw {h : Int} {s : jMem} (hI : iT s) (hS : iS s) : ∃ v s1 s2, fX10_draw h s = some (v, s1) ∧ fX11_draw h s1 = some (v, s2) ∧ iT s2 ∧ iS s2 ∧ fD s s2 := by
  obtain ⟨hW, hH, hG⟩ := id hI
  obtain ⟨z1, z2, z3⟩ := id hS
  have u := jik_m
  have w := jrk_t
  by_cases hh : 0 ≤ h ∧ h < 4
  · obtain ⟨h0, h4⟩ := hh
    obtain ⟨t0, t1, t2, t3, t4, t5, t6, t7, t8, t9⟩ := jh_t h0 h4
    have hh := hH h h0 h4
    have cb := iH_cb hh
    have gb := iH_gb hh
    have sz := iH_sz hh
    obtain ⟨a1, a2, a3, a4, a5, a6⟩ := id hh
    have hw3 : ∀ i : Nat, i < 34 → 0 ≤ s 3 i ∧ s 3 i ≤ 4 := fun i hi => by
      have b1 := hW i (by omega) (by omega)
      have b2 := iT_bd hI h0 h4 (q := i) (by omega) (by omega)
      omega
    have hw54 : ∀ i : Nat, i < 34 → 0 ≤ s 54 i ∧ s 54 i ≤ 4 := fun i hi => by
      have b1 := hW i (by omega) (by omega)
      have b2 := hw3 i hi
      omega
    by_cases hf : jSum (vH s h) 34 + 3 * s 58 h = 14
    · refine ⟨-2, s, s, ?_, ?_, hI, hS, fD_rf s⟩
      · rw [fX10_draw, sX10_isHand, jBd_s, jb_1 ⟨h0, h4⟩, if_neg (by decide), jGd_e ⟨h0, by omega⟩, jLet_e, t0, jGd_e t1, sX1_isFull h0 h4 cb, jBd_s, sz, jb_1 hf, if_neg (by decide)]; rfl
      · rw [fX11_draw, sX11_isHand, jBd_s, jb_1 ⟨h0, by omega⟩, if_neg (by decide), sX11_sizeOf h0 h4 (vH_bd hh) gb, jBd_s, if_pos hf]; rfl
    have es := iW_sum hW 34 (by decide)
    by_cases ht : jSum (s 3) 34 = 0
    · refine ⟨-3, s, s, ?_, ?_, hI, hS, fD_rf s⟩
      · rw [fX10_draw, sX10_isHand, jBd_s, jb_1 ⟨h0, h4⟩, if_neg (by decide), jGd_e ⟨h0, by omega⟩, jLet_e, t0, jGd_e t1, sX1_isFull h0 h4 cb, jBd_s, sz, jb_0 hf, if_pos rfl, jGd_e ⟨h0, by omega⟩, jLet_e, sX10_drawNext_0 (fun i hi => by have := hw3 i hi; omega) ht, jBd_s]; rfl
      · rw [fX11_draw, sX11_isHand, jBd_s, jb_1 ⟨h0, by omega⟩, if_neg (by decide), sX11_sizeOf h0 h4 (vH_bd hh) gb, jBd_s, if_neg hf, sX11_wallMany (fun i hi => by have := hw54 i hi; omega), jBd_s, es, if_pos ht]; rfl
    have tb := jSum_bd (f := s 3) (n := 34) (fun i hi => by have := hw3 i hi; omega)
    have tp : 0 < jSum (s 3) 34 := by omega
    obtain ⟨N, hN, lo, hi⟩ := jPick_ex (w := s 3) (n := jNext (s 0 8) / 64 % jSum (s 3) 34) 34 (Int.emod_nonneg _ (by omega)) (Int.emod_lt_of_pos _ tp)
    have hwN : 1 ≤ s 54 N := by
      have e1 : jSum (s 3) (N + 1) = jSum (s 3) N + s 3 N := rfl
      have e2 := (hW N (by omega) (by omega)).1
      have e3 : jSum (s 3) N < jSum (s 3) (N + 1) := Int.lt_of_le_of_lt lo hi
      omega
    obtain ⟨b1, b2, b3, b4, b5, b6⟩ := a1 N (by omega) (by omega)
    have hd := sX10_drawNext (h := h) (s := s) (N := N) h0 h4 hw3 ⟨by omega, by omega⟩ tp hN lo hi ⟨by omega, by omega⟩ ⟨by omega, by omega⟩
    obtain ⟨z, hz⟩ : ∃ z, z = jNext (s 0 8) := ⟨_, rfl⟩
    rw [← hz] at hd
    have r54 : cDraw s h N z 54 = s 54 := by unfold cDraw; rw [jU_row (by omega), jU_row (by omega), jU_row (by omega), jU_row (by omega)]
    have r56 : cDraw s h N z 56 = s 56 := by unfold cDraw; rw [jU_row (by omega), jU_row (by omega), jU_row (by omega), jU_row (by omega)]
    have r53 : cDraw s h N z 53 = s 53 := by unfold cDraw; rw [jU_row (by omega), jU_row (by omega), jU_row (by omega), jU_row (by omega)]
    have r58 : cDraw s h N z 58 = s 58 := by unfold cDraw; rw [jU_row (by omega), jU_row (by omega), jU_row (by omega), jU_row (by omega)]
    have rH : vH (cDraw s h N z) h = vH s h := by funext p; unfold vH; rw [r56]
    have hm := sX11_drawn (h := h) (s := cDraw s h N z) (N := N) h0 h4 (by rw [r54]; exact hw54) (by rw [r53]; omega) (by rw [r54, es]; exact tp) hN (by rw [r54, r53, es, iW_sum hW N (by omega), ← z1]; exact lo) (by rw [r54, r53, es, iW_sum hW (N + 1) (by omega), ← z1]; exact hi) (by rw [r56]; show 0 ≤ vH s h N ∧ vH s h N ≤ 100; omega)
    rw [r53, ← z1, ← hz] at hm
    obtain ⟨g1, g2⟩ := iT_draw (z := z) hI h0 h4 hN hwN (by omega)
    refine ⟨N, cDraw s h N z, mDraw (cDraw s h N z) h N z, ?_, ?_, g1, ?_, g2⟩
    · rw [fX10_draw, sX10_isHand, jBd_s, jb_1 ⟨h0, h4⟩, if_neg (by decide), jGd_e ⟨h0, by omega⟩, jLet_e, t0, jGd_e t1, sX1_isFull h0 h4 cb, jBd_s, sz, jb_0 hf, if_pos rfl, jGd_e ⟨h0, by omega⟩, jLet_e, hd, jBd_s]; rfl
    · rw [fX11_draw, sX11_isHand, jBd_s, jb_1 ⟨h0, by omega⟩, if_neg (by decide), sX11_sizeOf h0 h4 (by rw [rH]; exact vH_bd hh) (by rw [r58]; exact gb), jBd_s, rH, r58, if_neg hf, sX11_wallMany (by rw [r54]; exact fun i hi => by have := hw54 i hi; omega), jBd_s, r54, es, if_neg ht, hm, jBd_s]; rfl
    · have nb := jNext_bd (z := s 0 8)
      unfold iS mDraw cDraw
      simp only [jU_eq]
      simp
      omega
  · refine ⟨-1, s, s, ?_, ?_, hI, hS, fD_rf s⟩
    · rw [fX10_draw, sX10_isHand, jBd_s, jb_0 hh, if_pos rfl]; rfl
    · rw [fX11_draw, sX11_isHand, jBd_s, jb_0 (by omega), if_pos rfl]; rfl
end
