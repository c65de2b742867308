/-! ===== racks ===== -/
section
theorem jGd_t {inst : Decidable True} {k : jO} : @jGd True inst k = k := if_pos trivial
theorem jcmp_lt {x y : Int} : jcmp x y < 0 ↔ x < y := by unfold jcmp; split <;> (try split) <;> omega
theorem jcmp_gt {x y : Int} : 0 < jcmp x y ↔ y < x := by unfold jcmp; split <;> (try split) <;> omega
theorem jcmp_le {x y : Int} : jcmp x y ≤ 0 ↔ x ≤ y := by unfold jcmp; split <;> (try split) <;> omega
theorem sX10_isRack (r : Int) (s : jMem) : fX10_isRack r s = some (jb (0 ≤ r ∧ r < 6), s) := by
  unfold fX10_isRack jb
  simp only [jRet]
  repeat' split
  all_goals first | rfl | (exfalso; omega)
theorem sX10_isHand (r : Int) (s : jMem) : fX10_isHand r s = some (jb (0 ≤ r ∧ r < 4), s) := by
  unfold fX10_isHand jb
  simp only [jRet]
  repeat' split
  all_goals first | rfl | (exfalso; omega)
theorem sX8_isSort (r : Int) (s : jMem) : fX8_isSort r s = some (jb (0 ≤ r ∧ r < 34), s) := by
  unfold fX8_isSort jb
  simp only [jRet]
  repeat' split
  all_goals first | rfl | (exfalso; omega)
theorem sX6_isCondition (r : Int) (s : jMem) : fX6_isCondition r s = some (jb (0 ≤ r ∧ r < 10), s) := by
  unfold fX6_isCondition jb
  simp only [jRet]
  repeat' split
  all_goals first | rfl | (exfalso; omega)
theorem sX11_in (v lo hi : Int) (s : jMem) : fX11_in v lo hi s = some (jb (lo ≤ v ∧ v ≤ hi), s) := by
  unfold fX11_in jb
  simp only [jRet, jLet_e, jcmp_lt, jcmp_gt]
  repeat' split
  all_goals first | rfl | (exfalso; omega)
theorem sX11_isRack (r : Int) (s : jMem) : fX11_isRack r s = some (jb (0 ≤ r ∧ r ≤ 5), s) := by
  simp only [fX11_isRack, sX11_in, jBd_s, jRet]
theorem sX11_isHand (r : Int) (s : jMem) : fX11_isHand r s = some (jb (0 ≤ r ∧ r ≤ 3), s) := by
  simp only [fX11_isHand, sX11_in, jBd_s, jRet]
theorem sX11_isSort (r : Int) (s : jMem) : fX11_isSort r s = some (jb (0 ≤ r ∧ r ≤ 33), s) := by
  simp only [fX11_isSort, sX11_in, jBd_s, jRet]
/-- what racks are, in both -/
def iR (s : jMem) : Prop := ∀ r : Int, 0 ≤ r → r < 6 → s (25 + 2 * r) 1 = s 60 r ∧ s (25 + 2 * r) 2 = s 61 r ∧ -1 ≤ s 60 r ∧ s 60 r ≤ 2 ∧ 0 ≤ s 61 r ∧ s 61 r ≤ 40 ∧ (s 60 r = -1 → s 61 r = 0) ∧ ∀ i : Int, 0 ≤ i → i < 40 → s (26 + 2 * r) i = s 62 (40 * r + i)
/-- what a rack's act changes at most -/
def fR (s s' : jMem) : Prop := ∀ x : Int, ¬ (25 ≤ x ∧ x < 37) → x ≠ 60 → x ≠ 61 → x ≠ 62 → x ≠ 66 → s' x = s x
theorem fR_rf (s : jMem) : fR s s := fun _ _ _ _ _ _ => rfl
/-- a stretch of a row becomes v -/
def jSeg (s : jMem) (r a n v : Int) : jMem := fun x b => if x = r ∧ a ≤ b ∧ b < a + n then v else s x b
theorem jSeg_row {s : jMem} {r a n v r' : Int} (h : r' ≠ r) : jSeg s r a n v r' = s r' := by
  funext b
  simp [jSeg, h]
theorem sX5_become {r : Int} (k n : Int) (s : jMem) (h0 : 0 ≤ r) (h6 : r < 6) : fX5_become (25 + 2 * r) k n s = some (0, jFill (jU (jU s (25 + 2 * r) 1 k) (25 + 2 * r) 2 n) (26 + 2 * r) 0 40) := by
  obtain ⟨-, t1, t2, t3, t4⟩ := jr_t h0 h6
  unfold fX5_become
  rw [jGd_e t1]
  simp only [jLet_e]
  rw [t2, sJ7_filli _ _ 40 _ t4 t3 (by decide), jBd_s]
  rfl
theorem sX5_isMissing {r : Int} (s : jMem) (h0 : 0 ≤ r) (h6 : r < 6) : fX5_isMissing (25 + 2 * r) s = some (jb (s (25 + 2 * r) 1 = -1), s) := by
  obtain ⟨-, t1, t2, t3, t4⟩ := jr_t h0 h6
  unfold fX5_isMissing
  rw [jGd_e t1]
  simp only [jLet_e, jRet, jb]
  split <;> rfl
theorem sX5_reaches {r : Int} (i n : Int) (s : jMem) (h0 : 0 ≤ r) (h6 : r < 6) (hl : 0 ≤ s (25 + 2 * r) 2 ∧ s (25 + 2 * r) 2 ≤ 40) (hn : jR 1 n) : fX5_reaches (25 + 2 * r) i n s = some (jb (0 ≤ i ∧ 0 ≤ n ∧ i + n ≤ s (25 + 2 * r) 2), s) := by
  obtain ⟨-, t1, t2, t3, t4⟩ := jr_t h0 h6
  have h1 := hn.1
  have h2 := hn.2
  unfold fX5_reaches
  rw [jGd_e t1]
  simp only [jLet_e, jRet, jb]
  by_cases a1 : i < 0
  · rw [if_pos a1, if_neg (by omega)]
  rw [if_neg a1]
  by_cases a2 : n < 0
  · rw [if_pos a2, if_neg (by omega)]
  rw [if_neg a2, j32_id (by omega) (by omega)]
  by_cases a3 : s (25 + 2 * r) 2 - n < i
  · rw [if_pos a3, if_neg (by omega)]
  rw [if_neg a3, if_pos (by omega)]
theorem sX11_rack_72 {r : Int} (s : jMem) (h0 : 0 ≤ r) (h6 : r < 6) : jIt (fun _ _ _ => none) bX11_rack_72 1000 r 0 s = some (0, jSeg s 62 (40 * r) 40 0) := by
  have t := jik_m
  have e0 : jSeg s 62 (40 * r) ((0 : Nat) : Int) 0 = s := by
    funext a b
    simp only [jSeg]
    rw [if_neg (by omega)]
  have := jIt_for (bot := fun _ _ _ => none) (b := bX11_rack_72) 40 (fun i rec => rec r (i : Int) (jSeg s 62 (40 * r) i 0)) (some (0, jSeg s 62 (40 * r) 40 0)) ?_ ?_ 1000 (by omega)
  · simp only [e0] at this
    exact this
  · intro i hi rec
    show bX11_rack_72 rec r i (jSeg s 62 (40 * r) i 0) = rec r ((i + 1 : Nat) : Int) (jSeg s 62 (40 * r) ((i + 1 : Nat) : Int) 0)
    simp only [bX11_rack_72, jLet_e]
    rw [if_neg (by omega), j32_id (x := 40 * r) (by omega) (by omega), j32_id (x := 40 * r + i) (by omega) (by omega), jGd_e ⟨by omega, by omega⟩, j32_id (by omega) (by omega)]
    have e : jU (jSeg s 62 (40 * r) i 0) 62 (40 * r + i) 0 = jSeg s 62 (40 * r) ((i + 1 : Nat) : Int) 0 := by
      funext a b
      simp only [jU, jSeg]
      by_cases ha : a = 62
      · by_cases hb : b = 40 * r + i
        · rw [if_pos ⟨ha, hb⟩, if_pos ⟨ha, by omega, by omega⟩]
        · rw [if_neg (fun z => hb z.2)]
          by_cases hc : 40 * r ≤ b ∧ b < 40 * r + i
          · rw [if_pos ⟨ha, hc.1, hc.2⟩, if_pos ⟨ha, by omega, by omega⟩]
          · rw [if_neg (fun z => hc z.2), if_neg (fun z => by omega)]
      · rw [if_neg (fun z => ha z.1), if_neg (fun z => ha z.1), if_neg (fun z => ha z.1)]
    rw [e]
    rfl
  · intro rec
    show bX11_rack_72 rec r ((40 : Nat) : Int) (jSeg s 62 (40 * r) ((40 : Nat) : Int) 0) = _
    simp only [bX11_rack_72, jRet]
    rw [if_pos (by decide)]
    rfl
theorem op_rack_go {r k n : Int} {s : jMem} (hI : iR s) (hr : 0 ≤ r ∧ r < 6) (hk : -1 ≤ k ∧ k ≤ 2) (hn : 0 ≤ n ∧ n ≤ 40) (hkn : k = -1 → n = 0) : ∃ s2, iR s2 ∧ fR s s2 ∧ jSeg (jU (jU (jFill (jU (jU s (25 + 2 * r) 1 k) (25 + 2 * r) 2 n) (26 + 2 * r) 0 40) 60 r k) 61 r n) 62 (40 * r) 40 0 = s2 := by
  refine ⟨_, ?_, ?_, rfl⟩
  · intro r' h0 h6
    obtain ⟨a1, a2, a3, a4, a5, a6, a7, a8⟩ := hI r' h0 h6
    by_cases e : r' = r
    · subst e
      simp (disch := omega) only [if_true, if_false, jGd_t, jSeg_row, jU_row, jFill_row, jU_at, if_pos, if_neg]
      refine ⟨trivial, trivial, hk.1, hk.2, hn.1, hn.2, hkn, fun i g0 g1 => ?_⟩
      rw [jFill_at g0 g1]
      simp only [jSeg]
      rw [if_pos ⟨trivial, by omega, by omega⟩]
    · simp (disch := omega) only [if_true, if_false, jGd_t, jSeg_row, jU_row, jFill_row, jU_at, if_pos, if_neg]
      refine ⟨a1, a2, a3, a4, a5, a6, a7, fun i g0 g1 => ?_⟩
      simp only [jSeg]
      rw [if_neg (by omega)]
      simp (disch := omega) only [if_true, if_false, jGd_t, jU_row, jFill_row]
      exact a8 i g0 g1
  · intro x h1 h2 h3 h4 h5
    rw [jSeg_row h4, jU_row h3, jU_row h2, jFill_row (by omega), jU_row (by omega), jU_row (by omega)]
theorem op_rack {r k n : Int} {s : jMem} (hI : iR s) : ∃ v s1 s2, fX10_rack r k n s = some (v, s1) ∧ fX11_rack r k n s1 = some (v, s2) ∧ iR s2 ∧ fR s s2 := by
  by_cases hr : 0 ≤ r ∧ r < 6
  · obtain ⟨t0, t1, t2, t3, t4⟩ := jr_t hr.1 hr.2
    have u := jik_m
    have w := jrk_t
    by_cases hk : -1 ≤ k ∧ k ≤ 2
    · by_cases hk1 : k = -1
      · obtain ⟨s2, g1, g2, g3⟩ := op_rack_go (n := 0) hI hr hk (by omega) (fun _ => rfl)
        refine ⟨0, jFill (jU (jU s (25 + 2 * r) 1 k) (25 + 2 * r) 2 0) (26 + 2 * r) 0 40, s2, ?_, ?_, g1, g2⟩
        · simp (disch := omega) only [if_true, if_false, jGd_t, fX10_rack, sX10_isRack, jBd_s, jb_1, if_neg, if_pos, jGd_e, jLet_e, t0, t1, sX5_become, jRet]
        · simp (disch := omega) only [if_true, if_false, jGd_t, fX11_rack, bX11_rack_34, bX11_rack_47, bX11_rack_68, sX11_isRack, sX11_in, jBd_s, jb_1, if_neg, if_pos, jGd_e, jLet_e, sX11_rack_72, jRet, g3]
      · by_cases hn0 : 0 ≤ n
        · by_cases hn1 : n ≤ 40
          · obtain ⟨s2, g1, g2, g3⟩ := op_rack_go (n := n) hI hr hk ⟨hn0, hn1⟩ (fun z => absurd z hk1)
            refine ⟨0, jFill (jU (jU s (25 + 2 * r) 1 k) (25 + 2 * r) 2 n) (26 + 2 * r) 0 40, s2, ?_, ?_, g1, g2⟩
            · simp (disch := omega) only [if_true, if_false, jGd_t, fX10_rack, sX10_isRack, jBd_s, jb_1, if_neg, if_pos, jGd_e, jLet_e, t0, t1, sX5_become, jRet]
            · simp (disch := omega) only [if_true, if_false, jGd_t, fX11_rack, bX11_rack_34, bX11_rack_47, bX11_rack_68, sX11_isRack, sX11_in, jBd_s, jb_1, if_neg, if_pos, jGd_e, jLet_e, sX11_rack_72, jRet, g3]
          · refine ⟨-4, s, s, ?_, ?_, hI, fR_rf s⟩
            · simp (disch := omega) only [if_true, if_false, jGd_t, fX10_rack, sX10_isRack, jBd_s, jb_1, if_neg, if_pos, jGd_e, jLet_e, jRet]
            · simp (disch := omega) only [if_true, if_false, jGd_t, fX11_rack, bX11_rack_34, sX11_isRack, sX11_in, jBd_s, jb_1, if_neg, if_pos, jGd_e, jLet_e, jRet]
        · refine ⟨-13, s, s, ?_, ?_, hI, fR_rf s⟩
          · simp (disch := omega) only [if_true, if_false, jGd_t, fX10_rack, sX10_isRack, jBd_s, jb_1, if_neg, if_pos, jGd_e, jLet_e, jRet]
          · simp (disch := omega) only [if_true, if_false, jGd_t, fX11_rack, bX11_rack_34, sX11_isRack, sX11_in, jBd_s, jb_1, if_neg, if_pos, jGd_e, jLet_e, jRet]
    · refine ⟨-1, s, s, ?_, ?_, hI, fR_rf s⟩
      · by_cases hk2 : k < -1
        · simp (disch := omega) only [if_true, if_false, jGd_t, fX10_rack, sX10_isRack, jBd_s, jb_1, if_neg, if_pos, jGd_e, jLet_e, jRet]
        · simp (disch := omega) only [if_true, if_false, jGd_t, fX10_rack, sX10_isRack, jBd_s, jb_1, if_neg, if_pos, jGd_e, jLet_e, jRet]
      · simp (disch := omega) only [if_true, if_false, jGd_t, fX11_rack, sX11_isRack, sX11_in, jBd_s, jb_1, jb_0, if_neg, if_pos, jGd_e, jLet_e, jRet]
  · refine ⟨-1, s, s, ?_, ?_, hI, fR_rf s⟩
    · simp (disch := omega) only [if_true, if_false, jGd_t, fX10_rack, sX10_isRack, jBd_s, jb_0, if_neg, if_pos, jGd_e, jLet_e, jRet]
    · simp (disch := omega) only [if_true, if_false, jGd_t, fX11_rack, sX11_isRack, jBd_s, jb_0, if_neg, if_pos, jGd_e, jLet_e, jRet]
end
