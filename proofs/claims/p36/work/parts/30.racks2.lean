/-! ===== racks, the rest; flags, seed, rules ===== -/
section
/-- a stretch of a row by a function -/
def jMap (s : jMem) (r a n : Int) (f : Int → Int) : jMem := fun x b => if x = r ∧ a ≤ b ∧ b < a + n then f b else s x b
theorem jMap_row {s : jMem} {r a n r' : Int} {f : Int → Int} (h : r' ≠ r) : jMap s r a n f r' = s r' := by
  funext b
  simp [jMap, h]
theorem jMap_in {s : jMem} {r a n b : Int} {f : Int → Int} (h0 : a ≤ b) (h1 : b < a + n) : jMap s r a n f r b = f b := by
  simp [jMap, h0, h1]
theorem jMap_out {s : jMem} {r a n b : Int} {f : Int → Int} (h : ¬ (a ≤ b ∧ b < a + n)) : jMap s r a n f r b = s r b := by
  simp only [jMap]
  rw [if_neg (fun z => h z.2)]
theorem jMap_0 {s : jMem} {r a : Int} {f : Int → Int} : jMap s r a 0 f = s := by
  funext x b
  simp only [jMap]
  rw [if_neg (by omega)]
theorem jMap_s {s : jMem} {r a v : Int} {i : Nat} {f : Int → Int} (hv : v = f (a + i)) : jU (jMap s r a i f) r (a + i) v = jMap s r a ((i + 1 : Nat) : Int) f := by
  funext x b
  simp only [jU, jMap]
  by_cases ha : x = r
  · by_cases hb : b = a + i
    · rw [if_pos ⟨ha, hb⟩, if_pos ⟨ha, by omega, by omega⟩, hv, hb]
    · rw [if_neg (fun z => hb z.2)]
      by_cases hc : a ≤ b ∧ b < a + i
      · rw [if_pos ⟨ha, hc.1, hc.2⟩, if_pos ⟨ha, by omega, by omega⟩]
      · rw [if_neg (fun z => hc z.2), if_neg (fun z => by omega)]
  · rw [if_neg (fun z => ha z.1), if_neg (fun z => ha z.1), if_neg (fun z => ha z.1)]
theorem ji2c_eq (x : Int) : ji2c x = jand x 65535 := by
  unfold ji2c jand
  have h : ((Int32.ofInt x).toUInt32 % 65536) = ((Int32.ofInt x) &&& Int32.ofInt 65535).toUInt32 := by
    apply UInt32.toNat_inj.mp
    rw [UInt32.toNat_mod]
    show _ = ((Int32.ofInt x).toUInt32.toBitVec &&& (Int32.ofInt 65535).toUInt32.toBitVec).toNat
    rw [BitVec.toNat_and]
    exact (Nat.and_two_pow_sub_one_eq_mod _ 16).symm
  rw [h]
  rfl
def jCut (k v : Int) : Int := if k = 0 then ji2b v else if k = 1 then ji2c v else ji2s v
theorem sX5_keep {r i v : Int} (s : jMem) (h0 : 0 ≤ r) (h6 : r < 6) (i0 : 0 ≤ i) (i1 : i < 40) : fX5_keep (25 + 2 * r) i v s = some (jCut (s (25 + 2 * r) 1) v, jU s (26 + 2 * r) i (jCut (s (25 + 2 * r) 1) v)) := by
  obtain ⟨-, t1, t2, t3, t4⟩ := jr_t h0 h6
  unfold fX5_keep bX5_keep_32 jCut
  simp only [jLet_e, jRet, t2]
  rw [jGd_e t1]
  by_cases a1 : s (25 + 2 * r) 1 = 0
  · rw [if_pos a1, if_pos a1, jGd_e ⟨i0, by omega⟩, jGd_e t1, jGd_e ⟨i0, by omega⟩, jU_at, if_pos rfl]
  rw [if_neg a1, if_neg a1]
  by_cases a2 : s (25 + 2 * r) 1 = 1
  · rw [if_pos a2, if_pos a2, jGd_e ⟨i0, by omega⟩, jGd_e t1, jGd_e ⟨i0, by omega⟩, jU_at, if_pos rfl]
  rw [if_neg a2, if_neg a2, jGd_e ⟨i0, by omega⟩, jGd_e t1, jGd_e ⟨i0, by omega⟩, jU_at, if_pos rfl]
theorem sX11_cut (k v : Int) (s : jMem) : fX11_cut k v s = some (jCut k v, s) := by
  unfold fX11_cut jCut
  simp only [jLet_e, jRet, ji2c_eq]
  repeat' split
  all_goals rfl
theorem sX10_refP {r i : Int} {s : jMem} (hI : iR s) : fX10_refusalOfPlace r i s = some (if 0 ≤ r ∧ r < 6 then (if s 60 r = -1 then -100011 else if 0 ≤ i ∧ i < s 61 r then 0 else -100012) else -100000, s) := by
  unfold fX10_refusalOfPlace
  by_cases hr : 0 ≤ r ∧ r < 6
  · obtain ⟨t0, t1, t2, t3, t4⟩ := jr_t hr.1 hr.2
    have w := jrk_t
    obtain ⟨a1, a2, a3, a4, a5, a6, a7, a8⟩ := hI r hr.1 hr.2
    rw [if_pos hr, sX10_isRack, jBd_s, jb_1 hr, if_neg (by decide), jGd_e ⟨hr.1, by omega⟩, jLet_e, t0, jGd_e t1, sX5_isMissing _ hr.1 hr.2, jBd_s, a1]
    by_cases hk : s 60 r = -1
    · rw [jb_1 hk, if_neg (by decide), if_pos hk]; rfl
    rw [jb_0 hk, if_pos rfl, if_neg hk]
    by_cases h1 : i < 0
    · rw [if_pos h1, if_neg (by omega)]; rfl
    rw [if_neg h1, jGd_e ⟨hr.1, by omega⟩, jLet_e, jGd_e t1, jLet_e, a2]
    by_cases h2 : i < s 61 r
    · rw [if_pos h2, if_pos ⟨by omega, h2⟩]; rfl
    · rw [if_neg h2, if_neg (by omega)]; rfl
  · rw [if_neg hr, sX10_isRack, jBd_s, jb_0 hr, if_pos rfl]; rfl
theorem op_place {r i v : Int} {s : jMem} (hI : iR s) : ∃ w s1 s2, fX10_place r i v s = some (w, s1) ∧ fX11_place r i v s1 = some (w, s2) ∧ iR s2 ∧ fR s s2 := by
  have u := jik_m
  by_cases hr : 0 ≤ r ∧ r < 6
  · obtain ⟨t0, t1, t2, t3, t4⟩ := jr_t hr.1 hr.2
    have w := jrk_t
    obtain ⟨a1, a2, a3, a4, a5, a6, a7, a8⟩ := hI r hr.1 hr.2
    by_cases hk : s 60 r = -1
    · refine ⟨-100011, s, s, ?_, ?_, hI, fR_rf s⟩
      · rw [fX10_place, sX10_refP hI, jBd_s, if_pos hr, if_pos hk, if_neg (by decide)]; rfl
      · simp (disch := omega) only [if_true, if_false, jGd_t, fX11_place, sX11_isRack, jBd_s, jb_1, if_neg, jGd_e, jLet_e, jRet]
    by_cases hi : 0 ≤ i ∧ i < s 61 r
    · refine ⟨jCut (s 60 r) v, jU s (26 + 2 * r) i (jCut (s 60 r) v), jU (jU s (26 + 2 * r) i (jCut (s 60 r) v)) 62 (40 * r + i) (jCut (s 60 r) v), ?_, ?_, ?_, ?_⟩
      · rw [fX10_place, sX10_refP hI, jBd_s, if_pos hr, if_neg hk, if_pos hi, if_pos rfl, jGd_e ⟨hr.1, by omega⟩, jLet_e, t0, jGd_e t1, sX5_keep s hr.1 hr.2 hi.1 (by omega), jBd_s, a1]; rfl
      · have e1 : jU s (26 + 2 * r) i (jCut (s 60 r) v) 60 = s 60 := jU_row (by omega)
        have e2 : jU s (26 + 2 * r) i (jCut (s 60 r) v) 61 = s 61 := jU_row (by omega)
        simp (disch := omega) only [if_true, if_false, jGd_t, fX11_place, sX11_isRack, sX11_in, sX11_cut, jBd_s, jb_1, if_neg, if_pos, jGd_e, jLet_e, jRet, e1, e2, j32_id, jU_at]
      · intro r' h0 h6
        obtain ⟨b1, b2, b3, b4, b5, b6, b7, b8⟩ := hI r' h0 h6
        have e1 : jU (jU s (26 + 2 * r) i (jCut (s 60 r) v)) 62 (40 * r + i) (jCut (s 60 r) v) (25 + 2 * r') = s (25 + 2 * r') := by rw [jU_row (by omega), jU_row (by omega)]
        have e2 : jU (jU s (26 + 2 * r) i (jCut (s 60 r) v)) 62 (40 * r + i) (jCut (s 60 r) v) 60 = s 60 := by rw [jU_row (by omega), jU_row (by omega)]
        have e3 : jU (jU s (26 + 2 * r) i (jCut (s 60 r) v)) 62 (40 * r + i) (jCut (s 60 r) v) 61 = s 61 := by rw [jU_row (by omega), jU_row (by omega)]
        rw [e1, e2, e3]
        refine ⟨b1, b2, b3, b4, b5, b6, b7, fun q g0 g1 => ?_⟩
        rw [jU_row (by omega), jU_at]
        simp only [jU_eq]
        by_cases e : r' = r ∧ q = i
        · rw [if_pos ⟨by omega, e.2⟩, if_pos (by omega)]
        · rw [if_neg (by omega), if_neg (by omega), if_neg (by omega)]
          exact b8 q g0 g1
      · intro x h1 h2 h3 h4 h5
        rw [jU_row h4, jU_row (by omega)]
    · refine ⟨-100012, s, s, ?_, ?_, hI, fR_rf s⟩
      · rw [fX10_place, sX10_refP hI, jBd_s, if_pos hr, if_neg hk, if_neg hi, if_neg (by decide)]; rfl
      · simp (disch := omega) only [if_true, if_false, jGd_t, fX11_place, sX11_isRack, sX11_in, jBd_s, jb_1, jb_0, if_neg, if_pos, jGd_e, jLet_e, jRet, j32_id]
  · refine ⟨-100000, s, s, ?_, ?_, hI, fR_rf s⟩
    · rw [fX10_place, sX10_refP hI, jBd_s, if_neg hr, if_neg (by decide)]; rfl
    · simp (disch := omega) only [if_true, if_false, jGd_t, fX11_place, sX11_isRack, jBd_s, jb_0, if_pos, jRet]
theorem op_told {r i : Int} {s : jMem} (hI : iR s) : ∃ w, fX10_told r i s = some (w, s) ∧ fX11_told r i s = some (w, s) := by
  have u := jik_m
  by_cases hr : 0 ≤ r ∧ r < 6
  · obtain ⟨t0, t1, t2, t3, t4⟩ := jr_t hr.1 hr.2
    have w := jrk_t
    obtain ⟨a1, a2, a3, a4, a5, a6, a7, a8⟩ := hI r hr.1 hr.2
    by_cases hk : s 60 r = -1
    · refine ⟨-100011, ?_, ?_⟩
      · rw [fX10_told, sX10_refP hI, jBd_s, if_pos hr, if_pos hk, if_neg (by decide)]; rfl
      · simp (disch := omega) only [if_true, if_false, jGd_t, fX11_told, sX11_isRack, jBd_s, jb_1, if_neg, jGd_e, jLet_e, jRet]
    by_cases hi : 0 ≤ i ∧ i < s 61 r
    · refine ⟨s 62 (40 * r + i), ?_, ?_⟩
      · rw [fX10_told, sX10_refP hI, jBd_s, if_pos hr, if_neg hk, if_pos hi, if_pos rfl, jGd_e ⟨hr.1, by omega⟩, jLet_e, t0, jGd_e t1, jLet_e, t2, jGd_e ⟨hi.1, by omega⟩, jLet_e, a8 i hi.1 (by omega)]; rfl
      · simp (disch := omega) only [if_true, if_false, jGd_t, fX11_told, sX11_isRack, sX11_in, jBd_s, jb_1, if_neg, if_pos, jGd_e, jLet_e, jRet, j32_id]
    · refine ⟨-100012, ?_, ?_⟩
      · rw [fX10_told, sX10_refP hI, jBd_s, if_pos hr, if_neg hk, if_neg hi, if_neg (by decide)]; rfl
      · simp (disch := omega) only [if_true, if_false, jGd_t, fX11_told, sX11_isRack, sX11_in, jBd_s, jb_1, jb_0, if_neg, if_pos, jGd_e, jLet_e, jRet, j32_id]
  · refine ⟨-100000, ?_, ?_⟩
    · rw [fX10_told, sX10_refP hI, jBd_s, if_neg hr, if_neg (by decide)]; rfl
    · simp (disch := omega) only [if_true, if_false, jGd_t, fX11_told, sX11_isRack, jBd_s, jb_0, if_pos, jRet]
-- flags
def iF (s : jMem) : Prop := s 6 0 = s 53 10 ∧ s 6 1 = s 53 11 ∧ 0 ≤ s 53 10 ∧ s 53 10 ≤ 1 ∧ 0 ≤ s 53 11 ∧ s 53 11 ≤ 1
theorem op_count {w b : Int} {s : jMem} (hI : iF s) (hb : 0 ≤ b ∧ b ≤ 1) : ∃ v s1 s2, fX10_count w b s = some (v, s1) ∧ fX11_count w b s1 = some (v, s2) ∧ iF s2 ∧ (∀ x y : Int, x ≠ 6 → (x ≠ 53 ∨ (y ≠ 10 ∧ y ≠ 11)) → s2 x y = s x y) := by
  obtain ⟨a1, a2, a3, a4, a5, a6⟩ := hI
  by_cases h0 : w = 0
  · subst h0
    refine ⟨s 53 10, jU s 6 0 b, jU (jU s 6 0 b) 53 10 b, ?_, ?_, ?_, ?_⟩
    · by_cases e : s 53 10 = 0
      · simp (disch := omega) only [if_true, if_false, jGd_t, fX10_count, bX10_count_11, bX10_count_32, bX10_count_56, if_pos, jGd_e, jLet_e, jRet, a1]
        rw [e]
      · simp (disch := omega) only [if_true, if_false, jGd_t, fX10_count, bX10_count_11, bX10_count_32, bX10_count_56, if_pos, if_neg, jGd_e, jLet_e, jRet, a1]
        rw [show s 53 10 = 1 by omega]
    · have e1 : jU s 6 0 b 53 = s 53 := jU_row (by decide)
      by_cases e : s 53 10 = 0
      · simp (disch := omega) only [if_true, if_false, jGd_t, fX11_count, bX11_count_27, bX11_count_45, sX11_in, jBd_s, jb_1, if_pos, if_neg, jGd_e, jLet_e, jRet, e1]
        rw [e]
      · simp (disch := omega) only [if_true, if_false, jGd_t, fX11_count, bX11_count_27, bX11_count_45, sX11_in, jBd_s, jb_1, if_pos, if_neg, jGd_e, jLet_e, jRet, e1]
        rw [show s 53 10 = 1 by omega]
    · refine ⟨?_, ?_, ?_, ?_, ?_, ?_⟩ <;> simp [jU_eq] <;> omega
    · intro x y hx hy
      simp only [jU_eq]
      rw [if_neg (by omega), if_neg (by omega)]
  by_cases h1 : w = 1
  · subst h1
    refine ⟨s 53 11, jU s 6 1 b, jU (jU s 6 1 b) 53 11 b, ?_, ?_, ?_, ?_⟩
    · by_cases e : s 53 11 = 0
      · simp (disch := omega) only [if_true, if_false, jGd_t, fX10_count, bX10_count_11, bX10_count_32, bX10_count_56, if_pos, if_neg, jGd_e, jLet_e, jRet, a2]
        rw [e]
      · simp (disch := omega) only [if_true, if_false, jGd_t, fX10_count, bX10_count_11, bX10_count_32, bX10_count_56, if_pos, if_neg, jGd_e, jLet_e, jRet, a2]
        rw [show s 53 11 = 1 by omega]
    · have e1 : jU s 6 1 b 53 = s 53 := jU_row (by decide)
      by_cases e : s 53 11 = 0
      · simp (disch := omega) only [if_true, if_false, jGd_t, fX11_count, bX11_count_27, bX11_count_45, sX11_in, jBd_s, jb_1, if_pos, if_neg, jGd_e, jLet_e, jRet, e1]
        rw [e]
      · simp (disch := omega) only [if_true, if_false, jGd_t, fX11_count, bX11_count_27, bX11_count_45, sX11_in, jBd_s, jb_1, if_pos, if_neg, jGd_e, jLet_e, jRet, e1]
        rw [show s 53 11 = 1 by omega]
    · refine ⟨?_, ?_, ?_, ?_, ?_, ?_⟩ <;> simp [jU_eq] <;> omega
    · intro x y hx hy
      simp only [jU_eq]
      rw [if_neg (by omega), if_neg (by omega)]
  · refine ⟨-1, s, s, ?_, ?_, ⟨a1, a2, a3, a4, a5, a6⟩, fun _ _ _ _ => rfl⟩
    · simp (disch := omega) only [if_true, if_false, jGd_t, fX10_count, if_neg, jRet]
    · simp (disch := omega) only [if_true, if_false, jGd_t, fX11_count, sX11_in, jBd_s, jb_0, if_pos, jRet]
-- the seed
def iS (s : jMem) : Prop := s 0 8 = s 53 6 ∧ 0 ≤ s 53 6 ∧ s 53 6 < 2147483648
theorem op_seed {v : Int} {s : jMem} (hI : iS s) (hv : jR 1 v) : ∃ w s1 s2, fX10_seed v s = some (w, s1) ∧ fX11_seed v s1 = some (w, s2) ∧ iS s2 ∧ (∀ x y : Int, (x ≠ 0 ∨ y ≠ 8) → (x ≠ 53 ∨ y ≠ 6) → s2 x y = s x y) := by
  have h2 := hv.2
  by_cases h0 : 0 ≤ v
  · refine ⟨0, jU s 0 8 v, jU (jU s 0 8 v) 53 6 v, ?_, ?_, ?_, ?_⟩
    · simp (disch := omega) only [if_true, if_false, jGd_t, fX10_seed, if_pos, jLet_e, jRet]
    · simp (disch := omega) only [if_true, if_false, jGd_t, fX11_seed, if_pos, jLet_e, jRet]
    · refine ⟨?_, ?_, ?_⟩ <;> simp [jU_eq] <;> omega
    · intro x y hx hy
      simp only [jU_eq]
      rw [if_neg (by omega), if_neg (by omega)]
  · refine ⟨-1, s, s, ?_, ?_, hI, fun _ _ _ _ => rfl⟩
    · simp (disch := omega) only [if_true, if_false, jGd_t, fX10_seed, if_neg, jRet]
    · simp (disch := omega) only [if_true, if_false, jGd_t, fX11_seed, if_neg, jRet]
-- rules
def iU (s : jMem) : Prop := s 21 3 = s 53 12 ∧ 0 ≤ s 53 12 ∧ s 53 12 ≤ 20 ∧ ∀ i : Int, 0 ≤ i → i < s 53 12 → s 22 i = s 63 i ∧ s 23 i = s 64 i ∧ s 24 i = s 65 i ∧ 0 ≤ s 63 i ∧ s 63 i ≤ 9 ∧ 0 ≤ s 64 i ∧ s 64 i ≤ 1000 ∧ -1 ≤ s 65 i ∧ s 65 i ≤ 9
def fU (s s' : jMem) : Prop := ∀ x y : Int, (x ≠ 21 ∨ y ≠ 3) → (x ≠ 53 ∨ y ≠ 12) → x ≠ 22 → x ≠ 23 → x ≠ 24 → x ≠ 63 → x ≠ 64 → x ≠ 65 → s' x y = s x y
theorem op_clearRules {s : jMem} (hI : iU s) : ∃ w s1 s2, fX10_clearRules s = some (w, s1) ∧ fX11_clearRules s1 = some (w, s2) ∧ iU s2 ∧ fU s s2 := by
  obtain ⟨a1, a2, a3, a4⟩ := hI
  refine ⟨s 53 12, jU s 21 3 0, jU (jU s 21 3 0) 53 12 0, ?_, ?_, ?_, ?_⟩
  · simp only [fX10_clearRules, jLet_e, jRet, a1]
  · have e1 : jU s 21 3 0 53 = s 53 := jU_row (by decide)
    simp only [fX11_clearRules, jLet_e, jRet, e1]
  · refine ⟨?_, ?_, ?_, ?_⟩
    · simp [jU_eq]
    · simp [jU_eq]
    · simp [jU_eq]
    · intro i h0 h1
      simp [jU_eq] at h1
      omega
  · intro x y h1 h2 h3 h4 h5 h6 h7 h8
    simp only [jU_eq]
    rw [if_neg (by omega), if_neg (by omega)]
theorem op_rule {c n o : Int} {s : jMem} (hI : iU s) : ∃ w s1 s2, fX10_rule c n o s = some (w, s1) ∧ fX11_rule c n o s1 = some (w, s2) ∧ iU s2 ∧ fU s s2 := by
  obtain ⟨a1, a2, a3, a4⟩ := id hI
  have u := jik_t
  have u2 := jik_m
  by_cases hc : 0 ≤ c ∧ c < 10
  · by_cases hn : 0 ≤ n ∧ n ≤ 1000
    · by_cases ho : -1 ≤ o ∧ o < 10
      · by_cases hf : s 53 12 = 20
        · refine ⟨-4, s, s, ?_, ?_, hI, fun _ _ _ _ _ _ _ _ _ _ => rfl⟩
          · by_cases h1 : o = -1
            · simp (disch := omega) only [if_true, if_false, jGd_t, fX10_rule, bX10_rule_34, sX6_isCondition, jBd_s, jb_1, if_neg, if_pos, jLet_e, jRet, a1]
            · simp (disch := omega) only [if_true, if_false, jGd_t, fX10_rule, bX10_rule_34, sX6_isCondition, jBd_s, jb_1, if_neg, if_pos, jLet_e, jRet, a1]
          · simp (disch := omega) only [if_true, if_false, jGd_t, fX11_rule, sX11_in, jBd_s, jb_1, if_neg, if_pos, jLet_e, jRet]
        · have hadd : fX6_add c n o s = some (s 53 12, jU (jU (jU (jU s 22 (s 53 12) c) 23 (s 53 12) n) 24 (s 53 12) o) 21 3 (s 53 12 + 1)) := by
            simp only [fX6_add, jLet_e, jRet]
            simp (disch := omega) only [if_true, if_false, jGd_t, jU_row, a1, jGd_e, j32_id, jU_at, if_pos, Int.add_sub_cancel]
          refine ⟨s 53 12, jU (jU (jU (jU s 22 (s 53 12) c) 23 (s 53 12) n) 24 (s 53 12) o) 21 3 (s 53 12 + 1), jU (jU (jU (jU (jU (jU (jU (jU s 22 (s 53 12) c) 23 (s 53 12) n) 24 (s 53 12) o) 21 3 (s 53 12 + 1)) 63 (s 53 12) c) 64 (s 53 12) n) 65 (s 53 12) o) 53 12 (s 53 12 + 1), ?_, ?_, ?_, ?_⟩
          · by_cases h1 : o = -1
            · simp (disch := omega) only [if_true, if_false, jGd_t, fX10_rule, bX10_rule_34, sX6_isCondition, jBd_s, jb_1, if_neg, if_pos, jLet_e, jRet, a1, hadd]
            · simp (disch := omega) only [if_true, if_false, jGd_t, fX10_rule, bX10_rule_34, sX6_isCondition, jBd_s, jb_1, if_neg, if_pos, jLet_e, jRet, a1, hadd]
          · simp (disch := omega) only [if_true, if_false, jGd_t, fX11_rule, sX11_in, jBd_s, jb_1, if_neg, jLet_e, jRet, jU_row, jGd_e, j32_id, jU_at, if_pos, Int.add_sub_cancel]
          · refine ⟨?_, ?_, ?_, ?_⟩
            · simp [jU_eq]
            · simp [jU_eq]; omega
            · simp [jU_eq]; omega
            · intro i h0 h1
              simp [jU_eq] at h1
              by_cases e : i = s 53 12
              · subst e
                simp [jU_eq]
                omega
              · have := a4 i h0 (by omega)
                simp [jU_eq, e]
                omega
          · intro x y h1 h2 h3 h4 h5 h6 h7 h8
            simp only [jU_eq]
            rw [if_neg (by omega), if_neg (by omega), if_neg (by omega), if_neg (by omega), if_neg (by omega), if_neg (by omega), if_neg (by omega), if_neg (by omega)]
      · refine ⟨-1, s, s, ?_, ?_, hI, fun _ _ _ _ _ _ _ _ _ _ => rfl⟩
        · simp (disch := omega) only [if_true, if_false, jGd_t, fX10_rule, sX6_isCondition, jBd_s, jb_1, jb_0, if_neg, if_pos, jLet_e, jRet]
        · simp (disch := omega) only [if_true, if_false, jGd_t, fX11_rule, sX11_in, jBd_s, jb_1, jb_0, if_neg, if_pos, jLet_e, jRet]
    · refine ⟨-1, s, s, ?_, ?_, hI, fun _ _ _ _ _ _ _ _ _ _ => rfl⟩
      · by_cases h1 : n < 0
        · simp (disch := omega) only [if_true, if_false, jGd_t, fX10_rule, sX6_isCondition, jBd_s, jb_1, if_neg, if_pos, jLet_e, jRet]
        · simp (disch := omega) only [if_true, if_false, jGd_t, fX10_rule, sX6_isCondition, jBd_s, jb_1, if_neg, if_pos, jLet_e, jRet]
      · simp (disch := omega) only [if_true, if_false, jGd_t, fX11_rule, sX11_in, jBd_s, jb_1, jb_0, if_neg, if_pos, jLet_e, jRet]
  · refine ⟨-1, s, s, ?_, ?_, hI, fun _ _ _ _ _ _ _ _ _ _ => rfl⟩
    · simp (disch := omega) only [if_true, if_false, jGd_t, fX10_rule, sX6_isCondition, jBd_s, jb_0, if_pos, jRet]
    · simp (disch := omega) only [if_true, if_false, jGd_t, fX11_rule, sX11_in, jBd_s, jb_0, if_pos, jRet]
end
