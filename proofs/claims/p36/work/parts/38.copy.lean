/-! ===== copy ===== -/
section
theorem sX11_copy_147 {t j : Int} {n : Nat} (s : jMem) (h0 : 0 ≤ t) (h6 : t < 6) (j0 : 0 ≤ j) (hj : j + n ≤ 40) : jIt (fun _ _ _ _ _ => none) bX11_copy_147 1000 t j n 0 s = some (0, jMap s 62 (40 * t + j) n (fun b => s 66 (b - (40 * t + j)))) := by
  have u := jik_m
  have key : jIt (fun _ _ _ _ _ => none) bX11_copy_147 1000 t j n ((0 : Nat) : Int) (jMap s 62 (40 * t + j) ((0 : Nat) : Int) (fun b => s 66 (b - (40 * t + j)))) = some (0, jMap s 62 (40 * t + j) n (fun b => s 66 (b - (40 * t + j)))) := by
    refine jIt_for (bot := fun _ _ _ _ _ => none) (b := bX11_copy_147) n (fun i rec => rec t j n i (jMap s 62 (40 * t + j) i (fun b => s 66 (b - (40 * t + j))))) _ ?_ ?_ 1000 (by omega)
    · intro i hi rec
      show bX11_copy_147 rec t j n i (jMap s 62 (40 * t + j) i (fun b => s 66 (b - (40 * t + j)))) = rec t j n ((i + 1 : Nat) : Int) (jMap s 62 (40 * t + j) ((i + 1 : Nat) : Int) (fun b => s 66 (b - (40 * t + j))))
      simp only [bX11_copy_147, jLet_e]
      rw [if_neg (by omega), j32_id (x := 40 * t) (by omega) (by omega), j32_id (x := 40 * t + j) (by omega) (by omega), j32_id (x := 40 * t + j + i) (by omega) (by omega), jGd_e ⟨by omega, by omega⟩, jGd_e ⟨by omega, by omega⟩, jMap_row (r' := 66) (by decide), jMap_s (f := fun b => s 66 (b - (40 * t + j))) (by show s 66 (i : Int) = s 66 (40 * t + j + i - (40 * t + j)); rw [show 40 * t + j + (i : Int) - (40 * t + j) = i by omega]), j32_id (by omega) (by omega)]
      rfl
    · intro rec
      show bX11_copy_147 rec t j n n (jMap s 62 (40 * t + j) n (fun b => s 66 (b - (40 * t + j)))) = _
      simp only [bX11_copy_147, jRet]
      rw [if_pos (Int.le_refl _)]
  rw [show jMap s 62 (40 * t + j) ((0 : Nat) : Int) (fun b => s 66 (b - (40 * t + j))) = s from jMap_0] at key
  exact key
theorem sX11_copy_110 {r i t j : Int} {n : Nat} (s : jMem) (h0 : 0 ≤ t) (h6 : t < 6) (j0 : 0 ≤ j) (hj : j + n ≤ 40) (r0 : 0 ≤ r) (r6 : r < 6) (i0 : 0 ≤ i) (hi : i + n ≤ 40) :
    jIt (fun _ _ _ _ _ _ _ => none) (bX11_copy_110 bX11_copy_144) 1000 r i t j n 0 s = some (0, jMap (jMap s 66 0 n (fun b => s 62 (40 * r + i + b))) 62 (40 * t + j) n (fun b => jMap s 66 0 n (fun b => s 62 (40 * r + i + b)) 66 (b - (40 * t + j)))) := by
  have u := jik_m
  have key : jIt (fun _ _ _ _ _ _ _ => none) (bX11_copy_110 bX11_copy_144) 1000 r i t j n ((0 : Nat) : Int) (jMap s 66 0 ((0 : Nat) : Int) (fun b => s 62 (40 * r + i + b))) = some (0, jMap (jMap s 66 0 n (fun b => s 62 (40 * r + i + b))) 62 (40 * t + j) n (fun b => jMap s 66 0 n (fun b => s 62 (40 * r + i + b)) 66 (b - (40 * t + j)))) := by
    refine jIt_for (bot := fun _ _ _ _ _ _ _ => none) (b := bX11_copy_110 bX11_copy_144) n (fun k rec => rec r i t j n k (jMap s 66 0 k (fun b => s 62 (40 * r + i + b)))) _ ?_ ?_ 1000 (by omega)
    · intro k hk rec
      show bX11_copy_110 bX11_copy_144 rec r i t j n k (jMap s 66 0 k (fun b => s 62 (40 * r + i + b))) = rec r i t j n ((k + 1 : Nat) : Int) (jMap s 66 0 ((k + 1 : Nat) : Int) (fun b => s 62 (40 * r + i + b)))
      have hs := jMap_s (s := s) (r := 66) (a := 0) (i := k) (v := s 62 (40 * r + i + k)) (f := fun b => s 62 (40 * r + i + b)) (by show _ = s 62 (40 * r + i + (0 + (k : Int))); rw [Int.zero_add])
      rw [Int.zero_add] at hs
      simp only [bX11_copy_110, jLet_e]
      rw [if_neg (by omega), j32_id (x := 40 * r) (by omega) (by omega), j32_id (x := 40 * r + i) (by omega) (by omega), j32_id (x := 40 * r + i + k) (by omega) (by omega), jGd_e ⟨by omega, by omega⟩, jMap_row (r' := 62) (by decide), jGd_e ⟨by omega, by omega⟩, hs, j32_id (by omega) (by omega)]
      rfl
    · intro rec
      show bX11_copy_110 bX11_copy_144 rec r i t j n n (jMap s 66 0 n (fun b => s 62 (40 * r + i + b))) = _
      simp only [bX11_copy_110, bX11_copy_144]
      rw [if_pos (Int.le_refl _)]
      exact sX11_copy_147 _ h0 h6 j0 hj
  rw [show jMap s 66 0 ((0 : Nat) : Int) (fun b => s 62 (40 * r + i + b)) = s from jMap_0] at key
  exact key
theorem op_copy {r i t j n : Int} {s : jMem} (hI : iR s) (hi : jR 1 i) (hj : jR 1 j) (hn : jR 1 n) : ∃ v s1 s2, fX10_copy r i t j n s = some (v, s1) ∧ fX11_copy r i t j n s1 = some (v, s2) ∧ iR s2 ∧ fR s s2 := by
  have u := jik_m
  have w := jrk_t
  have hi1 := hi.1
  have hi2 := hi.2
  have hj1 := hj.1
  have hj2 := hj.2
  have hn1 := hn.1
  have hn2 := hn.2
  by_cases hr : 0 ≤ r ∧ r < 6
  · obtain ⟨t0, t1, t2, t3, t4⟩ := jr_t hr.1 hr.2
    obtain ⟨a1, a2, a3, a4, a5, a6, a7, a8⟩ := hI r hr.1 hr.2
    by_cases ht : 0 ≤ t ∧ t < 6
    · obtain ⟨p0, p1, p2, p3, p4⟩ := jr_t ht.1 ht.2
      obtain ⟨b1, b2, b3, b4, b5, b6, b7, b8⟩ := hI t ht.1 ht.2
      have cls : fX10_copy r i t j n s = if s 60 r = -1 ∨ s 60 t = -1 then some (-11, s) else if s 60 r = s 60 t then (if (0 ≤ i ∧ 0 ≤ n ∧ i + n ≤ s 61 r) ∧ (0 ≤ j ∧ 0 ≤ n ∧ j + n ≤ s 61 t) then some (0, jCp s (26 + 2 * r) i (26 + 2 * t) j n) else some (-12, s)) else some (-14, s) := by
        rw [fX10_copy, sX10_isRack, jBd_s, jb_1 hr, if_neg (by decide), sX10_isRack, jBd_s, jb_1 ht, if_neg (by decide), jGd_e ⟨hr.1, by omega⟩, jLet_e, t0, jGd_e ⟨ht.1, by omega⟩, jLet_e, p0, jGd_e t1, sX5_isMissing s hr.1 hr.2, jBd_s, a1]
        by_cases k1 : s 60 r = -1
        · rw [jb_1 k1, if_neg (by decide), if_pos (.inl k1)]; rfl
        rw [jb_0 k1, if_pos rfl, jGd_e p1, sX5_isMissing s ht.1 ht.2, jBd_s, b1]
        by_cases k2 : s 60 t = -1
        · rw [jb_1 k2, if_neg (by decide), if_pos (.inr k2)]; rfl
        rw [jb_0 k2, if_pos rfl, if_neg (by omega)]
        simp only [jLet_e, a1, b1]
        by_cases k3 : s 60 r = s 60 t
        · rw [if_pos k3, if_pos k3, sX5_reaches i n s hr.1 hr.2 (by omega) hn, jBd_s, a2]
          by_cases k4 : 0 ≤ i ∧ 0 ≤ n ∧ i + n ≤ s 61 r
          · rw [jb_1 k4, if_neg (by decide), sX5_reaches j n s ht.1 ht.2 (by omega) hn, jBd_s, b2]
            by_cases k5 : 0 ≤ j ∧ 0 ≤ n ∧ j + n ≤ s 61 t
            · rw [jb_1 k5, if_neg (by decide), t2, p2, jGd_e ⟨by omega, by omega, by omega, by omega, by omega, by omega, by omega⟩, if_pos ⟨k4, k5⟩]; rfl
            · rw [jb_0 k5, if_pos rfl, if_neg (fun z => k5 z.2)]; rfl
          · rw [jb_0 k4, if_pos rfl, if_neg (fun z => k4 z.1)]; rfl
        · rw [if_neg k3, if_neg k3]; rfl
      by_cases k1 : s 60 r = -1 ∨ s 60 t = -1
      · refine ⟨-11, s, s, by rw [cls, if_pos k1], ?_, hI, fR_rf s⟩
        rw [fX11_copy, sX11_isRack, jBd_s, jb_1 ⟨hr.1, by omega⟩, if_neg (by decide), sX11_isRack, jBd_s, jb_1 ⟨ht.1, by omega⟩, if_neg (by decide), jGd_e ⟨hr.1, by omega⟩, jLet_e]
        by_cases k2 : s 60 r < 0
        · rw [if_pos k2]; rfl
        · rw [if_neg k2, jGd_e ⟨ht.1, by omega⟩, jLet_e, if_neg (by omega)]; rfl
      by_cases k3 : s 60 r = s 60 t
      · by_cases k4 : (0 ≤ i ∧ 0 ≤ n ∧ i + n ≤ s 61 r) ∧ (0 ≤ j ∧ 0 ≤ n ∧ j + n ≤ s 61 t)
        · obtain ⟨⟨i0, n0, i1⟩, j0, -, j1⟩ := k4
          obtain ⟨n, rfl⟩ := jnn n0
          obtain ⟨s1, hs1⟩ : ∃ z, z = jCp s (26 + 2 * r) i (26 + 2 * t) j n := ⟨_, rfl⟩
          have row : ∀ x : Int, x ≠ 26 + 2 * t → s1 x = s x := fun x hx => by
            rw [hs1]
            funext b
            simp only [jCp]
            rw [if_neg (fun z => hx z.1)]
          have r60 := row 60 (by omega)
          have r61 := row 61 (by omega)
          have r62 := row 62 (by omega)
          refine ⟨0, s1, jMap (jMap s1 66 0 n (fun b => s1 62 (40 * r + i + b))) 62 (40 * t + j) n (fun b => jMap s1 66 0 n (fun b => s1 62 (40 * r + i + b)) 66 (b - (40 * t + j))), by rw [cls, if_neg k1, if_pos k3, if_pos ⟨⟨i0, n0, i1⟩, j0, n0, j1⟩, hs1], ?_, ?_, ?_⟩
          · have hm := sX11_copy_110 (r := r) (i := i) (t := t) (j := j) (n := n) s1 ht.1 ht.2 j0 (by omega) hr.1 hr.2 i0 (by omega)
            rw [fX11_copy, sX11_isRack, jBd_s, jb_1 ⟨hr.1, by omega⟩, if_neg (by decide), sX11_isRack, jBd_s, jb_1 ⟨ht.1, by omega⟩, if_neg (by decide), jGd_e ⟨hr.1, by omega⟩]
            simp only [jLet_e, r60, r61, jcmp_gt, jcmp_le]
            rw [if_neg (by omega), jGd_e ⟨ht.1, by omega⟩, if_pos (by omega), jGd_e ⟨hr.1, by omega⟩, jGd_e ⟨ht.1, by omega⟩, if_pos k3, if_neg (by omega), if_neg (by omega), if_neg (by omega), jGd_e ⟨hr.1, by omega⟩, j64_id (x := i + n) (by omega) (by omega), if_neg (by omega), jGd_e ⟨ht.1, by omega⟩, j64_id (x := j + n) (by omega) (by omega), if_pos (by omega)]
            exact hm
          · intro r' h0 h6
            obtain ⟨c1, c2, c3, c4, c5, c6, c7, c8⟩ := hI r' h0 h6
            rw [jMap_row (r' := 25 + 2 * r') (by omega), jMap_row (r' := 25 + 2 * r') (by omega), jMap_row (r' := 60) (by decide), jMap_row (r' := 60) (by decide), jMap_row (r' := 61) (by decide), jMap_row (r' := 61) (by decide), row (25 + 2 * r') (by omega), r60, r61]
            refine ⟨c1, c2, c3, c4, c5, c6, c7, fun q g0 g1 => ?_⟩
            rw [jMap_row (r' := 26 + 2 * r') (by omega), jMap_row (r' := 26 + 2 * r') (by omega)]
            by_cases e : r' = t ∧ j ≤ q ∧ q < j + n
            · obtain ⟨rfl, e1, e2⟩ := e
              rw [jMap_in (by omega) (by omega), jMap_in (by omega) (by omega), r62, hs1]
              simp only [jCp]
              rw [if_pos ⟨trivial, e1, e2⟩, a8 (i + (q - j)) (by omega) (by omega)]
              rw [show 40 * r + (i + (q - j)) = 40 * r + i + (40 * r' + q - (40 * r' + j)) by omega]
            · rw [jMap_out (by omega), jMap_row (r' := 62) (by decide), r62, hs1]
              simp only [jCp]
              rw [if_neg (by omega)]
              exact c8 q g0 g1
          · intro x h1 h2 h3 h4 h5
            rw [jMap_row h4, jMap_row h5, row x (by omega)]
        · refine ⟨-12, s, s, by rw [cls, if_neg k1, if_pos k3, if_neg k4], ?_, hI, fR_rf s⟩
          rw [fX11_copy, sX11_isRack, jBd_s, jb_1 ⟨hr.1, by omega⟩, if_neg (by decide), sX11_isRack, jBd_s, jb_1 ⟨ht.1, by omega⟩, if_neg (by decide), jGd_e ⟨hr.1, by omega⟩]
          simp only [jLet_e, jcmp_gt, jcmp_le, jRet]
          rw [if_neg (by omega), jGd_e ⟨ht.1, by omega⟩, if_pos (by omega), jGd_e ⟨hr.1, by omega⟩, jGd_e ⟨ht.1, by omega⟩, if_pos k3]
          by_cases n0 : n < 0
          · rw [if_pos n0]
          rw [if_neg n0]
          by_cases i0 : i < 0
          · rw [if_pos i0]
          rw [if_neg i0]
          by_cases j0 : j < 0
          · rw [if_pos j0]
          rw [if_neg j0, jGd_e ⟨hr.1, by omega⟩, j64_id (x := i + n) (by omega) (by omega)]
          by_cases i1 : s 61 r < i + n
          · rw [if_pos i1]
          rw [if_neg i1, jGd_e ⟨ht.1, by omega⟩, j64_id (x := j + n) (by omega) (by omega), if_neg (by omega)]
      · refine ⟨-14, s, s, by rw [cls, if_neg k1, if_neg k3], ?_, hI, fR_rf s⟩
        rw [fX11_copy, sX11_isRack, jBd_s, jb_1 ⟨hr.1, by omega⟩, if_neg (by decide), sX11_isRack, jBd_s, jb_1 ⟨ht.1, by omega⟩, if_neg (by decide), jGd_e ⟨hr.1, by omega⟩, jLet_e, if_neg (by omega), jGd_e ⟨ht.1, by omega⟩, jLet_e, if_pos (by omega), jGd_e ⟨hr.1, by omega⟩, jLet_e, jGd_e ⟨ht.1, by omega⟩, jLet_e, if_neg k3]; rfl
    · refine ⟨-1, s, s, ?_, ?_, hI, fR_rf s⟩
      · rw [fX10_copy, sX10_isRack, jBd_s, jb_1 hr, if_neg (by decide), sX10_isRack, jBd_s, jb_0 ht, if_pos rfl]; rfl
      · rw [fX11_copy, sX11_isRack, jBd_s, jb_1 ⟨hr.1, by omega⟩, if_neg (by decide), sX11_isRack, jBd_s, jb_0 (by omega), if_pos rfl]; rfl
  · refine ⟨-1, s, s, ?_, ?_, hI, fR_rf s⟩
    · rw [fX10_copy, sX10_isRack, jBd_s, jb_0 hr, if_pos rfl]; rfl
    · rw [fX11_copy, sX11_isRack, jBd_s, jb_0 (by omega), if_pos rfl]; rfl
end
