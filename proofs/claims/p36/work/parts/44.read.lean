/-! ===== read ===== -/
section
/-- how many of the first n are q -/
def yCnt (v : Int → Int) (n : Nat) (q : Int) : Int := jSum (fun j => if v j = q then 1 else 0) n
theorem yCnt_s (v : Int → Int) (n : Nat) (q : Int) : yCnt v (n + 1) q = yCnt v n q + (if v n = q then 1 else 0) := rfl
theorem yCnt_bd (v : Int → Int) (n : Nat) (q : Int) : 0 ≤ yCnt v n q ∧ yCnt v n q ≤ n := by
  induction n with
  | zero => exact ⟨Int.le_refl 0, Int.le_refl 0⟩
  | succ n ih =>
    rw [yCnt_s]
    split <;> omega
theorem yCnt_mono (v : Int → Int) (q : Int) (n m : Nat) : yCnt v n q ≤ yCnt v (n + m) q := by
  induction m with
  | zero => exact Int.le_refl _
  | succ m ih =>
    have := yCnt_s v (n + m) q
    rw [show n + (m + 1) = n + m + 1 from rfl, this]
    split <;> omega
theorem yCnt_sum {v : Int → Int} {n : Nat} (h : ∀ k : Nat, k < n → 0 ≤ v k ∧ v k < 34) : jSum (yCnt v n) 34 = n := by
  induction n with
  | zero =>
    rw [jSum_cg (g := fun _ => 0) (fun i hi => rfl), jSum_0]; rfl
  | succ n ih =>
    have a := ih (fun k hk => h k (by omega))
    have b := h n (by omega)
    have e := jSum_cg (f := yCnt v (n + 1)) (g := fun q => yCnt v n q + (if q = v n then 1 else 0)) (n := 34) (fun i hi => by
      rw [yCnt_s]
      by_cases e : v n = (i : Int)
      · rw [if_pos e, if_pos e.symm]
      · rw [if_neg e, if_neg (fun z => e z.symm)])
    rw [e, jSum_add (f := yCnt v n) (g := fun q => if q = v n then 1 else 0) 34, a, jSum_one, if_pos (by omega)]
    omega
/-- the k-th may come -/
def yGood (v W : Int → Int) (k : Nat) : Prop := 0 ≤ v k ∧ v k < 34 ∧ yCnt v k (v k) < W (v k)
theorem yGood_le {v W : Int → Int} (hW : ∀ q : Int, 0 ≤ q → q < 34 → 0 ≤ W q) {n : Nat} (h : ∀ k : Nat, k < n → yGood v W k) (q : Int) (q0 : 0 ≤ q) (q4 : q < 34) : yCnt v n q ≤ W q := by
  induction n with
  | zero => exact hW q q0 q4
  | succ n ih =>
    have a := ih (fun k hk => h k (by omega))
    have b := h n (by omega)
    rw [yCnt_s]
    by_cases e : v n = q
    · rw [if_pos e]
      have := b.2.2
      rw [e] at this
      omega
    · rw [if_neg e]; omega
theorem zX10_unread {s0 s : jMem} {h r i : Int} {K : Nat} {v : Int → Int} (h0 : 0 ≤ h) (h4 : h < 4) (r0 : 0 ≤ r) (r6 : r < 6) (i0 : 0 ≤ i) (i4 : i + K ≤ 40) (hv : ∀ k : Nat, k < K → s0 (26 + 2 * r) (i + k) = v k ∧ 0 ≤ v k ∧ v k < 34) (hb : ∀ q : Int, 0 ≤ q → q < 34 → yCnt v K q ≤ s0 3 q ∧ s0 3 q ≤ 4 ∧ 0 ≤ s0 (38 + 4 * h) q ∧ s0 (38 + 4 * h) q ≤ 4) (h3 : 0 ≤ s0 (37 + 4 * h) 3 ∧ s0 (37 + 4 * h) 3 ≤ 14) (hK : K ≤ 14) (a1 : ∀ q : Int, s 3 q = s0 3 q - yCnt v K q) (a2 : ∀ q : Int, s (38 + 4 * h) q = s0 (38 + 4 * h) q + yCnt v K q) (a3 : ∀ y : Int, s (37 + 4 * h) y = if y = 3 then s0 (37 + 4 * h) 3 + K else s0 (37 + 4 * h) y) (fr : ∀ x : Int, x ≠ 3 → x ≠ 38 + 4 * h → x ≠ 37 + 4 * h → s x = s0 x) : jHo (fun _ t => t = s0) (fX10_unread (37 + 4 * h) (25 + 2 * r) i K s) := by
  obtain ⟨t0, t1, t2, t3, t4, t5, t6, t7, t8, t9⟩ := jh_t h0 h4
  obtain ⟨p0, p1, p2, p3, p4⟩ := jr_t r0 r6
  have u := jik_t
  unfold fX10_unread
  refine gIt6 (fun b1 b2 b3 b4 b5 t => b1 = 37 + 4 * h ∧ b2 = 25 + 2 * r ∧ b3 = i ∧ b4 = K ∧ ∃ n : Nat, b5 = n ∧ n ≤ K ∧ (∀ q : Int, t 3 q = s0 3 q - yCnt v K q + yCnt v n q) ∧ (∀ q : Int, t (38 + 4 * h) q = s0 (38 + 4 * h) q + yCnt v K q - yCnt v n q) ∧ (∀ y : Int, t (37 + 4 * h) y = if y = 3 then s0 (37 + 4 * h) 3 + K - n else s0 (37 + 4 * h) y) ∧ (∀ x : Int, x ≠ 3 → x ≠ 38 + 4 * h → x ≠ 37 + 4 * h → t x = s0 x)) (fun _ _ _ _ b5 => (40 - b5).toNat) ?_ 1000 _ _ i K 0 s ⟨rfl, rfl, rfl, rfl, 0, rfl, by omega, fun q => by rw [a1]; show _ = _ - _ + 0; omega, fun q => by rw [a2]; show _ = _ + _ - 0; omega, fun y => by rw [a3]; split <;> omega, fr⟩ (by decide)
  rintro rec b1 b2 b3 b4 b5 t ⟨rfl, rfl, rfl, rfl, n, rfl, hn, c1, c2, c3, c4⟩ ih
  unfold bX10_unread_3
  refine gHo_if (fun hc => ?_) (fun hc => ?_)
  · have e : n = K := by omega
    subst e
    refine gHo_ret ?_
    funext x
    by_cases e1 : x = 3
    · subst e1; funext q; rw [c1]; omega
    · by_cases e2 : x = 38 + 4 * h
      · subst e2; funext q; rw [c2]; omega
      · by_cases e3 : x = 37 + 4 * h
        · subst e3; funext y; rw [c3]
          by_cases ey : y = 3
          · rw [if_pos ey, ey]; omega
          · rw [if_neg ey]
        · exact c4 x e1 e2 e3
  · have hn2 : n < K := by omega
    obtain ⟨d1, d2, d3⟩ := hv n hn2
    have f26 := c4 (26 + 2 * r) (by omega) (by omega) (by omega)
    have bq := hb (v n) d2 d3
    have e1 := c1 (v n)
    have e2 := c2 (v n)
    have e3 := c3 3
    rw [if_pos rfl] at e3
    have k1 := yCnt_bd v n (v n)
    have k2 : yCnt v n (v n) + 1 ≤ yCnt v K (v n) := by
      have z := yCnt_mono v (v n) (n + 1) (K - (n + 1))
      rw [show n + 1 + (K - (n + 1)) = K by omega, yCnt_s, if_pos rfl] at z
      exact z
    refine gHo_gd p1 (gHo_let ?_)
    rw [p2]
    refine gHo_l32 (by omega) (by omega) (gHo_gd ⟨by omega, by omega⟩ (gHo_let ?_))
    rw [f26, d1, jGd_e t1, sX1_lose h0 h4 d2 d3 ⟨by omega, by omega⟩ ⟨by omega, by omega⟩, jBd_s]
    refine gHo_gd ⟨d2, by omega⟩ (gHo_let ?_)
    rw [jU_row (r' := 3) (by omega), jU_row (r' := 3) (by omega)]
    refine gHo_l32 (by omega) (by omega) (gHo_gd ⟨d2, by omega⟩ (gHo_nm fun t' ht' => gHo_l32 (by omega) (by omega) (ih _ _ _ _ _ _ ⟨rfl, rfl, rfl, rfl, n + 1, by omega, by omega, fun q => ?_, fun q => ?_, fun y => ?_, fun x x1 x2 x3 => ?_⟩ (by omega))))
    · rw [ht', jU_at, yCnt_s]
      by_cases e : q = v n
      · subst e; rw [if_pos rfl, if_pos rfl, e1]; omega
      · rw [if_neg e, if_neg (fun z => e z.symm), jU_row (by omega), jU_row (by omega), c1]; omega
    · rw [ht', jU_row (by omega), jU_row (by omega), jU_at, yCnt_s]
      by_cases e : q = v n
      · subst e; rw [if_pos rfl, if_pos rfl, e2]; omega
      · rw [if_neg e, if_neg (fun z => e z.symm), c2]; omega
    · rw [ht', jU_row (by omega), jU_at]
      by_cases e : y = 3
      · rw [if_pos e, if_pos e, e3]; omega
      · rw [if_neg e, if_neg e, jU_row (by omega), c3, if_neg e]
    · rw [ht', jU_row x1, jU_row x3, jU_row x2]; exact c4 x x1 x2 x3
theorem zX10_readAll {s : jMem} {h r i : Int} {n : Nat} {v : Int → Int} (h0 : 0 ≤ h) (h4 : h < 4) (r0 : 0 ≤ r) (r6 : r < 6) (i0 : 0 ≤ i) (i4 : i + n ≤ 40) (hv : ∀ k : Nat, k < n → s (26 + 2 * r) (i + k) = v k) (hb : ∀ q : Int, 0 ≤ q → q < 34 → 0 ≤ s 3 q ∧ s 3 q ≤ 4 ∧ 0 ≤ s (38 + 4 * h) q ∧ s (38 + 4 * h) q ≤ 4) (h3 : 0 ≤ s (37 + 4 * h) 3 ∧ 0 ≤ s (37 + 4 * h) 4 ∧ s (37 + 4 * h) 3 + 3 * s (37 + 4 * h) 4 + n ≤ 14) : jHo (fun w t => ((∀ k : Nat, k < n → yGood v (s 3) k) ∧ w = s (37 + 4 * h) 3 + n + 3 * s (37 + 4 * h) 4 ∧ (∀ q : Int, t 3 q = s 3 q - yCnt v n q) ∧ (∀ q : Int, t (38 + 4 * h) q = s (38 + 4 * h) q + yCnt v n q) ∧ (∀ y : Int, t (37 + 4 * h) y = if y = 3 then s (37 + 4 * h) 3 + n else s (37 + 4 * h) y) ∧ ∀ x : Int, x ≠ 3 → x ≠ 38 + 4 * h → x ≠ 37 + 4 * h → t x = s x) ∨ (t = s ∧ ∃ K : Nat, K < n ∧ (∀ k : Nat, k < K → yGood v (s 3) k) ∧ ¬ yGood v (s 3) K ∧ w = if 0 ≤ v K ∧ v K < 34 then -16 else -15)) (fX10_readAll (37 + 4 * h) (25 + 2 * r) i n s) := by
  obtain ⟨t0, t1, t2, t3, t4, t5, t6, t7, t8, t9⟩ := jh_t h0 h4
  obtain ⟨p0, p1, p2, p3, p4⟩ := jr_t r0 r6
  have u := jik_t
  unfold fX10_readAll
  refine gIt6 (fun b1 b2 b3 b4 b5 t => b1 = 37 + 4 * h ∧ b2 = 25 + 2 * r ∧ b3 = i ∧ b4 = n ∧ ∃ k : Nat, b5 = k ∧ k ≤ n ∧ (∀ j : Nat, j < k → yGood v (s 3) j) ∧ (∀ q : Int, t 3 q = s 3 q - yCnt v k q) ∧ (∀ q : Int, t (38 + 4 * h) q = s (38 + 4 * h) q + yCnt v k q) ∧ (∀ y : Int, t (37 + 4 * h) y = if y = 3 then s (37 + 4 * h) 3 + k else s (37 + 4 * h) y) ∧ (∀ x : Int, x ≠ 3 → x ≠ 38 + 4 * h → x ≠ 37 + 4 * h → t x = s x)) (fun _ _ _ _ b5 => (40 - b5).toNat) ?_ 1000 _ _ i n 0 s ⟨rfl, rfl, rfl, rfl, 0, rfl, by omega, fun j hj => by omega, fun q => by show _ = _ - 0; omega, fun q => by show _ = _ + 0; omega, fun y => by
    by_cases e : y = 3
    · rw [if_pos e, e]; omega
    · rw [if_neg e], fun _ _ _ _ => rfl⟩ (by decide)
  rintro rec b1 b2 b3 b4 b5 t ⟨rfl, rfl, rfl, rfl, k, rfl, hk, hg, c1, c2, c3, c4⟩ ih
  have e3 := c3 3
  have e4 := c3 4
  rw [if_pos rfl] at e3
  rw [if_neg (by decide)] at e4
  unfold bX10_readAll_3
  refine gHo_if (fun hc => ?_) (fun hc => ?_)
  · have e : k = n := by omega
    subst e
    rw [jGd_e t1, sX1_size h0 h4 (by omega), jBd_s]
    refine gHo_ret (Or.inl ⟨hg, by omega, c1, c2, c3, c4⟩)
  · have hk2 : k < n := by omega
    have d1 := hv k hk2
    have f26 := c4 (26 + 2 * r) (by omega) (by omega) (by omega)
    have bad : ¬ yGood v (s 3) k → ∀ w : Int, (w = v k) → jHo (fun w t => ((∀ k : Nat, k < n → yGood v (s 3) k) ∧ w = s (37 + 4 * h) 3 + n + 3 * s (37 + 4 * h) 4 ∧ (∀ q : Int, t 3 q = s 3 q - yCnt v n q) ∧ (∀ q : Int, t (38 + 4 * h) q = s (38 + 4 * h) q + yCnt v n q) ∧ (∀ y : Int, t (37 + 4 * h) y = if y = 3 then s (37 + 4 * h) 3 + n else s (37 + 4 * h) y) ∧ ∀ x : Int, x ≠ 3 → x ≠ 38 + 4 * h → x ≠ 37 + 4 * h → t x = s x) ∨ (t = s ∧ ∃ K : Nat, K < n ∧ (∀ k : Nat, k < K → yGood v (s 3) k) ∧ ¬ yGood v (s 3) K ∧ w = if 0 ≤ v K ∧ v K < 34 then -16 else -15)) (bX10_readAll_39 (37 + 4 * h) (25 + 2 * r) b3 k w t) := by
      intro nb w hw
      subst hw
      unfold bX10_readAll_39
      refine gHo_bd (zX10_unread (s0 := s) (K := k) (v := v) h0 h4 r0 r6 i0 (by omega) (fun j hj => ⟨hv j (by omega), (hg j hj).1, (hg j hj).2.1⟩) (fun q q0 q4 => ⟨yGood_le (fun q q0 q4 => (hb q q0 q4).1) hg q q0 q4, (hb q q0 q4).2.1, (hb q q0 q4).2.2⟩) (by omega) (by omega) c1 c2 c3 c4) (fun w t' ht' => ?_)
      subst ht'
      rw [sX8_isSort, jBd_s]
      by_cases e : 0 ≤ v k ∧ v k < 34
      · rw [jb_1 e, if_neg (by decide)]
        exact gHo_ret (Or.inr ⟨rfl, k, hk2, hg, nb, by rw [if_pos e]⟩)
      · rw [jb_0 e, if_pos rfl]
        exact gHo_ret (Or.inr ⟨rfl, k, hk2, hg, nb, by rw [if_neg e]⟩)
    refine gHo_gd p1 (gHo_let ?_)
    rw [p2]
    refine gHo_l32 (by omega) (by omega) (gHo_gd ⟨by omega, by omega⟩ (gHo_let ?_))
    rw [f26, d1, sX8_isSort, jBd_s]
    by_cases e : 0 ≤ v k ∧ v k < 34
    · have bq := hb (v k) e.1 e.2
      have le := yGood_le (fun q q0 q4 => (hb q q0 q4).1) hg (v k) e.1 e.2
      have cb := yCnt_bd v k (v k)
      have e1 := c1 (v k)
      have e2 := c2 (v k)
      rw [jb_1 e, if_neg (by decide)]
      refine gHo_gd ⟨e.1, by omega⟩ (gHo_let (gHo_if (fun hz => ?_) (fun hz => ?_)))
      · exact bad (fun z => by have := z.2.2; omega) _ rfl
      · have good : yGood v (s 3) k := ⟨e.1, e.2, by omega⟩
        refine gHo_gd ⟨e.1, by omega⟩ (gHo_let (gHo_l32 (by omega) (by omega) (gHo_gd ⟨e.1, by omega⟩ (gHo_nm fun t1' ht1' => ?_))))
        have r37 : t1' (37 + 4 * h) = t (37 + 4 * h) := by rw [ht1', jU_row (by omega)]
        have r38 : t1' (38 + 4 * h) = t (38 + 4 * h) := by rw [ht1', jU_row (by omega)]
        rw [jGd_e t1, sX1_gain h0 h4 e.1 e.2 (by rw [r38]; omega) (by rw [r37]; omega), jBd_s, r38, r37]
        refine gHo_l32 (by omega) (by omega) (ih _ _ _ _ _ _ ⟨rfl, rfl, rfl, rfl, k + 1, by omega, by omega, fun j hj => ?_, fun q => ?_, fun q => ?_, fun y => ?_, fun x x1 x2 x3 => ?_⟩ (by omega))
        · by_cases ej : j = k
          · subst ej; exact good
          · exact hg j (by omega)
        · rw [jU_row (by omega), jU_row (by omega), ht1', jU_at, yCnt_s]
          by_cases eq : q = v k
          · subst eq; rw [if_pos rfl, if_pos rfl, e1]; omega
          · rw [if_neg eq, if_neg (fun z => eq z.symm), c1]; omega
        · rw [jU_row (by omega), jU_at, yCnt_s]
          by_cases eq : q = v k
          · subst eq; rw [if_pos rfl, if_pos rfl, e2]; omega
          · rw [if_neg eq, if_neg (fun z => eq z.symm), r38, c2]; omega
        · rw [jU_at]
          by_cases ey : y = 3
          · rw [if_pos ey, if_pos ey, e3]; omega
          · rw [if_neg ey, if_neg ey, jU_row (by omega), r37, c3, if_neg ey]
        · rw [jU_row x3, jU_row x2, ht1', jU_row x1]; exact c4 x x1 x2 x3
    · rw [jb_0 e, if_pos rfl]
      exact bad (fun z => e ⟨z.1, z.2.1⟩) _ rfl
theorem zX11_readAll {s : jMem} {h r i : Int} {n : Nat} {v : Int → Int} (h0 : 0 ≤ h) (h4 : h < 4) (r0 : 0 ≤ r) (r6 : r < 6) (i0 : 0 ≤ i) (i4 : i + n ≤ 40) (hn : n ≤ 14) (hv : ∀ k : Nat, k < n → s 62 (40 * r + i + k) = v k) (hb : ∀ q : Int, 0 ≤ q → q < 34 → 0 ≤ s 54 q ∧ s 54 q ≤ 4 ∧ 0 ≤ vH s h q ∧ vH s h q ≤ 4) (hg : 0 ≤ s 58 h ∧ s 58 h ≤ 4) : jHo (fun w t => ((∀ k : Nat, k < n → yGood v (s 54) k) ∧ w = jSum (vH s h) 34 + n + 3 * s 58 h ∧ (∀ q : Int, 0 ≤ q → q < 34 → t 54 q = s 54 q - yCnt v n q) ∧ (∀ g q : Int, 0 ≤ q → q < 34 → vH t g q = if g = h then vH s g q + yCnt v n q else vH s g q) ∧ ∀ x : Int, x ≠ 54 → x ≠ 56 → x ≠ 67 → t x = s x) ∨ ((∀ x : Int, x ≠ 67 → t x = s x) ∧ ∃ K : Nat, K < n ∧ (∀ k : Nat, k < K → yGood v (s 54) k) ∧ ¬ yGood v (s 54) K ∧ w = if 0 ≤ v K ∧ v K < 34 then -16 else -15)) (jIt (fun _ _ _ _ _ _ => none) (bX11_read_79 bX11_read_100) 1000 h r i n 0 s) := by
  have u := jik_m
  refine gIt6 (fun b1 b2 b3 b4 b5 t => b1 = h ∧ b2 = r ∧ b3 = i ∧ b4 = n ∧ 0 ≤ b5 ∧ b5 ≤ 34 ∧ (∀ x : Int, x ≠ 67 → t x = s x) ∧ ∀ q : Int, 0 ≤ q → q < b5 → t 67 q = 0) (fun _ _ _ _ b5 => (34 - b5).toNat) ?_ 1000 _ _ i n 0 s ⟨rfl, rfl, rfl, rfl, by omega, by omega, fun _ _ => rfl, fun q q0 q4 => by omega⟩ (by decide)
  rintro rec b1 b2 b3 b4 q t ⟨rfl, rfl, rfl, rfl, q0, q34, fr, hz⟩ ih
  unfold bX11_read_79
  refine gHo_if (fun hc => ?_) (fun hc => ?_)
  · have e : q = 34 := by omega
    subst e
    unfold bX11_read_100
    refine gIt6 (fun b1' b2' b3' b4' b5' z => b1' = b1 ∧ b2' = b2 ∧ b3' = b3 ∧ b4' = n ∧ ∃ k : Nat, b5' = k ∧ k ≤ n ∧ (∀ j : Nat, j < k → yGood v (s 54) j) ∧ (∀ p : Int, 0 ≤ p → p < 34 → z 67 p = yCnt v k p) ∧ (∀ x : Int, x ≠ 67 → z x = s x)) (fun _ _ _ _ b5' => (40 - b5').toNat) ?_ 1000 _ _ b3 n 0 t ⟨rfl, rfl, rfl, rfl, 0, rfl, by omega, fun j hj => by omega, fun p p0 p4 => hz p p0 p4, fr⟩ (by decide)
    rintro rec2 b1' b2' b3' b4' b5' z ⟨rfl, rfl, rfl, rfl, k, rfl, hk, hgd, cz, frz⟩ ih2
    have f54 := frz 54 (by decide)
    have f62 := frz 62 (by decide)
    have hcl := yGood_le (fun q q0 q4 => (hb q q0 q4).1) hgd
    unfold bX11_read_103
    refine gHo_if (fun hc2 => ?_) (fun hc2 => ?_)
    · have e : k = n := by omega
      subst e
      unfold bX11_read_174
      refine gIt3 (fun c1 p m => c1 = b1' ∧ 0 ≤ p ∧ p ≤ 34 ∧ (∀ q : Int, 0 ≤ q → q < 34 → m 67 q = yCnt v k q ∧ m 54 q = s 54 q - (if q < p then yCnt v k q else 0)) ∧ (∀ g q : Int, 0 ≤ q → q < 34 → vH m g q = if g = b1' ∧ q < p then vH s g q + yCnt v k q else vH s g q) ∧ ∀ x : Int, x ≠ 54 → x ≠ 56 → x ≠ 67 → m x = s x) (fun _ p => (34 - p).toNat) ?_ 1000 _ 0 z ⟨rfl, by omega, by omega, fun q q0 q4 => ⟨cz q q0 q4, by rw [f54, if_neg (by omega)]; omega⟩, fun g q q0 q4 => by rw [if_neg (by omega)]; unfold vH; rw [frz 56 (by decide)], fun x x1 x2 x3 => frz x x3⟩ (by decide)
      rintro rec3 c1 p m ⟨rfl, p0, p34, hm, hh, frm⟩ ih3
      unfold bX11_read_177
      refine gHo_if (fun hc3 => ?_) (fun hc3 => ?_)
      · have e : p = 34 := by omega
        subst e
        have eHm : ∀ q : Int, 0 ≤ q → q < 34 → vH m c1 q = vH s c1 q + yCnt v k q := fun q q0 q4 => by
          rw [hh c1 q q0 q4, if_pos ⟨rfl, q4⟩]
        have hs : jSum (vH m c1) 34 = jSum (vH s c1) 34 + k := by
          rw [jSum_cg (f := vH m c1) (g := fun q => vH s c1 q + yCnt v k q) (fun i hi => eHm i (by omega) (by omega)), jSum_add (f := vH s c1) (g := yCnt v k) 34, yCnt_sum (fun j hj => ⟨(hgd j hj).1, (hgd j hj).2.1⟩)]
        have f58 := frm 58 (by decide) (by decide) (by decide)
        rw [sX11_sizeOf h0 h4 (fun i hi => by
          rw [eHm i (by omega) (by omega)]
          have := hb i (by omega) (by omega)
          have := hcl i (by omega) (by omega)
          have := yCnt_bd v k i
          omega) (by rw [f58]; omega), jBd_s, hs, f58]
        refine gHo_ret (Or.inl ⟨hgd, rfl, fun q q0 q4 => ?_, fun g q q0 q4 => ?_, frm⟩)
        · rw [(hm q q0 q4).2, if_pos q4]
        · rw [hh g q q0 q4]
          by_cases e : g = c1
          · rw [if_pos ⟨e, q4⟩, if_pos e]
          · rw [if_neg (fun z => e z.1), if_neg e]
      · have p4 : p < 34 := by omega
        have om := hm p p0 p4
        rw [if_neg (by omega)] at om
        have oh := hh c1 p p0 p4
        rw [if_neg (by omega)] at oh
        have eo : m 56 (34 * c1 + p) = vH s c1 p := oh
        have bb := hb p p0 p4
        have cc := hcl p p0 p4
        have cn := yCnt_bd v k p
        refine gHo_gd ⟨p0, by omega⟩ (gHo_let (gHo_gd ⟨p0, by omega⟩ (gHo_let ?_)))
        rw [om.1, om.2]
        refine gHo_l32 (by omega) (by omega) (gHo_gd ⟨p0, by omega⟩ (gHo_nm fun m1 hm1 => ?_))
        have r67 : m1 67 = m 67 := by rw [hm1, jU_row (by decide)]
        have r56 : m1 56 = m 56 := by rw [hm1, jU_row (by decide)]
        refine gHo_l32 (by omega) (by omega) (gHo_l32 (by omega) (by omega) (gHo_gd ⟨by omega, by omega⟩ (gHo_let (gHo_gd ⟨p0, by omega⟩ (gHo_let ?_)))))
        rw [r67, r56, eo, om.1]
        refine gHo_l32 (by omega) (by omega) (gHo_gd ⟨by omega, by omega⟩ (gHo_nm fun m2 hm2 => gHo_l32 (by omega) (by omega) (ih3 _ _ _ ⟨rfl, by omega, by omega, fun q q0 q4 => ⟨?_, ?_⟩, fun g q q0 q4 => ?_, fun x x1 x2 x3 => ?_⟩ (by omega))))
        · rw [hm2, jU_row (by decide), r67]; exact (hm q q0 q4).1
        · rw [hm2, jU_row (by decide), hm1, jU_at]
          by_cases e : q = p
          · subst e; rw [if_pos rfl, if_pos (by omega)]; omega
          · rw [if_neg e, (hm q q0 q4).2]
            by_cases e2 : q < p
            · rw [if_pos e2, if_pos (by omega)]
            · rw [if_neg e2, if_neg (by omega)]
        · have o := hh g q q0 q4
          unfold vH at o ⊢
          rw [hm2, jU_at, r56, o]
          by_cases e : g = c1 ∧ q = p
          · obtain ⟨rfl, rfl⟩ := e
            rw [if_pos rfl, if_pos ⟨rfl, by omega⟩]
            rfl
          · rw [if_neg (by omega)]
            by_cases e2 : g = c1 ∧ q < p
            · rw [if_pos e2, if_pos ⟨e2.1, by omega⟩]
            · rw [if_neg e2, if_neg (by omega)]
        · rw [hm2, jU_row x2, hm1, jU_row x1]; exact frm x x1 x2 x3
    · have hk2 : k < n := by omega
      have d1 := hv k hk2
      refine gHo_l32 (by omega) (by omega) (gHo_l32 (by omega) (by omega) (gHo_l32 (by omega) (by omega) (gHo_gd ⟨by omega, by omega⟩ (gHo_let ?_))))
      rw [f62, d1, sX11_isSort, jBd_s]
      by_cases e : 0 ≤ v k ∧ v k ≤ 33
      · have bq := hb (v k) e.1 (by omega)
        have le := hcl (v k) e.1 (by omega)
        have cb := yCnt_bd v k (v k)
        have e1 := cz (v k) e.1 (by omega)
        rw [jb_1 e, if_neg (by decide)]
        refine gHo_gd ⟨e.1, by omega⟩ (gHo_let (gHo_gd ⟨e.1, by omega⟩ (gHo_let ?_)))
        rw [f54, e1]
        refine gHo_if (fun hz => ?_) (fun hz => ?_)
        · refine gHo_ret (Or.inr ⟨frz, k, hk2, hgd, fun y => by have := y.2.2; omega, ?_⟩)
          rw [if_pos (by omega)]
        · refine gHo_gd ⟨e.1, by omega⟩ (gHo_let ?_)
          refine gHo_l32 (by omega) (by omega) (gHo_gd ⟨e.1, by omega⟩ (gHo_nm fun m1 hm1 => gHo_l32 (by omega) (by omega) (ih2 _ _ _ _ _ _ ⟨rfl, rfl, rfl, rfl, k + 1, by omega, by omega, fun j hj => ?_, fun p p0 p4 => ?_, fun x hx => ?_⟩ (by omega))))
          · by_cases ej : j = k
            · subst ej; exact ⟨e.1, by omega, by omega⟩
            · exact hgd j (by omega)
          · rw [hm1, jU_at, yCnt_s]
            by_cases ep : p = v k
            · subst ep; rw [if_pos rfl, if_pos rfl]
            · rw [if_neg ep, if_neg (fun z => ep z.symm), cz p p0 p4]; omega
          · rw [hm1, jU_row hx]; exact frz x hx
      · rw [jb_0 e, if_pos rfl]
        refine gHo_ret (Or.inr ⟨frz, k, hk2, hgd, fun y => e ⟨y.1, by have := y.2.1; omega⟩, ?_⟩)
        rw [if_neg (by omega)]
  · refine gHo_gd ⟨q0, by omega⟩ (gHo_nm fun m1 hm1 => gHo_l32 (by omega) (by omega) (ih _ _ _ _ _ _ ⟨rfl, rfl, rfl, rfl, by omega, by omega, fun x hx => ?_, fun p p0 p4 => ?_⟩ (by omega)))
    · rw [hm1, jU_row hx]; exact fr x hx
    · rw [hm1, jU_at]
      by_cases e : p = q
      · rw [if_pos e]
      · rw [if_neg e]; exact hz p p0 (by omega)
theorem iT_add {s t : jMem} {h n : Int} {c : Int → Int} (hI : iT s) (h0 : 0 ≤ h) (h4 : h < 4) (hc : ∀ q : Int, 0 ≤ q → q < 34 → 0 ≤ c q ∧ c q ≤ s 54 q) (hn : jSum c 34 = n) (hsz : jSum (vH s h) 34 + 3 * s 58 h + n ≤ 14) (c3 : ∀ q : Int, 0 ≤ q → q < 34 → t 3 q = s 54 q - c q ∧ t (38 + 4 * h) q = vH s h q + c q) (c37 : t (37 + 4 * h) 3 = jSum (vH s h) 34 + n ∧ t (37 + 4 * h) 4 = s 58 h) (co : ∀ x : Int, x = 4 ∨ (37 ≤ x ∧ x < 53 ∧ x ≠ 37 + 4 * h ∧ x ≠ 38 + 4 * h) ∨ x = 55 ∨ x = 57 ∨ x = 58 ∨ x = 59 → t x = s x) (m54 : ∀ q : Int, 0 ≤ q → q < 34 → t 54 q = s 54 q - c q) (mH : ∀ g q : Int, 0 ≤ q → q < 34 → vH t g q = if g = h then vH s g q + c q else vH s g q) : iT t := by
  obtain ⟨hW, hH, hG⟩ := id hI
  have eL : ∀ g, vL t g = vL s g := fun g => by funext p; unfold vL; rw [co 57 (by omega)]
  refine ⟨fun q q0 q4 => ?_, fun g g0 g4 => ?_, fun g g0 g4 => ?_⟩
  · obtain ⟨w1, w2, w3, w4, w5⟩ := hW q q0 q4
    have d := c3 q q0 q4
    have e := m54 q q0 q4
    have hcq := hc q q0 q4
    rw [co 4 (by omega), co 55 (by omega), mH 0 q q0 q4, mH 1 q q0 q4, mH 2 q q0 q4, mH 3 q q0 q4, eL, eL, eL, eL]
    refine ⟨by omega, w2, by omega, w4, ?_⟩
    rcases (by omega : h = 0 ∨ h = 1 ∨ h = 2 ∨ h = 3) with rfl | rfl | rfl | rfl <;> simp <;> omega
  · obtain ⟨a1, a2, a3, a4, a5, a6⟩ := hH g g0 g4
    have e58 := co 58 (by omega)
    unfold iH
    rw [e58, eL]
    by_cases e : g = h
    · subst e
      have z : jSum (vH t g) 34 = jSum (vH s g) 34 + n := by
        rw [jSum_cg (f := vH t g) (g := fun q => vH s g q + c q) (fun i hi => by rw [mH g i (by omega) (by omega), if_pos rfl]), jSum_add (f := vH s g) (g := c) 34, hn]
      rw [co (39 + 4 * g) (by omega)]
      refine ⟨fun q q0 q4 => ?_, c37.2, a3, a4, by omega, by omega⟩
      have d := c3 q q0 q4
      have m := mH g q q0 q4
      rw [if_pos rfl] at m
      have b := a1 q q0 q4
      have bd := iT_bd hI h0 h4 q0 q4
      have hcq := hc q q0 q4
      omega
    · have z : jSum (vH t g) 34 = jSum (vH s g) 34 := jSum_cg (fun i hi => by rw [mH g i (by omega) (by omega), if_neg e])
      rw [co (37 + 4 * g) (by omega), co (38 + 4 * g) (by omega), co (39 + 4 * g) (by omega), z]
      refine ⟨fun q q0 q4 => ?_, a2, a3, a4, a5, a6⟩
      rw [mH g q q0 q4, if_neg e]
      exact a1 q q0 q4
  · have := hG g g0 g4
    unfold iG at this ⊢
    rw [co 58 (by omega), co 59 (by omega), co (40 + 4 * g) (by omega), eL]
    exact this
theorem op_read {h r i n : Int} {s : jMem} (hI : iT s) (hR : iR s) (hi : jR 1 i) (hn : jR 1 n) : ∃ v s1 s2, fX10_read h r i n s = some (v, s1) ∧ fX11_read h r i n s1 = some (v, s2) ∧ iT s2 ∧ ∀ x : Int, x ≠ 3 → x ≠ 4 → ¬ (37 ≤ x ∧ x < 53) → (x < 54 ∨ 59 < x) → x ≠ 67 → s2 x = s x := by
  have w := jrk_t
  have u := jik_m
  by_cases hh : 0 ≤ h ∧ h < 4
  · obtain ⟨h0, h4⟩ := hh
    obtain ⟨t0, t1, t2, t3, t4, t5, t6, t7, t8, t9⟩ := jh_t h0 h4
    obtain ⟨hW, hH, hG⟩ := id hI
    have hh := hH h h0 h4
    obtain ⟨a1, a2, a3, a4, a5, a6⟩ := id hh
    have cb := iH_cb hh
    have gb := iH_gb hh
    have sz := iH_sz hh
    have vb := vH_bd hh
    by_cases hr : 0 ≤ r ∧ r < 6
    · obtain ⟨r0, r6⟩ := hr
      obtain ⟨p0, p1, p2, p3, p4⟩ := jr_t r0 r6
      obtain ⟨k1, k2, k3, k4, k5, k6, k7, k8⟩ := hR r r0 r6
      have i1 := hi.1
      have i2 := hi.2
      have n1 := hn.1
      have n2 := hn.2
      have ec : fX10_read h r i n s = jBd (fX5_isMissing (25 + 2 * r) s) fun x15 s16 => if x15 = 0 then (if 0 ≤ n then (jBd (fX5_reaches (25 + 2 * r) i n s16) fun x21 s22 => if x21 = 0 then (jRet (-12) s22) else (jGd (jcl (37 + 4 * h) = 0) <| jBd (fX1_size (37 + 4 * h) s22) fun x25 s26 => jLet (j32 (x25 + n)) fun x28 => if x28 ≤ 14 then (jBd (fX10_readAll (37 + 4 * h) (25 + 2 * r) i n s26) fun x34 s35 => jRet x34 s35) else (jRet (-17) s26))) else (jRet (-13) s16)) else (jRet (-11) s16) := by
        rw [fX10_read, sX10_isHand, jBd_s, jb_1 ⟨h0, h4⟩, if_neg (by decide), sX10_isRack, jBd_s, jb_1 ⟨r0, r6⟩, if_neg (by decide), jGd_e ⟨r0, by omega⟩, jLet_e, p0, jGd_e ⟨h0, by omega⟩, jLet_e, t0, jGd_e p1]
      have em : ∀ z : jMem, z 60 = s 60 → fX11_read h r i n z = if 0 ≤ s 60 r then (if 0 ≤ n then (if i < 0 then (jRet (-12) z) else (jLet (j64 (i + n)) fun x14 => jGd ((0 : Int) ≤ r ∧ r < jik 61) <| jLet (z 61 r) fun x17 => jLet (jcmp x14 x17) fun x18 => if x18 ≤ 0 then (jBd (fX11_sizeOf h z) fun x21 s22 => jLet (j32 (x21 + n)) fun x24 => if x24 ≤ 14 then (jIt (fun _ _ _ _ _ _ => none) (bX11_read_79 bX11_read_100) 1000 h r i n 0 s22) else (jRet (-17) s22)) else (jRet (-12) z))) else (jRet (-13) z)) else (jRet (-11) z) := by
        intro z hz
        rw [fX11_read, sX11_isHand, jBd_s, jb_1 ⟨h0, by omega⟩, if_neg (by decide), sX11_isRack, jBd_s, jb_1 ⟨r0, by omega⟩, if_neg (by decide), jGd_e ⟨r0, by omega⟩, jLet_e, hz]
      rw [sX5_isMissing s r0 r6, jBd_s, k1] at ec
      have quiet : ∀ v : Int, fX10_read h r i n s = some (v, s) → fX11_read h r i n s = some (v, s) → ∃ v s1 s2, fX10_read h r i n s = some (v, s1) ∧ fX11_read h r i n s1 = some (v, s2) ∧ iT s2 ∧ ∀ x : Int, x ≠ 3 → x ≠ 4 → ¬ (37 ≤ x ∧ x < 53) → (x < 54 ∨ 59 < x) → x ≠ 67 → s2 x = s x := fun v x y => ⟨v, s, s, x, y, hI, fun _ _ _ _ _ _ => rfl⟩
      by_cases km : s 60 r = -1
      · refine quiet (-11) ?_ ?_
        · rw [ec, jb_1 km, if_neg (by decide)]; rfl
        · rw [em s rfl, if_neg (by omega)]; rfl
      rw [jb_0 km, if_pos rfl] at ec
      by_cases n0 : 0 ≤ n
      · have er := sX5_reaches i n s r0 r6 (by rw [k2]; omega) hn
        rw [k2] at er
        rw [if_pos n0, er, jBd_s] at ec
        by_cases hre : 0 ≤ i ∧ 0 ≤ n ∧ i + n ≤ s 61 r
        · rw [jb_1 hre, if_neg (by decide), jGd_e t1, sX1_size h0 h4 cb, jBd_s, sz, jLet_e, j32_id (by omega) (by omega)] at ec
          have emi : ∀ z : jMem, z 60 = s 60 → z 61 = s 61 → z 58 = s 58 → vH z h = vH s h → fX11_read h r i n z = if jSum (vH s h) 34 + 3 * s 58 h + n ≤ 14 then jIt (fun _ _ _ _ _ _ => none) (bX11_read_79 bX11_read_100) 1000 h r i n 0 z else jRet (-17) z := by
            intro z z60 z61 z58 zH
            rw [em z z60, if_pos (by omega), if_pos n0, if_neg (by omega), jLet_e, j64_id (by omega) (by omega), jGd_e ⟨r0, by omega⟩, jLet_e, jLet_e, z61, if_pos (jcmp_le.mpr hre.2.2), sX11_sizeOf h0 h4 (by rw [zH]; exact vb) (by rw [z58]; exact gb), jBd_s, zH, z58, jLet_e, j32_id (by omega) (by omega)]
          by_cases hm : jSum (vH s h) 34 + 3 * s 58 h + n ≤ 14
          · rw [if_pos hm] at ec
            obtain ⟨N, hN⟩ : ∃ N : Nat, n = (N : Int) := ⟨n.toNat, by omega⟩
            have sb := jSum_bd vb
            obtain ⟨v, hv⟩ : ∃ v : Int → Int, v = fun k => s 62 (40 * r + i + k) := ⟨_, rfl⟩
            have hv1 : ∀ k : Nat, k < N → s (26 + 2 * r) (i + k) = v k := fun k hk => by
              rw [k8 (i + k) (by omega) (by omega), hv, show 40 * r + (i + (k : Int)) = 40 * r + i + k by omega]
            have hv2 : ∀ k : Nat, k < N → s 62 (40 * r + i + k) = v k := fun k hk => by rw [hv]
            have w3 : ∀ q : Int, 0 ≤ q → q < 34 → s 3 q = s 54 q := fun q q0 q4 => (hW q q0 q4).1
            have bd := fun q q0 q4 => iT_bd hI h0 h4 (q := q) q0 q4
            have g3 : ∀ k : Nat, yGood v (s 3) k ↔ yGood v (s 54) k := fun k => by
              unfold yGood
              constructor
              · rintro ⟨x, y, z⟩; exact ⟨x, y, by rw [← w3 _ x y]; exact z⟩
              · rintro ⟨x, y, z⟩; exact ⟨x, y, by rw [w3 _ x y]; exact z⟩
            obtain ⟨w1, s1, e1, post1⟩ := zX10_readAll (s := s) (n := N) (v := v) h0 h4 r0 r6 hre.1 (by omega) hv1 (fun q q0 q4 => by have := bd q q0 q4; have := w3 q q0 q4; have := a1 q q0 q4; omega) (by omega)
            rw [hN, e1, jBd_s] at ec
            rw [hN] at emi
            have fr1 : ∀ x : Int, 53 ≤ x → s1 x = s x := by
              intro x hx
              rcases post1 with ⟨-, -, -, -, -, f⟩ | ⟨f, -⟩
              · exact f x (by omega) (by omega) (by omega)
              · rw [f]
            have eH1 : ∀ g, vH s1 g = vH s g := fun g => by funext p; unfold vH; rw [fr1 56 (by decide)]
            have em1 := emi s1 (fr1 60 (by decide)) (fr1 61 (by decide)) (fr1 58 (by decide)) (eH1 h)
            rw [if_pos (by omega)] at em1
            obtain ⟨w2, s2, e2, post2⟩ := zX11_readAll (s := s1) (n := N) (v := v) h0 h4 r0 r6 hre.1 (by omega) (by omega) (fun k hk => by rw [fr1 62 (by decide)]; exact hv2 k hk) (fun q q0 q4 => by rw [fr1 54 (by decide), eH1]; have := bd q q0 q4; have := a1 q q0 q4; omega) (by rw [fr1 58 (by decide)]; omega)
            rw [fr1 54 (by decide), eH1, fr1 58 (by decide)] at post2
            simp only [eH1] at post2
            rw [e2] at em1
            rcases post1 with ⟨ok1, v1, d3, d38, d37, f1⟩ | ⟨f1, K, hK, okK, nK, vK⟩
            · have ok1' : ∀ k : Nat, k < N → yGood v (s 54) k := fun k hk => (g3 k).mp (ok1 k hk)
              rcases post2 with ⟨ok2, v2, e54, eHH, f2⟩ | ⟨f2, K2, hK2, okK2, nK2, vK2⟩
              · have ev : w2 = w1 := by omega
                subst ev
                refine ⟨w2, s1, s2, ?_, ?_, ?_, ?_⟩
                · rw [hN]; exact ec
                · rw [hN]; exact em1
                · refine iT_add (n := N) (c := yCnt v N) hI h0 h4 (fun q q0 q4 => ⟨(yCnt_bd v N q).1, yGood_le (fun q q0 q4 => (bd q q0 q4).2.2.2.1) ok1' q q0 q4⟩) (yCnt_sum (fun k hk => ⟨(ok1 k hk).1, (ok1 k hk).2.1⟩)) (by omega) (fun q q0 q4 => ?_) ?_ (fun x hx => ?_) e54 eHH
                  · rw [f2 3 (by decide) (by decide) (by decide), f2 (38 + 4 * h) (by omega) (by omega) (by omega), d3, d38, w3 q q0 q4, (a1 q q0 q4).1]
                    exact ⟨rfl, rfl⟩
                  · rw [f2 (37 + 4 * h) (by omega) (by omega) (by omega), d37, d37, if_pos rfl, if_neg (by decide), a5, a2]
                    exact ⟨rfl, rfl⟩
                  · rw [f2 x (by omega) (by omega) (by omega)]; exact f1 x (by omega) (by omega) (by omega)
                · intro x x1 x2 x3 x4 x5
                  rw [f2 x (by omega) (by omega) x5, f1 x x1 (by omega) (by omega)]
              · exact absurd (ok1' K2 hK2) nK2
            · rcases post2 with ⟨ok2, v2, e54, eHH, f2⟩ | ⟨f2, K2, hK2, okK2, nK2, vK2⟩
              · exact absurd ((g3 K).mpr (ok2 K hK)) nK
              · have eK : K2 = K := by
                  rcases Nat.lt_trichotomy K2 K with z | z | z
                  · exact absurd ((g3 K2).mp (okK K2 z)) nK2
                  · exact z
                  · exact absurd ((g3 K).mpr (okK2 K z)) nK
                subst eK
                have ev : w2 = w1 := by rw [vK, vK2]
                subst ev
                refine ⟨w2, s1, s2, ?_, ?_, ?_, ?_⟩
                · rw [hN]; exact ec
                · rw [hN]; exact em1
                · refine iT_eq hI (fun x hx => ?_)
                  rw [f2 x (by omega), f1]
                · intro x x1 x2 x3 x4 x5
                  rw [f2 x x5, f1]
          · refine quiet (-17) ?_ ?_
            · rw [ec, if_neg hm]; rfl
            · rw [emi s rfl rfl rfl rfl, if_neg hm]; rfl
        · refine quiet (-12) ?_ ?_
          · rw [ec, jb_0 hre, if_pos rfl]; rfl
          · rw [em s rfl, if_pos (by omega), if_pos n0]
            by_cases hi0 : i < 0
            · rw [if_pos hi0]; rfl
            · rw [if_neg hi0, jLet_e, j64_id (by omega) (by omega), jGd_e ⟨r0, by omega⟩, jLet_e, jLet_e, if_neg (fun z => hre ⟨by omega, n0, jcmp_le.mp z⟩)]; rfl
      · refine quiet (-13) ?_ ?_
        · rw [ec, if_neg n0]; rfl
        · rw [em s rfl, if_pos (by omega), if_neg n0]; rfl
    · refine ⟨-1, s, s, ?_, ?_, hI, fun _ _ _ _ _ _ => rfl⟩
      · rw [fX10_read, sX10_isHand, jBd_s, jb_1 ⟨h0, h4⟩, if_neg (by decide), sX10_isRack, jBd_s, jb_0 hr, if_pos rfl]; rfl
      · rw [fX11_read, sX11_isHand, jBd_s, jb_1 ⟨h0, by omega⟩, if_neg (by decide), sX11_isRack, jBd_s, jb_0 (by omega), if_pos rfl]; rfl
  · refine ⟨-1, s, s, ?_, ?_, hI, fun _ _ _ _ _ _ => rfl⟩
    · rw [fX10_read, sX10_isHand, jBd_s, jb_0 hh, if_pos rfl]; rfl
    · rw [fX11_read, sX11_isHand, jBd_s, jb_0 (by omega), if_pos rfl]; rfl
end
