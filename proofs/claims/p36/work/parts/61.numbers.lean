/-! ===== lacks: the class's numbers: tiles above, bits below ===== -/
section
theorem jl_bv {n : Nat} (h : n < 2 ^ 63) : (Int64.ofInt (n : Int)).toBitVec = BitVec.ofNat 64 n ∧ (BitVec.ofNat 64 n).toNat = n ∧ (BitVec.ofNat 64 n).toInt = n := by
  have e : (BitVec.ofNat 64 n).toNat = n := by rw [BitVec.toNat_ofNat, Nat.mod_eq_of_lt (by omega)]
  refine ⟨BitVec.ofInt_natCast 64 n, e, ?_⟩
  rw [BitVec.toInt_eq_toNat_of_lt (by rw [e]; omega), e]
theorem jorl_n {x y : Nat} (hx : x < 2 ^ 62) (hy : y < 2 ^ 62) : jorl (x : Int) (y : Int) = ((x ||| y : Nat) : Int) := by
  unfold jorl
  show ((Int64.ofInt (x : Int)).toBitVec ||| (Int64.ofInt (y : Int)).toBitVec).toInt = _
  obtain ⟨a1, a2, -⟩ := jl_bv (n := x) (by omega)
  obtain ⟨b1, b2, -⟩ := jl_bv (n := y) (by omega)
  have lt : x ||| y < 2 ^ 62 := Nat.or_lt_two_pow hx hy
  rw [a1, b1, BitVec.toInt_eq_toNat_of_lt (by rw [BitVec.toNat_or, a2, b2]; omega), BitVec.toNat_or, a2, b2]
theorem jandl_n {x y : Nat} (hx : x < 2 ^ 62) (hy : y < 2 ^ 62) : jandl (x : Int) (y : Int) = ((x &&& y : Nat) : Int) := by
  unfold jandl
  show ((Int64.ofInt (x : Int)).toBitVec &&& (Int64.ofInt (y : Int)).toBitVec).toInt = _
  obtain ⟨a1, a2, -⟩ := jl_bv (n := x) (by omega)
  obtain ⟨b1, b2, -⟩ := jl_bv (n := y) (by omega)
  have lt : x &&& y < 2 ^ 62 := Nat.lt_of_le_of_lt Nat.and_le_left hx
  rw [a1, b1, BitVec.toInt_eq_toNat_of_lt (by rw [BitVec.toNat_and, a2, b2]; omega), BitVec.toNat_and, a2, b2]
theorem jsh_k : ∀ k : Nat, k < 64 → ((Int32.ofInt (k : Int)).toInt64 &&& 63).toBitVec.smod 64 = BitVec.ofNat 64 k := by decide +kernel
theorem jshll_n {x k : Nat} (hk : k < 64) (hx : x * 2 ^ k < 2 ^ 62) : jshll (x : Int) (k : Int) = ((x * 2 ^ k : Nat) : Int) := by
  have hx0 : x < 2 ^ 62 := Nat.lt_of_le_of_lt (Nat.le_mul_of_pos_right x (Nat.two_pow_pos k)) hx
  obtain ⟨a1, a2, -⟩ := jl_bv (n := x) (by omega)
  unfold jshll
  show ((Int64.ofInt (x : Int)).toBitVec <<< (((Int32.ofInt (k : Int)).toInt64 &&& 63).toBitVec.smod 64)).toInt = _
  rw [jsh_k k hk, a1]
  have e : (BitVec.ofNat 64 x <<< BitVec.ofNat 64 k).toNat = x * 2 ^ k := by
    rw [BitVec.shiftLeft_eq', BitVec.toNat_shiftLeft, a2, BitVec.toNat_ofNat, Nat.mod_eq_of_lt (a := k) (by omega), Nat.shiftLeft_eq, Nat.mod_eq_of_lt (by omega)]
  rw [BitVec.toInt_eq_toNat_of_lt (by rw [e]; omega), e]
theorem jshrl_n {x k : Nat} (hk : k < 64) (hx : x < 2 ^ 62) : jshrl (x : Int) (k : Int) = ((x / 2 ^ k : Nat) : Int) := by
  obtain ⟨a1, a2, a3⟩ := jl_bv (n := x) (by omega)
  unfold jshrl
  show ((Int64.ofInt (x : Int)).toBitVec.sshiftRight' (((Int32.ofInt (k : Int)).toInt64 &&& 63).toBitVec.smod 64)).toInt = _
  rw [jsh_k k hk, a1]
  show ((BitVec.ofNat 64 x).sshiftRight (BitVec.ofNat 64 k).toNat).toInt = _
  rw [BitVec.toInt_sshiftRight, a3, BitVec.toNat_ofNat, Nat.mod_eq_of_lt (a := k) (by omega), Int.shiftRight_eq_div_pow]
  simp
/-- so many tiles, and bits -/
def yVl (v : Int) (T m : Nat) : Prop := v = ((2 ^ 34 * T + m : Nat) : Int) ∧ m < 2 ^ 34 ∧ T ≤ 1000
theorem yVl_nw : yVl 1099511627776 64 0 := ⟨by decide, by decide, by decide⟩
theorem yVl_lt {v : Int} {T m : Nat} (h : yVl v T m) : 2 ^ 34 * T + m < 2 ^ 62 := by
  have := h.2.1
  have := h.2.2
  have p : (2 : Nat) ^ 34 = 17179869184 := by decide
  have q : (2 : Nat) ^ 62 = 4611686018427387904 := by decide
  rw [p] at *
  rw [q]
  omega
theorem yVl_u {v : Int} {T m T' m' : Nat} (h : yVl v T m) (k : yVl v T' m') : T = T' ∧ m = m' := by
  have e : 2 ^ 34 * T + m = 2 ^ 34 * T' + m' := by
    have a := h.1
    have b := k.1
    omega
  have h1 := h.2.1
  have k1 := k.2.1
  have p : (2 : Nat) ^ 34 = 17179869184 := by decide
  rw [p] at *
  omega
theorem yVl_sh {v : Int} {T m : Nat} (h : yVl v T m) : jshrl v 34 = (T : Int) := by
  have lt := yVl_lt h
  have h1 := h.2.1
  rw [h.1]
  have e : jshrl ((2 ^ 34 * T + m : Nat) : Int) ((34 : Nat) : Int) = (((2 ^ 34 * T + m) / 2 ^ 34 : Nat) : Int) := jshrl_n (by decide) lt
  rw [Nat.mul_add_div (Nat.two_pow_pos 34), Nat.div_eq_of_lt h1, Nat.add_zero] at e
  exact e
theorem yVl_mask {v : Int} {T m : Nat} (h : yVl v T m) : jandl v 17179869183 = (m : Int) := by
  have lt := yVl_lt h
  have h1 := h.2.1
  rw [h.1]
  have e : jandl ((2 ^ 34 * T + m : Nat) : Int) ((2 ^ 34 - 1 : Nat) : Int) = (((2 ^ 34 * T + m) &&& (2 ^ 34 - 1) : Nat) : Int) := jandl_n lt (by decide)
  rw [Nat.and_two_pow_sub_one_eq_mod, Nat.mul_add_mod, Nat.mod_eq_of_lt h1] at e
  exact e
theorem yOr_mul {a b c d k : Nat} (hb : b < 2 ^ k) (hd : d < 2 ^ k) : (2 ^ k * a + b) ||| (2 ^ k * c + d) = 2 ^ k * (a ||| c) + (b ||| d) := by
  have hbd : b ||| d < 2 ^ k := Nat.or_lt_two_pow hb hd
  apply Nat.eq_of_testBit_eq
  intro i
  rw [Nat.testBit_or, Nat.testBit_two_pow_mul_add a hb, Nat.testBit_two_pow_mul_add c hd, Nat.testBit_two_pow_mul_add (a ||| c) hbd]
  by_cases e : i < k
  · simp [e, Nat.testBit_or]
  · simp [e, Nat.testBit_or]
theorem yVl_or {v w : Int} {T m m' : Nat} (h : yVl v T m) (k : yVl w T m') : yVl (jorl v w) T (m ||| m') := by
  have l1 := yVl_lt h
  have l2 := yVl_lt k
  have e : jorl v w = ((2 ^ 34 * T + (m ||| m') : Nat) : Int) := by
    rw [h.1, k.1, jorl_n l1 l2, yOr_mul h.2.1 k.2.1, Nat.or_self]
  exact ⟨e, Nat.or_lt_two_pow h.2.1 k.2.1, h.2.2⟩
theorem yVl_bit {v : Int} {T m b : Nat} (h : yVl v T m) (hb : b < 2 ^ 34) : yVl (jorl v (b : Int)) T (m ||| b) := by
  have l1 := yVl_lt h
  have e : jorl v (b : Int) = ((2 ^ 34 * T + (m ||| b) : Nat) : Int) := by
    rw [h.1, jorl_n l1 (Nat.lt_of_lt_of_le hb (by decide))]
    have := yOr_mul (a := T) (c := 0) h.2.1 hb
    rw [Nat.mul_zero, Nat.zero_add, Nat.or_zero] at this
    rw [this]
  exact ⟨e, Nat.or_lt_two_pow h.2.1 hb, h.2.2⟩
theorem yAnd_hi {T m : Nat} (hm : m < 2 ^ 34) (hT : T < 2 ^ 29) : (2 ^ 34 * T + m) &&& (2 ^ 34 * (2 ^ 30 - 1)) = 2 ^ 34 * T := by
  apply Nat.eq_of_testBit_eq
  intro i
  have e2 : 2 ^ 34 * (2 ^ 30 - 1) = 2 ^ 34 * (2 ^ 30 - 1) + 0 := rfl
  have e3 : 2 ^ 34 * T = 2 ^ 34 * T + 0 := rfl
  rw [Nat.testBit_and, Nat.testBit_two_pow_mul_add T hm, e2, Nat.testBit_two_pow_mul_add _ (Nat.two_pow_pos 34), e3, Nat.testBit_two_pow_mul_add T (Nat.two_pow_pos 34)]
  by_cases e : i < 34
  · simp [e]
  · simp only [e, if_false, Nat.testBit_two_pow_sub_one]
    by_cases f : i - 34 < 30
    · simp [f]
    · have : T.testBit (i - 34) = false := Nat.testBit_lt_two_pow (Nat.lt_of_lt_of_le hT (Nat.pow_le_pow_right (by decide) (by omega)))
      simp [this]
theorem yVl_hi {v : Int} {T m : Nat} (h : yVl v T m) : jandl v (-17179869184) = ((2 ^ 34 * T : Nat) : Int) := by
  have lt := yVl_lt h
  have h1 := h.2.1
  have h2 := h.2.2
  rw [h.1]
  obtain ⟨a1, a2, a3⟩ := jl_bv (n := 2 ^ 34 * T + m) (by omega)
  unfold jandl
  show ((Int64.ofInt ((2 ^ 34 * T + m : Nat) : Int)).toBitVec &&& (Int64.ofInt (-17179869184)).toBitVec).toInt = _
  have e : ((Int64.ofInt (-17179869184)).toBitVec).toNat = 2 ^ 34 * (2 ^ 30 - 1) := by decide +kernel
  have e2 : ((Int64.ofInt ((2 ^ 34 * T + m : Nat) : Int)).toBitVec &&& (Int64.ofInt (-17179869184)).toBitVec).toNat = 2 ^ 34 * T := by
    rw [BitVec.toNat_and, a1, a2, e, yAnd_hi h1 (Nat.lt_of_le_of_lt h2 (by decide))]
  rw [BitVec.toInt_eq_toNat_of_lt (by rw [e2]; omega), e2]
/-- the merged cell -/
def yMg (lim T m T' m' : Nat) : Nat × Nat := if lim < T' ∨ T < T' then (T, m) else if T = T' then (T, m ||| m') else (T', m')
theorem zX3_less {s : jMem} {u v : Int} {lim T m T' m' : Nat} (hl : s 7 9 = lim) (hll : lim ≤ 100) (hc : yVl u T m) (hv : yVl v T' m') : jHo (fun r t => t = s ∧ yVl r (yMg lim T m T' m').1 (yMg lim T m T' m').2) (fX3_less u v s) := by
  have T1 := hc.2.2
  have T2 := hv.2.2
  unfold fX3_less
  refine gHo_let (gHo_let ?_)
  rw [yVl_sh hv, yVl_sh hc]
  refine gHo_l64 (by omega) (by omega) (gHo_let ?_)
  unfold yMg
  refine gHo_if (fun e => ?_) (fun e => ?_)
  · rw [jcmp_gt] at e
    rw [if_pos (Or.inr (by omega))]
    exact gHo_ret ⟨rfl, hc⟩
  · rw [jcmp_gt] at e
    refine gHo_let (gHo_let (gHo_let ?_))
    rw [hl]
    refine gHo_if (fun e2 => gHo_let (gHo_if (fun e3 => ?_) (fun e3 => ?_))) (fun e2 => ?_)
    · rw [jcmp_le] at e2
      rw [if_neg (show ¬ (lim < T' ∨ T < T') by omega)]
      have eq : T = T' := by
        unfold jcmp at e3
        split at e3
        · omega
        · split at e3
          · omega
          · exact absurd e3 (by decide)
      subst eq
      rw [if_pos rfl]
      exact gHo_let (gHo_ret ⟨rfl, yVl_or hc hv⟩)
    · rw [jcmp_le] at e2
      rw [if_neg (show ¬ (lim < T' ∨ T < T') by omega)]
      have ne : ¬ T = T' := by
        intro z
        apply e3
        unfold jcmp
        rw [if_neg (by omega), if_pos (by omega)]
        decide
      rw [if_neg ne]
      exact gHo_ret ⟨rfl, hv⟩
    · rw [jcmp_le] at e2
      rw [if_pos (Or.inl (by omega))]
      exact gHo_ret ⟨rfl, hc⟩
end
