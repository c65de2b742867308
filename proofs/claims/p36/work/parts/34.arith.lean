/-! ===== division, rests, masks of numbers that are not below 0 ===== -/
section
theorem jdiv_o {x y : Int} (hx : 0 ≤ x ∧ x < 2147483648) (hy : 0 < y ∧ y < 2147483648) : Int32.ofInt x / Int32.ofInt y = Int32.ofInt (x / y) := by
  have ex : (Int32.ofInt x).toInt = x := j1 ⟨by omega, hx.2⟩
  have ey : (Int32.ofInt y).toInt = y := j1 ⟨by omega, hy.2⟩
  have h1 : 0 ≤ x / y := Int.ediv_nonneg hx.1 (by omega)
  have h2 : x / y ≤ x := Int.ediv_le_self y hx.1
  apply Int32.toInt_inj.mp
  rw [Int32.toInt_div, ex, ey, Int.tdiv_eq_ediv_of_nonneg hx.1, j32_eq]
  generalize x / y = d at *
  rw [j32_id (by omega) (by omega), Int.bmod_def]
  split <;> omega
theorem jdiv_nn {x y : Int} (hx : 0 ≤ x ∧ x < 2147483648) (hy : 0 < y ∧ y < 2147483648) : jdiv x y = x / y := by
  have h1 : 0 ≤ x / y := Int.ediv_nonneg hx.1 (by omega)
  have h2 : x / y ≤ x := Int.ediv_le_self y hx.1
  unfold jdiv
  rw [jdiv_o hx hy, j32_eq, j32_id (by omega) (by omega)]
theorem jrem_nn {x y : Int} (hx : 0 ≤ x ∧ x < 2147483648) (hy : 0 < y ∧ y < 2147483648) : jrem x y = x % y := by
  have h1 : 0 ≤ x % y := Int.emod_nonneg x (by omega)
  have h2 : x % y < y := Int.emod_lt_of_pos x hy.1
  unfold jrem
  rw [jdiv_o hx hy, ← Int32.ofInt_mul, ← Int32.ofInt_sub, j32_eq]
  rw [show x - x / y * y = x % y by rw [Int.emod_def, Int.mul_comm]]
  exact j32_id (by omega) (by omega)
theorem jdivl_o {x y : Int} (hx : 0 ≤ x ∧ x < 9223372036854775808) (hy : 0 < y ∧ y < 9223372036854775808) : Int64.ofInt x / Int64.ofInt y = Int64.ofInt (x / y) := by
  have ex : (Int64.ofInt x).toInt = x := j2 ⟨by omega, hx.2⟩
  have ey : (Int64.ofInt y).toInt = y := j2 ⟨by omega, hy.2⟩
  have h1 : 0 ≤ x / y := Int.ediv_nonneg hx.1 (by omega)
  have h2 : x / y ≤ x := Int.ediv_le_self y hx.1
  apply Int64.toInt_inj.mp
  rw [Int64.toInt_div, ex, ey, Int.tdiv_eq_ediv_of_nonneg hx.1, j64_eq]
  generalize x / y = d at *
  rw [j64_id (by omega) (by omega), Int.bmod_def]
  split <;> omega
theorem jdivl_nn {x y : Int} (hx : 0 ≤ x ∧ x < 9223372036854775808) (hy : 0 < y ∧ y < 9223372036854775808) : jdivl x y = x / y := by
  have h1 : 0 ≤ x / y := Int.ediv_nonneg hx.1 (by omega)
  have h2 : x / y ≤ x := Int.ediv_le_self y hx.1
  unfold jdivl
  rw [jdivl_o hx hy, j64_eq, j64_id (by omega) (by omega)]
theorem jreml_nn {x y : Int} (hx : 0 ≤ x ∧ x < 9223372036854775808) (hy : 0 < y ∧ y < 9223372036854775808) : jreml x y = x % y := by
  have h1 : 0 ≤ x % y := Int.emod_nonneg x (by omega)
  have h2 : x % y < y := Int.emod_lt_of_pos x hy.1
  unfold jreml
  rw [jdivl_o hx hy, ← Int64.ofInt_mul, ← Int64.ofInt_sub, j64_eq]
  rw [show x - x / y * y = x % y by rw [Int.emod_def, Int.mul_comm]]
  exact j64_id (by omega) (by omega)
theorem jandl_mod {x : Int} (k : Nat) (hk : k < 63) (hx : 0 ≤ x ∧ x < 9223372036854775808) : jandl x (2 ^ k - 1) = x % 2 ^ k := by
  obtain ⟨n, rfl⟩ := jnn hx.1
  have hn : n < 2 ^ 63 := by omega
  have hk2 : 2 ^ k < 2 ^ 63 := Nat.pow_lt_pow_right (by decide) hk
  have hp : 0 < 2 ^ k := Nat.two_pow_pos k
  have em : ((2 : Int) ^ k - 1) = ((2 ^ k - 1 : Nat) : Int) := by
    rw [Int.ofNat_sub hp]
    simp
  have en : ((n : Int) % 2 ^ k) = ((n % 2 ^ k : Nat) : Int) := by simp
  rw [em, en]
  have hl : n % 2 ^ k < 2 ^ k := Nat.mod_lt _ hp
  unfold jandl
  show ((Int64.ofInt (n : Int)).toBitVec &&& (Int64.ofInt ((2 ^ k - 1 : Nat) : Int)).toBitVec).toInt = _
  have e1 : (Int64.ofInt (n : Int)).toBitVec = BitVec.ofNat 64 n := by
    show BitVec.ofInt 64 (n : Int) = _
    exact BitVec.ofInt_natCast 64 n
  have e2 : (Int64.ofInt ((2 ^ k - 1 : Nat) : Int)).toBitVec = BitVec.ofNat 64 (2 ^ k - 1) := by
    show BitVec.ofInt 64 ((2 ^ k - 1 : Nat) : Int) = _
    exact BitVec.ofInt_natCast 64 _
  rw [e1, e2]
  have e3 : (BitVec.ofNat 64 n &&& BitVec.ofNat 64 (2 ^ k - 1)).toNat = n % 2 ^ k := by
    rw [BitVec.toNat_and, BitVec.toNat_ofNat, BitVec.toNat_ofNat, Nat.mod_eq_of_lt (a := n) (by omega), Nat.mod_eq_of_lt (a := 2 ^ k - 1) (by omega), Nat.and_two_pow_sub_one_eq_mod]
  rw [BitVec.toInt_eq_toNat_of_lt (by rw [e3]; omega), e3]
end
