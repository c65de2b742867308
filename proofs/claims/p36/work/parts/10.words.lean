/-! ===== words of the tables, by their places ===== -/
section
theorem jws_in (ws : List Cond) (ps : List Nat) (h : ps.map (fun i => lw_tbl[i]?) = ws.map some) (hg : ws.all goodWord = true) : ∀ w ∈ ws, w ∈ jgw := by
  intro w hw
  have h1 := List.all_eq_true.mp hg w hw
  have h2 : some w ∈ ws.map some := List.mem_map.mpr ⟨w, hw, rfl⟩
  rw [← h] at h2
  obtain ⟨i, -, hi⟩ := List.mem_map.mp h2
  exact jgw_in i hi h1
set_option maxRecDepth 100000 in
theorem wcX1 : jcw 0 RX1 TX1 5 := ⟨rfl, jws_in _ [223, 225, 227, 229, 231] (by decide +kernel) (by decide +kernel), by decide +kernel⟩
set_option maxRecDepth 100000 in
theorem wcX2 : jcw 1 RX2 TX2 6 := ⟨rfl, jws_in _ [172, 174, 176, 178, 180, 182] (by decide +kernel) (by decide +kernel), by decide +kernel⟩
set_option maxRecDepth 100000 in
theorem wcX3 : jcw 2 RX3 TX3 14 := ⟨rfl, jws_in _ [88, 90, 92, 94, 96, 98, 100, 102, 104, 106, 108, 110, 112, 114] (by decide +kernel) (by decide +kernel), by decide +kernel⟩
set_option maxRecDepth 100000 in
theorem wcX4 : jcw 3 RX4 TX4 2 := ⟨rfl, jws_in _ [57, 59] (by decide +kernel) (by decide +kernel), by decide +kernel⟩
set_option maxRecDepth 100000 in
theorem wcX5 : jcw 4 RX5 TX5 3 := ⟨rfl, jws_in _ [193, 195, 197] (by decide +kernel) (by decide +kernel), by decide +kernel⟩
set_option maxRecDepth 100000 in
theorem wcX6 : jcw 5 RX6 TX6 4 := ⟨rfl, jws_in _ [157, 159, 161, 163] (by decide +kernel) (by decide +kernel), by decide +kernel⟩
set_option maxRecDepth 100000 in
theorem wcX9 : jcw 6 RX9 TX9 5 := ⟨rfl, jws_in _ [136, 138, 140, 142, 144] (by decide +kernel) (by decide +kernel), by decide +kernel⟩
set_option maxRecDepth 100000 in
theorem wcX10 : jcw 7 RX10 TX10 9 := ⟨rfl, jws_in _ [246, 248, 250, 252, 254, 256, 258, 260, 262] (by decide +kernel) (by decide +kernel), by decide +kernel⟩
theorem jcl_0 : jcl 0 = 7 := by decide +kernel
theorem jcl_6 : jcl 6 = 3 := by decide +kernel
theorem jcl_7 : jcl 7 = 2 := by decide +kernel
theorem jcl_16 : jcl 16 = 1 := by decide +kernel
theorem jcl_17 : jcl 17 = 6 := by decide +kernel
theorem jcl_21 : jcl 21 = 5 := by decide +kernel
theorem jrf_0_1 : jrf 0 (1 : Nat) = 2 := by decide +kernel
theorem jrf_0_2 : jrf 0 (2 : Nat) = 3 := by decide +kernel
theorem jrf_0_3 : jrf 0 (3 : Nat) = 4 := by decide +kernel
theorem jrf_0_4 : jrf 0 (4 : Nat) = 5 := by decide +kernel
theorem jrf_0_6 : jrf 0 (6 : Nat) = 7 := by decide +kernel
theorem jrf_0_7 : jrf 0 (7 : Nat) = 16 := by decide +kernel
theorem jrf_7_0 : jrf 7 (0 : Nat) = 6 := by decide +kernel
theorem jrf_7_1 : jrf 7 (1 : Nat) = 8 := by decide +kernel
theorem jrf_7_2 : jrf 7 (2 : Nat) = 9 := by decide +kernel
theorem jrf_7_3 : jrf 7 (3 : Nat) = 10 := by decide +kernel
theorem jrf_7_4 : jrf 7 (4 : Nat) = 11 := by decide +kernel
theorem jrf_7_5 : jrf 7 (5 : Nat) = 12 := by decide +kernel
theorem jrf_7_6 : jrf 7 (6 : Nat) = 13 := by decide +kernel
theorem jrf_7_7 : jrf 7 (7 : Nat) = 14 := by decide +kernel
theorem jrf_7_8 : jrf 7 (8 : Nat) = 15 := by decide +kernel
theorem jrf_16_0 : jrf 16 (0 : Nat) = 17 := by decide +kernel
theorem jrf_16_2 : jrf 16 (2 : Nat) = 6 := by decide +kernel
theorem jrf_17_0 : jrf 17 (0 : Nat) = 18 := by decide +kernel
theorem jrf_17_1 : jrf 17 (1 : Nat) = 19 := by decide +kernel
theorem jrf_17_2 : jrf 17 (2 : Nat) = 20 := by decide +kernel
set_option maxRecDepth 100000 in
theorem wfX10_17 : jgf RX10 17 7 1 3 := ⟨RX10, TX10, 9, wcX10, by decide, by decide, rfl, jgw_in 238 rfl rfl⟩
set_option maxRecDepth 100000 in
theorem wfX10_23 : jgf RX10 23 7 2 3 := ⟨RX10, TX10, 9, wcX10, by decide, by decide, rfl, jgw_in 239 rfl rfl⟩
set_option maxRecDepth 100000 in
theorem wfX10_27 : jgf RX10 27 7 3 3 := ⟨RX10, TX10, 9, wcX10, by decide, by decide, rfl, jgw_in 240 rfl rfl⟩
set_option maxRecDepth 100000 in
theorem wfX10_30 : jgf RX10 30 7 4 3 := ⟨RX10, TX10, 9, wcX10, by decide, by decide, rfl, jgw_in 241 rfl rfl⟩
set_option maxRecDepth 100000 in
theorem wfX10_45 : jgf RX10 45 7 6 3 := ⟨RX10, TX10, 9, wcX10, by decide, by decide, rfl, jgw_in 243 rfl rfl⟩
set_option maxRecDepth 100000 in
theorem wfX10_52 : jgf RX10 52 7 7 3 := ⟨RX10, TX10, 9, wcX10, by decide, by decide, rfl, jgw_in 244 rfl rfl⟩
set_option maxRecDepth 100000 in
theorem wfX10_56 : jgf RX10 56 7 8 1 := ⟨RX10, TX10, 9, wcX10, by decide, by decide, rfl, jgw_in 245 rfl rfl⟩
set_option maxRecDepth 100000 in
theorem wfX10_132 : jgf RX10 132 0 0 3 := ⟨RX1, TX1, 5, wcX1, by decide, by decide, rfl, jgw_in 209 rfl rfl⟩
set_option maxRecDepth 100000 in
theorem wfX10_149 : jgf RX10 149 0 4 1 := ⟨RX1, TX1, 5, wcX1, by decide, by decide, rfl, jgw_in 222 rfl rfl⟩
set_option maxRecDepth 100000 in
theorem wfX10_152 : jgf RX10 152 0 1 3 := ⟨RX1, TX1, 5, wcX1, by decide, by decide, rfl, jgw_in 212 rfl rfl⟩
set_option maxRecDepth 100000 in
theorem wfX10_155 : jgf RX10 155 0 3 1 := ⟨RX1, TX1, 5, wcX1, by decide, by decide, rfl, jgw_in 217 rfl rfl⟩
set_option maxRecDepth 100000 in
theorem wfX10_158 : jgf RX10 158 0 2 3 := ⟨RX1, TX1, 5, wcX1, by decide, by decide, rfl, jgw_in 215 rfl rfl⟩
set_option maxRecDepth 100000 in
theorem wfX10_193 : jgf RX10 193 2 12 1 := ⟨RX3, TX3, 14, wcX3, by decide, by decide, rfl, jgw_in 86 rfl rfl⟩
set_option maxRecDepth 100000 in
theorem wfX1_9 : jgf RX1 9 0 0 3 := ⟨RX1, TX1, 5, wcX1, by decide, by decide, rfl, jgw_in 205 rfl rfl⟩
set_option maxRecDepth 100000 in
theorem wfX1_15 : jgf RX1 15 0 1 3 := ⟨RX1, TX1, 5, wcX1, by decide, by decide, rfl, jgw_in 210 rfl rfl⟩
set_option maxRecDepth 100000 in
theorem wfX1_18 : jgf RX1 18 0 2 3 := ⟨RX1, TX1, 5, wcX1, by decide, by decide, rfl, jgw_in 213 rfl rfl⟩
set_option maxRecDepth 100000 in
theorem wfX1_21 : jgf RX1 21 0 3 1 := ⟨RX1, TX1, 5, wcX1, by decide, by decide, rfl, jgw_in 216 rfl rfl⟩
set_option maxRecDepth 100000 in
theorem wfX1_25 : jgf RX1 25 0 4 1 := ⟨RX1, TX1, 5, wcX1, by decide, by decide, rfl, jgw_in 218 rfl rfl⟩
set_option maxRecDepth 100000 in
theorem wfX2_12 : jgf RX2 12 1 0 3 := ⟨RX2, TX2, 6, wcX2, by decide, by decide, rfl, jgw_in 166 rfl rfl⟩
set_option maxRecDepth 100000 in
theorem wfX2_35 : jgf RX2 35 1 2 3 := ⟨RX2, TX2, 6, wcX2, by decide, by decide, rfl, jgw_in 168 rfl rfl⟩
set_option maxRecDepth 100000 in
theorem wfX2_49 : jgf RX2 49 6 4 1 := ⟨RX9, TX9, 5, wcX9, by decide, by decide, rfl, jgw_in 135 rfl rfl⟩
set_option maxRecDepth 100000 in
theorem wfX2_71 : jgf RX2 71 0 0 3 := ⟨RX1, TX1, 5, wcX1, by decide, by decide, rfl, jgw_in 208 rfl rfl⟩
set_option maxRecDepth 100000 in
theorem wfX2_86 : jgf RX2 86 3 0 5 := ⟨RX4, TX4, 2, wcX4, by decide, by decide, rfl, jgw_in 52 rfl rfl⟩
set_option maxRecDepth 100000 in
theorem wfX2_92 : jgf RX2 92 0 4 1 := ⟨RX1, TX1, 5, wcX1, by decide, by decide, rfl, jgw_in 220 rfl rfl⟩
set_option maxRecDepth 100000 in
theorem wfX2_98 : jgf RX2 98 3 1 5 := ⟨RX4, TX4, 2, wcX4, by decide, by decide, rfl, jgw_in 55 rfl rfl⟩
set_option maxRecDepth 100000 in
theorem wfX3_13 : jgf RX3 13 2 1 3 := ⟨RX3, TX3, 14, wcX3, by decide, by decide, rfl, jgw_in 74 rfl rfl⟩
set_option maxRecDepth 100000 in
theorem wfX3_17 : jgf RX3 17 2 2 3 := ⟨RX3, TX3, 14, wcX3, by decide, by decide, rfl, jgw_in 75 rfl rfl⟩
set_option maxRecDepth 100000 in
theorem wfX3_20 : jgf RX3 20 2 3 3 := ⟨RX3, TX3, 14, wcX3, by decide, by decide, rfl, jgw_in 76 rfl rfl⟩
set_option maxRecDepth 100000 in
theorem wfX3_24 : jgf RX3 24 2 4 3 := ⟨RX3, TX3, 14, wcX3, by decide, by decide, rfl, jgw_in 77 rfl rfl⟩
set_option maxRecDepth 100000 in
theorem wfX3_27 : jgf RX3 27 2 5 3 := ⟨RX3, TX3, 14, wcX3, by decide, by decide, rfl, jgw_in 78 rfl rfl⟩
set_option maxRecDepth 100000 in
theorem wfX3_30 : jgf RX3 30 2 6 3 := ⟨RX3, TX3, 14, wcX3, by decide, by decide, rfl, jgw_in 79 rfl rfl⟩
set_option maxRecDepth 100000 in
theorem wfX3_33 : jgf RX3 33 2 7 3 := ⟨RX3, TX3, 14, wcX3, by decide, by decide, rfl, jgw_in 80 rfl rfl⟩
set_option maxRecDepth 100000 in
theorem wfX3_36 : jgf RX3 36 2 8 3 := ⟨RX3, TX3, 14, wcX3, by decide, by decide, rfl, jgw_in 81 rfl rfl⟩
set_option maxRecDepth 100000 in
theorem wfX3_39 : jgf RX3 39 2 9 1 := ⟨RX3, TX3, 14, wcX3, by decide, by decide, rfl, jgw_in 82 rfl rfl⟩
set_option maxRecDepth 100000 in
theorem wfX3_43 : jgf RX3 43 2 10 1 := ⟨RX3, TX3, 14, wcX3, by decide, by decide, rfl, jgw_in 83 rfl rfl⟩
set_option maxRecDepth 100000 in
theorem wfX3_46 : jgf RX3 46 2 11 1 := ⟨RX3, TX3, 14, wcX3, by decide, by decide, rfl, jgw_in 84 rfl rfl⟩
set_option maxRecDepth 100000 in
theorem wfX3_49 : jgf RX3 49 2 12 1 := ⟨RX3, TX3, 14, wcX3, by decide, by decide, rfl, jgw_in 85 rfl rfl⟩
set_option maxRecDepth 100000 in
theorem wfX3_52 : jgf RX3 52 2 13 2 := ⟨RX3, TX3, 14, wcX3, by decide, by decide, rfl, jgw_in 87 rfl rfl⟩
set_option maxRecDepth 100000 in
theorem wfX3_56 : jgf RX3 56 2 0 3 := ⟨RX3, TX3, 14, wcX3, by decide, by decide, rfl, jgw_in 73 rfl rfl⟩
set_option maxRecDepth 100000 in
theorem wfX3_92 : jgf RX3 92 0 0 3 := ⟨RX1, TX1, 5, wcX1, by decide, by decide, rfl, jgw_in 207 rfl rfl⟩
set_option maxRecDepth 100000 in
theorem wfX3_101 : jgf RX3 101 0 1 3 := ⟨RX1, TX1, 5, wcX1, by decide, by decide, rfl, jgw_in 211 rfl rfl⟩
set_option maxRecDepth 100000 in
theorem wfX3_102 : jgf RX3 102 0 4 1 := ⟨RX1, TX1, 5, wcX1, by decide, by decide, rfl, jgw_in 221 rfl rfl⟩
set_option maxRecDepth 100000 in
theorem wfX3_115 : jgf RX3 115 3 0 5 := ⟨RX4, TX4, 2, wcX4, by decide, by decide, rfl, jgw_in 53 rfl rfl⟩
set_option maxRecDepth 100000 in
theorem wfX3_129 : jgf RX3 129 3 1 5 := ⟨RX4, TX4, 2, wcX4, by decide, by decide, rfl, jgw_in 56 rfl rfl⟩
set_option maxRecDepth 100000 in
theorem wfX9_9 : jgf RX9 9 6 0 3 := ⟨RX9, TX9, 5, wcX9, by decide, by decide, rfl, jgw_in 130 rfl rfl⟩
set_option maxRecDepth 100000 in
theorem wfX9_15 : jgf RX9 15 6 1 3 := ⟨RX9, TX9, 5, wcX9, by decide, by decide, rfl, jgw_in 131 rfl rfl⟩
set_option maxRecDepth 100000 in
theorem wfX9_18 : jgf RX9 18 6 2 3 := ⟨RX9, TX9, 5, wcX9, by decide, by decide, rfl, jgw_in 132 rfl rfl⟩
set_option maxRecDepth 100000 in
theorem wfX9_21 : jgf RX9 21 6 3 1 := ⟨RX9, TX9, 5, wcX9, by decide, by decide, rfl, jgw_in 133 rfl rfl⟩
set_option maxRecDepth 100000 in
theorem wfX9_25 : jgf RX9 25 6 4 1 := ⟨RX9, TX9, 5, wcX9, by decide, by decide, rfl, jgw_in 134 rfl rfl⟩
set_option maxRecDepth 100000 in
theorem wfX9_30 : jgf RX9 30 0 4 1 := ⟨RX1, TX1, 5, wcX1, by decide, by decide, rfl, jgw_in 219 rfl rfl⟩
set_option maxRecDepth 100000 in
theorem wfX9_33 : jgf RX9 33 0 0 3 := ⟨RX1, TX1, 5, wcX1, by decide, by decide, rfl, jgw_in 206 rfl rfl⟩
set_option maxRecDepth 100000 in
theorem wfX9_42 : jgf RX9 42 0 2 3 := ⟨RX1, TX1, 5, wcX1, by decide, by decide, rfl, jgw_in 214 rfl rfl⟩
set_option maxRecDepth 100000 in
theorem wpX10_56 : jpf RX10 56 7 8 1 := ⟨RX10, TX10, 9, tyX10, wcX10, by decide, by decide, rfl, jgw_in 245 rfl rfl, tyX10_ok, nmX10, .inl ⟨rfl, rfl⟩, rfl⟩
set_option maxRecDepth 100000 in
theorem wpX1_21 : jpf RX1 21 0 3 1 := ⟨RX1, TX1, 5, tyX1, wcX1, by decide, by decide, rfl, jgw_in 216 rfl rfl, tyX1_ok, nmX1, .inl ⟨rfl, rfl⟩, rfl⟩
set_option maxRecDepth 100000 in
theorem wpX1_25 : jpf RX1 25 0 4 1 := ⟨RX1, TX1, 5, tyX1, wcX1, by decide, by decide, rfl, jgw_in 218 rfl rfl, tyX1_ok, nmX1, .inl ⟨rfl, rfl⟩, rfl⟩
set_option maxRecDepth 100000 in
theorem wpX3_39 : jpf RX3 39 2 9 1 := ⟨RX3, TX3, 14, tyX3, wcX3, by decide, by decide, rfl, jgw_in 82 rfl rfl, tyX3_ok, nmX3, .inl ⟨rfl, rfl⟩, rfl⟩
set_option maxRecDepth 100000 in
theorem wpX3_43 : jpf RX3 43 2 10 1 := ⟨RX3, TX3, 14, tyX3, wcX3, by decide, by decide, rfl, jgw_in 83 rfl rfl, tyX3_ok, nmX3, .inl ⟨rfl, rfl⟩, rfl⟩
set_option maxRecDepth 100000 in
theorem wpX3_46 : jpf RX3 46 2 11 1 := ⟨RX3, TX3, 14, tyX3, wcX3, by decide, by decide, rfl, jgw_in 84 rfl rfl, tyX3_ok, nmX3, .inl ⟨rfl, rfl⟩, rfl⟩
set_option maxRecDepth 100000 in
theorem wpX3_49 : jpf RX3 49 2 12 1 := ⟨RX3, TX3, 14, tyX3, wcX3, by decide, by decide, rfl, jgw_in 85 rfl rfl, tyX3_ok, nmX3, .inl ⟨rfl, rfl⟩, rfl⟩
set_option maxRecDepth 100000 in
theorem wpX3_52 : jpf RX3 52 2 13 2 := ⟨RX3, TX3, 14, tyX3, wcX3, by decide, by decide, rfl, jgw_in 87 rfl rfl, tyX3_ok, nmX3, .inr (.inl ⟨rfl, rfl⟩), rfl⟩
set_option maxRecDepth 100000 in
theorem wpX9_21 : jpf RX9 21 6 3 1 := ⟨RX9, TX9, 5, tyX9, wcX9, by decide, by decide, rfl, jgw_in 133 rfl rfl, tyX9_ok, nmX9, .inl ⟨rfl, rfl⟩, rfl⟩
set_option maxRecDepth 100000 in
theorem wpX9_25 : jpf RX9 25 6 4 1 := ⟨RX9, TX9, 5, tyX9, wcX9, by decide, by decide, rfl, jgw_in 134 rfl rfl, tyX9_ok, nmX9, .inl ⟨rfl, rfl⟩, rfl⟩
set_option maxRecDepth 100000 in
theorem wnX10_281 : Cond.constantLong RX10 281 (Int64.ofInt 48271) ∈ jgw := jgw_in 282 (by decide +kernel) (by decide +kernel)
set_option maxRecDepth 100000 in
theorem wnX10_283 : Cond.constantLong RX10 283 (Int64.ofInt 11) ∈ jgw := jgw_in 283 (by decide +kernel) (by decide +kernel)
set_option maxRecDepth 100000 in
theorem wnX10_285 : Cond.constantLong RX10 285 (Int64.ofInt 2147483647) ∈ jgw := jgw_in 284 (by decide +kernel) (by decide +kernel)
set_option maxRecDepth 100000 in
theorem wnX3_86 : Cond.constantLong RX3 86 (Int64.ofInt 1099511627776) ∈ jgw := jgw_in 405 (by decide +kernel) (by decide +kernel)
set_option maxRecDepth 100000 in
theorem wnX3_109 : Cond.constantLong RX3 109 (Int64.ofInt 17179869183) ∈ jgw := jgw_in 430 (by decide +kernel) (by decide +kernel)
set_option maxRecDepth 100000 in
theorem wnX3_145 : Cond.constantLong RX3 145 (Int64.ofInt (-17179869184)) ∈ jgw := jgw_in 431 (by decide +kernel) (by decide +kernel)
set_option maxRecDepth 100000 in
theorem wnX3_155 : Cond.constantLong RX3 155 (Int64.ofInt (-7046029254386353131)) ∈ jgw := jgw_in 400 (by decide +kernel) (by decide +kernel)
set_option maxRecDepth 100000 in
theorem wnX3_163 : Cond.constantLong RX3 163 (Int64.ofInt 25) ∈ jgw := jgw_in 399 (by decide +kernel) (by decide +kernel)
set_option maxRecDepth 100000 in
theorem wnL_8 : Cond.constant RL 8 (Int32.ofInt 2147483647) ∈ jgw := jgw_in 325 (by decide +kernel) (by decide +kernel)
abbrev MX0_code : jM := (yX0_code, cX0_code, 2, (some .int))
abbrev MX0_tilesAlike : jM := (yX0_tilesAlike, cX0_tilesAlike, 1, (some .int))
abbrev MX1_size : jM := (yX1_size, cX1_size, 1, (some .int))
abbrev MX1_isFull : jM := (yX1_isFull, cX1_isFull, 1, (some .boolean))
abbrev MX1_rests : jM := (yX1_rests, cX1_rests, 1, (some .boolean))
abbrev MX1_gain : jM := (yX1_gain, cX1_gain, 2, none)
abbrev MX1_lose : jM := (yX1_lose, cX1_lose, 2, none)
abbrev MX1_canLay : jM := (yX1_canLay, cX1_canLay, 3, (some .boolean))
abbrev MX1_lay : jM := (yX1_lay, cX1_lay, 6, none)
abbrev MX8_sum : jM := (yX8_sum, cX8_sum, 6, (some .int))
abbrev MJ7_fill_53178 : jM := (yJ7_fill_53178, cJ7_fill_53178, 4, none)
abbrev MX1_giveBack : jM := (yX1_giveBack, cX1_giveBack, 4, (some .int))
abbrev MX9_keepPath : jM := (yX9_keepPath, cX9_keepPath, 1, none)
abbrev MX8_startsRun : jM := (yX8_startsRun, cX8_startsRun, 1, (some .boolean))
abbrev MX9_shiftRun : jM := (yX9_shiftRun, cX9_shiftRun, 3, none)
abbrev MX9_seek : jM := (yX9_seek, cX9_seek, 6, none)
abbrev MX9_find : jM := (yX9_find, cX9_find, 3, none)
abbrev MX4_lackOfSeven : jM := (yX4_lackOfSeven, cX4_lackOfSeven, 7, (some .int))
abbrev MX2_isSeven : jM := (yX2_isSeven, cX2_isSeven, 2, (some .boolean))
abbrev MX8_isOuter : jM := (yX8_isOuter, cX8_isOuter, 2, (some .boolean))
abbrev MX4_hasOuterPair : jM := (yX4_hasOuterPair, cX4_hasOuterPair, 2, (some .boolean))
abbrev MX4_lackOfOuter : jM := (yX4_lackOfOuter, cX4_lackOfOuter, 3, (some .int))
abbrev MX2_isOuterOnes : jM := (yX2_isOuterOnes, cX2_isOuterOnes, 2, (some .boolean))
abbrev MX2_howDone : jM := (yX2_howDone, cX2_howDone, 2, (some .int))
abbrev MX3_look : jM := (yX3_look, cX3_look, 3, none)
abbrev MX8_lengthOf : jM := (yX8_lengthOf, cX8_lengthOf, 1, (some .int))
abbrev MX3_keyOf : jM := (yX3_keyOf, cX3_keyOf, 6, (some .long))
abbrev MJ7_fill_d0a16 : jM := (yJ7_fill_d0a16, cJ7_fill_d0a16, 5, none)
abbrev MX3_less : jM := (yX3_less, cX3_less, 7, (some .long))
abbrev MX3_spread : jM := (yX3_spread, cX3_spread, 18, none)
abbrev MX3_goThrough : jM := (yX3_goThrough, cX3_goThrough, 5, none)
abbrev MX3_workOut : jM := (yX3_workOut, cX3_workOut, 5, none)
abbrev MX3_leastWith : jM := (yX3_leastWith, cX3_leastWith, 11, (some .long))
abbrev MX3_addRow : jM := (yX3_addRow, cX3_addRow, 3, none)
abbrev MX3_addAllBut : jM := (yX3_addAllBut, cX3_addAllBut, 3, none)
abbrev MX3_tilesOf : jM := (yX3_tilesOf, cX3_tilesOf, 2, (some .int))
abbrev MX3_offer : jM := (yX3_offer, cX3_offer, 4, none)
abbrev MX4_helpersOfSeven : jM := (yX4_helpersOfSeven, cX4_helpersOfSeven, 6, (some .long))
abbrev MX4_helpersOfOuter : jM := (yX4_helpersOfOuter, cX4_helpersOfOuter, 5, (some .long))
abbrev MX3_total : jM := (yX3_total, cX3_total, 4, none)
abbrev MX3_reckon : jM := (yX3_reckon, cX3_reckon, 4, none)
abbrev MX8_rowOf : jM := (yX8_rowOf, cX8_rowOf, 1, (some .int))
abbrev MX3_change : jM := (yX3_change, cX3_change, 4, none)
abbrev MX3_isHelper : jM := (yX3_isHelper, cX3_isHelper, 2, (some .boolean))
abbrev MX3_helper : jM := (yX3_helper, cX3_helper, 4, (some .int))
abbrev MX3_helpingOf : jM := (yX3_helpingOf, cX3_helpingOf, 4, (some .int))
abbrev MX7_rowKey : jM := (yX7_rowKey, cX7_rowKey, 6, (some .int))
abbrev MX7_lastRowKey : jM := (yX7_lastRowKey, cX7_lastRowKey, 3, (some .int))
abbrev MX7_same : jM := (yX7_same, cX7_same, 8, (some .boolean))
abbrev MX8_isSort : jM := (yX8_isSort, cX8_isSort, 1, (some .boolean))
abbrev MX10_isHand : jM := (yX10_isHand, cX10_isHand, 1, (some .boolean))
abbrev MX10_take : jM := (yX10_take, cX10_take, 3, (some .int))
abbrev MX10_seed : jM := (yX10_seed, cX10_seed, 2, (some .int))
abbrev MX10_drawNext : jM := (yX10_drawNext, cX10_drawNext, 5, (some .int))
abbrev MX10_draw : jM := (yX10_draw, cX10_draw, 2, (some .int))
abbrev MX10_deal : jM := (yX10_deal, cX10_deal, 4, (some .int))
abbrev MX10_discard : jM := (yX10_discard, cX10_discard, 3, (some .int))
abbrev MX10_open : jM := (yX10_open, cX10_open, 4, (some .int))
abbrev MX10_clear : jM := (yX10_clear, cX10_clear, 2, (some .int))
abbrev MX10_tiles : jM := (yX10_tiles, cX10_tiles, 3, (some .int))
abbrev MX10_about : jM := (yX10_about, cX10_about, 5, (some .int))
abbrev MX10_done : jM := (yX10_done, cX10_done, 2, (some .int))
abbrev MX10_distance : jM := (yX10_distance, cX10_distance, 2, (some .int))
abbrev MX10_waits : jM := (yX10_waits, cX10_waits, 3, (some .int))
abbrev MX10_countHidden : jM := (yX10_countHidden, cX10_countHidden, 5, (some .int))
abbrev MX10_bestThrow : jM := (yX10_bestThrow, cX10_bestThrow, 7, (some .int))
abbrev MX10_best : jM := (yX10_best, cX10_best, 2, (some .int))
abbrev MX10_unseen : jM := (yX10_unseen, cX10_unseen, 2, (some .int))
abbrev MX10_alike : jM := (yX10_alike, cX10_alike, 3, (some .int))
abbrev ML_some : jM := (yL_some, cL_some, 2, (some .int))
abbrev ML_act : jM := (yL_act, cL_act, 4, (some .int))
abbrev ML_asked : jM := (yL_asked, cL_asked, 6, (some .boolean))
set_option maxRecDepth 100000 in
theorem wlX10_62 : Cond.methodLink RX10 62 yJ7_fill_53178 ∈ jgw := jgw_in 234 rfl rfl
set_option maxRecDepth 100000 in
theorem wlX10_103 : Cond.methodLink RX10 103 yX10_isHand ∈ jgw := jgw_in 300 rfl rfl
set_option maxRecDepth 100000 in
theorem wlX10_106 : Cond.methodLink RX10 106 yX1_size ∈ jgw := jgw_in 303 rfl rfl
set_option maxRecDepth 100000 in
theorem wlX10_114 : Cond.methodLink RX10 114 yX8_isSort ∈ jgw := jgw_in 293 rfl rfl
set_option maxRecDepth 100000 in
theorem wlX10_117 : Cond.methodLink RX10 117 yX1_isFull ∈ jgw := jgw_in 330 rfl rfl
set_option maxRecDepth 100000 in
theorem wlX10_120 : Cond.methodLink RX10 120 yX1_gain ∈ jgw := jgw_in 285 rfl rfl
set_option maxRecDepth 100000 in
theorem wlX10_124 : Cond.methodLink RX10 124 yX10_drawNext ∈ jgw := jgw_in 277 rfl rfl
set_option maxRecDepth 100000 in
theorem wlX10_128 : Cond.methodLink RX10 128 yX1_giveBack ∈ jgw := jgw_in 269 rfl rfl
set_option maxRecDepth 100000 in
theorem wlX10_135 : Cond.methodLink RX10 135 yX1_lose ∈ jgw := jgw_in 343 rfl rfl
set_option maxRecDepth 100000 in
theorem wlX10_140 : Cond.methodLink RX10 140 yX8_startsRun ∈ jgw := jgw_in 351 rfl rfl
set_option maxRecDepth 100000 in
theorem wlX10_143 : Cond.methodLink RX10 143 yX1_canLay ∈ jgw := jgw_in 354 rfl rfl
set_option maxRecDepth 100000 in
theorem wlX10_146 : Cond.methodLink RX10 146 yX1_lay ∈ jgw := jgw_in 361 rfl rfl
set_option maxRecDepth 100000 in
theorem wlX10_168 : Cond.methodLink RX10 168 yX2_howDone ∈ jgw := jgw_in 500 rfl rfl
set_option maxRecDepth 100000 in
theorem wlX10_186 : Cond.methodLink RX10 186 yX1_rests ∈ jgw := jgw_in 489 rfl rfl
set_option maxRecDepth 100000 in
theorem wlX10_189 : Cond.methodLink RX10 189 yX3_reckon ∈ jgw := jgw_in 377 rfl rfl
set_option maxRecDepth 100000 in
theorem wlX10_196 : Cond.methodLink RX10 196 Lib.Math.max.name ∈ jgw := jgw_in 464 rfl rfl
set_option maxRecDepth 100000 in
theorem wlX10_201 : Cond.methodLink RX10 201 yX3_helper ∈ jgw := jgw_in 541 rfl rfl
set_option maxRecDepth 100000 in
theorem wlX10_211 : Cond.methodLink RX10 211 yX10_countHidden ∈ jgw := jgw_in 311 rfl rfl
set_option maxRecDepth 100000 in
theorem wlX10_214 : Cond.methodLink RX10 214 yX3_helpingOf ∈ jgw := jgw_in 473 rfl rfl
set_option maxRecDepth 100000 in
theorem wlX10_217 : Cond.methodLink RX10 217 yX10_bestThrow ∈ jgw := jgw_in 373 rfl rfl
set_option maxRecDepth 100000 in
theorem wlX10_224 : Cond.methodLink RX10 224 yX3_change ∈ jgw := jgw_in 465 rfl rfl
set_option maxRecDepth 100000 in
theorem wlX10_227 : Cond.methodLink RX10 227 yX3_total ∈ jgw := jgw_in 472 rfl rfl
set_option maxRecDepth 100000 in
theorem wlX10_233 : Cond.methodLink RX10 233 yX7_same ∈ jgw := jgw_in 549 rfl rfl
set_option maxRecDepth 100000 in
theorem wlX10_279 : Cond.methodLink RX10 279 yX8_sum ∈ jgw := jgw_in 281 rfl rfl
set_option maxRecDepth 100000 in
theorem wlX1_28 : Cond.methodLink RX1 28 yX1_size ∈ jgw := jgw_in 334 rfl rfl
set_option maxRecDepth 100000 in
theorem wlX1_34 : Cond.methodLink RX1 34 yX0_tilesAlike ∈ jgw := jgw_in 358 rfl rfl
set_option maxRecDepth 100000 in
theorem wlX1_38 : Cond.methodLink RX1 38 yX1_lose ∈ jgw := jgw_in 365 rfl rfl
set_option maxRecDepth 100000 in
theorem wlX1_42 : Cond.methodLink RX1 42 yX0_code ∈ jgw := jgw_in 366 rfl rfl
set_option maxRecDepth 100000 in
theorem wlX1_46 : Cond.methodLink RX1 46 yX8_sum ∈ jgw := jgw_in 273 rfl rfl
set_option maxRecDepth 100000 in
theorem wlX1_50 : Cond.methodLink RX1 50 yJ7_fill_53178 ∈ jgw := jgw_in 276 rfl rfl
set_option maxRecDepth 100000 in
theorem wlX2_39 : Cond.methodLink RX2 39 yX1_isFull ∈ jgw := jgw_in 504 rfl rfl
set_option maxRecDepth 100000 in
theorem wlX2_45 : Cond.methodLink RX2 45 yX9_find ∈ jgw := jgw_in 505 rfl rfl
set_option maxRecDepth 100000 in
theorem wlX2_52 : Cond.methodLink RX2 52 yX2_isSeven ∈ jgw := jgw_in 523 rfl rfl
set_option maxRecDepth 100000 in
theorem wlX2_56 : Cond.methodLink RX2 56 yX2_isOuterOnes ∈ jgw := jgw_in 528 rfl rfl
set_option maxRecDepth 100000 in
theorem wlX2_95 : Cond.methodLink RX2 95 yX4_lackOfSeven ∈ jgw := jgw_in 527 rfl rfl
set_option maxRecDepth 100000 in
theorem wlX2_101 : Cond.methodLink RX2 101 yX4_lackOfOuter ∈ jgw := jgw_in 532 rfl rfl
set_option maxRecDepth 100000 in
theorem wlX3_62 : Cond.methodLink RX3 62 yJ7_fill_d0a16 ∈ jgw := jgw_in 70 rfl rfl
set_option maxRecDepth 100000 in
theorem wlX3_68 : Cond.methodLink RX3 68 yX3_look ∈ jgw := jgw_in 381 rfl rfl
set_option maxRecDepth 100000 in
theorem wlX3_72 : Cond.methodLink RX3 72 yX3_workOut ∈ jgw := jgw_in 388 rfl rfl
set_option maxRecDepth 100000 in
theorem wlX3_76 : Cond.methodLink RX3 76 yX3_addAllBut ∈ jgw := jgw_in 418 rfl rfl
set_option maxRecDepth 100000 in
theorem wlX3_79 : Cond.methodLink RX3 79 yX3_total ∈ jgw := jgw_in 432 rfl rfl
set_option maxRecDepth 100000 in
theorem wlX3_82 : Cond.methodLink RX3 82 yX8_rowOf ∈ jgw := jgw_in 469 rfl rfl
set_option maxRecDepth 100000 in
theorem wlX3_88 : Cond.methodLink RX3 88 yX3_tilesOf ∈ jgw := jgw_in 436 rfl rfl
set_option maxRecDepth 100000 in
theorem wlX3_95 : Cond.methodLink RX3 95 arraycopyName ∈ jgw := jgw_in 385 rfl rfl
set_option maxRecDepth 100000 in
theorem wlX3_105 : Cond.methodLink RX3 105 yX3_leastWith ∈ jgw := jgw_in 426 rfl rfl
set_option maxRecDepth 100000 in
theorem wlX3_111 : Cond.methodLink RX3 111 yX3_offer ∈ jgw := jgw_in 439 rfl rfl
set_option maxRecDepth 100000 in
theorem wlX3_121 : Cond.methodLink RX3 121 yX4_lackOfSeven ∈ jgw := jgw_in 443 rfl rfl
set_option maxRecDepth 100000 in
theorem wlX3_125 : Cond.methodLink RX3 125 yX4_helpersOfSeven ∈ jgw := jgw_in 449 rfl rfl
set_option maxRecDepth 100000 in
theorem wlX3_132 : Cond.methodLink RX3 132 yX4_lackOfOuter ∈ jgw := jgw_in 452 rfl rfl
set_option maxRecDepth 100000 in
theorem wlX3_135 : Cond.methodLink RX3 135 yX4_helpersOfOuter ∈ jgw := jgw_in 461 rfl rfl
set_option maxRecDepth 100000 in
theorem wlX3_138 : Cond.methodLink RX3 138 yX3_isHelper ∈ jgw := jgw_in 477 rfl rfl
set_option maxRecDepth 100000 in
theorem wlX3_142 : Cond.methodLink RX3 142 yX3_addRow ∈ jgw := jgw_in 422 rfl rfl
set_option maxRecDepth 100000 in
theorem wlX3_147 : Cond.methodLink RX3 147 yX3_less ∈ jgw := jgw_in 414 rfl rfl
set_option maxRecDepth 100000 in
theorem wlX3_151 : Cond.methodLink RX3 151 yX3_keyOf ∈ jgw := jgw_in 392 rfl rfl
set_option maxRecDepth 100000 in
theorem wlX3_157 : Cond.methodLink RX3 157 yX3_goThrough ∈ jgw := jgw_in 401 rfl rfl
set_option maxRecDepth 100000 in
theorem wlX3_160 : Cond.methodLink RX3 160 yX8_lengthOf ∈ jgw := jgw_in 396 rfl rfl
set_option maxRecDepth 100000 in
theorem wlX3_165 : Cond.methodLink RX3 165 yX3_spread ∈ jgw := jgw_in 406 rfl rfl
set_option maxRecDepth 100000 in
theorem wlX3_169 : Cond.methodLink RX3 169 yX8_startsRun ∈ jgw := jgw_in 410 rfl rfl
set_option maxRecDepth 100000 in
theorem wlX3_172 : Cond.methodLink RX3 172 Lib.Math.max.name ∈ jgw := jgw_in 411 rfl rfl
set_option maxRecDepth 100000 in
theorem wlX4_16 : Cond.methodLink RX4 16 Lib.Math.min.name ∈ jgw := jgw_in 446 rfl rfl
set_option maxRecDepth 100000 in
theorem wlX4_24 : Cond.methodLink RX4 24 yX8_isOuter ∈ jgw := jgw_in 455 rfl rfl
set_option maxRecDepth 100000 in
theorem wlX4_28 : Cond.methodLink RX4 28 yX4_hasOuterPair ∈ jgw := jgw_in 458 rfl rfl
set_option maxRecDepth 100000 in
theorem wlX7_7 : Cond.methodLink RX7 7 yX7_rowKey ∈ jgw := jgw_in 552 rfl rfl
set_option maxRecDepth 100000 in
theorem wlX7_13 : Cond.methodLink RX7 13 Lib.Math.min.name ∈ jgw := jgw_in 556 rfl rfl
set_option maxRecDepth 100000 in
theorem wlX7_19 : Cond.methodLink RX7 19 Lib.Math.max.name ∈ jgw := jgw_in 555 rfl rfl
set_option maxRecDepth 100000 in
theorem wlX7_22 : Cond.methodLink RX7 22 yX7_lastRowKey ∈ jgw := jgw_in 557 rfl rfl
set_option maxRecDepth 100000 in
theorem wlX9_36 : Cond.methodLink RX9 36 arraycopyName ∈ jgw := jgw_in 509 rfl rfl
set_option maxRecDepth 100000 in
theorem wlX9_45 : Cond.methodLink RX9 45 yX0_code ∈ jgw := jgw_in 510 rfl rfl
set_option maxRecDepth 100000 in
theorem wlX9_49 : Cond.methodLink RX9 49 yX9_seek ∈ jgw := jgw_in 511 rfl rfl
set_option maxRecDepth 100000 in
theorem wlX9_53 : Cond.methodLink RX9 53 yX9_keepPath ∈ jgw := jgw_in 514 rfl rfl
set_option maxRecDepth 100000 in
theorem wlX9_56 : Cond.methodLink RX9 56 yX8_startsRun ∈ jgw := jgw_in 518 rfl rfl
set_option maxRecDepth 100000 in
theorem wlX9_60 : Cond.methodLink RX9 60 yX9_shiftRun ∈ jgw := jgw_in 519 rfl rfl
set_option maxRecDepth 100000 in
theorem wlL_9 : Cond.methodLink RL 9 yL_some ∈ jgw := jgw_in 322 rfl rfl
set_option maxRecDepth 100000 in
theorem wlL_15 : Cond.methodLink RL 15 yX10_draw ∈ jgw := jgw_in 326 rfl rfl
set_option maxRecDepth 100000 in
theorem wlL_21 : Cond.methodLink RL 21 yX10_take ∈ jgw := jgw_in 335 rfl rfl
set_option maxRecDepth 100000 in
theorem wlL_24 : Cond.methodLink RL 24 yX10_discard ∈ jgw := jgw_in 339 rfl rfl
set_option maxRecDepth 100000 in
theorem wlL_27 : Cond.methodLink RL 27 yX10_open ∈ jgw := jgw_in 347 rfl rfl
set_option maxRecDepth 100000 in
theorem wlL_31 : Cond.methodLink RL 31 yX10_best ∈ jgw := jgw_in 369 rfl rfl
set_option maxRecDepth 100000 in
theorem wlL_34 : Cond.methodLink RL 34 yX10_clear ∈ jgw := jgw_in 481 rfl rfl
set_option maxRecDepth 100000 in
theorem wlL_37 : Cond.methodLink RL 37 yX10_distance ∈ jgw := jgw_in 485 rfl rfl
set_option maxRecDepth 100000 in
theorem wlL_40 : Cond.methodLink RL 40 yX10_about ∈ jgw := jgw_in 296 rfl rfl
set_option maxRecDepth 100000 in
theorem wlL_43 : Cond.methodLink RL 43 yX10_done ∈ jgw := jgw_in 496 rfl rfl
set_option maxRecDepth 100000 in
theorem wlL_46 : Cond.methodLink RL 46 yX10_tiles ∈ jgw := jgw_in 289 rfl rfl
set_option maxRecDepth 100000 in
theorem wlL_49 : Cond.methodLink RL 49 yX10_seed ∈ jgw := jgw_in 533 rfl rfl
set_option maxRecDepth 100000 in
theorem wlL_52 : Cond.methodLink RL 52 yX10_deal ∈ jgw := jgw_in 265 rfl rfl
set_option maxRecDepth 100000 in
theorem wlL_55 : Cond.methodLink RL 55 yX10_waits ∈ jgw := jgw_in 537 rfl rfl
set_option maxRecDepth 100000 in
theorem wlL_58 : Cond.methodLink RL 58 yX10_alike ∈ jgw := jgw_in 545 rfl rfl
set_option maxRecDepth 100000 in
theorem wmJ7_fill_53178 : jmS MJ7_fill_53178 2 := ⟨⟨jgw_in 22 rfl rfl, jgw_in 236 rfl rfl, by decide, by decide +kernel, by decide +kernel, by decide +kernel⟩, jgw_in 235 rfl rfl⟩
set_option maxRecDepth 100000 in
theorem wmJ7_fill_d0a16 : jmS MJ7_fill_d0a16 2 := ⟨⟨jgw_in 22 rfl rfl, jgw_in 72 rfl rfl, by decide, by decide +kernel, by decide +kernel, by decide +kernel⟩, jgw_in 71 rfl rfl⟩
set_option maxRecDepth 100000 in
theorem wmL_some : jmS ML_some 2 := ⟨⟨jgw_in 18 rfl rfl, jgw_in 324 rfl rfl, by decide, by decide +kernel, by decide +kernel, by decide +kernel⟩, jgw_in 323 rfl rfl⟩
set_option maxRecDepth 100000 in
theorem wmX0_code : jmS MX0_code 2 := ⟨⟨jgw_in 31 rfl rfl, jgw_in 368 rfl rfl, by decide, by decide +kernel, by decide +kernel, by decide +kernel⟩, jgw_in 367 rfl rfl⟩
set_option maxRecDepth 100000 in
theorem wmX0_tilesAlike : jmS MX0_tilesAlike 1 := ⟨⟨jgw_in 31 rfl rfl, jgw_in 360 rfl rfl, by decide, by decide +kernel, by decide +kernel, by decide +kernel⟩, jgw_in 359 rfl rfl⟩
set_option maxRecDepth 100000 in
theorem wmX10_about : jmV MX10_about 2 7 := ⟨⟨jgw_in 19 rfl rfl, jgw_in 299 rfl rfl, by decide, by decide +kernel, by decide +kernel, by decide +kernel⟩, jgw_in 297 rfl rfl, jgw_in 298 rfl rfl, RX10, TX10, 9, wcX10, rfl, by decide⟩
set_option maxRecDepth 100000 in
theorem wmX10_alike : jmV MX10_alike 2 7 := ⟨⟨jgw_in 19 rfl rfl, jgw_in 548 rfl rfl, by decide, by decide +kernel, by decide +kernel, by decide +kernel⟩, jgw_in 546 rfl rfl, jgw_in 547 rfl rfl, RX10, TX10, 9, wcX10, rfl, by decide⟩
set_option maxRecDepth 100000 in
theorem wmX10_best : jmV MX10_best 1 7 := ⟨⟨jgw_in 19 rfl rfl, jgw_in 372 rfl rfl, by decide, by decide +kernel, by decide +kernel, by decide +kernel⟩, jgw_in 370 rfl rfl, jgw_in 371 rfl rfl, RX10, TX10, 9, wcX10, rfl, by decide⟩
set_option maxRecDepth 100000 in
theorem wmX10_bestThrow : jmV MX10_bestThrow 1 7 := ⟨⟨jgw_in 19 rfl rfl, jgw_in 376 rfl rfl, by decide, by decide +kernel, by decide +kernel, by decide +kernel⟩, jgw_in 375 rfl rfl, jgw_in 2 rfl rfl, RX10, TX10, 9, wcX10, rfl, by decide⟩
set_option maxRecDepth 100000 in
theorem wmX10_clear : jmV MX10_clear 1 7 := ⟨⟨jgw_in 19 rfl rfl, jgw_in 484 rfl rfl, by decide, by decide +kernel, by decide +kernel, by decide +kernel⟩, jgw_in 482 rfl rfl, jgw_in 483 rfl rfl, RX10, TX10, 9, wcX10, rfl, by decide⟩
set_option maxRecDepth 100000 in
theorem wmX10_countHidden : jmV MX10_countHidden 1 7 := ⟨⟨jgw_in 19 rfl rfl, jgw_in 314 rfl rfl, by decide, by decide +kernel, by decide +kernel, by decide +kernel⟩, jgw_in 313 rfl rfl, jgw_in 1 rfl rfl, RX10, TX10, 9, wcX10, rfl, by decide⟩
set_option maxRecDepth 100000 in
theorem wmX10_deal : jmV MX10_deal 1 7 := ⟨⟨jgw_in 19 rfl rfl, jgw_in 268 rfl rfl, by decide, by decide +kernel, by decide +kernel, by decide +kernel⟩, jgw_in 266 rfl rfl, jgw_in 267 rfl rfl, RX10, TX10, 9, wcX10, rfl, by decide⟩
set_option maxRecDepth 100000 in
theorem wmX10_discard : jmV MX10_discard 2 7 := ⟨⟨jgw_in 19 rfl rfl, jgw_in 342 rfl rfl, by decide, by decide +kernel, by decide +kernel, by decide +kernel⟩, jgw_in 340 rfl rfl, jgw_in 341 rfl rfl, RX10, TX10, 9, wcX10, rfl, by decide⟩
set_option maxRecDepth 100000 in
theorem wmX10_distance : jmV MX10_distance 1 7 := ⟨⟨jgw_in 19 rfl rfl, jgw_in 488 rfl rfl, by decide, by decide +kernel, by decide +kernel, by decide +kernel⟩, jgw_in 486 rfl rfl, jgw_in 487 rfl rfl, RX10, TX10, 9, wcX10, rfl, by decide⟩
set_option maxRecDepth 100000 in
theorem wmX10_done : jmV MX10_done 1 7 := ⟨⟨jgw_in 19 rfl rfl, jgw_in 499 rfl rfl, by decide, by decide +kernel, by decide +kernel, by decide +kernel⟩, jgw_in 497 rfl rfl, jgw_in 498 rfl rfl, RX10, TX10, 9, wcX10, rfl, by decide⟩
set_option maxRecDepth 100000 in
theorem wmX10_draw : jmV MX10_draw 1 7 := ⟨⟨jgw_in 19 rfl rfl, jgw_in 329 rfl rfl, by decide, by decide +kernel, by decide +kernel, by decide +kernel⟩, jgw_in 327 rfl rfl, jgw_in 328 rfl rfl, RX10, TX10, 9, wcX10, rfl, by decide⟩
set_option maxRecDepth 100000 in
theorem wmX10_drawNext : jmV MX10_drawNext 1 7 := ⟨⟨jgw_in 19 rfl rfl, jgw_in 280 rfl rfl, by decide, by decide +kernel, by decide +kernel, by decide +kernel⟩, jgw_in 279 rfl rfl, jgw_in 0 rfl rfl, RX10, TX10, 9, wcX10, rfl, by decide⟩
set_option maxRecDepth 100000 in
theorem wmX10_isHand : jmS MX10_isHand 1 := ⟨⟨jgw_in 19 rfl rfl, jgw_in 302 rfl rfl, by decide, by decide +kernel, by decide +kernel, by decide +kernel⟩, jgw_in 301 rfl rfl⟩
set_option maxRecDepth 100000 in
theorem wmX10_open : jmV MX10_open 3 7 := ⟨⟨jgw_in 19 rfl rfl, jgw_in 350 rfl rfl, by decide, by decide +kernel, by decide +kernel, by decide +kernel⟩, jgw_in 348 rfl rfl, jgw_in 349 rfl rfl, RX10, TX10, 9, wcX10, rfl, by decide⟩
set_option maxRecDepth 100000 in
theorem wmX10_seed : jmV MX10_seed 1 7 := ⟨⟨jgw_in 19 rfl rfl, jgw_in 536 rfl rfl, by decide, by decide +kernel, by decide +kernel, by decide +kernel⟩, jgw_in 534 rfl rfl, jgw_in 535 rfl rfl, RX10, TX10, 9, wcX10, rfl, by decide⟩
set_option maxRecDepth 100000 in
theorem wmX10_take : jmV MX10_take 2 7 := ⟨⟨jgw_in 19 rfl rfl, jgw_in 338 rfl rfl, by decide, by decide +kernel, by decide +kernel, by decide +kernel⟩, jgw_in 336 rfl rfl, jgw_in 337 rfl rfl, RX10, TX10, 9, wcX10, rfl, by decide⟩
set_option maxRecDepth 100000 in
theorem wmX10_tiles : jmV MX10_tiles 2 7 := ⟨⟨jgw_in 19 rfl rfl, jgw_in 292 rfl rfl, by decide, by decide +kernel, by decide +kernel, by decide +kernel⟩, jgw_in 290 rfl rfl, jgw_in 291 rfl rfl, RX10, TX10, 9, wcX10, rfl, by decide⟩
set_option maxRecDepth 100000 in
theorem wmX10_waits : jmV MX10_waits 2 7 := ⟨⟨jgw_in 19 rfl rfl, jgw_in 540 rfl rfl, by decide, by decide +kernel, by decide +kernel, by decide +kernel⟩, jgw_in 538 rfl rfl, jgw_in 539 rfl rfl, RX10, TX10, 9, wcX10, rfl, by decide⟩
set_option maxRecDepth 100000 in
theorem wmX1_canLay : jmV MX1_canLay 2 0 := ⟨⟨jgw_in 27 rfl rfl, jgw_in 357 rfl rfl, by decide, by decide +kernel, by decide +kernel, by decide +kernel⟩, jgw_in 355 rfl rfl, jgw_in 356 rfl rfl, RX1, TX1, 5, wcX1, rfl, by decide⟩
set_option maxRecDepth 100000 in
theorem wmX1_gain : jmV MX1_gain 1 0 := ⟨⟨jgw_in 27 rfl rfl, jgw_in 288 rfl rfl, by decide, by decide +kernel, by decide +kernel, by decide +kernel⟩, jgw_in 286 rfl rfl, jgw_in 287 rfl rfl, RX1, TX1, 5, wcX1, rfl, by decide⟩
set_option maxRecDepth 100000 in
theorem wmX1_giveBack : jmV MX1_giveBack 1 0 := ⟨⟨jgw_in 27 rfl rfl, jgw_in 272 rfl rfl, by decide, by decide +kernel, by decide +kernel, by decide +kernel⟩, jgw_in 270 rfl rfl, jgw_in 271 rfl rfl, RX1, TX1, 5, wcX1, rfl, by decide⟩
set_option maxRecDepth 100000 in
theorem wmX1_isFull : jmV MX1_isFull 0 0 := ⟨⟨jgw_in 27 rfl rfl, jgw_in 333 rfl rfl, by decide, by decide +kernel, by decide +kernel, by decide +kernel⟩, jgw_in 331 rfl rfl, jgw_in 332 rfl rfl, RX1, TX1, 5, wcX1, rfl, by decide⟩
set_option maxRecDepth 100000 in
theorem wmX1_lay : jmV MX1_lay 2 0 := ⟨⟨jgw_in 27 rfl rfl, jgw_in 364 rfl rfl, by decide, by decide +kernel, by decide +kernel, by decide +kernel⟩, jgw_in 362 rfl rfl, jgw_in 363 rfl rfl, RX1, TX1, 5, wcX1, rfl, by decide⟩
set_option maxRecDepth 100000 in
theorem wmX1_lose : jmV MX1_lose 1 0 := ⟨⟨jgw_in 27 rfl rfl, jgw_in 346 rfl rfl, by decide, by decide +kernel, by decide +kernel, by decide +kernel⟩, jgw_in 344 rfl rfl, jgw_in 345 rfl rfl, RX1, TX1, 5, wcX1, rfl, by decide⟩
set_option maxRecDepth 100000 in
theorem wmX1_rests : jmV MX1_rests 0 0 := ⟨⟨jgw_in 27 rfl rfl, jgw_in 492 rfl rfl, by decide, by decide +kernel, by decide +kernel, by decide +kernel⟩, jgw_in 490 rfl rfl, jgw_in 491 rfl rfl, RX1, TX1, 5, wcX1, rfl, by decide⟩
set_option maxRecDepth 100000 in
theorem wmX1_size : jmV MX1_size 0 0 := ⟨⟨jgw_in 27 rfl rfl, jgw_in 306 rfl rfl, by decide, by decide +kernel, by decide +kernel, by decide +kernel⟩, jgw_in 304 rfl rfl, jgw_in 305 rfl rfl, RX1, TX1, 5, wcX1, rfl, by decide⟩
set_option maxRecDepth 100000 in
theorem wmX2_howDone : jmV MX2_howDone 1 1 := ⟨⟨jgw_in 23 rfl rfl, jgw_in 503 rfl rfl, by decide, by decide +kernel, by decide +kernel, by decide +kernel⟩, jgw_in 501 rfl rfl, jgw_in 502 rfl rfl, RX2, TX2, 6, wcX2, rfl, by decide⟩
set_option maxRecDepth 100000 in
theorem wmX2_isOuterOnes : jmV MX2_isOuterOnes 1 1 := ⟨⟨jgw_in 23 rfl rfl, jgw_in 531 rfl rfl, by decide, by decide +kernel, by decide +kernel, by decide +kernel⟩, jgw_in 530 rfl rfl, jgw_in 17 rfl rfl, RX2, TX2, 6, wcX2, rfl, by decide⟩
set_option maxRecDepth 100000 in
theorem wmX2_isSeven : jmV MX2_isSeven 1 1 := ⟨⟨jgw_in 23 rfl rfl, jgw_in 526 rfl rfl, by decide, by decide +kernel, by decide +kernel, by decide +kernel⟩, jgw_in 525 rfl rfl, jgw_in 16 rfl rfl, RX2, TX2, 6, wcX2, rfl, by decide⟩
set_option maxRecDepth 100000 in
theorem wmX3_addAllBut : jmV MX3_addAllBut 1 2 := ⟨⟨jgw_in 21 rfl rfl, jgw_in 421 rfl rfl, by decide, by decide +kernel, by decide +kernel, by decide +kernel⟩, jgw_in 420 rfl rfl, jgw_in 9 rfl rfl, RX3, TX3, 14, wcX3, rfl, by decide⟩
set_option maxRecDepth 100000 in
theorem wmX3_addRow : jmV MX3_addRow 1 2 := ⟨⟨jgw_in 21 rfl rfl, jgw_in 425 rfl rfl, by decide, by decide +kernel, by decide +kernel, by decide +kernel⟩, jgw_in 424 rfl rfl, jgw_in 10 rfl rfl, RX3, TX3, 14, wcX3, rfl, by decide⟩
set_option maxRecDepth 100000 in
theorem wmX3_change : jmV MX3_change 2 2 := ⟨⟨jgw_in 21 rfl rfl, jgw_in 468 rfl rfl, by decide, by decide +kernel, by decide +kernel, by decide +kernel⟩, jgw_in 466 rfl rfl, jgw_in 467 rfl rfl, RX3, TX3, 14, wcX3, rfl, by decide⟩
set_option maxRecDepth 100000 in
theorem wmX3_goThrough : jmV MX3_goThrough 1 2 := ⟨⟨jgw_in 21 rfl rfl, jgw_in 404 rfl rfl, by decide, by decide +kernel, by decide +kernel, by decide +kernel⟩, jgw_in 403 rfl rfl, jgw_in 6 rfl rfl, RX3, TX3, 14, wcX3, rfl, by decide⟩
set_option maxRecDepth 100000 in
theorem wmX3_helper : jmV MX3_helper 1 2 := ⟨⟨jgw_in 21 rfl rfl, jgw_in 544 rfl rfl, by decide, by decide +kernel, by decide +kernel, by decide +kernel⟩, jgw_in 542 rfl rfl, jgw_in 543 rfl rfl, RX3, TX3, 14, wcX3, rfl, by decide⟩
set_option maxRecDepth 100000 in
theorem wmX3_helpingOf : jmV MX3_helpingOf 1 2 := ⟨⟨jgw_in 21 rfl rfl, jgw_in 476 rfl rfl, by decide, by decide +kernel, by decide +kernel, by decide +kernel⟩, jgw_in 474 rfl rfl, jgw_in 475 rfl rfl, RX3, TX3, 14, wcX3, rfl, by decide⟩
set_option maxRecDepth 100000 in
theorem wmX3_isHelper : jmV MX3_isHelper 1 2 := ⟨⟨jgw_in 21 rfl rfl, jgw_in 480 rfl rfl, by decide, by decide +kernel, by decide +kernel, by decide +kernel⟩, jgw_in 479 rfl rfl, jgw_in 13 rfl rfl, RX3, TX3, 14, wcX3, rfl, by decide⟩
set_option maxRecDepth 100000 in
theorem wmX3_keyOf : jmV MX3_keyOf 1 2 := ⟨⟨jgw_in 21 rfl rfl, jgw_in 395 rfl rfl, by decide, by decide +kernel, by decide +kernel, by decide +kernel⟩, jgw_in 394 rfl rfl, jgw_in 5 rfl rfl, RX3, TX3, 14, wcX3, rfl, by decide⟩
set_option maxRecDepth 100000 in
theorem wmX3_leastWith : jmV MX3_leastWith 2 2 := ⟨⟨jgw_in 21 rfl rfl, jgw_in 429 rfl rfl, by decide, by decide +kernel, by decide +kernel, by decide +kernel⟩, jgw_in 428 rfl rfl, jgw_in 11 rfl rfl, RX3, TX3, 14, wcX3, rfl, by decide⟩
set_option maxRecDepth 100000 in
theorem wmX3_less : jmV MX3_less 2 2 := ⟨⟨jgw_in 21 rfl rfl, jgw_in 417 rfl rfl, by decide, by decide +kernel, by decide +kernel, by decide +kernel⟩, jgw_in 416 rfl rfl, jgw_in 8 rfl rfl, RX3, TX3, 14, wcX3, rfl, by decide⟩
set_option maxRecDepth 100000 in
theorem wmX3_look : jmV MX3_look 2 2 := ⟨⟨jgw_in 21 rfl rfl, jgw_in 384 rfl rfl, by decide, by decide +kernel, by decide +kernel, by decide +kernel⟩, jgw_in 383 rfl rfl, jgw_in 3 rfl rfl, RX3, TX3, 14, wcX3, rfl, by decide⟩
set_option maxRecDepth 100000 in
theorem wmX3_offer : jmV MX3_offer 2 2 := ⟨⟨jgw_in 21 rfl rfl, jgw_in 442 rfl rfl, by decide, by decide +kernel, by decide +kernel, by decide +kernel⟩, jgw_in 441 rfl rfl, jgw_in 12 rfl rfl, RX3, TX3, 14, wcX3, rfl, by decide⟩
set_option maxRecDepth 100000 in
theorem wmX3_reckon : jmV MX3_reckon 2 2 := ⟨⟨jgw_in 21 rfl rfl, jgw_in 380 rfl rfl, by decide, by decide +kernel, by decide +kernel, by decide +kernel⟩, jgw_in 378 rfl rfl, jgw_in 379 rfl rfl, RX3, TX3, 14, wcX3, rfl, by decide⟩
set_option maxRecDepth 100000 in
theorem wmX3_spread : jmV MX3_spread 4 2 := ⟨⟨jgw_in 21 rfl rfl, jgw_in 409 rfl rfl, by decide, by decide +kernel, by decide +kernel, by decide +kernel⟩, jgw_in 408 rfl rfl, jgw_in 7 rfl rfl, RX3, TX3, 14, wcX3, rfl, by decide⟩
set_option maxRecDepth 100000 in
theorem wmX3_tilesOf : jmS MX3_tilesOf 1 := ⟨⟨jgw_in 21 rfl rfl, jgw_in 438 rfl rfl, by decide, by decide +kernel, by decide +kernel, by decide +kernel⟩, jgw_in 437 rfl rfl⟩
set_option maxRecDepth 100000 in
theorem wmX3_total : jmV MX3_total 0 2 := ⟨⟨jgw_in 21 rfl rfl, jgw_in 435 rfl rfl, by decide, by decide +kernel, by decide +kernel, by decide +kernel⟩, jgw_in 433 rfl rfl, jgw_in 434 rfl rfl, RX3, TX3, 14, wcX3, rfl, by decide⟩
set_option maxRecDepth 100000 in
theorem wmX3_workOut : jmV MX3_workOut 1 2 := ⟨⟨jgw_in 21 rfl rfl, jgw_in 391 rfl rfl, by decide, by decide +kernel, by decide +kernel, by decide +kernel⟩, jgw_in 390 rfl rfl, jgw_in 4 rfl rfl, RX3, TX3, 14, wcX3, rfl, by decide⟩
set_option maxRecDepth 100000 in
theorem wmX4_hasOuterPair : jmS MX4_hasOuterPair 1 := ⟨⟨jgw_in 20 rfl rfl, jgw_in 460 rfl rfl, by decide, by decide +kernel, by decide +kernel, by decide +kernel⟩, jgw_in 459 rfl rfl⟩
set_option maxRecDepth 100000 in
theorem wmX4_helpersOfOuter : jmS MX4_helpersOfOuter 1 := ⟨⟨jgw_in 20 rfl rfl, jgw_in 463 rfl rfl, by decide, by decide +kernel, by decide +kernel, by decide +kernel⟩, jgw_in 462 rfl rfl⟩
set_option maxRecDepth 100000 in
theorem wmX4_helpersOfSeven : jmS MX4_helpersOfSeven 1 := ⟨⟨jgw_in 20 rfl rfl, jgw_in 451 rfl rfl, by decide, by decide +kernel, by decide +kernel, by decide +kernel⟩, jgw_in 450 rfl rfl⟩
set_option maxRecDepth 100000 in
theorem wmX4_lackOfOuter : jmS MX4_lackOfOuter 1 := ⟨⟨jgw_in 20 rfl rfl, jgw_in 454 rfl rfl, by decide, by decide +kernel, by decide +kernel, by decide +kernel⟩, jgw_in 453 rfl rfl⟩
set_option maxRecDepth 100000 in
theorem wmX4_lackOfSeven : jmS MX4_lackOfSeven 1 := ⟨⟨jgw_in 20 rfl rfl, jgw_in 445 rfl rfl, by decide, by decide +kernel, by decide +kernel, by decide +kernel⟩, jgw_in 444 rfl rfl⟩
set_option maxRecDepth 100000 in
theorem wmX7_lastRowKey : jmS MX7_lastRowKey 1 := ⟨⟨jgw_in 32 rfl rfl, jgw_in 559 rfl rfl, by decide, by decide +kernel, by decide +kernel, by decide +kernel⟩, jgw_in 558 rfl rfl⟩
set_option maxRecDepth 100000 in
theorem wmX7_rowKey : jmS MX7_rowKey 2 := ⟨⟨jgw_in 32 rfl rfl, jgw_in 554 rfl rfl, by decide, by decide +kernel, by decide +kernel, by decide +kernel⟩, jgw_in 553 rfl rfl⟩
set_option maxRecDepth 100000 in
theorem wmX7_same : jmS MX7_same 2 := ⟨⟨jgw_in 32 rfl rfl, jgw_in 551 rfl rfl, by decide, by decide +kernel, by decide +kernel, by decide +kernel⟩, jgw_in 550 rfl rfl⟩
set_option maxRecDepth 100000 in
theorem wmX8_isOuter : jmS MX8_isOuter 1 := ⟨⟨jgw_in 28 rfl rfl, jgw_in 457 rfl rfl, by decide, by decide +kernel, by decide +kernel, by decide +kernel⟩, jgw_in 456 rfl rfl⟩
set_option maxRecDepth 100000 in
theorem wmX8_isSort : jmS MX8_isSort 1 := ⟨⟨jgw_in 28 rfl rfl, jgw_in 295 rfl rfl, by decide, by decide +kernel, by decide +kernel, by decide +kernel⟩, jgw_in 294 rfl rfl⟩
set_option maxRecDepth 100000 in
theorem wmX8_lengthOf : jmS MX8_lengthOf 1 := ⟨⟨jgw_in 28 rfl rfl, jgw_in 398 rfl rfl, by decide, by decide +kernel, by decide +kernel, by decide +kernel⟩, jgw_in 397 rfl rfl⟩
set_option maxRecDepth 100000 in
theorem wmX8_rowOf : jmS MX8_rowOf 1 := ⟨⟨jgw_in 28 rfl rfl, jgw_in 471 rfl rfl, by decide, by decide +kernel, by decide +kernel, by decide +kernel⟩, jgw_in 470 rfl rfl⟩
set_option maxRecDepth 100000 in
theorem wmX8_startsRun : jmS MX8_startsRun 1 := ⟨⟨jgw_in 28 rfl rfl, jgw_in 353 rfl rfl, by decide, by decide +kernel, by decide +kernel, by decide +kernel⟩, jgw_in 352 rfl rfl⟩
set_option maxRecDepth 100000 in
theorem wmX8_sum : jmS MX8_sum 1 := ⟨⟨jgw_in 28 rfl rfl, jgw_in 275 rfl rfl, by decide, by decide +kernel, by decide +kernel, by decide +kernel⟩, jgw_in 274 rfl rfl⟩
set_option maxRecDepth 100000 in
theorem wmX9_find : jmV MX9_find 1 6 := ⟨⟨jgw_in 24 rfl rfl, jgw_in 508 rfl rfl, by decide, by decide +kernel, by decide +kernel, by decide +kernel⟩, jgw_in 506 rfl rfl, jgw_in 507 rfl rfl, RX9, TX9, 5, wcX9, rfl, by decide⟩
set_option maxRecDepth 100000 in
theorem wmX9_keepPath : jmV MX9_keepPath 0 6 := ⟨⟨jgw_in 24 rfl rfl, jgw_in 517 rfl rfl, by decide, by decide +kernel, by decide +kernel, by decide +kernel⟩, jgw_in 516 rfl rfl, jgw_in 14 rfl rfl, RX9, TX9, 5, wcX9, rfl, by decide⟩
set_option maxRecDepth 100000 in
theorem wmX9_seek : jmS MX9_seek 4 := ⟨⟨jgw_in 24 rfl rfl, jgw_in 513 rfl rfl, by decide, by decide +kernel, by decide +kernel, by decide +kernel⟩, jgw_in 512 rfl rfl⟩
set_option maxRecDepth 100000 in
theorem wmX9_shiftRun : jmV MX9_shiftRun 2 6 := ⟨⟨jgw_in 24 rfl rfl, jgw_in 522 rfl rfl, by decide, by decide +kernel, by decide +kernel, by decide +kernel⟩, jgw_in 521 rfl rfl, jgw_in 15 rfl rfl, RX9, TX9, 5, wcX9, rfl, by decide⟩
set_option maxRecDepth 100000 in
theorem wq_max : Cond.static Lib.Math.max.name ∈ jgw ∧ Cond.initialized "java/lang/Math" ∈ jgw ∧ Cond.code Lib.Math.max.name Lib.Math.max.code 2 (some .int) ∈ jgw := ⟨jgw_in 412 rfl rfl, jgw_in 30 rfl rfl, jgw_in 413 (by decide +kernel) (by decide +kernel)⟩
set_option maxRecDepth 100000 in
theorem wq_min : Cond.static Lib.Math.min.name ∈ jgw ∧ Cond.initialized "java/lang/Math" ∈ jgw ∧ Cond.code Lib.Math.min.name Lib.Math.min.code 2 (some .int) ∈ jgw := ⟨jgw_in 447 rfl rfl, jgw_in 30 rfl rfl, jgw_in 448 (by decide +kernel) (by decide +kernel)⟩
set_option maxRecDepth 100000 in
theorem wq_copy : Cond.native arraycopyName ∈ jgw ∧ Cond.static arraycopyName ∈ jgw ∧ Cond.initialized "java/lang/System" ∈ jgw := ⟨jgw_in 387 rfl rfl, jgw_in 386 rfl rfl, jgw_in 29 rfl rfl⟩
end
