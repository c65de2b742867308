/-! ===== words of the tables, by their places ===== -/
section
theorem jws_in (ws : List Cond) (ps : List Nat) (h : ps.map (fun i => lw_tbl[i]?) = ws.map some) (hg : ws.all goodWord = true) : ∀ w ∈ ws, w ∈ jgw := by
  intro w hw
  have h1 := List.all_eq_true.mp hg w hw
  have h2 : some w ∈ ws.map some := List.mem_map.mpr ⟨w, hw, rfl⟩
  rw [← h] at h2
  obtain ⟨i, -, hi⟩ := List.mem_map.mp h2
  exact jgw_in i hi h1
set_option maxRecDepth 100000 in
theorem wcX1 : jcw 0 RX1 TX1 5 := ⟨rfl, jws_in _ [286, 288, 290, 292, 294] (by decide +kernel) (by decide +kernel), by decide +kernel⟩
set_option maxRecDepth 100000 in
theorem wcX2 : jcw 1 RX2 TX2 6 := ⟨rfl, jws_in _ [232, 234, 236, 238, 240, 242] (by decide +kernel) (by decide +kernel), by decide +kernel⟩
set_option maxRecDepth 100000 in
theorem wcX3 : jcw 2 RX3 TX3 14 := ⟨rfl, jws_in _ [141, 143, 145, 147, 149, 151, 153, 155, 157, 159, 161, 163, 165, 167] (by decide +kernel) (by decide +kernel), by decide +kernel⟩
set_option maxRecDepth 100000 in
theorem wcX4 : jcw 3 RX4 TX4 2 := ⟨rfl, jws_in _ [109, 111] (by decide +kernel) (by decide +kernel), by decide +kernel⟩
set_option maxRecDepth 100000 in
theorem wcX5 : jcw 4 RX5 TX5 3 := ⟨rfl, jws_in _ [256, 258, 260] (by decide +kernel) (by decide +kernel), by decide +kernel⟩
set_option maxRecDepth 100000 in
theorem wcX6 : jcw 5 RX6 TX6 4 := ⟨rfl, jws_in _ [212, 214, 216, 218] (by decide +kernel) (by decide +kernel), by decide +kernel⟩
set_option maxRecDepth 100000 in
theorem wcX9 : jcw 6 RX9 TX9 5 := ⟨rfl, jws_in _ [190, 192, 194, 196, 198] (by decide +kernel) (by decide +kernel), by decide +kernel⟩
set_option maxRecDepth 100000 in
theorem wcX10 : jcw 7 RX10 TX10 9 := ⟨rfl, jws_in _ [309, 311, 313, 315, 317, 319, 321, 323, 325] (by decide +kernel) (by decide +kernel), by decide +kernel⟩
set_option maxRecDepth 100000 in
theorem wcX11 : jcw 8 RX11 TX11 32 := ⟨rfl, jws_in _ [836, 838, 840, 842, 844, 846, 848, 850, 852, 854, 856, 858, 860, 862, 864, 866, 868, 870, 872, 874, 876, 878, 880, 882, 884, 886, 888, 890, 892, 894, 896, 898] (by decide +kernel) (by decide +kernel), by decide +kernel⟩
theorem jcl_0 : jcl 0 = 7 := by decide +kernel
theorem jcl_6 : jcl 6 = 3 := by decide +kernel
theorem jcl_7 : jcl 7 = 2 := by decide +kernel
theorem jcl_16 : jcl 16 = 1 := by decide +kernel
theorem jcl_17 : jcl 17 = 6 := by decide +kernel
theorem jcl_21 : jcl 21 = 5 := by decide +kernel
theorem jcl_53 : jcl 53 = 8 := by decide +kernel
theorem jrf_0_0 : jrf 0 (0 : Nat) = 1 := by decide +kernel
theorem jrf_0_1 : jrf 0 (1 : Nat) = 2 := by decide +kernel
theorem jrf_0_2 : jrf 0 (2 : Nat) = 3 := by decide +kernel
theorem jrf_0_3 : jrf 0 (3 : Nat) = 4 := by decide +kernel
theorem jrf_0_4 : jrf 0 (4 : Nat) = 5 := by decide +kernel
theorem jrf_0_5 : jrf 0 (5 : Nat) = 6 := by decide +kernel
theorem jrf_0_6 : jrf 0 (6 : Nat) = 7 := by decide +kernel
theorem jrf_0_7 : jrf 0 (7 : Nat) = 16 := by decide +kernel
theorem jrf_7_0 : jrf 7 (0 : Nat) = 6 := by decide +kernel
theorem jrf_7_1 : jrf 7 (1 : Nat) = 8 := by decide +kernel
theorem jrf_7_2 : jrf 7 (2 : Nat) = 9 := by decide +kernel
theorem jrf_7_3 : jrf 7 (3 : Nat) = 10 := by decide +kernel
theorem jrf_7_4 : jrf 7 (4 : Nat) = 11 := by decide +kernel
theorem jrf_7_5 : jrf 7 (5 : Nat) = 12 := by decide +kernel
theorem jrf_7_6 : jrf 7 (6 : Nat) = 13 := by decide +kernel
theorem jrf_7_7 : jrf 7 (7 : Nat) = 14 := by decide +kernel
theorem jrf_7_8 : jrf 7 (8 : Nat) = 15 := by decide +kernel
theorem jrf_16_0 : jrf 16 (0 : Nat) = 17 := by decide +kernel
theorem jrf_16_1 : jrf 16 (1 : Nat) = 21 := by decide +kernel
theorem jrf_16_2 : jrf 16 (2 : Nat) = 6 := by decide +kernel
theorem jrf_17_0 : jrf 17 (0 : Nat) = 18 := by decide +kernel
theorem jrf_17_1 : jrf 17 (1 : Nat) = 19 := by decide +kernel
theorem jrf_17_2 : jrf 17 (2 : Nat) = 20 := by decide +kernel
theorem jrf_21_0 : jrf 21 (0 : Nat) = 22 := by decide +kernel
theorem jrf_21_1 : jrf 21 (1 : Nat) = 23 := by decide +kernel
theorem jrf_21_2 : jrf 21 (2 : Nat) = 24 := by decide +kernel
theorem jrf_53_0 : jrf 53 (0 : Nat) = 54 := by decide +kernel
theorem jrf_53_1 : jrf 53 (1 : Nat) = 55 := by decide +kernel
theorem jrf_53_2 : jrf 53 (2 : Nat) = 56 := by decide +kernel
theorem jrf_53_3 : jrf 53 (3 : Nat) = 57 := by decide +kernel
theorem jrf_53_4 : jrf 53 (4 : Nat) = 58 := by decide +kernel
theorem jrf_53_5 : jrf 53 (5 : Nat) = 59 := by decide +kernel
theorem jrf_53_7 : jrf 53 (7 : Nat) = 60 := by decide +kernel
theorem jrf_53_8 : jrf 53 (8 : Nat) = 61 := by decide +kernel
theorem jrf_53_9 : jrf 53 (9 : Nat) = 62 := by decide +kernel
theorem jrf_53_13 : jrf 53 (13 : Nat) = 63 := by decide +kernel
theorem jrf_53_14 : jrf 53 (14 : Nat) = 64 := by decide +kernel
theorem jrf_53_15 : jrf 53 (15 : Nat) = 65 := by decide +kernel
theorem jrf_53_16 : jrf 53 (16 : Nat) = 66 := by decide +kernel
theorem jrf_53_17 : jrf 53 (17 : Nat) = 67 := by decide +kernel
theorem jrf_53_18 : jrf 53 (18 : Nat) = 68 := by decide +kernel
theorem jrf_53_19 : jrf 53 (19 : Nat) = 69 := by decide +kernel
theorem jrf_53_21 : jrf 53 (21 : Nat) = 70 := by decide +kernel
theorem jrf_53_22 : jrf 53 (22 : Nat) = 71 := by decide +kernel
theorem jrf_53_23 : jrf 53 (23 : Nat) = 72 := by decide +kernel
theorem jrf_53_24 : jrf 53 (24 : Nat) = 73 := by decide +kernel
theorem jrf_53_25 : jrf 53 (25 : Nat) = 74 := by decide +kernel
theorem jrf_53_26 : jrf 53 (26 : Nat) = 75 := by decide +kernel
theorem jrf_53_28 : jrf 53 (28 : Nat) = 76 := by decide +kernel
set_option maxRecDepth 100000 in
theorem wfX10_11 : jgf RX10 11 7 0 3 := ⟨RX10, TX10, 9, wcX10, by decide, by decide, rfl, jgw_in 300 rfl rfl⟩
set_option maxRecDepth 100000 in
theorem wfX10_17 : jgf RX10 17 7 1 3 := ⟨RX10, TX10, 9, wcX10, by decide, by decide, rfl, jgw_in 301 rfl rfl⟩
set_option maxRecDepth 100000 in
theorem wfX10_23 : jgf RX10 23 7 2 3 := ⟨RX10, TX10, 9, wcX10, by decide, by decide, rfl, jgw_in 302 rfl rfl⟩
set_option maxRecDepth 100000 in
theorem wfX10_27 : jgf RX10 27 7 3 3 := ⟨RX10, TX10, 9, wcX10, by decide, by decide, rfl, jgw_in 303 rfl rfl⟩
set_option maxRecDepth 100000 in
theorem wfX10_30 : jgf RX10 30 7 4 3 := ⟨RX10, TX10, 9, wcX10, by decide, by decide, rfl, jgw_in 304 rfl rfl⟩
set_option maxRecDepth 100000 in
theorem wfX10_36 : jgf RX10 36 7 5 3 := ⟨RX10, TX10, 9, wcX10, by decide, by decide, rfl, jgw_in 305 rfl rfl⟩
set_option maxRecDepth 100000 in
theorem wfX10_45 : jgf RX10 45 7 6 3 := ⟨RX10, TX10, 9, wcX10, by decide, by decide, rfl, jgw_in 306 rfl rfl⟩
set_option maxRecDepth 100000 in
theorem wfX10_52 : jgf RX10 52 7 7 3 := ⟨RX10, TX10, 9, wcX10, by decide, by decide, rfl, jgw_in 307 rfl rfl⟩
set_option maxRecDepth 100000 in
theorem wfX10_56 : jgf RX10 56 7 8 1 := ⟨RX10, TX10, 9, wcX10, by decide, by decide, rfl, jgw_in 308 rfl rfl⟩
set_option maxRecDepth 100000 in
theorem wfX10_87 : jgf RX10 87 4 1 1 := ⟨RX5, TX5, 3, wcX5, by decide, by decide, rfl, jgw_in 253 rfl rfl⟩
set_option maxRecDepth 100000 in
theorem wfX10_94 : jgf RX10 94 4 0 3 := ⟨RX5, TX5, 3, wcX5, by decide, by decide, rfl, jgw_in 251 rfl rfl⟩
set_option maxRecDepth 100000 in
theorem wfX10_132 : jgf RX10 132 0 0 3 := ⟨RX1, TX1, 5, wcX1, by decide, by decide, rfl, jgw_in 272 rfl rfl⟩
set_option maxRecDepth 100000 in
theorem wfX10_149 : jgf RX10 149 0 4 1 := ⟨RX1, TX1, 5, wcX1, by decide, by decide, rfl, jgw_in 285 rfl rfl⟩
set_option maxRecDepth 100000 in
theorem wfX10_152 : jgf RX10 152 0 1 3 := ⟨RX1, TX1, 5, wcX1, by decide, by decide, rfl, jgw_in 275 rfl rfl⟩
set_option maxRecDepth 100000 in
theorem wfX10_155 : jgf RX10 155 0 3 1 := ⟨RX1, TX1, 5, wcX1, by decide, by decide, rfl, jgw_in 280 rfl rfl⟩
set_option maxRecDepth 100000 in
theorem wfX10_158 : jgf RX10 158 0 2 3 := ⟨RX1, TX1, 5, wcX1, by decide, by decide, rfl, jgw_in 278 rfl rfl⟩
set_option maxRecDepth 100000 in
theorem wfX10_161 : jgf RX10 161 3 0 5 := ⟨RX4, TX4, 2, wcX4, by decide, by decide, rfl, jgw_in 104 rfl rfl⟩
set_option maxRecDepth 100000 in
theorem wfX10_165 : jgf RX10 165 3 1 5 := ⟨RX4, TX4, 2, wcX4, by decide, by decide, rfl, jgw_in 108 rfl rfl⟩
set_option maxRecDepth 100000 in
theorem wfX10_171 : jgf RX10 171 1 0 3 := ⟨RX2, TX2, 6, wcX2, by decide, by decide, rfl, jgw_in 222 rfl rfl⟩
set_option maxRecDepth 100000 in
theorem wfX10_181 : jgf RX10 181 6 4 1 := ⟨RX9, TX9, 5, wcX9, by decide, by decide, rfl, jgw_in 189 rfl rfl⟩
set_option maxRecDepth 100000 in
theorem wfX10_193 : jgf RX10 193 2 12 1 := ⟨RX3, TX3, 14, wcX3, by decide, by decide, rfl, jgw_in 139 rfl rfl⟩
set_option maxRecDepth 100000 in
theorem wfX10_244 : jgf RX10 244 1 1 3 := ⟨RX2, TX2, 6, wcX2, by decide, by decide, rfl, jgw_in 224 rfl rfl⟩
set_option maxRecDepth 100000 in
theorem wfX10_248 : jgf RX10 248 5 3 1 := ⟨RX6, TX6, 4, wcX6, by decide, by decide, rfl, jgw_in 211 rfl rfl⟩
set_option maxRecDepth 100000 in
theorem wfX10_257 : jgf RX10 257 1 3 1 := ⟨RX2, TX2, 6, wcX2, by decide, by decide, rfl, jgw_in 227 rfl rfl⟩
set_option maxRecDepth 100000 in
theorem wfX10_260 : jgf RX10 260 1 4 1 := ⟨RX2, TX2, 6, wcX2, by decide, by decide, rfl, jgw_in 229 rfl rfl⟩
set_option maxRecDepth 100000 in
theorem wfX10_263 : jgf RX10 263 1 5 1 := ⟨RX2, TX2, 6, wcX2, by decide, by decide, rfl, jgw_in 231 rfl rfl⟩
set_option maxRecDepth 100000 in
theorem wfX10_271 : jgf RX10 271 4 2 1 := ⟨RX5, TX5, 3, wcX5, by decide, by decide, rfl, jgw_in 255 rfl rfl⟩
set_option maxRecDepth 100000 in
theorem wfX10_287 : jgf RX10 287 2 1 3 := ⟨RX3, TX3, 14, wcX3, by decide, by decide, rfl, jgw_in 127 rfl rfl⟩
set_option maxRecDepth 100000 in
theorem wfX1_9 : jgf RX1 9 0 0 3 := ⟨RX1, TX1, 5, wcX1, by decide, by decide, rfl, jgw_in 268 rfl rfl⟩
set_option maxRecDepth 100000 in
theorem wfX1_15 : jgf RX1 15 0 1 3 := ⟨RX1, TX1, 5, wcX1, by decide, by decide, rfl, jgw_in 273 rfl rfl⟩
set_option maxRecDepth 100000 in
theorem wfX1_18 : jgf RX1 18 0 2 3 := ⟨RX1, TX1, 5, wcX1, by decide, by decide, rfl, jgw_in 276 rfl rfl⟩
set_option maxRecDepth 100000 in
theorem wfX1_21 : jgf RX1 21 0 3 1 := ⟨RX1, TX1, 5, wcX1, by decide, by decide, rfl, jgw_in 279 rfl rfl⟩
set_option maxRecDepth 100000 in
theorem wfX1_25 : jgf RX1 25 0 4 1 := ⟨RX1, TX1, 5, wcX1, by decide, by decide, rfl, jgw_in 281 rfl rfl⟩
set_option maxRecDepth 100000 in
theorem wfX2_12 : jgf RX2 12 1 0 3 := ⟨RX2, TX2, 6, wcX2, by decide, by decide, rfl, jgw_in 221 rfl rfl⟩
set_option maxRecDepth 100000 in
theorem wfX2_21 : jgf RX2 21 1 1 3 := ⟨RX2, TX2, 6, wcX2, by decide, by decide, rfl, jgw_in 223 rfl rfl⟩
set_option maxRecDepth 100000 in
theorem wfX2_25 : jgf RX2 25 1 3 1 := ⟨RX2, TX2, 6, wcX2, by decide, by decide, rfl, jgw_in 226 rfl rfl⟩
set_option maxRecDepth 100000 in
theorem wfX2_35 : jgf RX2 35 1 2 3 := ⟨RX2, TX2, 6, wcX2, by decide, by decide, rfl, jgw_in 225 rfl rfl⟩
set_option maxRecDepth 100000 in
theorem wfX2_49 : jgf RX2 49 6 4 1 := ⟨RX9, TX9, 5, wcX9, by decide, by decide, rfl, jgw_in 188 rfl rfl⟩
set_option maxRecDepth 100000 in
theorem wfX2_71 : jgf RX2 71 0 0 3 := ⟨RX1, TX1, 5, wcX1, by decide, by decide, rfl, jgw_in 270 rfl rfl⟩
set_option maxRecDepth 100000 in
theorem wfX2_86 : jgf RX2 86 3 0 5 := ⟨RX4, TX4, 2, wcX4, by decide, by decide, rfl, jgw_in 102 rfl rfl⟩
set_option maxRecDepth 100000 in
theorem wfX2_92 : jgf RX2 92 0 4 1 := ⟨RX1, TX1, 5, wcX1, by decide, by decide, rfl, jgw_in 283 rfl rfl⟩
set_option maxRecDepth 100000 in
theorem wfX2_98 : jgf RX2 98 3 1 5 := ⟨RX4, TX4, 2, wcX4, by decide, by decide, rfl, jgw_in 106 rfl rfl⟩
set_option maxRecDepth 100000 in
theorem wfX3_13 : jgf RX3 13 2 1 3 := ⟨RX3, TX3, 14, wcX3, by decide, by decide, rfl, jgw_in 126 rfl rfl⟩
set_option maxRecDepth 100000 in
theorem wfX3_17 : jgf RX3 17 2 2 3 := ⟨RX3, TX3, 14, wcX3, by decide, by decide, rfl, jgw_in 128 rfl rfl⟩
set_option maxRecDepth 100000 in
theorem wfX3_20 : jgf RX3 20 2 3 3 := ⟨RX3, TX3, 14, wcX3, by decide, by decide, rfl, jgw_in 129 rfl rfl⟩
set_option maxRecDepth 100000 in
theorem wfX3_24 : jgf RX3 24 2 4 3 := ⟨RX3, TX3, 14, wcX3, by decide, by decide, rfl, jgw_in 130 rfl rfl⟩
set_option maxRecDepth 100000 in
theorem wfX3_27 : jgf RX3 27 2 5 3 := ⟨RX3, TX3, 14, wcX3, by decide, by decide, rfl, jgw_in 131 rfl rfl⟩
set_option maxRecDepth 100000 in
theorem wfX3_30 : jgf RX3 30 2 6 3 := ⟨RX3, TX3, 14, wcX3, by decide, by decide, rfl, jgw_in 132 rfl rfl⟩
set_option maxRecDepth 100000 in
theorem wfX3_33 : jgf RX3 33 2 7 3 := ⟨RX3, TX3, 14, wcX3, by decide, by decide, rfl, jgw_in 133 rfl rfl⟩
set_option maxRecDepth 100000 in
theorem wfX3_36 : jgf RX3 36 2 8 3 := ⟨RX3, TX3, 14, wcX3, by decide, by decide, rfl, jgw_in 134 rfl rfl⟩
set_option maxRecDepth 100000 in
theorem wfX3_39 : jgf RX3 39 2 9 1 := ⟨RX3, TX3, 14, wcX3, by decide, by decide, rfl, jgw_in 135 rfl rfl⟩
set_option maxRecDepth 100000 in
theorem wfX3_43 : jgf RX3 43 2 10 1 := ⟨RX3, TX3, 14, wcX3, by decide, by decide, rfl, jgw_in 136 rfl rfl⟩
set_option maxRecDepth 100000 in
theorem wfX3_46 : jgf RX3 46 2 11 1 := ⟨RX3, TX3, 14, wcX3, by decide, by decide, rfl, jgw_in 137 rfl rfl⟩
set_option maxRecDepth 100000 in
theorem wfX3_49 : jgf RX3 49 2 12 1 := ⟨RX3, TX3, 14, wcX3, by decide, by decide, rfl, jgw_in 138 rfl rfl⟩
set_option maxRecDepth 100000 in
theorem wfX3_52 : jgf RX3 52 2 13 2 := ⟨RX3, TX3, 14, wcX3, by decide, by decide, rfl, jgw_in 140 rfl rfl⟩
set_option maxRecDepth 100000 in
theorem wfX3_56 : jgf RX3 56 2 0 3 := ⟨RX3, TX3, 14, wcX3, by decide, by decide, rfl, jgw_in 125 rfl rfl⟩
set_option maxRecDepth 100000 in
theorem wfX3_92 : jgf RX3 92 0 0 3 := ⟨RX1, TX1, 5, wcX1, by decide, by decide, rfl, jgw_in 271 rfl rfl⟩
set_option maxRecDepth 100000 in
theorem wfX3_101 : jgf RX3 101 0 1 3 := ⟨RX1, TX1, 5, wcX1, by decide, by decide, rfl, jgw_in 274 rfl rfl⟩
set_option maxRecDepth 100000 in
theorem wfX3_102 : jgf RX3 102 0 4 1 := ⟨RX1, TX1, 5, wcX1, by decide, by decide, rfl, jgw_in 284 rfl rfl⟩
set_option maxRecDepth 100000 in
theorem wfX3_115 : jgf RX3 115 3 0 5 := ⟨RX4, TX4, 2, wcX4, by decide, by decide, rfl, jgw_in 103 rfl rfl⟩
set_option maxRecDepth 100000 in
theorem wfX3_129 : jgf RX3 129 3 1 5 := ⟨RX4, TX4, 2, wcX4, by decide, by decide, rfl, jgw_in 107 rfl rfl⟩
set_option maxRecDepth 100000 in
theorem wfX5_9 : jgf RX5 9 4 0 3 := ⟨RX5, TX5, 3, wcX5, by decide, by decide, rfl, jgw_in 250 rfl rfl⟩
set_option maxRecDepth 100000 in
theorem wfX5_13 : jgf RX5 13 4 1 1 := ⟨RX5, TX5, 3, wcX5, by decide, by decide, rfl, jgw_in 252 rfl rfl⟩
set_option maxRecDepth 100000 in
theorem wfX5_17 : jgf RX5 17 4 2 1 := ⟨RX5, TX5, 3, wcX5, by decide, by decide, rfl, jgw_in 254 rfl rfl⟩
set_option maxRecDepth 100000 in
theorem wfX6_9 : jgf RX6 9 5 0 3 := ⟨RX6, TX6, 4, wcX6, by decide, by decide, rfl, jgw_in 207 rfl rfl⟩
set_option maxRecDepth 100000 in
theorem wfX6_13 : jgf RX6 13 5 1 3 := ⟨RX6, TX6, 4, wcX6, by decide, by decide, rfl, jgw_in 208 rfl rfl⟩
set_option maxRecDepth 100000 in
theorem wfX6_16 : jgf RX6 16 5 2 3 := ⟨RX6, TX6, 4, wcX6, by decide, by decide, rfl, jgw_in 209 rfl rfl⟩
set_option maxRecDepth 100000 in
theorem wfX6_19 : jgf RX6 19 5 3 1 := ⟨RX6, TX6, 4, wcX6, by decide, by decide, rfl, jgw_in 210 rfl rfl⟩
set_option maxRecDepth 100000 in
theorem wfX9_9 : jgf RX9 9 6 0 3 := ⟨RX9, TX9, 5, wcX9, by decide, by decide, rfl, jgw_in 183 rfl rfl⟩
set_option maxRecDepth 100000 in
theorem wfX9_15 : jgf RX9 15 6 1 3 := ⟨RX9, TX9, 5, wcX9, by decide, by decide, rfl, jgw_in 184 rfl rfl⟩
set_option maxRecDepth 100000 in
theorem wfX9_18 : jgf RX9 18 6 2 3 := ⟨RX9, TX9, 5, wcX9, by decide, by decide, rfl, jgw_in 185 rfl rfl⟩
set_option maxRecDepth 100000 in
theorem wfX9_21 : jgf RX9 21 6 3 1 := ⟨RX9, TX9, 5, wcX9, by decide, by decide, rfl, jgw_in 186 rfl rfl⟩
set_option maxRecDepth 100000 in
theorem wfX9_25 : jgf RX9 25 6 4 1 := ⟨RX9, TX9, 5, wcX9, by decide, by decide, rfl, jgw_in 187 rfl rfl⟩
set_option maxRecDepth 100000 in
theorem wfX9_30 : jgf RX9 30 0 4 1 := ⟨RX1, TX1, 5, wcX1, by decide, by decide, rfl, jgw_in 282 rfl rfl⟩
set_option maxRecDepth 100000 in
theorem wfX9_33 : jgf RX9 33 0 0 3 := ⟨RX1, TX1, 5, wcX1, by decide, by decide, rfl, jgw_in 269 rfl rfl⟩
set_option maxRecDepth 100000 in
theorem wfX9_42 : jgf RX9 42 0 2 3 := ⟨RX1, TX1, 5, wcX1, by decide, by decide, rfl, jgw_in 277 rfl rfl⟩
set_option maxRecDepth 100000 in
theorem wfX11_7 : jgf RX11 7 8 0 3 := ⟨RX11, TX11, 32, wcX11, by decide, by decide, rfl, jgw_in 804 rfl rfl⟩
set_option maxRecDepth 100000 in
theorem wfX11_13 : jgf RX11 13 8 1 3 := ⟨RX11, TX11, 32, wcX11, by decide, by decide, rfl, jgw_in 805 rfl rfl⟩
set_option maxRecDepth 100000 in
theorem wfX11_16 : jgf RX11 16 8 2 3 := ⟨RX11, TX11, 32, wcX11, by decide, by decide, rfl, jgw_in 806 rfl rfl⟩
set_option maxRecDepth 100000 in
theorem wfX11_19 : jgf RX11 19 8 3 3 := ⟨RX11, TX11, 32, wcX11, by decide, by decide, rfl, jgw_in 807 rfl rfl⟩
set_option maxRecDepth 100000 in
theorem wfX11_22 : jgf RX11 22 8 4 3 := ⟨RX11, TX11, 32, wcX11, by decide, by decide, rfl, jgw_in 808 rfl rfl⟩
set_option maxRecDepth 100000 in
theorem wfX11_25 : jgf RX11 25 8 5 3 := ⟨RX11, TX11, 32, wcX11, by decide, by decide, rfl, jgw_in 809 rfl rfl⟩
set_option maxRecDepth 100000 in
theorem wfX11_28 : jgf RX11 28 8 6 2 := ⟨RX11, TX11, 32, wcX11, by decide, by decide, rfl, jgw_in 810 rfl rfl⟩
set_option maxRecDepth 100000 in
theorem wfX11_32 : jgf RX11 32 8 7 3 := ⟨RX11, TX11, 32, wcX11, by decide, by decide, rfl, jgw_in 811 rfl rfl⟩
set_option maxRecDepth 100000 in
theorem wfX11_35 : jgf RX11 35 8 8 3 := ⟨RX11, TX11, 32, wcX11, by decide, by decide, rfl, jgw_in 812 rfl rfl⟩
set_option maxRecDepth 100000 in
theorem wfX11_38 : jgf RX11 38 8 9 3 := ⟨RX11, TX11, 32, wcX11, by decide, by decide, rfl, jgw_in 813 rfl rfl⟩
set_option maxRecDepth 100000 in
theorem wfX11_41 : jgf RX11 41 8 13 3 := ⟨RX11, TX11, 32, wcX11, by decide, by decide, rfl, jgw_in 817 rfl rfl⟩
set_option maxRecDepth 100000 in
theorem wfX11_44 : jgf RX11 44 8 14 3 := ⟨RX11, TX11, 32, wcX11, by decide, by decide, rfl, jgw_in 818 rfl rfl⟩
set_option maxRecDepth 100000 in
theorem wfX11_47 : jgf RX11 47 8 15 3 := ⟨RX11, TX11, 32, wcX11, by decide, by decide, rfl, jgw_in 819 rfl rfl⟩
set_option maxRecDepth 100000 in
theorem wfX11_50 : jgf RX11 50 8 16 3 := ⟨RX11, TX11, 32, wcX11, by decide, by decide, rfl, jgw_in 820 rfl rfl⟩
set_option maxRecDepth 100000 in
theorem wfX11_53 : jgf RX11 53 8 17 3 := ⟨RX11, TX11, 32, wcX11, by decide, by decide, rfl, jgw_in 821 rfl rfl⟩
set_option maxRecDepth 100000 in
theorem wfX11_56 : jgf RX11 56 8 18 3 := ⟨RX11, TX11, 32, wcX11, by decide, by decide, rfl, jgw_in 822 rfl rfl⟩
set_option maxRecDepth 100000 in
theorem wfX11_59 : jgf RX11 59 8 19 3 := ⟨RX11, TX11, 32, wcX11, by decide, by decide, rfl, jgw_in 823 rfl rfl⟩
set_option maxRecDepth 100000 in
theorem wfX11_62 : jgf RX11 62 8 21 3 := ⟨RX11, TX11, 32, wcX11, by decide, by decide, rfl, jgw_in 825 rfl rfl⟩
set_option maxRecDepth 100000 in
theorem wfX11_65 : jgf RX11 65 8 22 3 := ⟨RX11, TX11, 32, wcX11, by decide, by decide, rfl, jgw_in 826 rfl rfl⟩
set_option maxRecDepth 100000 in
theorem wfX11_68 : jgf RX11 68 8 23 3 := ⟨RX11, TX11, 32, wcX11, by decide, by decide, rfl, jgw_in 827 rfl rfl⟩
set_option maxRecDepth 100000 in
theorem wfX11_71 : jgf RX11 71 8 24 3 := ⟨RX11, TX11, 32, wcX11, by decide, by decide, rfl, jgw_in 828 rfl rfl⟩
set_option maxRecDepth 100000 in
theorem wfX11_74 : jgf RX11 74 8 25 3 := ⟨RX11, TX11, 32, wcX11, by decide, by decide, rfl, jgw_in 829 rfl rfl⟩
set_option maxRecDepth 100000 in
theorem wfX11_77 : jgf RX11 77 8 26 3 := ⟨RX11, TX11, 32, wcX11, by decide, by decide, rfl, jgw_in 830 rfl rfl⟩
set_option maxRecDepth 100000 in
theorem wfX11_81 : jgf RX11 81 8 28 3 := ⟨RX11, TX11, 32, wcX11, by decide, by decide, rfl, jgw_in 832 rfl rfl⟩
set_option maxRecDepth 100000 in
theorem wfX11_151 : jgf RX11 151 8 10 5 := ⟨RX11, TX11, 32, wcX11, by decide, by decide, rfl, jgw_in 814 rfl rfl⟩
set_option maxRecDepth 100000 in
theorem wfX11_155 : jgf RX11 155 8 11 5 := ⟨RX11, TX11, 32, wcX11, by decide, by decide, rfl, jgw_in 815 rfl rfl⟩
set_option maxRecDepth 100000 in
theorem wfX11_158 : jgf RX11 158 8 20 1 := ⟨RX11, TX11, 32, wcX11, by decide, by decide, rfl, jgw_in 824 rfl rfl⟩
set_option maxRecDepth 100000 in
theorem wfX11_232 : jgf RX11 232 8 27 1 := ⟨RX11, TX11, 32, wcX11, by decide, by decide, rfl, jgw_in 831 rfl rfl⟩
set_option maxRecDepth 100000 in
theorem wfX11_273 : jgf RX11 273 8 12 1 := ⟨RX11, TX11, 32, wcX11, by decide, by decide, rfl, jgw_in 816 rfl rfl⟩
set_option maxRecDepth 100000 in
theorem wfX11_289 : jgf RX11 289 8 31 1 := ⟨RX11, TX11, 32, wcX11, by decide, by decide, rfl, jgw_in 835 rfl rfl⟩
set_option maxRecDepth 100000 in
theorem wfX11_298 : jgf RX11 298 8 29 1 := ⟨RX11, TX11, 32, wcX11, by decide, by decide, rfl, jgw_in 833 rfl rfl⟩
set_option maxRecDepth 100000 in
theorem wfX11_301 : jgf RX11 301 8 30 1 := ⟨RX11, TX11, 32, wcX11, by decide, by decide, rfl, jgw_in 834 rfl rfl⟩
set_option maxRecDepth 100000 in
theorem wpX10_56 : jpf RX10 56 7 8 1 := ⟨RX10, TX10, 9, tyX10, wcX10, by decide, by decide, rfl, jgw_in 308 rfl rfl, tyX10_ok, nmX10, .inl ⟨rfl, rfl⟩, rfl⟩
set_option maxRecDepth 100000 in
theorem wpX10_161 : jpf RX10 161 3 0 5 := ⟨RX4, TX4, 2, tyX4, wcX4, by decide, by decide, rfl, jgw_in 104 rfl rfl, tyX4_ok, nmX4, .inr (.inr ⟨rfl, rfl⟩), rfl⟩
set_option maxRecDepth 100000 in
theorem wpX10_165 : jpf RX10 165 3 1 5 := ⟨RX4, TX4, 2, tyX4, wcX4, by decide, by decide, rfl, jgw_in 108 rfl rfl, tyX4_ok, nmX4, .inr (.inr ⟨rfl, rfl⟩), rfl⟩
set_option maxRecDepth 100000 in
theorem wpX10_248 : jpf RX10 248 5 3 1 := ⟨RX6, TX6, 4, tyX6, wcX6, by decide, by decide, rfl, jgw_in 211 rfl rfl, tyX6_ok, nmX6, .inl ⟨rfl, rfl⟩, rfl⟩
set_option maxRecDepth 100000 in
theorem wpX1_21 : jpf RX1 21 0 3 1 := ⟨RX1, TX1, 5, tyX1, wcX1, by decide, by decide, rfl, jgw_in 279 rfl rfl, tyX1_ok, nmX1, .inl ⟨rfl, rfl⟩, rfl⟩
set_option maxRecDepth 100000 in
theorem wpX1_25 : jpf RX1 25 0 4 1 := ⟨RX1, TX1, 5, tyX1, wcX1, by decide, by decide, rfl, jgw_in 281 rfl rfl, tyX1_ok, nmX1, .inl ⟨rfl, rfl⟩, rfl⟩
set_option maxRecDepth 100000 in
theorem wpX2_25 : jpf RX2 25 1 3 1 := ⟨RX2, TX2, 6, tyX2, wcX2, by decide, by decide, rfl, jgw_in 226 rfl rfl, tyX2_ok, nmX2, .inl ⟨rfl, rfl⟩, rfl⟩
set_option maxRecDepth 100000 in
theorem wpX2_29 : jpf RX2 29 1 4 1 := ⟨RX2, TX2, 6, tyX2, wcX2, by decide, by decide, rfl, jgw_in 228 rfl rfl, tyX2_ok, nmX2, .inl ⟨rfl, rfl⟩, rfl⟩
set_option maxRecDepth 100000 in
theorem wpX2_32 : jpf RX2 32 1 5 1 := ⟨RX2, TX2, 6, tyX2, wcX2, by decide, by decide, rfl, jgw_in 230 rfl rfl, tyX2_ok, nmX2, .inl ⟨rfl, rfl⟩, rfl⟩
set_option maxRecDepth 100000 in
theorem wpX3_39 : jpf RX3 39 2 9 1 := ⟨RX3, TX3, 14, tyX3, wcX3, by decide, by decide, rfl, jgw_in 135 rfl rfl, tyX3_ok, nmX3, .inl ⟨rfl, rfl⟩, rfl⟩
set_option maxRecDepth 100000 in
theorem wpX3_43 : jpf RX3 43 2 10 1 := ⟨RX3, TX3, 14, tyX3, wcX3, by decide, by decide, rfl, jgw_in 136 rfl rfl, tyX3_ok, nmX3, .inl ⟨rfl, rfl⟩, rfl⟩
set_option maxRecDepth 100000 in
theorem wpX3_46 : jpf RX3 46 2 11 1 := ⟨RX3, TX3, 14, tyX3, wcX3, by decide, by decide, rfl, jgw_in 137 rfl rfl, tyX3_ok, nmX3, .inl ⟨rfl, rfl⟩, rfl⟩
set_option maxRecDepth 100000 in
theorem wpX3_49 : jpf RX3 49 2 12 1 := ⟨RX3, TX3, 14, tyX3, wcX3, by decide, by decide, rfl, jgw_in 138 rfl rfl, tyX3_ok, nmX3, .inl ⟨rfl, rfl⟩, rfl⟩
set_option maxRecDepth 100000 in
theorem wpX3_52 : jpf RX3 52 2 13 2 := ⟨RX3, TX3, 14, tyX3, wcX3, by decide, by decide, rfl, jgw_in 140 rfl rfl, tyX3_ok, nmX3, .inr (.inl ⟨rfl, rfl⟩), rfl⟩
set_option maxRecDepth 100000 in
theorem wpX5_13 : jpf RX5 13 4 1 1 := ⟨RX5, TX5, 3, tyX5, wcX5, by decide, by decide, rfl, jgw_in 252 rfl rfl, tyX5_ok, nmX5, .inl ⟨rfl, rfl⟩, rfl⟩
set_option maxRecDepth 100000 in
theorem wpX5_17 : jpf RX5 17 4 2 1 := ⟨RX5, TX5, 3, tyX5, wcX5, by decide, by decide, rfl, jgw_in 254 rfl rfl, tyX5_ok, nmX5, .inl ⟨rfl, rfl⟩, rfl⟩
set_option maxRecDepth 100000 in
theorem wpX6_19 : jpf RX6 19 5 3 1 := ⟨RX6, TX6, 4, tyX6, wcX6, by decide, by decide, rfl, jgw_in 210 rfl rfl, tyX6_ok, nmX6, .inl ⟨rfl, rfl⟩, rfl⟩
set_option maxRecDepth 100000 in
theorem wpX9_21 : jpf RX9 21 6 3 1 := ⟨RX9, TX9, 5, tyX9, wcX9, by decide, by decide, rfl, jgw_in 186 rfl rfl, tyX9_ok, nmX9, .inl ⟨rfl, rfl⟩, rfl⟩
set_option maxRecDepth 100000 in
theorem wpX9_25 : jpf RX9 25 6 4 1 := ⟨RX9, TX9, 5, tyX9, wcX9, by decide, by decide, rfl, jgw_in 187 rfl rfl, tyX9_ok, nmX9, .inl ⟨rfl, rfl⟩, rfl⟩
set_option maxRecDepth 100000 in
theorem wpX11_28 : jpf RX11 28 8 6 2 := ⟨RX11, TX11, 32, tyX11, wcX11, by decide, by decide, rfl, jgw_in 810 rfl rfl, tyX11_ok, nmX11, .inr (.inl ⟨rfl, rfl⟩), rfl⟩
set_option maxRecDepth 100000 in
theorem wpX11_151 : jpf RX11 151 8 10 5 := ⟨RX11, TX11, 32, tyX11, wcX11, by decide, by decide, rfl, jgw_in 814 rfl rfl, tyX11_ok, nmX11, .inr (.inr ⟨rfl, rfl⟩), rfl⟩
set_option maxRecDepth 100000 in
theorem wpX11_155 : jpf RX11 155 8 11 5 := ⟨RX11, TX11, 32, tyX11, wcX11, by decide, by decide, rfl, jgw_in 815 rfl rfl, tyX11_ok, nmX11, .inr (.inr ⟨rfl, rfl⟩), rfl⟩
set_option maxRecDepth 100000 in
theorem wpX11_158 : jpf RX11 158 8 20 1 := ⟨RX11, TX11, 32, tyX11, wcX11, by decide, by decide, rfl, jgw_in 824 rfl rfl, tyX11_ok, nmX11, .inl ⟨rfl, rfl⟩, rfl⟩
set_option maxRecDepth 100000 in
theorem wpX11_232 : jpf RX11 232 8 27 1 := ⟨RX11, TX11, 32, tyX11, wcX11, by decide, by decide, rfl, jgw_in 831 rfl rfl, tyX11_ok, nmX11, .inl ⟨rfl, rfl⟩, rfl⟩
set_option maxRecDepth 100000 in
theorem wpX11_273 : jpf RX11 273 8 12 1 := ⟨RX11, TX11, 32, tyX11, wcX11, by decide, by decide, rfl, jgw_in 816 rfl rfl, tyX11_ok, nmX11, .inl ⟨rfl, rfl⟩, rfl⟩
set_option maxRecDepth 100000 in
theorem wpX11_289 : jpf RX11 289 8 31 1 := ⟨RX11, TX11, 32, tyX11, wcX11, by decide, by decide, rfl, jgw_in 835 rfl rfl, tyX11_ok, nmX11, .inl ⟨rfl, rfl⟩, rfl⟩
set_option maxRecDepth 100000 in
theorem wpX11_298 : jpf RX11 298 8 29 1 := ⟨RX11, TX11, 32, tyX11, wcX11, by decide, by decide, rfl, jgw_in 833 rfl rfl, tyX11_ok, nmX11, .inl ⟨rfl, rfl⟩, rfl⟩
set_option maxRecDepth 100000 in
theorem wpX11_301 : jpf RX11 301 8 30 1 := ⟨RX11, TX11, 32, tyX11, wcX11, by decide, by decide, rfl, jgw_in 834 rfl rfl, tyX11_ok, nmX11, .inl ⟨rfl, rfl⟩, rfl⟩
set_option maxRecDepth 100000 in
theorem wnX10_269 : Cond.constant RX10 269 (Int32.ofInt (-100000)) ∈ jgw := jgw_in 348 (by decide +kernel) (by decide +kernel)
set_option maxRecDepth 100000 in
theorem wnX10_270 : Cond.constant RX10 270 (Int32.ofInt (-100011)) ∈ jgw := jgw_in 353 (by decide +kernel) (by decide +kernel)
set_option maxRecDepth 100000 in
theorem wnX10_274 : Cond.constant RX10 274 (Int32.ofInt (-100012)) ∈ jgw := jgw_in 354 (by decide +kernel) (by decide +kernel)
set_option maxRecDepth 100000 in
theorem wnX10_281 : Cond.constantLong RX10 281 (Int64.ofInt 48271) ∈ jgw := jgw_in 428 (by decide +kernel) (by decide +kernel)
set_option maxRecDepth 100000 in
theorem wnX10_283 : Cond.constantLong RX10 283 (Int64.ofInt 11) ∈ jgw := jgw_in 429 (by decide +kernel) (by decide +kernel)
set_option maxRecDepth 100000 in
theorem wnX10_285 : Cond.constantLong RX10 285 (Int64.ofInt 2147483647) ∈ jgw := jgw_in 430 (by decide +kernel) (by decide +kernel)
set_option maxRecDepth 100000 in
theorem wnX3_86 : Cond.constantLong RX3 86 (Int64.ofInt 1099511627776) ∈ jgw := jgw_in 580 (by decide +kernel) (by decide +kernel)
set_option maxRecDepth 100000 in
theorem wnX3_109 : Cond.constantLong RX3 109 (Int64.ofInt 17179869183) ∈ jgw := jgw_in 605 (by decide +kernel) (by decide +kernel)
set_option maxRecDepth 100000 in
theorem wnX3_145 : Cond.constantLong RX3 145 (Int64.ofInt (-17179869184)) ∈ jgw := jgw_in 606 (by decide +kernel) (by decide +kernel)
set_option maxRecDepth 100000 in
theorem wnX3_155 : Cond.constantLong RX3 155 (Int64.ofInt (-7046029254386353131)) ∈ jgw := jgw_in 575 (by decide +kernel) (by decide +kernel)
set_option maxRecDepth 100000 in
theorem wnX3_163 : Cond.constantLong RX3 163 (Int64.ofInt 25) ∈ jgw := jgw_in 574 (by decide +kernel) (by decide +kernel)
set_option maxRecDepth 100000 in
theorem wnX11_84 : Cond.constantLong RX11 84 (Int64.ofInt 3) ∈ jgw := jgw_in 941 (by decide +kernel) (by decide +kernel)
set_option maxRecDepth 100000 in
theorem wnX11_90 : Cond.constantLong RX11 90 (Int64.ofInt 33) ∈ jgw := jgw_in 953 (by decide +kernel) (by decide +kernel)
set_option maxRecDepth 100000 in
theorem wnX11_92 : Cond.constantLong RX11 92 (Int64.ofInt 5) ∈ jgw := jgw_in 909 (by decide +kernel) (by decide +kernel)
set_option maxRecDepth 100000 in
theorem wnX11_98 : Cond.constantLong RX11 98 (Int64.ofInt (-1)) ∈ jgw := jgw_in 913 (by decide +kernel) (by decide +kernel)
set_option maxRecDepth 100000 in
theorem wnX11_100 : Cond.constantLong RX11 100 (Int64.ofInt 2) ∈ jgw := jgw_in 914 (by decide +kernel) (by decide +kernel)
set_option maxRecDepth 100000 in
theorem wnX11_102 : Cond.constant RX11 102 (Int32.ofInt 65535) ∈ jgw := jgw_in 925 (by decide +kernel) (by decide +kernel)
set_option maxRecDepth 100000 in
theorem wnX11_103 : Cond.constant RX11 103 (Int32.ofInt (-100000)) ∈ jgw := jgw_in 919 (by decide +kernel) (by decide +kernel)
set_option maxRecDepth 100000 in
theorem wnX11_104 : Cond.constant RX11 104 (Int32.ofInt (-100011)) ∈ jgw := jgw_in 920 (by decide +kernel) (by decide +kernel)
set_option maxRecDepth 100000 in
theorem wnX11_105 : Cond.constant RX11 105 (Int32.ofInt (-100012)) ∈ jgw := jgw_in 921 (by decide +kernel) (by decide +kernel)
set_option maxRecDepth 100000 in
theorem wnX11_123 : Cond.constantLong RX11 123 (Int64.ofInt 48271) ∈ jgw := jgw_in 974 (by decide +kernel) (by decide +kernel)
set_option maxRecDepth 100000 in
theorem wnX11_125 : Cond.constantLong RX11 125 (Int64.ofInt 11) ∈ jgw := jgw_in 975 (by decide +kernel) (by decide +kernel)
set_option maxRecDepth 100000 in
theorem wnX11_127 : Cond.constantLong RX11 127 (Int64.ofInt 2147483648) ∈ jgw := jgw_in 976 (by decide +kernel) (by decide +kernel)
set_option maxRecDepth 100000 in
theorem wnX11_129 : Cond.constantLong RX11 129 (Int64.ofInt 64) ∈ jgw := jgw_in 977 (by decide +kernel) (by decide +kernel)
set_option maxRecDepth 100000 in
theorem wnX11_147 : Cond.constantLong RX11 147 (Int64.ofInt 9) ∈ jgw := jgw_in 1008 (by decide +kernel) (by decide +kernel)
set_option maxRecDepth 100000 in
theorem wnX11_149 : Cond.constantLong RX11 149 (Int64.ofInt 6) ∈ jgw := jgw_in 1013 (by decide +kernel) (by decide +kernel)
set_option maxRecDepth 100000 in
theorem wnX11_195 : Cond.constantLong RX11 195 (Int64.ofInt 4) ∈ jgw := jgw_in 1068 (by decide +kernel) (by decide +kernel)
set_option maxRecDepth 100000 in
theorem wnX11_271 : Cond.constantLong RX11 271 (Int64.ofInt 1000) ∈ jgw := jgw_in 1200 (by decide +kernel) (by decide +kernel)
abbrev MX0_code : jM := (yX0_code, cX0_code, 2, (some .int))
abbrev MX0_kindOf : jM := (yX0_kindOf, cX0_kindOf, 1, (some .int))
abbrev MX0_sortOf : jM := (yX0_sortOf, cX0_sortOf, 1, (some .int))
abbrev MX0_tilesAlike : jM := (yX0_tilesAlike, cX0_tilesAlike, 1, (some .int))
abbrev MX8_isOuter : jM := (yX8_isOuter, cX8_isOuter, 2, (some .boolean))
abbrev MX0_hasOuter : jM := (yX0_hasOuter, cX0_hasOuter, 2, (some .boolean))
abbrev MX1_size : jM := (yX1_size, cX1_size, 1, (some .int))
abbrev MX1_isFull : jM := (yX1_isFull, cX1_isFull, 1, (some .boolean))
abbrev MX1_rests : jM := (yX1_rests, cX1_rests, 1, (some .boolean))
abbrev MX1_gain : jM := (yX1_gain, cX1_gain, 2, none)
abbrev MX1_lose : jM := (yX1_lose, cX1_lose, 2, none)
abbrev MX1_canLay : jM := (yX1_canLay, cX1_canLay, 3, (some .boolean))
abbrev MX1_lay : jM := (yX1_lay, cX1_lay, 6, none)
abbrev MX8_sum : jM := (yX8_sum, cX8_sum, 6, (some .int))
abbrev MJ7_fill_53178 : jM := (yJ7_fill_53178, cJ7_fill_53178, 4, none)
abbrev MX1_giveBack : jM := (yX1_giveBack, cX1_giveBack, 4, (some .int))
abbrev MX9_keepPath : jM := (yX9_keepPath, cX9_keepPath, 1, none)
abbrev MX8_startsRun : jM := (yX8_startsRun, cX8_startsRun, 1, (some .boolean))
abbrev MX9_shiftRun : jM := (yX9_shiftRun, cX9_shiftRun, 3, none)
abbrev MX9_seek : jM := (yX9_seek, cX9_seek, 6, none)
abbrev MX9_find : jM := (yX9_find, cX9_find, 3, none)
abbrev MX4_lackOfSeven : jM := (yX4_lackOfSeven, cX4_lackOfSeven, 7, (some .int))
abbrev MX2_isSeven : jM := (yX2_isSeven, cX2_isSeven, 2, (some .boolean))
abbrev MX4_hasOuterPair : jM := (yX4_hasOuterPair, cX4_hasOuterPair, 2, (some .boolean))
abbrev MX4_lackOfOuter : jM := (yX4_lackOfOuter, cX4_lackOfOuter, 3, (some .int))
abbrev MX2_isOuterOnes : jM := (yX2_isOuterOnes, cX2_isOuterOnes, 2, (some .boolean))
abbrev MX2_howDone : jM := (yX2_howDone, cX2_howDone, 2, (some .int))
abbrev MX9_codeAt : jM := (yX9_codeAt, cX9_codeAt, 3, (some .int))
abbrev MX9_stoodAhead : jM := (yX9_stoodAhead, cX9_stoodAhead, 4, (some .boolean))
abbrev MX8_rowOf : jM := (yX8_rowOf, cX8_rowOf, 1, (some .int))
abbrev MX6_bit : jM := (yX6_bit, cX6_bit, 2, (some .int))
abbrev MX9_conditionsOf : jM := (yX9_conditionsOf, cX9_conditionsOf, 11, (some .int))
abbrev MX6_isIn : jM := (yX6_isIn, cX6_isIn, 2, (some .boolean))
abbrev MX6_isPutOut : jM := (yX6_isPutOut, cX6_isPutOut, 4, (some .boolean))
abbrev MX6_sumOf : jM := (yX6_sumOf, cX6_sumOf, 4, (some .int))
abbrev MX2_consider : jM := (yX2_consider, cX2_consider, 4, none)
abbrev MX2_conditionsOfSeven : jM := (yX2_conditionsOfSeven, cX2_conditionsOfSeven, 5, (some .int))
abbrev MX2_weigh : jM := (yX2_weigh, cX2_weigh, 3, (some .boolean))
abbrev MX3_look : jM := (yX3_look, cX3_look, 3, none)
abbrev MX8_lengthOf : jM := (yX8_lengthOf, cX8_lengthOf, 1, (some .int))
abbrev MX3_keyOf : jM := (yX3_keyOf, cX3_keyOf, 6, (some .long))
abbrev MJ7_fill_d0a16 : jM := (yJ7_fill_d0a16, cJ7_fill_d0a16, 5, none)
abbrev MX3_less : jM := (yX3_less, cX3_less, 7, (some .long))
abbrev MX3_spread : jM := (yX3_spread, cX3_spread, 18, none)
abbrev MX3_goThrough : jM := (yX3_goThrough, cX3_goThrough, 5, none)
abbrev MX3_workOut : jM := (yX3_workOut, cX3_workOut, 5, none)
abbrev MX3_leastWith : jM := (yX3_leastWith, cX3_leastWith, 11, (some .long))
abbrev MX3_addRow : jM := (yX3_addRow, cX3_addRow, 3, none)
abbrev MX3_addAllBut : jM := (yX3_addAllBut, cX3_addAllBut, 3, none)
abbrev MX3_tilesOf : jM := (yX3_tilesOf, cX3_tilesOf, 2, (some .int))
abbrev MX3_offer : jM := (yX3_offer, cX3_offer, 4, none)
abbrev MX4_helpersOfSeven : jM := (yX4_helpersOfSeven, cX4_helpersOfSeven, 6, (some .long))
abbrev MX4_helpersOfOuter : jM := (yX4_helpersOfOuter, cX4_helpersOfOuter, 5, (some .long))
abbrev MX3_total : jM := (yX3_total, cX3_total, 4, none)
abbrev MX3_reckon : jM := (yX3_reckon, cX3_reckon, 4, none)
abbrev MX3_change : jM := (yX3_change, cX3_change, 4, none)
abbrev MX3_ofRow : jM := (yX3_ofRow, cX3_ofRow, 7, (some .int))
abbrev MX3_isHelper : jM := (yX3_isHelper, cX3_isHelper, 2, (some .boolean))
abbrev MX3_helper : jM := (yX3_helper, cX3_helper, 4, (some .int))
abbrev MX3_helpingOf : jM := (yX3_helpingOf, cX3_helpingOf, 4, (some .int))
abbrev MX5_become : jM := (yX5_become, cX5_become, 3, none)
abbrev MX5_isMissing : jM := (yX5_isMissing, cX5_isMissing, 1, (some .boolean))
abbrev MX5_reaches : jM := (yX5_reaches, cX5_reaches, 3, (some .boolean))
abbrev MX5_keep : jM := (yX5_keep, cX5_keep, 3, (some .int))
abbrev MX6_isCondition : jM := (yX6_isCondition, cX6_isCondition, 1, (some .boolean))
abbrev MX6_add : jM := (yX6_add, cX6_add, 4, (some .int))
abbrev MX7_rowKey : jM := (yX7_rowKey, cX7_rowKey, 6, (some .int))
abbrev MX7_lastRowKey : jM := (yX7_lastRowKey, cX7_lastRowKey, 3, (some .int))
abbrev MX7_same : jM := (yX7_same, cX7_same, 8, (some .boolean))
abbrev MX8_isSort : jM := (yX8_isSort, cX8_isSort, 1, (some .boolean))
abbrev MX10_isRack : jM := (yX10_isRack, cX10_isRack, 1, (some .boolean))
abbrev MX10_rack : jM := (yX10_rack, cX10_rack, 4, (some .int))
abbrev MX10_refusalOfPlace : jM := (yX10_refusalOfPlace, cX10_refusalOfPlace, 3, (some .int))
abbrev MX10_place : jM := (yX10_place, cX10_place, 5, (some .int))
abbrev MX10_copy : jM := (yX10_copy, cX10_copy, 8, (some .int))
abbrev MX10_told : jM := (yX10_told, cX10_told, 4, (some .int))
abbrev MX10_isHand : jM := (yX10_isHand, cX10_isHand, 1, (some .boolean))
abbrev MX10_unread : jM := (yX10_unread, cX10_unread, 7, none)
abbrev MX10_readAll : jM := (yX10_readAll, cX10_readAll, 7, (some .int))
abbrev MX10_read : jM := (yX10_read, cX10_read, 7, (some .int))
abbrev MX10_take : jM := (yX10_take, cX10_take, 3, (some .int))
abbrev MX10_seed : jM := (yX10_seed, cX10_seed, 2, (some .int))
abbrev MX10_drawNext : jM := (yX10_drawNext, cX10_drawNext, 5, (some .int))
abbrev MX10_draw : jM := (yX10_draw, cX10_draw, 2, (some .int))
abbrev MX10_deal : jM := (yX10_deal, cX10_deal, 4, (some .int))
abbrev MX10_discard : jM := (yX10_discard, cX10_discard, 3, (some .int))
abbrev MX10_open : jM := (yX10_open, cX10_open, 4, (some .int))
abbrev MX10_clear : jM := (yX10_clear, cX10_clear, 2, (some .int))
abbrev MX10_tiles : jM := (yX10_tiles, cX10_tiles, 3, (some .int))
abbrev MX10_about : jM := (yX10_about, cX10_about, 5, (some .int))
abbrev MX10_count : jM := (yX10_count, cX10_count, 4, (some .int))
abbrev MX10_done : jM := (yX10_done, cX10_done, 2, (some .int))
abbrev MX10_ways : jM := (yX10_ways, cX10_ways, 2, (some .int))
abbrev MX10_way : jM := (yX10_way, cX10_way, 4, (some .int))
abbrev MX10_distance : jM := (yX10_distance, cX10_distance, 2, (some .int))
abbrev MX10_waits : jM := (yX10_waits, cX10_waits, 3, (some .int))
abbrev MX10_helps : jM := (yX10_helps, cX10_helps, 3, (some .int))
abbrev MX10_refusalOfThrow : jM := (yX10_refusalOfThrow, cX10_refusalOfThrow, 3, (some .int))
abbrev MX10_reckonWithout : jM := (yX10_reckonWithout, cX10_reckonWithout, 3, none)
abbrev MX10_without : jM := (yX10_without, cX10_without, 4, (some .int))
abbrev MX10_countHidden : jM := (yX10_countHidden, cX10_countHidden, 5, (some .int))
abbrev MX10_more : jM := (yX10_more, cX10_more, 4, (some .int))
abbrev MX10_bestThrow : jM := (yX10_bestThrow, cX10_bestThrow, 7, (some .int))
abbrev MX10_best : jM := (yX10_best, cX10_best, 2, (some .int))
abbrev MX10_lack : jM := (yX10_lack, cX10_lack, 5, (some .int))
abbrev MX10_secondTiles : jM := (yX10_secondTiles, cX10_secondTiles, 4, (some .int))
abbrev MX10_odds : jM := (yX10_odds, cX10_odds, 6, (some .int))
abbrev MX10_unseen : jM := (yX10_unseen, cX10_unseen, 2, (some .int))
abbrev MX10_alike : jM := (yX10_alike, cX10_alike, 3, (some .int))
abbrev MX10_rule : jM := (yX10_rule, cX10_rule, 4, (some .int))
abbrev MX10_clearRules : jM := (yX10_clearRules, cX10_clearRules, 2, (some .int))
abbrev MX10_worth : jM := (yX10_worth, cX10_worth, 2, (some .int))
abbrev MX10_by : jM := (yX10_by, cX10_by, 2, (some .int))
abbrev MX10_holds : jM := (yX10_holds, cX10_holds, 3, (some .int))
abbrev MX11_in : jM := (yX11_in, cX11_in, 6, (some .boolean))
abbrev MX11_isHand : jM := (yX11_isHand, cX11_isHand, 1, (some .boolean))
abbrev MX11_isSort : jM := (yX11_isSort, cX11_isSort, 1, (some .boolean))
abbrev MX11_isRack : jM := (yX11_isRack, cX11_isRack, 1, (some .boolean))
abbrev MX11_rack : jM := (yX11_rack, cX11_rack, 5, (some .int))
abbrev MX11_cut : jM := (yX11_cut, cX11_cut, 2, (some .int))
abbrev MX11_place : jM := (yX11_place, cX11_place, 4, (some .int))
abbrev MX11_copy : jM := (yX11_copy, cX11_copy, 7, (some .int))
abbrev MX11_told : jM := (yX11_told, cX11_told, 3, (some .int))
abbrev MX11_heldMany : jM := (yX11_heldMany, cX11_heldMany, 4, (some .int))
abbrev MX11_sizeOf : jM := (yX11_sizeOf, cX11_sizeOf, 2, (some .int))
abbrev MX11_read : jM := (yX11_read, cX11_read, 7, (some .int))
abbrev MX11_take : jM := (yX11_take, cX11_take, 3, (some .int))
abbrev MX11_seed : jM := (yX11_seed, cX11_seed, 2, (some .int))
abbrev MX11_wallMany : jM := (yX11_wallMany, cX11_wallMany, 3, (some .int))
abbrev MX11_drawn : jM := (yX11_drawn, cX11_drawn, 4, (some .int))
abbrev MX11_draw : jM := (yX11_draw, cX11_draw, 2, (some .int))
abbrev MX11_gather : jM := (yX11_gather, cX11_gather, 5, (some .int))
abbrev MX11_deal : jM := (yX11_deal, cX11_deal, 5, (some .int))
abbrev MX11_discard : jM := (yX11_discard, cX11_discard, 3, (some .int))
abbrev MX11_begins : jM := (yX11_begins, cX11_begins, 1, (some .boolean))
abbrev MX11_within : jM := (yX11_within, cX11_within, 2, (some .int))
abbrev MX11_open : jM := (yX11_open, cX11_open, 7, (some .int))
abbrev MX11_clear : jM := (yX11_clear, cX11_clear, 2, (some .int))
abbrev MX11_tiles : jM := (yX11_tiles, cX11_tiles, 3, (some .int))
abbrev MX11_about : jM := (yX11_about, cX11_about, 3, (some .int))
abbrev MX11_count : jM := (yX11_count, cX11_count, 4, (some .int))
abbrev MX11_look : jM := (yX11_look, cX11_look, 3, none)
abbrev MX11_isOuter : jM := (yX11_isOuter, cX11_isOuter, 1, (some .boolean))
abbrev MX11_isSeven : jM := (yX11_isSeven, cX11_isSeven, 3, (some .boolean))
abbrev MX11_isOuterHand : jM := (yX11_isOuterHand, cX11_isOuterHand, 4, (some .boolean))
abbrev MX11_isWay : jM := (yX11_isWay, cX11_isWay, 7, (some .boolean))
abbrev MX11_rowOf : jM := (yX11_rowOf, cX11_rowOf, 1, (some .int))
abbrev MX11_mayBe : jM := (yX11_mayBe, cX11_mayBe, 6, (some .boolean))
abbrev MX11_findWay : jM := (yX11_findWay, cX11_findWay, 6, (some .int))
abbrev MX11_isFull : jM := (yX11_isFull, cX11_isFull, 2, (some .boolean))
abbrev MX11_doneBy : jM := (yX11_doneBy, cX11_doneBy, 1, (some .int))
abbrev MX11_done : jM := (yX11_done, cX11_done, 2, (some .int))
abbrev MX11_ways : jM := (yX11_ways, cX11_ways, 2, (some .int))
abbrev MX11_addOpen : jM := (yX11_addOpen, cX11_addOpen, 3, none)
abbrev MX11_way : jM := (yX11_way, cX11_way, 4, (some .int))
abbrev MX11_better : jM := (yX11_better, cX11_better, 3, none)
abbrev MX11_move : jM := (yX11_move, cX11_move, 2, none)
abbrev MX11_step : jM := (yX11_step, cX11_step, 13, none)
abbrev MX11_layLacks : jM := (yX11_layLacks, cX11_layLacks, 6, none)
abbrev MX11_layAll : jM := (yX11_layAll, cX11_layAll, 2, none)
abbrev MX11_lackByWay : jM := (yX11_lackByWay, cX11_lackByWay, 9, (some .int))
abbrev MX11_lackOfSeven : jM := (yX11_lackOfSeven, cX11_lackOfSeven, 4, (some .int))
abbrev MX11_lackOfOuter : jM := (yX11_lackOfOuter, cX11_lackOfOuter, 4, (some .int))
abbrev MX11_lackOf : jM := (yX11_lackOf, cX11_lackOf, 2, (some .int))
abbrev MX11_change : jM := (yX11_change, cX11_change, 3, none)
abbrev MX11_distanceOf : jM := (yX11_distanceOf, cX11_distanceOf, 1, (some .int))
abbrev MX11_distance : jM := (yX11_distance, cX11_distance, 2, (some .int))
abbrev MX11_layHelps : jM := (yX11_layHelps, cX11_layHelps, 2, none)
abbrev MX11_helpAt : jM := (yX11_helpAt, cX11_helpAt, 4, (some .int))
abbrev MX11_helped : jM := (yX11_helped, cX11_helped, 4, (some .int))
abbrev MX11_waits : jM := (yX11_waits, cX11_waits, 3, (some .int))
abbrev MX11_helps : jM := (yX11_helps, cX11_helps, 3, (some .int))
abbrev MX11_layUnseen : jM := (yX11_layUnseen, cX11_layUnseen, 5, (some .int))
abbrev MX11_against : jM := (yX11_against, cX11_against, 3, (some .int))
abbrev MX11_without : jM := (yX11_without, cX11_without, 4, (some .int))
abbrev MX11_helping : jM := (yX11_helping, cX11_helping, 3, (some .int))
abbrev MX11_more : jM := (yX11_more, cX11_more, 5, (some .int))
abbrev MX11_best : jM := (yX11_best, cX11_best, 9, (some .int))
abbrev MX11_lack : jM := (yX11_lack, cX11_lack, 6, (some .int))
abbrev MX11_making : jM := (yX11_making, cX11_making, 3, (some .int))
abbrev MX11_makingBest : jM := (yX11_makingBest, cX11_makingBest, 4, (some .int))
abbrev MX11_odds : jM := (yX11_odds, cX11_odds, 7, (some .int))
abbrev MX11_unseen : jM := (yX11_unseen, cX11_unseen, 2, (some .int))
abbrev MX11_isRow : jM := (yX11_isRow, cX11_isRow, 8, (some .boolean))
abbrev MX11_areRows : jM := (yX11_areRows, cX11_areRows, 5, (some .boolean))
abbrev MX11_alike : jM := (yX11_alike, cX11_alike, 8, (some .int))
abbrev MX11_rule : jM := (yX11_rule, cX11_rule, 4, (some .int))
abbrev MX11_clearRules : jM := (yX11_clearRules, cX11_clearRules, 2, (some .int))
abbrev MX11_hasOuter : jM := (yX11_hasOuter, cX11_hasOuter, 2, (some .boolean))
abbrev MX11_isOneRow : jM := (yX11_isOneRow, cX11_isOneRow, 3, (some .boolean))
abbrev MX11_conditionsOfWay : jM := (yX11_conditionsOfWay, cX11_conditionsOfWay, 7, (some .int))
abbrev MX11_conditionsOfSeven : jM := (yX11_conditionsOfSeven, cX11_conditionsOfSeven, 3, (some .int))
abbrev MX11_sumOf : jM := (yX11_sumOf, cX11_sumOf, 6, (some .int))
abbrev MX11_tries : jM := (yX11_tries, cX11_tries, 5, none)
abbrev MX11_worthOf : jM := (yX11_worthOf, cX11_worthOf, 6, (some .int))
abbrev MX11_worth : jM := (yX11_worth, cX11_worth, 2, (some .int))
abbrev MX11_by : jM := (yX11_by, cX11_by, 3, (some .int))
abbrev MX11_holds : jM := (yX11_holds, cX11_holds, 4, (some .int))
set_option maxRecDepth 100000 in
theorem wlX10_62 : Cond.methodLink RX10 62 yJ7_fill_53178 ∈ jgw := jgw_in 297 rfl rfl
set_option maxRecDepth 100000 in
theorem wlX10_68 : Cond.methodLink RX10 68 yX10_isRack ∈ jgw := jgw_in 332 rfl rfl
set_option maxRecDepth 100000 in
theorem wlX10_72 : Cond.methodLink RX10 72 yX5_become ∈ jgw := jgw_in 335 rfl rfl
set_option maxRecDepth 100000 in
theorem wlX10_76 : Cond.methodLink RX10 76 yX10_refusalOfPlace ∈ jgw := jgw_in 344 rfl rfl
set_option maxRecDepth 100000 in
theorem wlX10_80 : Cond.methodLink RX10 80 yX5_keep ∈ jgw := jgw_in 355 rfl rfl
set_option maxRecDepth 100000 in
theorem wlX10_83 : Cond.methodLink RX10 83 yX5_isMissing ∈ jgw := jgw_in 349 rfl rfl
set_option maxRecDepth 100000 in
theorem wlX10_90 : Cond.methodLink RX10 90 yX5_reaches ∈ jgw := jgw_in 363 rfl rfl
set_option maxRecDepth 100000 in
theorem wlX10_97 : Cond.methodLink RX10 97 arraycopyName ∈ jgw := jgw_in 367 rfl rfl
set_option maxRecDepth 100000 in
theorem wlX10_103 : Cond.methodLink RX10 103 yX10_isHand ∈ jgw := jgw_in 378 rfl rfl
set_option maxRecDepth 100000 in
theorem wlX10_106 : Cond.methodLink RX10 106 yX1_size ∈ jgw := jgw_in 381 rfl rfl
set_option maxRecDepth 100000 in
theorem wlX10_110 : Cond.methodLink RX10 110 yX10_readAll ∈ jgw := jgw_in 385 rfl rfl
set_option maxRecDepth 100000 in
theorem wlX10_114 : Cond.methodLink RX10 114 yX8_isSort ∈ jgw := jgw_in 389 rfl rfl
set_option maxRecDepth 100000 in
theorem wlX10_117 : Cond.methodLink RX10 117 yX1_isFull ∈ jgw := jgw_in 408 rfl rfl
set_option maxRecDepth 100000 in
theorem wlX10_120 : Cond.methodLink RX10 120 yX1_gain ∈ jgw := jgw_in 400 rfl rfl
set_option maxRecDepth 100000 in
theorem wlX10_124 : Cond.methodLink RX10 124 yX10_drawNext ∈ jgw := jgw_in 421 rfl rfl
set_option maxRecDepth 100000 in
theorem wlX10_128 : Cond.methodLink RX10 128 yX1_giveBack ∈ jgw := jgw_in 435 rfl rfl
set_option maxRecDepth 100000 in
theorem wlX10_135 : Cond.methodLink RX10 135 yX1_lose ∈ jgw := jgw_in 396 rfl rfl
set_option maxRecDepth 100000 in
theorem wlX10_140 : Cond.methodLink RX10 140 yX8_startsRun ∈ jgw := jgw_in 449 rfl rfl
set_option maxRecDepth 100000 in
theorem wlX10_143 : Cond.methodLink RX10 143 yX1_canLay ∈ jgw := jgw_in 452 rfl rfl
set_option maxRecDepth 100000 in
theorem wlX10_146 : Cond.methodLink RX10 146 yX1_lay ∈ jgw := jgw_in 459 rfl rfl
set_option maxRecDepth 100000 in
theorem wlX10_168 : Cond.methodLink RX10 168 yX2_howDone ∈ jgw := jgw_in 487 rfl rfl
set_option maxRecDepth 100000 in
theorem wlX10_175 : Cond.methodLink RX10 175 yX9_find ∈ jgw := jgw_in 537 rfl rfl
set_option maxRecDepth 100000 in
theorem wlX10_183 : Cond.methodLink RX10 183 yX9_codeAt ∈ jgw := jgw_in 542 rfl rfl
set_option maxRecDepth 100000 in
theorem wlX10_186 : Cond.methodLink RX10 186 yX1_rests ∈ jgw := jgw_in 550 rfl rfl
set_option maxRecDepth 100000 in
theorem wlX10_189 : Cond.methodLink RX10 189 yX3_reckon ∈ jgw := jgw_in 554 rfl rfl
set_option maxRecDepth 100000 in
theorem wlX10_196 : Cond.methodLink RX10 196 Lib.Math.max.name ∈ jgw := jgw_in 626 rfl rfl
set_option maxRecDepth 100000 in
theorem wlX10_201 : Cond.methodLink RX10 201 yX3_helper ∈ jgw := jgw_in 631 rfl rfl
set_option maxRecDepth 100000 in
theorem wlX10_205 : Cond.methodLink RX10 205 yX10_refusalOfThrow ∈ jgw := jgw_in 647 rfl rfl
set_option maxRecDepth 100000 in
theorem wlX10_208 : Cond.methodLink RX10 208 yX10_reckonWithout ∈ jgw := jgw_in 651 rfl rfl
set_option maxRecDepth 100000 in
theorem wlX10_211 : Cond.methodLink RX10 211 yX10_countHidden ∈ jgw := jgw_in 667 rfl rfl
set_option maxRecDepth 100000 in
theorem wlX10_214 : Cond.methodLink RX10 214 yX3_helpingOf ∈ jgw := jgw_in 671 rfl rfl
set_option maxRecDepth 100000 in
theorem wlX10_217 : Cond.methodLink RX10 217 yX10_bestThrow ∈ jgw := jgw_in 679 rfl rfl
set_option maxRecDepth 100000 in
theorem wlX10_220 : Cond.methodLink RX10 220 yX3_ofRow ∈ jgw := jgw_in 687 rfl rfl
set_option maxRecDepth 100000 in
theorem wlX10_224 : Cond.methodLink RX10 224 yX3_change ∈ jgw := jgw_in 655 rfl rfl
set_option maxRecDepth 100000 in
theorem wlX10_227 : Cond.methodLink RX10 227 yX3_total ∈ jgw := jgw_in 662 rfl rfl
set_option maxRecDepth 100000 in
theorem wlX10_230 : Cond.methodLink RX10 230 yX10_secondTiles ∈ jgw := jgw_in 695 rfl rfl
set_option maxRecDepth 100000 in
theorem wlX10_233 : Cond.methodLink RX10 233 yX7_same ∈ jgw := jgw_in 707 rfl rfl
set_option maxRecDepth 100000 in
theorem wlX10_239 : Cond.methodLink RX10 239 yX6_isCondition ∈ jgw := jgw_in 722 rfl rfl
set_option maxRecDepth 100000 in
theorem wlX10_249 : Cond.methodLink RX10 249 yX6_add ∈ jgw := jgw_in 725 rfl rfl
set_option maxRecDepth 100000 in
theorem wlX10_253 : Cond.methodLink RX10 253 yX2_weigh ∈ jgw := jgw_in 737 rfl rfl
set_option maxRecDepth 100000 in
theorem wlX10_266 : Cond.methodLink RX10 266 yX6_isIn ∈ jgw := jgw_in 797 rfl rfl
set_option maxRecDepth 100000 in
theorem wlX10_275 : Cond.methodLink RX10 275 yX10_unread ∈ jgw := jgw_in 392 rfl rfl
set_option maxRecDepth 100000 in
theorem wlX10_279 : Cond.methodLink RX10 279 yX8_sum ∈ jgw := jgw_in 425 rfl rfl
set_option maxRecDepth 100000 in
theorem wlX0_9 : Cond.methodLink RX0 9 yX0_sortOf ∈ jgw := jgw_in 760 rfl rfl
set_option maxRecDepth 100000 in
theorem wlX0_13 : Cond.methodLink RX0 13 yX8_isOuter ∈ jgw := jgw_in 761 rfl rfl
set_option maxRecDepth 100000 in
theorem wlX0_19 : Cond.methodLink RX0 19 yX0_kindOf ∈ jgw := jgw_in 762 rfl rfl
set_option maxRecDepth 100000 in
theorem wlX1_28 : Cond.methodLink RX1 28 yX1_size ∈ jgw := jgw_in 412 rfl rfl
set_option maxRecDepth 100000 in
theorem wlX1_34 : Cond.methodLink RX1 34 yX0_tilesAlike ∈ jgw := jgw_in 456 rfl rfl
set_option maxRecDepth 100000 in
theorem wlX1_38 : Cond.methodLink RX1 38 yX1_lose ∈ jgw := jgw_in 463 rfl rfl
set_option maxRecDepth 100000 in
theorem wlX1_42 : Cond.methodLink RX1 42 yX0_code ∈ jgw := jgw_in 464 rfl rfl
set_option maxRecDepth 100000 in
theorem wlX1_46 : Cond.methodLink RX1 46 yX8_sum ∈ jgw := jgw_in 439 rfl rfl
set_option maxRecDepth 100000 in
theorem wlX1_50 : Cond.methodLink RX1 50 yJ7_fill_53178 ∈ jgw := jgw_in 440 rfl rfl
set_option maxRecDepth 100000 in
theorem wlX2_39 : Cond.methodLink RX2 39 yX1_isFull ∈ jgw := jgw_in 491 rfl rfl
set_option maxRecDepth 100000 in
theorem wlX2_45 : Cond.methodLink RX2 45 yX9_find ∈ jgw := jgw_in 492 rfl rfl
set_option maxRecDepth 100000 in
theorem wlX2_52 : Cond.methodLink RX2 52 yX2_isSeven ∈ jgw := jgw_in 510 rfl rfl
set_option maxRecDepth 100000 in
theorem wlX2_56 : Cond.methodLink RX2 56 yX2_isOuterOnes ∈ jgw := jgw_in 520 rfl rfl
set_option maxRecDepth 100000 in
theorem wlX2_59 : Cond.methodLink RX2 59 yX2_howDone ∈ jgw := jgw_in 741 rfl rfl
set_option maxRecDepth 100000 in
theorem wlX2_63 : Cond.methodLink RX2 63 yX9_conditionsOf ∈ jgw := jgw_in 742 rfl rfl
set_option maxRecDepth 100000 in
theorem wlX2_67 : Cond.methodLink RX2 67 yX2_consider ∈ jgw := jgw_in 768 rfl rfl
set_option maxRecDepth 100000 in
theorem wlX2_75 : Cond.methodLink RX2 75 yX2_conditionsOfSeven ∈ jgw := jgw_in 783 rfl rfl
set_option maxRecDepth 100000 in
theorem wlX2_79 : Cond.methodLink RX2 79 yX6_bit ∈ jgw := jgw_in 788 rfl rfl
set_option maxRecDepth 100000 in
theorem wlX2_83 : Cond.methodLink RX2 83 yX6_sumOf ∈ jgw := jgw_in 772 rfl rfl
set_option maxRecDepth 100000 in
theorem wlX2_95 : Cond.methodLink RX2 95 yX4_lackOfSeven ∈ jgw := jgw_in 514 rfl rfl
set_option maxRecDepth 100000 in
theorem wlX2_101 : Cond.methodLink RX2 101 yX4_lackOfOuter ∈ jgw := jgw_in 524 rfl rfl
set_option maxRecDepth 100000 in
theorem wlX2_106 : Cond.methodLink RX2 106 yX8_isOuter ∈ jgw := jgw_in 786 rfl rfl
set_option maxRecDepth 100000 in
theorem wlX2_110 : Cond.methodLink RX2 110 yX8_rowOf ∈ jgw := jgw_in 787 rfl rfl
set_option maxRecDepth 100000 in
theorem wlX3_62 : Cond.methodLink RX3 62 yJ7_fill_d0a16 ∈ jgw := jgw_in 122 rfl rfl
set_option maxRecDepth 100000 in
theorem wlX3_68 : Cond.methodLink RX3 68 yX3_look ∈ jgw := jgw_in 558 rfl rfl
set_option maxRecDepth 100000 in
theorem wlX3_72 : Cond.methodLink RX3 72 yX3_workOut ∈ jgw := jgw_in 563 rfl rfl
set_option maxRecDepth 100000 in
theorem wlX3_76 : Cond.methodLink RX3 76 yX3_addAllBut ∈ jgw := jgw_in 593 rfl rfl
set_option maxRecDepth 100000 in
theorem wlX3_79 : Cond.methodLink RX3 79 yX3_total ∈ jgw := jgw_in 607 rfl rfl
set_option maxRecDepth 100000 in
theorem wlX3_82 : Cond.methodLink RX3 82 yX8_rowOf ∈ jgw := jgw_in 659 rfl rfl
set_option maxRecDepth 100000 in
theorem wlX3_88 : Cond.methodLink RX3 88 yX3_tilesOf ∈ jgw := jgw_in 611 rfl rfl
set_option maxRecDepth 100000 in
theorem wlX3_95 : Cond.methodLink RX3 95 arraycopyName ∈ jgw := jgw_in 562 rfl rfl
set_option maxRecDepth 100000 in
theorem wlX3_105 : Cond.methodLink RX3 105 yX3_leastWith ∈ jgw := jgw_in 601 rfl rfl
set_option maxRecDepth 100000 in
theorem wlX3_111 : Cond.methodLink RX3 111 yX3_offer ∈ jgw := jgw_in 614 rfl rfl
set_option maxRecDepth 100000 in
theorem wlX3_121 : Cond.methodLink RX3 121 yX4_lackOfSeven ∈ jgw := jgw_in 618 rfl rfl
set_option maxRecDepth 100000 in
theorem wlX3_125 : Cond.methodLink RX3 125 yX4_helpersOfSeven ∈ jgw := jgw_in 619 rfl rfl
set_option maxRecDepth 100000 in
theorem wlX3_132 : Cond.methodLink RX3 132 yX4_lackOfOuter ∈ jgw := jgw_in 622 rfl rfl
set_option maxRecDepth 100000 in
theorem wlX3_135 : Cond.methodLink RX3 135 yX4_helpersOfOuter ∈ jgw := jgw_in 623 rfl rfl
set_option maxRecDepth 100000 in
theorem wlX3_138 : Cond.methodLink RX3 138 yX3_isHelper ∈ jgw := jgw_in 635 rfl rfl
set_option maxRecDepth 100000 in
theorem wlX3_142 : Cond.methodLink RX3 142 yX3_addRow ∈ jgw := jgw_in 597 rfl rfl
set_option maxRecDepth 100000 in
theorem wlX3_147 : Cond.methodLink RX3 147 yX3_less ∈ jgw := jgw_in 589 rfl rfl
set_option maxRecDepth 100000 in
theorem wlX3_151 : Cond.methodLink RX3 151 yX3_keyOf ∈ jgw := jgw_in 567 rfl rfl
set_option maxRecDepth 100000 in
theorem wlX3_157 : Cond.methodLink RX3 157 yX3_goThrough ∈ jgw := jgw_in 576 rfl rfl
set_option maxRecDepth 100000 in
theorem wlX3_160 : Cond.methodLink RX3 160 yX8_lengthOf ∈ jgw := jgw_in 571 rfl rfl
set_option maxRecDepth 100000 in
theorem wlX3_165 : Cond.methodLink RX3 165 yX3_spread ∈ jgw := jgw_in 581 rfl rfl
set_option maxRecDepth 100000 in
theorem wlX3_169 : Cond.methodLink RX3 169 yX8_startsRun ∈ jgw := jgw_in 585 rfl rfl
set_option maxRecDepth 100000 in
theorem wlX3_172 : Cond.methodLink RX3 172 Lib.Math.max.name ∈ jgw := jgw_in 586 rfl rfl
set_option maxRecDepth 100000 in
theorem wlX4_16 : Cond.methodLink RX4 16 Lib.Math.min.name ∈ jgw := jgw_in 517 rfl rfl
set_option maxRecDepth 100000 in
theorem wlX4_24 : Cond.methodLink RX4 24 yX8_isOuter ∈ jgw := jgw_in 527 rfl rfl
set_option maxRecDepth 100000 in
theorem wlX4_28 : Cond.methodLink RX4 28 yX4_hasOuterPair ∈ jgw := jgw_in 530 rfl rfl
set_option maxRecDepth 100000 in
theorem wlX5_20 : Cond.methodLink RX5 20 yJ7_fill_53178 ∈ jgw := jgw_in 339 rfl rfl
set_option maxRecDepth 100000 in
theorem wlX6_23 : Cond.methodLink RX6 23 yX6_isIn ∈ jgw := jgw_in 776 rfl rfl
set_option maxRecDepth 100000 in
theorem wlX6_27 : Cond.methodLink RX6 27 yX6_isPutOut ∈ jgw := jgw_in 779 rfl rfl
set_option maxRecDepth 100000 in
theorem wlX7_7 : Cond.methodLink RX7 7 yX7_rowKey ∈ jgw := jgw_in 710 rfl rfl
set_option maxRecDepth 100000 in
theorem wlX7_13 : Cond.methodLink RX7 13 Lib.Math.min.name ∈ jgw := jgw_in 714 rfl rfl
set_option maxRecDepth 100000 in
theorem wlX7_19 : Cond.methodLink RX7 19 Lib.Math.max.name ∈ jgw := jgw_in 713 rfl rfl
set_option maxRecDepth 100000 in
theorem wlX7_22 : Cond.methodLink RX7 22 yX7_lastRowKey ∈ jgw := jgw_in 715 rfl rfl
set_option maxRecDepth 100000 in
theorem wlX9_36 : Cond.methodLink RX9 36 arraycopyName ∈ jgw := jgw_in 496 rfl rfl
set_option maxRecDepth 100000 in
theorem wlX9_45 : Cond.methodLink RX9 45 yX0_code ∈ jgw := jgw_in 497 rfl rfl
set_option maxRecDepth 100000 in
theorem wlX9_49 : Cond.methodLink RX9 49 yX9_seek ∈ jgw := jgw_in 498 rfl rfl
set_option maxRecDepth 100000 in
theorem wlX9_53 : Cond.methodLink RX9 53 yX9_keepPath ∈ jgw := jgw_in 501 rfl rfl
set_option maxRecDepth 100000 in
theorem wlX9_56 : Cond.methodLink RX9 56 yX8_startsRun ∈ jgw := jgw_in 505 rfl rfl
set_option maxRecDepth 100000 in
theorem wlX9_60 : Cond.methodLink RX9 60 yX9_shiftRun ∈ jgw := jgw_in 506 rfl rfl
set_option maxRecDepth 100000 in
theorem wlX9_64 : Cond.methodLink RX9 64 yX9_codeAt ∈ jgw := jgw_in 746 rfl rfl
set_option maxRecDepth 100000 in
theorem wlX9_67 : Cond.methodLink RX9 67 yX0_sortOf ∈ jgw := jgw_in 747 rfl rfl
set_option maxRecDepth 100000 in
theorem wlX9_71 : Cond.methodLink RX9 71 yX0_kindOf ∈ jgw := jgw_in 750 rfl rfl
set_option maxRecDepth 100000 in
theorem wlX9_74 : Cond.methodLink RX9 74 yX9_stoodAhead ∈ jgw := jgw_in 753 rfl rfl
set_option maxRecDepth 100000 in
theorem wlX9_78 : Cond.methodLink RX9 78 yX0_hasOuter ∈ jgw := jgw_in 757 rfl rfl
set_option maxRecDepth 100000 in
theorem wlX9_81 : Cond.methodLink RX9 81 yX8_rowOf ∈ jgw := jgw_in 763 rfl rfl
set_option maxRecDepth 100000 in
theorem wlX9_86 : Cond.methodLink RX9 86 yX6_bit ∈ jgw := jgw_in 764 rfl rfl
set_option maxRecDepth 100000 in
theorem wlX9_90 : Cond.methodLink RX9 90 yX8_isOuter ∈ jgw := jgw_in 767 rfl rfl
set_option maxRecDepth 100000 in
theorem wlX11_86 : Cond.methodLink RX11 86 yX11_in ∈ jgw := jgw_in 910 rfl rfl
set_option maxRecDepth 100000 in
theorem wlX11_94 : Cond.methodLink RX11 94 yX11_isRack ∈ jgw := jgw_in 906 rfl rfl
set_option maxRecDepth 100000 in
theorem wlX11_106 : Cond.methodLink RX11 106 yX11_cut ∈ jgw := jgw_in 922 rfl rfl
set_option maxRecDepth 100000 in
theorem wlX11_110 : Cond.methodLink RX11 110 yX11_heldMany ∈ jgw := jgw_in 946 rfl rfl
set_option maxRecDepth 100000 in
theorem wlX11_114 : Cond.methodLink RX11 114 yX11_isHand ∈ jgw := jgw_in 938 rfl rfl
set_option maxRecDepth 100000 in
theorem wlX11_117 : Cond.methodLink RX11 117 yX11_sizeOf ∈ jgw := jgw_in 942 rfl rfl
set_option maxRecDepth 100000 in
theorem wlX11_120 : Cond.methodLink RX11 120 yX11_isSort ∈ jgw := jgw_in 950 rfl rfl
set_option maxRecDepth 100000 in
theorem wlX11_131 : Cond.methodLink RX11 131 yX11_wallMany ∈ jgw := jgw_in 966 rfl rfl
set_option maxRecDepth 100000 in
theorem wlX11_135 : Cond.methodLink RX11 135 yX11_drawn ∈ jgw := jgw_in 970 rfl rfl
set_option maxRecDepth 100000 in
theorem wlX11_138 : Cond.methodLink RX11 138 yX11_gather ∈ jgw := jgw_in 982 rfl rfl
set_option maxRecDepth 100000 in
theorem wlX11_141 : Cond.methodLink RX11 141 yX11_begins ∈ jgw := jgw_in 994 rfl rfl
set_option maxRecDepth 100000 in
theorem wlX11_144 : Cond.methodLink RX11 144 yX11_within ∈ jgw := jgw_in 997 rfl rfl
set_option maxRecDepth 100000 in
theorem wlX11_162 : Cond.methodLink RX11 162 yX11_isOuter ∈ jgw := jgw_in 1057 rfl rfl
set_option maxRecDepth 100000 in
theorem wlX11_165 : Cond.methodLink RX11 165 yX11_rowOf ∈ jgw := jgw_in 1042 rfl rfl
set_option maxRecDepth 100000 in
theorem wlX11_168 : Cond.methodLink RX11 168 yX11_mayBe ∈ jgw := jgw_in 1038 rfl rfl
set_option maxRecDepth 100000 in
theorem wlX11_171 : Cond.methodLink RX11 171 yX11_isWay ∈ jgw := jgw_in 1045 rfl rfl
set_option maxRecDepth 100000 in
theorem wlX11_175 : Cond.methodLink RX11 175 yX11_findWay ∈ jgw := jgw_in 1034 rfl rfl
set_option maxRecDepth 100000 in
theorem wlX11_178 : Cond.methodLink RX11 178 yX11_isSeven ∈ jgw := jgw_in 1049 rfl rfl
set_option maxRecDepth 100000 in
theorem wlX11_182 : Cond.methodLink RX11 182 yX11_isOuterHand ∈ jgw := jgw_in 1053 rfl rfl
set_option maxRecDepth 100000 in
theorem wlX11_185 : Cond.methodLink RX11 185 yX11_isFull ∈ jgw := jgw_in 1022 rfl rfl
set_option maxRecDepth 100000 in
theorem wlX11_188 : Cond.methodLink RX11 188 yX11_look ∈ jgw := jgw_in 1026 rfl rfl
set_option maxRecDepth 100000 in
theorem wlX11_192 : Cond.methodLink RX11 192 yX11_doneBy ∈ jgw := jgw_in 1030 rfl rfl
set_option maxRecDepth 100000 in
theorem wlX11_197 : Cond.methodLink RX11 197 yX11_addOpen ∈ jgw := jgw_in 1069 rfl rfl
set_option maxRecDepth 100000 in
theorem wlX11_200 : Cond.methodLink RX11 200 yX11_better ∈ jgw := jgw_in 1093 rfl rfl
set_option maxRecDepth 100000 in
theorem wlX11_204 : Cond.methodLink RX11 204 yX11_move ∈ jgw := jgw_in 1085 rfl rfl
set_option maxRecDepth 100000 in
theorem wlX11_207 : Cond.methodLink RX11 207 yX11_step ∈ jgw := jgw_in 1089 rfl rfl
set_option maxRecDepth 100000 in
theorem wlX11_211 : Cond.methodLink RX11 211 yX11_layLacks ∈ jgw := jgw_in 1081 rfl rfl
set_option maxRecDepth 100000 in
theorem wlX11_214 : Cond.methodLink RX11 214 yX11_lackByWay ∈ jgw := jgw_in 1101 rfl rfl
set_option maxRecDepth 100000 in
theorem wlX11_217 : Cond.methodLink RX11 217 yX11_lackOfSeven ∈ jgw := jgw_in 1105 rfl rfl
set_option maxRecDepth 100000 in
theorem wlX11_220 : Cond.methodLink RX11 220 yX11_lackOfOuter ∈ jgw := jgw_in 1109 rfl rfl
set_option maxRecDepth 100000 in
theorem wlX11_223 : Cond.methodLink RX11 223 yX11_layAll ∈ jgw := jgw_in 1077 rfl rfl
set_option maxRecDepth 100000 in
theorem wlX11_226 : Cond.methodLink RX11 226 yX11_lackOf ∈ jgw := jgw_in 1097 rfl rfl
set_option maxRecDepth 100000 in
theorem wlX11_229 : Cond.methodLink RX11 229 yX11_distanceOf ∈ jgw := jgw_in 1113 rfl rfl
set_option maxRecDepth 100000 in
theorem wlX11_235 : Cond.methodLink RX11 235 yX11_change ∈ jgw := jgw_in 1128 rfl rfl
set_option maxRecDepth 100000 in
theorem wlX11_238 : Cond.methodLink RX11 238 yX11_layHelps ∈ jgw := jgw_in 1124 rfl rfl
set_option maxRecDepth 100000 in
theorem wlX11_241 : Cond.methodLink RX11 241 yX11_helpAt ∈ jgw := jgw_in 1132 rfl rfl
set_option maxRecDepth 100000 in
theorem wlX11_244 : Cond.methodLink RX11 244 yX11_helped ∈ jgw := jgw_in 1120 rfl rfl
set_option maxRecDepth 100000 in
theorem wlX11_248 : Cond.methodLink RX11 248 yX11_against ∈ jgw := jgw_in 1144 rfl rfl
set_option maxRecDepth 100000 in
theorem wlX11_251 : Cond.methodLink RX11 251 yX11_layUnseen ∈ jgw := jgw_in 1152 rfl rfl
set_option maxRecDepth 100000 in
theorem wlX11_254 : Cond.methodLink RX11 254 yX11_helping ∈ jgw := jgw_in 1156 rfl rfl
set_option maxRecDepth 100000 in
theorem wlX11_257 : Cond.methodLink RX11 257 yX11_making ∈ jgw := jgw_in 1172 rfl rfl
set_option maxRecDepth 100000 in
theorem wlX11_260 : Cond.methodLink RX11 260 yX11_makingBest ∈ jgw := jgw_in 1176 rfl rfl
set_option maxRecDepth 100000 in
theorem wlX11_263 : Cond.methodLink RX11 263 yX11_isRow ∈ jgw := jgw_in 1192 rfl rfl
set_option maxRecDepth 100000 in
theorem wlX11_267 : Cond.methodLink RX11 267 yX11_areRows ∈ jgw := jgw_in 1188 rfl rfl
set_option maxRecDepth 100000 in
theorem wlX11_276 : Cond.methodLink RX11 276 yX11_hasOuter ∈ jgw := jgw_in 1217 rfl rfl
set_option maxRecDepth 100000 in
theorem wlX11_279 : Cond.methodLink RX11 279 yX11_isOneRow ∈ jgw := jgw_in 1220 rfl rfl
set_option maxRecDepth 100000 in
theorem wlX11_282 : Cond.methodLink RX11 282 yX11_conditionsOfWay ∈ jgw := jgw_in 1213 rfl rfl
set_option maxRecDepth 100000 in
theorem wlX11_285 : Cond.methodLink RX11 285 yX11_tries ∈ jgw := jgw_in 1224 rfl rfl
set_option maxRecDepth 100000 in
theorem wlX11_292 : Cond.methodLink RX11 292 yX11_conditionsOfSeven ∈ jgw := jgw_in 1232 rfl rfl
set_option maxRecDepth 100000 in
theorem wlX11_295 : Cond.methodLink RX11 295 yX11_sumOf ∈ jgw := jgw_in 1228 rfl rfl
set_option maxRecDepth 100000 in
theorem wlX11_304 : Cond.methodLink RX11 304 yX11_worthOf ∈ jgw := jgw_in 1209 rfl rfl
set_option maxRecDepth 100000 in
theorem wmJ7_fill_53178 : jmS MJ7_fill_53178 2 := ⟨⟨jgw_in 71 rfl rfl, jgw_in 299 rfl rfl, by decide, by decide +kernel, by decide +kernel, by decide +kernel⟩, jgw_in 298 rfl rfl⟩
set_option maxRecDepth 100000 in
theorem wmJ7_fill_d0a16 : jmS MJ7_fill_d0a16 2 := ⟨⟨jgw_in 71 rfl rfl, jgw_in 124 rfl rfl, by decide, by decide +kernel, by decide +kernel, by decide +kernel⟩, jgw_in 123 rfl rfl⟩
set_option maxRecDepth 100000 in
theorem wmX0_code : jmS MX0_code 2 := ⟨⟨jgw_in 80 rfl rfl, jgw_in 466 rfl rfl, by decide, by decide +kernel, by decide +kernel, by decide +kernel⟩, jgw_in 465 rfl rfl⟩
set_option maxRecDepth 100000 in
theorem wmX0_hasOuter : jmS MX0_hasOuter 1 := ⟨⟨jgw_in 80 rfl rfl, jgw_in 759 rfl rfl, by decide, by decide +kernel, by decide +kernel, by decide +kernel⟩, jgw_in 758 rfl rfl⟩
set_option maxRecDepth 100000 in
theorem wmX0_kindOf : jmS MX0_kindOf 1 := ⟨⟨jgw_in 80 rfl rfl, jgw_in 752 rfl rfl, by decide, by decide +kernel, by decide +kernel, by decide +kernel⟩, jgw_in 751 rfl rfl⟩
set_option maxRecDepth 100000 in
theorem wmX0_sortOf : jmS MX0_sortOf 1 := ⟨⟨jgw_in 80 rfl rfl, jgw_in 749 rfl rfl, by decide, by decide +kernel, by decide +kernel, by decide +kernel⟩, jgw_in 748 rfl rfl⟩
set_option maxRecDepth 100000 in
theorem wmX0_tilesAlike : jmS MX0_tilesAlike 1 := ⟨⟨jgw_in 80 rfl rfl, jgw_in 458 rfl rfl, by decide, by decide +kernel, by decide +kernel, by decide +kernel⟩, jgw_in 457 rfl rfl⟩
set_option maxRecDepth 100000 in
theorem wmX10_bestThrow : jmV MX10_bestThrow 1 7 := ⟨⟨jgw_in 68 rfl rfl, jgw_in 682 rfl rfl, by decide, by decide +kernel, by decide +kernel, by decide +kernel⟩, jgw_in 681 rfl rfl, jgw_in 22 rfl rfl, RX10, TX10, 9, wcX10, rfl, by decide⟩
set_option maxRecDepth 100000 in
theorem wmX10_countHidden : jmV MX10_countHidden 1 7 := ⟨⟨jgw_in 68 rfl rfl, jgw_in 670 rfl rfl, by decide, by decide +kernel, by decide +kernel, by decide +kernel⟩, jgw_in 669 rfl rfl, jgw_in 21 rfl rfl, RX10, TX10, 9, wcX10, rfl, by decide⟩
set_option maxRecDepth 100000 in
theorem wmX10_drawNext : jmV MX10_drawNext 1 7 := ⟨⟨jgw_in 68 rfl rfl, jgw_in 424 rfl rfl, by decide, by decide +kernel, by decide +kernel, by decide +kernel⟩, jgw_in 423 rfl rfl, jgw_in 3 rfl rfl, RX10, TX10, 9, wcX10, rfl, by decide⟩
set_option maxRecDepth 100000 in
theorem wmX10_isHand : jmS MX10_isHand 1 := ⟨⟨jgw_in 68 rfl rfl, jgw_in 380 rfl rfl, by decide, by decide +kernel, by decide +kernel, by decide +kernel⟩, jgw_in 379 rfl rfl⟩
set_option maxRecDepth 100000 in
theorem wmX10_isRack : jmS MX10_isRack 1 := ⟨⟨jgw_in 68 rfl rfl, jgw_in 334 rfl rfl, by decide, by decide +kernel, by decide +kernel, by decide +kernel⟩, jgw_in 333 rfl rfl⟩
set_option maxRecDepth 100000 in
theorem wmX10_readAll : jmV MX10_readAll 4 7 := ⟨⟨jgw_in 68 rfl rfl, jgw_in 388 rfl rfl, by decide, by decide +kernel, by decide +kernel, by decide +kernel⟩, jgw_in 387 rfl rfl, jgw_in 1 rfl rfl, RX10, TX10, 9, wcX10, rfl, by decide⟩
set_option maxRecDepth 100000 in
theorem wmX10_reckonWithout : jmV MX10_reckonWithout 2 7 := ⟨⟨jgw_in 68 rfl rfl, jgw_in 654 rfl rfl, by decide, by decide +kernel, by decide +kernel, by decide +kernel⟩, jgw_in 653 rfl rfl, jgw_in 20 rfl rfl, RX10, TX10, 9, wcX10, rfl, by decide⟩
set_option maxRecDepth 100000 in
theorem wmX10_refusalOfPlace : jmV MX10_refusalOfPlace 2 7 := ⟨⟨jgw_in 68 rfl rfl, jgw_in 347 rfl rfl, by decide, by decide +kernel, by decide +kernel, by decide +kernel⟩, jgw_in 346 rfl rfl, jgw_in 0 rfl rfl, RX10, TX10, 9, wcX10, rfl, by decide⟩
set_option maxRecDepth 100000 in
theorem wmX10_refusalOfThrow : jmV MX10_refusalOfThrow 2 7 := ⟨⟨jgw_in 68 rfl rfl, jgw_in 650 rfl rfl, by decide, by decide +kernel, by decide +kernel, by decide +kernel⟩, jgw_in 649 rfl rfl, jgw_in 19 rfl rfl, RX10, TX10, 9, wcX10, rfl, by decide⟩
set_option maxRecDepth 100000 in
theorem wmX10_secondTiles : jmV MX10_secondTiles 1 7 := ⟨⟨jgw_in 68 rfl rfl, jgw_in 698 rfl rfl, by decide, by decide +kernel, by decide +kernel, by decide +kernel⟩, jgw_in 697 rfl rfl, jgw_in 23 rfl rfl, RX10, TX10, 9, wcX10, rfl, by decide⟩
set_option maxRecDepth 100000 in
theorem wmX10_unread : jmV MX10_unread 4 7 := ⟨⟨jgw_in 68 rfl rfl, jgw_in 395 rfl rfl, by decide, by decide +kernel, by decide +kernel, by decide +kernel⟩, jgw_in 394 rfl rfl, jgw_in 2 rfl rfl, RX10, TX10, 9, wcX10, rfl, by decide⟩
set_option maxRecDepth 100000 in
theorem wmX11_addOpen : jmV MX11_addOpen 1 8 := ⟨⟨jgw_in 77 rfl rfl, jgw_in 1072 rfl rfl, by decide, by decide +kernel, by decide +kernel, by decide +kernel⟩, jgw_in 1071 rfl rfl, jgw_in 40 rfl rfl, RX11, TX11, 32, wcX11, rfl, by decide⟩
set_option maxRecDepth 100000 in
theorem wmX11_against : jmV MX11_against 2 8 := ⟨⟨jgw_in 77 rfl rfl, jgw_in 1147 rfl rfl, by decide, by decide +kernel, by decide +kernel, by decide +kernel⟩, jgw_in 1146 rfl rfl, jgw_in 54 rfl rfl, RX11, TX11, 32, wcX11, rfl, by decide⟩
set_option maxRecDepth 100000 in
theorem wmX11_areRows : jmV MX11_areRows 4 8 := ⟨⟨jgw_in 77 rfl rfl, jgw_in 1191 rfl rfl, by decide, by decide +kernel, by decide +kernel, by decide +kernel⟩, jgw_in 1190 rfl rfl, jgw_in 59 rfl rfl, RX11, TX11, 32, wcX11, rfl, by decide⟩
set_option maxRecDepth 100000 in
theorem wmX11_begins : jmS MX11_begins 1 := ⟨⟨jgw_in 77 rfl rfl, jgw_in 996 rfl rfl, by decide, by decide +kernel, by decide +kernel, by decide +kernel⟩, jgw_in 995 rfl rfl⟩
set_option maxRecDepth 100000 in
theorem wmX11_better : jmV MX11_better 2 8 := ⟨⟨jgw_in 77 rfl rfl, jgw_in 1096 rfl rfl, by decide, by decide +kernel, by decide +kernel, by decide +kernel⟩, jgw_in 1095 rfl rfl, jgw_in 45 rfl rfl, RX11, TX11, 32, wcX11, rfl, by decide⟩
set_option maxRecDepth 100000 in
theorem wmX11_change : jmV MX11_change 2 8 := ⟨⟨jgw_in 77 rfl rfl, jgw_in 1131 rfl rfl, by decide, by decide +kernel, by decide +kernel, by decide +kernel⟩, jgw_in 1130 rfl rfl, jgw_in 52 rfl rfl, RX11, TX11, 32, wcX11, rfl, by decide⟩
set_option maxRecDepth 100000 in
theorem wmX11_conditionsOfSeven : jmV MX11_conditionsOfSeven 0 8 := ⟨⟨jgw_in 77 rfl rfl, jgw_in 1235 rfl rfl, by decide, by decide +kernel, by decide +kernel, by decide +kernel⟩, jgw_in 1234 rfl rfl, jgw_in 66 rfl rfl, RX11, TX11, 32, wcX11, rfl, by decide⟩
set_option maxRecDepth 100000 in
theorem wmX11_conditionsOfWay : jmV MX11_conditionsOfWay 0 8 := ⟨⟨jgw_in 77 rfl rfl, jgw_in 1216 rfl rfl, by decide, by decide +kernel, by decide +kernel, by decide +kernel⟩, jgw_in 1215 rfl rfl, jgw_in 62 rfl rfl, RX11, TX11, 32, wcX11, rfl, by decide⟩
set_option maxRecDepth 100000 in
theorem wmX11_cut : jmS MX11_cut 2 := ⟨⟨jgw_in 77 rfl rfl, jgw_in 924 rfl rfl, by decide, by decide +kernel, by decide +kernel, by decide +kernel⟩, jgw_in 923 rfl rfl⟩
set_option maxRecDepth 100000 in
theorem wmX11_distanceOf : jmS MX11_distanceOf 1 := ⟨⟨jgw_in 77 rfl rfl, jgw_in 1115 rfl rfl, by decide, by decide +kernel, by decide +kernel, by decide +kernel⟩, jgw_in 1114 rfl rfl⟩
set_option maxRecDepth 100000 in
theorem wmX11_doneBy : jmV MX11_doneBy 0 8 := ⟨⟨jgw_in 77 rfl rfl, jgw_in 1033 rfl rfl, by decide, by decide +kernel, by decide +kernel, by decide +kernel⟩, jgw_in 1032 rfl rfl, jgw_in 34 rfl rfl, RX11, TX11, 32, wcX11, rfl, by decide⟩
set_option maxRecDepth 100000 in
theorem wmX11_drawn : jmV MX11_drawn 1 8 := ⟨⟨jgw_in 77 rfl rfl, jgw_in 973 rfl rfl, by decide, by decide +kernel, by decide +kernel, by decide +kernel⟩, jgw_in 972 rfl rfl, jgw_in 30 rfl rfl, RX11, TX11, 32, wcX11, rfl, by decide⟩
set_option maxRecDepth 100000 in
theorem wmX11_findWay : jmV MX11_findWay 1 8 := ⟨⟨jgw_in 77 rfl rfl, jgw_in 1037 rfl rfl, by decide, by decide +kernel, by decide +kernel, by decide +kernel⟩, jgw_in 1036 rfl rfl, jgw_in 35 rfl rfl, RX11, TX11, 32, wcX11, rfl, by decide⟩
set_option maxRecDepth 100000 in
theorem wmX11_gather : jmV MX11_gather 1 8 := ⟨⟨jgw_in 77 rfl rfl, jgw_in 985 rfl rfl, by decide, by decide +kernel, by decide +kernel, by decide +kernel⟩, jgw_in 984 rfl rfl, jgw_in 31 rfl rfl, RX11, TX11, 32, wcX11, rfl, by decide⟩
set_option maxRecDepth 100000 in
theorem wmX11_hasOuter : jmS MX11_hasOuter 1 := ⟨⟨jgw_in 77 rfl rfl, jgw_in 1219 rfl rfl, by decide, by decide +kernel, by decide +kernel, by decide +kernel⟩, jgw_in 1218 rfl rfl⟩
set_option maxRecDepth 100000 in
theorem wmX11_heldMany : jmV MX11_heldMany 1 8 := ⟨⟨jgw_in 77 rfl rfl, jgw_in 949 rfl rfl, by decide, by decide +kernel, by decide +kernel, by decide +kernel⟩, jgw_in 948 rfl rfl, jgw_in 28 rfl rfl, RX11, TX11, 32, wcX11, rfl, by decide⟩
set_option maxRecDepth 100000 in
theorem wmX11_helpAt : jmV MX11_helpAt 1 8 := ⟨⟨jgw_in 77 rfl rfl, jgw_in 1135 rfl rfl, by decide, by decide +kernel, by decide +kernel, by decide +kernel⟩, jgw_in 1134 rfl rfl, jgw_in 53 rfl rfl, RX11, TX11, 32, wcX11, rfl, by decide⟩
set_option maxRecDepth 100000 in
theorem wmX11_helped : jmV MX11_helped 3 8 := ⟨⟨jgw_in 77 rfl rfl, jgw_in 1123 rfl rfl, by decide, by decide +kernel, by decide +kernel, by decide +kernel⟩, jgw_in 1122 rfl rfl, jgw_in 50 rfl rfl, RX11, TX11, 32, wcX11, rfl, by decide⟩
set_option maxRecDepth 100000 in
theorem wmX11_helping : jmV MX11_helping 0 8 := ⟨⟨jgw_in 77 rfl rfl, jgw_in 1159 rfl rfl, by decide, by decide +kernel, by decide +kernel, by decide +kernel⟩, jgw_in 1158 rfl rfl, jgw_in 56 rfl rfl, RX11, TX11, 32, wcX11, rfl, by decide⟩
set_option maxRecDepth 100000 in
theorem wmX11_in : jmS MX11_in 3 := ⟨⟨jgw_in 77 rfl rfl, jgw_in 912 rfl rfl, by decide, by decide +kernel, by decide +kernel, by decide +kernel⟩, jgw_in 911 rfl rfl⟩
set_option maxRecDepth 100000 in
theorem wmX11_isFull : jmV MX11_isFull 1 8 := ⟨⟨jgw_in 77 rfl rfl, jgw_in 1025 rfl rfl, by decide, by decide +kernel, by decide +kernel, by decide +kernel⟩, jgw_in 1024 rfl rfl, jgw_in 32 rfl rfl, RX11, TX11, 32, wcX11, rfl, by decide⟩
set_option maxRecDepth 100000 in
theorem wmX11_isHand : jmS MX11_isHand 1 := ⟨⟨jgw_in 77 rfl rfl, jgw_in 940 rfl rfl, by decide, by decide +kernel, by decide +kernel, by decide +kernel⟩, jgw_in 939 rfl rfl⟩
set_option maxRecDepth 100000 in
theorem wmX11_isOneRow : jmV MX11_isOneRow 0 8 := ⟨⟨jgw_in 77 rfl rfl, jgw_in 1223 rfl rfl, by decide, by decide +kernel, by decide +kernel, by decide +kernel⟩, jgw_in 1222 rfl rfl, jgw_in 63 rfl rfl, RX11, TX11, 32, wcX11, rfl, by decide⟩
set_option maxRecDepth 100000 in
theorem wmX11_isOuter : jmS MX11_isOuter 1 := ⟨⟨jgw_in 77 rfl rfl, jgw_in 1059 rfl rfl, by decide, by decide +kernel, by decide +kernel, by decide +kernel⟩, jgw_in 1058 rfl rfl⟩
set_option maxRecDepth 100000 in
theorem wmX11_isOuterHand : jmV MX11_isOuterHand 0 8 := ⟨⟨jgw_in 77 rfl rfl, jgw_in 1056 rfl rfl, by decide, by decide +kernel, by decide +kernel, by decide +kernel⟩, jgw_in 1055 rfl rfl, jgw_in 39 rfl rfl, RX11, TX11, 32, wcX11, rfl, by decide⟩
set_option maxRecDepth 100000 in
theorem wmX11_isRack : jmS MX11_isRack 1 := ⟨⟨jgw_in 77 rfl rfl, jgw_in 908 rfl rfl, by decide, by decide +kernel, by decide +kernel, by decide +kernel⟩, jgw_in 907 rfl rfl⟩
set_option maxRecDepth 100000 in
theorem wmX11_isRow : jmV MX11_isRow 5 8 := ⟨⟨jgw_in 77 rfl rfl, jgw_in 1195 rfl rfl, by decide, by decide +kernel, by decide +kernel, by decide +kernel⟩, jgw_in 1194 rfl rfl, jgw_in 60 rfl rfl, RX11, TX11, 32, wcX11, rfl, by decide⟩
set_option maxRecDepth 100000 in
theorem wmX11_isSeven : jmV MX11_isSeven 0 8 := ⟨⟨jgw_in 77 rfl rfl, jgw_in 1052 rfl rfl, by decide, by decide +kernel, by decide +kernel, by decide +kernel⟩, jgw_in 1051 rfl rfl, jgw_in 38 rfl rfl, RX11, TX11, 32, wcX11, rfl, by decide⟩
set_option maxRecDepth 100000 in
theorem wmX11_isSort : jmS MX11_isSort 1 := ⟨⟨jgw_in 77 rfl rfl, jgw_in 952 rfl rfl, by decide, by decide +kernel, by decide +kernel, by decide +kernel⟩, jgw_in 951 rfl rfl⟩
set_option maxRecDepth 100000 in
theorem wmX11_isWay : jmV MX11_isWay 2 8 := ⟨⟨jgw_in 77 rfl rfl, jgw_in 1048 rfl rfl, by decide, by decide +kernel, by decide +kernel, by decide +kernel⟩, jgw_in 1047 rfl rfl, jgw_in 37 rfl rfl, RX11, TX11, 32, wcX11, rfl, by decide⟩
set_option maxRecDepth 100000 in
theorem wmX11_lackByWay : jmV MX11_lackByWay 0 8 := ⟨⟨jgw_in 77 rfl rfl, jgw_in 1104 rfl rfl, by decide, by decide +kernel, by decide +kernel, by decide +kernel⟩, jgw_in 1103 rfl rfl, jgw_in 47 rfl rfl, RX11, TX11, 32, wcX11, rfl, by decide⟩
set_option maxRecDepth 100000 in
theorem wmX11_lackOf : jmV MX11_lackOf 0 8 := ⟨⟨jgw_in 77 rfl rfl, jgw_in 1100 rfl rfl, by decide, by decide +kernel, by decide +kernel, by decide +kernel⟩, jgw_in 1099 rfl rfl, jgw_in 46 rfl rfl, RX11, TX11, 32, wcX11, rfl, by decide⟩
set_option maxRecDepth 100000 in
theorem wmX11_lackOfOuter : jmV MX11_lackOfOuter 0 8 := ⟨⟨jgw_in 77 rfl rfl, jgw_in 1112 rfl rfl, by decide, by decide +kernel, by decide +kernel, by decide +kernel⟩, jgw_in 1111 rfl rfl, jgw_in 49 rfl rfl, RX11, TX11, 32, wcX11, rfl, by decide⟩
set_option maxRecDepth 100000 in
theorem wmX11_lackOfSeven : jmV MX11_lackOfSeven 0 8 := ⟨⟨jgw_in 77 rfl rfl, jgw_in 1108 rfl rfl, by decide, by decide +kernel, by decide +kernel, by decide +kernel⟩, jgw_in 1107 rfl rfl, jgw_in 48 rfl rfl, RX11, TX11, 32, wcX11, rfl, by decide⟩
set_option maxRecDepth 100000 in
theorem wmX11_layAll : jmV MX11_layAll 0 8 := ⟨⟨jgw_in 77 rfl rfl, jgw_in 1080 rfl rfl, by decide, by decide +kernel, by decide +kernel, by decide +kernel⟩, jgw_in 1079 rfl rfl, jgw_in 41 rfl rfl, RX11, TX11, 32, wcX11, rfl, by decide⟩
set_option maxRecDepth 100000 in
theorem wmX11_layHelps : jmV MX11_layHelps 0 8 := ⟨⟨jgw_in 77 rfl rfl, jgw_in 1127 rfl rfl, by decide, by decide +kernel, by decide +kernel, by decide +kernel⟩, jgw_in 1126 rfl rfl, jgw_in 51 rfl rfl, RX11, TX11, 32, wcX11, rfl, by decide⟩
set_option maxRecDepth 100000 in
theorem wmX11_layLacks : jmV MX11_layLacks 1 8 := ⟨⟨jgw_in 77 rfl rfl, jgw_in 1084 rfl rfl, by decide, by decide +kernel, by decide +kernel, by decide +kernel⟩, jgw_in 1083 rfl rfl, jgw_in 42 rfl rfl, RX11, TX11, 32, wcX11, rfl, by decide⟩
set_option maxRecDepth 100000 in
theorem wmX11_layUnseen : jmV MX11_layUnseen 1 8 := ⟨⟨jgw_in 77 rfl rfl, jgw_in 1155 rfl rfl, by decide, by decide +kernel, by decide +kernel, by decide +kernel⟩, jgw_in 1154 rfl rfl, jgw_in 55 rfl rfl, RX11, TX11, 32, wcX11, rfl, by decide⟩
set_option maxRecDepth 100000 in
theorem wmX11_look : jmV MX11_look 1 8 := ⟨⟨jgw_in 77 rfl rfl, jgw_in 1029 rfl rfl, by decide, by decide +kernel, by decide +kernel, by decide +kernel⟩, jgw_in 1028 rfl rfl, jgw_in 33 rfl rfl, RX11, TX11, 32, wcX11, rfl, by decide⟩
set_option maxRecDepth 100000 in
theorem wmX11_making : jmV MX11_making 0 8 := ⟨⟨jgw_in 77 rfl rfl, jgw_in 1175 rfl rfl, by decide, by decide +kernel, by decide +kernel, by decide +kernel⟩, jgw_in 1174 rfl rfl, jgw_in 57 rfl rfl, RX11, TX11, 32, wcX11, rfl, by decide⟩
set_option maxRecDepth 100000 in
theorem wmX11_makingBest : jmV MX11_makingBest 0 8 := ⟨⟨jgw_in 77 rfl rfl, jgw_in 1179 rfl rfl, by decide, by decide +kernel, by decide +kernel, by decide +kernel⟩, jgw_in 1178 rfl rfl, jgw_in 58 rfl rfl, RX11, TX11, 32, wcX11, rfl, by decide⟩
set_option maxRecDepth 100000 in
theorem wmX11_mayBe : jmV MX11_mayBe 1 8 := ⟨⟨jgw_in 77 rfl rfl, jgw_in 1041 rfl rfl, by decide, by decide +kernel, by decide +kernel, by decide +kernel⟩, jgw_in 1040 rfl rfl, jgw_in 36 rfl rfl, RX11, TX11, 32, wcX11, rfl, by decide⟩
set_option maxRecDepth 100000 in
theorem wmX11_move : jmV MX11_move 0 8 := ⟨⟨jgw_in 77 rfl rfl, jgw_in 1088 rfl rfl, by decide, by decide +kernel, by decide +kernel, by decide +kernel⟩, jgw_in 1087 rfl rfl, jgw_in 43 rfl rfl, RX11, TX11, 32, wcX11, rfl, by decide⟩
set_option maxRecDepth 100000 in
theorem wmX11_rowOf : jmS MX11_rowOf 1 := ⟨⟨jgw_in 77 rfl rfl, jgw_in 1044 rfl rfl, by decide, by decide +kernel, by decide +kernel, by decide +kernel⟩, jgw_in 1043 rfl rfl⟩
set_option maxRecDepth 100000 in
theorem wmX11_sizeOf : jmV MX11_sizeOf 1 8 := ⟨⟨jgw_in 77 rfl rfl, jgw_in 945 rfl rfl, by decide, by decide +kernel, by decide +kernel, by decide +kernel⟩, jgw_in 944 rfl rfl, jgw_in 27 rfl rfl, RX11, TX11, 32, wcX11, rfl, by decide⟩
set_option maxRecDepth 100000 in
theorem wmX11_step : jmV MX11_step 7 8 := ⟨⟨jgw_in 77 rfl rfl, jgw_in 1092 rfl rfl, by decide, by decide +kernel, by decide +kernel, by decide +kernel⟩, jgw_in 1091 rfl rfl, jgw_in 44 rfl rfl, RX11, TX11, 32, wcX11, rfl, by decide⟩
set_option maxRecDepth 100000 in
theorem wmX11_sumOf : jmV MX11_sumOf 1 8 := ⟨⟨jgw_in 77 rfl rfl, jgw_in 1231 rfl rfl, by decide, by decide +kernel, by decide +kernel, by decide +kernel⟩, jgw_in 1230 rfl rfl, jgw_in 65 rfl rfl, RX11, TX11, 32, wcX11, rfl, by decide⟩
set_option maxRecDepth 100000 in
theorem wmX11_tries : jmV MX11_tries 3 8 := ⟨⟨jgw_in 77 rfl rfl, jgw_in 1227 rfl rfl, by decide, by decide +kernel, by decide +kernel, by decide +kernel⟩, jgw_in 1226 rfl rfl, jgw_in 64 rfl rfl, RX11, TX11, 32, wcX11, rfl, by decide⟩
set_option maxRecDepth 100000 in
theorem wmX11_wallMany : jmV MX11_wallMany 0 8 := ⟨⟨jgw_in 77 rfl rfl, jgw_in 969 rfl rfl, by decide, by decide +kernel, by decide +kernel, by decide +kernel⟩, jgw_in 968 rfl rfl, jgw_in 29 rfl rfl, RX11, TX11, 32, wcX11, rfl, by decide⟩
set_option maxRecDepth 100000 in
theorem wmX11_within : jmS MX11_within 2 := ⟨⟨jgw_in 77 rfl rfl, jgw_in 999 rfl rfl, by decide, by decide +kernel, by decide +kernel, by decide +kernel⟩, jgw_in 998 rfl rfl⟩
set_option maxRecDepth 100000 in
theorem wmX11_worthOf : jmV MX11_worthOf 1 8 := ⟨⟨jgw_in 77 rfl rfl, jgw_in 1212 rfl rfl, by decide, by decide +kernel, by decide +kernel, by decide +kernel⟩, jgw_in 1211 rfl rfl, jgw_in 61 rfl rfl, RX11, TX11, 32, wcX11, rfl, by decide⟩
set_option maxRecDepth 100000 in
theorem wmX1_canLay : jmV MX1_canLay 2 0 := ⟨⟨jgw_in 76 rfl rfl, jgw_in 455 rfl rfl, by decide, by decide +kernel, by decide +kernel, by decide +kernel⟩, jgw_in 453 rfl rfl, jgw_in 454 rfl rfl, RX1, TX1, 5, wcX1, rfl, by decide⟩
set_option maxRecDepth 100000 in
theorem wmX1_gain : jmV MX1_gain 1 0 := ⟨⟨jgw_in 76 rfl rfl, jgw_in 403 rfl rfl, by decide, by decide +kernel, by decide +kernel, by decide +kernel⟩, jgw_in 401 rfl rfl, jgw_in 402 rfl rfl, RX1, TX1, 5, wcX1, rfl, by decide⟩
set_option maxRecDepth 100000 in
theorem wmX1_giveBack : jmV MX1_giveBack 1 0 := ⟨⟨jgw_in 76 rfl rfl, jgw_in 438 rfl rfl, by decide, by decide +kernel, by decide +kernel, by decide +kernel⟩, jgw_in 436 rfl rfl, jgw_in 437 rfl rfl, RX1, TX1, 5, wcX1, rfl, by decide⟩
set_option maxRecDepth 100000 in
theorem wmX1_isFull : jmV MX1_isFull 0 0 := ⟨⟨jgw_in 76 rfl rfl, jgw_in 411 rfl rfl, by decide, by decide +kernel, by decide +kernel, by decide +kernel⟩, jgw_in 409 rfl rfl, jgw_in 410 rfl rfl, RX1, TX1, 5, wcX1, rfl, by decide⟩
set_option maxRecDepth 100000 in
theorem wmX1_lay : jmV MX1_lay 2 0 := ⟨⟨jgw_in 76 rfl rfl, jgw_in 462 rfl rfl, by decide, by decide +kernel, by decide +kernel, by decide +kernel⟩, jgw_in 460 rfl rfl, jgw_in 461 rfl rfl, RX1, TX1, 5, wcX1, rfl, by decide⟩
set_option maxRecDepth 100000 in
theorem wmX1_lose : jmV MX1_lose 1 0 := ⟨⟨jgw_in 76 rfl rfl, jgw_in 399 rfl rfl, by decide, by decide +kernel, by decide +kernel, by decide +kernel⟩, jgw_in 397 rfl rfl, jgw_in 398 rfl rfl, RX1, TX1, 5, wcX1, rfl, by decide⟩
set_option maxRecDepth 100000 in
theorem wmX1_rests : jmV MX1_rests 0 0 := ⟨⟨jgw_in 76 rfl rfl, jgw_in 553 rfl rfl, by decide, by decide +kernel, by decide +kernel, by decide +kernel⟩, jgw_in 551 rfl rfl, jgw_in 552 rfl rfl, RX1, TX1, 5, wcX1, rfl, by decide⟩
set_option maxRecDepth 100000 in
theorem wmX1_size : jmV MX1_size 0 0 := ⟨⟨jgw_in 76 rfl rfl, jgw_in 384 rfl rfl, by decide, by decide +kernel, by decide +kernel, by decide +kernel⟩, jgw_in 382 rfl rfl, jgw_in 383 rfl rfl, RX1, TX1, 5, wcX1, rfl, by decide⟩
set_option maxRecDepth 100000 in
theorem wmX2_conditionsOfSeven : jmS MX2_conditionsOfSeven 1 := ⟨⟨jgw_in 72 rfl rfl, jgw_in 785 rfl rfl, by decide, by decide +kernel, by decide +kernel, by decide +kernel⟩, jgw_in 784 rfl rfl⟩
set_option maxRecDepth 100000 in
theorem wmX2_consider : jmV MX2_consider 2 1 := ⟨⟨jgw_in 72 rfl rfl, jgw_in 771 rfl rfl, by decide, by decide +kernel, by decide +kernel, by decide +kernel⟩, jgw_in 770 rfl rfl, jgw_in 25 rfl rfl, RX2, TX2, 6, wcX2, rfl, by decide⟩
set_option maxRecDepth 100000 in
theorem wmX2_howDone : jmV MX2_howDone 1 1 := ⟨⟨jgw_in 72 rfl rfl, jgw_in 490 rfl rfl, by decide, by decide +kernel, by decide +kernel, by decide +kernel⟩, jgw_in 488 rfl rfl, jgw_in 489 rfl rfl, RX2, TX2, 6, wcX2, rfl, by decide⟩
set_option maxRecDepth 100000 in
theorem wmX2_isOuterOnes : jmV MX2_isOuterOnes 1 1 := ⟨⟨jgw_in 72 rfl rfl, jgw_in 523 rfl rfl, by decide, by decide +kernel, by decide +kernel, by decide +kernel⟩, jgw_in 522 rfl rfl, jgw_in 7 rfl rfl, RX2, TX2, 6, wcX2, rfl, by decide⟩
set_option maxRecDepth 100000 in
theorem wmX2_isSeven : jmV MX2_isSeven 1 1 := ⟨⟨jgw_in 72 rfl rfl, jgw_in 513 rfl rfl, by decide, by decide +kernel, by decide +kernel, by decide +kernel⟩, jgw_in 512 rfl rfl, jgw_in 6 rfl rfl, RX2, TX2, 6, wcX2, rfl, by decide⟩
set_option maxRecDepth 100000 in
theorem wmX2_weigh : jmV MX2_weigh 1 1 := ⟨⟨jgw_in 72 rfl rfl, jgw_in 740 rfl rfl, by decide, by decide +kernel, by decide +kernel, by decide +kernel⟩, jgw_in 738 rfl rfl, jgw_in 739 rfl rfl, RX2, TX2, 6, wcX2, rfl, by decide⟩
set_option maxRecDepth 100000 in
theorem wmX3_addAllBut : jmV MX3_addAllBut 1 2 := ⟨⟨jgw_in 70 rfl rfl, jgw_in 596 rfl rfl, by decide, by decide +kernel, by decide +kernel, by decide +kernel⟩, jgw_in 595 rfl rfl, jgw_in 14 rfl rfl, RX3, TX3, 14, wcX3, rfl, by decide⟩
set_option maxRecDepth 100000 in
theorem wmX3_addRow : jmV MX3_addRow 1 2 := ⟨⟨jgw_in 70 rfl rfl, jgw_in 600 rfl rfl, by decide, by decide +kernel, by decide +kernel, by decide +kernel⟩, jgw_in 599 rfl rfl, jgw_in 15 rfl rfl, RX3, TX3, 14, wcX3, rfl, by decide⟩
set_option maxRecDepth 100000 in
theorem wmX3_change : jmV MX3_change 2 2 := ⟨⟨jgw_in 70 rfl rfl, jgw_in 658 rfl rfl, by decide, by decide +kernel, by decide +kernel, by decide +kernel⟩, jgw_in 656 rfl rfl, jgw_in 657 rfl rfl, RX3, TX3, 14, wcX3, rfl, by decide⟩
set_option maxRecDepth 100000 in
theorem wmX3_goThrough : jmV MX3_goThrough 1 2 := ⟨⟨jgw_in 70 rfl rfl, jgw_in 579 rfl rfl, by decide, by decide +kernel, by decide +kernel, by decide +kernel⟩, jgw_in 578 rfl rfl, jgw_in 11 rfl rfl, RX3, TX3, 14, wcX3, rfl, by decide⟩
set_option maxRecDepth 100000 in
theorem wmX3_helper : jmV MX3_helper 1 2 := ⟨⟨jgw_in 70 rfl rfl, jgw_in 634 rfl rfl, by decide, by decide +kernel, by decide +kernel, by decide +kernel⟩, jgw_in 632 rfl rfl, jgw_in 633 rfl rfl, RX3, TX3, 14, wcX3, rfl, by decide⟩
set_option maxRecDepth 100000 in
theorem wmX3_helpingOf : jmV MX3_helpingOf 1 2 := ⟨⟨jgw_in 70 rfl rfl, jgw_in 674 rfl rfl, by decide, by decide +kernel, by decide +kernel, by decide +kernel⟩, jgw_in 672 rfl rfl, jgw_in 673 rfl rfl, RX3, TX3, 14, wcX3, rfl, by decide⟩
set_option maxRecDepth 100000 in
theorem wmX3_isHelper : jmV MX3_isHelper 1 2 := ⟨⟨jgw_in 70 rfl rfl, jgw_in 638 rfl rfl, by decide, by decide +kernel, by decide +kernel, by decide +kernel⟩, jgw_in 637 rfl rfl, jgw_in 18 rfl rfl, RX3, TX3, 14, wcX3, rfl, by decide⟩
set_option maxRecDepth 100000 in
theorem wmX3_keyOf : jmV MX3_keyOf 1 2 := ⟨⟨jgw_in 70 rfl rfl, jgw_in 570 rfl rfl, by decide, by decide +kernel, by decide +kernel, by decide +kernel⟩, jgw_in 569 rfl rfl, jgw_in 10 rfl rfl, RX3, TX3, 14, wcX3, rfl, by decide⟩
set_option maxRecDepth 100000 in
theorem wmX3_leastWith : jmV MX3_leastWith 2 2 := ⟨⟨jgw_in 70 rfl rfl, jgw_in 604 rfl rfl, by decide, by decide +kernel, by decide +kernel, by decide +kernel⟩, jgw_in 603 rfl rfl, jgw_in 16 rfl rfl, RX3, TX3, 14, wcX3, rfl, by decide⟩
set_option maxRecDepth 100000 in
theorem wmX3_less : jmV MX3_less 2 2 := ⟨⟨jgw_in 70 rfl rfl, jgw_in 592 rfl rfl, by decide, by decide +kernel, by decide +kernel, by decide +kernel⟩, jgw_in 591 rfl rfl, jgw_in 13 rfl rfl, RX3, TX3, 14, wcX3, rfl, by decide⟩
set_option maxRecDepth 100000 in
theorem wmX3_look : jmV MX3_look 2 2 := ⟨⟨jgw_in 70 rfl rfl, jgw_in 561 rfl rfl, by decide, by decide +kernel, by decide +kernel, by decide +kernel⟩, jgw_in 560 rfl rfl, jgw_in 8 rfl rfl, RX3, TX3, 14, wcX3, rfl, by decide⟩
set_option maxRecDepth 100000 in
theorem wmX3_ofRow : jmV MX3_ofRow 4 2 := ⟨⟨jgw_in 70 rfl rfl, jgw_in 690 rfl rfl, by decide, by decide +kernel, by decide +kernel, by decide +kernel⟩, jgw_in 688 rfl rfl, jgw_in 689 rfl rfl, RX3, TX3, 14, wcX3, rfl, by decide⟩
set_option maxRecDepth 100000 in
theorem wmX3_offer : jmV MX3_offer 2 2 := ⟨⟨jgw_in 70 rfl rfl, jgw_in 617 rfl rfl, by decide, by decide +kernel, by decide +kernel, by decide +kernel⟩, jgw_in 616 rfl rfl, jgw_in 17 rfl rfl, RX3, TX3, 14, wcX3, rfl, by decide⟩
set_option maxRecDepth 100000 in
theorem wmX3_reckon : jmV MX3_reckon 2 2 := ⟨⟨jgw_in 70 rfl rfl, jgw_in 557 rfl rfl, by decide, by decide +kernel, by decide +kernel, by decide +kernel⟩, jgw_in 555 rfl rfl, jgw_in 556 rfl rfl, RX3, TX3, 14, wcX3, rfl, by decide⟩
set_option maxRecDepth 100000 in
theorem wmX3_spread : jmV MX3_spread 4 2 := ⟨⟨jgw_in 70 rfl rfl, jgw_in 584 rfl rfl, by decide, by decide +kernel, by decide +kernel, by decide +kernel⟩, jgw_in 583 rfl rfl, jgw_in 12 rfl rfl, RX3, TX3, 14, wcX3, rfl, by decide⟩
set_option maxRecDepth 100000 in
theorem wmX3_tilesOf : jmS MX3_tilesOf 1 := ⟨⟨jgw_in 70 rfl rfl, jgw_in 613 rfl rfl, by decide, by decide +kernel, by decide +kernel, by decide +kernel⟩, jgw_in 612 rfl rfl⟩
set_option maxRecDepth 100000 in
theorem wmX3_total : jmV MX3_total 0 2 := ⟨⟨jgw_in 70 rfl rfl, jgw_in 610 rfl rfl, by decide, by decide +kernel, by decide +kernel, by decide +kernel⟩, jgw_in 608 rfl rfl, jgw_in 609 rfl rfl, RX3, TX3, 14, wcX3, rfl, by decide⟩
set_option maxRecDepth 100000 in
theorem wmX3_workOut : jmV MX3_workOut 1 2 := ⟨⟨jgw_in 70 rfl rfl, jgw_in 566 rfl rfl, by decide, by decide +kernel, by decide +kernel, by decide +kernel⟩, jgw_in 565 rfl rfl, jgw_in 9 rfl rfl, RX3, TX3, 14, wcX3, rfl, by decide⟩
set_option maxRecDepth 100000 in
theorem wmX4_hasOuterPair : jmS MX4_hasOuterPair 1 := ⟨⟨jgw_in 69 rfl rfl, jgw_in 532 rfl rfl, by decide, by decide +kernel, by decide +kernel, by decide +kernel⟩, jgw_in 531 rfl rfl⟩
set_option maxRecDepth 100000 in
theorem wmX4_helpersOfOuter : jmS MX4_helpersOfOuter 1 := ⟨⟨jgw_in 69 rfl rfl, jgw_in 625 rfl rfl, by decide, by decide +kernel, by decide +kernel, by decide +kernel⟩, jgw_in 624 rfl rfl⟩
set_option maxRecDepth 100000 in
theorem wmX4_helpersOfSeven : jmS MX4_helpersOfSeven 1 := ⟨⟨jgw_in 69 rfl rfl, jgw_in 621 rfl rfl, by decide, by decide +kernel, by decide +kernel, by decide +kernel⟩, jgw_in 620 rfl rfl⟩
set_option maxRecDepth 100000 in
theorem wmX4_lackOfOuter : jmS MX4_lackOfOuter 1 := ⟨⟨jgw_in 69 rfl rfl, jgw_in 526 rfl rfl, by decide, by decide +kernel, by decide +kernel, by decide +kernel⟩, jgw_in 525 rfl rfl⟩
set_option maxRecDepth 100000 in
theorem wmX4_lackOfSeven : jmS MX4_lackOfSeven 1 := ⟨⟨jgw_in 69 rfl rfl, jgw_in 516 rfl rfl, by decide, by decide +kernel, by decide +kernel, by decide +kernel⟩, jgw_in 515 rfl rfl⟩
set_option maxRecDepth 100000 in
theorem wmX5_become : jmV MX5_become 2 4 := ⟨⟨jgw_in 75 rfl rfl, jgw_in 338 rfl rfl, by decide, by decide +kernel, by decide +kernel, by decide +kernel⟩, jgw_in 336 rfl rfl, jgw_in 337 rfl rfl, RX5, TX5, 3, wcX5, rfl, by decide⟩
set_option maxRecDepth 100000 in
theorem wmX5_isMissing : jmV MX5_isMissing 0 4 := ⟨⟨jgw_in 75 rfl rfl, jgw_in 352 rfl rfl, by decide, by decide +kernel, by decide +kernel, by decide +kernel⟩, jgw_in 350 rfl rfl, jgw_in 351 rfl rfl, RX5, TX5, 3, wcX5, rfl, by decide⟩
set_option maxRecDepth 100000 in
theorem wmX5_keep : jmV MX5_keep 2 4 := ⟨⟨jgw_in 75 rfl rfl, jgw_in 358 rfl rfl, by decide, by decide +kernel, by decide +kernel, by decide +kernel⟩, jgw_in 356 rfl rfl, jgw_in 357 rfl rfl, RX5, TX5, 3, wcX5, rfl, by decide⟩
set_option maxRecDepth 100000 in
theorem wmX5_reaches : jmV MX5_reaches 2 4 := ⟨⟨jgw_in 75 rfl rfl, jgw_in 366 rfl rfl, by decide, by decide +kernel, by decide +kernel, by decide +kernel⟩, jgw_in 364 rfl rfl, jgw_in 365 rfl rfl, RX5, TX5, 3, wcX5, rfl, by decide⟩
set_option maxRecDepth 100000 in
theorem wmX6_add : jmV MX6_add 3 5 := ⟨⟨jgw_in 74 rfl rfl, jgw_in 728 rfl rfl, by decide, by decide +kernel, by decide +kernel, by decide +kernel⟩, jgw_in 726 rfl rfl, jgw_in 727 rfl rfl, RX6, TX6, 4, wcX6, rfl, by decide⟩
set_option maxRecDepth 100000 in
theorem wmX6_bit : jmS MX6_bit 2 := ⟨⟨jgw_in 74 rfl rfl, jgw_in 766 rfl rfl, by decide, by decide +kernel, by decide +kernel, by decide +kernel⟩, jgw_in 765 rfl rfl⟩
set_option maxRecDepth 100000 in
theorem wmX6_isCondition : jmS MX6_isCondition 1 := ⟨⟨jgw_in 74 rfl rfl, jgw_in 724 rfl rfl, by decide, by decide +kernel, by decide +kernel, by decide +kernel⟩, jgw_in 723 rfl rfl⟩
set_option maxRecDepth 100000 in
theorem wmX6_isIn : jmS MX6_isIn 2 := ⟨⟨jgw_in 74 rfl rfl, jgw_in 778 rfl rfl, by decide, by decide +kernel, by decide +kernel, by decide +kernel⟩, jgw_in 777 rfl rfl⟩
set_option maxRecDepth 100000 in
theorem wmX6_isPutOut : jmV MX6_isPutOut 2 5 := ⟨⟨jgw_in 74 rfl rfl, jgw_in 782 rfl rfl, by decide, by decide +kernel, by decide +kernel, by decide +kernel⟩, jgw_in 781 rfl rfl, jgw_in 26 rfl rfl, RX6, TX6, 4, wcX6, rfl, by decide⟩
set_option maxRecDepth 100000 in
theorem wmX6_sumOf : jmV MX6_sumOf 1 5 := ⟨⟨jgw_in 74 rfl rfl, jgw_in 775 rfl rfl, by decide, by decide +kernel, by decide +kernel, by decide +kernel⟩, jgw_in 773 rfl rfl, jgw_in 774 rfl rfl, RX6, TX6, 4, wcX6, rfl, by decide⟩
set_option maxRecDepth 100000 in
theorem wmX7_lastRowKey : jmS MX7_lastRowKey 1 := ⟨⟨jgw_in 82 rfl rfl, jgw_in 717 rfl rfl, by decide, by decide +kernel, by decide +kernel, by decide +kernel⟩, jgw_in 716 rfl rfl⟩
set_option maxRecDepth 100000 in
theorem wmX7_rowKey : jmS MX7_rowKey 2 := ⟨⟨jgw_in 82 rfl rfl, jgw_in 712 rfl rfl, by decide, by decide +kernel, by decide +kernel, by decide +kernel⟩, jgw_in 711 rfl rfl⟩
set_option maxRecDepth 100000 in
theorem wmX7_same : jmS MX7_same 2 := ⟨⟨jgw_in 82 rfl rfl, jgw_in 709 rfl rfl, by decide, by decide +kernel, by decide +kernel, by decide +kernel⟩, jgw_in 708 rfl rfl⟩
set_option maxRecDepth 100000 in
theorem wmX8_isOuter : jmS MX8_isOuter 1 := ⟨⟨jgw_in 79 rfl rfl, jgw_in 529 rfl rfl, by decide, by decide +kernel, by decide +kernel, by decide +kernel⟩, jgw_in 528 rfl rfl⟩
set_option maxRecDepth 100000 in
theorem wmX8_isSort : jmS MX8_isSort 1 := ⟨⟨jgw_in 79 rfl rfl, jgw_in 391 rfl rfl, by decide, by decide +kernel, by decide +kernel, by decide +kernel⟩, jgw_in 390 rfl rfl⟩
set_option maxRecDepth 100000 in
theorem wmX8_lengthOf : jmS MX8_lengthOf 1 := ⟨⟨jgw_in 79 rfl rfl, jgw_in 573 rfl rfl, by decide, by decide +kernel, by decide +kernel, by decide +kernel⟩, jgw_in 572 rfl rfl⟩
set_option maxRecDepth 100000 in
theorem wmX8_rowOf : jmS MX8_rowOf 1 := ⟨⟨jgw_in 79 rfl rfl, jgw_in 661 rfl rfl, by decide, by decide +kernel, by decide +kernel, by decide +kernel⟩, jgw_in 660 rfl rfl⟩
set_option maxRecDepth 100000 in
theorem wmX8_startsRun : jmS MX8_startsRun 1 := ⟨⟨jgw_in 79 rfl rfl, jgw_in 451 rfl rfl, by decide, by decide +kernel, by decide +kernel, by decide +kernel⟩, jgw_in 450 rfl rfl⟩
set_option maxRecDepth 100000 in
theorem wmX8_sum : jmS MX8_sum 1 := ⟨⟨jgw_in 79 rfl rfl, jgw_in 427 rfl rfl, by decide, by decide +kernel, by decide +kernel, by decide +kernel⟩, jgw_in 426 rfl rfl⟩
set_option maxRecDepth 100000 in
theorem wmX9_codeAt : jmV MX9_codeAt 2 6 := ⟨⟨jgw_in 73 rfl rfl, jgw_in 545 rfl rfl, by decide, by decide +kernel, by decide +kernel, by decide +kernel⟩, jgw_in 543 rfl rfl, jgw_in 544 rfl rfl, RX9, TX9, 5, wcX9, rfl, by decide⟩
set_option maxRecDepth 100000 in
theorem wmX9_conditionsOf : jmV MX9_conditionsOf 1 6 := ⟨⟨jgw_in 73 rfl rfl, jgw_in 745 rfl rfl, by decide, by decide +kernel, by decide +kernel, by decide +kernel⟩, jgw_in 743 rfl rfl, jgw_in 744 rfl rfl, RX9, TX9, 5, wcX9, rfl, by decide⟩
set_option maxRecDepth 100000 in
theorem wmX9_find : jmV MX9_find 1 6 := ⟨⟨jgw_in 73 rfl rfl, jgw_in 495 rfl rfl, by decide, by decide +kernel, by decide +kernel, by decide +kernel⟩, jgw_in 493 rfl rfl, jgw_in 494 rfl rfl, RX9, TX9, 5, wcX9, rfl, by decide⟩
set_option maxRecDepth 100000 in
theorem wmX9_keepPath : jmV MX9_keepPath 0 6 := ⟨⟨jgw_in 73 rfl rfl, jgw_in 504 rfl rfl, by decide, by decide +kernel, by decide +kernel, by decide +kernel⟩, jgw_in 503 rfl rfl, jgw_in 4 rfl rfl, RX9, TX9, 5, wcX9, rfl, by decide⟩
set_option maxRecDepth 100000 in
theorem wmX9_seek : jmS MX9_seek 4 := ⟨⟨jgw_in 73 rfl rfl, jgw_in 500 rfl rfl, by decide, by decide +kernel, by decide +kernel, by decide +kernel⟩, jgw_in 499 rfl rfl⟩
set_option maxRecDepth 100000 in
theorem wmX9_shiftRun : jmV MX9_shiftRun 2 6 := ⟨⟨jgw_in 73 rfl rfl, jgw_in 509 rfl rfl, by decide, by decide +kernel, by decide +kernel, by decide +kernel⟩, jgw_in 508 rfl rfl, jgw_in 5 rfl rfl, RX9, TX9, 5, wcX9, rfl, by decide⟩
set_option maxRecDepth 100000 in
theorem wmX9_stoodAhead : jmV MX9_stoodAhead 2 6 := ⟨⟨jgw_in 73 rfl rfl, jgw_in 756 rfl rfl, by decide, by decide +kernel, by decide +kernel, by decide +kernel⟩, jgw_in 755 rfl rfl, jgw_in 24 rfl rfl, RX9, TX9, 5, wcX9, rfl, by decide⟩
set_option maxRecDepth 100000 in
theorem wq_max : Cond.static Lib.Math.max.name ∈ jgw ∧ Cond.initialized "java/lang/Math" ∈ jgw ∧ Cond.code Lib.Math.max.name Lib.Math.max.code 2 (some .int) ∈ jgw := ⟨jgw_in 587 rfl rfl, jgw_in 81 rfl rfl, jgw_in 588 (by decide +kernel) (by decide +kernel)⟩
set_option maxRecDepth 100000 in
theorem wq_min : Cond.static Lib.Math.min.name ∈ jgw ∧ Cond.initialized "java/lang/Math" ∈ jgw ∧ Cond.code Lib.Math.min.name Lib.Math.min.code 2 (some .int) ∈ jgw := ⟨jgw_in 518 rfl rfl, jgw_in 81 rfl rfl, jgw_in 519 (by decide +kernel) (by decide +kernel)⟩
set_option maxRecDepth 100000 in
theorem wq_copy : Cond.native arraycopyName ∈ jgw ∧ Cond.static arraycopyName ∈ jgw ∧ Cond.initialized "java/lang/System" ∈ jgw := ⟨jgw_in 369 rfl rfl, jgw_in 368 rfl rfl, jgw_in 78 rfl rfl⟩
end
