theorem dX11_init_0 : decode cX11_init 0 = .ok (.aload_n 0, 1) := by decide +kernel
theorem dX11_init_1 : decode cX11_init 1 = .ok (.invokespecial 1, 3) := by decide +kernel
theorem dX11_init_4 : decode cX11_init 4 = .ok (.aload_n 0, 1) := by decide +kernel
theorem dX11_init_5 : decode cX11_init 5 = .ok (.bipush 34, 2) := by decide +kernel
theorem dX11_init_7 : decode cX11_init 7 = .ok (.newarray .int, 2) := by decide +kernel
theorem dX11_init_9 : decode cX11_init 9 = .ok (.putfield 7, 3) := by decide +kernel
theorem dX11_init_12 : decode cX11_init 12 = .ok (.aload_n 0, 1) := by decide +kernel
theorem dX11_init_13 : decode cX11_init 13 = .ok (.bipush 34, 2) := by decide +kernel
theorem dX11_init_15 : decode cX11_init 15 = .ok (.newarray .int, 2) := by decide +kernel
theorem dX11_init_17 : decode cX11_init 17 = .ok (.putfield 13, 3) := by decide +kernel
theorem dX11_init_20 : decode cX11_init 20 = .ok (.aload_n 0, 1) := by decide +kernel
theorem dX11_init_21 : decode cX11_init 21 = .ok (.sipush 136, 3) := by decide +kernel
theorem dX11_init_24 : decode cX11_init 24 = .ok (.newarray .int, 2) := by decide +kernel
theorem dX11_init_26 : decode cX11_init 26 = .ok (.putfield 16, 3) := by decide +kernel
theorem dX11_init_29 : decode cX11_init 29 = .ok (.aload_n 0, 1) := by decide +kernel
theorem dX11_init_30 : decode cX11_init 30 = .ok (.sipush 136, 3) := by decide +kernel
theorem dX11_init_33 : decode cX11_init 33 = .ok (.newarray .int, 2) := by decide +kernel
theorem dX11_init_35 : decode cX11_init 35 = .ok (.putfield 19, 3) := by decide +kernel
theorem dX11_init_38 : decode cX11_init 38 = .ok (.aload_n 0, 1) := by decide +kernel
theorem dX11_init_39 : decode cX11_init 39 = .ok (.iconst 4, 1) := by decide +kernel
theorem dX11_init_40 : decode cX11_init 40 = .ok (.newarray .int, 2) := by decide +kernel
theorem dX11_init_42 : decode cX11_init 42 = .ok (.putfield 22, 3) := by decide +kernel
theorem dX11_init_45 : decode cX11_init 45 = .ok (.aload_n 0, 1) := by decide +kernel
theorem dX11_init_46 : decode cX11_init 46 = .ok (.bipush 20, 2) := by decide +kernel
theorem dX11_init_48 : decode cX11_init 48 = .ok (.newarray .int, 2) := by decide +kernel
theorem dX11_init_50 : decode cX11_init 50 = .ok (.putfield 25, 3) := by decide +kernel
theorem dX11_init_53 : decode cX11_init 53 = .ok (.aload_n 0, 1) := by decide +kernel
theorem dX11_init_54 : decode cX11_init 54 = .ok (.lconst 1, 1) := by decide +kernel
theorem dX11_init_55 : decode cX11_init 55 = .ok (.putfield 28, 3) := by decide +kernel
theorem dX11_init_58 : decode cX11_init 58 = .ok (.aload_n 0, 1) := by decide +kernel
theorem dX11_init_59 : decode cX11_init 59 = .ok (.bipush 6, 2) := by decide +kernel
theorem dX11_init_61 : decode cX11_init 61 = .ok (.newarray .int, 2) := by decide +kernel
theorem dX11_init_63 : decode cX11_init 63 = .ok (.putfield 32, 3) := by decide +kernel
theorem dX11_init_66 : decode cX11_init 66 = .ok (.aload_n 0, 1) := by decide +kernel
theorem dX11_init_67 : decode cX11_init 67 = .ok (.bipush 6, 2) := by decide +kernel
theorem dX11_init_69 : decode cX11_init 69 = .ok (.newarray .int, 2) := by decide +kernel
theorem dX11_init_71 : decode cX11_init 71 = .ok (.putfield 35, 3) := by decide +kernel
theorem dX11_init_74 : decode cX11_init 74 = .ok (.aload_n 0, 1) := by decide +kernel
theorem dX11_init_75 : decode cX11_init 75 = .ok (.sipush 240, 3) := by decide +kernel
theorem dX11_init_78 : decode cX11_init 78 = .ok (.newarray .int, 2) := by decide +kernel
theorem dX11_init_80 : decode cX11_init 80 = .ok (.putfield 38, 3) := by decide +kernel
theorem dX11_init_83 : decode cX11_init 83 = .ok (.aload_n 0, 1) := by decide +kernel
theorem dX11_init_84 : decode cX11_init 84 = .ok (.bipush 20, 2) := by decide +kernel
theorem dX11_init_86 : decode cX11_init 86 = .ok (.newarray .int, 2) := by decide +kernel
theorem dX11_init_88 : decode cX11_init 88 = .ok (.putfield 41, 3) := by decide +kernel
theorem dX11_init_91 : decode cX11_init 91 = .ok (.aload_n 0, 1) := by decide +kernel
theorem dX11_init_92 : decode cX11_init 92 = .ok (.bipush 20, 2) := by decide +kernel
theorem dX11_init_94 : decode cX11_init 94 = .ok (.newarray .int, 2) := by decide +kernel
theorem dX11_init_96 : decode cX11_init 96 = .ok (.putfield 44, 3) := by decide +kernel
theorem dX11_init_99 : decode cX11_init 99 = .ok (.aload_n 0, 1) := by decide +kernel
theorem dX11_init_100 : decode cX11_init 100 = .ok (.bipush 20, 2) := by decide +kernel
theorem dX11_init_102 : decode cX11_init 102 = .ok (.newarray .int, 2) := by decide +kernel
theorem dX11_init_104 : decode cX11_init 104 = .ok (.putfield 47, 3) := by decide +kernel
theorem dX11_init_107 : decode cX11_init 107 = .ok (.aload_n 0, 1) := by decide +kernel
theorem dX11_init_108 : decode cX11_init 108 = .ok (.bipush 40, 2) := by decide +kernel
theorem dX11_init_110 : decode cX11_init 110 = .ok (.newarray .int, 2) := by decide +kernel
theorem dX11_init_112 : decode cX11_init 112 = .ok (.putfield 50, 3) := by decide +kernel
theorem dX11_init_115 : decode cX11_init 115 = .ok (.aload_n 0, 1) := by decide +kernel
theorem dX11_init_116 : decode cX11_init 116 = .ok (.bipush 34, 2) := by decide +kernel
theorem dX11_init_118 : decode cX11_init 118 = .ok (.newarray .int, 2) := by decide +kernel
theorem dX11_init_120 : decode cX11_init 120 = .ok (.putfield 53, 3) := by decide +kernel
theorem dX11_init_123 : decode cX11_init 123 = .ok (.aload_n 0, 1) := by decide +kernel
theorem dX11_init_124 : decode cX11_init 124 = .ok (.bipush 34, 2) := by decide +kernel
theorem dX11_init_126 : decode cX11_init 126 = .ok (.newarray .int, 2) := by decide +kernel
theorem dX11_init_128 : decode cX11_init 128 = .ok (.putfield 56, 3) := by decide +kernel
theorem dX11_init_131 : decode cX11_init 131 = .ok (.aload_n 0, 1) := by decide +kernel
theorem dX11_init_132 : decode cX11_init 132 = .ok (.bipush 34, 2) := by decide +kernel
theorem dX11_init_134 : decode cX11_init 134 = .ok (.newarray .int, 2) := by decide +kernel
theorem dX11_init_136 : decode cX11_init 136 = .ok (.putfield 59, 3) := by decide +kernel
theorem dX11_init_139 : decode cX11_init 139 = .ok (.aload_n 0, 1) := by decide +kernel
theorem dX11_init_140 : decode cX11_init 140 = .ok (.bipush 34, 2) := by decide +kernel
theorem dX11_init_142 : decode cX11_init 142 = .ok (.newarray .int, 2) := by decide +kernel
theorem dX11_init_144 : decode cX11_init 144 = .ok (.putfield 62, 3) := by decide +kernel
theorem dX11_init_147 : decode cX11_init 147 = .ok (.aload_n 0, 1) := by decide +kernel
theorem dX11_init_148 : decode cX11_init 148 = .ok (.iconst 5, 1) := by decide +kernel
theorem dX11_init_149 : decode cX11_init 149 = .ok (.newarray .int, 2) := by decide +kernel
theorem dX11_init_151 : decode cX11_init 151 = .ok (.putfield 65, 3) := by decide +kernel
theorem dX11_init_154 : decode cX11_init 154 = .ok (.aload_n 0, 1) := by decide +kernel
theorem dX11_init_155 : decode cX11_init 155 = .ok (.sipush 250, 3) := by decide +kernel
theorem dX11_init_158 : decode cX11_init 158 = .ok (.newarray .int, 2) := by decide +kernel
theorem dX11_init_160 : decode cX11_init 160 = .ok (.putfield 68, 3) := by decide +kernel
theorem dX11_init_163 : decode cX11_init 163 = .ok (.aload_n 0, 1) := by decide +kernel
theorem dX11_init_164 : decode cX11_init 164 = .ok (.sipush 250, 3) := by decide +kernel
theorem dX11_init_167 : decode cX11_init 167 = .ok (.newarray .int, 2) := by decide +kernel
theorem dX11_init_169 : decode cX11_init 169 = .ok (.putfield 71, 3) := by decide +kernel
theorem dX11_init_172 : decode cX11_init 172 = .ok (.aload_n 0, 1) := by decide +kernel
theorem dX11_init_173 : decode cX11_init 173 = .ok (.bipush 40, 2) := by decide +kernel
theorem dX11_init_175 : decode cX11_init 175 = .ok (.newarray .int, 2) := by decide +kernel
theorem dX11_init_177 : decode cX11_init 177 = .ok (.putfield 74, 3) := by decide +kernel
theorem dX11_init_180 : decode cX11_init 180 = .ok (.aload_n 0, 1) := by decide +kernel
theorem dX11_init_181 : decode cX11_init 181 = .ok (.bipush 34, 2) := by decide +kernel
theorem dX11_init_183 : decode cX11_init 183 = .ok (.newarray .boolean, 2) := by decide +kernel
theorem dX11_init_185 : decode cX11_init 185 = .ok (.putfield 77, 3) := by decide +kernel
theorem dX11_init_188 : decode cX11_init 188 = .ok (.aload_n 0, 1) := by decide +kernel
theorem dX11_init_189 : decode cX11_init 189 = .ok (.bipush 34, 2) := by decide +kernel
theorem dX11_init_191 : decode cX11_init 191 = .ok (.newarray .int, 2) := by decide +kernel
theorem dX11_init_193 : decode cX11_init 193 = .ok (.putfield 81, 3) := by decide +kernel
theorem dX11_init_196 : decode cX11_init 196 = .ok (.iconst 0, 1) := by decide +kernel
theorem dX11_init_197 : decode cX11_init 197 = .ok (.istore_n 1, 1) := by decide +kernel
theorem dX11_init_198 : decode cX11_init 198 = .ok (.iload_n 1, 1) := by decide +kernel
theorem dX11_init_199 : decode cX11_init 199 = .ok (.bipush 34, 2) := by decide +kernel
theorem dX11_init_201 : decode cX11_init 201 = .ok (.if_icmp .ge 16, 3) := by decide +kernel
theorem dX11_init_204 : decode cX11_init 204 = .ok (.aload_n 0, 1) := by decide +kernel
theorem dX11_init_205 : decode cX11_init 205 = .ok (.getfield 7, 3) := by decide +kernel
theorem dX11_init_208 : decode cX11_init 208 = .ok (.iload_n 1, 1) := by decide +kernel
theorem dX11_init_209 : decode cX11_init 209 = .ok (.iconst 4, 1) := by decide +kernel
theorem dX11_init_210 : decode cX11_init 210 = .ok (.iastore, 1) := by decide +kernel
theorem dX11_init_211 : decode cX11_init 211 = .ok (.iinc 1 1, 3) := by decide +kernel
theorem dX11_init_214 : decode cX11_init 214 = .ok (.goto (-16), 3) := by decide +kernel
theorem dX11_init_217 : decode cX11_init 217 = .ok (.iconst 0, 1) := by decide +kernel
theorem dX11_init_218 : decode cX11_init 218 = .ok (.istore_n 1, 1) := by decide +kernel
theorem dX11_init_219 : decode cX11_init 219 = .ok (.iload_n 1, 1) := by decide +kernel
theorem dX11_init_220 : decode cX11_init 220 = .ok (.bipush 6, 2) := by decide +kernel
theorem dX11_init_222 : decode cX11_init 222 = .ok (.if_icmp .ge 16, 3) := by decide +kernel
theorem dX11_init_225 : decode cX11_init 225 = .ok (.aload_n 0, 1) := by decide +kernel
theorem dX11_init_226 : decode cX11_init 226 = .ok (.getfield 32, 3) := by decide +kernel
theorem dX11_init_229 : decode cX11_init 229 = .ok (.iload_n 1, 1) := by decide +kernel
theorem dX11_init_230 : decode cX11_init 230 = .ok (.iconst (-1), 1) := by decide +kernel
theorem dX11_init_231 : decode cX11_init 231 = .ok (.iastore, 1) := by decide +kernel
theorem dX11_init_232 : decode cX11_init 232 = .ok (.iinc 1 1, 3) := by decide +kernel
theorem dX11_init_235 : decode cX11_init 235 = .ok (.goto (-16), 3) := by decide +kernel
theorem dX11_init_238 : decode cX11_init 238 = .ok (.return_, 1) := by decide +kernel
theorem dX11_in_0 : decode cX11_in 0 = .ok (.lload_n 0, 1) := by decide +kernel
theorem dX11_in_1 : decode cX11_in 1 = .ok (.lload_n 2, 1) := by decide +kernel
theorem dX11_in_2 : decode cX11_in 2 = .ok (.lcmp, 1) := by decide +kernel
theorem dX11_in_3 : decode cX11_in 3 = .ok (.ifCond .lt 14, 3) := by decide +kernel
theorem dX11_in_6 : decode cX11_in 6 = .ok (.lload_n 0, 1) := by decide +kernel
theorem dX11_in_7 : decode cX11_in 7 = .ok (.lload 4, 2) := by decide +kernel
theorem dX11_in_9 : decode cX11_in 9 = .ok (.lcmp, 1) := by decide +kernel
theorem dX11_in_10 : decode cX11_in 10 = .ok (.ifCond .gt 7, 3) := by decide +kernel
theorem dX11_in_13 : decode cX11_in 13 = .ok (.iconst 1, 1) := by decide +kernel
theorem dX11_in_14 : decode cX11_in 14 = .ok (.goto 4, 3) := by decide +kernel
theorem dX11_in_17 : decode cX11_in 17 = .ok (.iconst 0, 1) := by decide +kernel
theorem dX11_in_18 : decode cX11_in 18 = .ok (.ireturn, 1) := by decide +kernel
theorem dX11_isHand_0 : decode cX11_isHand 0 = .ok (.iload_n 0, 1) := by decide +kernel
theorem dX11_isHand_1 : decode cX11_isHand 1 = .ok (.i2l, 1) := by decide +kernel
theorem dX11_isHand_2 : decode cX11_isHand 2 = .ok (.lconst 0, 1) := by decide +kernel
theorem dX11_isHand_3 : decode cX11_isHand 3 = .ok (.ldc2_w 84, 3) := by decide +kernel
theorem dX11_isHand_6 : decode cX11_isHand 6 = .ok (.invokestatic 86, 3) := by decide +kernel
theorem dX11_isHand_9 : decode cX11_isHand 9 = .ok (.ireturn, 1) := by decide +kernel
theorem dX11_isSort_0 : decode cX11_isSort 0 = .ok (.iload_n 0, 1) := by decide +kernel
theorem dX11_isSort_1 : decode cX11_isSort 1 = .ok (.i2l, 1) := by decide +kernel
theorem dX11_isSort_2 : decode cX11_isSort 2 = .ok (.lconst 0, 1) := by decide +kernel
theorem dX11_isSort_3 : decode cX11_isSort 3 = .ok (.ldc2_w 90, 3) := by decide +kernel
theorem dX11_isSort_6 : decode cX11_isSort 6 = .ok (.invokestatic 86, 3) := by decide +kernel
theorem dX11_isSort_9 : decode cX11_isSort 9 = .ok (.ireturn, 1) := by decide +kernel
theorem dX11_isRack_0 : decode cX11_isRack 0 = .ok (.iload_n 0, 1) := by decide +kernel
theorem dX11_isRack_1 : decode cX11_isRack 1 = .ok (.i2l, 1) := by decide +kernel
theorem dX11_isRack_2 : decode cX11_isRack 2 = .ok (.lconst 0, 1) := by decide +kernel
theorem dX11_isRack_3 : decode cX11_isRack 3 = .ok (.ldc2_w 92, 3) := by decide +kernel
theorem dX11_isRack_6 : decode cX11_isRack 6 = .ok (.invokestatic 86, 3) := by decide +kernel
theorem dX11_isRack_9 : decode cX11_isRack 9 = .ok (.ireturn, 1) := by decide +kernel
theorem dX11_rack_0 : decode cX11_rack 0 = .ok (.iload_n 1, 1) := by decide +kernel
theorem dX11_rack_1 : decode cX11_rack 1 = .ok (.invokestatic 94, 3) := by decide +kernel
theorem dX11_rack_4 : decode cX11_rack 4 = .ok (.ifCond .eq 17, 3) := by decide +kernel
theorem dX11_rack_7 : decode cX11_rack 7 = .ok (.iload_n 2, 1) := by decide +kernel
theorem dX11_rack_8 : decode cX11_rack 8 = .ok (.i2l, 1) := by decide +kernel
theorem dX11_rack_9 : decode cX11_rack 9 = .ok (.ldc2_w 98, 3) := by decide +kernel
theorem dX11_rack_12 : decode cX11_rack 12 = .ok (.ldc2_w 100, 3) := by decide +kernel
theorem dX11_rack_15 : decode cX11_rack 15 = .ok (.invokestatic 86, 3) := by decide +kernel
theorem dX11_rack_18 : decode cX11_rack 18 = .ok (.ifCond .ne 5, 3) := by decide +kernel
theorem dX11_rack_21 : decode cX11_rack 21 = .ok (.iconst (-1), 1) := by decide +kernel
theorem dX11_rack_22 : decode cX11_rack 22 = .ok (.ireturn, 1) := by decide +kernel
theorem dX11_rack_23 : decode cX11_rack 23 = .ok (.iload_n 2, 1) := by decide +kernel
theorem dX11_rack_24 : decode cX11_rack 24 = .ok (.ifCond .lt 10, 3) := by decide +kernel
theorem dX11_rack_27 : decode cX11_rack 27 = .ok (.iload_n 3, 1) := by decide +kernel
theorem dX11_rack_28 : decode cX11_rack 28 = .ok (.ifCond .ge 6, 3) := by decide +kernel
theorem dX11_rack_31 : decode cX11_rack 31 = .ok (.bipush (-13), 2) := by decide +kernel
theorem dX11_rack_33 : decode cX11_rack 33 = .ok (.ireturn, 1) := by decide +kernel
theorem dX11_rack_34 : decode cX11_rack 34 = .ok (.iload_n 2, 1) := by decide +kernel
theorem dX11_rack_35 : decode cX11_rack 35 = .ok (.ifCond .lt 12, 3) := by decide +kernel
theorem dX11_rack_38 : decode cX11_rack 38 = .ok (.iload_n 3, 1) := by decide +kernel
theorem dX11_rack_39 : decode cX11_rack 39 = .ok (.bipush 40, 2) := by decide +kernel
theorem dX11_rack_41 : decode cX11_rack 41 = .ok (.if_icmp .le 6, 3) := by decide +kernel
theorem dX11_rack_44 : decode cX11_rack 44 = .ok (.bipush (-4), 2) := by decide +kernel
theorem dX11_rack_46 : decode cX11_rack 46 = .ok (.ireturn, 1) := by decide +kernel
theorem dX11_rack_47 : decode cX11_rack 47 = .ok (.aload_n 0, 1) := by decide +kernel
theorem dX11_rack_48 : decode cX11_rack 48 = .ok (.getfield 32, 3) := by decide +kernel
theorem dX11_rack_51 : decode cX11_rack 51 = .ok (.iload_n 1, 1) := by decide +kernel
theorem dX11_rack_52 : decode cX11_rack 52 = .ok (.iload_n 2, 1) := by decide +kernel
theorem dX11_rack_53 : decode cX11_rack 53 = .ok (.iastore, 1) := by decide +kernel
theorem dX11_rack_54 : decode cX11_rack 54 = .ok (.aload_n 0, 1) := by decide +kernel
theorem dX11_rack_55 : decode cX11_rack 55 = .ok (.getfield 35, 3) := by decide +kernel
theorem dX11_rack_58 : decode cX11_rack 58 = .ok (.iload_n 1, 1) := by decide +kernel
theorem dX11_rack_59 : decode cX11_rack 59 = .ok (.iload_n 2, 1) := by decide +kernel
theorem dX11_rack_60 : decode cX11_rack 60 = .ok (.ifCond .ge 7, 3) := by decide +kernel
theorem dX11_rack_63 : decode cX11_rack 63 = .ok (.iconst 0, 1) := by decide +kernel
theorem dX11_rack_64 : decode cX11_rack 64 = .ok (.goto 4, 3) := by decide +kernel
theorem dX11_rack_67 : decode cX11_rack 67 = .ok (.iload_n 3, 1) := by decide +kernel
theorem dX11_rack_68 : decode cX11_rack 68 = .ok (.iastore, 1) := by decide +kernel
theorem dX11_rack_69 : decode cX11_rack 69 = .ok (.iconst 0, 1) := by decide +kernel
theorem dX11_rack_70 : decode cX11_rack 70 = .ok (.istore 4, 2) := by decide +kernel
theorem dX11_rack_72 : decode cX11_rack 72 = .ok (.iload 4, 2) := by decide +kernel
theorem dX11_rack_74 : decode cX11_rack 74 = .ok (.bipush 40, 2) := by decide +kernel
theorem dX11_rack_76 : decode cX11_rack 76 = .ok (.if_icmp .ge 22, 3) := by decide +kernel
theorem dX11_rack_79 : decode cX11_rack 79 = .ok (.aload_n 0, 1) := by decide +kernel
theorem dX11_rack_80 : decode cX11_rack 80 = .ok (.getfield 38, 3) := by decide +kernel
theorem dX11_rack_83 : decode cX11_rack 83 = .ok (.bipush 40, 2) := by decide +kernel
theorem dX11_rack_85 : decode cX11_rack 85 = .ok (.iload_n 1, 1) := by decide +kernel
theorem dX11_rack_86 : decode cX11_rack 86 = .ok (.imul, 1) := by decide +kernel
theorem dX11_rack_87 : decode cX11_rack 87 = .ok (.iload 4, 2) := by decide +kernel
theorem dX11_rack_89 : decode cX11_rack 89 = .ok (.iadd, 1) := by decide +kernel
theorem dX11_rack_90 : decode cX11_rack 90 = .ok (.iconst 0, 1) := by decide +kernel
theorem dX11_rack_91 : decode cX11_rack 91 = .ok (.iastore, 1) := by decide +kernel
theorem dX11_rack_92 : decode cX11_rack 92 = .ok (.iinc 4 1, 3) := by decide +kernel
theorem dX11_rack_95 : decode cX11_rack 95 = .ok (.goto (-23), 3) := by decide +kernel
theorem dX11_rack_98 : decode cX11_rack 98 = .ok (.iconst 0, 1) := by decide +kernel
theorem dX11_rack_99 : decode cX11_rack 99 = .ok (.ireturn, 1) := by decide +kernel
theorem dX11_cut_0 : decode cX11_cut 0 = .ok (.iload_n 0, 1) := by decide +kernel
theorem dX11_cut_1 : decode cX11_cut 1 = .ok (.ifCond .ne 8, 3) := by decide +kernel
theorem dX11_cut_4 : decode cX11_cut 4 = .ok (.iload_n 1, 1) := by decide +kernel
theorem dX11_cut_5 : decode cX11_cut 5 = .ok (.i2b, 1) := by decide +kernel
theorem dX11_cut_6 : decode cX11_cut 6 = .ok (.goto 17, 3) := by decide +kernel
theorem dX11_cut_9 : decode cX11_cut 9 = .ok (.iload_n 0, 1) := by decide +kernel
theorem dX11_cut_10 : decode cX11_cut 10 = .ok (.iconst 1, 1) := by decide +kernel
theorem dX11_cut_11 : decode cX11_cut 11 = .ok (.if_icmp .ne 10, 3) := by decide +kernel
theorem dX11_cut_14 : decode cX11_cut 14 = .ok (.iload_n 1, 1) := by decide +kernel
theorem dX11_cut_15 : decode cX11_cut 15 = .ok (.ldc 102, 2) := by decide +kernel
theorem dX11_cut_17 : decode cX11_cut 17 = .ok (.iand, 1) := by decide +kernel
theorem dX11_cut_18 : decode cX11_cut 18 = .ok (.goto 5, 3) := by decide +kernel
theorem dX11_cut_21 : decode cX11_cut 21 = .ok (.iload_n 1, 1) := by decide +kernel
theorem dX11_cut_22 : decode cX11_cut 22 = .ok (.i2s, 1) := by decide +kernel
theorem dX11_cut_23 : decode cX11_cut 23 = .ok (.ireturn, 1) := by decide +kernel
theorem dX11_place_0 : decode cX11_place 0 = .ok (.iload_n 1, 1) := by decide +kernel
theorem dX11_place_1 : decode cX11_place 1 = .ok (.invokestatic 94, 3) := by decide +kernel
theorem dX11_place_4 : decode cX11_place 4 = .ok (.ifCond .ne 6, 3) := by decide +kernel
theorem dX11_place_7 : decode cX11_place 7 = .ok (.ldc 103, 2) := by decide +kernel
theorem dX11_place_9 : decode cX11_place 9 = .ok (.ireturn, 1) := by decide +kernel
theorem dX11_place_10 : decode cX11_place 10 = .ok (.aload_n 0, 1) := by decide +kernel
theorem dX11_place_11 : decode cX11_place 11 = .ok (.getfield 32, 3) := by decide +kernel
theorem dX11_place_14 : decode cX11_place 14 = .ok (.iload_n 1, 1) := by decide +kernel
theorem dX11_place_15 : decode cX11_place 15 = .ok (.iaload, 1) := by decide +kernel
theorem dX11_place_16 : decode cX11_place 16 = .ok (.ifCond .ge 6, 3) := by decide +kernel
theorem dX11_place_19 : decode cX11_place 19 = .ok (.ldc 104, 2) := by decide +kernel
theorem dX11_place_21 : decode cX11_place 21 = .ok (.ireturn, 1) := by decide +kernel
theorem dX11_place_22 : decode cX11_place 22 = .ok (.iload_n 2, 1) := by decide +kernel
theorem dX11_place_23 : decode cX11_place 23 = .ok (.i2l, 1) := by decide +kernel
theorem dX11_place_24 : decode cX11_place 24 = .ok (.lconst 0, 1) := by decide +kernel
theorem dX11_place_25 : decode cX11_place 25 = .ok (.aload_n 0, 1) := by decide +kernel
theorem dX11_place_26 : decode cX11_place 26 = .ok (.getfield 35, 3) := by decide +kernel
theorem dX11_place_29 : decode cX11_place 29 = .ok (.iload_n 1, 1) := by decide +kernel
theorem dX11_place_30 : decode cX11_place 30 = .ok (.iaload, 1) := by decide +kernel
theorem dX11_place_31 : decode cX11_place 31 = .ok (.iconst 1, 1) := by decide +kernel
theorem dX11_place_32 : decode cX11_place 32 = .ok (.isub, 1) := by decide +kernel
theorem dX11_place_33 : decode cX11_place 33 = .ok (.i2l, 1) := by decide +kernel
theorem dX11_place_34 : decode cX11_place 34 = .ok (.invokestatic 86, 3) := by decide +kernel
theorem dX11_place_37 : decode cX11_place 37 = .ok (.ifCond .ne 6, 3) := by decide +kernel
theorem dX11_place_40 : decode cX11_place 40 = .ok (.ldc 105, 2) := by decide +kernel
theorem dX11_place_42 : decode cX11_place 42 = .ok (.ireturn, 1) := by decide +kernel
theorem dX11_place_43 : decode cX11_place 43 = .ok (.aload_n 0, 1) := by decide +kernel
theorem dX11_place_44 : decode cX11_place 44 = .ok (.getfield 38, 3) := by decide +kernel
theorem dX11_place_47 : decode cX11_place 47 = .ok (.bipush 40, 2) := by decide +kernel
theorem dX11_place_49 : decode cX11_place 49 = .ok (.iload_n 1, 1) := by decide +kernel
theorem dX11_place_50 : decode cX11_place 50 = .ok (.imul, 1) := by decide +kernel
theorem dX11_place_51 : decode cX11_place 51 = .ok (.iload_n 2, 1) := by decide +kernel
theorem dX11_place_52 : decode cX11_place 52 = .ok (.iadd, 1) := by decide +kernel
theorem dX11_place_53 : decode cX11_place 53 = .ok (.aload_n 0, 1) := by decide +kernel
theorem dX11_place_54 : decode cX11_place 54 = .ok (.getfield 32, 3) := by decide +kernel
theorem dX11_place_57 : decode cX11_place 57 = .ok (.iload_n 1, 1) := by decide +kernel
theorem dX11_place_58 : decode cX11_place 58 = .ok (.iaload, 1) := by decide +kernel
theorem dX11_place_59 : decode cX11_place 59 = .ok (.iload_n 3, 1) := by decide +kernel
theorem dX11_place_60 : decode cX11_place 60 = .ok (.invokestatic 106, 3) := by decide +kernel
theorem dX11_place_63 : decode cX11_place 63 = .ok (.iastore, 1) := by decide +kernel
theorem dX11_place_64 : decode cX11_place 64 = .ok (.aload_n 0, 1) := by decide +kernel
theorem dX11_place_65 : decode cX11_place 65 = .ok (.getfield 38, 3) := by decide +kernel
theorem dX11_place_68 : decode cX11_place 68 = .ok (.bipush 40, 2) := by decide +kernel
theorem dX11_place_70 : decode cX11_place 70 = .ok (.iload_n 1, 1) := by decide +kernel
theorem dX11_place_71 : decode cX11_place 71 = .ok (.imul, 1) := by decide +kernel
theorem dX11_place_72 : decode cX11_place 72 = .ok (.iload_n 2, 1) := by decide +kernel
theorem dX11_place_73 : decode cX11_place 73 = .ok (.iadd, 1) := by decide +kernel
theorem dX11_place_74 : decode cX11_place 74 = .ok (.iaload, 1) := by decide +kernel
theorem dX11_place_75 : decode cX11_place 75 = .ok (.ireturn, 1) := by decide +kernel
theorem dX11_copy_0 : decode cX11_copy 0 = .ok (.iload_n 1, 1) := by decide +kernel
theorem dX11_copy_1 : decode cX11_copy 1 = .ok (.invokestatic 94, 3) := by decide +kernel
theorem dX11_copy_4 : decode cX11_copy 4 = .ok (.ifCond .eq 10, 3) := by decide +kernel
theorem dX11_copy_7 : decode cX11_copy 7 = .ok (.iload_n 3, 1) := by decide +kernel
theorem dX11_copy_8 : decode cX11_copy 8 = .ok (.invokestatic 94, 3) := by decide +kernel
theorem dX11_copy_11 : decode cX11_copy 11 = .ok (.ifCond .ne 5, 3) := by decide +kernel
theorem dX11_copy_14 : decode cX11_copy 14 = .ok (.iconst (-1), 1) := by decide +kernel
theorem dX11_copy_15 : decode cX11_copy 15 = .ok (.ireturn, 1) := by decide +kernel
theorem dX11_copy_16 : decode cX11_copy 16 = .ok (.aload_n 0, 1) := by decide +kernel
theorem dX11_copy_17 : decode cX11_copy 17 = .ok (.getfield 32, 3) := by decide +kernel
theorem dX11_copy_20 : decode cX11_copy 20 = .ok (.iload_n 1, 1) := by decide +kernel
theorem dX11_copy_21 : decode cX11_copy 21 = .ok (.iaload, 1) := by decide +kernel
theorem dX11_copy_22 : decode cX11_copy 22 = .ok (.ifCond .lt 12, 3) := by decide +kernel
theorem dX11_copy_25 : decode cX11_copy 25 = .ok (.aload_n 0, 1) := by decide +kernel
theorem dX11_copy_26 : decode cX11_copy 26 = .ok (.getfield 32, 3) := by decide +kernel
theorem dX11_copy_29 : decode cX11_copy 29 = .ok (.iload_n 3, 1) := by decide +kernel
theorem dX11_copy_30 : decode cX11_copy 30 = .ok (.iaload, 1) := by decide +kernel
theorem dX11_copy_31 : decode cX11_copy 31 = .ok (.ifCond .ge 6, 3) := by decide +kernel
theorem dX11_copy_34 : decode cX11_copy 34 = .ok (.bipush (-11), 2) := by decide +kernel
theorem dX11_copy_36 : decode cX11_copy 36 = .ok (.ireturn, 1) := by decide +kernel
theorem dX11_copy_37 : decode cX11_copy 37 = .ok (.aload_n 0, 1) := by decide +kernel
theorem dX11_copy_38 : decode cX11_copy 38 = .ok (.getfield 32, 3) := by decide +kernel
theorem dX11_copy_41 : decode cX11_copy 41 = .ok (.iload_n 1, 1) := by decide +kernel
theorem dX11_copy_42 : decode cX11_copy 42 = .ok (.iaload, 1) := by decide +kernel
theorem dX11_copy_43 : decode cX11_copy 43 = .ok (.aload_n 0, 1) := by decide +kernel
theorem dX11_copy_44 : decode cX11_copy 44 = .ok (.getfield 32, 3) := by decide +kernel
theorem dX11_copy_47 : decode cX11_copy 47 = .ok (.iload_n 3, 1) := by decide +kernel
theorem dX11_copy_48 : decode cX11_copy 48 = .ok (.iaload, 1) := by decide +kernel
theorem dX11_copy_49 : decode cX11_copy 49 = .ok (.if_icmp .eq 6, 3) := by decide +kernel
theorem dX11_copy_52 : decode cX11_copy 52 = .ok (.bipush (-14), 2) := by decide +kernel
theorem dX11_copy_54 : decode cX11_copy 54 = .ok (.ireturn, 1) := by decide +kernel
theorem dX11_copy_55 : decode cX11_copy 55 = .ok (.iload 5, 2) := by decide +kernel
theorem dX11_copy_57 : decode cX11_copy 57 = .ok (.ifCond .lt 47, 3) := by decide +kernel
theorem dX11_copy_60 : decode cX11_copy 60 = .ok (.iload_n 2, 1) := by decide +kernel
theorem dX11_copy_61 : decode cX11_copy 61 = .ok (.ifCond .lt 43, 3) := by decide +kernel
theorem dX11_copy_64 : decode cX11_copy 64 = .ok (.iload 4, 2) := by decide +kernel
theorem dX11_copy_66 : decode cX11_copy 66 = .ok (.ifCond .lt 38, 3) := by decide +kernel
theorem dX11_copy_69 : decode cX11_copy 69 = .ok (.iload_n 2, 1) := by decide +kernel
theorem dX11_copy_70 : decode cX11_copy 70 = .ok (.i2l, 1) := by decide +kernel
theorem dX11_copy_71 : decode cX11_copy 71 = .ok (.iload 5, 2) := by decide +kernel
theorem dX11_copy_73 : decode cX11_copy 73 = .ok (.i2l, 1) := by decide +kernel
theorem dX11_copy_74 : decode cX11_copy 74 = .ok (.ladd, 1) := by decide +kernel
theorem dX11_copy_75 : decode cX11_copy 75 = .ok (.aload_n 0, 1) := by decide +kernel
theorem dX11_copy_76 : decode cX11_copy 76 = .ok (.getfield 35, 3) := by decide +kernel
theorem dX11_copy_79 : decode cX11_copy 79 = .ok (.iload_n 1, 1) := by decide +kernel
theorem dX11_copy_80 : decode cX11_copy 80 = .ok (.iaload, 1) := by decide +kernel
theorem dX11_copy_81 : decode cX11_copy 81 = .ok (.i2l, 1) := by decide +kernel
theorem dX11_copy_82 : decode cX11_copy 82 = .ok (.lcmp, 1) := by decide +kernel
theorem dX11_copy_83 : decode cX11_copy 83 = .ok (.ifCond .gt 21, 3) := by decide +kernel
theorem dX11_copy_86 : decode cX11_copy 86 = .ok (.iload 4, 2) := by decide +kernel
theorem dX11_copy_88 : decode cX11_copy 88 = .ok (.i2l, 1) := by decide +kernel
theorem dX11_copy_89 : decode cX11_copy 89 = .ok (.iload 5, 2) := by decide +kernel
theorem dX11_copy_91 : decode cX11_copy 91 = .ok (.i2l, 1) := by decide +kernel
theorem dX11_copy_92 : decode cX11_copy 92 = .ok (.ladd, 1) := by decide +kernel
theorem dX11_copy_93 : decode cX11_copy 93 = .ok (.aload_n 0, 1) := by decide +kernel
theorem dX11_copy_94 : decode cX11_copy 94 = .ok (.getfield 35, 3) := by decide +kernel
theorem dX11_copy_97 : decode cX11_copy 97 = .ok (.iload_n 3, 1) := by decide +kernel
theorem dX11_copy_98 : decode cX11_copy 98 = .ok (.iaload, 1) := by decide +kernel
theorem dX11_copy_99 : decode cX11_copy 99 = .ok (.i2l, 1) := by decide +kernel
theorem dX11_copy_100 : decode cX11_copy 100 = .ok (.lcmp, 1) := by decide +kernel
theorem dX11_copy_101 : decode cX11_copy 101 = .ok (.ifCond .le 6, 3) := by decide +kernel
theorem dX11_copy_104 : decode cX11_copy 104 = .ok (.bipush (-12), 2) := by decide +kernel
theorem dX11_copy_106 : decode cX11_copy 106 = .ok (.ireturn, 1) := by decide +kernel
theorem dX11_copy_107 : decode cX11_copy 107 = .ok (.iconst 0, 1) := by decide +kernel
theorem dX11_copy_108 : decode cX11_copy 108 = .ok (.istore 6, 2) := by decide +kernel
theorem dX11_copy_110 : decode cX11_copy 110 = .ok (.iload 6, 2) := by decide +kernel
theorem dX11_copy_112 : decode cX11_copy 112 = .ok (.iload 5, 2) := by decide +kernel
theorem dX11_copy_114 : decode cX11_copy 114 = .ok (.if_icmp .ge 30, 3) := by decide +kernel
theorem dX11_copy_117 : decode cX11_copy 117 = .ok (.aload_n 0, 1) := by decide +kernel
theorem dX11_copy_118 : decode cX11_copy 118 = .ok (.getfield 50, 3) := by decide +kernel
theorem dX11_copy_121 : decode cX11_copy 121 = .ok (.iload 6, 2) := by decide +kernel
theorem dX11_copy_123 : decode cX11_copy 123 = .ok (.aload_n 0, 1) := by decide +kernel
theorem dX11_copy_124 : decode cX11_copy 124 = .ok (.getfield 38, 3) := by decide +kernel
theorem dX11_copy_127 : decode cX11_copy 127 = .ok (.bipush 40, 2) := by decide +kernel
theorem dX11_copy_129 : decode cX11_copy 129 = .ok (.iload_n 1, 1) := by decide +kernel
theorem dX11_copy_130 : decode cX11_copy 130 = .ok (.imul, 1) := by decide +kernel
theorem dX11_copy_131 : decode cX11_copy 131 = .ok (.iload_n 2, 1) := by decide +kernel
theorem dX11_copy_132 : decode cX11_copy 132 = .ok (.iadd, 1) := by decide +kernel
theorem dX11_copy_133 : decode cX11_copy 133 = .ok (.iload 6, 2) := by decide +kernel
theorem dX11_copy_135 : decode cX11_copy 135 = .ok (.iadd, 1) := by decide +kernel
theorem dX11_copy_136 : decode cX11_copy 136 = .ok (.iaload, 1) := by decide +kernel
theorem dX11_copy_137 : decode cX11_copy 137 = .ok (.iastore, 1) := by decide +kernel
theorem dX11_copy_138 : decode cX11_copy 138 = .ok (.iinc 6 1, 3) := by decide +kernel
theorem dX11_copy_141 : decode cX11_copy 141 = .ok (.goto (-31), 3) := by decide +kernel
theorem dX11_copy_144 : decode cX11_copy 144 = .ok (.iconst 0, 1) := by decide +kernel
theorem dX11_copy_145 : decode cX11_copy 145 = .ok (.istore 6, 2) := by decide +kernel
theorem dX11_copy_147 : decode cX11_copy 147 = .ok (.iload 6, 2) := by decide +kernel
theorem dX11_copy_149 : decode cX11_copy 149 = .ok (.iload 5, 2) := by decide +kernel
theorem dX11_copy_151 : decode cX11_copy 151 = .ok (.if_icmp .ge 31, 3) := by decide +kernel
theorem dX11_copy_154 : decode cX11_copy 154 = .ok (.aload_n 0, 1) := by decide +kernel
theorem dX11_copy_155 : decode cX11_copy 155 = .ok (.getfield 38, 3) := by decide +kernel
theorem dX11_copy_158 : decode cX11_copy 158 = .ok (.bipush 40, 2) := by decide +kernel
theorem dX11_copy_160 : decode cX11_copy 160 = .ok (.iload_n 3, 1) := by decide +kernel
theorem dX11_copy_161 : decode cX11_copy 161 = .ok (.imul, 1) := by decide +kernel
theorem dX11_copy_162 : decode cX11_copy 162 = .ok (.iload 4, 2) := by decide +kernel
theorem dX11_copy_164 : decode cX11_copy 164 = .ok (.iadd, 1) := by decide +kernel
theorem dX11_copy_165 : decode cX11_copy 165 = .ok (.iload 6, 2) := by decide +kernel
theorem dX11_copy_167 : decode cX11_copy 167 = .ok (.iadd, 1) := by decide +kernel
theorem dX11_copy_168 : decode cX11_copy 168 = .ok (.aload_n 0, 1) := by decide +kernel
theorem dX11_copy_169 : decode cX11_copy 169 = .ok (.getfield 50, 3) := by decide +kernel
theorem dX11_copy_172 : decode cX11_copy 172 = .ok (.iload 6, 2) := by decide +kernel
theorem dX11_copy_174 : decode cX11_copy 174 = .ok (.iaload, 1) := by decide +kernel
theorem dX11_copy_175 : decode cX11_copy 175 = .ok (.iastore, 1) := by decide +kernel
theorem dX11_copy_176 : decode cX11_copy 176 = .ok (.iinc 6 1, 3) := by decide +kernel
theorem dX11_copy_179 : decode cX11_copy 179 = .ok (.goto (-32), 3) := by decide +kernel
theorem dX11_copy_182 : decode cX11_copy 182 = .ok (.iconst 0, 1) := by decide +kernel
theorem dX11_copy_183 : decode cX11_copy 183 = .ok (.ireturn, 1) := by decide +kernel
theorem dX11_told_0 : decode cX11_told 0 = .ok (.iload_n 1, 1) := by decide +kernel
theorem dX11_told_1 : decode cX11_told 1 = .ok (.invokestatic 94, 3) := by decide +kernel
theorem dX11_told_4 : decode cX11_told 4 = .ok (.ifCond .ne 6, 3) := by decide +kernel
theorem dX11_told_7 : decode cX11_told 7 = .ok (.ldc 103, 2) := by decide +kernel
theorem dX11_told_9 : decode cX11_told 9 = .ok (.ireturn, 1) := by decide +kernel
theorem dX11_told_10 : decode cX11_told 10 = .ok (.aload_n 0, 1) := by decide +kernel
theorem dX11_told_11 : decode cX11_told 11 = .ok (.getfield 32, 3) := by decide +kernel
theorem dX11_told_14 : decode cX11_told 14 = .ok (.iload_n 1, 1) := by decide +kernel
theorem dX11_told_15 : decode cX11_told 15 = .ok (.iaload, 1) := by decide +kernel
theorem dX11_told_16 : decode cX11_told 16 = .ok (.ifCond .ge 6, 3) := by decide +kernel
theorem dX11_told_19 : decode cX11_told 19 = .ok (.ldc 104, 2) := by decide +kernel
theorem dX11_told_21 : decode cX11_told 21 = .ok (.ireturn, 1) := by decide +kernel
theorem dX11_told_22 : decode cX11_told 22 = .ok (.iload_n 2, 1) := by decide +kernel
theorem dX11_told_23 : decode cX11_told 23 = .ok (.i2l, 1) := by decide +kernel
theorem dX11_told_24 : decode cX11_told 24 = .ok (.lconst 0, 1) := by decide +kernel
theorem dX11_told_25 : decode cX11_told 25 = .ok (.aload_n 0, 1) := by decide +kernel
theorem dX11_told_26 : decode cX11_told 26 = .ok (.getfield 35, 3) := by decide +kernel
theorem dX11_told_29 : decode cX11_told 29 = .ok (.iload_n 1, 1) := by decide +kernel
theorem dX11_told_30 : decode cX11_told 30 = .ok (.iaload, 1) := by decide +kernel
theorem dX11_told_31 : decode cX11_told 31 = .ok (.iconst 1, 1) := by decide +kernel
theorem dX11_told_32 : decode cX11_told 32 = .ok (.isub, 1) := by decide +kernel
theorem dX11_told_33 : decode cX11_told 33 = .ok (.i2l, 1) := by decide +kernel
theorem dX11_told_34 : decode cX11_told 34 = .ok (.invokestatic 86, 3) := by decide +kernel
theorem dX11_told_37 : decode cX11_told 37 = .ok (.ifCond .eq 17, 3) := by decide +kernel
theorem dX11_told_40 : decode cX11_told 40 = .ok (.aload_n 0, 1) := by decide +kernel
theorem dX11_told_41 : decode cX11_told 41 = .ok (.getfield 38, 3) := by decide +kernel
theorem dX11_told_44 : decode cX11_told 44 = .ok (.bipush 40, 2) := by decide +kernel
theorem dX11_told_46 : decode cX11_told 46 = .ok (.iload_n 1, 1) := by decide +kernel
theorem dX11_told_47 : decode cX11_told 47 = .ok (.imul, 1) := by decide +kernel
theorem dX11_told_48 : decode cX11_told 48 = .ok (.iload_n 2, 1) := by decide +kernel
theorem dX11_told_49 : decode cX11_told 49 = .ok (.iadd, 1) := by decide +kernel
theorem dX11_told_50 : decode cX11_told 50 = .ok (.iaload, 1) := by decide +kernel
theorem dX11_told_51 : decode cX11_told 51 = .ok (.goto 5, 3) := by decide +kernel
theorem dX11_told_54 : decode cX11_told 54 = .ok (.ldc 105, 2) := by decide +kernel
theorem dX11_told_56 : decode cX11_told 56 = .ok (.ireturn, 1) := by decide +kernel
theorem dX11_heldMany_0 : decode cX11_heldMany 0 = .ok (.iconst 0, 1) := by decide +kernel
theorem dX11_heldMany_1 : decode cX11_heldMany 1 = .ok (.istore_n 2, 1) := by decide +kernel
theorem dX11_heldMany_2 : decode cX11_heldMany 2 = .ok (.iconst 0, 1) := by decide +kernel
theorem dX11_heldMany_3 : decode cX11_heldMany 3 = .ok (.istore_n 3, 1) := by decide +kernel
theorem dX11_heldMany_4 : decode cX11_heldMany 4 = .ok (.iload_n 3, 1) := by decide +kernel
theorem dX11_heldMany_5 : decode cX11_heldMany 5 = .ok (.bipush 34, 2) := by decide +kernel
theorem dX11_heldMany_7 : decode cX11_heldMany 7 = .ok (.if_icmp .ge 23, 3) := by decide +kernel
theorem dX11_heldMany_10 : decode cX11_heldMany 10 = .ok (.iload_n 2, 1) := by decide +kernel
theorem dX11_heldMany_11 : decode cX11_heldMany 11 = .ok (.aload_n 0, 1) := by decide +kernel
theorem dX11_heldMany_12 : decode cX11_heldMany 12 = .ok (.getfield 16, 3) := by decide +kernel
theorem dX11_heldMany_15 : decode cX11_heldMany 15 = .ok (.bipush 34, 2) := by decide +kernel
theorem dX11_heldMany_17 : decode cX11_heldMany 17 = .ok (.iload_n 1, 1) := by decide +kernel
theorem dX11_heldMany_18 : decode cX11_heldMany 18 = .ok (.imul, 1) := by decide +kernel
theorem dX11_heldMany_19 : decode cX11_heldMany 19 = .ok (.iload_n 3, 1) := by decide +kernel
theorem dX11_heldMany_20 : decode cX11_heldMany 20 = .ok (.iadd, 1) := by decide +kernel
theorem dX11_heldMany_21 : decode cX11_heldMany 21 = .ok (.iaload, 1) := by decide +kernel
theorem dX11_heldMany_22 : decode cX11_heldMany 22 = .ok (.iadd, 1) := by decide +kernel
theorem dX11_heldMany_23 : decode cX11_heldMany 23 = .ok (.istore_n 2, 1) := by decide +kernel
theorem dX11_heldMany_24 : decode cX11_heldMany 24 = .ok (.iinc 3 1, 3) := by decide +kernel
theorem dX11_heldMany_27 : decode cX11_heldMany 27 = .ok (.goto (-23), 3) := by decide +kernel
theorem dX11_heldMany_30 : decode cX11_heldMany 30 = .ok (.iload_n 2, 1) := by decide +kernel
theorem dX11_heldMany_31 : decode cX11_heldMany 31 = .ok (.ireturn, 1) := by decide +kernel
theorem dX11_sizeOf_0 : decode cX11_sizeOf 0 = .ok (.aload_n 0, 1) := by decide +kernel
theorem dX11_sizeOf_1 : decode cX11_sizeOf 1 = .ok (.iload_n 1, 1) := by decide +kernel
theorem dX11_sizeOf_2 : decode cX11_sizeOf 2 = .ok (.invokevirtual 110, 3) := by decide +kernel
theorem dX11_sizeOf_5 : decode cX11_sizeOf 5 = .ok (.iconst 3, 1) := by decide +kernel
theorem dX11_sizeOf_6 : decode cX11_sizeOf 6 = .ok (.aload_n 0, 1) := by decide +kernel
theorem dX11_sizeOf_7 : decode cX11_sizeOf 7 = .ok (.getfield 22, 3) := by decide +kernel
theorem dX11_sizeOf_10 : decode cX11_sizeOf 10 = .ok (.iload_n 1, 1) := by decide +kernel
theorem dX11_sizeOf_11 : decode cX11_sizeOf 11 = .ok (.iaload, 1) := by decide +kernel
theorem dX11_sizeOf_12 : decode cX11_sizeOf 12 = .ok (.imul, 1) := by decide +kernel
theorem dX11_sizeOf_13 : decode cX11_sizeOf 13 = .ok (.iadd, 1) := by decide +kernel
theorem dX11_sizeOf_14 : decode cX11_sizeOf 14 = .ok (.ireturn, 1) := by decide +kernel
theorem dX11_read_0 : decode cX11_read 0 = .ok (.iload_n 1, 1) := by decide +kernel
theorem dX11_read_1 : decode cX11_read 1 = .ok (.invokestatic 114, 3) := by decide +kernel
theorem dX11_read_4 : decode cX11_read 4 = .ok (.ifCond .eq 10, 3) := by decide +kernel
theorem dX11_read_7 : decode cX11_read 7 = .ok (.iload_n 2, 1) := by decide +kernel
theorem dX11_read_8 : decode cX11_read 8 = .ok (.invokestatic 94, 3) := by decide +kernel
theorem dX11_read_11 : decode cX11_read 11 = .ok (.ifCond .ne 5, 3) := by decide +kernel
theorem dX11_read_14 : decode cX11_read 14 = .ok (.iconst (-1), 1) := by decide +kernel
theorem dX11_read_15 : decode cX11_read 15 = .ok (.ireturn, 1) := by decide +kernel
theorem dX11_read_16 : decode cX11_read 16 = .ok (.aload_n 0, 1) := by decide +kernel
theorem dX11_read_17 : decode cX11_read 17 = .ok (.getfield 32, 3) := by decide +kernel
theorem dX11_read_20 : decode cX11_read 20 = .ok (.iload_n 2, 1) := by decide +kernel
theorem dX11_read_21 : decode cX11_read 21 = .ok (.iaload, 1) := by decide +kernel
theorem dX11_read_22 : decode cX11_read 22 = .ok (.ifCond .ge 6, 3) := by decide +kernel
theorem dX11_read_25 : decode cX11_read 25 = .ok (.bipush (-11), 2) := by decide +kernel
theorem dX11_read_27 : decode cX11_read 27 = .ok (.ireturn, 1) := by decide +kernel
theorem dX11_read_28 : decode cX11_read 28 = .ok (.iload 4, 2) := by decide +kernel
theorem dX11_read_30 : decode cX11_read 30 = .ok (.ifCond .ge 6, 3) := by decide +kernel
theorem dX11_read_33 : decode cX11_read 33 = .ok (.bipush (-13), 2) := by decide +kernel
theorem dX11_read_35 : decode cX11_read 35 = .ok (.ireturn, 1) := by decide +kernel
theorem dX11_read_36 : decode cX11_read 36 = .ok (.iload_n 3, 1) := by decide +kernel
theorem dX11_read_37 : decode cX11_read 37 = .ok (.ifCond .lt 20, 3) := by decide +kernel
theorem dX11_read_40 : decode cX11_read 40 = .ok (.iload_n 3, 1) := by decide +kernel
theorem dX11_read_41 : decode cX11_read 41 = .ok (.i2l, 1) := by decide +kernel
theorem dX11_read_42 : decode cX11_read 42 = .ok (.iload 4, 2) := by decide +kernel
theorem dX11_read_44 : decode cX11_read 44 = .ok (.i2l, 1) := by decide +kernel
theorem dX11_read_45 : decode cX11_read 45 = .ok (.ladd, 1) := by decide +kernel
theorem dX11_read_46 : decode cX11_read 46 = .ok (.aload_n 0, 1) := by decide +kernel
theorem dX11_read_47 : decode cX11_read 47 = .ok (.getfield 35, 3) := by decide +kernel
theorem dX11_read_50 : decode cX11_read 50 = .ok (.iload_n 2, 1) := by decide +kernel
theorem dX11_read_51 : decode cX11_read 51 = .ok (.iaload, 1) := by decide +kernel
theorem dX11_read_52 : decode cX11_read 52 = .ok (.i2l, 1) := by decide +kernel
theorem dX11_read_53 : decode cX11_read 53 = .ok (.lcmp, 1) := by decide +kernel
theorem dX11_read_54 : decode cX11_read 54 = .ok (.ifCond .le 6, 3) := by decide +kernel
theorem dX11_read_57 : decode cX11_read 57 = .ok (.bipush (-12), 2) := by decide +kernel
theorem dX11_read_59 : decode cX11_read 59 = .ok (.ireturn, 1) := by decide +kernel
theorem dX11_read_60 : decode cX11_read 60 = .ok (.aload_n 0, 1) := by decide +kernel
theorem dX11_read_61 : decode cX11_read 61 = .ok (.iload_n 1, 1) := by decide +kernel
theorem dX11_read_62 : decode cX11_read 62 = .ok (.invokevirtual 117, 3) := by decide +kernel
theorem dX11_read_65 : decode cX11_read 65 = .ok (.iload 4, 2) := by decide +kernel
theorem dX11_read_67 : decode cX11_read 67 = .ok (.iadd, 1) := by decide +kernel
theorem dX11_read_68 : decode cX11_read 68 = .ok (.bipush 14, 2) := by decide +kernel
theorem dX11_read_70 : decode cX11_read 70 = .ok (.if_icmp .le 6, 3) := by decide +kernel
theorem dX11_read_73 : decode cX11_read 73 = .ok (.bipush (-17), 2) := by decide +kernel
theorem dX11_read_75 : decode cX11_read 75 = .ok (.ireturn, 1) := by decide +kernel
theorem dX11_read_76 : decode cX11_read 76 = .ok (.iconst 0, 1) := by decide +kernel
theorem dX11_read_77 : decode cX11_read 77 = .ok (.istore 5, 2) := by decide +kernel
theorem dX11_read_79 : decode cX11_read 79 = .ok (.iload 5, 2) := by decide +kernel
theorem dX11_read_81 : decode cX11_read 81 = .ok (.bipush 34, 2) := by decide +kernel
theorem dX11_read_83 : decode cX11_read 83 = .ok (.if_icmp .ge 17, 3) := by decide +kernel
theorem dX11_read_86 : decode cX11_read 86 = .ok (.aload_n 0, 1) := by decide +kernel
theorem dX11_read_87 : decode cX11_read 87 = .ok (.getfield 53, 3) := by decide +kernel
theorem dX11_read_90 : decode cX11_read 90 = .ok (.iload 5, 2) := by decide +kernel
theorem dX11_read_92 : decode cX11_read 92 = .ok (.iconst 0, 1) := by decide +kernel
theorem dX11_read_93 : decode cX11_read 93 = .ok (.iastore, 1) := by decide +kernel
theorem dX11_read_94 : decode cX11_read 94 = .ok (.iinc 5 1, 3) := by decide +kernel
theorem dX11_read_97 : decode cX11_read 97 = .ok (.goto (-18), 3) := by decide +kernel
theorem dX11_read_100 : decode cX11_read 100 = .ok (.iconst 0, 1) := by decide +kernel
theorem dX11_read_101 : decode cX11_read 101 = .ok (.istore 5, 2) := by decide +kernel
theorem dX11_read_103 : decode cX11_read 103 = .ok (.iload 5, 2) := by decide +kernel
theorem dX11_read_105 : decode cX11_read 105 = .ok (.iload 4, 2) := by decide +kernel
theorem dX11_read_107 : decode cX11_read 107 = .ok (.if_icmp .ge 67, 3) := by decide +kernel
theorem dX11_read_110 : decode cX11_read 110 = .ok (.aload_n 0, 1) := by decide +kernel
theorem dX11_read_111 : decode cX11_read 111 = .ok (.getfield 38, 3) := by decide +kernel
theorem dX11_read_114 : decode cX11_read 114 = .ok (.bipush 40, 2) := by decide +kernel
theorem dX11_read_116 : decode cX11_read 116 = .ok (.iload_n 2, 1) := by decide +kernel
theorem dX11_read_117 : decode cX11_read 117 = .ok (.imul, 1) := by decide +kernel
theorem dX11_read_118 : decode cX11_read 118 = .ok (.iload_n 3, 1) := by decide +kernel
theorem dX11_read_119 : decode cX11_read 119 = .ok (.iadd, 1) := by decide +kernel
theorem dX11_read_120 : decode cX11_read 120 = .ok (.iload 5, 2) := by decide +kernel
theorem dX11_read_122 : decode cX11_read 122 = .ok (.iadd, 1) := by decide +kernel
theorem dX11_read_123 : decode cX11_read 123 = .ok (.iaload, 1) := by decide +kernel
theorem dX11_read_124 : decode cX11_read 124 = .ok (.istore 6, 2) := by decide +kernel
theorem dX11_read_126 : decode cX11_read 126 = .ok (.iload 6, 2) := by decide +kernel
theorem dX11_read_128 : decode cX11_read 128 = .ok (.invokestatic 120, 3) := by decide +kernel
theorem dX11_read_131 : decode cX11_read 131 = .ok (.ifCond .ne 6, 3) := by decide +kernel
theorem dX11_read_134 : decode cX11_read 134 = .ok (.bipush (-15), 2) := by decide +kernel
theorem dX11_read_136 : decode cX11_read 136 = .ok (.ireturn, 1) := by decide +kernel
theorem dX11_read_137 : decode cX11_read 137 = .ok (.aload_n 0, 1) := by decide +kernel
theorem dX11_read_138 : decode cX11_read 138 = .ok (.getfield 53, 3) := by decide +kernel
theorem dX11_read_141 : decode cX11_read 141 = .ok (.iload 6, 2) := by decide +kernel
theorem dX11_read_143 : decode cX11_read 143 = .ok (.iaload, 1) := by decide +kernel
theorem dX11_read_144 : decode cX11_read 144 = .ok (.aload_n 0, 1) := by decide +kernel
theorem dX11_read_145 : decode cX11_read 145 = .ok (.getfield 7, 3) := by decide +kernel
theorem dX11_read_148 : decode cX11_read 148 = .ok (.iload 6, 2) := by decide +kernel
theorem dX11_read_150 : decode cX11_read 150 = .ok (.iaload, 1) := by decide +kernel
theorem dX11_read_151 : decode cX11_read 151 = .ok (.if_icmp .ne 6, 3) := by decide +kernel
theorem dX11_read_154 : decode cX11_read 154 = .ok (.bipush (-16), 2) := by decide +kernel
theorem dX11_read_156 : decode cX11_read 156 = .ok (.ireturn, 1) := by decide +kernel
theorem dX11_read_157 : decode cX11_read 157 = .ok (.aload_n 0, 1) := by decide +kernel
theorem dX11_read_158 : decode cX11_read 158 = .ok (.getfield 53, 3) := by decide +kernel
theorem dX11_read_161 : decode cX11_read 161 = .ok (.iload 6, 2) := by decide +kernel
theorem dX11_read_163 : decode cX11_read 163 = .ok (.dup2, 1) := by decide +kernel
theorem dX11_read_164 : decode cX11_read 164 = .ok (.iaload, 1) := by decide +kernel
theorem dX11_read_165 : decode cX11_read 165 = .ok (.iconst 1, 1) := by decide +kernel
theorem dX11_read_166 : decode cX11_read 166 = .ok (.iadd, 1) := by decide +kernel
theorem dX11_read_167 : decode cX11_read 167 = .ok (.iastore, 1) := by decide +kernel
theorem dX11_read_168 : decode cX11_read 168 = .ok (.iinc 5 1, 3) := by decide +kernel
theorem dX11_read_171 : decode cX11_read 171 = .ok (.goto (-68), 3) := by decide +kernel
theorem dX11_read_174 : decode cX11_read 174 = .ok (.iconst 0, 1) := by decide +kernel
theorem dX11_read_175 : decode cX11_read 175 = .ok (.istore 5, 2) := by decide +kernel
theorem dX11_read_177 : decode cX11_read 177 = .ok (.iload 5, 2) := by decide +kernel
theorem dX11_read_179 : decode cX11_read 179 = .ok (.bipush 34, 2) := by decide +kernel
theorem dX11_read_181 : decode cX11_read 181 = .ok (.if_icmp .ge 48, 3) := by decide +kernel
theorem dX11_read_184 : decode cX11_read 184 = .ok (.aload_n 0, 1) := by decide +kernel
theorem dX11_read_185 : decode cX11_read 185 = .ok (.getfield 7, 3) := by decide +kernel
theorem dX11_read_188 : decode cX11_read 188 = .ok (.iload 5, 2) := by decide +kernel
theorem dX11_read_190 : decode cX11_read 190 = .ok (.dup2, 1) := by decide +kernel
theorem dX11_read_191 : decode cX11_read 191 = .ok (.iaload, 1) := by decide +kernel
theorem dX11_read_192 : decode cX11_read 192 = .ok (.aload_n 0, 1) := by decide +kernel
theorem dX11_read_193 : decode cX11_read 193 = .ok (.getfield 53, 3) := by decide +kernel
theorem dX11_read_196 : decode cX11_read 196 = .ok (.iload 5, 2) := by decide +kernel
theorem dX11_read_198 : decode cX11_read 198 = .ok (.iaload, 1) := by decide +kernel
theorem dX11_read_199 : decode cX11_read 199 = .ok (.isub, 1) := by decide +kernel
theorem dX11_read_200 : decode cX11_read 200 = .ok (.iastore, 1) := by decide +kernel
theorem dX11_read_201 : decode cX11_read 201 = .ok (.aload_n 0, 1) := by decide +kernel
theorem dX11_read_202 : decode cX11_read 202 = .ok (.getfield 16, 3) := by decide +kernel
theorem dX11_read_205 : decode cX11_read 205 = .ok (.bipush 34, 2) := by decide +kernel
theorem dX11_read_207 : decode cX11_read 207 = .ok (.iload_n 1, 1) := by decide +kernel
theorem dX11_read_208 : decode cX11_read 208 = .ok (.imul, 1) := by decide +kernel
theorem dX11_read_209 : decode cX11_read 209 = .ok (.iload 5, 2) := by decide +kernel
theorem dX11_read_211 : decode cX11_read 211 = .ok (.iadd, 1) := by decide +kernel
theorem dX11_read_212 : decode cX11_read 212 = .ok (.dup2, 1) := by decide +kernel
theorem dX11_read_213 : decode cX11_read 213 = .ok (.iaload, 1) := by decide +kernel
theorem dX11_read_214 : decode cX11_read 214 = .ok (.aload_n 0, 1) := by decide +kernel
theorem dX11_read_215 : decode cX11_read 215 = .ok (.getfield 53, 3) := by decide +kernel
theorem dX11_read_218 : decode cX11_read 218 = .ok (.iload 5, 2) := by decide +kernel
theorem dX11_read_220 : decode cX11_read 220 = .ok (.iaload, 1) := by decide +kernel
theorem dX11_read_221 : decode cX11_read 221 = .ok (.iadd, 1) := by decide +kernel
theorem dX11_read_222 : decode cX11_read 222 = .ok (.iastore, 1) := by decide +kernel
theorem dX11_read_223 : decode cX11_read 223 = .ok (.iinc 5 1, 3) := by decide +kernel
theorem dX11_read_226 : decode cX11_read 226 = .ok (.goto (-49), 3) := by decide +kernel
theorem dX11_read_229 : decode cX11_read 229 = .ok (.aload_n 0, 1) := by decide +kernel
theorem dX11_read_230 : decode cX11_read 230 = .ok (.iload_n 1, 1) := by decide +kernel
theorem dX11_read_231 : decode cX11_read 231 = .ok (.invokevirtual 117, 3) := by decide +kernel
theorem dX11_read_234 : decode cX11_read 234 = .ok (.ireturn, 1) := by decide +kernel
theorem dX11_take_0 : decode cX11_take 0 = .ok (.iload_n 1, 1) := by decide +kernel
theorem dX11_take_1 : decode cX11_take 1 = .ok (.invokestatic 114, 3) := by decide +kernel
theorem dX11_take_4 : decode cX11_take 4 = .ok (.ifCond .eq 10, 3) := by decide +kernel
theorem dX11_take_7 : decode cX11_take 7 = .ok (.iload_n 2, 1) := by decide +kernel
theorem dX11_take_8 : decode cX11_take 8 = .ok (.invokestatic 120, 3) := by decide +kernel
theorem dX11_take_11 : decode cX11_take 11 = .ok (.ifCond .ne 5, 3) := by decide +kernel
theorem dX11_take_14 : decode cX11_take 14 = .ok (.iconst (-1), 1) := by decide +kernel
theorem dX11_take_15 : decode cX11_take 15 = .ok (.ireturn, 1) := by decide +kernel
theorem dX11_take_16 : decode cX11_take 16 = .ok (.aload_n 0, 1) := by decide +kernel
theorem dX11_take_17 : decode cX11_take 17 = .ok (.iload_n 1, 1) := by decide +kernel
theorem dX11_take_18 : decode cX11_take 18 = .ok (.invokevirtual 117, 3) := by decide +kernel
theorem dX11_take_21 : decode cX11_take 21 = .ok (.bipush 14, 2) := by decide +kernel
theorem dX11_take_23 : decode cX11_take 23 = .ok (.if_icmp .ne 6, 3) := by decide +kernel
theorem dX11_take_26 : decode cX11_take 26 = .ok (.bipush (-2), 2) := by decide +kernel
theorem dX11_take_28 : decode cX11_take 28 = .ok (.ireturn, 1) := by decide +kernel
theorem dX11_take_29 : decode cX11_take 29 = .ok (.aload_n 0, 1) := by decide +kernel
theorem dX11_take_30 : decode cX11_take 30 = .ok (.getfield 7, 3) := by decide +kernel
theorem dX11_take_33 : decode cX11_take 33 = .ok (.iload_n 2, 1) := by decide +kernel
theorem dX11_take_34 : decode cX11_take 34 = .ok (.iaload, 1) := by decide +kernel
theorem dX11_take_35 : decode cX11_take 35 = .ok (.ifCond .ne 6, 3) := by decide +kernel
theorem dX11_take_38 : decode cX11_take 38 = .ok (.bipush (-16), 2) := by decide +kernel
theorem dX11_take_40 : decode cX11_take 40 = .ok (.ireturn, 1) := by decide +kernel
theorem dX11_take_41 : decode cX11_take 41 = .ok (.aload_n 0, 1) := by decide +kernel
theorem dX11_take_42 : decode cX11_take 42 = .ok (.getfield 7, 3) := by decide +kernel
theorem dX11_take_45 : decode cX11_take 45 = .ok (.iload_n 2, 1) := by decide +kernel
theorem dX11_take_46 : decode cX11_take 46 = .ok (.dup2, 1) := by decide +kernel
theorem dX11_take_47 : decode cX11_take 47 = .ok (.iaload, 1) := by decide +kernel
theorem dX11_take_48 : decode cX11_take 48 = .ok (.iconst 1, 1) := by decide +kernel
theorem dX11_take_49 : decode cX11_take 49 = .ok (.isub, 1) := by decide +kernel
theorem dX11_take_50 : decode cX11_take 50 = .ok (.iastore, 1) := by decide +kernel
theorem dX11_take_51 : decode cX11_take 51 = .ok (.aload_n 0, 1) := by decide +kernel
theorem dX11_take_52 : decode cX11_take 52 = .ok (.getfield 16, 3) := by decide +kernel
theorem dX11_take_55 : decode cX11_take 55 = .ok (.bipush 34, 2) := by decide +kernel
theorem dX11_take_57 : decode cX11_take 57 = .ok (.iload_n 1, 1) := by decide +kernel
theorem dX11_take_58 : decode cX11_take 58 = .ok (.imul, 1) := by decide +kernel
theorem dX11_take_59 : decode cX11_take 59 = .ok (.iload_n 2, 1) := by decide +kernel
theorem dX11_take_60 : decode cX11_take 60 = .ok (.iadd, 1) := by decide +kernel
theorem dX11_take_61 : decode cX11_take 61 = .ok (.dup2, 1) := by decide +kernel
theorem dX11_take_62 : decode cX11_take 62 = .ok (.iaload, 1) := by decide +kernel
theorem dX11_take_63 : decode cX11_take 63 = .ok (.iconst 1, 1) := by decide +kernel
theorem dX11_take_64 : decode cX11_take 64 = .ok (.iadd, 1) := by decide +kernel
theorem dX11_take_65 : decode cX11_take 65 = .ok (.iastore, 1) := by decide +kernel
theorem dX11_take_66 : decode cX11_take 66 = .ok (.aload_n 0, 1) := by decide +kernel
theorem dX11_take_67 : decode cX11_take 67 = .ok (.iload_n 1, 1) := by decide +kernel
theorem dX11_take_68 : decode cX11_take 68 = .ok (.invokevirtual 117, 3) := by decide +kernel
theorem dX11_take_71 : decode cX11_take 71 = .ok (.ireturn, 1) := by decide +kernel
theorem dX11_seed_0 : decode cX11_seed 0 = .ok (.iload_n 1, 1) := by decide +kernel
theorem dX11_seed_1 : decode cX11_seed 1 = .ok (.ifCond .ge 5, 3) := by decide +kernel
theorem dX11_seed_4 : decode cX11_seed 4 = .ok (.iconst (-1), 1) := by decide +kernel
theorem dX11_seed_5 : decode cX11_seed 5 = .ok (.ireturn, 1) := by decide +kernel
theorem dX11_seed_6 : decode cX11_seed 6 = .ok (.aload_n 0, 1) := by decide +kernel
theorem dX11_seed_7 : decode cX11_seed 7 = .ok (.iload_n 1, 1) := by decide +kernel
theorem dX11_seed_8 : decode cX11_seed 8 = .ok (.i2l, 1) := by decide +kernel
theorem dX11_seed_9 : decode cX11_seed 9 = .ok (.putfield 28, 3) := by decide +kernel
theorem dX11_seed_12 : decode cX11_seed 12 = .ok (.iconst 0, 1) := by decide +kernel
theorem dX11_seed_13 : decode cX11_seed 13 = .ok (.ireturn, 1) := by decide +kernel
theorem dX11_wallMany_0 : decode cX11_wallMany 0 = .ok (.iconst 0, 1) := by decide +kernel
theorem dX11_wallMany_1 : decode cX11_wallMany 1 = .ok (.istore_n 1, 1) := by decide +kernel
theorem dX11_wallMany_2 : decode cX11_wallMany 2 = .ok (.iconst 0, 1) := by decide +kernel
theorem dX11_wallMany_3 : decode cX11_wallMany 3 = .ok (.istore_n 2, 1) := by decide +kernel
theorem dX11_wallMany_4 : decode cX11_wallMany 4 = .ok (.iload_n 2, 1) := by decide +kernel
theorem dX11_wallMany_5 : decode cX11_wallMany 5 = .ok (.bipush 34, 2) := by decide +kernel
theorem dX11_wallMany_7 : decode cX11_wallMany 7 = .ok (.if_icmp .ge 18, 3) := by decide +kernel
theorem dX11_wallMany_10 : decode cX11_wallMany 10 = .ok (.iload_n 1, 1) := by decide +kernel
theorem dX11_wallMany_11 : decode cX11_wallMany 11 = .ok (.aload_n 0, 1) := by decide +kernel
theorem dX11_wallMany_12 : decode cX11_wallMany 12 = .ok (.getfield 7, 3) := by decide +kernel
theorem dX11_wallMany_15 : decode cX11_wallMany 15 = .ok (.iload_n 2, 1) := by decide +kernel
theorem dX11_wallMany_16 : decode cX11_wallMany 16 = .ok (.iaload, 1) := by decide +kernel
theorem dX11_wallMany_17 : decode cX11_wallMany 17 = .ok (.iadd, 1) := by decide +kernel
theorem dX11_wallMany_18 : decode cX11_wallMany 18 = .ok (.istore_n 1, 1) := by decide +kernel
theorem dX11_wallMany_19 : decode cX11_wallMany 19 = .ok (.iinc 2 1, 3) := by decide +kernel
theorem dX11_wallMany_22 : decode cX11_wallMany 22 = .ok (.goto (-18), 3) := by decide +kernel
theorem dX11_wallMany_25 : decode cX11_wallMany 25 = .ok (.iload_n 1, 1) := by decide +kernel
theorem dX11_wallMany_26 : decode cX11_wallMany 26 = .ok (.ireturn, 1) := by decide +kernel
theorem dX11_drawn_0 : decode cX11_drawn 0 = .ok (.aload_n 0, 1) := by decide +kernel
theorem dX11_drawn_1 : decode cX11_drawn 1 = .ok (.aload_n 0, 1) := by decide +kernel
theorem dX11_drawn_2 : decode cX11_drawn 2 = .ok (.getfield 28, 3) := by decide +kernel
theorem dX11_drawn_5 : decode cX11_drawn 5 = .ok (.ldc2_w 123, 3) := by decide +kernel
theorem dX11_drawn_8 : decode cX11_drawn 8 = .ok (.lmul, 1) := by decide +kernel
theorem dX11_drawn_9 : decode cX11_drawn 9 = .ok (.ldc2_w 125, 3) := by decide +kernel
theorem dX11_drawn_12 : decode cX11_drawn 12 = .ok (.ladd, 1) := by decide +kernel
theorem dX11_drawn_13 : decode cX11_drawn 13 = .ok (.ldc2_w 127, 3) := by decide +kernel
theorem dX11_drawn_16 : decode cX11_drawn 16 = .ok (.lrem, 1) := by decide +kernel
theorem dX11_drawn_17 : decode cX11_drawn 17 = .ok (.putfield 28, 3) := by decide +kernel
theorem dX11_drawn_20 : decode cX11_drawn 20 = .ok (.aload_n 0, 1) := by decide +kernel
theorem dX11_drawn_21 : decode cX11_drawn 21 = .ok (.getfield 28, 3) := by decide +kernel
theorem dX11_drawn_24 : decode cX11_drawn 24 = .ok (.ldc2_w 129, 3) := by decide +kernel
theorem dX11_drawn_27 : decode cX11_drawn 27 = .ok (.ldiv, 1) := by decide +kernel
theorem dX11_drawn_28 : decode cX11_drawn 28 = .ok (.aload_n 0, 1) := by decide +kernel
theorem dX11_drawn_29 : decode cX11_drawn 29 = .ok (.invokevirtual 131, 3) := by decide +kernel
theorem dX11_drawn_32 : decode cX11_drawn 32 = .ok (.i2l, 1) := by decide +kernel
theorem dX11_drawn_33 : decode cX11_drawn 33 = .ok (.lrem, 1) := by decide +kernel
theorem dX11_drawn_34 : decode cX11_drawn 34 = .ok (.l2i, 1) := by decide +kernel
theorem dX11_drawn_35 : decode cX11_drawn 35 = .ok (.istore_n 2, 1) := by decide +kernel
theorem dX11_drawn_36 : decode cX11_drawn 36 = .ok (.iconst 0, 1) := by decide +kernel
theorem dX11_drawn_37 : decode cX11_drawn 37 = .ok (.istore_n 3, 1) := by decide +kernel
theorem dX11_drawn_38 : decode cX11_drawn 38 = .ok (.iload_n 2, 1) := by decide +kernel
theorem dX11_drawn_39 : decode cX11_drawn 39 = .ok (.aload_n 0, 1) := by decide +kernel
theorem dX11_drawn_40 : decode cX11_drawn 40 = .ok (.getfield 7, 3) := by decide +kernel
theorem dX11_drawn_43 : decode cX11_drawn 43 = .ok (.iload_n 3, 1) := by decide +kernel
theorem dX11_drawn_44 : decode cX11_drawn 44 = .ok (.iaload, 1) := by decide +kernel
theorem dX11_drawn_45 : decode cX11_drawn 45 = .ok (.if_icmp .lt 18, 3) := by decide +kernel
theorem dX11_drawn_48 : decode cX11_drawn 48 = .ok (.iload_n 2, 1) := by decide +kernel
theorem dX11_drawn_49 : decode cX11_drawn 49 = .ok (.aload_n 0, 1) := by decide +kernel
theorem dX11_drawn_50 : decode cX11_drawn 50 = .ok (.getfield 7, 3) := by decide +kernel
theorem dX11_drawn_53 : decode cX11_drawn 53 = .ok (.iload_n 3, 1) := by decide +kernel
theorem dX11_drawn_54 : decode cX11_drawn 54 = .ok (.iaload, 1) := by decide +kernel
theorem dX11_drawn_55 : decode cX11_drawn 55 = .ok (.isub, 1) := by decide +kernel
theorem dX11_drawn_56 : decode cX11_drawn 56 = .ok (.istore_n 2, 1) := by decide +kernel
theorem dX11_drawn_57 : decode cX11_drawn 57 = .ok (.iinc 3 1, 3) := by decide +kernel
theorem dX11_drawn_60 : decode cX11_drawn 60 = .ok (.goto (-22), 3) := by decide +kernel
theorem dX11_drawn_63 : decode cX11_drawn 63 = .ok (.aload_n 0, 1) := by decide +kernel
theorem dX11_drawn_64 : decode cX11_drawn 64 = .ok (.getfield 7, 3) := by decide +kernel
theorem dX11_drawn_67 : decode cX11_drawn 67 = .ok (.iload_n 3, 1) := by decide +kernel
theorem dX11_drawn_68 : decode cX11_drawn 68 = .ok (.dup2, 1) := by decide +kernel
theorem dX11_drawn_69 : decode cX11_drawn 69 = .ok (.iaload, 1) := by decide +kernel
theorem dX11_drawn_70 : decode cX11_drawn 70 = .ok (.iconst 1, 1) := by decide +kernel
theorem dX11_drawn_71 : decode cX11_drawn 71 = .ok (.isub, 1) := by decide +kernel
theorem dX11_drawn_72 : decode cX11_drawn 72 = .ok (.iastore, 1) := by decide +kernel
theorem dX11_drawn_73 : decode cX11_drawn 73 = .ok (.aload_n 0, 1) := by decide +kernel
theorem dX11_drawn_74 : decode cX11_drawn 74 = .ok (.getfield 16, 3) := by decide +kernel
theorem dX11_drawn_77 : decode cX11_drawn 77 = .ok (.bipush 34, 2) := by decide +kernel
theorem dX11_drawn_79 : decode cX11_drawn 79 = .ok (.iload_n 1, 1) := by decide +kernel
theorem dX11_drawn_80 : decode cX11_drawn 80 = .ok (.imul, 1) := by decide +kernel
theorem dX11_drawn_81 : decode cX11_drawn 81 = .ok (.iload_n 3, 1) := by decide +kernel
theorem dX11_drawn_82 : decode cX11_drawn 82 = .ok (.iadd, 1) := by decide +kernel
theorem dX11_drawn_83 : decode cX11_drawn 83 = .ok (.dup2, 1) := by decide +kernel
theorem dX11_drawn_84 : decode cX11_drawn 84 = .ok (.iaload, 1) := by decide +kernel
theorem dX11_drawn_85 : decode cX11_drawn 85 = .ok (.iconst 1, 1) := by decide +kernel
theorem dX11_drawn_86 : decode cX11_drawn 86 = .ok (.iadd, 1) := by decide +kernel
theorem dX11_drawn_87 : decode cX11_drawn 87 = .ok (.iastore, 1) := by decide +kernel
theorem dX11_drawn_88 : decode cX11_drawn 88 = .ok (.iload_n 3, 1) := by decide +kernel
theorem dX11_drawn_89 : decode cX11_drawn 89 = .ok (.ireturn, 1) := by decide +kernel
theorem dX11_draw_0 : decode cX11_draw 0 = .ok (.iload_n 1, 1) := by decide +kernel
theorem dX11_draw_1 : decode cX11_draw 1 = .ok (.invokestatic 114, 3) := by decide +kernel
theorem dX11_draw_4 : decode cX11_draw 4 = .ok (.ifCond .ne 5, 3) := by decide +kernel
theorem dX11_draw_7 : decode cX11_draw 7 = .ok (.iconst (-1), 1) := by decide +kernel
theorem dX11_draw_8 : decode cX11_draw 8 = .ok (.ireturn, 1) := by decide +kernel
theorem dX11_draw_9 : decode cX11_draw 9 = .ok (.aload_n 0, 1) := by decide +kernel
theorem dX11_draw_10 : decode cX11_draw 10 = .ok (.iload_n 1, 1) := by decide +kernel
theorem dX11_draw_11 : decode cX11_draw 11 = .ok (.invokevirtual 117, 3) := by decide +kernel
theorem dX11_draw_14 : decode cX11_draw 14 = .ok (.bipush 14, 2) := by decide +kernel
theorem dX11_draw_16 : decode cX11_draw 16 = .ok (.if_icmp .ne 6, 3) := by decide +kernel
theorem dX11_draw_19 : decode cX11_draw 19 = .ok (.bipush (-2), 2) := by decide +kernel
theorem dX11_draw_21 : decode cX11_draw 21 = .ok (.ireturn, 1) := by decide +kernel
theorem dX11_draw_22 : decode cX11_draw 22 = .ok (.aload_n 0, 1) := by decide +kernel
theorem dX11_draw_23 : decode cX11_draw 23 = .ok (.invokevirtual 131, 3) := by decide +kernel
theorem dX11_draw_26 : decode cX11_draw 26 = .ok (.ifCond .ne 8, 3) := by decide +kernel
theorem dX11_draw_29 : decode cX11_draw 29 = .ok (.bipush (-3), 2) := by decide +kernel
theorem dX11_draw_31 : decode cX11_draw 31 = .ok (.goto 8, 3) := by decide +kernel
theorem dX11_draw_34 : decode cX11_draw 34 = .ok (.aload_n 0, 1) := by decide +kernel
theorem dX11_draw_35 : decode cX11_draw 35 = .ok (.iload_n 1, 1) := by decide +kernel
theorem dX11_draw_36 : decode cX11_draw 36 = .ok (.invokevirtual 135, 3) := by decide +kernel
theorem dX11_draw_39 : decode cX11_draw 39 = .ok (.ireturn, 1) := by decide +kernel
theorem dX11_gather_0 : decode cX11_gather 0 = .ok (.iconst 0, 1) := by decide +kernel
theorem dX11_gather_1 : decode cX11_gather 1 = .ok (.istore_n 2, 1) := by decide +kernel
theorem dX11_gather_2 : decode cX11_gather 2 = .ok (.iconst 0, 1) := by decide +kernel
theorem dX11_gather_3 : decode cX11_gather 3 = .ok (.istore_n 3, 1) := by decide +kernel
theorem dX11_gather_4 : decode cX11_gather 4 = .ok (.iload_n 3, 1) := by decide +kernel
theorem dX11_gather_5 : decode cX11_gather 5 = .ok (.bipush 34, 2) := by decide +kernel
theorem dX11_gather_7 : decode cX11_gather 7 = .ok (.if_icmp .ge 74, 3) := by decide +kernel
theorem dX11_gather_10 : decode cX11_gather 10 = .ok (.aload_n 0, 1) := by decide +kernel
theorem dX11_gather_11 : decode cX11_gather 11 = .ok (.getfield 16, 3) := by decide +kernel
theorem dX11_gather_14 : decode cX11_gather 14 = .ok (.bipush 34, 2) := by decide +kernel
theorem dX11_gather_16 : decode cX11_gather 16 = .ok (.iload_n 1, 1) := by decide +kernel
theorem dX11_gather_17 : decode cX11_gather 17 = .ok (.imul, 1) := by decide +kernel
theorem dX11_gather_18 : decode cX11_gather 18 = .ok (.iload_n 3, 1) := by decide +kernel
theorem dX11_gather_19 : decode cX11_gather 19 = .ok (.iadd, 1) := by decide +kernel
theorem dX11_gather_20 : decode cX11_gather 20 = .ok (.iaload, 1) := by decide +kernel
theorem dX11_gather_21 : decode cX11_gather 21 = .ok (.aload_n 0, 1) := by decide +kernel
theorem dX11_gather_22 : decode cX11_gather 22 = .ok (.getfield 19, 3) := by decide +kernel
theorem dX11_gather_25 : decode cX11_gather 25 = .ok (.bipush 34, 2) := by decide +kernel
theorem dX11_gather_27 : decode cX11_gather 27 = .ok (.iload_n 1, 1) := by decide +kernel
theorem dX11_gather_28 : decode cX11_gather 28 = .ok (.imul, 1) := by decide +kernel
theorem dX11_gather_29 : decode cX11_gather 29 = .ok (.iload_n 3, 1) := by decide +kernel
theorem dX11_gather_30 : decode cX11_gather 30 = .ok (.iadd, 1) := by decide +kernel
theorem dX11_gather_31 : decode cX11_gather 31 = .ok (.iaload, 1) := by decide +kernel
theorem dX11_gather_32 : decode cX11_gather 32 = .ok (.iadd, 1) := by decide +kernel
theorem dX11_gather_33 : decode cX11_gather 33 = .ok (.istore 4, 2) := by decide +kernel
theorem dX11_gather_35 : decode cX11_gather 35 = .ok (.aload_n 0, 1) := by decide +kernel
theorem dX11_gather_36 : decode cX11_gather 36 = .ok (.getfield 7, 3) := by decide +kernel
theorem dX11_gather_39 : decode cX11_gather 39 = .ok (.iload_n 3, 1) := by decide +kernel
theorem dX11_gather_40 : decode cX11_gather 40 = .ok (.dup2, 1) := by decide +kernel
theorem dX11_gather_41 : decode cX11_gather 41 = .ok (.iaload, 1) := by decide +kernel
theorem dX11_gather_42 : decode cX11_gather 42 = .ok (.iload 4, 2) := by decide +kernel
theorem dX11_gather_44 : decode cX11_gather 44 = .ok (.iadd, 1) := by decide +kernel
theorem dX11_gather_45 : decode cX11_gather 45 = .ok (.iastore, 1) := by decide +kernel
theorem dX11_gather_46 : decode cX11_gather 46 = .ok (.iload_n 2, 1) := by decide +kernel
theorem dX11_gather_47 : decode cX11_gather 47 = .ok (.iload 4, 2) := by decide +kernel
theorem dX11_gather_49 : decode cX11_gather 49 = .ok (.iadd, 1) := by decide +kernel
theorem dX11_gather_50 : decode cX11_gather 50 = .ok (.istore_n 2, 1) := by decide +kernel
theorem dX11_gather_51 : decode cX11_gather 51 = .ok (.aload_n 0, 1) := by decide +kernel
theorem dX11_gather_52 : decode cX11_gather 52 = .ok (.getfield 16, 3) := by decide +kernel
theorem dX11_gather_55 : decode cX11_gather 55 = .ok (.bipush 34, 2) := by decide +kernel
theorem dX11_gather_57 : decode cX11_gather 57 = .ok (.iload_n 1, 1) := by decide +kernel
theorem dX11_gather_58 : decode cX11_gather 58 = .ok (.imul, 1) := by decide +kernel
theorem dX11_gather_59 : decode cX11_gather 59 = .ok (.iload_n 3, 1) := by decide +kernel
theorem dX11_gather_60 : decode cX11_gather 60 = .ok (.iadd, 1) := by decide +kernel
theorem dX11_gather_61 : decode cX11_gather 61 = .ok (.iconst 0, 1) := by decide +kernel
theorem dX11_gather_62 : decode cX11_gather 62 = .ok (.iastore, 1) := by decide +kernel
theorem dX11_gather_63 : decode cX11_gather 63 = .ok (.aload_n 0, 1) := by decide +kernel
theorem dX11_gather_64 : decode cX11_gather 64 = .ok (.getfield 19, 3) := by decide +kernel
theorem dX11_gather_67 : decode cX11_gather 67 = .ok (.bipush 34, 2) := by decide +kernel
theorem dX11_gather_69 : decode cX11_gather 69 = .ok (.iload_n 1, 1) := by decide +kernel
theorem dX11_gather_70 : decode cX11_gather 70 = .ok (.imul, 1) := by decide +kernel
theorem dX11_gather_71 : decode cX11_gather 71 = .ok (.iload_n 3, 1) := by decide +kernel
theorem dX11_gather_72 : decode cX11_gather 72 = .ok (.iadd, 1) := by decide +kernel
theorem dX11_gather_73 : decode cX11_gather 73 = .ok (.iconst 0, 1) := by decide +kernel
theorem dX11_gather_74 : decode cX11_gather 74 = .ok (.iastore, 1) := by decide +kernel
theorem dX11_gather_75 : decode cX11_gather 75 = .ok (.iinc 3 1, 3) := by decide +kernel
theorem dX11_gather_78 : decode cX11_gather 78 = .ok (.goto (-74), 3) := by decide +kernel
theorem dX11_gather_81 : decode cX11_gather 81 = .ok (.aload_n 0, 1) := by decide +kernel
theorem dX11_gather_82 : decode cX11_gather 82 = .ok (.getfield 22, 3) := by decide +kernel
theorem dX11_gather_85 : decode cX11_gather 85 = .ok (.iload_n 1, 1) := by decide +kernel
theorem dX11_gather_86 : decode cX11_gather 86 = .ok (.iconst 0, 1) := by decide +kernel
theorem dX11_gather_87 : decode cX11_gather 87 = .ok (.iastore, 1) := by decide +kernel
theorem dX11_gather_88 : decode cX11_gather 88 = .ok (.iload_n 2, 1) := by decide +kernel
theorem dX11_gather_89 : decode cX11_gather 89 = .ok (.ireturn, 1) := by decide +kernel
theorem dX11_deal_0 : decode cX11_deal 0 = .ok (.iload_n 1, 1) := by decide +kernel
theorem dX11_deal_1 : decode cX11_deal 1 = .ok (.ifCond .ge 5, 3) := by decide +kernel
theorem dX11_deal_4 : decode cX11_deal 4 = .ok (.iconst (-1), 1) := by decide +kernel
theorem dX11_deal_5 : decode cX11_deal 5 = .ok (.ireturn, 1) := by decide +kernel
theorem dX11_deal_6 : decode cX11_deal 6 = .ok (.iconst 0, 1) := by decide +kernel
theorem dX11_deal_7 : decode cX11_deal 7 = .ok (.istore_n 2, 1) := by decide +kernel
theorem dX11_deal_8 : decode cX11_deal 8 = .ok (.iconst 0, 1) := by decide +kernel
theorem dX11_deal_9 : decode cX11_deal 9 = .ok (.istore_n 3, 1) := by decide +kernel
theorem dX11_deal_10 : decode cX11_deal 10 = .ok (.iload_n 3, 1) := by decide +kernel
theorem dX11_deal_11 : decode cX11_deal 11 = .ok (.iconst 4, 1) := by decide +kernel
theorem dX11_deal_12 : decode cX11_deal 12 = .ok (.if_icmp .ge 17, 3) := by decide +kernel
theorem dX11_deal_15 : decode cX11_deal 15 = .ok (.iload_n 2, 1) := by decide +kernel
theorem dX11_deal_16 : decode cX11_deal 16 = .ok (.aload_n 0, 1) := by decide +kernel
theorem dX11_deal_17 : decode cX11_deal 17 = .ok (.iload_n 3, 1) := by decide +kernel
theorem dX11_deal_18 : decode cX11_deal 18 = .ok (.invokevirtual 138, 3) := by decide +kernel
theorem dX11_deal_21 : decode cX11_deal 21 = .ok (.iadd, 1) := by decide +kernel
theorem dX11_deal_22 : decode cX11_deal 22 = .ok (.istore_n 2, 1) := by decide +kernel
theorem dX11_deal_23 : decode cX11_deal 23 = .ok (.iinc 3 1, 3) := by decide +kernel
theorem dX11_deal_26 : decode cX11_deal 26 = .ok (.goto (-16), 3) := by decide +kernel
theorem dX11_deal_29 : decode cX11_deal 29 = .ok (.iconst 0, 1) := by decide +kernel
theorem dX11_deal_30 : decode cX11_deal 30 = .ok (.istore_n 3, 1) := by decide +kernel
theorem dX11_deal_31 : decode cX11_deal 31 = .ok (.iload_n 3, 1) := by decide +kernel
theorem dX11_deal_32 : decode cX11_deal 32 = .ok (.bipush 34, 2) := by decide +kernel
theorem dX11_deal_34 : decode cX11_deal 34 = .ok (.if_icmp .ge 31, 3) := by decide +kernel
theorem dX11_deal_37 : decode cX11_deal 37 = .ok (.aload_n 0, 1) := by decide +kernel
theorem dX11_deal_38 : decode cX11_deal 38 = .ok (.getfield 7, 3) := by decide +kernel
theorem dX11_deal_41 : decode cX11_deal 41 = .ok (.iload_n 3, 1) := by decide +kernel
theorem dX11_deal_42 : decode cX11_deal 42 = .ok (.dup2, 1) := by decide +kernel
theorem dX11_deal_43 : decode cX11_deal 43 = .ok (.iaload, 1) := by decide +kernel
theorem dX11_deal_44 : decode cX11_deal 44 = .ok (.aload_n 0, 1) := by decide +kernel
theorem dX11_deal_45 : decode cX11_deal 45 = .ok (.getfield 13, 3) := by decide +kernel
theorem dX11_deal_48 : decode cX11_deal 48 = .ok (.iload_n 3, 1) := by decide +kernel
theorem dX11_deal_49 : decode cX11_deal 49 = .ok (.iaload, 1) := by decide +kernel
theorem dX11_deal_50 : decode cX11_deal 50 = .ok (.iadd, 1) := by decide +kernel
theorem dX11_deal_51 : decode cX11_deal 51 = .ok (.iastore, 1) := by decide +kernel
theorem dX11_deal_52 : decode cX11_deal 52 = .ok (.aload_n 0, 1) := by decide +kernel
theorem dX11_deal_53 : decode cX11_deal 53 = .ok (.getfield 13, 3) := by decide +kernel
theorem dX11_deal_56 : decode cX11_deal 56 = .ok (.iload_n 3, 1) := by decide +kernel
theorem dX11_deal_57 : decode cX11_deal 57 = .ok (.iconst 0, 1) := by decide +kernel
theorem dX11_deal_58 : decode cX11_deal 58 = .ok (.iastore, 1) := by decide +kernel
theorem dX11_deal_59 : decode cX11_deal 59 = .ok (.iinc 3 1, 3) := by decide +kernel
theorem dX11_deal_62 : decode cX11_deal 62 = .ok (.goto (-31), 3) := by decide +kernel
theorem dX11_deal_65 : decode cX11_deal 65 = .ok (.aload_n 0, 1) := by decide +kernel
theorem dX11_deal_66 : decode cX11_deal 66 = .ok (.iload_n 1, 1) := by decide +kernel
theorem dX11_deal_67 : decode cX11_deal 67 = .ok (.i2l, 1) := by decide +kernel
theorem dX11_deal_68 : decode cX11_deal 68 = .ok (.putfield 28, 3) := by decide +kernel
theorem dX11_deal_71 : decode cX11_deal 71 = .ok (.iconst 0, 1) := by decide +kernel
theorem dX11_deal_72 : decode cX11_deal 72 = .ok (.istore_n 3, 1) := by decide +kernel
theorem dX11_deal_73 : decode cX11_deal 73 = .ok (.iload_n 3, 1) := by decide +kernel
theorem dX11_deal_74 : decode cX11_deal 74 = .ok (.iconst 4, 1) := by decide +kernel
theorem dX11_deal_75 : decode cX11_deal 75 = .ok (.if_icmp .ge 33, 3) := by decide +kernel
theorem dX11_deal_78 : decode cX11_deal 78 = .ok (.iconst 0, 1) := by decide +kernel
theorem dX11_deal_79 : decode cX11_deal 79 = .ok (.istore 4, 2) := by decide +kernel
theorem dX11_deal_81 : decode cX11_deal 81 = .ok (.iload 4, 2) := by decide +kernel
theorem dX11_deal_83 : decode cX11_deal 83 = .ok (.bipush 13, 2) := by decide +kernel
theorem dX11_deal_85 : decode cX11_deal 85 = .ok (.if_icmp .ge 17, 3) := by decide +kernel
theorem dX11_deal_88 : decode cX11_deal 88 = .ok (.iload_n 2, 1) := by decide +kernel
theorem dX11_deal_89 : decode cX11_deal 89 = .ok (.aload_n 0, 1) := by decide +kernel
theorem dX11_deal_90 : decode cX11_deal 90 = .ok (.iload_n 3, 1) := by decide +kernel
theorem dX11_deal_91 : decode cX11_deal 91 = .ok (.invokevirtual 135, 3) := by decide +kernel
theorem dX11_deal_94 : decode cX11_deal 94 = .ok (.iadd, 1) := by decide +kernel
theorem dX11_deal_95 : decode cX11_deal 95 = .ok (.istore_n 2, 1) := by decide +kernel
theorem dX11_deal_96 : decode cX11_deal 96 = .ok (.iinc 4 1, 3) := by decide +kernel
theorem dX11_deal_99 : decode cX11_deal 99 = .ok (.goto (-18), 3) := by decide +kernel
theorem dX11_deal_102 : decode cX11_deal 102 = .ok (.iinc 3 1, 3) := by decide +kernel
theorem dX11_deal_105 : decode cX11_deal 105 = .ok (.goto (-32), 3) := by decide +kernel
theorem dX11_deal_108 : decode cX11_deal 108 = .ok (.iconst 0, 1) := by decide +kernel
theorem dX11_deal_109 : decode cX11_deal 109 = .ok (.ireturn, 1) := by decide +kernel
theorem dX11_discard_0 : decode cX11_discard 0 = .ok (.iload_n 1, 1) := by decide +kernel
theorem dX11_discard_1 : decode cX11_discard 1 = .ok (.invokestatic 114, 3) := by decide +kernel
theorem dX11_discard_4 : decode cX11_discard 4 = .ok (.ifCond .eq 10, 3) := by decide +kernel
theorem dX11_discard_7 : decode cX11_discard 7 = .ok (.iload_n 2, 1) := by decide +kernel
theorem dX11_discard_8 : decode cX11_discard 8 = .ok (.invokestatic 120, 3) := by decide +kernel
theorem dX11_discard_11 : decode cX11_discard 11 = .ok (.ifCond .ne 5, 3) := by decide +kernel
theorem dX11_discard_14 : decode cX11_discard 14 = .ok (.iconst (-1), 1) := by decide +kernel
theorem dX11_discard_15 : decode cX11_discard 15 = .ok (.ireturn, 1) := by decide +kernel
theorem dX11_discard_16 : decode cX11_discard 16 = .ok (.aload_n 0, 1) := by decide +kernel
theorem dX11_discard_17 : decode cX11_discard 17 = .ok (.getfield 16, 3) := by decide +kernel
theorem dX11_discard_20 : decode cX11_discard 20 = .ok (.bipush 34, 2) := by decide +kernel
theorem dX11_discard_22 : decode cX11_discard 22 = .ok (.iload_n 1, 1) := by decide +kernel
theorem dX11_discard_23 : decode cX11_discard 23 = .ok (.imul, 1) := by decide +kernel
theorem dX11_discard_24 : decode cX11_discard 24 = .ok (.iload_n 2, 1) := by decide +kernel
theorem dX11_discard_25 : decode cX11_discard 25 = .ok (.iadd, 1) := by decide +kernel
theorem dX11_discard_26 : decode cX11_discard 26 = .ok (.iaload, 1) := by decide +kernel
theorem dX11_discard_27 : decode cX11_discard 27 = .ok (.ifCond .ne 6, 3) := by decide +kernel
theorem dX11_discard_30 : decode cX11_discard 30 = .ok (.bipush (-2), 2) := by decide +kernel
theorem dX11_discard_32 : decode cX11_discard 32 = .ok (.ireturn, 1) := by decide +kernel
theorem dX11_discard_33 : decode cX11_discard 33 = .ok (.aload_n 0, 1) := by decide +kernel
theorem dX11_discard_34 : decode cX11_discard 34 = .ok (.getfield 16, 3) := by decide +kernel
theorem dX11_discard_37 : decode cX11_discard 37 = .ok (.bipush 34, 2) := by decide +kernel
theorem dX11_discard_39 : decode cX11_discard 39 = .ok (.iload_n 1, 1) := by decide +kernel
theorem dX11_discard_40 : decode cX11_discard 40 = .ok (.imul, 1) := by decide +kernel
theorem dX11_discard_41 : decode cX11_discard 41 = .ok (.iload_n 2, 1) := by decide +kernel
theorem dX11_discard_42 : decode cX11_discard 42 = .ok (.iadd, 1) := by decide +kernel
theorem dX11_discard_43 : decode cX11_discard 43 = .ok (.dup2, 1) := by decide +kernel
theorem dX11_discard_44 : decode cX11_discard 44 = .ok (.iaload, 1) := by decide +kernel
theorem dX11_discard_45 : decode cX11_discard 45 = .ok (.iconst 1, 1) := by decide +kernel
theorem dX11_discard_46 : decode cX11_discard 46 = .ok (.isub, 1) := by decide +kernel
theorem dX11_discard_47 : decode cX11_discard 47 = .ok (.iastore, 1) := by decide +kernel
theorem dX11_discard_48 : decode cX11_discard 48 = .ok (.aload_n 0, 1) := by decide +kernel
theorem dX11_discard_49 : decode cX11_discard 49 = .ok (.getfield 13, 3) := by decide +kernel
theorem dX11_discard_52 : decode cX11_discard 52 = .ok (.iload_n 2, 1) := by decide +kernel
theorem dX11_discard_53 : decode cX11_discard 53 = .ok (.dup2, 1) := by decide +kernel
theorem dX11_discard_54 : decode cX11_discard 54 = .ok (.iaload, 1) := by decide +kernel
theorem dX11_discard_55 : decode cX11_discard 55 = .ok (.iconst 1, 1) := by decide +kernel
theorem dX11_discard_56 : decode cX11_discard 56 = .ok (.iadd, 1) := by decide +kernel
theorem dX11_discard_57 : decode cX11_discard 57 = .ok (.iastore, 1) := by decide +kernel
theorem dX11_discard_58 : decode cX11_discard 58 = .ok (.aload_n 0, 1) := by decide +kernel
theorem dX11_discard_59 : decode cX11_discard 59 = .ok (.iload_n 1, 1) := by decide +kernel
theorem dX11_discard_60 : decode cX11_discard 60 = .ok (.invokevirtual 117, 3) := by decide +kernel
theorem dX11_discard_63 : decode cX11_discard 63 = .ok (.ireturn, 1) := by decide +kernel
theorem dX11_begins_0 : decode cX11_begins 0 = .ok (.iload_n 0, 1) := by decide +kernel
theorem dX11_begins_1 : decode cX11_begins 1 = .ok (.bipush 27, 2) := by decide +kernel
theorem dX11_begins_3 : decode cX11_begins 3 = .ok (.if_icmp .ge 16, 3) := by decide +kernel
theorem dX11_begins_6 : decode cX11_begins 6 = .ok (.iload_n 0, 1) := by decide +kernel
theorem dX11_begins_7 : decode cX11_begins 7 = .ok (.bipush 9, 2) := by decide +kernel
theorem dX11_begins_9 : decode cX11_begins 9 = .ok (.irem, 1) := by decide +kernel
theorem dX11_begins_10 : decode cX11_begins 10 = .ok (.bipush 7, 2) := by decide +kernel
theorem dX11_begins_12 : decode cX11_begins 12 = .ok (.if_icmp .ge 7, 3) := by decide +kernel
theorem dX11_begins_15 : decode cX11_begins 15 = .ok (.iconst 1, 1) := by decide +kernel
theorem dX11_begins_16 : decode cX11_begins 16 = .ok (.goto 4, 3) := by decide +kernel
theorem dX11_begins_19 : decode cX11_begins 19 = .ok (.iconst 0, 1) := by decide +kernel
theorem dX11_begins_20 : decode cX11_begins 20 = .ok (.ireturn, 1) := by decide +kernel
theorem dX11_within_0 : decode cX11_within 0 = .ok (.iload_n 0, 1) := by decide +kernel
theorem dX11_within_1 : decode cX11_within 1 = .ok (.iconst 1, 1) := by decide +kernel
theorem dX11_within_2 : decode cX11_within 2 = .ok (.if_icmp .ne 7, 3) := by decide +kernel
theorem dX11_within_5 : decode cX11_within 5 = .ok (.iconst 1, 1) := by decide +kernel
theorem dX11_within_6 : decode cX11_within 6 = .ok (.goto 29, 3) := by decide +kernel
theorem dX11_within_9 : decode cX11_within 9 = .ok (.iload_n 1, 1) := by decide +kernel
theorem dX11_within_10 : decode cX11_within 10 = .ok (.ifCond .le 7, 3) := by decide +kernel
theorem dX11_within_13 : decode cX11_within 13 = .ok (.iconst 0, 1) := by decide +kernel
theorem dX11_within_14 : decode cX11_within 14 = .ok (.goto 21, 3) := by decide +kernel
theorem dX11_within_17 : decode cX11_within 17 = .ok (.iload_n 0, 1) := by decide +kernel
theorem dX11_within_18 : decode cX11_within 18 = .ok (.ifCond .ne 7, 3) := by decide +kernel
theorem dX11_within_21 : decode cX11_within 21 = .ok (.iconst 2, 1) := by decide +kernel
theorem dX11_within_22 : decode cX11_within 22 = .ok (.goto 13, 3) := by decide +kernel
theorem dX11_within_25 : decode cX11_within 25 = .ok (.iload_n 0, 1) := by decide +kernel
theorem dX11_within_26 : decode cX11_within 26 = .ok (.iconst 2, 1) := by decide +kernel
theorem dX11_within_27 : decode cX11_within 27 = .ok (.if_icmp .ne 7, 3) := by decide +kernel
theorem dX11_within_30 : decode cX11_within 30 = .ok (.iconst 3, 1) := by decide +kernel
theorem dX11_within_31 : decode cX11_within 31 = .ok (.goto 4, 3) := by decide +kernel
theorem dX11_within_34 : decode cX11_within 34 = .ok (.iconst 4, 1) := by decide +kernel
theorem dX11_within_35 : decode cX11_within 35 = .ok (.ireturn, 1) := by decide +kernel
theorem dX11_open_0 : decode cX11_open 0 = .ok (.iload_n 1, 1) := by decide +kernel
theorem dX11_open_1 : decode cX11_open 1 = .ok (.invokestatic 114, 3) := by decide +kernel
theorem dX11_open_4 : decode cX11_open 4 = .ok (.ifCond .eq 34, 3) := by decide +kernel
theorem dX11_open_7 : decode cX11_open 7 = .ok (.iload_n 2, 1) := by decide +kernel
theorem dX11_open_8 : decode cX11_open 8 = .ok (.i2l, 1) := by decide +kernel
theorem dX11_open_9 : decode cX11_open 9 = .ok (.lconst 1, 1) := by decide +kernel
theorem dX11_open_10 : decode cX11_open 10 = .ok (.ldc2_w 84, 3) := by decide +kernel
theorem dX11_open_13 : decode cX11_open 13 = .ok (.invokestatic 86, 3) := by decide +kernel
theorem dX11_open_16 : decode cX11_open 16 = .ok (.ifCond .eq 22, 3) := by decide +kernel
theorem dX11_open_19 : decode cX11_open 19 = .ok (.iload_n 3, 1) := by decide +kernel
theorem dX11_open_20 : decode cX11_open 20 = .ok (.invokestatic 120, 3) := by decide +kernel
theorem dX11_open_23 : decode cX11_open 23 = .ok (.ifCond .eq 15, 3) := by decide +kernel
theorem dX11_open_26 : decode cX11_open 26 = .ok (.iload_n 2, 1) := by decide +kernel
theorem dX11_open_27 : decode cX11_open 27 = .ok (.iconst 1, 1) := by decide +kernel
theorem dX11_open_28 : decode cX11_open 28 = .ok (.if_icmp .ne 12, 3) := by decide +kernel
theorem dX11_open_31 : decode cX11_open 31 = .ok (.iload_n 3, 1) := by decide +kernel
theorem dX11_open_32 : decode cX11_open 32 = .ok (.invokestatic 141, 3) := by decide +kernel
theorem dX11_open_35 : decode cX11_open 35 = .ok (.ifCond .ne 5, 3) := by decide +kernel
theorem dX11_open_38 : decode cX11_open 38 = .ok (.iconst (-1), 1) := by decide +kernel
theorem dX11_open_39 : decode cX11_open 39 = .ok (.ireturn, 1) := by decide +kernel
theorem dX11_open_40 : decode cX11_open 40 = .ok (.iload_n 2, 1) := by decide +kernel
theorem dX11_open_41 : decode cX11_open 41 = .ok (.iconst 1, 1) := by decide +kernel
theorem dX11_open_42 : decode cX11_open 42 = .ok (.if_icmp .ne 7, 3) := by decide +kernel
theorem dX11_open_45 : decode cX11_open 45 = .ok (.iconst 3, 1) := by decide +kernel
theorem dX11_open_46 : decode cX11_open 46 = .ok (.goto 4, 3) := by decide +kernel
theorem dX11_open_49 : decode cX11_open 49 = .ok (.iconst 1, 1) := by decide +kernel
theorem dX11_open_50 : decode cX11_open 50 = .ok (.istore 4, 2) := by decide +kernel
theorem dX11_open_52 : decode cX11_open 52 = .ok (.iconst 1, 1) := by decide +kernel
theorem dX11_open_53 : decode cX11_open 53 = .ok (.istore 5, 2) := by decide +kernel
theorem dX11_open_55 : decode cX11_open 55 = .ok (.iconst 0, 1) := by decide +kernel
theorem dX11_open_56 : decode cX11_open 56 = .ok (.istore 6, 2) := by decide +kernel
theorem dX11_open_58 : decode cX11_open 58 = .ok (.iload 6, 2) := by decide +kernel
theorem dX11_open_60 : decode cX11_open 60 = .ok (.iload 4, 2) := by decide +kernel
theorem dX11_open_62 : decode cX11_open 62 = .ok (.if_icmp .ge 44, 3) := by decide +kernel
theorem dX11_open_65 : decode cX11_open 65 = .ok (.iload 5, 2) := by decide +kernel
theorem dX11_open_67 : decode cX11_open 67 = .ok (.ifCond .eq 30, 3) := by decide +kernel
theorem dX11_open_70 : decode cX11_open 70 = .ok (.aload_n 0, 1) := by decide +kernel
theorem dX11_open_71 : decode cX11_open 71 = .ok (.getfield 16, 3) := by decide +kernel
theorem dX11_open_74 : decode cX11_open 74 = .ok (.bipush 34, 2) := by decide +kernel
theorem dX11_open_76 : decode cX11_open 76 = .ok (.iload_n 1, 1) := by decide +kernel
theorem dX11_open_77 : decode cX11_open 77 = .ok (.imul, 1) := by decide +kernel
theorem dX11_open_78 : decode cX11_open 78 = .ok (.iload_n 3, 1) := by decide +kernel
theorem dX11_open_79 : decode cX11_open 79 = .ok (.iadd, 1) := by decide +kernel
theorem dX11_open_80 : decode cX11_open 80 = .ok (.iload 6, 2) := by decide +kernel
theorem dX11_open_82 : decode cX11_open 82 = .ok (.iadd, 1) := by decide +kernel
theorem dX11_open_83 : decode cX11_open 83 = .ok (.iaload, 1) := by decide +kernel
theorem dX11_open_84 : decode cX11_open 84 = .ok (.iload_n 2, 1) := by decide +kernel
theorem dX11_open_85 : decode cX11_open 85 = .ok (.iload 6, 2) := by decide +kernel
theorem dX11_open_87 : decode cX11_open 87 = .ok (.invokestatic 144, 3) := by decide +kernel
theorem dX11_open_90 : decode cX11_open 90 = .ok (.if_icmp .lt 7, 3) := by decide +kernel
theorem dX11_open_93 : decode cX11_open 93 = .ok (.iconst 1, 1) := by decide +kernel
theorem dX11_open_94 : decode cX11_open 94 = .ok (.goto 4, 3) := by decide +kernel
theorem dX11_open_97 : decode cX11_open 97 = .ok (.iconst 0, 1) := by decide +kernel
theorem dX11_open_98 : decode cX11_open 98 = .ok (.istore 5, 2) := by decide +kernel
theorem dX11_open_100 : decode cX11_open 100 = .ok (.iinc 6 1, 3) := by decide +kernel
theorem dX11_open_103 : decode cX11_open 103 = .ok (.goto (-45), 3) := by decide +kernel
theorem dX11_open_106 : decode cX11_open 106 = .ok (.iload 5, 2) := by decide +kernel
theorem dX11_open_108 : decode cX11_open 108 = .ok (.ifCond .ne 6, 3) := by decide +kernel
theorem dX11_open_111 : decode cX11_open 111 = .ok (.bipush (-2), 2) := by decide +kernel
theorem dX11_open_113 : decode cX11_open 113 = .ok (.ireturn, 1) := by decide +kernel
theorem dX11_open_114 : decode cX11_open 114 = .ok (.iconst 0, 1) := by decide +kernel
theorem dX11_open_115 : decode cX11_open 115 = .ok (.istore 6, 2) := by decide +kernel
theorem dX11_open_117 : decode cX11_open 117 = .ok (.iload 6, 2) := by decide +kernel
theorem dX11_open_119 : decode cX11_open 119 = .ok (.iload 4, 2) := by decide +kernel
theorem dX11_open_121 : decode cX11_open 121 = .ok (.if_icmp .ge 55, 3) := by decide +kernel
theorem dX11_open_124 : decode cX11_open 124 = .ok (.aload_n 0, 1) := by decide +kernel
theorem dX11_open_125 : decode cX11_open 125 = .ok (.getfield 16, 3) := by decide +kernel
theorem dX11_open_128 : decode cX11_open 128 = .ok (.bipush 34, 2) := by decide +kernel
theorem dX11_open_130 : decode cX11_open 130 = .ok (.iload_n 1, 1) := by decide +kernel
theorem dX11_open_131 : decode cX11_open 131 = .ok (.imul, 1) := by decide +kernel
theorem dX11_open_132 : decode cX11_open 132 = .ok (.iload_n 3, 1) := by decide +kernel
theorem dX11_open_133 : decode cX11_open 133 = .ok (.iadd, 1) := by decide +kernel
theorem dX11_open_134 : decode cX11_open 134 = .ok (.iload 6, 2) := by decide +kernel
theorem dX11_open_136 : decode cX11_open 136 = .ok (.iadd, 1) := by decide +kernel
theorem dX11_open_137 : decode cX11_open 137 = .ok (.dup2, 1) := by decide +kernel
theorem dX11_open_138 : decode cX11_open 138 = .ok (.iaload, 1) := by decide +kernel
theorem dX11_open_139 : decode cX11_open 139 = .ok (.iload_n 2, 1) := by decide +kernel
theorem dX11_open_140 : decode cX11_open 140 = .ok (.iload 6, 2) := by decide +kernel
theorem dX11_open_142 : decode cX11_open 142 = .ok (.invokestatic 144, 3) := by decide +kernel
theorem dX11_open_145 : decode cX11_open 145 = .ok (.isub, 1) := by decide +kernel
theorem dX11_open_146 : decode cX11_open 146 = .ok (.iastore, 1) := by decide +kernel
theorem dX11_open_147 : decode cX11_open 147 = .ok (.aload_n 0, 1) := by decide +kernel
theorem dX11_open_148 : decode cX11_open 148 = .ok (.getfield 19, 3) := by decide +kernel
theorem dX11_open_151 : decode cX11_open 151 = .ok (.bipush 34, 2) := by decide +kernel
theorem dX11_open_153 : decode cX11_open 153 = .ok (.iload_n 1, 1) := by decide +kernel
theorem dX11_open_154 : decode cX11_open 154 = .ok (.imul, 1) := by decide +kernel
theorem dX11_open_155 : decode cX11_open 155 = .ok (.iload_n 3, 1) := by decide +kernel
theorem dX11_open_156 : decode cX11_open 156 = .ok (.iadd, 1) := by decide +kernel
theorem dX11_open_157 : decode cX11_open 157 = .ok (.iload 6, 2) := by decide +kernel
theorem dX11_open_159 : decode cX11_open 159 = .ok (.iadd, 1) := by decide +kernel
theorem dX11_open_160 : decode cX11_open 160 = .ok (.dup2, 1) := by decide +kernel
theorem dX11_open_161 : decode cX11_open 161 = .ok (.iaload, 1) := by decide +kernel
theorem dX11_open_162 : decode cX11_open 162 = .ok (.iload_n 2, 1) := by decide +kernel
theorem dX11_open_163 : decode cX11_open 163 = .ok (.iload 6, 2) := by decide +kernel
theorem dX11_open_165 : decode cX11_open 165 = .ok (.invokestatic 144, 3) := by decide +kernel
theorem dX11_open_168 : decode cX11_open 168 = .ok (.iadd, 1) := by decide +kernel
theorem dX11_open_169 : decode cX11_open 169 = .ok (.iastore, 1) := by decide +kernel
theorem dX11_open_170 : decode cX11_open 170 = .ok (.iinc 6 1, 3) := by decide +kernel
theorem dX11_open_173 : decode cX11_open 173 = .ok (.goto (-56), 3) := by decide +kernel
theorem dX11_open_176 : decode cX11_open 176 = .ok (.aload_n 0, 1) := by decide +kernel
theorem dX11_open_177 : decode cX11_open 177 = .ok (.getfield 25, 3) := by decide +kernel
theorem dX11_open_180 : decode cX11_open 180 = .ok (.iconst 5, 1) := by decide +kernel
theorem dX11_open_181 : decode cX11_open 181 = .ok (.iload_n 1, 1) := by decide +kernel
theorem dX11_open_182 : decode cX11_open 182 = .ok (.imul, 1) := by decide +kernel
theorem dX11_open_183 : decode cX11_open 183 = .ok (.aload_n 0, 1) := by decide +kernel
theorem dX11_open_184 : decode cX11_open 184 = .ok (.getfield 22, 3) := by decide +kernel
theorem dX11_open_187 : decode cX11_open 187 = .ok (.iload_n 1, 1) := by decide +kernel
theorem dX11_open_188 : decode cX11_open 188 = .ok (.iaload, 1) := by decide +kernel
theorem dX11_open_189 : decode cX11_open 189 = .ok (.iadd, 1) := by decide +kernel
theorem dX11_open_190 : decode cX11_open 190 = .ok (.bipush 100, 2) := by decide +kernel
theorem dX11_open_192 : decode cX11_open 192 = .ok (.iload_n 2, 1) := by decide +kernel
theorem dX11_open_193 : decode cX11_open 193 = .ok (.imul, 1) := by decide +kernel
theorem dX11_open_194 : decode cX11_open 194 = .ok (.iload_n 3, 1) := by decide +kernel
theorem dX11_open_195 : decode cX11_open 195 = .ok (.iadd, 1) := by decide +kernel
theorem dX11_open_196 : decode cX11_open 196 = .ok (.iastore, 1) := by decide +kernel
theorem dX11_open_197 : decode cX11_open 197 = .ok (.aload_n 0, 1) := by decide +kernel
theorem dX11_open_198 : decode cX11_open 198 = .ok (.getfield 22, 3) := by decide +kernel
theorem dX11_open_201 : decode cX11_open 201 = .ok (.iload_n 1, 1) := by decide +kernel
theorem dX11_open_202 : decode cX11_open 202 = .ok (.dup2, 1) := by decide +kernel
theorem dX11_open_203 : decode cX11_open 203 = .ok (.iaload, 1) := by decide +kernel
theorem dX11_open_204 : decode cX11_open 204 = .ok (.iconst 1, 1) := by decide +kernel
theorem dX11_open_205 : decode cX11_open 205 = .ok (.iadd, 1) := by decide +kernel
theorem dX11_open_206 : decode cX11_open 206 = .ok (.iastore, 1) := by decide +kernel
theorem dX11_open_207 : decode cX11_open 207 = .ok (.aload_n 0, 1) := by decide +kernel
theorem dX11_open_208 : decode cX11_open 208 = .ok (.getfield 22, 3) := by decide +kernel
theorem dX11_open_211 : decode cX11_open 211 = .ok (.iload_n 1, 1) := by decide +kernel
theorem dX11_open_212 : decode cX11_open 212 = .ok (.iaload, 1) := by decide +kernel
theorem dX11_open_213 : decode cX11_open 213 = .ok (.ireturn, 1) := by decide +kernel
theorem dX11_clear_0 : decode cX11_clear 0 = .ok (.iload_n 1, 1) := by decide +kernel
theorem dX11_clear_1 : decode cX11_clear 1 = .ok (.invokestatic 114, 3) := by decide +kernel
theorem dX11_clear_4 : decode cX11_clear 4 = .ok (.ifCond .eq 11, 3) := by decide +kernel
theorem dX11_clear_7 : decode cX11_clear 7 = .ok (.aload_n 0, 1) := by decide +kernel
theorem dX11_clear_8 : decode cX11_clear 8 = .ok (.iload_n 1, 1) := by decide +kernel
theorem dX11_clear_9 : decode cX11_clear 9 = .ok (.invokevirtual 138, 3) := by decide +kernel
theorem dX11_clear_12 : decode cX11_clear 12 = .ok (.goto 4, 3) := by decide +kernel
theorem dX11_clear_15 : decode cX11_clear 15 = .ok (.iconst (-1), 1) := by decide +kernel
theorem dX11_clear_16 : decode cX11_clear 16 = .ok (.ireturn, 1) := by decide +kernel
theorem dX11_tiles_0 : decode cX11_tiles 0 = .ok (.iload_n 1, 1) := by decide +kernel
theorem dX11_tiles_1 : decode cX11_tiles 1 = .ok (.invokestatic 120, 3) := by decide +kernel
theorem dX11_tiles_4 : decode cX11_tiles 4 = .ok (.ifCond .eq 15, 3) := by decide +kernel
theorem dX11_tiles_7 : decode cX11_tiles 7 = .ok (.iload_n 2, 1) := by decide +kernel
theorem dX11_tiles_8 : decode cX11_tiles 8 = .ok (.i2l, 1) := by decide +kernel
theorem dX11_tiles_9 : decode cX11_tiles 9 = .ok (.lconst 0, 1) := by decide +kernel
theorem dX11_tiles_10 : decode cX11_tiles 10 = .ok (.ldc2_w 147, 3) := by decide +kernel
theorem dX11_tiles_13 : decode cX11_tiles 13 = .ok (.invokestatic 86, 3) := by decide +kernel
theorem dX11_tiles_16 : decode cX11_tiles 16 = .ok (.ifCond .ne 5, 3) := by decide +kernel
theorem dX11_tiles_19 : decode cX11_tiles 19 = .ok (.iconst (-1), 1) := by decide +kernel
theorem dX11_tiles_20 : decode cX11_tiles 20 = .ok (.ireturn, 1) := by decide +kernel
theorem dX11_tiles_21 : decode cX11_tiles 21 = .ok (.iload_n 2, 1) := by decide +kernel
theorem dX11_tiles_22 : decode cX11_tiles 22 = .ok (.ifCond .ne 12, 3) := by decide +kernel
theorem dX11_tiles_25 : decode cX11_tiles 25 = .ok (.aload_n 0, 1) := by decide +kernel
theorem dX11_tiles_26 : decode cX11_tiles 26 = .ok (.getfield 7, 3) := by decide +kernel
theorem dX11_tiles_29 : decode cX11_tiles 29 = .ok (.iload_n 1, 1) := by decide +kernel
theorem dX11_tiles_30 : decode cX11_tiles 30 = .ok (.iaload, 1) := by decide +kernel
theorem dX11_tiles_31 : decode cX11_tiles 31 = .ok (.goto 53, 3) := by decide +kernel
theorem dX11_tiles_34 : decode cX11_tiles 34 = .ok (.iload_n 2, 1) := by decide +kernel
theorem dX11_tiles_35 : decode cX11_tiles 35 = .ok (.iconst 1, 1) := by decide +kernel
theorem dX11_tiles_36 : decode cX11_tiles 36 = .ok (.if_icmp .ne 12, 3) := by decide +kernel
theorem dX11_tiles_39 : decode cX11_tiles 39 = .ok (.aload_n 0, 1) := by decide +kernel
theorem dX11_tiles_40 : decode cX11_tiles 40 = .ok (.getfield 13, 3) := by decide +kernel
theorem dX11_tiles_43 : decode cX11_tiles 43 = .ok (.iload_n 1, 1) := by decide +kernel
theorem dX11_tiles_44 : decode cX11_tiles 44 = .ok (.iaload, 1) := by decide +kernel
theorem dX11_tiles_45 : decode cX11_tiles 45 = .ok (.goto 39, 3) := by decide +kernel
theorem dX11_tiles_48 : decode cX11_tiles 48 = .ok (.iload_n 2, 1) := by decide +kernel
theorem dX11_tiles_49 : decode cX11_tiles 49 = .ok (.bipush 6, 2) := by decide +kernel
theorem dX11_tiles_51 : decode cX11_tiles 51 = .ok (.if_icmp .ge 19, 3) := by decide +kernel
theorem dX11_tiles_54 : decode cX11_tiles 54 = .ok (.aload_n 0, 1) := by decide +kernel
theorem dX11_tiles_55 : decode cX11_tiles 55 = .ok (.getfield 16, 3) := by decide +kernel
theorem dX11_tiles_58 : decode cX11_tiles 58 = .ok (.bipush 34, 2) := by decide +kernel
theorem dX11_tiles_60 : decode cX11_tiles 60 = .ok (.iload_n 2, 1) := by decide +kernel
theorem dX11_tiles_61 : decode cX11_tiles 61 = .ok (.iconst 2, 1) := by decide +kernel
theorem dX11_tiles_62 : decode cX11_tiles 62 = .ok (.isub, 1) := by decide +kernel
theorem dX11_tiles_63 : decode cX11_tiles 63 = .ok (.imul, 1) := by decide +kernel
theorem dX11_tiles_64 : decode cX11_tiles 64 = .ok (.iload_n 1, 1) := by decide +kernel
theorem dX11_tiles_65 : decode cX11_tiles 65 = .ok (.iadd, 1) := by decide +kernel
theorem dX11_tiles_66 : decode cX11_tiles 66 = .ok (.iaload, 1) := by decide +kernel
theorem dX11_tiles_67 : decode cX11_tiles 67 = .ok (.goto 17, 3) := by decide +kernel
theorem dX11_tiles_70 : decode cX11_tiles 70 = .ok (.aload_n 0, 1) := by decide +kernel
theorem dX11_tiles_71 : decode cX11_tiles 71 = .ok (.getfield 19, 3) := by decide +kernel
theorem dX11_tiles_74 : decode cX11_tiles 74 = .ok (.bipush 34, 2) := by decide +kernel
theorem dX11_tiles_76 : decode cX11_tiles 76 = .ok (.iload_n 2, 1) := by decide +kernel
theorem dX11_tiles_77 : decode cX11_tiles 77 = .ok (.bipush 6, 2) := by decide +kernel
theorem dX11_tiles_79 : decode cX11_tiles 79 = .ok (.isub, 1) := by decide +kernel
theorem dX11_tiles_80 : decode cX11_tiles 80 = .ok (.imul, 1) := by decide +kernel
theorem dX11_tiles_81 : decode cX11_tiles 81 = .ok (.iload_n 1, 1) := by decide +kernel
theorem dX11_tiles_82 : decode cX11_tiles 82 = .ok (.iadd, 1) := by decide +kernel
theorem dX11_tiles_83 : decode cX11_tiles 83 = .ok (.iaload, 1) := by decide +kernel
theorem dX11_tiles_84 : decode cX11_tiles 84 = .ok (.ireturn, 1) := by decide +kernel
theorem dX11_about_0 : decode cX11_about 0 = .ok (.iload_n 1, 1) := by decide +kernel
theorem dX11_about_1 : decode cX11_about 1 = .ok (.invokestatic 114, 3) := by decide +kernel
theorem dX11_about_4 : decode cX11_about 4 = .ok (.ifCond .eq 15, 3) := by decide +kernel
theorem dX11_about_7 : decode cX11_about 7 = .ok (.iload_n 2, 1) := by decide +kernel
theorem dX11_about_8 : decode cX11_about 8 = .ok (.i2l, 1) := by decide +kernel
theorem dX11_about_9 : decode cX11_about 9 = .ok (.lconst 0, 1) := by decide +kernel
theorem dX11_about_10 : decode cX11_about 10 = .ok (.ldc2_w 149, 3) := by decide +kernel
theorem dX11_about_13 : decode cX11_about 13 = .ok (.invokestatic 86, 3) := by decide +kernel
theorem dX11_about_16 : decode cX11_about 16 = .ok (.ifCond .ne 5, 3) := by decide +kernel
theorem dX11_about_19 : decode cX11_about 19 = .ok (.iconst (-1), 1) := by decide +kernel
theorem dX11_about_20 : decode cX11_about 20 = .ok (.ireturn, 1) := by decide +kernel
theorem dX11_about_21 : decode cX11_about 21 = .ok (.iload_n 2, 1) := by decide +kernel
theorem dX11_about_22 : decode cX11_about 22 = .ok (.tableswitch 45 0 2 #[26, 32, 38], 26) := by decide +kernel
theorem dX11_about_48 : decode cX11_about 48 = .ok (.aload_n 0, 1) := by decide +kernel
theorem dX11_about_49 : decode cX11_about 49 = .ok (.iload_n 1, 1) := by decide +kernel
theorem dX11_about_50 : decode cX11_about 50 = .ok (.invokevirtual 117, 3) := by decide +kernel
theorem dX11_about_53 : decode cX11_about 53 = .ok (.ireturn, 1) := by decide +kernel
theorem dX11_about_54 : decode cX11_about 54 = .ok (.aload_n 0, 1) := by decide +kernel
theorem dX11_about_55 : decode cX11_about 55 = .ok (.iload_n 1, 1) := by decide +kernel
theorem dX11_about_56 : decode cX11_about 56 = .ok (.invokevirtual 110, 3) := by decide +kernel
theorem dX11_about_59 : decode cX11_about 59 = .ok (.ireturn, 1) := by decide +kernel
theorem dX11_about_60 : decode cX11_about 60 = .ok (.aload_n 0, 1) := by decide +kernel
theorem dX11_about_61 : decode cX11_about 61 = .ok (.getfield 22, 3) := by decide +kernel
theorem dX11_about_64 : decode cX11_about 64 = .ok (.iload_n 1, 1) := by decide +kernel
theorem dX11_about_65 : decode cX11_about 65 = .ok (.iaload, 1) := by decide +kernel
theorem dX11_about_66 : decode cX11_about 66 = .ok (.ireturn, 1) := by decide +kernel
theorem dX11_about_67 : decode cX11_about 67 = .ok (.iload_n 2, 1) := by decide +kernel
theorem dX11_about_68 : decode cX11_about 68 = .ok (.iconst 3, 1) := by decide +kernel
theorem dX11_about_69 : decode cX11_about 69 = .ok (.isub, 1) := by decide +kernel
theorem dX11_about_70 : decode cX11_about 70 = .ok (.aload_n 0, 1) := by decide +kernel
theorem dX11_about_71 : decode cX11_about 71 = .ok (.getfield 22, 3) := by decide +kernel
theorem dX11_about_74 : decode cX11_about 74 = .ok (.iload_n 1, 1) := by decide +kernel
theorem dX11_about_75 : decode cX11_about 75 = .ok (.iaload, 1) := by decide +kernel
theorem dX11_about_76 : decode cX11_about 76 = .ok (.if_icmp .ge 18, 3) := by decide +kernel
theorem dX11_about_79 : decode cX11_about 79 = .ok (.aload_n 0, 1) := by decide +kernel
theorem dX11_about_80 : decode cX11_about 80 = .ok (.getfield 25, 3) := by decide +kernel
theorem dX11_about_83 : decode cX11_about 83 = .ok (.iconst 5, 1) := by decide +kernel
theorem dX11_about_84 : decode cX11_about 84 = .ok (.iload_n 1, 1) := by decide +kernel
theorem dX11_about_85 : decode cX11_about 85 = .ok (.imul, 1) := by decide +kernel
theorem dX11_about_86 : decode cX11_about 86 = .ok (.iload_n 2, 1) := by decide +kernel
theorem dX11_about_87 : decode cX11_about 87 = .ok (.iadd, 1) := by decide +kernel
theorem dX11_about_88 : decode cX11_about 88 = .ok (.iconst 3, 1) := by decide +kernel
theorem dX11_about_89 : decode cX11_about 89 = .ok (.isub, 1) := by decide +kernel
theorem dX11_about_90 : decode cX11_about 90 = .ok (.iaload, 1) := by decide +kernel
theorem dX11_about_91 : decode cX11_about 91 = .ok (.goto 5, 3) := by decide +kernel
theorem dX11_about_94 : decode cX11_about 94 = .ok (.bipush (-3), 2) := by decide +kernel
theorem dX11_about_96 : decode cX11_about 96 = .ok (.ireturn, 1) := by decide +kernel
theorem dX11_count_0 : decode cX11_count 0 = .ok (.iload_n 1, 1) := by decide +kernel
theorem dX11_count_1 : decode cX11_count 1 = .ok (.i2l, 1) := by decide +kernel
theorem dX11_count_2 : decode cX11_count 2 = .ok (.lconst 0, 1) := by decide +kernel
theorem dX11_count_3 : decode cX11_count 3 = .ok (.lconst 1, 1) := by decide +kernel
theorem dX11_count_4 : decode cX11_count 4 = .ok (.invokestatic 86, 3) := by decide +kernel
theorem dX11_count_7 : decode cX11_count 7 = .ok (.ifCond .ne 5, 3) := by decide +kernel
theorem dX11_count_10 : decode cX11_count 10 = .ok (.iconst (-1), 1) := by decide +kernel
theorem dX11_count_11 : decode cX11_count 11 = .ok (.ireturn, 1) := by decide +kernel
theorem dX11_count_12 : decode cX11_count 12 = .ok (.iload_n 1, 1) := by decide +kernel
theorem dX11_count_13 : decode cX11_count 13 = .ok (.ifCond .ne 10, 3) := by decide +kernel
theorem dX11_count_16 : decode cX11_count 16 = .ok (.aload_n 0, 1) := by decide +kernel
theorem dX11_count_17 : decode cX11_count 17 = .ok (.getfield 151, 3) := by decide +kernel
theorem dX11_count_20 : decode cX11_count 20 = .ok (.goto 7, 3) := by decide +kernel
theorem dX11_count_23 : decode cX11_count 23 = .ok (.aload_n 0, 1) := by decide +kernel
theorem dX11_count_24 : decode cX11_count 24 = .ok (.getfield 155, 3) := by decide +kernel
theorem dX11_count_27 : decode cX11_count 27 = .ok (.istore_n 3, 1) := by decide +kernel
theorem dX11_count_28 : decode cX11_count 28 = .ok (.iload_n 1, 1) := by decide +kernel
theorem dX11_count_29 : decode cX11_count 29 = .ok (.ifCond .ne 11, 3) := by decide +kernel
theorem dX11_count_32 : decode cX11_count 32 = .ok (.aload_n 0, 1) := by decide +kernel
theorem dX11_count_33 : decode cX11_count 33 = .ok (.iload_n 2, 1) := by decide +kernel
theorem dX11_count_34 : decode cX11_count 34 = .ok (.putfield 151, 3) := by decide +kernel
theorem dX11_count_37 : decode cX11_count 37 = .ok (.goto 8, 3) := by decide +kernel
theorem dX11_count_40 : decode cX11_count 40 = .ok (.aload_n 0, 1) := by decide +kernel
theorem dX11_count_41 : decode cX11_count 41 = .ok (.iload_n 2, 1) := by decide +kernel
theorem dX11_count_42 : decode cX11_count 42 = .ok (.putfield 155, 3) := by decide +kernel
theorem dX11_count_45 : decode cX11_count 45 = .ok (.iload_n 3, 1) := by decide +kernel
theorem dX11_count_46 : decode cX11_count 46 = .ok (.ifCond .eq 7, 3) := by decide +kernel
theorem dX11_count_49 : decode cX11_count 49 = .ok (.iconst 1, 1) := by decide +kernel
theorem dX11_count_50 : decode cX11_count 50 = .ok (.goto 4, 3) := by decide +kernel
theorem dX11_count_53 : decode cX11_count 53 = .ok (.iconst 0, 1) := by decide +kernel
theorem dX11_count_54 : decode cX11_count 54 = .ok (.ireturn, 1) := by decide +kernel
theorem dX11_look_0 : decode cX11_look 0 = .ok (.iconst 0, 1) := by decide +kernel
theorem dX11_look_1 : decode cX11_look 1 = .ok (.istore_n 2, 1) := by decide +kernel
theorem dX11_look_2 : decode cX11_look 2 = .ok (.iload_n 2, 1) := by decide +kernel
theorem dX11_look_3 : decode cX11_look 3 = .ok (.bipush 34, 2) := by decide +kernel
theorem dX11_look_5 : decode cX11_look 5 = .ok (.if_icmp .ge 43, 3) := by decide +kernel
theorem dX11_look_8 : decode cX11_look 8 = .ok (.aload_n 0, 1) := by decide +kernel
theorem dX11_look_9 : decode cX11_look 9 = .ok (.getfield 56, 3) := by decide +kernel
theorem dX11_look_12 : decode cX11_look 12 = .ok (.iload_n 2, 1) := by decide +kernel
theorem dX11_look_13 : decode cX11_look 13 = .ok (.aload_n 0, 1) := by decide +kernel
theorem dX11_look_14 : decode cX11_look 14 = .ok (.getfield 16, 3) := by decide +kernel
theorem dX11_look_17 : decode cX11_look 17 = .ok (.bipush 34, 2) := by decide +kernel
theorem dX11_look_19 : decode cX11_look 19 = .ok (.iload_n 1, 1) := by decide +kernel
theorem dX11_look_20 : decode cX11_look 20 = .ok (.imul, 1) := by decide +kernel
theorem dX11_look_21 : decode cX11_look 21 = .ok (.iload_n 2, 1) := by decide +kernel
theorem dX11_look_22 : decode cX11_look 22 = .ok (.iadd, 1) := by decide +kernel
theorem dX11_look_23 : decode cX11_look 23 = .ok (.iaload, 1) := by decide +kernel
theorem dX11_look_24 : decode cX11_look 24 = .ok (.iastore, 1) := by decide +kernel
theorem dX11_look_25 : decode cX11_look 25 = .ok (.aload_n 0, 1) := by decide +kernel
theorem dX11_look_26 : decode cX11_look 26 = .ok (.getfield 59, 3) := by decide +kernel
theorem dX11_look_29 : decode cX11_look 29 = .ok (.iload_n 2, 1) := by decide +kernel
theorem dX11_look_30 : decode cX11_look 30 = .ok (.aload_n 0, 1) := by decide +kernel
theorem dX11_look_31 : decode cX11_look 31 = .ok (.getfield 19, 3) := by decide +kernel
theorem dX11_look_34 : decode cX11_look 34 = .ok (.bipush 34, 2) := by decide +kernel
theorem dX11_look_36 : decode cX11_look 36 = .ok (.iload_n 1, 1) := by decide +kernel
theorem dX11_look_37 : decode cX11_look 37 = .ok (.imul, 1) := by decide +kernel
theorem dX11_look_38 : decode cX11_look 38 = .ok (.iload_n 2, 1) := by decide +kernel
theorem dX11_look_39 : decode cX11_look 39 = .ok (.iadd, 1) := by decide +kernel
theorem dX11_look_40 : decode cX11_look 40 = .ok (.iaload, 1) := by decide +kernel
theorem dX11_look_41 : decode cX11_look 41 = .ok (.iastore, 1) := by decide +kernel
theorem dX11_look_42 : decode cX11_look 42 = .ok (.iinc 2 1, 3) := by decide +kernel
theorem dX11_look_45 : decode cX11_look 45 = .ok (.goto (-43), 3) := by decide +kernel
theorem dX11_look_48 : decode cX11_look 48 = .ok (.aload_n 0, 1) := by decide +kernel
theorem dX11_look_49 : decode cX11_look 49 = .ok (.aload_n 0, 1) := by decide +kernel
theorem dX11_look_50 : decode cX11_look 50 = .ok (.getfield 22, 3) := by decide +kernel
theorem dX11_look_53 : decode cX11_look 53 = .ok (.iload_n 1, 1) := by decide +kernel
theorem dX11_look_54 : decode cX11_look 54 = .ok (.iaload, 1) := by decide +kernel
theorem dX11_look_55 : decode cX11_look 55 = .ok (.putfield 158, 3) := by decide +kernel
theorem dX11_look_58 : decode cX11_look 58 = .ok (.return_, 1) := by decide +kernel
theorem dX11_isOuter_0 : decode cX11_isOuter 0 = .ok (.iload_n 0, 1) := by decide +kernel
theorem dX11_isOuter_1 : decode cX11_isOuter 1 = .ok (.bipush 26, 2) := by decide +kernel
theorem dX11_isOuter_3 : decode cX11_isOuter 3 = .ok (.if_icmp .gt 19, 3) := by decide +kernel
theorem dX11_isOuter_6 : decode cX11_isOuter 6 = .ok (.iload_n 0, 1) := by decide +kernel
theorem dX11_isOuter_7 : decode cX11_isOuter 7 = .ok (.bipush 9, 2) := by decide +kernel
theorem dX11_isOuter_9 : decode cX11_isOuter 9 = .ok (.irem, 1) := by decide +kernel
theorem dX11_isOuter_10 : decode cX11_isOuter 10 = .ok (.ifCond .eq 12, 3) := by decide +kernel
theorem dX11_isOuter_13 : decode cX11_isOuter 13 = .ok (.iload_n 0, 1) := by decide +kernel
theorem dX11_isOuter_14 : decode cX11_isOuter 14 = .ok (.bipush 9, 2) := by decide +kernel
theorem dX11_isOuter_16 : decode cX11_isOuter 16 = .ok (.irem, 1) := by decide +kernel
theorem dX11_isOuter_17 : decode cX11_isOuter 17 = .ok (.bipush 8, 2) := by decide +kernel
theorem dX11_isOuter_19 : decode cX11_isOuter 19 = .ok (.if_icmp .ne 7, 3) := by decide +kernel
theorem dX11_isOuter_22 : decode cX11_isOuter 22 = .ok (.iconst 1, 1) := by decide +kernel
theorem dX11_isOuter_23 : decode cX11_isOuter 23 = .ok (.goto 4, 3) := by decide +kernel
theorem dX11_isOuter_26 : decode cX11_isOuter 26 = .ok (.iconst 0, 1) := by decide +kernel
theorem dX11_isOuter_27 : decode cX11_isOuter 27 = .ok (.ireturn, 1) := by decide +kernel
theorem dX11_isSeven_0 : decode cX11_isSeven 0 = .ok (.iconst 0, 1) := by decide +kernel
theorem dX11_isSeven_1 : decode cX11_isSeven 1 = .ok (.istore_n 1, 1) := by decide +kernel
theorem dX11_isSeven_2 : decode cX11_isSeven 2 = .ok (.iconst 0, 1) := by decide +kernel
theorem dX11_isSeven_3 : decode cX11_isSeven 3 = .ok (.istore_n 2, 1) := by decide +kernel
theorem dX11_isSeven_4 : decode cX11_isSeven 4 = .ok (.iload_n 2, 1) := by decide +kernel
theorem dX11_isSeven_5 : decode cX11_isSeven 5 = .ok (.bipush 34, 2) := by decide +kernel
theorem dX11_isSeven_7 : decode cX11_isSeven 7 = .ok (.if_icmp .ge 27, 3) := by decide +kernel
theorem dX11_isSeven_10 : decode cX11_isSeven 10 = .ok (.iload_n 1, 1) := by decide +kernel
theorem dX11_isSeven_11 : decode cX11_isSeven 11 = .ok (.aload_n 0, 1) := by decide +kernel
theorem dX11_isSeven_12 : decode cX11_isSeven 12 = .ok (.getfield 56, 3) := by decide +kernel
theorem dX11_isSeven_15 : decode cX11_isSeven 15 = .ok (.iload_n 2, 1) := by decide +kernel
theorem dX11_isSeven_16 : decode cX11_isSeven 16 = .ok (.iaload, 1) := by decide +kernel
theorem dX11_isSeven_17 : decode cX11_isSeven 17 = .ok (.iconst 2, 1) := by decide +kernel
theorem dX11_isSeven_18 : decode cX11_isSeven 18 = .ok (.if_icmp .ne 7, 3) := by decide +kernel
theorem dX11_isSeven_21 : decode cX11_isSeven 21 = .ok (.iconst 1, 1) := by decide +kernel
theorem dX11_isSeven_22 : decode cX11_isSeven 22 = .ok (.goto 4, 3) := by decide +kernel
theorem dX11_isSeven_25 : decode cX11_isSeven 25 = .ok (.iconst 0, 1) := by decide +kernel
theorem dX11_isSeven_26 : decode cX11_isSeven 26 = .ok (.iadd, 1) := by decide +kernel
theorem dX11_isSeven_27 : decode cX11_isSeven 27 = .ok (.istore_n 1, 1) := by decide +kernel
theorem dX11_isSeven_28 : decode cX11_isSeven 28 = .ok (.iinc 2 1, 3) := by decide +kernel
theorem dX11_isSeven_31 : decode cX11_isSeven 31 = .ok (.goto (-27), 3) := by decide +kernel
theorem dX11_isSeven_34 : decode cX11_isSeven 34 = .ok (.aload_n 0, 1) := by decide +kernel
theorem dX11_isSeven_35 : decode cX11_isSeven 35 = .ok (.getfield 158, 3) := by decide +kernel
theorem dX11_isSeven_38 : decode cX11_isSeven 38 = .ok (.ifCond .ne 13, 3) := by decide +kernel
theorem dX11_isSeven_41 : decode cX11_isSeven 41 = .ok (.iload_n 1, 1) := by decide +kernel
theorem dX11_isSeven_42 : decode cX11_isSeven 42 = .ok (.bipush 7, 2) := by decide +kernel
theorem dX11_isSeven_44 : decode cX11_isSeven 44 = .ok (.if_icmp .ne 7, 3) := by decide +kernel
theorem dX11_isSeven_47 : decode cX11_isSeven 47 = .ok (.iconst 1, 1) := by decide +kernel
theorem dX11_isSeven_48 : decode cX11_isSeven 48 = .ok (.goto 4, 3) := by decide +kernel
theorem dX11_isSeven_51 : decode cX11_isSeven 51 = .ok (.iconst 0, 1) := by decide +kernel
theorem dX11_isSeven_52 : decode cX11_isSeven 52 = .ok (.ireturn, 1) := by decide +kernel
theorem dX11_isOuterHand_0 : decode cX11_isOuterHand 0 = .ok (.iconst 0, 1) := by decide +kernel
theorem dX11_isOuterHand_1 : decode cX11_isOuterHand 1 = .ok (.istore_n 1, 1) := by decide +kernel
theorem dX11_isOuterHand_2 : decode cX11_isOuterHand 2 = .ok (.aload_n 0, 1) := by decide +kernel
theorem dX11_isOuterHand_3 : decode cX11_isOuterHand 3 = .ok (.getfield 158, 3) := by decide +kernel
theorem dX11_isOuterHand_6 : decode cX11_isOuterHand 6 = .ok (.ifCond .ne 7, 3) := by decide +kernel
theorem dX11_isOuterHand_9 : decode cX11_isOuterHand 9 = .ok (.iconst 1, 1) := by decide +kernel
theorem dX11_isOuterHand_10 : decode cX11_isOuterHand 10 = .ok (.goto 4, 3) := by decide +kernel
theorem dX11_isOuterHand_13 : decode cX11_isOuterHand 13 = .ok (.iconst 0, 1) := by decide +kernel
theorem dX11_isOuterHand_14 : decode cX11_isOuterHand 14 = .ok (.istore_n 2, 1) := by decide +kernel
theorem dX11_isOuterHand_15 : decode cX11_isOuterHand 15 = .ok (.iconst 0, 1) := by decide +kernel
theorem dX11_isOuterHand_16 : decode cX11_isOuterHand 16 = .ok (.istore_n 3, 1) := by decide +kernel
theorem dX11_isOuterHand_17 : decode cX11_isOuterHand 17 = .ok (.iload_n 3, 1) := by decide +kernel
theorem dX11_isOuterHand_18 : decode cX11_isOuterHand 18 = .ok (.bipush 34, 2) := by decide +kernel
theorem dX11_isOuterHand_20 : decode cX11_isOuterHand 20 = .ok (.if_icmp .ge 56, 3) := by decide +kernel
theorem dX11_isOuterHand_23 : decode cX11_isOuterHand 23 = .ok (.iload_n 2, 1) := by decide +kernel
theorem dX11_isOuterHand_24 : decode cX11_isOuterHand 24 = .ok (.ifCond .eq 35, 3) := by decide +kernel
theorem dX11_isOuterHand_27 : decode cX11_isOuterHand 27 = .ok (.iload_n 3, 1) := by decide +kernel
theorem dX11_isOuterHand_28 : decode cX11_isOuterHand 28 = .ok (.invokestatic 162, 3) := by decide +kernel
theorem dX11_isOuterHand_31 : decode cX11_isOuterHand 31 = .ok (.ifCond .eq 15, 3) := by decide +kernel
theorem dX11_isOuterHand_34 : decode cX11_isOuterHand 34 = .ok (.aload_n 0, 1) := by decide +kernel
theorem dX11_isOuterHand_35 : decode cX11_isOuterHand 35 = .ok (.getfield 56, 3) := by decide +kernel
theorem dX11_isOuterHand_38 : decode cX11_isOuterHand 38 = .ok (.iload_n 3, 1) := by decide +kernel
theorem dX11_isOuterHand_39 : decode cX11_isOuterHand 39 = .ok (.iaload, 1) := by decide +kernel
theorem dX11_isOuterHand_40 : decode cX11_isOuterHand 40 = .ok (.ifCond .le 19, 3) := by decide +kernel
theorem dX11_isOuterHand_43 : decode cX11_isOuterHand 43 = .ok (.goto 12, 3) := by decide +kernel
theorem dX11_isOuterHand_46 : decode cX11_isOuterHand 46 = .ok (.aload_n 0, 1) := by decide +kernel
theorem dX11_isOuterHand_47 : decode cX11_isOuterHand 47 = .ok (.getfield 56, 3) := by decide +kernel
theorem dX11_isOuterHand_50 : decode cX11_isOuterHand 50 = .ok (.iload_n 3, 1) := by decide +kernel
theorem dX11_isOuterHand_51 : decode cX11_isOuterHand 51 = .ok (.iaload, 1) := by decide +kernel
theorem dX11_isOuterHand_52 : decode cX11_isOuterHand 52 = .ok (.ifCond .ne 7, 3) := by decide +kernel
theorem dX11_isOuterHand_55 : decode cX11_isOuterHand 55 = .ok (.iconst 1, 1) := by decide +kernel
theorem dX11_isOuterHand_56 : decode cX11_isOuterHand 56 = .ok (.goto 4, 3) := by decide +kernel
theorem dX11_isOuterHand_59 : decode cX11_isOuterHand 59 = .ok (.iconst 0, 1) := by decide +kernel
theorem dX11_isOuterHand_60 : decode cX11_isOuterHand 60 = .ok (.istore_n 2, 1) := by decide +kernel
theorem dX11_isOuterHand_61 : decode cX11_isOuterHand 61 = .ok (.iload_n 1, 1) := by decide +kernel
theorem dX11_isOuterHand_62 : decode cX11_isOuterHand 62 = .ok (.aload_n 0, 1) := by decide +kernel
theorem dX11_isOuterHand_63 : decode cX11_isOuterHand 63 = .ok (.getfield 56, 3) := by decide +kernel
theorem dX11_isOuterHand_66 : decode cX11_isOuterHand 66 = .ok (.iload_n 3, 1) := by decide +kernel
theorem dX11_isOuterHand_67 : decode cX11_isOuterHand 67 = .ok (.iaload, 1) := by decide +kernel
theorem dX11_isOuterHand_68 : decode cX11_isOuterHand 68 = .ok (.iadd, 1) := by decide +kernel
theorem dX11_isOuterHand_69 : decode cX11_isOuterHand 69 = .ok (.istore_n 1, 1) := by decide +kernel
theorem dX11_isOuterHand_70 : decode cX11_isOuterHand 70 = .ok (.iinc 3 1, 3) := by decide +kernel
theorem dX11_isOuterHand_73 : decode cX11_isOuterHand 73 = .ok (.goto (-56), 3) := by decide +kernel
theorem dX11_isOuterHand_76 : decode cX11_isOuterHand 76 = .ok (.iload_n 2, 1) := by decide +kernel
theorem dX11_isOuterHand_77 : decode cX11_isOuterHand 77 = .ok (.ifCond .eq 13, 3) := by decide +kernel
theorem dX11_isOuterHand_80 : decode cX11_isOuterHand 80 = .ok (.iload_n 1, 1) := by decide +kernel
theorem dX11_isOuterHand_81 : decode cX11_isOuterHand 81 = .ok (.bipush 14, 2) := by decide +kernel
theorem dX11_isOuterHand_83 : decode cX11_isOuterHand 83 = .ok (.if_icmp .ne 7, 3) := by decide +kernel
theorem dX11_isOuterHand_86 : decode cX11_isOuterHand 86 = .ok (.iconst 1, 1) := by decide +kernel
theorem dX11_isOuterHand_87 : decode cX11_isOuterHand 87 = .ok (.goto 4, 3) := by decide +kernel
theorem dX11_isOuterHand_90 : decode cX11_isOuterHand 90 = .ok (.iconst 0, 1) := by decide +kernel
theorem dX11_isOuterHand_91 : decode cX11_isOuterHand 91 = .ok (.ireturn, 1) := by decide +kernel
theorem dX11_isWay_0 : decode cX11_isWay 0 = .ok (.aload_n 0, 1) := by decide +kernel
theorem dX11_isWay_1 : decode cX11_isWay 1 = .ok (.getfield 56, 3) := by decide +kernel
theorem dX11_isWay_4 : decode cX11_isWay 4 = .ok (.iload_n 1, 1) := by decide +kernel
theorem dX11_isWay_5 : decode cX11_isWay 5 = .ok (.iaload, 1) := by decide +kernel
theorem dX11_isWay_6 : decode cX11_isWay 6 = .ok (.iconst 2, 1) := by decide +kernel
theorem dX11_isWay_7 : decode cX11_isWay 7 = .ok (.if_icmp .ge 5, 3) := by decide +kernel
theorem dX11_isWay_10 : decode cX11_isWay 10 = .ok (.iconst 0, 1) := by decide +kernel
theorem dX11_isWay_11 : decode cX11_isWay 11 = .ok (.ireturn, 1) := by decide +kernel
theorem dX11_isWay_12 : decode cX11_isWay 12 = .ok (.iconst 0, 1) := by decide +kernel
theorem dX11_isWay_13 : decode cX11_isWay 13 = .ok (.istore_n 3, 1) := by decide +kernel
theorem dX11_isWay_14 : decode cX11_isWay 14 = .ok (.iload_n 3, 1) := by decide +kernel
theorem dX11_isWay_15 : decode cX11_isWay 15 = .ok (.bipush 34, 2) := by decide +kernel
theorem dX11_isWay_17 : decode cX11_isWay 17 = .ok (.if_icmp .ge 21, 3) := by decide +kernel
theorem dX11_isWay_20 : decode cX11_isWay 20 = .ok (.aload_n 0, 1) := by decide +kernel
theorem dX11_isWay_21 : decode cX11_isWay 21 = .ok (.getfield 62, 3) := by decide +kernel
theorem dX11_isWay_24 : decode cX11_isWay 24 = .ok (.iload_n 3, 1) := by decide +kernel
theorem dX11_isWay_25 : decode cX11_isWay 25 = .ok (.aload_n 0, 1) := by decide +kernel
theorem dX11_isWay_26 : decode cX11_isWay 26 = .ok (.getfield 56, 3) := by decide +kernel
theorem dX11_isWay_29 : decode cX11_isWay 29 = .ok (.iload_n 3, 1) := by decide +kernel
theorem dX11_isWay_30 : decode cX11_isWay 30 = .ok (.iaload, 1) := by decide +kernel
theorem dX11_isWay_31 : decode cX11_isWay 31 = .ok (.iastore, 1) := by decide +kernel
theorem dX11_isWay_32 : decode cX11_isWay 32 = .ok (.iinc 3 1, 3) := by decide +kernel
theorem dX11_isWay_35 : decode cX11_isWay 35 = .ok (.goto (-21), 3) := by decide +kernel
theorem dX11_isWay_38 : decode cX11_isWay 38 = .ok (.aload_n 0, 1) := by decide +kernel
theorem dX11_isWay_39 : decode cX11_isWay 39 = .ok (.getfield 62, 3) := by decide +kernel
theorem dX11_isWay_42 : decode cX11_isWay 42 = .ok (.iload_n 1, 1) := by decide +kernel
theorem dX11_isWay_43 : decode cX11_isWay 43 = .ok (.dup2, 1) := by decide +kernel
theorem dX11_isWay_44 : decode cX11_isWay 44 = .ok (.iaload, 1) := by decide +kernel
theorem dX11_isWay_45 : decode cX11_isWay 45 = .ok (.iconst 2, 1) := by decide +kernel
theorem dX11_isWay_46 : decode cX11_isWay 46 = .ok (.isub, 1) := by decide +kernel
theorem dX11_isWay_47 : decode cX11_isWay 47 = .ok (.iastore, 1) := by decide +kernel
theorem dX11_isWay_48 : decode cX11_isWay 48 = .ok (.aload_n 0, 1) := by decide +kernel
theorem dX11_isWay_49 : decode cX11_isWay 49 = .ok (.getfield 65, 3) := by decide +kernel
theorem dX11_isWay_52 : decode cX11_isWay 52 = .ok (.iconst 0, 1) := by decide +kernel
theorem dX11_isWay_53 : decode cX11_isWay 53 = .ok (.iload_n 1, 1) := by decide +kernel
theorem dX11_isWay_54 : decode cX11_isWay 54 = .ok (.iastore, 1) := by decide +kernel
theorem dX11_isWay_55 : decode cX11_isWay 55 = .ok (.iconst 4, 1) := by decide +kernel
theorem dX11_isWay_56 : decode cX11_isWay 56 = .ok (.aload_n 0, 1) := by decide +kernel
theorem dX11_isWay_57 : decode cX11_isWay 57 = .ok (.getfield 158, 3) := by decide +kernel
theorem dX11_isWay_60 : decode cX11_isWay 60 = .ok (.isub, 1) := by decide +kernel
theorem dX11_isWay_61 : decode cX11_isWay 61 = .ok (.istore_n 3, 1) := by decide +kernel
theorem dX11_isWay_62 : decode cX11_isWay 62 = .ok (.iconst 0, 1) := by decide +kernel
theorem dX11_isWay_63 : decode cX11_isWay 63 = .ok (.istore 4, 2) := by decide +kernel
theorem dX11_isWay_65 : decode cX11_isWay 65 = .ok (.iconst 0, 1) := by decide +kernel
theorem dX11_isWay_66 : decode cX11_isWay 66 = .ok (.istore 5, 2) := by decide +kernel
theorem dX11_isWay_68 : decode cX11_isWay 68 = .ok (.iload 5, 2) := by decide +kernel
theorem dX11_isWay_70 : decode cX11_isWay 70 = .ok (.iload_n 3, 1) := by decide +kernel
theorem dX11_isWay_71 : decode cX11_isWay 71 = .ok (.if_icmp .ge 218, 3) := by decide +kernel
theorem dX11_isWay_74 : decode cX11_isWay 74 = .ok (.iload 4, 2) := by decide +kernel
theorem dX11_isWay_76 : decode cX11_isWay 76 = .ok (.bipush 34, 2) := by decide +kernel
theorem dX11_isWay_78 : decode cX11_isWay 78 = .ok (.if_icmp .ge 19, 3) := by decide +kernel
theorem dX11_isWay_81 : decode cX11_isWay 81 = .ok (.aload_n 0, 1) := by decide +kernel
theorem dX11_isWay_82 : decode cX11_isWay 82 = .ok (.getfield 62, 3) := by decide +kernel
theorem dX11_isWay_85 : decode cX11_isWay 85 = .ok (.iload 4, 2) := by decide +kernel
theorem dX11_isWay_87 : decode cX11_isWay 87 = .ok (.iaload, 1) := by decide +kernel
theorem dX11_isWay_88 : decode cX11_isWay 88 = .ok (.ifCond .ne 9, 3) := by decide +kernel
theorem dX11_isWay_91 : decode cX11_isWay 91 = .ok (.iinc 4 1, 3) := by decide +kernel
theorem dX11_isWay_94 : decode cX11_isWay 94 = .ok (.goto (-20), 3) := by decide +kernel
theorem dX11_isWay_97 : decode cX11_isWay 97 = .ok (.iload 4, 2) := by decide +kernel
theorem dX11_isWay_99 : decode cX11_isWay 99 = .ok (.bipush 34, 2) := by decide +kernel
theorem dX11_isWay_101 : decode cX11_isWay 101 = .ok (.if_icmp .ne 5, 3) := by decide +kernel
theorem dX11_isWay_104 : decode cX11_isWay 104 = .ok (.iconst 0, 1) := by decide +kernel
theorem dX11_isWay_105 : decode cX11_isWay 105 = .ok (.ireturn, 1) := by decide +kernel
theorem dX11_isWay_106 : decode cX11_isWay 106 = .ok (.iload_n 2, 1) := by decide +kernel
theorem dX11_isWay_107 : decode cX11_isWay 107 = .ok (.iload_n 3, 1) := by decide +kernel
theorem dX11_isWay_108 : decode cX11_isWay 108 = .ok (.iconst 1, 1) := by decide +kernel
theorem dX11_isWay_109 : decode cX11_isWay 109 = .ok (.isub, 1) := by decide +kernel
theorem dX11_isWay_110 : decode cX11_isWay 110 = .ok (.iload 5, 2) := by decide +kernel
theorem dX11_isWay_112 : decode cX11_isWay 112 = .ok (.isub, 1) := by decide +kernel
theorem dX11_isWay_113 : decode cX11_isWay 113 = .ok (.ishr, 1) := by decide +kernel
theorem dX11_isWay_114 : decode cX11_isWay 114 = .ok (.iconst 1, 1) := by decide +kernel
theorem dX11_isWay_115 : decode cX11_isWay 115 = .ok (.iand, 1) := by decide +kernel
theorem dX11_isWay_116 : decode cX11_isWay 116 = .ok (.iconst 1, 1) := by decide +kernel
theorem dX11_isWay_117 : decode cX11_isWay 117 = .ok (.if_icmp .ne 7, 3) := by decide +kernel
theorem dX11_isWay_120 : decode cX11_isWay 120 = .ok (.iconst 1, 1) := by decide +kernel
theorem dX11_isWay_121 : decode cX11_isWay 121 = .ok (.goto 4, 3) := by decide +kernel
theorem dX11_isWay_124 : decode cX11_isWay 124 = .ok (.iconst 0, 1) := by decide +kernel
theorem dX11_isWay_125 : decode cX11_isWay 125 = .ok (.istore 6, 2) := by decide +kernel
theorem dX11_isWay_127 : decode cX11_isWay 127 = .ok (.iload 6, 2) := by decide +kernel
theorem dX11_isWay_129 : decode cX11_isWay 129 = .ok (.ifCond .eq 38, 3) := by decide +kernel
theorem dX11_isWay_132 : decode cX11_isWay 132 = .ok (.iload 4, 2) := by decide +kernel
theorem dX11_isWay_134 : decode cX11_isWay 134 = .ok (.invokestatic 141, 3) := by decide +kernel
theorem dX11_isWay_137 : decode cX11_isWay 137 = .ok (.ifCond .eq 41, 3) := by decide +kernel
theorem dX11_isWay_140 : decode cX11_isWay 140 = .ok (.aload_n 0, 1) := by decide +kernel
theorem dX11_isWay_141 : decode cX11_isWay 141 = .ok (.getfield 62, 3) := by decide +kernel
theorem dX11_isWay_144 : decode cX11_isWay 144 = .ok (.iload 4, 2) := by decide +kernel
theorem dX11_isWay_146 : decode cX11_isWay 146 = .ok (.iconst 1, 1) := by decide +kernel
theorem dX11_isWay_147 : decode cX11_isWay 147 = .ok (.iadd, 1) := by decide +kernel
theorem dX11_isWay_148 : decode cX11_isWay 148 = .ok (.iaload, 1) := by decide +kernel
theorem dX11_isWay_149 : decode cX11_isWay 149 = .ok (.ifCond .eq 29, 3) := by decide +kernel
theorem dX11_isWay_152 : decode cX11_isWay 152 = .ok (.aload_n 0, 1) := by decide +kernel
theorem dX11_isWay_153 : decode cX11_isWay 153 = .ok (.getfield 62, 3) := by decide +kernel
theorem dX11_isWay_156 : decode cX11_isWay 156 = .ok (.iload 4, 2) := by decide +kernel
theorem dX11_isWay_158 : decode cX11_isWay 158 = .ok (.iconst 2, 1) := by decide +kernel
theorem dX11_isWay_159 : decode cX11_isWay 159 = .ok (.iadd, 1) := by decide +kernel
theorem dX11_isWay_160 : decode cX11_isWay 160 = .ok (.iaload, 1) := by decide +kernel
theorem dX11_isWay_161 : decode cX11_isWay 161 = .ok (.ifCond .ne 19, 3) := by decide +kernel
theorem dX11_isWay_164 : decode cX11_isWay 164 = .ok (.goto 14, 3) := by decide +kernel
theorem dX11_isWay_167 : decode cX11_isWay 167 = .ok (.aload_n 0, 1) := by decide +kernel
theorem dX11_isWay_168 : decode cX11_isWay 168 = .ok (.getfield 62, 3) := by decide +kernel
theorem dX11_isWay_171 : decode cX11_isWay 171 = .ok (.iload 4, 2) := by decide +kernel
theorem dX11_isWay_173 : decode cX11_isWay 173 = .ok (.iaload, 1) := by decide +kernel
theorem dX11_isWay_174 : decode cX11_isWay 174 = .ok (.iconst 3, 1) := by decide +kernel
theorem dX11_isWay_175 : decode cX11_isWay 175 = .ok (.if_icmp .ge 5, 3) := by decide +kernel
theorem dX11_isWay_178 : decode cX11_isWay 178 = .ok (.iconst 0, 1) := by decide +kernel
theorem dX11_isWay_179 : decode cX11_isWay 179 = .ok (.ireturn, 1) := by decide +kernel
theorem dX11_isWay_180 : decode cX11_isWay 180 = .ok (.iload 6, 2) := by decide +kernel
theorem dX11_isWay_182 : decode cX11_isWay 182 = .ok (.ifCond .ne 25, 3) := by decide +kernel
theorem dX11_isWay_185 : decode cX11_isWay 185 = .ok (.iload 5, 2) := by decide +kernel
theorem dX11_isWay_187 : decode cX11_isWay 187 = .ok (.ifCond .le 20, 3) := by decide +kernel
theorem dX11_isWay_190 : decode cX11_isWay 190 = .ok (.aload_n 0, 1) := by decide +kernel
theorem dX11_isWay_191 : decode cX11_isWay 191 = .ok (.getfield 65, 3) := by decide +kernel
theorem dX11_isWay_194 : decode cX11_isWay 194 = .ok (.iload 5, 2) := by decide +kernel
theorem dX11_isWay_196 : decode cX11_isWay 196 = .ok (.iaload, 1) := by decide +kernel
theorem dX11_isWay_197 : decode cX11_isWay 197 = .ok (.bipush 100, 2) := by decide +kernel
theorem dX11_isWay_199 : decode cX11_isWay 199 = .ok (.iload 4, 2) := by decide +kernel
theorem dX11_isWay_201 : decode cX11_isWay 201 = .ok (.iadd, 1) := by decide +kernel
theorem dX11_isWay_202 : decode cX11_isWay 202 = .ok (.if_icmp .ne 5, 3) := by decide +kernel
theorem dX11_isWay_205 : decode cX11_isWay 205 = .ok (.iconst 0, 1) := by decide +kernel
theorem dX11_isWay_206 : decode cX11_isWay 206 = .ok (.ireturn, 1) := by decide +kernel
theorem dX11_isWay_207 : decode cX11_isWay 207 = .ok (.aload_n 0, 1) := by decide +kernel
theorem dX11_isWay_208 : decode cX11_isWay 208 = .ok (.getfield 62, 3) := by decide +kernel
theorem dX11_isWay_211 : decode cX11_isWay 211 = .ok (.iload 4, 2) := by decide +kernel
theorem dX11_isWay_213 : decode cX11_isWay 213 = .ok (.dup2, 1) := by decide +kernel
theorem dX11_isWay_214 : decode cX11_isWay 214 = .ok (.iaload, 1) := by decide +kernel
theorem dX11_isWay_215 : decode cX11_isWay 215 = .ok (.iload 6, 2) := by decide +kernel
theorem dX11_isWay_217 : decode cX11_isWay 217 = .ok (.ifCond .eq 7, 3) := by decide +kernel
theorem dX11_isWay_220 : decode cX11_isWay 220 = .ok (.iconst 1, 1) := by decide +kernel
theorem dX11_isWay_221 : decode cX11_isWay 221 = .ok (.goto 4, 3) := by decide +kernel
theorem dX11_isWay_224 : decode cX11_isWay 224 = .ok (.iconst 3, 1) := by decide +kernel
theorem dX11_isWay_225 : decode cX11_isWay 225 = .ok (.isub, 1) := by decide +kernel
theorem dX11_isWay_226 : decode cX11_isWay 226 = .ok (.iastore, 1) := by decide +kernel
theorem dX11_isWay_227 : decode cX11_isWay 227 = .ok (.iload 6, 2) := by decide +kernel
theorem dX11_isWay_229 : decode cX11_isWay 229 = .ok (.ifCond .eq 29, 3) := by decide +kernel
theorem dX11_isWay_232 : decode cX11_isWay 232 = .ok (.aload_n 0, 1) := by decide +kernel
theorem dX11_isWay_233 : decode cX11_isWay 233 = .ok (.getfield 62, 3) := by decide +kernel
theorem dX11_isWay_236 : decode cX11_isWay 236 = .ok (.iload 4, 2) := by decide +kernel
theorem dX11_isWay_238 : decode cX11_isWay 238 = .ok (.iconst 1, 1) := by decide +kernel
theorem dX11_isWay_239 : decode cX11_isWay 239 = .ok (.iadd, 1) := by decide +kernel
theorem dX11_isWay_240 : decode cX11_isWay 240 = .ok (.dup2, 1) := by decide +kernel
theorem dX11_isWay_241 : decode cX11_isWay 241 = .ok (.iaload, 1) := by decide +kernel
theorem dX11_isWay_242 : decode cX11_isWay 242 = .ok (.iconst 1, 1) := by decide +kernel
theorem dX11_isWay_243 : decode cX11_isWay 243 = .ok (.isub, 1) := by decide +kernel
theorem dX11_isWay_244 : decode cX11_isWay 244 = .ok (.iastore, 1) := by decide +kernel
theorem dX11_isWay_245 : decode cX11_isWay 245 = .ok (.aload_n 0, 1) := by decide +kernel
theorem dX11_isWay_246 : decode cX11_isWay 246 = .ok (.getfield 62, 3) := by decide +kernel
theorem dX11_isWay_249 : decode cX11_isWay 249 = .ok (.iload 4, 2) := by decide +kernel
theorem dX11_isWay_251 : decode cX11_isWay 251 = .ok (.iconst 2, 1) := by decide +kernel
theorem dX11_isWay_252 : decode cX11_isWay 252 = .ok (.iadd, 1) := by decide +kernel
theorem dX11_isWay_253 : decode cX11_isWay 253 = .ok (.dup2, 1) := by decide +kernel
theorem dX11_isWay_254 : decode cX11_isWay 254 = .ok (.iaload, 1) := by decide +kernel
theorem dX11_isWay_255 : decode cX11_isWay 255 = .ok (.iconst 1, 1) := by decide +kernel
theorem dX11_isWay_256 : decode cX11_isWay 256 = .ok (.isub, 1) := by decide +kernel
theorem dX11_isWay_257 : decode cX11_isWay 257 = .ok (.iastore, 1) := by decide +kernel
theorem dX11_isWay_258 : decode cX11_isWay 258 = .ok (.aload_n 0, 1) := by decide +kernel
theorem dX11_isWay_259 : decode cX11_isWay 259 = .ok (.getfield 65, 3) := by decide +kernel
theorem dX11_isWay_262 : decode cX11_isWay 262 = .ok (.iconst 1, 1) := by decide +kernel
theorem dX11_isWay_263 : decode cX11_isWay 263 = .ok (.iload 5, 2) := by decide +kernel
theorem dX11_isWay_265 : decode cX11_isWay 265 = .ok (.iadd, 1) := by decide +kernel
theorem dX11_isWay_266 : decode cX11_isWay 266 = .ok (.bipush 100, 2) := by decide +kernel
theorem dX11_isWay_268 : decode cX11_isWay 268 = .ok (.iload 6, 2) := by decide +kernel
theorem dX11_isWay_270 : decode cX11_isWay 270 = .ok (.ifCond .eq 7, 3) := by decide +kernel
theorem dX11_isWay_273 : decode cX11_isWay 273 = .ok (.iconst 1, 1) := by decide +kernel
theorem dX11_isWay_274 : decode cX11_isWay 274 = .ok (.goto 4, 3) := by decide +kernel
theorem dX11_isWay_277 : decode cX11_isWay 277 = .ok (.iconst 2, 1) := by decide +kernel
theorem dX11_isWay_278 : decode cX11_isWay 278 = .ok (.imul, 1) := by decide +kernel
theorem dX11_isWay_279 : decode cX11_isWay 279 = .ok (.iload 4, 2) := by decide +kernel
theorem dX11_isWay_281 : decode cX11_isWay 281 = .ok (.iadd, 1) := by decide +kernel
theorem dX11_isWay_282 : decode cX11_isWay 282 = .ok (.iastore, 1) := by decide +kernel
theorem dX11_isWay_283 : decode cX11_isWay 283 = .ok (.iinc 5 1, 3) := by decide +kernel
theorem dX11_isWay_286 : decode cX11_isWay 286 = .ok (.goto (-218), 3) := by decide +kernel
theorem dX11_isWay_289 : decode cX11_isWay 289 = .ok (.iconst 1, 1) := by decide +kernel
theorem dX11_isWay_290 : decode cX11_isWay 290 = .ok (.istore 5, 2) := by decide +kernel
theorem dX11_isWay_292 : decode cX11_isWay 292 = .ok (.iconst 0, 1) := by decide +kernel
theorem dX11_isWay_293 : decode cX11_isWay 293 = .ok (.istore 6, 2) := by decide +kernel
theorem dX11_isWay_295 : decode cX11_isWay 295 = .ok (.iload 6, 2) := by decide +kernel
theorem dX11_isWay_297 : decode cX11_isWay 297 = .ok (.bipush 34, 2) := by decide +kernel
theorem dX11_isWay_299 : decode cX11_isWay 299 = .ok (.if_icmp .ge 31, 3) := by decide +kernel
theorem dX11_isWay_302 : decode cX11_isWay 302 = .ok (.iload 5, 2) := by decide +kernel
theorem dX11_isWay_304 : decode cX11_isWay 304 = .ok (.ifCond .eq 17, 3) := by decide +kernel
theorem dX11_isWay_307 : decode cX11_isWay 307 = .ok (.aload_n 0, 1) := by decide +kernel
theorem dX11_isWay_308 : decode cX11_isWay 308 = .ok (.getfield 62, 3) := by decide +kernel
theorem dX11_isWay_311 : decode cX11_isWay 311 = .ok (.iload 6, 2) := by decide +kernel
theorem dX11_isWay_313 : decode cX11_isWay 313 = .ok (.iaload, 1) := by decide +kernel
theorem dX11_isWay_314 : decode cX11_isWay 314 = .ok (.ifCond .ne 7, 3) := by decide +kernel
theorem dX11_isWay_317 : decode cX11_isWay 317 = .ok (.iconst 1, 1) := by decide +kernel
theorem dX11_isWay_318 : decode cX11_isWay 318 = .ok (.goto 4, 3) := by decide +kernel
theorem dX11_isWay_321 : decode cX11_isWay 321 = .ok (.iconst 0, 1) := by decide +kernel
theorem dX11_isWay_322 : decode cX11_isWay 322 = .ok (.istore 5, 2) := by decide +kernel
theorem dX11_isWay_324 : decode cX11_isWay 324 = .ok (.iinc 6 1, 3) := by decide +kernel
theorem dX11_isWay_327 : decode cX11_isWay 327 = .ok (.goto (-32), 3) := by decide +kernel
theorem dX11_isWay_330 : decode cX11_isWay 330 = .ok (.iload 5, 2) := by decide +kernel
theorem dX11_isWay_332 : decode cX11_isWay 332 = .ok (.ireturn, 1) := by decide +kernel
theorem dX11_mayBe_0 : decode cX11_mayBe 0 = .ok (.aload_n 0, 1) := by decide +kernel
theorem dX11_mayBe_1 : decode cX11_mayBe 1 = .ok (.getfield 56, 3) := by decide +kernel
theorem dX11_mayBe_4 : decode cX11_mayBe 4 = .ok (.iload_n 1, 1) := by decide +kernel
theorem dX11_mayBe_5 : decode cX11_mayBe 5 = .ok (.iaload, 1) := by decide +kernel
theorem dX11_mayBe_6 : decode cX11_mayBe 6 = .ok (.iconst 1, 1) := by decide +kernel
theorem dX11_mayBe_7 : decode cX11_mayBe 7 = .ok (.if_icmp .le 7, 3) := by decide +kernel
theorem dX11_mayBe_10 : decode cX11_mayBe 10 = .ok (.iconst 1, 1) := by decide +kernel
theorem dX11_mayBe_11 : decode cX11_mayBe 11 = .ok (.goto 4, 3) := by decide +kernel
theorem dX11_mayBe_14 : decode cX11_mayBe 14 = .ok (.iconst 0, 1) := by decide +kernel
theorem dX11_mayBe_15 : decode cX11_mayBe 15 = .ok (.istore_n 2, 1) := by decide +kernel
theorem dX11_mayBe_16 : decode cX11_mayBe 16 = .ok (.iconst 0, 1) := by decide +kernel
theorem dX11_mayBe_17 : decode cX11_mayBe 17 = .ok (.istore_n 3, 1) := by decide +kernel
theorem dX11_mayBe_18 : decode cX11_mayBe 18 = .ok (.iload_n 3, 1) := by decide +kernel
theorem dX11_mayBe_19 : decode cX11_mayBe 19 = .ok (.iconst 4, 1) := by decide +kernel
theorem dX11_mayBe_20 : decode cX11_mayBe 20 = .ok (.if_icmp .ge 85, 3) := by decide +kernel
theorem dX11_mayBe_23 : decode cX11_mayBe 23 = .ok (.iload_n 1, 1) := by decide +kernel
theorem dX11_mayBe_24 : decode cX11_mayBe 24 = .ok (.invokestatic 165, 3) := by decide +kernel
theorem dX11_mayBe_27 : decode cX11_mayBe 27 = .ok (.iload_n 3, 1) := by decide +kernel
theorem dX11_mayBe_28 : decode cX11_mayBe 28 = .ok (.if_icmp .ne 8, 3) := by decide +kernel
theorem dX11_mayBe_31 : decode cX11_mayBe 31 = .ok (.bipush (-2), 2) := by decide +kernel
theorem dX11_mayBe_33 : decode cX11_mayBe 33 = .ok (.goto 4, 3) := by decide +kernel
theorem dX11_mayBe_36 : decode cX11_mayBe 36 = .ok (.iconst 0, 1) := by decide +kernel
theorem dX11_mayBe_37 : decode cX11_mayBe 37 = .ok (.istore 4, 2) := by decide +kernel
theorem dX11_mayBe_39 : decode cX11_mayBe 39 = .ok (.bipush 9, 2) := by decide +kernel
theorem dX11_mayBe_41 : decode cX11_mayBe 41 = .ok (.iload_n 3, 1) := by decide +kernel
theorem dX11_mayBe_42 : decode cX11_mayBe 42 = .ok (.imul, 1) := by decide +kernel
theorem dX11_mayBe_43 : decode cX11_mayBe 43 = .ok (.istore 5, 2) := by decide +kernel
theorem dX11_mayBe_45 : decode cX11_mayBe 45 = .ok (.iload 5, 2) := by decide +kernel
theorem dX11_mayBe_47 : decode cX11_mayBe 47 = .ok (.bipush 9, 2) := by decide +kernel
theorem dX11_mayBe_49 : decode cX11_mayBe 49 = .ok (.iload_n 3, 1) := by decide +kernel
theorem dX11_mayBe_50 : decode cX11_mayBe 50 = .ok (.imul, 1) := by decide +kernel
theorem dX11_mayBe_51 : decode cX11_mayBe 51 = .ok (.bipush 9, 2) := by decide +kernel
theorem dX11_mayBe_53 : decode cX11_mayBe 53 = .ok (.iadd, 1) := by decide +kernel
theorem dX11_mayBe_54 : decode cX11_mayBe 54 = .ok (.if_icmp .ge 28, 3) := by decide +kernel
theorem dX11_mayBe_57 : decode cX11_mayBe 57 = .ok (.iload 5, 2) := by decide +kernel
theorem dX11_mayBe_59 : decode cX11_mayBe 59 = .ok (.bipush 34, 2) := by decide +kernel
theorem dX11_mayBe_61 : decode cX11_mayBe 61 = .ok (.if_icmp .ge 21, 3) := by decide +kernel
theorem dX11_mayBe_64 : decode cX11_mayBe 64 = .ok (.iload 4, 2) := by decide +kernel
theorem dX11_mayBe_66 : decode cX11_mayBe 66 = .ok (.aload_n 0, 1) := by decide +kernel
theorem dX11_mayBe_67 : decode cX11_mayBe 67 = .ok (.getfield 56, 3) := by decide +kernel
theorem dX11_mayBe_70 : decode cX11_mayBe 70 = .ok (.iload 5, 2) := by decide +kernel
theorem dX11_mayBe_72 : decode cX11_mayBe 72 = .ok (.iaload, 1) := by decide +kernel
theorem dX11_mayBe_73 : decode cX11_mayBe 73 = .ok (.iadd, 1) := by decide +kernel
theorem dX11_mayBe_74 : decode cX11_mayBe 74 = .ok (.istore 4, 2) := by decide +kernel
theorem dX11_mayBe_76 : decode cX11_mayBe 76 = .ok (.iinc 5 1, 3) := by decide +kernel
theorem dX11_mayBe_79 : decode cX11_mayBe 79 = .ok (.goto (-34), 3) := by decide +kernel
theorem dX11_mayBe_82 : decode cX11_mayBe 82 = .ok (.iload_n 2, 1) := by decide +kernel
theorem dX11_mayBe_83 : decode cX11_mayBe 83 = .ok (.ifCond .eq 14, 3) := by decide +kernel
theorem dX11_mayBe_86 : decode cX11_mayBe 86 = .ok (.iload 4, 2) := by decide +kernel
theorem dX11_mayBe_88 : decode cX11_mayBe 88 = .ok (.iconst 3, 1) := by decide +kernel
theorem dX11_mayBe_89 : decode cX11_mayBe 89 = .ok (.irem, 1) := by decide +kernel
theorem dX11_mayBe_90 : decode cX11_mayBe 90 = .ok (.ifCond .ne 7, 3) := by decide +kernel
theorem dX11_mayBe_93 : decode cX11_mayBe 93 = .ok (.iconst 1, 1) := by decide +kernel
theorem dX11_mayBe_94 : decode cX11_mayBe 94 = .ok (.goto 4, 3) := by decide +kernel
theorem dX11_mayBe_97 : decode cX11_mayBe 97 = .ok (.iconst 0, 1) := by decide +kernel
theorem dX11_mayBe_98 : decode cX11_mayBe 98 = .ok (.istore_n 2, 1) := by decide +kernel
theorem dX11_mayBe_99 : decode cX11_mayBe 99 = .ok (.iinc 3 1, 3) := by decide +kernel
theorem dX11_mayBe_102 : decode cX11_mayBe 102 = .ok (.goto (-84), 3) := by decide +kernel
theorem dX11_mayBe_105 : decode cX11_mayBe 105 = .ok (.iload_n 2, 1) := by decide +kernel
theorem dX11_mayBe_106 : decode cX11_mayBe 106 = .ok (.ireturn, 1) := by decide +kernel
theorem dX11_findWay_0 : decode cX11_findWay 0 = .ok (.iconst 0, 1) := by decide +kernel
theorem dX11_findWay_1 : decode cX11_findWay 1 = .ok (.istore_n 2, 1) := by decide +kernel
theorem dX11_findWay_2 : decode cX11_findWay 2 = .ok (.iconst 0, 1) := by decide +kernel
theorem dX11_findWay_3 : decode cX11_findWay 3 = .ok (.istore_n 3, 1) := by decide +kernel
theorem dX11_findWay_4 : decode cX11_findWay 4 = .ok (.iload_n 3, 1) := by decide +kernel
theorem dX11_findWay_5 : decode cX11_findWay 5 = .ok (.bipush 34, 2) := by decide +kernel
theorem dX11_findWay_7 : decode cX11_findWay 7 = .ok (.if_icmp .ge 65, 3) := by decide +kernel
theorem dX11_findWay_10 : decode cX11_findWay 10 = .ok (.aload_n 0, 1) := by decide +kernel
theorem dX11_findWay_11 : decode cX11_findWay 11 = .ok (.iload_n 3, 1) := by decide +kernel
theorem dX11_findWay_12 : decode cX11_findWay 12 = .ok (.invokevirtual 168, 3) := by decide +kernel
theorem dX11_findWay_15 : decode cX11_findWay 15 = .ok (.istore 4, 2) := by decide +kernel
theorem dX11_findWay_17 : decode cX11_findWay 17 = .ok (.iconst 0, 1) := by decide +kernel
theorem dX11_findWay_18 : decode cX11_findWay 18 = .ok (.istore 5, 2) := by decide +kernel
theorem dX11_findWay_20 : decode cX11_findWay 20 = .ok (.iload 5, 2) := by decide +kernel
theorem dX11_findWay_22 : decode cX11_findWay 22 = .ok (.iconst 1, 1) := by decide +kernel
theorem dX11_findWay_23 : decode cX11_findWay 23 = .ok (.iconst 4, 1) := by decide +kernel
theorem dX11_findWay_24 : decode cX11_findWay 24 = .ok (.aload_n 0, 1) := by decide +kernel
theorem dX11_findWay_25 : decode cX11_findWay 25 = .ok (.getfield 158, 3) := by decide +kernel
theorem dX11_findWay_28 : decode cX11_findWay 28 = .ok (.isub, 1) := by decide +kernel
theorem dX11_findWay_29 : decode cX11_findWay 29 = .ok (.ishl, 1) := by decide +kernel
theorem dX11_findWay_30 : decode cX11_findWay 30 = .ok (.if_icmp .ge 36, 3) := by decide +kernel
theorem dX11_findWay_33 : decode cX11_findWay 33 = .ok (.iload 4, 2) := by decide +kernel
theorem dX11_findWay_35 : decode cX11_findWay 35 = .ok (.ifCond .eq 31, 3) := by decide +kernel
theorem dX11_findWay_38 : decode cX11_findWay 38 = .ok (.aload_n 0, 1) := by decide +kernel
theorem dX11_findWay_39 : decode cX11_findWay 39 = .ok (.iload_n 3, 1) := by decide +kernel
theorem dX11_findWay_40 : decode cX11_findWay 40 = .ok (.iload 5, 2) := by decide +kernel
theorem dX11_findWay_42 : decode cX11_findWay 42 = .ok (.invokevirtual 171, 3) := by decide +kernel
theorem dX11_findWay_45 : decode cX11_findWay 45 = .ok (.ifCond .eq 15, 3) := by decide +kernel
theorem dX11_findWay_48 : decode cX11_findWay 48 = .ok (.iinc 2 1, 3) := by decide +kernel
theorem dX11_findWay_51 : decode cX11_findWay 51 = .ok (.iload_n 2, 1) := by decide +kernel
theorem dX11_findWay_52 : decode cX11_findWay 52 = .ok (.iload_n 1, 1) := by decide +kernel
theorem dX11_findWay_53 : decode cX11_findWay 53 = .ok (.iconst 1, 1) := by decide +kernel
theorem dX11_findWay_54 : decode cX11_findWay 54 = .ok (.iadd, 1) := by decide +kernel
theorem dX11_findWay_55 : decode cX11_findWay 55 = .ok (.if_icmp .ne 5, 3) := by decide +kernel
theorem dX11_findWay_58 : decode cX11_findWay 58 = .ok (.iload_n 2, 1) := by decide +kernel
theorem dX11_findWay_59 : decode cX11_findWay 59 = .ok (.ireturn, 1) := by decide +kernel
theorem dX11_findWay_60 : decode cX11_findWay 60 = .ok (.iinc 5 1, 3) := by decide +kernel
theorem dX11_findWay_63 : decode cX11_findWay 63 = .ok (.goto (-43), 3) := by decide +kernel
theorem dX11_findWay_66 : decode cX11_findWay 66 = .ok (.iinc 3 1, 3) := by decide +kernel
theorem dX11_findWay_69 : decode cX11_findWay 69 = .ok (.goto (-65), 3) := by decide +kernel
theorem dX11_findWay_72 : decode cX11_findWay 72 = .ok (.iload_n 2, 1) := by decide +kernel
theorem dX11_findWay_73 : decode cX11_findWay 73 = .ok (.ireturn, 1) := by decide +kernel
theorem dX11_isFull_0 : decode cX11_isFull 0 = .ok (.aload_n 0, 1) := by decide +kernel
theorem dX11_isFull_1 : decode cX11_isFull 1 = .ok (.iload_n 1, 1) := by decide +kernel
theorem dX11_isFull_2 : decode cX11_isFull 2 = .ok (.invokevirtual 117, 3) := by decide +kernel
theorem dX11_isFull_5 : decode cX11_isFull 5 = .ok (.bipush 14, 2) := by decide +kernel
theorem dX11_isFull_7 : decode cX11_isFull 7 = .ok (.if_icmp .ne 7, 3) := by decide +kernel
theorem dX11_isFull_10 : decode cX11_isFull 10 = .ok (.iconst 1, 1) := by decide +kernel
theorem dX11_isFull_11 : decode cX11_isFull 11 = .ok (.goto 4, 3) := by decide +kernel
theorem dX11_isFull_14 : decode cX11_isFull 14 = .ok (.iconst 0, 1) := by decide +kernel
theorem dX11_isFull_15 : decode cX11_isFull 15 = .ok (.ireturn, 1) := by decide +kernel
theorem dX11_doneBy_0 : decode cX11_doneBy 0 = .ok (.aload_n 0, 1) := by decide +kernel
theorem dX11_doneBy_1 : decode cX11_doneBy 1 = .ok (.iconst 0, 1) := by decide +kernel
theorem dX11_doneBy_2 : decode cX11_doneBy 2 = .ok (.invokevirtual 175, 3) := by decide +kernel
theorem dX11_doneBy_5 : decode cX11_doneBy 5 = .ok (.ifCond .le 7, 3) := by decide +kernel
theorem dX11_doneBy_8 : decode cX11_doneBy 8 = .ok (.iconst 1, 1) := by decide +kernel
theorem dX11_doneBy_9 : decode cX11_doneBy 9 = .ok (.goto 40, 3) := by decide +kernel
theorem dX11_doneBy_12 : decode cX11_doneBy 12 = .ok (.aload_n 0, 1) := by decide +kernel
theorem dX11_doneBy_13 : decode cX11_doneBy 13 = .ok (.getfield 151, 3) := by decide +kernel
theorem dX11_doneBy_16 : decode cX11_doneBy 16 = .ok (.ifCond .eq 14, 3) := by decide +kernel
theorem dX11_doneBy_19 : decode cX11_doneBy 19 = .ok (.aload_n 0, 1) := by decide +kernel
theorem dX11_doneBy_20 : decode cX11_doneBy 20 = .ok (.invokevirtual 178, 3) := by decide +kernel
theorem dX11_doneBy_23 : decode cX11_doneBy 23 = .ok (.ifCond .eq 7, 3) := by decide +kernel
theorem dX11_doneBy_26 : decode cX11_doneBy 26 = .ok (.iconst 2, 1) := by decide +kernel
theorem dX11_doneBy_27 : decode cX11_doneBy 27 = .ok (.goto 22, 3) := by decide +kernel
theorem dX11_doneBy_30 : decode cX11_doneBy 30 = .ok (.aload_n 0, 1) := by decide +kernel
theorem dX11_doneBy_31 : decode cX11_doneBy 31 = .ok (.getfield 155, 3) := by decide +kernel
theorem dX11_doneBy_34 : decode cX11_doneBy 34 = .ok (.ifCond .eq 14, 3) := by decide +kernel
theorem dX11_doneBy_37 : decode cX11_doneBy 37 = .ok (.aload_n 0, 1) := by decide +kernel
theorem dX11_doneBy_38 : decode cX11_doneBy 38 = .ok (.invokevirtual 182, 3) := by decide +kernel
theorem dX11_doneBy_41 : decode cX11_doneBy 41 = .ok (.ifCond .eq 7, 3) := by decide +kernel
theorem dX11_doneBy_44 : decode cX11_doneBy 44 = .ok (.iconst 3, 1) := by decide +kernel
theorem dX11_doneBy_45 : decode cX11_doneBy 45 = .ok (.goto 4, 3) := by decide +kernel
theorem dX11_doneBy_48 : decode cX11_doneBy 48 = .ok (.iconst 0, 1) := by decide +kernel
theorem dX11_doneBy_49 : decode cX11_doneBy 49 = .ok (.ireturn, 1) := by decide +kernel
theorem dX11_done_0 : decode cX11_done 0 = .ok (.iload_n 1, 1) := by decide +kernel
theorem dX11_done_1 : decode cX11_done 1 = .ok (.invokestatic 114, 3) := by decide +kernel
theorem dX11_done_4 : decode cX11_done 4 = .ok (.ifCond .ne 5, 3) := by decide +kernel
theorem dX11_done_7 : decode cX11_done 7 = .ok (.iconst (-1), 1) := by decide +kernel
theorem dX11_done_8 : decode cX11_done 8 = .ok (.ireturn, 1) := by decide +kernel
theorem dX11_done_9 : decode cX11_done 9 = .ok (.aload_n 0, 1) := by decide +kernel
theorem dX11_done_10 : decode cX11_done 10 = .ok (.iload_n 1, 1) := by decide +kernel
theorem dX11_done_11 : decode cX11_done 11 = .ok (.invokevirtual 185, 3) := by decide +kernel
theorem dX11_done_14 : decode cX11_done 14 = .ok (.ifCond .ne 6, 3) := by decide +kernel
theorem dX11_done_17 : decode cX11_done 17 = .ok (.bipush (-2), 2) := by decide +kernel
theorem dX11_done_19 : decode cX11_done 19 = .ok (.ireturn, 1) := by decide +kernel
theorem dX11_done_20 : decode cX11_done 20 = .ok (.aload_n 0, 1) := by decide +kernel
theorem dX11_done_21 : decode cX11_done 21 = .ok (.iload_n 1, 1) := by decide +kernel
theorem dX11_done_22 : decode cX11_done 22 = .ok (.invokevirtual 188, 3) := by decide +kernel
theorem dX11_done_25 : decode cX11_done 25 = .ok (.aload_n 0, 1) := by decide +kernel
theorem dX11_done_26 : decode cX11_done 26 = .ok (.invokevirtual 192, 3) := by decide +kernel
theorem dX11_done_29 : decode cX11_done 29 = .ok (.ireturn, 1) := by decide +kernel
theorem dX11_ways_0 : decode cX11_ways 0 = .ok (.iload_n 1, 1) := by decide +kernel
theorem dX11_ways_1 : decode cX11_ways 1 = .ok (.invokestatic 114, 3) := by decide +kernel
theorem dX11_ways_4 : decode cX11_ways 4 = .ok (.ifCond .ne 5, 3) := by decide +kernel
theorem dX11_ways_7 : decode cX11_ways 7 = .ok (.iconst (-1), 1) := by decide +kernel
theorem dX11_ways_8 : decode cX11_ways 8 = .ok (.ireturn, 1) := by decide +kernel
theorem dX11_ways_9 : decode cX11_ways 9 = .ok (.aload_n 0, 1) := by decide +kernel
theorem dX11_ways_10 : decode cX11_ways 10 = .ok (.iload_n 1, 1) := by decide +kernel
theorem dX11_ways_11 : decode cX11_ways 11 = .ok (.invokevirtual 185, 3) := by decide +kernel
theorem dX11_ways_14 : decode cX11_ways 14 = .ok (.ifCond .ne 6, 3) := by decide +kernel
theorem dX11_ways_17 : decode cX11_ways 17 = .ok (.bipush (-2), 2) := by decide +kernel
theorem dX11_ways_19 : decode cX11_ways 19 = .ok (.ireturn, 1) := by decide +kernel
theorem dX11_ways_20 : decode cX11_ways 20 = .ok (.aload_n 0, 1) := by decide +kernel
theorem dX11_ways_21 : decode cX11_ways 21 = .ok (.iload_n 1, 1) := by decide +kernel
theorem dX11_ways_22 : decode cX11_ways 22 = .ok (.invokevirtual 188, 3) := by decide +kernel
theorem dX11_ways_25 : decode cX11_ways 25 = .ok (.aload_n 0, 1) := by decide +kernel
theorem dX11_ways_26 : decode cX11_ways 26 = .ok (.iconst (-1), 1) := by decide +kernel
theorem dX11_ways_27 : decode cX11_ways 27 = .ok (.invokevirtual 175, 3) := by decide +kernel
theorem dX11_ways_30 : decode cX11_ways 30 = .ok (.ireturn, 1) := by decide +kernel
theorem dX11_addOpen_0 : decode cX11_addOpen 0 = .ok (.iconst 0, 1) := by decide +kernel
theorem dX11_addOpen_1 : decode cX11_addOpen 1 = .ok (.istore_n 2, 1) := by decide +kernel
theorem dX11_addOpen_2 : decode cX11_addOpen 2 = .ok (.iload_n 2, 1) := by decide +kernel
theorem dX11_addOpen_3 : decode cX11_addOpen 3 = .ok (.aload_n 0, 1) := by decide +kernel
theorem dX11_addOpen_4 : decode cX11_addOpen 4 = .ok (.getfield 22, 3) := by decide +kernel
theorem dX11_addOpen_7 : decode cX11_addOpen 7 = .ok (.iload_n 1, 1) := by decide +kernel
theorem dX11_addOpen_8 : decode cX11_addOpen 8 = .ok (.iaload, 1) := by decide +kernel
theorem dX11_addOpen_9 : decode cX11_addOpen 9 = .ok (.if_icmp .ge 34, 3) := by decide +kernel
theorem dX11_addOpen_12 : decode cX11_addOpen 12 = .ok (.aload_n 0, 1) := by decide +kernel
theorem dX11_addOpen_13 : decode cX11_addOpen 13 = .ok (.getfield 65, 3) := by decide +kernel
theorem dX11_addOpen_16 : decode cX11_addOpen 16 = .ok (.iconst 5, 1) := by decide +kernel
theorem dX11_addOpen_17 : decode cX11_addOpen 17 = .ok (.aload_n 0, 1) := by decide +kernel
theorem dX11_addOpen_18 : decode cX11_addOpen 18 = .ok (.getfield 22, 3) := by decide +kernel
theorem dX11_addOpen_21 : decode cX11_addOpen 21 = .ok (.iload_n 1, 1) := by decide +kernel
theorem dX11_addOpen_22 : decode cX11_addOpen 22 = .ok (.iaload, 1) := by decide +kernel
theorem dX11_addOpen_23 : decode cX11_addOpen 23 = .ok (.isub, 1) := by decide +kernel
theorem dX11_addOpen_24 : decode cX11_addOpen 24 = .ok (.iload_n 2, 1) := by decide +kernel
theorem dX11_addOpen_25 : decode cX11_addOpen 25 = .ok (.iadd, 1) := by decide +kernel
theorem dX11_addOpen_26 : decode cX11_addOpen 26 = .ok (.aload_n 0, 1) := by decide +kernel
theorem dX11_addOpen_27 : decode cX11_addOpen 27 = .ok (.getfield 25, 3) := by decide +kernel
theorem dX11_addOpen_30 : decode cX11_addOpen 30 = .ok (.iconst 5, 1) := by decide +kernel
theorem dX11_addOpen_31 : decode cX11_addOpen 31 = .ok (.iload_n 1, 1) := by decide +kernel
theorem dX11_addOpen_32 : decode cX11_addOpen 32 = .ok (.imul, 1) := by decide +kernel
theorem dX11_addOpen_33 : decode cX11_addOpen 33 = .ok (.iload_n 2, 1) := by decide +kernel
theorem dX11_addOpen_34 : decode cX11_addOpen 34 = .ok (.iadd, 1) := by decide +kernel
theorem dX11_addOpen_35 : decode cX11_addOpen 35 = .ok (.iaload, 1) := by decide +kernel
theorem dX11_addOpen_36 : decode cX11_addOpen 36 = .ok (.iastore, 1) := by decide +kernel
theorem dX11_addOpen_37 : decode cX11_addOpen 37 = .ok (.iinc 2 1, 3) := by decide +kernel
theorem dX11_addOpen_40 : decode cX11_addOpen 40 = .ok (.goto (-38), 3) := by decide +kernel
theorem dX11_addOpen_43 : decode cX11_addOpen 43 = .ok (.return_, 1) := by decide +kernel
theorem dX11_way_0 : decode cX11_way 0 = .ok (.iload_n 1, 1) := by decide +kernel
theorem dX11_way_1 : decode cX11_way 1 = .ok (.invokestatic 114, 3) := by decide +kernel
theorem dX11_way_4 : decode cX11_way 4 = .ok (.ifCond .eq 15, 3) := by decide +kernel
theorem dX11_way_7 : decode cX11_way 7 = .ok (.iload_n 3, 1) := by decide +kernel
theorem dX11_way_8 : decode cX11_way 8 = .ok (.i2l, 1) := by decide +kernel
theorem dX11_way_9 : decode cX11_way 9 = .ok (.lconst 0, 1) := by decide +kernel
theorem dX11_way_10 : decode cX11_way 10 = .ok (.ldc2_w 195, 3) := by decide +kernel
theorem dX11_way_13 : decode cX11_way 13 = .ok (.invokestatic 86, 3) := by decide +kernel
theorem dX11_way_16 : decode cX11_way 16 = .ok (.ifCond .ne 5, 3) := by decide +kernel
theorem dX11_way_19 : decode cX11_way 19 = .ok (.iconst (-1), 1) := by decide +kernel
theorem dX11_way_20 : decode cX11_way 20 = .ok (.ireturn, 1) := by decide +kernel
theorem dX11_way_21 : decode cX11_way 21 = .ok (.aload_n 0, 1) := by decide +kernel
theorem dX11_way_22 : decode cX11_way 22 = .ok (.iload_n 1, 1) := by decide +kernel
theorem dX11_way_23 : decode cX11_way 23 = .ok (.invokevirtual 185, 3) := by decide +kernel
theorem dX11_way_26 : decode cX11_way 26 = .ok (.ifCond .ne 6, 3) := by decide +kernel
theorem dX11_way_29 : decode cX11_way 29 = .ok (.bipush (-2), 2) := by decide +kernel
theorem dX11_way_31 : decode cX11_way 31 = .ok (.ireturn, 1) := by decide +kernel
theorem dX11_way_32 : decode cX11_way 32 = .ok (.aload_n 0, 1) := by decide +kernel
theorem dX11_way_33 : decode cX11_way 33 = .ok (.iload_n 1, 1) := by decide +kernel
theorem dX11_way_34 : decode cX11_way 34 = .ok (.invokevirtual 188, 3) := by decide +kernel
theorem dX11_way_37 : decode cX11_way 37 = .ok (.iload_n 2, 1) := by decide +kernel
theorem dX11_way_38 : decode cX11_way 38 = .ok (.ifCond .lt 14, 3) := by decide +kernel
theorem dX11_way_41 : decode cX11_way 41 = .ok (.aload_n 0, 1) := by decide +kernel
theorem dX11_way_42 : decode cX11_way 42 = .ok (.iload_n 2, 1) := by decide +kernel
theorem dX11_way_43 : decode cX11_way 43 = .ok (.invokevirtual 175, 3) := by decide +kernel
theorem dX11_way_46 : decode cX11_way 46 = .ok (.iload_n 2, 1) := by decide +kernel
theorem dX11_way_47 : decode cX11_way 47 = .ok (.iconst 1, 1) := by decide +kernel
theorem dX11_way_48 : decode cX11_way 48 = .ok (.iadd, 1) := by decide +kernel
theorem dX11_way_49 : decode cX11_way 49 = .ok (.if_icmp .eq 6, 3) := by decide +kernel
theorem dX11_way_52 : decode cX11_way 52 = .ok (.bipush (-3), 2) := by decide +kernel
theorem dX11_way_54 : decode cX11_way 54 = .ok (.ireturn, 1) := by decide +kernel
theorem dX11_way_55 : decode cX11_way 55 = .ok (.aload_n 0, 1) := by decide +kernel
theorem dX11_way_56 : decode cX11_way 56 = .ok (.iload_n 1, 1) := by decide +kernel
theorem dX11_way_57 : decode cX11_way 57 = .ok (.invokevirtual 197, 3) := by decide +kernel
theorem dX11_way_60 : decode cX11_way 60 = .ok (.aload_n 0, 1) := by decide +kernel
theorem dX11_way_61 : decode cX11_way 61 = .ok (.getfield 65, 3) := by decide +kernel
theorem dX11_way_64 : decode cX11_way 64 = .ok (.iload_n 3, 1) := by decide +kernel
theorem dX11_way_65 : decode cX11_way 65 = .ok (.iaload, 1) := by decide +kernel
theorem dX11_way_66 : decode cX11_way 66 = .ok (.ireturn, 1) := by decide +kernel
theorem dX11_better_0 : decode cX11_better 0 = .ok (.aload_n 0, 1) := by decide +kernel
theorem dX11_better_1 : decode cX11_better 1 = .ok (.getfield 71, 3) := by decide +kernel
theorem dX11_better_4 : decode cX11_better 4 = .ok (.iload_n 1, 1) := by decide +kernel
theorem dX11_better_5 : decode cX11_better 5 = .ok (.iload_n 2, 1) := by decide +kernel
theorem dX11_better_6 : decode cX11_better 6 = .ok (.aload_n 0, 1) := by decide +kernel
theorem dX11_better_7 : decode cX11_better 7 = .ok (.getfield 71, 3) := by decide +kernel
theorem dX11_better_10 : decode cX11_better 10 = .ok (.iload_n 1, 1) := by decide +kernel
theorem dX11_better_11 : decode cX11_better 11 = .ok (.iaload, 1) := by decide +kernel
theorem dX11_better_12 : decode cX11_better 12 = .ok (.if_icmp .ge 7, 3) := by decide +kernel
theorem dX11_better_15 : decode cX11_better 15 = .ok (.iload_n 2, 1) := by decide +kernel
theorem dX11_better_16 : decode cX11_better 16 = .ok (.goto 9, 3) := by decide +kernel
theorem dX11_better_19 : decode cX11_better 19 = .ok (.aload_n 0, 1) := by decide +kernel
theorem dX11_better_20 : decode cX11_better 20 = .ok (.getfield 71, 3) := by decide +kernel
theorem dX11_better_23 : decode cX11_better 23 = .ok (.iload_n 1, 1) := by decide +kernel
theorem dX11_better_24 : decode cX11_better 24 = .ok (.iaload, 1) := by decide +kernel
theorem dX11_better_25 : decode cX11_better 25 = .ok (.iastore, 1) := by decide +kernel
theorem dX11_better_26 : decode cX11_better 26 = .ok (.return_, 1) := by decide +kernel
theorem dX11_move_0 : decode cX11_move 0 = .ok (.iconst 0, 1) := by decide +kernel
theorem dX11_move_1 : decode cX11_move 1 = .ok (.istore_n 1, 1) := by decide +kernel
theorem dX11_move_2 : decode cX11_move 2 = .ok (.iload_n 1, 1) := by decide +kernel
theorem dX11_move_3 : decode cX11_move 3 = .ok (.sipush 250, 3) := by decide +kernel
theorem dX11_move_6 : decode cX11_move 6 = .ok (.if_icmp .ge 29, 3) := by decide +kernel
theorem dX11_move_9 : decode cX11_move 9 = .ok (.aload_n 0, 1) := by decide +kernel
theorem dX11_move_10 : decode cX11_move 10 = .ok (.getfield 68, 3) := by decide +kernel
theorem dX11_move_13 : decode cX11_move 13 = .ok (.iload_n 1, 1) := by decide +kernel
theorem dX11_move_14 : decode cX11_move 14 = .ok (.aload_n 0, 1) := by decide +kernel
theorem dX11_move_15 : decode cX11_move 15 = .ok (.getfield 71, 3) := by decide +kernel
theorem dX11_move_18 : decode cX11_move 18 = .ok (.iload_n 1, 1) := by decide +kernel
theorem dX11_move_19 : decode cX11_move 19 = .ok (.iaload, 1) := by decide +kernel
theorem dX11_move_20 : decode cX11_move 20 = .ok (.iastore, 1) := by decide +kernel
theorem dX11_move_21 : decode cX11_move 21 = .ok (.aload_n 0, 1) := by decide +kernel
theorem dX11_move_22 : decode cX11_move 22 = .ok (.getfield 71, 3) := by decide +kernel
theorem dX11_move_25 : decode cX11_move 25 = .ok (.iload_n 1, 1) := by decide +kernel
theorem dX11_move_26 : decode cX11_move 26 = .ok (.bipush 99, 2) := by decide +kernel
theorem dX11_move_28 : decode cX11_move 28 = .ok (.iastore, 1) := by decide +kernel
theorem dX11_move_29 : decode cX11_move 29 = .ok (.iinc 1 1, 3) := by decide +kernel
theorem dX11_move_32 : decode cX11_move 32 = .ok (.goto (-30), 3) := by decide +kernel
theorem dX11_move_35 : decode cX11_move 35 = .ok (.return_, 1) := by decide +kernel
theorem dX11_step_0 : decode cX11_step 0 = .ok (.iconst 0, 1) := by decide +kernel
theorem dX11_step_1 : decode cX11_step 1 = .ok (.istore 8, 2) := by decide +kernel
theorem dX11_step_3 : decode cX11_step 3 = .ok (.iload 8, 2) := by decide +kernel
theorem dX11_step_5 : decode cX11_step 5 = .ok (.iload 6, 2) := by decide +kernel
theorem dX11_step_7 : decode cX11_step 7 = .ok (.if_icmp .gt 162, 3) := by decide +kernel
theorem dX11_step_10 : decode cX11_step 10 = .ok (.iload 4, 2) := by decide +kernel
theorem dX11_step_12 : decode cX11_step 12 = .ok (.iload 8, 2) := by decide +kernel
theorem dX11_step_14 : decode cX11_step 14 = .ok (.iadd, 1) := by decide +kernel
theorem dX11_step_15 : decode cX11_step 15 = .ok (.iconst 5, 1) := by decide +kernel
theorem dX11_step_16 : decode cX11_step 16 = .ok (.if_icmp .ge 153, 3) := by decide +kernel
theorem dX11_step_19 : decode cX11_step 19 = .ok (.iconst 0, 1) := by decide +kernel
theorem dX11_step_20 : decode cX11_step 20 = .ok (.istore 9, 2) := by decide +kernel
theorem dX11_step_22 : decode cX11_step 22 = .ok (.iload 9, 2) := by decide +kernel
theorem dX11_step_24 : decode cX11_step 24 = .ok (.iconst 2, 1) := by decide +kernel
theorem dX11_step_25 : decode cX11_step 25 = .ok (.if_icmp .ge 138, 3) := by decide +kernel
theorem dX11_step_28 : decode cX11_step 28 = .ok (.iload 4, 2) := by decide +kernel
theorem dX11_step_30 : decode cX11_step 30 = .ok (.iload 8, 2) := by decide +kernel
theorem dX11_step_32 : decode cX11_step 32 = .ok (.iadd, 1) := by decide +kernel
theorem dX11_step_33 : decode cX11_step 33 = .ok (.iload 9, 2) := by decide +kernel
theorem dX11_step_35 : decode cX11_step 35 = .ok (.iadd, 1) := by decide +kernel
theorem dX11_step_36 : decode cX11_step 36 = .ok (.iconst 5, 1) := by decide +kernel
theorem dX11_step_37 : decode cX11_step 37 = .ok (.if_icmp .ge 126, 3) := by decide +kernel
theorem dX11_step_40 : decode cX11_step 40 = .ok (.iconst 0, 1) := by decide +kernel
theorem dX11_step_41 : decode cX11_step 41 = .ok (.istore 10, 2) := by decide +kernel
theorem dX11_step_43 : decode cX11_step 43 = .ok (.iload 10, 2) := by decide +kernel
theorem dX11_step_45 : decode cX11_step 45 = .ok (.iconst 2, 1) := by decide +kernel
theorem dX11_step_46 : decode cX11_step 46 = .ok (.if_icmp .ge 111, 3) := by decide +kernel
theorem dX11_step_49 : decode cX11_step 49 = .ok (.iload 5, 2) := by decide +kernel
theorem dX11_step_51 : decode cX11_step 51 = .ok (.iload 10, 2) := by decide +kernel
theorem dX11_step_53 : decode cX11_step 53 = .ok (.iadd, 1) := by decide +kernel
theorem dX11_step_54 : decode cX11_step 54 = .ok (.iconst 2, 1) := by decide +kernel
theorem dX11_step_55 : decode cX11_step 55 = .ok (.if_icmp .ge 102, 3) := by decide +kernel
theorem dX11_step_58 : decode cX11_step 58 = .ok (.iload_n 2, 1) := by decide +kernel
theorem dX11_step_59 : decode cX11_step 59 = .ok (.iload_n 3, 1) := by decide +kernel
theorem dX11_step_60 : decode cX11_step 60 = .ok (.iadd, 1) := by decide +kernel
theorem dX11_step_61 : decode cX11_step 61 = .ok (.iload 8, 2) := by decide +kernel
theorem dX11_step_63 : decode cX11_step 63 = .ok (.iadd, 1) := by decide +kernel
theorem dX11_step_64 : decode cX11_step 64 = .ok (.iconst 3, 1) := by decide +kernel
theorem dX11_step_65 : decode cX11_step 65 = .ok (.iload 9, 2) := by decide +kernel
theorem dX11_step_67 : decode cX11_step 67 = .ok (.imul, 1) := by decide +kernel
theorem dX11_step_68 : decode cX11_step 68 = .ok (.iadd, 1) := by decide +kernel
theorem dX11_step_69 : decode cX11_step 69 = .ok (.iconst 2, 1) := by decide +kernel
theorem dX11_step_70 : decode cX11_step 70 = .ok (.iload 10, 2) := by decide +kernel
theorem dX11_step_72 : decode cX11_step 72 = .ok (.imul, 1) := by decide +kernel
theorem dX11_step_73 : decode cX11_step 73 = .ok (.iadd, 1) := by decide +kernel
theorem dX11_step_74 : decode cX11_step 74 = .ok (.istore 11, 2) := by decide +kernel
theorem dX11_step_76 : decode cX11_step 76 = .ok (.iload 11, 2) := by decide +kernel
theorem dX11_step_78 : decode cX11_step 78 = .ok (.aload_n 0, 1) := by decide +kernel
theorem dX11_step_79 : decode cX11_step 79 = .ok (.getfield 59, 3) := by decide +kernel
theorem dX11_step_82 : decode cX11_step 82 = .ok (.iload_n 1, 1) := by decide +kernel
theorem dX11_step_83 : decode cX11_step 83 = .ok (.iaload, 1) := by decide +kernel
theorem dX11_step_84 : decode cX11_step 84 = .ok (.iadd, 1) := by decide +kernel
theorem dX11_step_85 : decode cX11_step 85 = .ok (.iconst 4, 1) := by decide +kernel
theorem dX11_step_86 : decode cX11_step 86 = .ok (.if_icmp .gt 65, 3) := by decide +kernel
theorem dX11_step_89 : decode cX11_step 89 = .ok (.iload 11, 2) := by decide +kernel
theorem dX11_step_91 : decode cX11_step 91 = .ok (.aload_n 0, 1) := by decide +kernel
theorem dX11_step_92 : decode cX11_step 92 = .ok (.getfield 56, 3) := by decide +kernel
theorem dX11_step_95 : decode cX11_step 95 = .ok (.iload_n 1, 1) := by decide +kernel
theorem dX11_step_96 : decode cX11_step 96 = .ok (.iaload, 1) := by decide +kernel
theorem dX11_step_97 : decode cX11_step 97 = .ok (.if_icmp .le 15, 3) := by decide +kernel
theorem dX11_step_100 : decode cX11_step 100 = .ok (.iload 11, 2) := by decide +kernel
theorem dX11_step_102 : decode cX11_step 102 = .ok (.aload_n 0, 1) := by decide +kernel
theorem dX11_step_103 : decode cX11_step 103 = .ok (.getfield 56, 3) := by decide +kernel
theorem dX11_step_106 : decode cX11_step 106 = .ok (.iload_n 1, 1) := by decide +kernel
theorem dX11_step_107 : decode cX11_step 107 = .ok (.iaload, 1) := by decide +kernel
theorem dX11_step_108 : decode cX11_step 108 = .ok (.isub, 1) := by decide +kernel
theorem dX11_step_109 : decode cX11_step 109 = .ok (.goto 4, 3) := by decide +kernel
theorem dX11_step_112 : decode cX11_step 112 = .ok (.iconst 0, 1) := by decide +kernel
theorem dX11_step_113 : decode cX11_step 113 = .ok (.istore 12, 2) := by decide +kernel
theorem dX11_step_115 : decode cX11_step 115 = .ok (.aload_n 0, 1) := by decide +kernel
theorem dX11_step_116 : decode cX11_step 116 = .ok (.bipush 50, 2) := by decide +kernel
theorem dX11_step_118 : decode cX11_step 118 = .ok (.iload 8, 2) := by decide +kernel
theorem dX11_step_120 : decode cX11_step 120 = .ok (.imul, 1) := by decide +kernel
theorem dX11_step_121 : decode cX11_step 121 = .ok (.bipush 10, 2) := by decide +kernel
theorem dX11_step_123 : decode cX11_step 123 = .ok (.iload_n 2, 1) := by decide +kernel
theorem dX11_step_124 : decode cX11_step 124 = .ok (.imul, 1) := by decide +kernel
theorem dX11_step_125 : decode cX11_step 125 = .ok (.iadd, 1) := by decide +kernel
theorem dX11_step_126 : decode cX11_step 126 = .ok (.iconst 2, 1) := by decide +kernel
theorem dX11_step_127 : decode cX11_step 127 = .ok (.iload 4, 2) := by decide +kernel
theorem dX11_step_129 : decode cX11_step 129 = .ok (.iload 8, 2) := by decide +kernel
theorem dX11_step_131 : decode cX11_step 131 = .ok (.iadd, 1) := by decide +kernel
theorem dX11_step_132 : decode cX11_step 132 = .ok (.iload 9, 2) := by decide +kernel
theorem dX11_step_134 : decode cX11_step 134 = .ok (.iadd, 1) := by decide +kernel
theorem dX11_step_135 : decode cX11_step 135 = .ok (.imul, 1) := by decide +kernel
theorem dX11_step_136 : decode cX11_step 136 = .ok (.iadd, 1) := by decide +kernel
theorem dX11_step_137 : decode cX11_step 137 = .ok (.iload 5, 2) := by decide +kernel
theorem dX11_step_139 : decode cX11_step 139 = .ok (.iadd, 1) := by decide +kernel
theorem dX11_step_140 : decode cX11_step 140 = .ok (.iload 10, 2) := by decide +kernel
theorem dX11_step_142 : decode cX11_step 142 = .ok (.iadd, 1) := by decide +kernel
theorem dX11_step_143 : decode cX11_step 143 = .ok (.iload 7, 2) := by decide +kernel
theorem dX11_step_145 : decode cX11_step 145 = .ok (.iload 12, 2) := by decide +kernel
theorem dX11_step_147 : decode cX11_step 147 = .ok (.iadd, 1) := by decide +kernel
theorem dX11_step_148 : decode cX11_step 148 = .ok (.invokevirtual 200, 3) := by decide +kernel
theorem dX11_step_151 : decode cX11_step 151 = .ok (.iinc 10 1, 3) := by decide +kernel
theorem dX11_step_154 : decode cX11_step 154 = .ok (.goto (-111), 3) := by decide +kernel
theorem dX11_step_157 : decode cX11_step 157 = .ok (.iinc 9 1, 3) := by decide +kernel
theorem dX11_step_160 : decode cX11_step 160 = .ok (.goto (-138), 3) := by decide +kernel
theorem dX11_step_163 : decode cX11_step 163 = .ok (.iinc 8 1, 3) := by decide +kernel
theorem dX11_step_166 : decode cX11_step 166 = .ok (.goto (-163), 3) := by decide +kernel
theorem dX11_step_169 : decode cX11_step 169 = .ok (.return_, 1) := by decide +kernel
theorem dX11_layLacks_0 : decode cX11_layLacks 0 = .ok (.iconst 0, 1) := by decide +kernel
theorem dX11_layLacks_1 : decode cX11_layLacks 1 = .ok (.istore_n 2, 1) := by decide +kernel
theorem dX11_layLacks_2 : decode cX11_layLacks 2 = .ok (.iload_n 2, 1) := by decide +kernel
theorem dX11_layLacks_3 : decode cX11_layLacks 3 = .ok (.sipush 250, 3) := by decide +kernel
theorem dX11_layLacks_6 : decode cX11_layLacks 6 = .ok (.if_icmp .ge 17, 3) := by decide +kernel
theorem dX11_layLacks_9 : decode cX11_layLacks 9 = .ok (.aload_n 0, 1) := by decide +kernel
theorem dX11_layLacks_10 : decode cX11_layLacks 10 = .ok (.getfield 71, 3) := by decide +kernel
theorem dX11_layLacks_13 : decode cX11_layLacks 13 = .ok (.iload_n 2, 1) := by decide +kernel
theorem dX11_layLacks_14 : decode cX11_layLacks 14 = .ok (.bipush 99, 2) := by decide +kernel
theorem dX11_layLacks_16 : decode cX11_layLacks 16 = .ok (.iastore, 1) := by decide +kernel
theorem dX11_layLacks_17 : decode cX11_layLacks 17 = .ok (.iinc 2 1, 3) := by decide +kernel
theorem dX11_layLacks_20 : decode cX11_layLacks 20 = .ok (.goto (-18), 3) := by decide +kernel
theorem dX11_layLacks_23 : decode cX11_layLacks 23 = .ok (.aload_n 0, 1) := by decide +kernel
theorem dX11_layLacks_24 : decode cX11_layLacks 24 = .ok (.getfield 71, 3) := by decide +kernel
theorem dX11_layLacks_27 : decode cX11_layLacks 27 = .ok (.iconst 0, 1) := by decide +kernel
theorem dX11_layLacks_28 : decode cX11_layLacks 28 = .ok (.iconst 0, 1) := by decide +kernel
theorem dX11_layLacks_29 : decode cX11_layLacks 29 = .ok (.iastore, 1) := by decide +kernel
theorem dX11_layLacks_30 : decode cX11_layLacks 30 = .ok (.aload_n 0, 1) := by decide +kernel
theorem dX11_layLacks_31 : decode cX11_layLacks 31 = .ok (.invokevirtual 204, 3) := by decide +kernel
theorem dX11_layLacks_34 : decode cX11_layLacks 34 = .ok (.iload_n 1, 1) := by decide +kernel
theorem dX11_layLacks_35 : decode cX11_layLacks 35 = .ok (.iconst 3, 1) := by decide +kernel
theorem dX11_layLacks_36 : decode cX11_layLacks 36 = .ok (.if_icmp .ge 8, 3) := by decide +kernel
theorem dX11_layLacks_39 : decode cX11_layLacks 39 = .ok (.bipush 9, 2) := by decide +kernel
theorem dX11_layLacks_41 : decode cX11_layLacks 41 = .ok (.goto 5, 3) := by decide +kernel
theorem dX11_layLacks_44 : decode cX11_layLacks 44 = .ok (.bipush 7, 2) := by decide +kernel
theorem dX11_layLacks_46 : decode cX11_layLacks 46 = .ok (.istore_n 2, 1) := by decide +kernel
theorem dX11_layLacks_47 : decode cX11_layLacks 47 = .ok (.iconst 0, 1) := by decide +kernel
theorem dX11_layLacks_48 : decode cX11_layLacks 48 = .ok (.istore_n 3, 1) := by decide +kernel
theorem dX11_layLacks_49 : decode cX11_layLacks 49 = .ok (.iload_n 3, 1) := by decide +kernel
theorem dX11_layLacks_50 : decode cX11_layLacks 50 = .ok (.iload_n 2, 1) := by decide +kernel
theorem dX11_layLacks_51 : decode cX11_layLacks 51 = .ok (.if_icmp .ge 101, 3) := by decide +kernel
theorem dX11_layLacks_54 : decode cX11_layLacks 54 = .ok (.iload_n 1, 1) := by decide +kernel
theorem dX11_layLacks_55 : decode cX11_layLacks 55 = .ok (.iconst 3, 1) := by decide +kernel
theorem dX11_layLacks_56 : decode cX11_layLacks 56 = .ok (.if_icmp .ge 13, 3) := by decide +kernel
theorem dX11_layLacks_59 : decode cX11_layLacks 59 = .ok (.iload_n 3, 1) := by decide +kernel
theorem dX11_layLacks_60 : decode cX11_layLacks 60 = .ok (.bipush 7, 2) := by decide +kernel
theorem dX11_layLacks_62 : decode cX11_layLacks 62 = .ok (.if_icmp .ge 7, 3) := by decide +kernel
theorem dX11_layLacks_65 : decode cX11_layLacks 65 = .ok (.iconst 4, 1) := by decide +kernel
theorem dX11_layLacks_66 : decode cX11_layLacks 66 = .ok (.goto 4, 3) := by decide +kernel
theorem dX11_layLacks_69 : decode cX11_layLacks 69 = .ok (.iconst 0, 1) := by decide +kernel
theorem dX11_layLacks_70 : decode cX11_layLacks 70 = .ok (.istore 4, 2) := by decide +kernel
theorem dX11_layLacks_72 : decode cX11_layLacks 72 = .ok (.iconst 0, 1) := by decide +kernel
theorem dX11_layLacks_73 : decode cX11_layLacks 73 = .ok (.istore 5, 2) := by decide +kernel
theorem dX11_layLacks_75 : decode cX11_layLacks 75 = .ok (.iload 5, 2) := by decide +kernel
theorem dX11_layLacks_77 : decode cX11_layLacks 77 = .ok (.sipush 250, 3) := by decide +kernel
theorem dX11_layLacks_80 : decode cX11_layLacks 80 = .ok (.if_icmp .ge 62, 3) := by decide +kernel
theorem dX11_layLacks_83 : decode cX11_layLacks 83 = .ok (.aload_n 0, 1) := by decide +kernel
theorem dX11_layLacks_84 : decode cX11_layLacks 84 = .ok (.getfield 68, 3) := by decide +kernel
theorem dX11_layLacks_87 : decode cX11_layLacks 87 = .ok (.iload 5, 2) := by decide +kernel
theorem dX11_layLacks_89 : decode cX11_layLacks 89 = .ok (.iaload, 1) := by decide +kernel
theorem dX11_layLacks_90 : decode cX11_layLacks 90 = .ok (.bipush 99, 2) := by decide +kernel
theorem dX11_layLacks_92 : decode cX11_layLacks 92 = .ok (.if_icmp .ge 44, 3) := by decide +kernel
theorem dX11_layLacks_95 : decode cX11_layLacks 95 = .ok (.aload_n 0, 1) := by decide +kernel
theorem dX11_layLacks_96 : decode cX11_layLacks 96 = .ok (.bipush 9, 2) := by decide +kernel
theorem dX11_layLacks_98 : decode cX11_layLacks 98 = .ok (.iload_n 1, 1) := by decide +kernel
theorem dX11_layLacks_99 : decode cX11_layLacks 99 = .ok (.imul, 1) := by decide +kernel
theorem dX11_layLacks_100 : decode cX11_layLacks 100 = .ok (.iload_n 3, 1) := by decide +kernel
theorem dX11_layLacks_101 : decode cX11_layLacks 101 = .ok (.iadd, 1) := by decide +kernel
theorem dX11_layLacks_102 : decode cX11_layLacks 102 = .ok (.iload 5, 2) := by decide +kernel
theorem dX11_layLacks_104 : decode cX11_layLacks 104 = .ok (.bipush 50, 2) := by decide +kernel
theorem dX11_layLacks_106 : decode cX11_layLacks 106 = .ok (.idiv, 1) := by decide +kernel
theorem dX11_layLacks_107 : decode cX11_layLacks 107 = .ok (.iload 5, 2) := by decide +kernel
theorem dX11_layLacks_109 : decode cX11_layLacks 109 = .ok (.bipush 10, 2) := by decide +kernel
theorem dX11_layLacks_111 : decode cX11_layLacks 111 = .ok (.idiv, 1) := by decide +kernel
theorem dX11_layLacks_112 : decode cX11_layLacks 112 = .ok (.iconst 5, 1) := by decide +kernel
theorem dX11_layLacks_113 : decode cX11_layLacks 113 = .ok (.irem, 1) := by decide +kernel
theorem dX11_layLacks_114 : decode cX11_layLacks 114 = .ok (.iload 5, 2) := by decide +kernel
theorem dX11_layLacks_116 : decode cX11_layLacks 116 = .ok (.iconst 2, 1) := by decide +kernel
theorem dX11_layLacks_117 : decode cX11_layLacks 117 = .ok (.idiv, 1) := by decide +kernel
theorem dX11_layLacks_118 : decode cX11_layLacks 118 = .ok (.iconst 5, 1) := by decide +kernel
theorem dX11_layLacks_119 : decode cX11_layLacks 119 = .ok (.irem, 1) := by decide +kernel
theorem dX11_layLacks_120 : decode cX11_layLacks 120 = .ok (.iload 5, 2) := by decide +kernel
theorem dX11_layLacks_122 : decode cX11_layLacks 122 = .ok (.iconst 2, 1) := by decide +kernel
theorem dX11_layLacks_123 : decode cX11_layLacks 123 = .ok (.irem, 1) := by decide +kernel
theorem dX11_layLacks_124 : decode cX11_layLacks 124 = .ok (.iload 4, 2) := by decide +kernel
theorem dX11_layLacks_126 : decode cX11_layLacks 126 = .ok (.aload_n 0, 1) := by decide +kernel
theorem dX11_layLacks_127 : decode cX11_layLacks 127 = .ok (.getfield 68, 3) := by decide +kernel
theorem dX11_layLacks_130 : decode cX11_layLacks 130 = .ok (.iload 5, 2) := by decide +kernel
theorem dX11_layLacks_132 : decode cX11_layLacks 132 = .ok (.iaload, 1) := by decide +kernel
theorem dX11_layLacks_133 : decode cX11_layLacks 133 = .ok (.invokevirtual 207, 3) := by decide +kernel
theorem dX11_layLacks_136 : decode cX11_layLacks 136 = .ok (.iinc 5 1, 3) := by decide +kernel
theorem dX11_layLacks_139 : decode cX11_layLacks 139 = .ok (.goto (-64), 3) := by decide +kernel
theorem dX11_layLacks_142 : decode cX11_layLacks 142 = .ok (.aload_n 0, 1) := by decide +kernel
theorem dX11_layLacks_143 : decode cX11_layLacks 143 = .ok (.invokevirtual 204, 3) := by decide +kernel
theorem dX11_layLacks_146 : decode cX11_layLacks 146 = .ok (.iinc 3 1, 3) := by decide +kernel
theorem dX11_layLacks_149 : decode cX11_layLacks 149 = .ok (.goto (-100), 3) := by decide +kernel
theorem dX11_layLacks_152 : decode cX11_layLacks 152 = .ok (.iconst 0, 1) := by decide +kernel
theorem dX11_layLacks_153 : decode cX11_layLacks 153 = .ok (.istore_n 3, 1) := by decide +kernel
theorem dX11_layLacks_154 : decode cX11_layLacks 154 = .ok (.iload_n 3, 1) := by decide +kernel
theorem dX11_layLacks_155 : decode cX11_layLacks 155 = .ok (.iconst 5, 1) := by decide +kernel
theorem dX11_layLacks_156 : decode cX11_layLacks 156 = .ok (.if_icmp .ge 51, 3) := by decide +kernel
theorem dX11_layLacks_159 : decode cX11_layLacks 159 = .ok (.iconst 0, 1) := by decide +kernel
theorem dX11_layLacks_160 : decode cX11_layLacks 160 = .ok (.istore 4, 2) := by decide +kernel
theorem dX11_layLacks_162 : decode cX11_layLacks 162 = .ok (.iload 4, 2) := by decide +kernel
theorem dX11_layLacks_164 : decode cX11_layLacks 164 = .ok (.iconst 2, 1) := by decide +kernel
theorem dX11_layLacks_165 : decode cX11_layLacks 165 = .ok (.if_icmp .ge 36, 3) := by decide +kernel
theorem dX11_layLacks_168 : decode cX11_layLacks 168 = .ok (.aload_n 0, 1) := by decide +kernel
theorem dX11_layLacks_169 : decode cX11_layLacks 169 = .ok (.getfield 74, 3) := by decide +kernel
theorem dX11_layLacks_172 : decode cX11_layLacks 172 = .ok (.bipush 10, 2) := by decide +kernel
theorem dX11_layLacks_174 : decode cX11_layLacks 174 = .ok (.iload_n 1, 1) := by decide +kernel
theorem dX11_layLacks_175 : decode cX11_layLacks 175 = .ok (.imul, 1) := by decide +kernel
theorem dX11_layLacks_176 : decode cX11_layLacks 176 = .ok (.iconst 2, 1) := by decide +kernel
theorem dX11_layLacks_177 : decode cX11_layLacks 177 = .ok (.iload_n 3, 1) := by decide +kernel
theorem dX11_layLacks_178 : decode cX11_layLacks 178 = .ok (.imul, 1) := by decide +kernel
theorem dX11_layLacks_179 : decode cX11_layLacks 179 = .ok (.iadd, 1) := by decide +kernel
theorem dX11_layLacks_180 : decode cX11_layLacks 180 = .ok (.iload 4, 2) := by decide +kernel
theorem dX11_layLacks_182 : decode cX11_layLacks 182 = .ok (.iadd, 1) := by decide +kernel
theorem dX11_layLacks_183 : decode cX11_layLacks 183 = .ok (.aload_n 0, 1) := by decide +kernel
theorem dX11_layLacks_184 : decode cX11_layLacks 184 = .ok (.getfield 68, 3) := by decide +kernel
theorem dX11_layLacks_187 : decode cX11_layLacks 187 = .ok (.iconst 2, 1) := by decide +kernel
theorem dX11_layLacks_188 : decode cX11_layLacks 188 = .ok (.iload_n 3, 1) := by decide +kernel
theorem dX11_layLacks_189 : decode cX11_layLacks 189 = .ok (.imul, 1) := by decide +kernel
theorem dX11_layLacks_190 : decode cX11_layLacks 190 = .ok (.iload 4, 2) := by decide +kernel
theorem dX11_layLacks_192 : decode cX11_layLacks 192 = .ok (.iadd, 1) := by decide +kernel
theorem dX11_layLacks_193 : decode cX11_layLacks 193 = .ok (.iaload, 1) := by decide +kernel
theorem dX11_layLacks_194 : decode cX11_layLacks 194 = .ok (.iastore, 1) := by decide +kernel
theorem dX11_layLacks_195 : decode cX11_layLacks 195 = .ok (.iinc 4 1, 3) := by decide +kernel
theorem dX11_layLacks_198 : decode cX11_layLacks 198 = .ok (.goto (-36), 3) := by decide +kernel
theorem dX11_layLacks_201 : decode cX11_layLacks 201 = .ok (.iinc 3 1, 3) := by decide +kernel
theorem dX11_layLacks_204 : decode cX11_layLacks 204 = .ok (.goto (-50), 3) := by decide +kernel
theorem dX11_layLacks_207 : decode cX11_layLacks 207 = .ok (.return_, 1) := by decide +kernel
theorem dX11_layAll_0 : decode cX11_layAll 0 = .ok (.iconst 0, 1) := by decide +kernel
theorem dX11_layAll_1 : decode cX11_layAll 1 = .ok (.istore_n 1, 1) := by decide +kernel
theorem dX11_layAll_2 : decode cX11_layAll 2 = .ok (.iload_n 1, 1) := by decide +kernel
theorem dX11_layAll_3 : decode cX11_layAll 3 = .ok (.iconst 4, 1) := by decide +kernel
theorem dX11_layAll_4 : decode cX11_layAll 4 = .ok (.if_icmp .ge 14, 3) := by decide +kernel
theorem dX11_layAll_7 : decode cX11_layAll 7 = .ok (.aload_n 0, 1) := by decide +kernel
theorem dX11_layAll_8 : decode cX11_layAll 8 = .ok (.iload_n 1, 1) := by decide +kernel
theorem dX11_layAll_9 : decode cX11_layAll 9 = .ok (.invokevirtual 211, 3) := by decide +kernel
theorem dX11_layAll_12 : decode cX11_layAll 12 = .ok (.iinc 1 1, 3) := by decide +kernel
theorem dX11_layAll_15 : decode cX11_layAll 15 = .ok (.goto (-13), 3) := by decide +kernel
theorem dX11_layAll_18 : decode cX11_layAll 18 = .ok (.return_, 1) := by decide +kernel
theorem dX11_lackByWay_0 : decode cX11_lackByWay 0 = .ok (.bipush 99, 2) := by decide +kernel
theorem dX11_lackByWay_2 : decode cX11_lackByWay 2 = .ok (.istore_n 1, 1) := by decide +kernel
theorem dX11_lackByWay_3 : decode cX11_lackByWay 3 = .ok (.iconst 4, 1) := by decide +kernel
theorem dX11_lackByWay_4 : decode cX11_lackByWay 4 = .ok (.aload_n 0, 1) := by decide +kernel
theorem dX11_lackByWay_5 : decode cX11_lackByWay 5 = .ok (.getfield 158, 3) := by decide +kernel
theorem dX11_lackByWay_8 : decode cX11_lackByWay 8 = .ok (.isub, 1) := by decide +kernel
theorem dX11_lackByWay_9 : decode cX11_lackByWay 9 = .ok (.istore_n 2, 1) := by decide +kernel
theorem dX11_lackByWay_10 : decode cX11_lackByWay 10 = .ok (.iconst 0, 1) := by decide +kernel
theorem dX11_lackByWay_11 : decode cX11_lackByWay 11 = .ok (.istore_n 3, 1) := by decide +kernel
theorem dX11_lackByWay_12 : decode cX11_lackByWay 12 = .ok (.iload_n 3, 1) := by decide +kernel
theorem dX11_lackByWay_13 : decode cX11_lackByWay 13 = .ok (.iload_n 2, 1) := by decide +kernel
theorem dX11_lackByWay_14 : decode cX11_lackByWay 14 = .ok (.if_icmp .gt 181, 3) := by decide +kernel
theorem dX11_lackByWay_17 : decode cX11_lackByWay 17 = .ok (.iconst 0, 1) := by decide +kernel
theorem dX11_lackByWay_18 : decode cX11_lackByWay 18 = .ok (.istore 4, 2) := by decide +kernel
theorem dX11_lackByWay_20 : decode cX11_lackByWay 20 = .ok (.iload_n 3, 1) := by decide +kernel
theorem dX11_lackByWay_21 : decode cX11_lackByWay 21 = .ok (.iload 4, 2) := by decide +kernel
theorem dX11_lackByWay_23 : decode cX11_lackByWay 23 = .ok (.iadd, 1) := by decide +kernel
theorem dX11_lackByWay_24 : decode cX11_lackByWay 24 = .ok (.iload_n 2, 1) := by decide +kernel
theorem dX11_lackByWay_25 : decode cX11_lackByWay 25 = .ok (.if_icmp .gt 164, 3) := by decide +kernel
theorem dX11_lackByWay_28 : decode cX11_lackByWay 28 = .ok (.iconst 0, 1) := by decide +kernel
theorem dX11_lackByWay_29 : decode cX11_lackByWay 29 = .ok (.istore 5, 2) := by decide +kernel
theorem dX11_lackByWay_31 : decode cX11_lackByWay 31 = .ok (.iload_n 3, 1) := by decide +kernel
theorem dX11_lackByWay_32 : decode cX11_lackByWay 32 = .ok (.iload 4, 2) := by decide +kernel
theorem dX11_lackByWay_34 : decode cX11_lackByWay 34 = .ok (.iadd, 1) := by decide +kernel
theorem dX11_lackByWay_35 : decode cX11_lackByWay 35 = .ok (.iload 5, 2) := by decide +kernel
theorem dX11_lackByWay_37 : decode cX11_lackByWay 37 = .ok (.iadd, 1) := by decide +kernel
theorem dX11_lackByWay_38 : decode cX11_lackByWay 38 = .ok (.iload_n 2, 1) := by decide +kernel
theorem dX11_lackByWay_39 : decode cX11_lackByWay 39 = .ok (.if_icmp .gt 144, 3) := by decide +kernel
theorem dX11_lackByWay_42 : decode cX11_lackByWay 42 = .ok (.iload_n 2, 1) := by decide +kernel
theorem dX11_lackByWay_43 : decode cX11_lackByWay 43 = .ok (.iload_n 3, 1) := by decide +kernel
theorem dX11_lackByWay_44 : decode cX11_lackByWay 44 = .ok (.isub, 1) := by decide +kernel
theorem dX11_lackByWay_45 : decode cX11_lackByWay 45 = .ok (.iload 4, 2) := by decide +kernel
theorem dX11_lackByWay_47 : decode cX11_lackByWay 47 = .ok (.isub, 1) := by decide +kernel
theorem dX11_lackByWay_48 : decode cX11_lackByWay 48 = .ok (.iload 5, 2) := by decide +kernel
theorem dX11_lackByWay_50 : decode cX11_lackByWay 50 = .ok (.isub, 1) := by decide +kernel
theorem dX11_lackByWay_51 : decode cX11_lackByWay 51 = .ok (.istore 6, 2) := by decide +kernel
theorem dX11_lackByWay_53 : decode cX11_lackByWay 53 = .ok (.iconst 0, 1) := by decide +kernel
theorem dX11_lackByWay_54 : decode cX11_lackByWay 54 = .ok (.istore 7, 2) := by decide +kernel
theorem dX11_lackByWay_56 : decode cX11_lackByWay 56 = .ok (.iload 7, 2) := by decide +kernel
theorem dX11_lackByWay_58 : decode cX11_lackByWay 58 = .ok (.iconst 4, 1) := by decide +kernel
theorem dX11_lackByWay_59 : decode cX11_lackByWay 59 = .ok (.if_icmp .ge 118, 3) := by decide +kernel
theorem dX11_lackByWay_62 : decode cX11_lackByWay 62 = .ok (.aload_n 0, 1) := by decide +kernel
theorem dX11_lackByWay_63 : decode cX11_lackByWay 63 = .ok (.getfield 74, 3) := by decide +kernel
theorem dX11_lackByWay_66 : decode cX11_lackByWay 66 = .ok (.iconst 2, 1) := by decide +kernel
theorem dX11_lackByWay_67 : decode cX11_lackByWay 67 = .ok (.iload_n 3, 1) := by decide +kernel
theorem dX11_lackByWay_68 : decode cX11_lackByWay 68 = .ok (.imul, 1) := by decide +kernel
theorem dX11_lackByWay_69 : decode cX11_lackByWay 69 = .ok (.iload 7, 2) := by decide +kernel
theorem dX11_lackByWay_71 : decode cX11_lackByWay 71 = .ok (.ifCond .ne 7, 3) := by decide +kernel
theorem dX11_lackByWay_74 : decode cX11_lackByWay 74 = .ok (.iconst 1, 1) := by decide +kernel
theorem dX11_lackByWay_75 : decode cX11_lackByWay 75 = .ok (.goto 4, 3) := by decide +kernel
theorem dX11_lackByWay_78 : decode cX11_lackByWay 78 = .ok (.iconst 0, 1) := by decide +kernel
theorem dX11_lackByWay_79 : decode cX11_lackByWay 79 = .ok (.iadd, 1) := by decide +kernel
theorem dX11_lackByWay_80 : decode cX11_lackByWay 80 = .ok (.iaload, 1) := by decide +kernel
theorem dX11_lackByWay_81 : decode cX11_lackByWay 81 = .ok (.aload_n 0, 1) := by decide +kernel
theorem dX11_lackByWay_82 : decode cX11_lackByWay 82 = .ok (.getfield 74, 3) := by decide +kernel
theorem dX11_lackByWay_85 : decode cX11_lackByWay 85 = .ok (.bipush 10, 2) := by decide +kernel
theorem dX11_lackByWay_87 : decode cX11_lackByWay 87 = .ok (.iconst 2, 1) := by decide +kernel
theorem dX11_lackByWay_88 : decode cX11_lackByWay 88 = .ok (.iload 4, 2) := by decide +kernel
theorem dX11_lackByWay_90 : decode cX11_lackByWay 90 = .ok (.imul, 1) := by decide +kernel
theorem dX11_lackByWay_91 : decode cX11_lackByWay 91 = .ok (.iadd, 1) := by decide +kernel
theorem dX11_lackByWay_92 : decode cX11_lackByWay 92 = .ok (.iload 7, 2) := by decide +kernel
theorem dX11_lackByWay_94 : decode cX11_lackByWay 94 = .ok (.iconst 1, 1) := by decide +kernel
theorem dX11_lackByWay_95 : decode cX11_lackByWay 95 = .ok (.if_icmp .ne 7, 3) := by decide +kernel
theorem dX11_lackByWay_98 : decode cX11_lackByWay 98 = .ok (.iconst 1, 1) := by decide +kernel
theorem dX11_lackByWay_99 : decode cX11_lackByWay 99 = .ok (.goto 4, 3) := by decide +kernel
theorem dX11_lackByWay_102 : decode cX11_lackByWay 102 = .ok (.iconst 0, 1) := by decide +kernel
theorem dX11_lackByWay_103 : decode cX11_lackByWay 103 = .ok (.iadd, 1) := by decide +kernel
theorem dX11_lackByWay_104 : decode cX11_lackByWay 104 = .ok (.iaload, 1) := by decide +kernel
theorem dX11_lackByWay_105 : decode cX11_lackByWay 105 = .ok (.iadd, 1) := by decide +kernel
theorem dX11_lackByWay_106 : decode cX11_lackByWay 106 = .ok (.aload_n 0, 1) := by decide +kernel
theorem dX11_lackByWay_107 : decode cX11_lackByWay 107 = .ok (.getfield 74, 3) := by decide +kernel
theorem dX11_lackByWay_110 : decode cX11_lackByWay 110 = .ok (.bipush 20, 2) := by decide +kernel
theorem dX11_lackByWay_112 : decode cX11_lackByWay 112 = .ok (.iconst 2, 1) := by decide +kernel
theorem dX11_lackByWay_113 : decode cX11_lackByWay 113 = .ok (.iload 5, 2) := by decide +kernel
theorem dX11_lackByWay_115 : decode cX11_lackByWay 115 = .ok (.imul, 1) := by decide +kernel
theorem dX11_lackByWay_116 : decode cX11_lackByWay 116 = .ok (.iadd, 1) := by decide +kernel
theorem dX11_lackByWay_117 : decode cX11_lackByWay 117 = .ok (.iload 7, 2) := by decide +kernel
theorem dX11_lackByWay_119 : decode cX11_lackByWay 119 = .ok (.iconst 2, 1) := by decide +kernel
theorem dX11_lackByWay_120 : decode cX11_lackByWay 120 = .ok (.if_icmp .ne 7, 3) := by decide +kernel
theorem dX11_lackByWay_123 : decode cX11_lackByWay 123 = .ok (.iconst 1, 1) := by decide +kernel
theorem dX11_lackByWay_124 : decode cX11_lackByWay 124 = .ok (.goto 4, 3) := by decide +kernel
theorem dX11_lackByWay_127 : decode cX11_lackByWay 127 = .ok (.iconst 0, 1) := by decide +kernel
theorem dX11_lackByWay_128 : decode cX11_lackByWay 128 = .ok (.iadd, 1) := by decide +kernel
theorem dX11_lackByWay_129 : decode cX11_lackByWay 129 = .ok (.iaload, 1) := by decide +kernel
theorem dX11_lackByWay_130 : decode cX11_lackByWay 130 = .ok (.iadd, 1) := by decide +kernel
theorem dX11_lackByWay_131 : decode cX11_lackByWay 131 = .ok (.aload_n 0, 1) := by decide +kernel
theorem dX11_lackByWay_132 : decode cX11_lackByWay 132 = .ok (.getfield 74, 3) := by decide +kernel
theorem dX11_lackByWay_135 : decode cX11_lackByWay 135 = .ok (.bipush 30, 2) := by decide +kernel
theorem dX11_lackByWay_137 : decode cX11_lackByWay 137 = .ok (.iconst 2, 1) := by decide +kernel
theorem dX11_lackByWay_138 : decode cX11_lackByWay 138 = .ok (.iload 6, 2) := by decide +kernel
theorem dX11_lackByWay_140 : decode cX11_lackByWay 140 = .ok (.imul, 1) := by decide +kernel
theorem dX11_lackByWay_141 : decode cX11_lackByWay 141 = .ok (.iadd, 1) := by decide +kernel
theorem dX11_lackByWay_142 : decode cX11_lackByWay 142 = .ok (.iload 7, 2) := by decide +kernel
theorem dX11_lackByWay_144 : decode cX11_lackByWay 144 = .ok (.iconst 3, 1) := by decide +kernel
theorem dX11_lackByWay_145 : decode cX11_lackByWay 145 = .ok (.if_icmp .ne 7, 3) := by decide +kernel
theorem dX11_lackByWay_148 : decode cX11_lackByWay 148 = .ok (.iconst 1, 1) := by decide +kernel
theorem dX11_lackByWay_149 : decode cX11_lackByWay 149 = .ok (.goto 4, 3) := by decide +kernel
theorem dX11_lackByWay_152 : decode cX11_lackByWay 152 = .ok (.iconst 0, 1) := by decide +kernel
theorem dX11_lackByWay_153 : decode cX11_lackByWay 153 = .ok (.iadd, 1) := by decide +kernel
theorem dX11_lackByWay_154 : decode cX11_lackByWay 154 = .ok (.iaload, 1) := by decide +kernel
theorem dX11_lackByWay_155 : decode cX11_lackByWay 155 = .ok (.iadd, 1) := by decide +kernel
theorem dX11_lackByWay_156 : decode cX11_lackByWay 156 = .ok (.istore 8, 2) := by decide +kernel
theorem dX11_lackByWay_158 : decode cX11_lackByWay 158 = .ok (.iload 8, 2) := by decide +kernel
theorem dX11_lackByWay_160 : decode cX11_lackByWay 160 = .ok (.iload_n 1, 1) := by decide +kernel
theorem dX11_lackByWay_161 : decode cX11_lackByWay 161 = .ok (.if_icmp .ge 8, 3) := by decide +kernel
theorem dX11_lackByWay_164 : decode cX11_lackByWay 164 = .ok (.iload 8, 2) := by decide +kernel
theorem dX11_lackByWay_166 : decode cX11_lackByWay 166 = .ok (.goto 4, 3) := by decide +kernel
theorem dX11_lackByWay_169 : decode cX11_lackByWay 169 = .ok (.iload_n 1, 1) := by decide +kernel
theorem dX11_lackByWay_170 : decode cX11_lackByWay 170 = .ok (.istore_n 1, 1) := by decide +kernel
theorem dX11_lackByWay_171 : decode cX11_lackByWay 171 = .ok (.iinc 7 1, 3) := by decide +kernel
theorem dX11_lackByWay_174 : decode cX11_lackByWay 174 = .ok (.goto (-118), 3) := by decide +kernel
theorem dX11_lackByWay_177 : decode cX11_lackByWay 177 = .ok (.iinc 5 1, 3) := by decide +kernel
theorem dX11_lackByWay_180 : decode cX11_lackByWay 180 = .ok (.goto (-149), 3) := by decide +kernel
theorem dX11_lackByWay_183 : decode cX11_lackByWay 183 = .ok (.iinc 4 1, 3) := by decide +kernel
theorem dX11_lackByWay_186 : decode cX11_lackByWay 186 = .ok (.goto (-166), 3) := by decide +kernel
theorem dX11_lackByWay_189 : decode cX11_lackByWay 189 = .ok (.iinc 3 1, 3) := by decide +kernel
theorem dX11_lackByWay_192 : decode cX11_lackByWay 192 = .ok (.goto (-180), 3) := by decide +kernel
theorem dX11_lackByWay_195 : decode cX11_lackByWay 195 = .ok (.iload_n 1, 1) := by decide +kernel
theorem dX11_lackByWay_196 : decode cX11_lackByWay 196 = .ok (.ireturn, 1) := by decide +kernel
theorem dX11_lackOfSeven_0 : decode cX11_lackOfSeven 0 = .ok (.iconst 0, 1) := by decide +kernel
theorem dX11_lackOfSeven_1 : decode cX11_lackOfSeven 1 = .ok (.istore_n 1, 1) := by decide +kernel
theorem dX11_lackOfSeven_2 : decode cX11_lackOfSeven 2 = .ok (.iconst 0, 1) := by decide +kernel
theorem dX11_lackOfSeven_3 : decode cX11_lackOfSeven 3 = .ok (.istore_n 2, 1) := by decide +kernel
theorem dX11_lackOfSeven_4 : decode cX11_lackOfSeven 4 = .ok (.iconst 0, 1) := by decide +kernel
theorem dX11_lackOfSeven_5 : decode cX11_lackOfSeven 5 = .ok (.istore_n 3, 1) := by decide +kernel
theorem dX11_lackOfSeven_6 : decode cX11_lackOfSeven 6 = .ok (.iload_n 3, 1) := by decide +kernel
theorem dX11_lackOfSeven_7 : decode cX11_lackOfSeven 7 = .ok (.bipush 34, 2) := by decide +kernel
theorem dX11_lackOfSeven_9 : decode cX11_lackOfSeven 9 = .ok (.if_icmp .ge 45, 3) := by decide +kernel
theorem dX11_lackOfSeven_12 : decode cX11_lackOfSeven 12 = .ok (.iload_n 1, 1) := by decide +kernel
theorem dX11_lackOfSeven_13 : decode cX11_lackOfSeven 13 = .ok (.aload_n 0, 1) := by decide +kernel
theorem dX11_lackOfSeven_14 : decode cX11_lackOfSeven 14 = .ok (.getfield 56, 3) := by decide +kernel
theorem dX11_lackOfSeven_17 : decode cX11_lackOfSeven 17 = .ok (.iload_n 3, 1) := by decide +kernel
theorem dX11_lackOfSeven_18 : decode cX11_lackOfSeven 18 = .ok (.iaload, 1) := by decide +kernel
theorem dX11_lackOfSeven_19 : decode cX11_lackOfSeven 19 = .ok (.iconst 1, 1) := by decide +kernel
theorem dX11_lackOfSeven_20 : decode cX11_lackOfSeven 20 = .ok (.if_icmp .le 7, 3) := by decide +kernel
theorem dX11_lackOfSeven_23 : decode cX11_lackOfSeven 23 = .ok (.iconst 1, 1) := by decide +kernel
theorem dX11_lackOfSeven_24 : decode cX11_lackOfSeven 24 = .ok (.goto 4, 3) := by decide +kernel
theorem dX11_lackOfSeven_27 : decode cX11_lackOfSeven 27 = .ok (.iconst 0, 1) := by decide +kernel
theorem dX11_lackOfSeven_28 : decode cX11_lackOfSeven 28 = .ok (.iadd, 1) := by decide +kernel
theorem dX11_lackOfSeven_29 : decode cX11_lackOfSeven 29 = .ok (.istore_n 1, 1) := by decide +kernel
theorem dX11_lackOfSeven_30 : decode cX11_lackOfSeven 30 = .ok (.iload_n 2, 1) := by decide +kernel
theorem dX11_lackOfSeven_31 : decode cX11_lackOfSeven 31 = .ok (.aload_n 0, 1) := by decide +kernel
theorem dX11_lackOfSeven_32 : decode cX11_lackOfSeven 32 = .ok (.getfield 56, 3) := by decide +kernel
theorem dX11_lackOfSeven_35 : decode cX11_lackOfSeven 35 = .ok (.iload_n 3, 1) := by decide +kernel
theorem dX11_lackOfSeven_36 : decode cX11_lackOfSeven 36 = .ok (.iaload, 1) := by decide +kernel
theorem dX11_lackOfSeven_37 : decode cX11_lackOfSeven 37 = .ok (.iconst 1, 1) := by decide +kernel
theorem dX11_lackOfSeven_38 : decode cX11_lackOfSeven 38 = .ok (.if_icmp .ne 7, 3) := by decide +kernel
theorem dX11_lackOfSeven_41 : decode cX11_lackOfSeven 41 = .ok (.iconst 1, 1) := by decide +kernel
theorem dX11_lackOfSeven_42 : decode cX11_lackOfSeven 42 = .ok (.goto 4, 3) := by decide +kernel
theorem dX11_lackOfSeven_45 : decode cX11_lackOfSeven 45 = .ok (.iconst 0, 1) := by decide +kernel
theorem dX11_lackOfSeven_46 : decode cX11_lackOfSeven 46 = .ok (.iadd, 1) := by decide +kernel
theorem dX11_lackOfSeven_47 : decode cX11_lackOfSeven 47 = .ok (.istore_n 2, 1) := by decide +kernel
theorem dX11_lackOfSeven_48 : decode cX11_lackOfSeven 48 = .ok (.iinc 3 1, 3) := by decide +kernel
theorem dX11_lackOfSeven_51 : decode cX11_lackOfSeven 51 = .ok (.goto (-45), 3) := by decide +kernel
theorem dX11_lackOfSeven_54 : decode cX11_lackOfSeven 54 = .ok (.iload_n 1, 1) := by decide +kernel
theorem dX11_lackOfSeven_55 : decode cX11_lackOfSeven 55 = .ok (.bipush 7, 2) := by decide +kernel
theorem dX11_lackOfSeven_57 : decode cX11_lackOfSeven 57 = .ok (.if_icmp .le 7, 3) := by decide +kernel
theorem dX11_lackOfSeven_60 : decode cX11_lackOfSeven 60 = .ok (.iconst 0, 1) := by decide +kernel
theorem dX11_lackOfSeven_61 : decode cX11_lackOfSeven 61 = .ok (.goto 7, 3) := by decide +kernel
theorem dX11_lackOfSeven_64 : decode cX11_lackOfSeven 64 = .ok (.bipush 7, 2) := by decide +kernel
theorem dX11_lackOfSeven_66 : decode cX11_lackOfSeven 66 = .ok (.iload_n 1, 1) := by decide +kernel
theorem dX11_lackOfSeven_67 : decode cX11_lackOfSeven 67 = .ok (.isub, 1) := by decide +kernel
theorem dX11_lackOfSeven_68 : decode cX11_lackOfSeven 68 = .ok (.istore_n 3, 1) := by decide +kernel
theorem dX11_lackOfSeven_69 : decode cX11_lackOfSeven 69 = .ok (.iload_n 2, 1) := by decide +kernel
theorem dX11_lackOfSeven_70 : decode cX11_lackOfSeven 70 = .ok (.iload_n 3, 1) := by decide +kernel
theorem dX11_lackOfSeven_71 : decode cX11_lackOfSeven 71 = .ok (.if_icmp .le 7, 3) := by decide +kernel
theorem dX11_lackOfSeven_74 : decode cX11_lackOfSeven 74 = .ok (.iload_n 3, 1) := by decide +kernel
theorem dX11_lackOfSeven_75 : decode cX11_lackOfSeven 75 = .ok (.goto 8, 3) := by decide +kernel
theorem dX11_lackOfSeven_78 : decode cX11_lackOfSeven 78 = .ok (.iconst 2, 1) := by decide +kernel
theorem dX11_lackOfSeven_79 : decode cX11_lackOfSeven 79 = .ok (.iload_n 3, 1) := by decide +kernel
theorem dX11_lackOfSeven_80 : decode cX11_lackOfSeven 80 = .ok (.imul, 1) := by decide +kernel
theorem dX11_lackOfSeven_81 : decode cX11_lackOfSeven 81 = .ok (.iload_n 2, 1) := by decide +kernel
theorem dX11_lackOfSeven_82 : decode cX11_lackOfSeven 82 = .ok (.isub, 1) := by decide +kernel
theorem dX11_lackOfSeven_83 : decode cX11_lackOfSeven 83 = .ok (.ireturn, 1) := by decide +kernel
theorem dX11_lackOfOuter_0 : decode cX11_lackOfOuter 0 = .ok (.iconst 1, 1) := by decide +kernel
theorem dX11_lackOfOuter_1 : decode cX11_lackOfOuter 1 = .ok (.istore_n 1, 1) := by decide +kernel
theorem dX11_lackOfOuter_2 : decode cX11_lackOfOuter 2 = .ok (.iconst 0, 1) := by decide +kernel
theorem dX11_lackOfOuter_3 : decode cX11_lackOfOuter 3 = .ok (.istore_n 2, 1) := by decide +kernel
theorem dX11_lackOfOuter_4 : decode cX11_lackOfOuter 4 = .ok (.iload_n 2, 1) := by decide +kernel
theorem dX11_lackOfOuter_5 : decode cX11_lackOfOuter 5 = .ok (.bipush 34, 2) := by decide +kernel
theorem dX11_lackOfOuter_7 : decode cX11_lackOfOuter 7 = .ok (.if_icmp .ge 33, 3) := by decide +kernel
theorem dX11_lackOfOuter_10 : decode cX11_lackOfOuter 10 = .ok (.iload_n 1, 1) := by decide +kernel
theorem dX11_lackOfOuter_11 : decode cX11_lackOfOuter 11 = .ok (.iload_n 2, 1) := by decide +kernel
theorem dX11_lackOfOuter_12 : decode cX11_lackOfOuter 12 = .ok (.invokestatic 162, 3) := by decide +kernel
theorem dX11_lackOfOuter_15 : decode cX11_lackOfOuter 15 = .ok (.ifCond .eq 16, 3) := by decide +kernel
theorem dX11_lackOfOuter_18 : decode cX11_lackOfOuter 18 = .ok (.aload_n 0, 1) := by decide +kernel
theorem dX11_lackOfOuter_19 : decode cX11_lackOfOuter 19 = .ok (.getfield 56, 3) := by decide +kernel
theorem dX11_lackOfOuter_22 : decode cX11_lackOfOuter 22 = .ok (.iload_n 2, 1) := by decide +kernel
theorem dX11_lackOfOuter_23 : decode cX11_lackOfOuter 23 = .ok (.iaload, 1) := by decide +kernel
theorem dX11_lackOfOuter_24 : decode cX11_lackOfOuter 24 = .ok (.ifCond .ne 7, 3) := by decide +kernel
theorem dX11_lackOfOuter_27 : decode cX11_lackOfOuter 27 = .ok (.iconst 1, 1) := by decide +kernel
theorem dX11_lackOfOuter_28 : decode cX11_lackOfOuter 28 = .ok (.goto 4, 3) := by decide +kernel
theorem dX11_lackOfOuter_31 : decode cX11_lackOfOuter 31 = .ok (.iconst 0, 1) := by decide +kernel
theorem dX11_lackOfOuter_32 : decode cX11_lackOfOuter 32 = .ok (.iadd, 1) := by decide +kernel
theorem dX11_lackOfOuter_33 : decode cX11_lackOfOuter 33 = .ok (.istore_n 1, 1) := by decide +kernel
theorem dX11_lackOfOuter_34 : decode cX11_lackOfOuter 34 = .ok (.iinc 2 1, 3) := by decide +kernel
theorem dX11_lackOfOuter_37 : decode cX11_lackOfOuter 37 = .ok (.goto (-33), 3) := by decide +kernel
theorem dX11_lackOfOuter_40 : decode cX11_lackOfOuter 40 = .ok (.iconst 0, 1) := by decide +kernel
theorem dX11_lackOfOuter_41 : decode cX11_lackOfOuter 41 = .ok (.istore_n 2, 1) := by decide +kernel
theorem dX11_lackOfOuter_42 : decode cX11_lackOfOuter 42 = .ok (.iconst 0, 1) := by decide +kernel
theorem dX11_lackOfOuter_43 : decode cX11_lackOfOuter 43 = .ok (.istore_n 3, 1) := by decide +kernel
theorem dX11_lackOfOuter_44 : decode cX11_lackOfOuter 44 = .ok (.iload_n 3, 1) := by decide +kernel
theorem dX11_lackOfOuter_45 : decode cX11_lackOfOuter 45 = .ok (.bipush 34, 2) := by decide +kernel
theorem dX11_lackOfOuter_47 : decode cX11_lackOfOuter 47 = .ok (.if_icmp .ge 36, 3) := by decide +kernel
theorem dX11_lackOfOuter_50 : decode cX11_lackOfOuter 50 = .ok (.iload_n 2, 1) := by decide +kernel
theorem dX11_lackOfOuter_51 : decode cX11_lackOfOuter 51 = .ok (.ifCond .ne 20, 3) := by decide +kernel
theorem dX11_lackOfOuter_54 : decode cX11_lackOfOuter 54 = .ok (.iload_n 3, 1) := by decide +kernel
theorem dX11_lackOfOuter_55 : decode cX11_lackOfOuter 55 = .ok (.invokestatic 162, 3) := by decide +kernel
theorem dX11_lackOfOuter_58 : decode cX11_lackOfOuter 58 = .ok (.ifCond .eq 17, 3) := by decide +kernel
theorem dX11_lackOfOuter_61 : decode cX11_lackOfOuter 61 = .ok (.aload_n 0, 1) := by decide +kernel
theorem dX11_lackOfOuter_62 : decode cX11_lackOfOuter 62 = .ok (.getfield 56, 3) := by decide +kernel
theorem dX11_lackOfOuter_65 : decode cX11_lackOfOuter 65 = .ok (.iload_n 3, 1) := by decide +kernel
theorem dX11_lackOfOuter_66 : decode cX11_lackOfOuter 66 = .ok (.iaload, 1) := by decide +kernel
theorem dX11_lackOfOuter_67 : decode cX11_lackOfOuter 67 = .ok (.iconst 1, 1) := by decide +kernel
theorem dX11_lackOfOuter_68 : decode cX11_lackOfOuter 68 = .ok (.if_icmp .le 7, 3) := by decide +kernel
theorem dX11_lackOfOuter_71 : decode cX11_lackOfOuter 71 = .ok (.iconst 1, 1) := by decide +kernel
theorem dX11_lackOfOuter_72 : decode cX11_lackOfOuter 72 = .ok (.goto 4, 3) := by decide +kernel
theorem dX11_lackOfOuter_75 : decode cX11_lackOfOuter 75 = .ok (.iconst 0, 1) := by decide +kernel
theorem dX11_lackOfOuter_76 : decode cX11_lackOfOuter 76 = .ok (.istore_n 2, 1) := by decide +kernel
theorem dX11_lackOfOuter_77 : decode cX11_lackOfOuter 77 = .ok (.iinc 3 1, 3) := by decide +kernel
theorem dX11_lackOfOuter_80 : decode cX11_lackOfOuter 80 = .ok (.goto (-36), 3) := by decide +kernel
theorem dX11_lackOfOuter_83 : decode cX11_lackOfOuter 83 = .ok (.iload_n 2, 1) := by decide +kernel
theorem dX11_lackOfOuter_84 : decode cX11_lackOfOuter 84 = .ok (.ifCond .eq 9, 3) := by decide +kernel
theorem dX11_lackOfOuter_87 : decode cX11_lackOfOuter 87 = .ok (.iload_n 1, 1) := by decide +kernel
theorem dX11_lackOfOuter_88 : decode cX11_lackOfOuter 88 = .ok (.iconst 1, 1) := by decide +kernel
theorem dX11_lackOfOuter_89 : decode cX11_lackOfOuter 89 = .ok (.isub, 1) := by decide +kernel
theorem dX11_lackOfOuter_90 : decode cX11_lackOfOuter 90 = .ok (.goto 4, 3) := by decide +kernel
theorem dX11_lackOfOuter_93 : decode cX11_lackOfOuter 93 = .ok (.iload_n 1, 1) := by decide +kernel
theorem dX11_lackOfOuter_94 : decode cX11_lackOfOuter 94 = .ok (.ireturn, 1) := by decide +kernel
theorem dX11_lackOf_0 : decode cX11_lackOf 0 = .ok (.aload_n 0, 1) := by decide +kernel
theorem dX11_lackOf_1 : decode cX11_lackOf 1 = .ok (.invokevirtual 214, 3) := by decide +kernel
theorem dX11_lackOf_4 : decode cX11_lackOf 4 = .ok (.istore_n 1, 1) := by decide +kernel
theorem dX11_lackOf_5 : decode cX11_lackOf 5 = .ok (.aload_n 0, 1) := by decide +kernel
theorem dX11_lackOf_6 : decode cX11_lackOf 6 = .ok (.getfield 158, 3) := by decide +kernel
theorem dX11_lackOf_9 : decode cX11_lackOf 9 = .ok (.ifCond .ne 23, 3) := by decide +kernel
theorem dX11_lackOf_12 : decode cX11_lackOf 12 = .ok (.aload_n 0, 1) := by decide +kernel
theorem dX11_lackOf_13 : decode cX11_lackOf 13 = .ok (.getfield 151, 3) := by decide +kernel
theorem dX11_lackOf_16 : decode cX11_lackOf 16 = .ok (.ifCond .eq 16, 3) := by decide +kernel
theorem dX11_lackOf_19 : decode cX11_lackOf 19 = .ok (.aload_n 0, 1) := by decide +kernel
theorem dX11_lackOf_20 : decode cX11_lackOf 20 = .ok (.invokevirtual 217, 3) := by decide +kernel
theorem dX11_lackOf_23 : decode cX11_lackOf 23 = .ok (.iload_n 1, 1) := by decide +kernel
theorem dX11_lackOf_24 : decode cX11_lackOf 24 = .ok (.if_icmp .ge 8, 3) := by decide +kernel
theorem dX11_lackOf_27 : decode cX11_lackOf 27 = .ok (.aload_n 0, 1) := by decide +kernel
theorem dX11_lackOf_28 : decode cX11_lackOf 28 = .ok (.invokevirtual 217, 3) := by decide +kernel
theorem dX11_lackOf_31 : decode cX11_lackOf 31 = .ok (.istore_n 1, 1) := by decide +kernel
theorem dX11_lackOf_32 : decode cX11_lackOf 32 = .ok (.aload_n 0, 1) := by decide +kernel
theorem dX11_lackOf_33 : decode cX11_lackOf 33 = .ok (.getfield 158, 3) := by decide +kernel
theorem dX11_lackOf_36 : decode cX11_lackOf 36 = .ok (.ifCond .ne 23, 3) := by decide +kernel
theorem dX11_lackOf_39 : decode cX11_lackOf 39 = .ok (.aload_n 0, 1) := by decide +kernel
theorem dX11_lackOf_40 : decode cX11_lackOf 40 = .ok (.getfield 155, 3) := by decide +kernel
theorem dX11_lackOf_43 : decode cX11_lackOf 43 = .ok (.ifCond .eq 16, 3) := by decide +kernel
theorem dX11_lackOf_46 : decode cX11_lackOf 46 = .ok (.aload_n 0, 1) := by decide +kernel
theorem dX11_lackOf_47 : decode cX11_lackOf 47 = .ok (.invokevirtual 220, 3) := by decide +kernel
theorem dX11_lackOf_50 : decode cX11_lackOf 50 = .ok (.iload_n 1, 1) := by decide +kernel
theorem dX11_lackOf_51 : decode cX11_lackOf 51 = .ok (.if_icmp .ge 8, 3) := by decide +kernel
theorem dX11_lackOf_54 : decode cX11_lackOf 54 = .ok (.aload_n 0, 1) := by decide +kernel
theorem dX11_lackOf_55 : decode cX11_lackOf 55 = .ok (.invokevirtual 220, 3) := by decide +kernel
theorem dX11_lackOf_58 : decode cX11_lackOf 58 = .ok (.istore_n 1, 1) := by decide +kernel
theorem dX11_lackOf_59 : decode cX11_lackOf 59 = .ok (.iload_n 1, 1) := by decide +kernel
theorem dX11_lackOf_60 : decode cX11_lackOf 60 = .ok (.ireturn, 1) := by decide +kernel
theorem dX11_rowOf_0 : decode cX11_rowOf 0 = .ok (.iload_n 0, 1) := by decide +kernel
theorem dX11_rowOf_1 : decode cX11_rowOf 1 = .ok (.bipush 9, 2) := by decide +kernel
theorem dX11_rowOf_3 : decode cX11_rowOf 3 = .ok (.idiv, 1) := by decide +kernel
theorem dX11_rowOf_4 : decode cX11_rowOf 4 = .ok (.ireturn, 1) := by decide +kernel
theorem dX11_change_0 : decode cX11_change 0 = .ok (.aload_n 0, 1) := by decide +kernel
theorem dX11_change_1 : decode cX11_change 1 = .ok (.getfield 56, 3) := by decide +kernel
theorem dX11_change_4 : decode cX11_change 4 = .ok (.iload_n 1, 1) := by decide +kernel
theorem dX11_change_5 : decode cX11_change 5 = .ok (.dup2, 1) := by decide +kernel
theorem dX11_change_6 : decode cX11_change 6 = .ok (.iaload, 1) := by decide +kernel
theorem dX11_change_7 : decode cX11_change 7 = .ok (.iload_n 2, 1) := by decide +kernel
theorem dX11_change_8 : decode cX11_change 8 = .ok (.iadd, 1) := by decide +kernel
theorem dX11_change_9 : decode cX11_change 9 = .ok (.iastore, 1) := by decide +kernel
theorem dX11_change_10 : decode cX11_change 10 = .ok (.aload_n 0, 1) := by decide +kernel
theorem dX11_change_11 : decode cX11_change 11 = .ok (.iload_n 1, 1) := by decide +kernel
theorem dX11_change_12 : decode cX11_change 12 = .ok (.invokestatic 165, 3) := by decide +kernel
theorem dX11_change_15 : decode cX11_change 15 = .ok (.invokevirtual 211, 3) := by decide +kernel
theorem dX11_change_18 : decode cX11_change 18 = .ok (.return_, 1) := by decide +kernel
theorem dX11_distanceOf_0 : decode cX11_distanceOf 0 = .ok (.iload_n 0, 1) := by decide +kernel
theorem dX11_distanceOf_1 : decode cX11_distanceOf 1 = .ok (.iconst 1, 1) := by decide +kernel
theorem dX11_distanceOf_2 : decode cX11_distanceOf 2 = .ok (.if_icmp .ge 7, 3) := by decide +kernel
theorem dX11_distanceOf_5 : decode cX11_distanceOf 5 = .ok (.iconst 0, 1) := by decide +kernel
theorem dX11_distanceOf_6 : decode cX11_distanceOf 6 = .ok (.goto 6, 3) := by decide +kernel
theorem dX11_distanceOf_9 : decode cX11_distanceOf 9 = .ok (.iload_n 0, 1) := by decide +kernel
theorem dX11_distanceOf_10 : decode cX11_distanceOf 10 = .ok (.iconst 1, 1) := by decide +kernel
theorem dX11_distanceOf_11 : decode cX11_distanceOf 11 = .ok (.isub, 1) := by decide +kernel
theorem dX11_distanceOf_12 : decode cX11_distanceOf 12 = .ok (.ireturn, 1) := by decide +kernel
theorem dX11_distance_0 : decode cX11_distance 0 = .ok (.iload_n 1, 1) := by decide +kernel
theorem dX11_distance_1 : decode cX11_distance 1 = .ok (.invokestatic 114, 3) := by decide +kernel
theorem dX11_distance_4 : decode cX11_distance 4 = .ok (.ifCond .ne 5, 3) := by decide +kernel
theorem dX11_distance_7 : decode cX11_distance 7 = .ok (.iconst (-1), 1) := by decide +kernel
theorem dX11_distance_8 : decode cX11_distance 8 = .ok (.ireturn, 1) := by decide +kernel
theorem dX11_distance_9 : decode cX11_distance 9 = .ok (.aload_n 0, 1) := by decide +kernel
theorem dX11_distance_10 : decode cX11_distance 10 = .ok (.iload_n 1, 1) := by decide +kernel
theorem dX11_distance_11 : decode cX11_distance 11 = .ok (.invokevirtual 117, 3) := by decide +kernel
theorem dX11_distance_14 : decode cX11_distance 14 = .ok (.bipush 13, 2) := by decide +kernel
theorem dX11_distance_16 : decode cX11_distance 16 = .ok (.if_icmp .ge 6, 3) := by decide +kernel
theorem dX11_distance_19 : decode cX11_distance 19 = .ok (.bipush (-2), 2) := by decide +kernel
theorem dX11_distance_21 : decode cX11_distance 21 = .ok (.ireturn, 1) := by decide +kernel
theorem dX11_distance_22 : decode cX11_distance 22 = .ok (.aload_n 0, 1) := by decide +kernel
theorem dX11_distance_23 : decode cX11_distance 23 = .ok (.iload_n 1, 1) := by decide +kernel
theorem dX11_distance_24 : decode cX11_distance 24 = .ok (.invokevirtual 188, 3) := by decide +kernel
theorem dX11_distance_27 : decode cX11_distance 27 = .ok (.aload_n 0, 1) := by decide +kernel
theorem dX11_distance_28 : decode cX11_distance 28 = .ok (.invokevirtual 223, 3) := by decide +kernel
theorem dX11_distance_31 : decode cX11_distance 31 = .ok (.aload_n 0, 1) := by decide +kernel
theorem dX11_distance_32 : decode cX11_distance 32 = .ok (.invokevirtual 226, 3) := by decide +kernel
theorem dX11_distance_35 : decode cX11_distance 35 = .ok (.invokestatic 229, 3) := by decide +kernel
theorem dX11_distance_38 : decode cX11_distance 38 = .ok (.ireturn, 1) := by decide +kernel
theorem dX11_layHelps_0 : decode cX11_layHelps 0 = .ok (.aload_n 0, 1) := by decide +kernel
theorem dX11_layHelps_1 : decode cX11_layHelps 1 = .ok (.aload_n 0, 1) := by decide +kernel
theorem dX11_layHelps_2 : decode cX11_layHelps 2 = .ok (.invokevirtual 226, 3) := by decide +kernel
theorem dX11_layHelps_5 : decode cX11_layHelps 5 = .ok (.putfield 232, 3) := by decide +kernel
theorem dX11_layHelps_8 : decode cX11_layHelps 8 = .ok (.iconst 0, 1) := by decide +kernel
theorem dX11_layHelps_9 : decode cX11_layHelps 9 = .ok (.istore_n 1, 1) := by decide +kernel
theorem dX11_layHelps_10 : decode cX11_layHelps 10 = .ok (.iload_n 1, 1) := by decide +kernel
theorem dX11_layHelps_11 : decode cX11_layHelps 11 = .ok (.bipush 34, 2) := by decide +kernel
theorem dX11_layHelps_13 : decode cX11_layHelps 13 = .ok (.if_icmp .ge 69, 3) := by decide +kernel
theorem dX11_layHelps_16 : decode cX11_layHelps 16 = .ok (.aload_n 0, 1) := by decide +kernel
theorem dX11_layHelps_17 : decode cX11_layHelps 17 = .ok (.getfield 77, 3) := by decide +kernel
theorem dX11_layHelps_20 : decode cX11_layHelps 20 = .ok (.iload_n 1, 1) := by decide +kernel
theorem dX11_layHelps_21 : decode cX11_layHelps 21 = .ok (.iconst 0, 1) := by decide +kernel
theorem dX11_layHelps_22 : decode cX11_layHelps 22 = .ok (.bastore, 1) := by decide +kernel
theorem dX11_layHelps_23 : decode cX11_layHelps 23 = .ok (.aload_n 0, 1) := by decide +kernel
theorem dX11_layHelps_24 : decode cX11_layHelps 24 = .ok (.getfield 56, 3) := by decide +kernel
theorem dX11_layHelps_27 : decode cX11_layHelps 27 = .ok (.iload_n 1, 1) := by decide +kernel
theorem dX11_layHelps_28 : decode cX11_layHelps 28 = .ok (.iaload, 1) := by decide +kernel
theorem dX11_layHelps_29 : decode cX11_layHelps 29 = .ok (.aload_n 0, 1) := by decide +kernel
theorem dX11_layHelps_30 : decode cX11_layHelps 30 = .ok (.getfield 59, 3) := by decide +kernel
theorem dX11_layHelps_33 : decode cX11_layHelps 33 = .ok (.iload_n 1, 1) := by decide +kernel
theorem dX11_layHelps_34 : decode cX11_layHelps 34 = .ok (.iaload, 1) := by decide +kernel
theorem dX11_layHelps_35 : decode cX11_layHelps 35 = .ok (.iadd, 1) := by decide +kernel
theorem dX11_layHelps_36 : decode cX11_layHelps 36 = .ok (.iconst 4, 1) := by decide +kernel
theorem dX11_layHelps_37 : decode cX11_layHelps 37 = .ok (.if_icmp .ge 39, 3) := by decide +kernel
theorem dX11_layHelps_40 : decode cX11_layHelps 40 = .ok (.aload_n 0, 1) := by decide +kernel
theorem dX11_layHelps_41 : decode cX11_layHelps 41 = .ok (.iload_n 1, 1) := by decide +kernel
theorem dX11_layHelps_42 : decode cX11_layHelps 42 = .ok (.iconst 1, 1) := by decide +kernel
theorem dX11_layHelps_43 : decode cX11_layHelps 43 = .ok (.invokevirtual 235, 3) := by decide +kernel
theorem dX11_layHelps_46 : decode cX11_layHelps 46 = .ok (.aload_n 0, 1) := by decide +kernel
theorem dX11_layHelps_47 : decode cX11_layHelps 47 = .ok (.getfield 77, 3) := by decide +kernel
theorem dX11_layHelps_50 : decode cX11_layHelps 50 = .ok (.iload_n 1, 1) := by decide +kernel
theorem dX11_layHelps_51 : decode cX11_layHelps 51 = .ok (.aload_n 0, 1) := by decide +kernel
theorem dX11_layHelps_52 : decode cX11_layHelps 52 = .ok (.invokevirtual 226, 3) := by decide +kernel
theorem dX11_layHelps_55 : decode cX11_layHelps 55 = .ok (.aload_n 0, 1) := by decide +kernel
theorem dX11_layHelps_56 : decode cX11_layHelps 56 = .ok (.getfield 232, 3) := by decide +kernel
theorem dX11_layHelps_59 : decode cX11_layHelps 59 = .ok (.iconst 1, 1) := by decide +kernel
theorem dX11_layHelps_60 : decode cX11_layHelps 60 = .ok (.isub, 1) := by decide +kernel
theorem dX11_layHelps_61 : decode cX11_layHelps 61 = .ok (.if_icmp .ne 7, 3) := by decide +kernel
theorem dX11_layHelps_64 : decode cX11_layHelps 64 = .ok (.iconst 1, 1) := by decide +kernel
theorem dX11_layHelps_65 : decode cX11_layHelps 65 = .ok (.goto 4, 3) := by decide +kernel
theorem dX11_layHelps_68 : decode cX11_layHelps 68 = .ok (.iconst 0, 1) := by decide +kernel
theorem dX11_layHelps_69 : decode cX11_layHelps 69 = .ok (.bastore, 1) := by decide +kernel
theorem dX11_layHelps_70 : decode cX11_layHelps 70 = .ok (.aload_n 0, 1) := by decide +kernel
theorem dX11_layHelps_71 : decode cX11_layHelps 71 = .ok (.iload_n 1, 1) := by decide +kernel
theorem dX11_layHelps_72 : decode cX11_layHelps 72 = .ok (.iconst (-1), 1) := by decide +kernel
theorem dX11_layHelps_73 : decode cX11_layHelps 73 = .ok (.invokevirtual 235, 3) := by decide +kernel
theorem dX11_layHelps_76 : decode cX11_layHelps 76 = .ok (.iinc 1 1, 3) := by decide +kernel
theorem dX11_layHelps_79 : decode cX11_layHelps 79 = .ok (.goto (-69), 3) := by decide +kernel
theorem dX11_layHelps_82 : decode cX11_layHelps 82 = .ok (.return_, 1) := by decide +kernel
theorem dX11_helpAt_0 : decode cX11_helpAt 0 = .ok (.iload_n 1, 1) := by decide +kernel
theorem dX11_helpAt_1 : decode cX11_helpAt 1 = .ok (.istore_n 2, 1) := by decide +kernel
theorem dX11_helpAt_2 : decode cX11_helpAt 2 = .ok (.iconst 0, 1) := by decide +kernel
theorem dX11_helpAt_3 : decode cX11_helpAt 3 = .ok (.istore_n 3, 1) := by decide +kernel
theorem dX11_helpAt_4 : decode cX11_helpAt 4 = .ok (.iload_n 3, 1) := by decide +kernel
theorem dX11_helpAt_5 : decode cX11_helpAt 5 = .ok (.bipush 34, 2) := by decide +kernel
theorem dX11_helpAt_7 : decode cX11_helpAt 7 = .ok (.if_icmp .ge 27, 3) := by decide +kernel
theorem dX11_helpAt_10 : decode cX11_helpAt 10 = .ok (.aload_n 0, 1) := by decide +kernel
theorem dX11_helpAt_11 : decode cX11_helpAt 11 = .ok (.getfield 77, 3) := by decide +kernel
theorem dX11_helpAt_14 : decode cX11_helpAt 14 = .ok (.iload_n 3, 1) := by decide +kernel
theorem dX11_helpAt_15 : decode cX11_helpAt 15 = .ok (.baload, 1) := by decide +kernel
theorem dX11_helpAt_16 : decode cX11_helpAt 16 = .ok (.ifCond .eq 12, 3) := by decide +kernel
theorem dX11_helpAt_19 : decode cX11_helpAt 19 = .ok (.iload_n 2, 1) := by decide +kernel
theorem dX11_helpAt_20 : decode cX11_helpAt 20 = .ok (.ifCond .ne 5, 3) := by decide +kernel
theorem dX11_helpAt_23 : decode cX11_helpAt 23 = .ok (.iload_n 3, 1) := by decide +kernel
theorem dX11_helpAt_24 : decode cX11_helpAt 24 = .ok (.ireturn, 1) := by decide +kernel
theorem dX11_helpAt_25 : decode cX11_helpAt 25 = .ok (.iinc 2 (-1), 3) := by decide +kernel
theorem dX11_helpAt_28 : decode cX11_helpAt 28 = .ok (.iinc 3 1, 3) := by decide +kernel
theorem dX11_helpAt_31 : decode cX11_helpAt 31 = .ok (.goto (-27), 3) := by decide +kernel
theorem dX11_helpAt_34 : decode cX11_helpAt 34 = .ok (.bipush (-3), 2) := by decide +kernel
theorem dX11_helpAt_36 : decode cX11_helpAt 36 = .ok (.ireturn, 1) := by decide +kernel
theorem dX11_helped_0 : decode cX11_helped 0 = .ok (.iload_n 1, 1) := by decide +kernel
theorem dX11_helped_1 : decode cX11_helped 1 = .ok (.invokestatic 114, 3) := by decide +kernel
theorem dX11_helped_4 : decode cX11_helped 4 = .ok (.ifCond .eq 7, 3) := by decide +kernel
theorem dX11_helped_7 : decode cX11_helped 7 = .ok (.iload_n 2, 1) := by decide +kernel
theorem dX11_helped_8 : decode cX11_helped 8 = .ok (.ifCond .ge 5, 3) := by decide +kernel
theorem dX11_helped_11 : decode cX11_helped 11 = .ok (.iconst (-1), 1) := by decide +kernel
theorem dX11_helped_12 : decode cX11_helped 12 = .ok (.ireturn, 1) := by decide +kernel
theorem dX11_helped_13 : decode cX11_helped 13 = .ok (.aload_n 0, 1) := by decide +kernel
theorem dX11_helped_14 : decode cX11_helped 14 = .ok (.iload_n 1, 1) := by decide +kernel
theorem dX11_helped_15 : decode cX11_helped 15 = .ok (.invokevirtual 117, 3) := by decide +kernel
theorem dX11_helped_18 : decode cX11_helped 18 = .ok (.bipush 13, 2) := by decide +kernel
theorem dX11_helped_20 : decode cX11_helped 20 = .ok (.if_icmp .eq 6, 3) := by decide +kernel
theorem dX11_helped_23 : decode cX11_helped 23 = .ok (.bipush (-2), 2) := by decide +kernel
theorem dX11_helped_25 : decode cX11_helped 25 = .ok (.ireturn, 1) := by decide +kernel
theorem dX11_helped_26 : decode cX11_helped 26 = .ok (.aload_n 0, 1) := by decide +kernel
theorem dX11_helped_27 : decode cX11_helped 27 = .ok (.iload_n 1, 1) := by decide +kernel
theorem dX11_helped_28 : decode cX11_helped 28 = .ok (.invokevirtual 188, 3) := by decide +kernel
theorem dX11_helped_31 : decode cX11_helped 31 = .ok (.aload_n 0, 1) := by decide +kernel
theorem dX11_helped_32 : decode cX11_helped 32 = .ok (.invokevirtual 223, 3) := by decide +kernel
theorem dX11_helped_35 : decode cX11_helped 35 = .ok (.aload_n 0, 1) := by decide +kernel
theorem dX11_helped_36 : decode cX11_helped 36 = .ok (.invokevirtual 238, 3) := by decide +kernel
theorem dX11_helped_39 : decode cX11_helped 39 = .ok (.iload_n 3, 1) := by decide +kernel
theorem dX11_helped_40 : decode cX11_helped 40 = .ok (.ifCond .eq 16, 3) := by decide +kernel
theorem dX11_helped_43 : decode cX11_helped 43 = .ok (.aload_n 0, 1) := by decide +kernel
theorem dX11_helped_44 : decode cX11_helped 44 = .ok (.getfield 232, 3) := by decide +kernel
theorem dX11_helped_47 : decode cX11_helped 47 = .ok (.iconst 1, 1) := by decide +kernel
theorem dX11_helped_48 : decode cX11_helped 48 = .ok (.if_icmp .eq 8, 3) := by decide +kernel
theorem dX11_helped_51 : decode cX11_helped 51 = .ok (.bipush (-3), 2) := by decide +kernel
theorem dX11_helped_53 : decode cX11_helped 53 = .ok (.goto 8, 3) := by decide +kernel
theorem dX11_helped_56 : decode cX11_helped 56 = .ok (.aload_n 0, 1) := by decide +kernel
theorem dX11_helped_57 : decode cX11_helped 57 = .ok (.iload_n 2, 1) := by decide +kernel
theorem dX11_helped_58 : decode cX11_helped 58 = .ok (.invokevirtual 241, 3) := by decide +kernel
theorem dX11_helped_61 : decode cX11_helped 61 = .ok (.ireturn, 1) := by decide +kernel
theorem dX11_waits_0 : decode cX11_waits 0 = .ok (.aload_n 0, 1) := by decide +kernel
theorem dX11_waits_1 : decode cX11_waits 1 = .ok (.iload_n 1, 1) := by decide +kernel
theorem dX11_waits_2 : decode cX11_waits 2 = .ok (.iload_n 2, 1) := by decide +kernel
theorem dX11_waits_3 : decode cX11_waits 3 = .ok (.iconst 1, 1) := by decide +kernel
theorem dX11_waits_4 : decode cX11_waits 4 = .ok (.invokevirtual 244, 3) := by decide +kernel
theorem dX11_waits_7 : decode cX11_waits 7 = .ok (.ireturn, 1) := by decide +kernel
theorem dX11_helps_0 : decode cX11_helps 0 = .ok (.aload_n 0, 1) := by decide +kernel
theorem dX11_helps_1 : decode cX11_helps 1 = .ok (.iload_n 1, 1) := by decide +kernel
theorem dX11_helps_2 : decode cX11_helps 2 = .ok (.iload_n 2, 1) := by decide +kernel
theorem dX11_helps_3 : decode cX11_helps 3 = .ok (.iconst 0, 1) := by decide +kernel
theorem dX11_helps_4 : decode cX11_helps 4 = .ok (.invokevirtual 244, 3) := by decide +kernel
theorem dX11_helps_7 : decode cX11_helps 7 = .ok (.ireturn, 1) := by decide +kernel
theorem dX11_layUnseen_0 : decode cX11_layUnseen 0 = .ok (.iconst 0, 1) := by decide +kernel
theorem dX11_layUnseen_1 : decode cX11_layUnseen 1 = .ok (.istore_n 2, 1) := by decide +kernel
theorem dX11_layUnseen_2 : decode cX11_layUnseen 2 = .ok (.iconst 0, 1) := by decide +kernel
theorem dX11_layUnseen_3 : decode cX11_layUnseen 3 = .ok (.istore_n 3, 1) := by decide +kernel
theorem dX11_layUnseen_4 : decode cX11_layUnseen 4 = .ok (.iload_n 3, 1) := by decide +kernel
theorem dX11_layUnseen_5 : decode cX11_layUnseen 5 = .ok (.bipush 34, 2) := by decide +kernel
theorem dX11_layUnseen_7 : decode cX11_layUnseen 7 = .ok (.if_icmp .ge 80, 3) := by decide +kernel
theorem dX11_layUnseen_10 : decode cX11_layUnseen 10 = .ok (.aload_n 0, 1) := by decide +kernel
theorem dX11_layUnseen_11 : decode cX11_layUnseen 11 = .ok (.getfield 81, 3) := by decide +kernel
theorem dX11_layUnseen_14 : decode cX11_layUnseen 14 = .ok (.iload_n 3, 1) := by decide +kernel
theorem dX11_layUnseen_15 : decode cX11_layUnseen 15 = .ok (.iconst 4, 1) := by decide +kernel
theorem dX11_layUnseen_16 : decode cX11_layUnseen 16 = .ok (.aload_n 0, 1) := by decide +kernel
theorem dX11_layUnseen_17 : decode cX11_layUnseen 17 = .ok (.getfield 16, 3) := by decide +kernel
theorem dX11_layUnseen_20 : decode cX11_layUnseen 20 = .ok (.bipush 34, 2) := by decide +kernel
theorem dX11_layUnseen_22 : decode cX11_layUnseen 22 = .ok (.iload_n 1, 1) := by decide +kernel
theorem dX11_layUnseen_23 : decode cX11_layUnseen 23 = .ok (.imul, 1) := by decide +kernel
theorem dX11_layUnseen_24 : decode cX11_layUnseen 24 = .ok (.iload_n 3, 1) := by decide +kernel
theorem dX11_layUnseen_25 : decode cX11_layUnseen 25 = .ok (.iadd, 1) := by decide +kernel
theorem dX11_layUnseen_26 : decode cX11_layUnseen 26 = .ok (.iaload, 1) := by decide +kernel
theorem dX11_layUnseen_27 : decode cX11_layUnseen 27 = .ok (.isub, 1) := by decide +kernel
theorem dX11_layUnseen_28 : decode cX11_layUnseen 28 = .ok (.aload_n 0, 1) := by decide +kernel
theorem dX11_layUnseen_29 : decode cX11_layUnseen 29 = .ok (.getfield 13, 3) := by decide +kernel
theorem dX11_layUnseen_32 : decode cX11_layUnseen 32 = .ok (.iload_n 3, 1) := by decide +kernel
theorem dX11_layUnseen_33 : decode cX11_layUnseen 33 = .ok (.iaload, 1) := by decide +kernel
theorem dX11_layUnseen_34 : decode cX11_layUnseen 34 = .ok (.isub, 1) := by decide +kernel
theorem dX11_layUnseen_35 : decode cX11_layUnseen 35 = .ok (.iastore, 1) := by decide +kernel
theorem dX11_layUnseen_36 : decode cX11_layUnseen 36 = .ok (.iconst 0, 1) := by decide +kernel
theorem dX11_layUnseen_37 : decode cX11_layUnseen 37 = .ok (.istore 4, 2) := by decide +kernel
theorem dX11_layUnseen_39 : decode cX11_layUnseen 39 = .ok (.iload 4, 2) := by decide +kernel
theorem dX11_layUnseen_41 : decode cX11_layUnseen 41 = .ok (.iconst 4, 1) := by decide +kernel
theorem dX11_layUnseen_42 : decode cX11_layUnseen 42 = .ok (.if_icmp .ge 30, 3) := by decide +kernel
theorem dX11_layUnseen_45 : decode cX11_layUnseen 45 = .ok (.aload_n 0, 1) := by decide +kernel
theorem dX11_layUnseen_46 : decode cX11_layUnseen 46 = .ok (.getfield 81, 3) := by decide +kernel
theorem dX11_layUnseen_49 : decode cX11_layUnseen 49 = .ok (.iload_n 3, 1) := by decide +kernel
theorem dX11_layUnseen_50 : decode cX11_layUnseen 50 = .ok (.dup2, 1) := by decide +kernel
theorem dX11_layUnseen_51 : decode cX11_layUnseen 51 = .ok (.iaload, 1) := by decide +kernel
theorem dX11_layUnseen_52 : decode cX11_layUnseen 52 = .ok (.aload_n 0, 1) := by decide +kernel
theorem dX11_layUnseen_53 : decode cX11_layUnseen 53 = .ok (.getfield 19, 3) := by decide +kernel
theorem dX11_layUnseen_56 : decode cX11_layUnseen 56 = .ok (.bipush 34, 2) := by decide +kernel
theorem dX11_layUnseen_58 : decode cX11_layUnseen 58 = .ok (.iload 4, 2) := by decide +kernel
theorem dX11_layUnseen_60 : decode cX11_layUnseen 60 = .ok (.imul, 1) := by decide +kernel
theorem dX11_layUnseen_61 : decode cX11_layUnseen 61 = .ok (.iload_n 3, 1) := by decide +kernel
theorem dX11_layUnseen_62 : decode cX11_layUnseen 62 = .ok (.iadd, 1) := by decide +kernel
theorem dX11_layUnseen_63 : decode cX11_layUnseen 63 = .ok (.iaload, 1) := by decide +kernel
theorem dX11_layUnseen_64 : decode cX11_layUnseen 64 = .ok (.isub, 1) := by decide +kernel
theorem dX11_layUnseen_65 : decode cX11_layUnseen 65 = .ok (.iastore, 1) := by decide +kernel
theorem dX11_layUnseen_66 : decode cX11_layUnseen 66 = .ok (.iinc 4 1, 3) := by decide +kernel
theorem dX11_layUnseen_69 : decode cX11_layUnseen 69 = .ok (.goto (-30), 3) := by decide +kernel
theorem dX11_layUnseen_72 : decode cX11_layUnseen 72 = .ok (.iload_n 2, 1) := by decide +kernel
theorem dX11_layUnseen_73 : decode cX11_layUnseen 73 = .ok (.aload_n 0, 1) := by decide +kernel
theorem dX11_layUnseen_74 : decode cX11_layUnseen 74 = .ok (.getfield 81, 3) := by decide +kernel
theorem dX11_layUnseen_77 : decode cX11_layUnseen 77 = .ok (.iload_n 3, 1) := by decide +kernel
theorem dX11_layUnseen_78 : decode cX11_layUnseen 78 = .ok (.iaload, 1) := by decide +kernel
theorem dX11_layUnseen_79 : decode cX11_layUnseen 79 = .ok (.iadd, 1) := by decide +kernel
theorem dX11_layUnseen_80 : decode cX11_layUnseen 80 = .ok (.istore_n 2, 1) := by decide +kernel
theorem dX11_layUnseen_81 : decode cX11_layUnseen 81 = .ok (.iinc 3 1, 3) := by decide +kernel
theorem dX11_layUnseen_84 : decode cX11_layUnseen 84 = .ok (.goto (-80), 3) := by decide +kernel
theorem dX11_layUnseen_87 : decode cX11_layUnseen 87 = .ok (.iload_n 2, 1) := by decide +kernel
theorem dX11_layUnseen_88 : decode cX11_layUnseen 88 = .ok (.ireturn, 1) := by decide +kernel
theorem dX11_against_0 : decode cX11_against 0 = .ok (.iload_n 1, 1) := by decide +kernel
theorem dX11_against_1 : decode cX11_against 1 = .ok (.invokestatic 114, 3) := by decide +kernel
theorem dX11_against_4 : decode cX11_against 4 = .ok (.ifCond .eq 10, 3) := by decide +kernel
theorem dX11_against_7 : decode cX11_against 7 = .ok (.iload_n 2, 1) := by decide +kernel
theorem dX11_against_8 : decode cX11_against 8 = .ok (.invokestatic 120, 3) := by decide +kernel
theorem dX11_against_11 : decode cX11_against 11 = .ok (.ifCond .ne 5, 3) := by decide +kernel
theorem dX11_against_14 : decode cX11_against 14 = .ok (.iconst (-1), 1) := by decide +kernel
theorem dX11_against_15 : decode cX11_against 15 = .ok (.ireturn, 1) := by decide +kernel
theorem dX11_against_16 : decode cX11_against 16 = .ok (.aload_n 0, 1) := by decide +kernel
theorem dX11_against_17 : decode cX11_against 17 = .ok (.iload_n 1, 1) := by decide +kernel
theorem dX11_against_18 : decode cX11_against 18 = .ok (.invokevirtual 185, 3) := by decide +kernel
theorem dX11_against_21 : decode cX11_against 21 = .ok (.ifCond .eq 17, 3) := by decide +kernel
theorem dX11_against_24 : decode cX11_against 24 = .ok (.aload_n 0, 1) := by decide +kernel
theorem dX11_against_25 : decode cX11_against 25 = .ok (.getfield 16, 3) := by decide +kernel
theorem dX11_against_28 : decode cX11_against 28 = .ok (.bipush 34, 2) := by decide +kernel
theorem dX11_against_30 : decode cX11_against 30 = .ok (.iload_n 1, 1) := by decide +kernel
theorem dX11_against_31 : decode cX11_against 31 = .ok (.imul, 1) := by decide +kernel
theorem dX11_against_32 : decode cX11_against 32 = .ok (.iload_n 2, 1) := by decide +kernel
theorem dX11_against_33 : decode cX11_against 33 = .ok (.iadd, 1) := by decide +kernel
theorem dX11_against_34 : decode cX11_against 34 = .ok (.iaload, 1) := by decide +kernel
theorem dX11_against_35 : decode cX11_against 35 = .ok (.ifCond .ne 8, 3) := by decide +kernel
theorem dX11_against_38 : decode cX11_against 38 = .ok (.bipush (-2), 2) := by decide +kernel
theorem dX11_against_40 : decode cX11_against 40 = .ok (.goto 4, 3) := by decide +kernel
theorem dX11_against_43 : decode cX11_against 43 = .ok (.iconst 0, 1) := by decide +kernel
theorem dX11_against_44 : decode cX11_against 44 = .ok (.ireturn, 1) := by decide +kernel
theorem dX11_without_0 : decode cX11_without 0 = .ok (.aload_n 0, 1) := by decide +kernel
theorem dX11_without_1 : decode cX11_without 1 = .ok (.iload_n 1, 1) := by decide +kernel
theorem dX11_without_2 : decode cX11_without 2 = .ok (.iload_n 2, 1) := by decide +kernel
theorem dX11_without_3 : decode cX11_without 3 = .ok (.invokevirtual 248, 3) := by decide +kernel
theorem dX11_without_6 : decode cX11_without 6 = .ok (.istore_n 3, 1) := by decide +kernel
theorem dX11_without_7 : decode cX11_without 7 = .ok (.iload_n 3, 1) := by decide +kernel
theorem dX11_without_8 : decode cX11_without 8 = .ok (.ifCond .eq 5, 3) := by decide +kernel
theorem dX11_without_11 : decode cX11_without 11 = .ok (.iload_n 3, 1) := by decide +kernel
theorem dX11_without_12 : decode cX11_without 12 = .ok (.ireturn, 1) := by decide +kernel
theorem dX11_without_13 : decode cX11_without 13 = .ok (.aload_n 0, 1) := by decide +kernel
theorem dX11_without_14 : decode cX11_without 14 = .ok (.iload_n 1, 1) := by decide +kernel
theorem dX11_without_15 : decode cX11_without 15 = .ok (.invokevirtual 188, 3) := by decide +kernel
theorem dX11_without_18 : decode cX11_without 18 = .ok (.aload_n 0, 1) := by decide +kernel
theorem dX11_without_19 : decode cX11_without 19 = .ok (.invokevirtual 223, 3) := by decide +kernel
theorem dX11_without_22 : decode cX11_without 22 = .ok (.aload_n 0, 1) := by decide +kernel
theorem dX11_without_23 : decode cX11_without 23 = .ok (.iload_n 2, 1) := by decide +kernel
theorem dX11_without_24 : decode cX11_without 24 = .ok (.iconst (-1), 1) := by decide +kernel
theorem dX11_without_25 : decode cX11_without 25 = .ok (.invokevirtual 235, 3) := by decide +kernel
theorem dX11_without_28 : decode cX11_without 28 = .ok (.aload_n 0, 1) := by decide +kernel
theorem dX11_without_29 : decode cX11_without 29 = .ok (.invokevirtual 226, 3) := by decide +kernel
theorem dX11_without_32 : decode cX11_without 32 = .ok (.invokestatic 229, 3) := by decide +kernel
theorem dX11_without_35 : decode cX11_without 35 = .ok (.ireturn, 1) := by decide +kernel
theorem dX11_helping_0 : decode cX11_helping 0 = .ok (.aload_n 0, 1) := by decide +kernel
theorem dX11_helping_1 : decode cX11_helping 1 = .ok (.invokevirtual 238, 3) := by decide +kernel
theorem dX11_helping_4 : decode cX11_helping 4 = .ok (.iconst 0, 1) := by decide +kernel
theorem dX11_helping_5 : decode cX11_helping 5 = .ok (.istore_n 1, 1) := by decide +kernel
theorem dX11_helping_6 : decode cX11_helping 6 = .ok (.iconst 0, 1) := by decide +kernel
theorem dX11_helping_7 : decode cX11_helping 7 = .ok (.istore_n 2, 1) := by decide +kernel
theorem dX11_helping_8 : decode cX11_helping 8 = .ok (.iload_n 2, 1) := by decide +kernel
theorem dX11_helping_9 : decode cX11_helping 9 = .ok (.bipush 34, 2) := by decide +kernel
theorem dX11_helping_11 : decode cX11_helping 11 = .ok (.if_icmp .ge 31, 3) := by decide +kernel
theorem dX11_helping_14 : decode cX11_helping 14 = .ok (.iload_n 1, 1) := by decide +kernel
theorem dX11_helping_15 : decode cX11_helping 15 = .ok (.aload_n 0, 1) := by decide +kernel
theorem dX11_helping_16 : decode cX11_helping 16 = .ok (.getfield 77, 3) := by decide +kernel
theorem dX11_helping_19 : decode cX11_helping 19 = .ok (.iload_n 2, 1) := by decide +kernel
theorem dX11_helping_20 : decode cX11_helping 20 = .ok (.baload, 1) := by decide +kernel
theorem dX11_helping_21 : decode cX11_helping 21 = .ok (.ifCond .eq 12, 3) := by decide +kernel
theorem dX11_helping_24 : decode cX11_helping 24 = .ok (.aload_n 0, 1) := by decide +kernel
theorem dX11_helping_25 : decode cX11_helping 25 = .ok (.getfield 81, 3) := by decide +kernel
theorem dX11_helping_28 : decode cX11_helping 28 = .ok (.iload_n 2, 1) := by decide +kernel
theorem dX11_helping_29 : decode cX11_helping 29 = .ok (.iaload, 1) := by decide +kernel
theorem dX11_helping_30 : decode cX11_helping 30 = .ok (.goto 4, 3) := by decide +kernel
theorem dX11_helping_33 : decode cX11_helping 33 = .ok (.iconst 0, 1) := by decide +kernel
theorem dX11_helping_34 : decode cX11_helping 34 = .ok (.iadd, 1) := by decide +kernel
theorem dX11_helping_35 : decode cX11_helping 35 = .ok (.istore_n 1, 1) := by decide +kernel
theorem dX11_helping_36 : decode cX11_helping 36 = .ok (.iinc 2 1, 3) := by decide +kernel
theorem dX11_helping_39 : decode cX11_helping 39 = .ok (.goto (-31), 3) := by decide +kernel
theorem dX11_helping_42 : decode cX11_helping 42 = .ok (.iload_n 1, 1) := by decide +kernel
theorem dX11_helping_43 : decode cX11_helping 43 = .ok (.ireturn, 1) := by decide +kernel
theorem dX11_more_0 : decode cX11_more 0 = .ok (.aload_n 0, 1) := by decide +kernel
theorem dX11_more_1 : decode cX11_more 1 = .ok (.iload_n 1, 1) := by decide +kernel
theorem dX11_more_2 : decode cX11_more 2 = .ok (.iload_n 2, 1) := by decide +kernel
theorem dX11_more_3 : decode cX11_more 3 = .ok (.invokevirtual 248, 3) := by decide +kernel
theorem dX11_more_6 : decode cX11_more 6 = .ok (.istore_n 3, 1) := by decide +kernel
theorem dX11_more_7 : decode cX11_more 7 = .ok (.iload_n 3, 1) := by decide +kernel
theorem dX11_more_8 : decode cX11_more 8 = .ok (.ifCond .eq 5, 3) := by decide +kernel
theorem dX11_more_11 : decode cX11_more 11 = .ok (.iload_n 3, 1) := by decide +kernel
theorem dX11_more_12 : decode cX11_more 12 = .ok (.ireturn, 1) := by decide +kernel
theorem dX11_more_13 : decode cX11_more 13 = .ok (.aload_n 0, 1) := by decide +kernel
theorem dX11_more_14 : decode cX11_more 14 = .ok (.iload_n 1, 1) := by decide +kernel
theorem dX11_more_15 : decode cX11_more 15 = .ok (.invokevirtual 251, 3) := by decide +kernel
theorem dX11_more_18 : decode cX11_more 18 = .ok (.istore 4, 2) := by decide +kernel
theorem dX11_more_20 : decode cX11_more 20 = .ok (.aload_n 0, 1) := by decide +kernel
theorem dX11_more_21 : decode cX11_more 21 = .ok (.iload_n 1, 1) := by decide +kernel
theorem dX11_more_22 : decode cX11_more 22 = .ok (.invokevirtual 188, 3) := by decide +kernel
theorem dX11_more_25 : decode cX11_more 25 = .ok (.aload_n 0, 1) := by decide +kernel
theorem dX11_more_26 : decode cX11_more 26 = .ok (.invokevirtual 223, 3) := by decide +kernel
theorem dX11_more_29 : decode cX11_more 29 = .ok (.aload_n 0, 1) := by decide +kernel
theorem dX11_more_30 : decode cX11_more 30 = .ok (.iload_n 2, 1) := by decide +kernel
theorem dX11_more_31 : decode cX11_more 31 = .ok (.iconst (-1), 1) := by decide +kernel
theorem dX11_more_32 : decode cX11_more 32 = .ok (.invokevirtual 235, 3) := by decide +kernel
theorem dX11_more_35 : decode cX11_more 35 = .ok (.aload_n 0, 1) := by decide +kernel
theorem dX11_more_36 : decode cX11_more 36 = .ok (.invokevirtual 254, 3) := by decide +kernel
theorem dX11_more_39 : decode cX11_more 39 = .ok (.ireturn, 1) := by decide +kernel
theorem dX11_best_0 : decode cX11_best 0 = .ok (.iload_n 1, 1) := by decide +kernel
theorem dX11_best_1 : decode cX11_best 1 = .ok (.invokestatic 114, 3) := by decide +kernel
theorem dX11_best_4 : decode cX11_best 4 = .ok (.ifCond .ne 5, 3) := by decide +kernel
theorem dX11_best_7 : decode cX11_best 7 = .ok (.iconst (-1), 1) := by decide +kernel
theorem dX11_best_8 : decode cX11_best 8 = .ok (.ireturn, 1) := by decide +kernel
theorem dX11_best_9 : decode cX11_best 9 = .ok (.aload_n 0, 1) := by decide +kernel
theorem dX11_best_10 : decode cX11_best 10 = .ok (.iload_n 1, 1) := by decide +kernel
theorem dX11_best_11 : decode cX11_best 11 = .ok (.invokevirtual 185, 3) := by decide +kernel
theorem dX11_best_14 : decode cX11_best 14 = .ok (.ifCond .ne 6, 3) := by decide +kernel
theorem dX11_best_17 : decode cX11_best 17 = .ok (.bipush (-2), 2) := by decide +kernel
theorem dX11_best_19 : decode cX11_best 19 = .ok (.ireturn, 1) := by decide +kernel
theorem dX11_best_20 : decode cX11_best 20 = .ok (.aload_n 0, 1) := by decide +kernel
theorem dX11_best_21 : decode cX11_best 21 = .ok (.iload_n 1, 1) := by decide +kernel
theorem dX11_best_22 : decode cX11_best 22 = .ok (.invokevirtual 251, 3) := by decide +kernel
theorem dX11_best_25 : decode cX11_best 25 = .ok (.istore_n 2, 1) := by decide +kernel
theorem dX11_best_26 : decode cX11_best 26 = .ok (.aload_n 0, 1) := by decide +kernel
theorem dX11_best_27 : decode cX11_best 27 = .ok (.iload_n 1, 1) := by decide +kernel
theorem dX11_best_28 : decode cX11_best 28 = .ok (.invokevirtual 188, 3) := by decide +kernel
theorem dX11_best_31 : decode cX11_best 31 = .ok (.aload_n 0, 1) := by decide +kernel
theorem dX11_best_32 : decode cX11_best 32 = .ok (.invokevirtual 223, 3) := by decide +kernel
theorem dX11_best_35 : decode cX11_best 35 = .ok (.bipush (-3), 2) := by decide +kernel
theorem dX11_best_37 : decode cX11_best 37 = .ok (.istore_n 3, 1) := by decide +kernel
theorem dX11_best_38 : decode cX11_best 38 = .ok (.bipush 99, 2) := by decide +kernel
theorem dX11_best_40 : decode cX11_best 40 = .ok (.istore 4, 2) := by decide +kernel
theorem dX11_best_42 : decode cX11_best 42 = .ok (.iconst (-1), 1) := by decide +kernel
theorem dX11_best_43 : decode cX11_best 43 = .ok (.istore 5, 2) := by decide +kernel
theorem dX11_best_45 : decode cX11_best 45 = .ok (.iconst 0, 1) := by decide +kernel
theorem dX11_best_46 : decode cX11_best 46 = .ok (.istore 6, 2) := by decide +kernel
theorem dX11_best_48 : decode cX11_best 48 = .ok (.iload 6, 2) := by decide +kernel
theorem dX11_best_50 : decode cX11_best 50 = .ok (.bipush 34, 2) := by decide +kernel
theorem dX11_best_52 : decode cX11_best 52 = .ok (.if_icmp .ge 80, 3) := by decide +kernel
theorem dX11_best_55 : decode cX11_best 55 = .ok (.aload_n 0, 1) := by decide +kernel
theorem dX11_best_56 : decode cX11_best 56 = .ok (.getfield 56, 3) := by decide +kernel
theorem dX11_best_59 : decode cX11_best 59 = .ok (.iload 6, 2) := by decide +kernel
theorem dX11_best_61 : decode cX11_best 61 = .ok (.iaload, 1) := by decide +kernel
theorem dX11_best_62 : decode cX11_best 62 = .ok (.ifCond .ne 6, 3) := by decide +kernel
theorem dX11_best_65 : decode cX11_best 65 = .ok (.goto 61, 3) := by decide +kernel
theorem dX11_best_68 : decode cX11_best 68 = .ok (.aload_n 0, 1) := by decide +kernel
theorem dX11_best_69 : decode cX11_best 69 = .ok (.iload 6, 2) := by decide +kernel
theorem dX11_best_71 : decode cX11_best 71 = .ok (.iconst (-1), 1) := by decide +kernel
theorem dX11_best_72 : decode cX11_best 72 = .ok (.invokevirtual 235, 3) := by decide +kernel
theorem dX11_best_75 : decode cX11_best 75 = .ok (.aload_n 0, 1) := by decide +kernel
theorem dX11_best_76 : decode cX11_best 76 = .ok (.invokevirtual 226, 3) := by decide +kernel
theorem dX11_best_79 : decode cX11_best 79 = .ok (.istore 7, 2) := by decide +kernel
theorem dX11_best_81 : decode cX11_best 81 = .ok (.iload 7, 2) := by decide +kernel
theorem dX11_best_83 : decode cX11_best 83 = .ok (.iload 4, 2) := by decide +kernel
theorem dX11_best_85 : decode cX11_best 85 = .ok (.if_icmp .gt 34, 3) := by decide +kernel
theorem dX11_best_88 : decode cX11_best 88 = .ok (.aload_n 0, 1) := by decide +kernel
theorem dX11_best_89 : decode cX11_best 89 = .ok (.invokevirtual 254, 3) := by decide +kernel
theorem dX11_best_92 : decode cX11_best 92 = .ok (.istore 8, 2) := by decide +kernel
theorem dX11_best_94 : decode cX11_best 94 = .ok (.iload 7, 2) := by decide +kernel
theorem dX11_best_96 : decode cX11_best 96 = .ok (.iload 4, 2) := by decide +kernel
theorem dX11_best_98 : decode cX11_best 98 = .ok (.if_icmp .lt 10, 3) := by decide +kernel
theorem dX11_best_101 : decode cX11_best 101 = .ok (.iload 8, 2) := by decide +kernel
theorem dX11_best_103 : decode cX11_best 103 = .ok (.iload 5, 2) := by decide +kernel
theorem dX11_best_105 : decode cX11_best 105 = .ok (.if_icmp .le 10, 3) := by decide +kernel
theorem dX11_best_108 : decode cX11_best 108 = .ok (.iload 6, 2) := by decide +kernel
theorem dX11_best_110 : decode cX11_best 110 = .ok (.istore_n 3, 1) := by decide +kernel
theorem dX11_best_111 : decode cX11_best 111 = .ok (.iload 8, 2) := by decide +kernel
theorem dX11_best_113 : decode cX11_best 113 = .ok (.istore 5, 2) := by decide +kernel
theorem dX11_best_115 : decode cX11_best 115 = .ok (.iload 7, 2) := by decide +kernel
theorem dX11_best_117 : decode cX11_best 117 = .ok (.istore 4, 2) := by decide +kernel
theorem dX11_best_119 : decode cX11_best 119 = .ok (.aload_n 0, 1) := by decide +kernel
theorem dX11_best_120 : decode cX11_best 120 = .ok (.iload 6, 2) := by decide +kernel
theorem dX11_best_122 : decode cX11_best 122 = .ok (.iconst 1, 1) := by decide +kernel
theorem dX11_best_123 : decode cX11_best 123 = .ok (.invokevirtual 235, 3) := by decide +kernel
theorem dX11_best_126 : decode cX11_best 126 = .ok (.iinc 6 1, 3) := by decide +kernel
theorem dX11_best_129 : decode cX11_best 129 = .ok (.goto (-81), 3) := by decide +kernel
theorem dX11_best_132 : decode cX11_best 132 = .ok (.iload_n 3, 1) := by decide +kernel
theorem dX11_best_133 : decode cX11_best 133 = .ok (.ireturn, 1) := by decide +kernel
theorem dX11_lack_0 : decode cX11_lack 0 = .ok (.iload_n 1, 1) := by decide +kernel
theorem dX11_lack_1 : decode cX11_lack 1 = .ok (.invokestatic 114, 3) := by decide +kernel
theorem dX11_lack_4 : decode cX11_lack 4 = .ok (.ifCond .eq 38, 3) := by decide +kernel
theorem dX11_lack_7 : decode cX11_lack 7 = .ok (.iload_n 2, 1) := by decide +kernel
theorem dX11_lack_8 : decode cX11_lack 8 = .ok (.i2l, 1) := by decide +kernel
theorem dX11_lack_9 : decode cX11_lack 9 = .ok (.lconst 0, 1) := by decide +kernel
theorem dX11_lack_10 : decode cX11_lack 10 = .ok (.ldc2_w 84, 3) := by decide +kernel
theorem dX11_lack_13 : decode cX11_lack 13 = .ok (.invokestatic 86, 3) := by decide +kernel
theorem dX11_lack_16 : decode cX11_lack 16 = .ok (.ifCond .eq 26, 3) := by decide +kernel
theorem dX11_lack_19 : decode cX11_lack 19 = .ok (.iload_n 3, 1) := by decide +kernel
theorem dX11_lack_20 : decode cX11_lack 20 = .ok (.i2l, 1) := by decide +kernel
theorem dX11_lack_21 : decode cX11_lack 21 = .ok (.lconst 0, 1) := by decide +kernel
theorem dX11_lack_22 : decode cX11_lack 22 = .ok (.ldc2_w 195, 3) := by decide +kernel
theorem dX11_lack_25 : decode cX11_lack 25 = .ok (.invokestatic 86, 3) := by decide +kernel
theorem dX11_lack_28 : decode cX11_lack 28 = .ok (.ifCond .eq 14, 3) := by decide +kernel
theorem dX11_lack_31 : decode cX11_lack 31 = .ok (.iload 4, 2) := by decide +kernel
theorem dX11_lack_33 : decode cX11_lack 33 = .ok (.i2l, 1) := by decide +kernel
theorem dX11_lack_34 : decode cX11_lack 34 = .ok (.lconst 0, 1) := by decide +kernel
theorem dX11_lack_35 : decode cX11_lack 35 = .ok (.lconst 1, 1) := by decide +kernel
theorem dX11_lack_36 : decode cX11_lack 36 = .ok (.invokestatic 86, 3) := by decide +kernel
theorem dX11_lack_39 : decode cX11_lack 39 = .ok (.ifCond .ne 5, 3) := by decide +kernel
theorem dX11_lack_42 : decode cX11_lack 42 = .ok (.iconst (-1), 1) := by decide +kernel
theorem dX11_lack_43 : decode cX11_lack 43 = .ok (.ireturn, 1) := by decide +kernel
theorem dX11_lack_44 : decode cX11_lack 44 = .ok (.aload_n 0, 1) := by decide +kernel
theorem dX11_lack_45 : decode cX11_lack 45 = .ok (.iload_n 1, 1) := by decide +kernel
theorem dX11_lack_46 : decode cX11_lack 46 = .ok (.invokevirtual 188, 3) := by decide +kernel
theorem dX11_lack_49 : decode cX11_lack 49 = .ok (.aload_n 0, 1) := by decide +kernel
theorem dX11_lack_50 : decode cX11_lack 50 = .ok (.iload_n 2, 1) := by decide +kernel
theorem dX11_lack_51 : decode cX11_lack 51 = .ok (.invokevirtual 211, 3) := by decide +kernel
theorem dX11_lack_54 : decode cX11_lack 54 = .ok (.aload_n 0, 1) := by decide +kernel
theorem dX11_lack_55 : decode cX11_lack 55 = .ok (.getfield 74, 3) := by decide +kernel
theorem dX11_lack_58 : decode cX11_lack 58 = .ok (.bipush 10, 2) := by decide +kernel
theorem dX11_lack_60 : decode cX11_lack 60 = .ok (.iload_n 2, 1) := by decide +kernel
theorem dX11_lack_61 : decode cX11_lack 61 = .ok (.imul, 1) := by decide +kernel
theorem dX11_lack_62 : decode cX11_lack 62 = .ok (.iconst 2, 1) := by decide +kernel
theorem dX11_lack_63 : decode cX11_lack 63 = .ok (.iload_n 3, 1) := by decide +kernel
theorem dX11_lack_64 : decode cX11_lack 64 = .ok (.imul, 1) := by decide +kernel
theorem dX11_lack_65 : decode cX11_lack 65 = .ok (.iadd, 1) := by decide +kernel
theorem dX11_lack_66 : decode cX11_lack 66 = .ok (.iload 4, 2) := by decide +kernel
theorem dX11_lack_68 : decode cX11_lack 68 = .ok (.iadd, 1) := by decide +kernel
theorem dX11_lack_69 : decode cX11_lack 69 = .ok (.iaload, 1) := by decide +kernel
theorem dX11_lack_70 : decode cX11_lack 70 = .ok (.istore 5, 2) := by decide +kernel
theorem dX11_lack_72 : decode cX11_lack 72 = .ok (.iload 5, 2) := by decide +kernel
theorem dX11_lack_74 : decode cX11_lack 74 = .ok (.bipush 99, 2) := by decide +kernel
theorem dX11_lack_76 : decode cX11_lack 76 = .ok (.if_icmp .ne 8, 3) := by decide +kernel
theorem dX11_lack_79 : decode cX11_lack 79 = .ok (.bipush (-3), 2) := by decide +kernel
theorem dX11_lack_81 : decode cX11_lack 81 = .ok (.goto 5, 3) := by decide +kernel
theorem dX11_lack_84 : decode cX11_lack 84 = .ok (.iload 5, 2) := by decide +kernel
theorem dX11_lack_86 : decode cX11_lack 86 = .ok (.ireturn, 1) := by decide +kernel
theorem dX11_making_0 : decode cX11_making 0 = .ok (.iconst 0, 1) := by decide +kernel
theorem dX11_making_1 : decode cX11_making 1 = .ok (.istore_n 1, 1) := by decide +kernel
theorem dX11_making_2 : decode cX11_making 2 = .ok (.iconst 0, 1) := by decide +kernel
theorem dX11_making_3 : decode cX11_making 3 = .ok (.istore_n 2, 1) := by decide +kernel
theorem dX11_making_4 : decode cX11_making 4 = .ok (.iload_n 2, 1) := by decide +kernel
theorem dX11_making_5 : decode cX11_making 5 = .ok (.bipush 34, 2) := by decide +kernel
theorem dX11_making_7 : decode cX11_making 7 = .ok (.if_icmp .ge 58, 3) := by decide +kernel
theorem dX11_making_10 : decode cX11_making 10 = .ok (.aload_n 0, 1) := by decide +kernel
theorem dX11_making_11 : decode cX11_making 11 = .ok (.getfield 81, 3) := by decide +kernel
theorem dX11_making_14 : decode cX11_making 14 = .ok (.iload_n 2, 1) := by decide +kernel
theorem dX11_making_15 : decode cX11_making 15 = .ok (.iaload, 1) := by decide +kernel
theorem dX11_making_16 : decode cX11_making 16 = .ok (.ifCond .le 43, 3) := by decide +kernel
theorem dX11_making_19 : decode cX11_making 19 = .ok (.aload_n 0, 1) := by decide +kernel
theorem dX11_making_20 : decode cX11_making 20 = .ok (.getfield 56, 3) := by decide +kernel
theorem dX11_making_23 : decode cX11_making 23 = .ok (.iload_n 2, 1) := by decide +kernel
theorem dX11_making_24 : decode cX11_making 24 = .ok (.dup2, 1) := by decide +kernel
theorem dX11_making_25 : decode cX11_making 25 = .ok (.iaload, 1) := by decide +kernel
theorem dX11_making_26 : decode cX11_making 26 = .ok (.iconst 1, 1) := by decide +kernel
theorem dX11_making_27 : decode cX11_making 27 = .ok (.iadd, 1) := by decide +kernel
theorem dX11_making_28 : decode cX11_making 28 = .ok (.iastore, 1) := by decide +kernel
theorem dX11_making_29 : decode cX11_making 29 = .ok (.iload_n 1, 1) := by decide +kernel
theorem dX11_making_30 : decode cX11_making 30 = .ok (.aload_n 0, 1) := by decide +kernel
theorem dX11_making_31 : decode cX11_making 31 = .ok (.invokevirtual 192, 3) := by decide +kernel
theorem dX11_making_34 : decode cX11_making 34 = .ok (.ifCond .le 12, 3) := by decide +kernel
theorem dX11_making_37 : decode cX11_making 37 = .ok (.aload_n 0, 1) := by decide +kernel
theorem dX11_making_38 : decode cX11_making 38 = .ok (.getfield 81, 3) := by decide +kernel
theorem dX11_making_41 : decode cX11_making 41 = .ok (.iload_n 2, 1) := by decide +kernel
theorem dX11_making_42 : decode cX11_making 42 = .ok (.iaload, 1) := by decide +kernel
theorem dX11_making_43 : decode cX11_making 43 = .ok (.goto 4, 3) := by decide +kernel
theorem dX11_making_46 : decode cX11_making 46 = .ok (.iconst 0, 1) := by decide +kernel
theorem dX11_making_47 : decode cX11_making 47 = .ok (.iadd, 1) := by decide +kernel
theorem dX11_making_48 : decode cX11_making 48 = .ok (.istore_n 1, 1) := by decide +kernel
theorem dX11_making_49 : decode cX11_making 49 = .ok (.aload_n 0, 1) := by decide +kernel
theorem dX11_making_50 : decode cX11_making 50 = .ok (.getfield 56, 3) := by decide +kernel
theorem dX11_making_53 : decode cX11_making 53 = .ok (.iload_n 2, 1) := by decide +kernel
theorem dX11_making_54 : decode cX11_making 54 = .ok (.dup2, 1) := by decide +kernel
theorem dX11_making_55 : decode cX11_making 55 = .ok (.iaload, 1) := by decide +kernel
theorem dX11_making_56 : decode cX11_making 56 = .ok (.iconst 1, 1) := by decide +kernel
theorem dX11_making_57 : decode cX11_making 57 = .ok (.isub, 1) := by decide +kernel
theorem dX11_making_58 : decode cX11_making 58 = .ok (.iastore, 1) := by decide +kernel
theorem dX11_making_59 : decode cX11_making 59 = .ok (.iinc 2 1, 3) := by decide +kernel
theorem dX11_making_62 : decode cX11_making 62 = .ok (.goto (-58), 3) := by decide +kernel
theorem dX11_making_65 : decode cX11_making 65 = .ok (.iload_n 1, 1) := by decide +kernel
theorem dX11_making_66 : decode cX11_making 66 = .ok (.ireturn, 1) := by decide +kernel
theorem dX11_makingBest_0 : decode cX11_makingBest 0 = .ok (.aload_n 0, 1) := by decide +kernel
theorem dX11_makingBest_1 : decode cX11_makingBest 1 = .ok (.invokevirtual 223, 3) := by decide +kernel
theorem dX11_makingBest_4 : decode cX11_makingBest 4 = .ok (.aload_n 0, 1) := by decide +kernel
theorem dX11_makingBest_5 : decode cX11_makingBest 5 = .ok (.invokevirtual 226, 3) := by decide +kernel
theorem dX11_makingBest_8 : decode cX11_makingBest 8 = .ok (.iconst 1, 1) := by decide +kernel
theorem dX11_makingBest_9 : decode cX11_makingBest 9 = .ok (.if_icmp .le 5, 3) := by decide +kernel
theorem dX11_makingBest_12 : decode cX11_makingBest 12 = .ok (.iconst 0, 1) := by decide +kernel
theorem dX11_makingBest_13 : decode cX11_makingBest 13 = .ok (.ireturn, 1) := by decide +kernel
theorem dX11_makingBest_14 : decode cX11_makingBest 14 = .ok (.iconst 0, 1) := by decide +kernel
theorem dX11_makingBest_15 : decode cX11_makingBest 15 = .ok (.istore_n 1, 1) := by decide +kernel
theorem dX11_makingBest_16 : decode cX11_makingBest 16 = .ok (.iconst 0, 1) := by decide +kernel
theorem dX11_makingBest_17 : decode cX11_makingBest 17 = .ok (.istore_n 2, 1) := by decide +kernel
theorem dX11_makingBest_18 : decode cX11_makingBest 18 = .ok (.iload_n 2, 1) := by decide +kernel
theorem dX11_makingBest_19 : decode cX11_makingBest 19 = .ok (.bipush 34, 2) := by decide +kernel
theorem dX11_makingBest_21 : decode cX11_makingBest 21 = .ok (.if_icmp .ge 54, 3) := by decide +kernel
theorem dX11_makingBest_24 : decode cX11_makingBest 24 = .ok (.aload_n 0, 1) := by decide +kernel
theorem dX11_makingBest_25 : decode cX11_makingBest 25 = .ok (.getfield 56, 3) := by decide +kernel
theorem dX11_makingBest_28 : decode cX11_makingBest 28 = .ok (.iload_n 2, 1) := by decide +kernel
theorem dX11_makingBest_29 : decode cX11_makingBest 29 = .ok (.iaload, 1) := by decide +kernel
theorem dX11_makingBest_30 : decode cX11_makingBest 30 = .ok (.ifCond .le 39, 3) := by decide +kernel
theorem dX11_makingBest_33 : decode cX11_makingBest 33 = .ok (.aload_n 0, 1) := by decide +kernel
theorem dX11_makingBest_34 : decode cX11_makingBest 34 = .ok (.getfield 56, 3) := by decide +kernel
theorem dX11_makingBest_37 : decode cX11_makingBest 37 = .ok (.iload_n 2, 1) := by decide +kernel
theorem dX11_makingBest_38 : decode cX11_makingBest 38 = .ok (.dup2, 1) := by decide +kernel
theorem dX11_makingBest_39 : decode cX11_makingBest 39 = .ok (.iaload, 1) := by decide +kernel
theorem dX11_makingBest_40 : decode cX11_makingBest 40 = .ok (.iconst 1, 1) := by decide +kernel
theorem dX11_makingBest_41 : decode cX11_makingBest 41 = .ok (.isub, 1) := by decide +kernel
theorem dX11_makingBest_42 : decode cX11_makingBest 42 = .ok (.iastore, 1) := by decide +kernel
theorem dX11_makingBest_43 : decode cX11_makingBest 43 = .ok (.aload_n 0, 1) := by decide +kernel
theorem dX11_makingBest_44 : decode cX11_makingBest 44 = .ok (.invokevirtual 257, 3) := by decide +kernel
theorem dX11_makingBest_47 : decode cX11_makingBest 47 = .ok (.istore_n 3, 1) := by decide +kernel
theorem dX11_makingBest_48 : decode cX11_makingBest 48 = .ok (.iload_n 3, 1) := by decide +kernel
theorem dX11_makingBest_49 : decode cX11_makingBest 49 = .ok (.iload_n 1, 1) := by decide +kernel
theorem dX11_makingBest_50 : decode cX11_makingBest 50 = .ok (.if_icmp .le 7, 3) := by decide +kernel
theorem dX11_makingBest_53 : decode cX11_makingBest 53 = .ok (.iload_n 3, 1) := by decide +kernel
theorem dX11_makingBest_54 : decode cX11_makingBest 54 = .ok (.goto 4, 3) := by decide +kernel
theorem dX11_makingBest_57 : decode cX11_makingBest 57 = .ok (.iload_n 1, 1) := by decide +kernel
theorem dX11_makingBest_58 : decode cX11_makingBest 58 = .ok (.istore_n 1, 1) := by decide +kernel
theorem dX11_makingBest_59 : decode cX11_makingBest 59 = .ok (.aload_n 0, 1) := by decide +kernel
theorem dX11_makingBest_60 : decode cX11_makingBest 60 = .ok (.getfield 56, 3) := by decide +kernel
theorem dX11_makingBest_63 : decode cX11_makingBest 63 = .ok (.iload_n 2, 1) := by decide +kernel
theorem dX11_makingBest_64 : decode cX11_makingBest 64 = .ok (.dup2, 1) := by decide +kernel
theorem dX11_makingBest_65 : decode cX11_makingBest 65 = .ok (.iaload, 1) := by decide +kernel
theorem dX11_makingBest_66 : decode cX11_makingBest 66 = .ok (.iconst 1, 1) := by decide +kernel
theorem dX11_makingBest_67 : decode cX11_makingBest 67 = .ok (.iadd, 1) := by decide +kernel
theorem dX11_makingBest_68 : decode cX11_makingBest 68 = .ok (.iastore, 1) := by decide +kernel
theorem dX11_makingBest_69 : decode cX11_makingBest 69 = .ok (.iinc 2 1, 3) := by decide +kernel
theorem dX11_makingBest_72 : decode cX11_makingBest 72 = .ok (.goto (-54), 3) := by decide +kernel
theorem dX11_makingBest_75 : decode cX11_makingBest 75 = .ok (.iload_n 1, 1) := by decide +kernel
theorem dX11_makingBest_76 : decode cX11_makingBest 76 = .ok (.ireturn, 1) := by decide +kernel
theorem dX11_odds_0 : decode cX11_odds 0 = .ok (.iload_n 1, 1) := by decide +kernel
theorem dX11_odds_1 : decode cX11_odds 1 = .ok (.invokestatic 114, 3) := by decide +kernel
theorem dX11_odds_4 : decode cX11_odds 4 = .ok (.ifCond .eq 15, 3) := by decide +kernel
theorem dX11_odds_7 : decode cX11_odds 7 = .ok (.iload_n 2, 1) := by decide +kernel
theorem dX11_odds_8 : decode cX11_odds 8 = .ok (.i2l, 1) := by decide +kernel
theorem dX11_odds_9 : decode cX11_odds 9 = .ok (.lconst 1, 1) := by decide +kernel
theorem dX11_odds_10 : decode cX11_odds 10 = .ok (.ldc2_w 100, 3) := by decide +kernel
theorem dX11_odds_13 : decode cX11_odds 13 = .ok (.invokestatic 86, 3) := by decide +kernel
theorem dX11_odds_16 : decode cX11_odds 16 = .ok (.ifCond .ne 5, 3) := by decide +kernel
theorem dX11_odds_19 : decode cX11_odds 19 = .ok (.iconst (-1), 1) := by decide +kernel
theorem dX11_odds_20 : decode cX11_odds 20 = .ok (.ireturn, 1) := by decide +kernel
theorem dX11_odds_21 : decode cX11_odds 21 = .ok (.aload_n 0, 1) := by decide +kernel
theorem dX11_odds_22 : decode cX11_odds 22 = .ok (.iload_n 1, 1) := by decide +kernel
theorem dX11_odds_23 : decode cX11_odds 23 = .ok (.invokevirtual 117, 3) := by decide +kernel
theorem dX11_odds_26 : decode cX11_odds 26 = .ok (.bipush 13, 2) := by decide +kernel
theorem dX11_odds_28 : decode cX11_odds 28 = .ok (.if_icmp .eq 6, 3) := by decide +kernel
theorem dX11_odds_31 : decode cX11_odds 31 = .ok (.bipush (-2), 2) := by decide +kernel
theorem dX11_odds_33 : decode cX11_odds 33 = .ok (.ireturn, 1) := by decide +kernel
theorem dX11_odds_34 : decode cX11_odds 34 = .ok (.aload_n 0, 1) := by decide +kernel
theorem dX11_odds_35 : decode cX11_odds 35 = .ok (.iload_n 1, 1) := by decide +kernel
theorem dX11_odds_36 : decode cX11_odds 36 = .ok (.invokevirtual 251, 3) := by decide +kernel
theorem dX11_odds_39 : decode cX11_odds 39 = .ok (.istore_n 3, 1) := by decide +kernel
theorem dX11_odds_40 : decode cX11_odds 40 = .ok (.aload_n 0, 1) := by decide +kernel
theorem dX11_odds_41 : decode cX11_odds 41 = .ok (.iload_n 1, 1) := by decide +kernel
theorem dX11_odds_42 : decode cX11_odds 42 = .ok (.invokevirtual 188, 3) := by decide +kernel
theorem dX11_odds_45 : decode cX11_odds 45 = .ok (.iload_n 2, 1) := by decide +kernel
theorem dX11_odds_46 : decode cX11_odds 46 = .ok (.iconst 1, 1) := by decide +kernel
theorem dX11_odds_47 : decode cX11_odds 47 = .ok (.if_icmp .ne 8, 3) := by decide +kernel
theorem dX11_odds_50 : decode cX11_odds 50 = .ok (.aload_n 0, 1) := by decide +kernel
theorem dX11_odds_51 : decode cX11_odds 51 = .ok (.invokevirtual 257, 3) := by decide +kernel
theorem dX11_odds_54 : decode cX11_odds 54 = .ok (.ireturn, 1) := by decide +kernel
theorem dX11_odds_55 : decode cX11_odds 55 = .ok (.iconst 0, 1) := by decide +kernel
theorem dX11_odds_56 : decode cX11_odds 56 = .ok (.istore 4, 2) := by decide +kernel
theorem dX11_odds_58 : decode cX11_odds 58 = .ok (.iconst 0, 1) := by decide +kernel
theorem dX11_odds_59 : decode cX11_odds 59 = .ok (.istore 5, 2) := by decide +kernel
theorem dX11_odds_61 : decode cX11_odds 61 = .ok (.iload 5, 2) := by decide +kernel
theorem dX11_odds_63 : decode cX11_odds 63 = .ok (.bipush 34, 2) := by decide +kernel
theorem dX11_odds_65 : decode cX11_odds 65 = .ok (.if_icmp .ge 108, 3) := by decide +kernel
theorem dX11_odds_68 : decode cX11_odds 68 = .ok (.aload_n 0, 1) := by decide +kernel
theorem dX11_odds_69 : decode cX11_odds 69 = .ok (.getfield 81, 3) := by decide +kernel
theorem dX11_odds_72 : decode cX11_odds 72 = .ok (.iload 5, 2) := by decide +kernel
theorem dX11_odds_74 : decode cX11_odds 74 = .ok (.iaload, 1) := by decide +kernel
theorem dX11_odds_75 : decode cX11_odds 75 = .ok (.ifCond .ne 6, 3) := by decide +kernel
theorem dX11_odds_78 : decode cX11_odds 78 = .ok (.goto 89, 3) := by decide +kernel
theorem dX11_odds_81 : decode cX11_odds 81 = .ok (.aload_n 0, 1) := by decide +kernel
theorem dX11_odds_82 : decode cX11_odds 82 = .ok (.getfield 81, 3) := by decide +kernel
theorem dX11_odds_85 : decode cX11_odds 85 = .ok (.iload 5, 2) := by decide +kernel
theorem dX11_odds_87 : decode cX11_odds 87 = .ok (.iaload, 1) := by decide +kernel
theorem dX11_odds_88 : decode cX11_odds 88 = .ok (.istore 6, 2) := by decide +kernel
theorem dX11_odds_90 : decode cX11_odds 90 = .ok (.aload_n 0, 1) := by decide +kernel
theorem dX11_odds_91 : decode cX11_odds 91 = .ok (.getfield 56, 3) := by decide +kernel
theorem dX11_odds_94 : decode cX11_odds 94 = .ok (.iload 5, 2) := by decide +kernel
theorem dX11_odds_96 : decode cX11_odds 96 = .ok (.dup2, 1) := by decide +kernel
theorem dX11_odds_97 : decode cX11_odds 97 = .ok (.iaload, 1) := by decide +kernel
theorem dX11_odds_98 : decode cX11_odds 98 = .ok (.iconst 1, 1) := by decide +kernel
theorem dX11_odds_99 : decode cX11_odds 99 = .ok (.iadd, 1) := by decide +kernel
theorem dX11_odds_100 : decode cX11_odds 100 = .ok (.iastore, 1) := by decide +kernel
theorem dX11_odds_101 : decode cX11_odds 101 = .ok (.aload_n 0, 1) := by decide +kernel
theorem dX11_odds_102 : decode cX11_odds 102 = .ok (.invokevirtual 192, 3) := by decide +kernel
theorem dX11_odds_105 : decode cX11_odds 105 = .ok (.ifCond .le 17, 3) := by decide +kernel
theorem dX11_odds_108 : decode cX11_odds 108 = .ok (.iload 4, 2) := by decide +kernel
theorem dX11_odds_110 : decode cX11_odds 110 = .ok (.iload 6, 2) := by decide +kernel
theorem dX11_odds_112 : decode cX11_odds 112 = .ok (.iload_n 3, 1) := by decide +kernel
theorem dX11_odds_113 : decode cX11_odds 113 = .ok (.iconst 1, 1) := by decide +kernel
theorem dX11_odds_114 : decode cX11_odds 114 = .ok (.isub, 1) := by decide +kernel
theorem dX11_odds_115 : decode cX11_odds 115 = .ok (.imul, 1) := by decide +kernel
theorem dX11_odds_116 : decode cX11_odds 116 = .ok (.iadd, 1) := by decide +kernel
theorem dX11_odds_117 : decode cX11_odds 117 = .ok (.istore 4, 2) := by decide +kernel
theorem dX11_odds_119 : decode cX11_odds 119 = .ok (.goto 37, 3) := by decide +kernel
theorem dX11_odds_122 : decode cX11_odds 122 = .ok (.aload_n 0, 1) := by decide +kernel
theorem dX11_odds_123 : decode cX11_odds 123 = .ok (.getfield 81, 3) := by decide +kernel
theorem dX11_odds_126 : decode cX11_odds 126 = .ok (.iload 5, 2) := by decide +kernel
theorem dX11_odds_128 : decode cX11_odds 128 = .ok (.dup2, 1) := by decide +kernel
theorem dX11_odds_129 : decode cX11_odds 129 = .ok (.iaload, 1) := by decide +kernel
theorem dX11_odds_130 : decode cX11_odds 130 = .ok (.iconst 1, 1) := by decide +kernel
theorem dX11_odds_131 : decode cX11_odds 131 = .ok (.isub, 1) := by decide +kernel
theorem dX11_odds_132 : decode cX11_odds 132 = .ok (.iastore, 1) := by decide +kernel
theorem dX11_odds_133 : decode cX11_odds 133 = .ok (.iload 4, 2) := by decide +kernel
theorem dX11_odds_135 : decode cX11_odds 135 = .ok (.iload 6, 2) := by decide +kernel
theorem dX11_odds_137 : decode cX11_odds 137 = .ok (.aload_n 0, 1) := by decide +kernel
theorem dX11_odds_138 : decode cX11_odds 138 = .ok (.invokevirtual 260, 3) := by decide +kernel
theorem dX11_odds_141 : decode cX11_odds 141 = .ok (.imul, 1) := by decide +kernel
theorem dX11_odds_142 : decode cX11_odds 142 = .ok (.iadd, 1) := by decide +kernel
theorem dX11_odds_143 : decode cX11_odds 143 = .ok (.istore 4, 2) := by decide +kernel
theorem dX11_odds_145 : decode cX11_odds 145 = .ok (.aload_n 0, 1) := by decide +kernel
theorem dX11_odds_146 : decode cX11_odds 146 = .ok (.getfield 81, 3) := by decide +kernel
theorem dX11_odds_149 : decode cX11_odds 149 = .ok (.iload 5, 2) := by decide +kernel
theorem dX11_odds_151 : decode cX11_odds 151 = .ok (.dup2, 1) := by decide +kernel
theorem dX11_odds_152 : decode cX11_odds 152 = .ok (.iaload, 1) := by decide +kernel
theorem dX11_odds_153 : decode cX11_odds 153 = .ok (.iconst 1, 1) := by decide +kernel
theorem dX11_odds_154 : decode cX11_odds 154 = .ok (.iadd, 1) := by decide +kernel
theorem dX11_odds_155 : decode cX11_odds 155 = .ok (.iastore, 1) := by decide +kernel
theorem dX11_odds_156 : decode cX11_odds 156 = .ok (.aload_n 0, 1) := by decide +kernel
theorem dX11_odds_157 : decode cX11_odds 157 = .ok (.getfield 56, 3) := by decide +kernel
theorem dX11_odds_160 : decode cX11_odds 160 = .ok (.iload 5, 2) := by decide +kernel
theorem dX11_odds_162 : decode cX11_odds 162 = .ok (.dup2, 1) := by decide +kernel
theorem dX11_odds_163 : decode cX11_odds 163 = .ok (.iaload, 1) := by decide +kernel
theorem dX11_odds_164 : decode cX11_odds 164 = .ok (.iconst 1, 1) := by decide +kernel
theorem dX11_odds_165 : decode cX11_odds 165 = .ok (.isub, 1) := by decide +kernel
theorem dX11_odds_166 : decode cX11_odds 166 = .ok (.iastore, 1) := by decide +kernel
theorem dX11_odds_167 : decode cX11_odds 167 = .ok (.iinc 5 1, 3) := by decide +kernel
theorem dX11_odds_170 : decode cX11_odds 170 = .ok (.goto (-109), 3) := by decide +kernel
theorem dX11_odds_173 : decode cX11_odds 173 = .ok (.iload 4, 2) := by decide +kernel
theorem dX11_odds_175 : decode cX11_odds 175 = .ok (.ireturn, 1) := by decide +kernel
theorem dX11_unseen_0 : decode cX11_unseen 0 = .ok (.iload_n 1, 1) := by decide +kernel
theorem dX11_unseen_1 : decode cX11_unseen 1 = .ok (.invokestatic 114, 3) := by decide +kernel
theorem dX11_unseen_4 : decode cX11_unseen 4 = .ok (.ifCond .eq 11, 3) := by decide +kernel
theorem dX11_unseen_7 : decode cX11_unseen 7 = .ok (.aload_n 0, 1) := by decide +kernel
theorem dX11_unseen_8 : decode cX11_unseen 8 = .ok (.iload_n 1, 1) := by decide +kernel
theorem dX11_unseen_9 : decode cX11_unseen 9 = .ok (.invokevirtual 251, 3) := by decide +kernel
theorem dX11_unseen_12 : decode cX11_unseen 12 = .ok (.goto 4, 3) := by decide +kernel
theorem dX11_unseen_15 : decode cX11_unseen 15 = .ok (.iconst (-1), 1) := by decide +kernel
theorem dX11_unseen_16 : decode cX11_unseen 16 = .ok (.ireturn, 1) := by decide +kernel
theorem dX11_isRow_0 : decode cX11_isRow 0 = .ok (.iconst 1, 1) := by decide +kernel
theorem dX11_isRow_1 : decode cX11_isRow 1 = .ok (.istore 6, 2) := by decide +kernel
theorem dX11_isRow_3 : decode cX11_isRow 3 = .ok (.iconst 0, 1) := by decide +kernel
theorem dX11_isRow_4 : decode cX11_isRow 4 = .ok (.istore 7, 2) := by decide +kernel
theorem dX11_isRow_6 : decode cX11_isRow 6 = .ok (.iload 7, 2) := by decide +kernel
theorem dX11_isRow_8 : decode cX11_isRow 8 = .ok (.bipush 9, 2) := by decide +kernel
theorem dX11_isRow_10 : decode cX11_isRow 10 = .ok (.if_icmp .ge 72, 3) := by decide +kernel
theorem dX11_isRow_13 : decode cX11_isRow 13 = .ok (.iload 6, 2) := by decide +kernel
theorem dX11_isRow_15 : decode cX11_isRow 15 = .ok (.ifCond .eq 58, 3) := by decide +kernel
theorem dX11_isRow_18 : decode cX11_isRow 18 = .ok (.aload_n 0, 1) := by decide +kernel
theorem dX11_isRow_19 : decode cX11_isRow 19 = .ok (.getfield 16, 3) := by decide +kernel
theorem dX11_isRow_22 : decode cX11_isRow 22 = .ok (.bipush 34, 2) := by decide +kernel
theorem dX11_isRow_24 : decode cX11_isRow 24 = .ok (.iload_n 1, 1) := by decide +kernel
theorem dX11_isRow_25 : decode cX11_isRow 25 = .ok (.imul, 1) := by decide +kernel
theorem dX11_isRow_26 : decode cX11_isRow 26 = .ok (.bipush 9, 2) := by decide +kernel
theorem dX11_isRow_28 : decode cX11_isRow 28 = .ok (.iload_n 2, 1) := by decide +kernel
theorem dX11_isRow_29 : decode cX11_isRow 29 = .ok (.imul, 1) := by decide +kernel
theorem dX11_isRow_30 : decode cX11_isRow 30 = .ok (.iadd, 1) := by decide +kernel
theorem dX11_isRow_31 : decode cX11_isRow 31 = .ok (.iload 7, 2) := by decide +kernel
theorem dX11_isRow_33 : decode cX11_isRow 33 = .ok (.iadd, 1) := by decide +kernel
theorem dX11_isRow_34 : decode cX11_isRow 34 = .ok (.iaload, 1) := by decide +kernel
theorem dX11_isRow_35 : decode cX11_isRow 35 = .ok (.aload_n 0, 1) := by decide +kernel
theorem dX11_isRow_36 : decode cX11_isRow 36 = .ok (.getfield 16, 3) := by decide +kernel
theorem dX11_isRow_39 : decode cX11_isRow 39 = .ok (.bipush 34, 2) := by decide +kernel
theorem dX11_isRow_41 : decode cX11_isRow 41 = .ok (.iload_n 3, 1) := by decide +kernel
theorem dX11_isRow_42 : decode cX11_isRow 42 = .ok (.imul, 1) := by decide +kernel
theorem dX11_isRow_43 : decode cX11_isRow 43 = .ok (.bipush 9, 2) := by decide +kernel
theorem dX11_isRow_45 : decode cX11_isRow 45 = .ok (.iload 4, 2) := by decide +kernel
theorem dX11_isRow_47 : decode cX11_isRow 47 = .ok (.imul, 1) := by decide +kernel
theorem dX11_isRow_48 : decode cX11_isRow 48 = .ok (.iadd, 1) := by decide +kernel
theorem dX11_isRow_49 : decode cX11_isRow 49 = .ok (.iload 5, 2) := by decide +kernel
theorem dX11_isRow_51 : decode cX11_isRow 51 = .ok (.ifCond .eq 11, 3) := by decide +kernel
theorem dX11_isRow_54 : decode cX11_isRow 54 = .ok (.bipush 8, 2) := by decide +kernel
theorem dX11_isRow_56 : decode cX11_isRow 56 = .ok (.iload 7, 2) := by decide +kernel
theorem dX11_isRow_58 : decode cX11_isRow 58 = .ok (.isub, 1) := by decide +kernel
theorem dX11_isRow_59 : decode cX11_isRow 59 = .ok (.goto 5, 3) := by decide +kernel
theorem dX11_isRow_62 : decode cX11_isRow 62 = .ok (.iload 7, 2) := by decide +kernel
theorem dX11_isRow_64 : decode cX11_isRow 64 = .ok (.iadd, 1) := by decide +kernel
theorem dX11_isRow_65 : decode cX11_isRow 65 = .ok (.iaload, 1) := by decide +kernel
theorem dX11_isRow_66 : decode cX11_isRow 66 = .ok (.if_icmp .ne 7, 3) := by decide +kernel
theorem dX11_isRow_69 : decode cX11_isRow 69 = .ok (.iconst 1, 1) := by decide +kernel
theorem dX11_isRow_70 : decode cX11_isRow 70 = .ok (.goto 4, 3) := by decide +kernel
theorem dX11_isRow_73 : decode cX11_isRow 73 = .ok (.iconst 0, 1) := by decide +kernel
theorem dX11_isRow_74 : decode cX11_isRow 74 = .ok (.istore 6, 2) := by decide +kernel
theorem dX11_isRow_76 : decode cX11_isRow 76 = .ok (.iinc 7 1, 3) := by decide +kernel
theorem dX11_isRow_79 : decode cX11_isRow 79 = .ok (.goto (-73), 3) := by decide +kernel
theorem dX11_isRow_82 : decode cX11_isRow 82 = .ok (.iload 6, 2) := by decide +kernel
theorem dX11_isRow_84 : decode cX11_isRow 84 = .ok (.ireturn, 1) := by decide +kernel
theorem dX11_areRows_0 : decode cX11_areRows 0 = .ok (.aload_n 0, 1) := by decide +kernel
theorem dX11_areRows_1 : decode cX11_areRows 1 = .ok (.iload_n 1, 1) := by decide +kernel
theorem dX11_areRows_2 : decode cX11_areRows 2 = .ok (.iload_n 2, 1) := by decide +kernel
theorem dX11_areRows_3 : decode cX11_areRows 3 = .ok (.iload_n 3, 1) := by decide +kernel
theorem dX11_areRows_4 : decode cX11_areRows 4 = .ok (.iload 4, 2) := by decide +kernel
theorem dX11_areRows_6 : decode cX11_areRows 6 = .ok (.iconst 0, 1) := by decide +kernel
theorem dX11_areRows_7 : decode cX11_areRows 7 = .ok (.invokevirtual 263, 3) := by decide +kernel
theorem dX11_areRows_10 : decode cX11_areRows 10 = .ok (.ifCond .ne 16, 3) := by decide +kernel
theorem dX11_areRows_13 : decode cX11_areRows 13 = .ok (.aload_n 0, 1) := by decide +kernel
theorem dX11_areRows_14 : decode cX11_areRows 14 = .ok (.iload_n 1, 1) := by decide +kernel
theorem dX11_areRows_15 : decode cX11_areRows 15 = .ok (.iload_n 2, 1) := by decide +kernel
theorem dX11_areRows_16 : decode cX11_areRows 16 = .ok (.iload_n 3, 1) := by decide +kernel
theorem dX11_areRows_17 : decode cX11_areRows 17 = .ok (.iload 4, 2) := by decide +kernel
theorem dX11_areRows_19 : decode cX11_areRows 19 = .ok (.iconst 1, 1) := by decide +kernel
theorem dX11_areRows_20 : decode cX11_areRows 20 = .ok (.invokevirtual 263, 3) := by decide +kernel
theorem dX11_areRows_23 : decode cX11_areRows 23 = .ok (.ifCond .eq 7, 3) := by decide +kernel
theorem dX11_areRows_26 : decode cX11_areRows 26 = .ok (.iconst 1, 1) := by decide +kernel
theorem dX11_areRows_27 : decode cX11_areRows 27 = .ok (.goto 4, 3) := by decide +kernel
theorem dX11_areRows_30 : decode cX11_areRows 30 = .ok (.iconst 0, 1) := by decide +kernel
theorem dX11_areRows_31 : decode cX11_areRows 31 = .ok (.ireturn, 1) := by decide +kernel
theorem dX11_alike_0 : decode cX11_alike 0 = .ok (.iload_n 1, 1) := by decide +kernel
theorem dX11_alike_1 : decode cX11_alike 1 = .ok (.invokestatic 114, 3) := by decide +kernel
theorem dX11_alike_4 : decode cX11_alike 4 = .ok (.ifCond .eq 10, 3) := by decide +kernel
theorem dX11_alike_7 : decode cX11_alike 7 = .ok (.iload_n 2, 1) := by decide +kernel
theorem dX11_alike_8 : decode cX11_alike 8 = .ok (.invokestatic 114, 3) := by decide +kernel
theorem dX11_alike_11 : decode cX11_alike 11 = .ok (.ifCond .ne 5, 3) := by decide +kernel
theorem dX11_alike_14 : decode cX11_alike 14 = .ok (.iconst (-1), 1) := by decide +kernel
theorem dX11_alike_15 : decode cX11_alike 15 = .ok (.ireturn, 1) := by decide +kernel
theorem dX11_alike_16 : decode cX11_alike 16 = .ok (.iconst 1, 1) := by decide +kernel
theorem dX11_alike_17 : decode cX11_alike 17 = .ok (.istore_n 3, 1) := by decide +kernel
theorem dX11_alike_18 : decode cX11_alike 18 = .ok (.iconst 0, 1) := by decide +kernel
theorem dX11_alike_19 : decode cX11_alike 19 = .ok (.istore 4, 2) := by decide +kernel
theorem dX11_alike_21 : decode cX11_alike 21 = .ok (.iload 4, 2) := by decide +kernel
theorem dX11_alike_23 : decode cX11_alike 23 = .ok (.iconst 5, 1) := by decide +kernel
theorem dX11_alike_24 : decode cX11_alike 24 = .ok (.if_icmp .ge 103, 3) := by decide +kernel
theorem dX11_alike_27 : decode cX11_alike 27 = .ok (.iconst 0, 1) := by decide +kernel
theorem dX11_alike_28 : decode cX11_alike 28 = .ok (.istore 5, 2) := by decide +kernel
theorem dX11_alike_30 : decode cX11_alike 30 = .ok (.iconst 0, 1) := by decide +kernel
theorem dX11_alike_31 : decode cX11_alike 31 = .ok (.istore 6, 2) := by decide +kernel
theorem dX11_alike_33 : decode cX11_alike 33 = .ok (.bipush 27, 2) := by decide +kernel
theorem dX11_alike_35 : decode cX11_alike 35 = .ok (.istore 7, 2) := by decide +kernel
theorem dX11_alike_37 : decode cX11_alike 37 = .ok (.iload 7, 2) := by decide +kernel
theorem dX11_alike_39 : decode cX11_alike 39 = .ok (.bipush 34, 2) := by decide +kernel
theorem dX11_alike_41 : decode cX11_alike 41 = .ok (.if_icmp .ge 63, 3) := by decide +kernel
theorem dX11_alike_44 : decode cX11_alike 44 = .ok (.iload 5, 2) := by decide +kernel
theorem dX11_alike_46 : decode cX11_alike 46 = .ok (.aload_n 0, 1) := by decide +kernel
theorem dX11_alike_47 : decode cX11_alike 47 = .ok (.getfield 16, 3) := by decide +kernel
theorem dX11_alike_50 : decode cX11_alike 50 = .ok (.bipush 34, 2) := by decide +kernel
theorem dX11_alike_52 : decode cX11_alike 52 = .ok (.iload_n 1, 1) := by decide +kernel
theorem dX11_alike_53 : decode cX11_alike 53 = .ok (.imul, 1) := by decide +kernel
theorem dX11_alike_54 : decode cX11_alike 54 = .ok (.iload 7, 2) := by decide +kernel
theorem dX11_alike_56 : decode cX11_alike 56 = .ok (.iadd, 1) := by decide +kernel
theorem dX11_alike_57 : decode cX11_alike 57 = .ok (.iaload, 1) := by decide +kernel
theorem dX11_alike_58 : decode cX11_alike 58 = .ok (.iload 4, 2) := by decide +kernel
theorem dX11_alike_60 : decode cX11_alike 60 = .ok (.if_icmp .ne 7, 3) := by decide +kernel
theorem dX11_alike_63 : decode cX11_alike 63 = .ok (.iconst 1, 1) := by decide +kernel
theorem dX11_alike_64 : decode cX11_alike 64 = .ok (.goto 4, 3) := by decide +kernel
theorem dX11_alike_67 : decode cX11_alike 67 = .ok (.iconst 0, 1) := by decide +kernel
theorem dX11_alike_68 : decode cX11_alike 68 = .ok (.iadd, 1) := by decide +kernel
theorem dX11_alike_69 : decode cX11_alike 69 = .ok (.istore 5, 2) := by decide +kernel
theorem dX11_alike_71 : decode cX11_alike 71 = .ok (.iload 6, 2) := by decide +kernel
theorem dX11_alike_73 : decode cX11_alike 73 = .ok (.aload_n 0, 1) := by decide +kernel
theorem dX11_alike_74 : decode cX11_alike 74 = .ok (.getfield 16, 3) := by decide +kernel
theorem dX11_alike_77 : decode cX11_alike 77 = .ok (.bipush 34, 2) := by decide +kernel
theorem dX11_alike_79 : decode cX11_alike 79 = .ok (.iload_n 2, 1) := by decide +kernel
theorem dX11_alike_80 : decode cX11_alike 80 = .ok (.imul, 1) := by decide +kernel
theorem dX11_alike_81 : decode cX11_alike 81 = .ok (.iload 7, 2) := by decide +kernel
theorem dX11_alike_83 : decode cX11_alike 83 = .ok (.iadd, 1) := by decide +kernel
theorem dX11_alike_84 : decode cX11_alike 84 = .ok (.iaload, 1) := by decide +kernel
theorem dX11_alike_85 : decode cX11_alike 85 = .ok (.iload 4, 2) := by decide +kernel
theorem dX11_alike_87 : decode cX11_alike 87 = .ok (.if_icmp .ne 7, 3) := by decide +kernel
theorem dX11_alike_90 : decode cX11_alike 90 = .ok (.iconst 1, 1) := by decide +kernel
theorem dX11_alike_91 : decode cX11_alike 91 = .ok (.goto 4, 3) := by decide +kernel
theorem dX11_alike_94 : decode cX11_alike 94 = .ok (.iconst 0, 1) := by decide +kernel
theorem dX11_alike_95 : decode cX11_alike 95 = .ok (.iadd, 1) := by decide +kernel
theorem dX11_alike_96 : decode cX11_alike 96 = .ok (.istore 6, 2) := by decide +kernel
theorem dX11_alike_98 : decode cX11_alike 98 = .ok (.iinc 7 1, 3) := by decide +kernel
theorem dX11_alike_101 : decode cX11_alike 101 = .ok (.goto (-64), 3) := by decide +kernel
theorem dX11_alike_104 : decode cX11_alike 104 = .ok (.iload_n 3, 1) := by decide +kernel
theorem dX11_alike_105 : decode cX11_alike 105 = .ok (.ifCond .eq 14, 3) := by decide +kernel
theorem dX11_alike_108 : decode cX11_alike 108 = .ok (.iload 5, 2) := by decide +kernel
theorem dX11_alike_110 : decode cX11_alike 110 = .ok (.iload 6, 2) := by decide +kernel
theorem dX11_alike_112 : decode cX11_alike 112 = .ok (.if_icmp .ne 7, 3) := by decide +kernel
theorem dX11_alike_115 : decode cX11_alike 115 = .ok (.iconst 1, 1) := by decide +kernel
theorem dX11_alike_116 : decode cX11_alike 116 = .ok (.goto 4, 3) := by decide +kernel
theorem dX11_alike_119 : decode cX11_alike 119 = .ok (.iconst 0, 1) := by decide +kernel
theorem dX11_alike_120 : decode cX11_alike 120 = .ok (.istore_n 3, 1) := by decide +kernel
theorem dX11_alike_121 : decode cX11_alike 121 = .ok (.iinc 4 1, 3) := by decide +kernel
theorem dX11_alike_124 : decode cX11_alike 124 = .ok (.goto (-103), 3) := by decide +kernel
theorem dX11_alike_127 : decode cX11_alike 127 = .ok (.iconst 0, 1) := by decide +kernel
theorem dX11_alike_128 : decode cX11_alike 128 = .ok (.istore 4, 2) := by decide +kernel
theorem dX11_alike_130 : decode cX11_alike 130 = .ok (.iconst 0, 1) := by decide +kernel
theorem dX11_alike_131 : decode cX11_alike 131 = .ok (.istore 5, 2) := by decide +kernel
theorem dX11_alike_133 : decode cX11_alike 133 = .ok (.iload 5, 2) := by decide +kernel
theorem dX11_alike_135 : decode cX11_alike 135 = .ok (.iconst 3, 1) := by decide +kernel
theorem dX11_alike_136 : decode cX11_alike 136 = .ok (.if_icmp .ge 88, 3) := by decide +kernel
theorem dX11_alike_139 : decode cX11_alike 139 = .ok (.iconst 0, 1) := by decide +kernel
theorem dX11_alike_140 : decode cX11_alike 140 = .ok (.istore 6, 2) := by decide +kernel
theorem dX11_alike_142 : decode cX11_alike 142 = .ok (.iload 6, 2) := by decide +kernel
theorem dX11_alike_144 : decode cX11_alike 144 = .ok (.iconst 3, 1) := by decide +kernel
theorem dX11_alike_145 : decode cX11_alike 145 = .ok (.if_icmp .ge 73, 3) := by decide +kernel
theorem dX11_alike_148 : decode cX11_alike 148 = .ok (.iconst 3, 1) := by decide +kernel
theorem dX11_alike_149 : decode cX11_alike 149 = .ok (.iload 5, 2) := by decide +kernel
theorem dX11_alike_151 : decode cX11_alike 151 = .ok (.isub, 1) := by decide +kernel
theorem dX11_alike_152 : decode cX11_alike 152 = .ok (.iload 6, 2) := by decide +kernel
theorem dX11_alike_154 : decode cX11_alike 154 = .ok (.isub, 1) := by decide +kernel
theorem dX11_alike_155 : decode cX11_alike 155 = .ok (.istore 7, 2) := by decide +kernel
theorem dX11_alike_157 : decode cX11_alike 157 = .ok (.iload 4, 2) := by decide +kernel
theorem dX11_alike_159 : decode cX11_alike 159 = .ok (.ifCond .ne 46, 3) := by decide +kernel
theorem dX11_alike_162 : decode cX11_alike 162 = .ok (.iload 5, 2) := by decide +kernel
theorem dX11_alike_164 : decode cX11_alike 164 = .ok (.iload 6, 2) := by decide +kernel
theorem dX11_alike_166 : decode cX11_alike 166 = .ok (.if_icmp .eq 43, 3) := by decide +kernel
theorem dX11_alike_169 : decode cX11_alike 169 = .ok (.aload_n 0, 1) := by decide +kernel
theorem dX11_alike_170 : decode cX11_alike 170 = .ok (.iload_n 1, 1) := by decide +kernel
theorem dX11_alike_171 : decode cX11_alike 171 = .ok (.iconst 0, 1) := by decide +kernel
theorem dX11_alike_172 : decode cX11_alike 172 = .ok (.iload_n 2, 1) := by decide +kernel
theorem dX11_alike_173 : decode cX11_alike 173 = .ok (.iload 5, 2) := by decide +kernel
theorem dX11_alike_175 : decode cX11_alike 175 = .ok (.invokevirtual 267, 3) := by decide +kernel
theorem dX11_alike_178 : decode cX11_alike 178 = .ok (.ifCond .eq 31, 3) := by decide +kernel
theorem dX11_alike_181 : decode cX11_alike 181 = .ok (.aload_n 0, 1) := by decide +kernel
theorem dX11_alike_182 : decode cX11_alike 182 = .ok (.iload_n 1, 1) := by decide +kernel
theorem dX11_alike_183 : decode cX11_alike 183 = .ok (.iconst 1, 1) := by decide +kernel
theorem dX11_alike_184 : decode cX11_alike 184 = .ok (.iload_n 2, 1) := by decide +kernel
theorem dX11_alike_185 : decode cX11_alike 185 = .ok (.iload 6, 2) := by decide +kernel
theorem dX11_alike_187 : decode cX11_alike 187 = .ok (.invokevirtual 267, 3) := by decide +kernel
theorem dX11_alike_190 : decode cX11_alike 190 = .ok (.ifCond .eq 19, 3) := by decide +kernel
theorem dX11_alike_193 : decode cX11_alike 193 = .ok (.aload_n 0, 1) := by decide +kernel
theorem dX11_alike_194 : decode cX11_alike 194 = .ok (.iload_n 1, 1) := by decide +kernel
theorem dX11_alike_195 : decode cX11_alike 195 = .ok (.iconst 2, 1) := by decide +kernel
theorem dX11_alike_196 : decode cX11_alike 196 = .ok (.iload_n 2, 1) := by decide +kernel
theorem dX11_alike_197 : decode cX11_alike 197 = .ok (.iload 7, 2) := by decide +kernel
theorem dX11_alike_199 : decode cX11_alike 199 = .ok (.invokevirtual 267, 3) := by decide +kernel
theorem dX11_alike_202 : decode cX11_alike 202 = .ok (.ifCond .eq 7, 3) := by decide +kernel
theorem dX11_alike_205 : decode cX11_alike 205 = .ok (.iconst 1, 1) := by decide +kernel
theorem dX11_alike_206 : decode cX11_alike 206 = .ok (.goto 4, 3) := by decide +kernel
theorem dX11_alike_209 : decode cX11_alike 209 = .ok (.iconst 0, 1) := by decide +kernel
theorem dX11_alike_210 : decode cX11_alike 210 = .ok (.istore 4, 2) := by decide +kernel
theorem dX11_alike_212 : decode cX11_alike 212 = .ok (.iinc 6 1, 3) := by decide +kernel
theorem dX11_alike_215 : decode cX11_alike 215 = .ok (.goto (-73), 3) := by decide +kernel
theorem dX11_alike_218 : decode cX11_alike 218 = .ok (.iinc 5 1, 3) := by decide +kernel
theorem dX11_alike_221 : decode cX11_alike 221 = .ok (.goto (-88), 3) := by decide +kernel
theorem dX11_alike_224 : decode cX11_alike 224 = .ok (.iload_n 3, 1) := by decide +kernel
theorem dX11_alike_225 : decode cX11_alike 225 = .ok (.ifCond .eq 12, 3) := by decide +kernel
theorem dX11_alike_228 : decode cX11_alike 228 = .ok (.iload 4, 2) := by decide +kernel
theorem dX11_alike_230 : decode cX11_alike 230 = .ok (.ifCond .eq 7, 3) := by decide +kernel
theorem dX11_alike_233 : decode cX11_alike 233 = .ok (.iconst 1, 1) := by decide +kernel
theorem dX11_alike_234 : decode cX11_alike 234 = .ok (.goto 4, 3) := by decide +kernel
theorem dX11_alike_237 : decode cX11_alike 237 = .ok (.iconst 0, 1) := by decide +kernel
theorem dX11_alike_238 : decode cX11_alike 238 = .ok (.ireturn, 1) := by decide +kernel
theorem dX11_rule_0 : decode cX11_rule 0 = .ok (.iload_n 1, 1) := by decide +kernel
theorem dX11_rule_1 : decode cX11_rule 1 = .ok (.i2l, 1) := by decide +kernel
theorem dX11_rule_2 : decode cX11_rule 2 = .ok (.lconst 0, 1) := by decide +kernel
theorem dX11_rule_3 : decode cX11_rule 3 = .ok (.ldc2_w 147, 3) := by decide +kernel
theorem dX11_rule_6 : decode cX11_rule 6 = .ok (.invokestatic 86, 3) := by decide +kernel
theorem dX11_rule_9 : decode cX11_rule 9 = .ok (.ifCond .eq 29, 3) := by decide +kernel
theorem dX11_rule_12 : decode cX11_rule 12 = .ok (.iload_n 2, 1) := by decide +kernel
theorem dX11_rule_13 : decode cX11_rule 13 = .ok (.i2l, 1) := by decide +kernel
theorem dX11_rule_14 : decode cX11_rule 14 = .ok (.lconst 0, 1) := by decide +kernel
theorem dX11_rule_15 : decode cX11_rule 15 = .ok (.ldc2_w 271, 3) := by decide +kernel
theorem dX11_rule_18 : decode cX11_rule 18 = .ok (.invokestatic 86, 3) := by decide +kernel
theorem dX11_rule_21 : decode cX11_rule 21 = .ok (.ifCond .eq 17, 3) := by decide +kernel
theorem dX11_rule_24 : decode cX11_rule 24 = .ok (.iload_n 3, 1) := by decide +kernel
theorem dX11_rule_25 : decode cX11_rule 25 = .ok (.i2l, 1) := by decide +kernel
theorem dX11_rule_26 : decode cX11_rule 26 = .ok (.ldc2_w 98, 3) := by decide +kernel
theorem dX11_rule_29 : decode cX11_rule 29 = .ok (.ldc2_w 147, 3) := by decide +kernel
theorem dX11_rule_32 : decode cX11_rule 32 = .ok (.invokestatic 86, 3) := by decide +kernel
theorem dX11_rule_35 : decode cX11_rule 35 = .ok (.ifCond .ne 5, 3) := by decide +kernel
theorem dX11_rule_38 : decode cX11_rule 38 = .ok (.iconst (-1), 1) := by decide +kernel
theorem dX11_rule_39 : decode cX11_rule 39 = .ok (.ireturn, 1) := by decide +kernel
theorem dX11_rule_40 : decode cX11_rule 40 = .ok (.aload_n 0, 1) := by decide +kernel
theorem dX11_rule_41 : decode cX11_rule 41 = .ok (.getfield 273, 3) := by decide +kernel
theorem dX11_rule_44 : decode cX11_rule 44 = .ok (.bipush 20, 2) := by decide +kernel
theorem dX11_rule_46 : decode cX11_rule 46 = .ok (.if_icmp .ne 6, 3) := by decide +kernel
theorem dX11_rule_49 : decode cX11_rule 49 = .ok (.bipush (-4), 2) := by decide +kernel
theorem dX11_rule_51 : decode cX11_rule 51 = .ok (.ireturn, 1) := by decide +kernel
theorem dX11_rule_52 : decode cX11_rule 52 = .ok (.aload_n 0, 1) := by decide +kernel
theorem dX11_rule_53 : decode cX11_rule 53 = .ok (.getfield 41, 3) := by decide +kernel
theorem dX11_rule_56 : decode cX11_rule 56 = .ok (.aload_n 0, 1) := by decide +kernel
theorem dX11_rule_57 : decode cX11_rule 57 = .ok (.getfield 273, 3) := by decide +kernel
theorem dX11_rule_60 : decode cX11_rule 60 = .ok (.iload_n 1, 1) := by decide +kernel
theorem dX11_rule_61 : decode cX11_rule 61 = .ok (.iastore, 1) := by decide +kernel
theorem dX11_rule_62 : decode cX11_rule 62 = .ok (.aload_n 0, 1) := by decide +kernel
theorem dX11_rule_63 : decode cX11_rule 63 = .ok (.getfield 44, 3) := by decide +kernel
theorem dX11_rule_66 : decode cX11_rule 66 = .ok (.aload_n 0, 1) := by decide +kernel
theorem dX11_rule_67 : decode cX11_rule 67 = .ok (.getfield 273, 3) := by decide +kernel
theorem dX11_rule_70 : decode cX11_rule 70 = .ok (.iload_n 2, 1) := by decide +kernel
theorem dX11_rule_71 : decode cX11_rule 71 = .ok (.iastore, 1) := by decide +kernel
theorem dX11_rule_72 : decode cX11_rule 72 = .ok (.aload_n 0, 1) := by decide +kernel
theorem dX11_rule_73 : decode cX11_rule 73 = .ok (.getfield 47, 3) := by decide +kernel
theorem dX11_rule_76 : decode cX11_rule 76 = .ok (.aload_n 0, 1) := by decide +kernel
theorem dX11_rule_77 : decode cX11_rule 77 = .ok (.getfield 273, 3) := by decide +kernel
theorem dX11_rule_80 : decode cX11_rule 80 = .ok (.iload_n 3, 1) := by decide +kernel
theorem dX11_rule_81 : decode cX11_rule 81 = .ok (.iastore, 1) := by decide +kernel
theorem dX11_rule_82 : decode cX11_rule 82 = .ok (.aload_n 0, 1) := by decide +kernel
theorem dX11_rule_83 : decode cX11_rule 83 = .ok (.dup, 1) := by decide +kernel
theorem dX11_rule_84 : decode cX11_rule 84 = .ok (.getfield 273, 3) := by decide +kernel
theorem dX11_rule_87 : decode cX11_rule 87 = .ok (.iconst 1, 1) := by decide +kernel
theorem dX11_rule_88 : decode cX11_rule 88 = .ok (.iadd, 1) := by decide +kernel
theorem dX11_rule_89 : decode cX11_rule 89 = .ok (.putfield 273, 3) := by decide +kernel
theorem dX11_rule_92 : decode cX11_rule 92 = .ok (.aload_n 0, 1) := by decide +kernel
theorem dX11_rule_93 : decode cX11_rule 93 = .ok (.getfield 273, 3) := by decide +kernel
theorem dX11_rule_96 : decode cX11_rule 96 = .ok (.iconst 1, 1) := by decide +kernel
theorem dX11_rule_97 : decode cX11_rule 97 = .ok (.isub, 1) := by decide +kernel
theorem dX11_rule_98 : decode cX11_rule 98 = .ok (.ireturn, 1) := by decide +kernel
theorem dX11_clearRules_0 : decode cX11_clearRules 0 = .ok (.aload_n 0, 1) := by decide +kernel
theorem dX11_clearRules_1 : decode cX11_clearRules 1 = .ok (.getfield 273, 3) := by decide +kernel
theorem dX11_clearRules_4 : decode cX11_clearRules 4 = .ok (.istore_n 1, 1) := by decide +kernel
theorem dX11_clearRules_5 : decode cX11_clearRules 5 = .ok (.aload_n 0, 1) := by decide +kernel
theorem dX11_clearRules_6 : decode cX11_clearRules 6 = .ok (.iconst 0, 1) := by decide +kernel
theorem dX11_clearRules_7 : decode cX11_clearRules 7 = .ok (.putfield 273, 3) := by decide +kernel
theorem dX11_clearRules_10 : decode cX11_clearRules 10 = .ok (.iload_n 1, 1) := by decide +kernel
theorem dX11_clearRules_11 : decode cX11_clearRules 11 = .ok (.ireturn, 1) := by decide +kernel
theorem dX11_hasOuter_0 : decode cX11_hasOuter 0 = .ok (.iload_n 0, 1) := by decide +kernel
theorem dX11_hasOuter_1 : decode cX11_hasOuter 1 = .ok (.bipush 100, 2) := by decide +kernel
theorem dX11_hasOuter_3 : decode cX11_hasOuter 3 = .ok (.irem, 1) := by decide +kernel
theorem dX11_hasOuter_4 : decode cX11_hasOuter 4 = .ok (.istore_n 1, 1) := by decide +kernel
theorem dX11_hasOuter_5 : decode cX11_hasOuter 5 = .ok (.iload_n 0, 1) := by decide +kernel
theorem dX11_hasOuter_6 : decode cX11_hasOuter 6 = .ok (.bipush 100, 2) := by decide +kernel
theorem dX11_hasOuter_8 : decode cX11_hasOuter 8 = .ok (.idiv, 1) := by decide +kernel
theorem dX11_hasOuter_9 : decode cX11_hasOuter 9 = .ok (.iconst 1, 1) := by decide +kernel
theorem dX11_hasOuter_10 : decode cX11_hasOuter 10 = .ok (.if_icmp .ne 27, 3) := by decide +kernel
theorem dX11_hasOuter_13 : decode cX11_hasOuter 13 = .ok (.iload_n 1, 1) := by decide +kernel
theorem dX11_hasOuter_14 : decode cX11_hasOuter 14 = .ok (.bipush 9, 2) := by decide +kernel
theorem dX11_hasOuter_16 : decode cX11_hasOuter 16 = .ok (.irem, 1) := by decide +kernel
theorem dX11_hasOuter_17 : decode cX11_hasOuter 17 = .ok (.ifCond .eq 12, 3) := by decide +kernel
theorem dX11_hasOuter_20 : decode cX11_hasOuter 20 = .ok (.iload_n 1, 1) := by decide +kernel
theorem dX11_hasOuter_21 : decode cX11_hasOuter 21 = .ok (.bipush 9, 2) := by decide +kernel
theorem dX11_hasOuter_23 : decode cX11_hasOuter 23 = .ok (.irem, 1) := by decide +kernel
theorem dX11_hasOuter_24 : decode cX11_hasOuter 24 = .ok (.bipush 6, 2) := by decide +kernel
theorem dX11_hasOuter_26 : decode cX11_hasOuter 26 = .ok (.if_icmp .ne 7, 3) := by decide +kernel
theorem dX11_hasOuter_29 : decode cX11_hasOuter 29 = .ok (.iconst 1, 1) := by decide +kernel
theorem dX11_hasOuter_30 : decode cX11_hasOuter 30 = .ok (.goto 11, 3) := by decide +kernel
theorem dX11_hasOuter_33 : decode cX11_hasOuter 33 = .ok (.iconst 0, 1) := by decide +kernel
theorem dX11_hasOuter_34 : decode cX11_hasOuter 34 = .ok (.goto 7, 3) := by decide +kernel
theorem dX11_hasOuter_37 : decode cX11_hasOuter 37 = .ok (.iload_n 1, 1) := by decide +kernel
theorem dX11_hasOuter_38 : decode cX11_hasOuter 38 = .ok (.invokestatic 162, 3) := by decide +kernel
theorem dX11_hasOuter_41 : decode cX11_hasOuter 41 = .ok (.ireturn, 1) := by decide +kernel
theorem dX11_isOneRow_0 : decode cX11_isOneRow 0 = .ok (.iconst 0, 1) := by decide +kernel
theorem dX11_isOneRow_1 : decode cX11_isOneRow 1 = .ok (.istore_n 1, 1) := by decide +kernel
theorem dX11_isOneRow_2 : decode cX11_isOneRow 2 = .ok (.iconst 0, 1) := by decide +kernel
theorem dX11_isOneRow_3 : decode cX11_isOneRow 3 = .ok (.istore_n 2, 1) := by decide +kernel
theorem dX11_isOneRow_4 : decode cX11_isOneRow 4 = .ok (.iload_n 2, 1) := by decide +kernel
theorem dX11_isOneRow_5 : decode cX11_isOneRow 5 = .ok (.bipush 34, 2) := by decide +kernel
theorem dX11_isOneRow_7 : decode cX11_isOneRow 7 = .ok (.if_icmp .ge 38, 3) := by decide +kernel
theorem dX11_isOneRow_10 : decode cX11_isOneRow 10 = .ok (.iload_n 1, 1) := by decide +kernel
theorem dX11_isOneRow_11 : decode cX11_isOneRow 11 = .ok (.aload_n 0, 1) := by decide +kernel
theorem dX11_isOneRow_12 : decode cX11_isOneRow 12 = .ok (.getfield 56, 3) := by decide +kernel
theorem dX11_isOneRow_15 : decode cX11_isOneRow 15 = .ok (.iload_n 2, 1) := by decide +kernel
theorem dX11_isOneRow_16 : decode cX11_isOneRow 16 = .ok (.iaload, 1) := by decide +kernel
theorem dX11_isOneRow_17 : decode cX11_isOneRow 17 = .ok (.aload_n 0, 1) := by decide +kernel
theorem dX11_isOneRow_18 : decode cX11_isOneRow 18 = .ok (.getfield 59, 3) := by decide +kernel
theorem dX11_isOneRow_21 : decode cX11_isOneRow 21 = .ok (.iload_n 2, 1) := by decide +kernel
theorem dX11_isOneRow_22 : decode cX11_isOneRow 22 = .ok (.iaload, 1) := by decide +kernel
theorem dX11_isOneRow_23 : decode cX11_isOneRow 23 = .ok (.iadd, 1) := by decide +kernel
theorem dX11_isOneRow_24 : decode cX11_isOneRow 24 = .ok (.ifCond .le 12, 3) := by decide +kernel
theorem dX11_isOneRow_27 : decode cX11_isOneRow 27 = .ok (.iconst 1, 1) := by decide +kernel
theorem dX11_isOneRow_28 : decode cX11_isOneRow 28 = .ok (.iload_n 2, 1) := by decide +kernel
theorem dX11_isOneRow_29 : decode cX11_isOneRow 29 = .ok (.invokestatic 165, 3) := by decide +kernel
theorem dX11_isOneRow_32 : decode cX11_isOneRow 32 = .ok (.ishl, 1) := by decide +kernel
theorem dX11_isOneRow_33 : decode cX11_isOneRow 33 = .ok (.goto 4, 3) := by decide +kernel
theorem dX11_isOneRow_36 : decode cX11_isOneRow 36 = .ok (.iconst 0, 1) := by decide +kernel
theorem dX11_isOneRow_37 : decode cX11_isOneRow 37 = .ok (.ior, 1) := by decide +kernel
theorem dX11_isOneRow_38 : decode cX11_isOneRow 38 = .ok (.istore_n 1, 1) := by decide +kernel
theorem dX11_isOneRow_39 : decode cX11_isOneRow 39 = .ok (.iinc 2 1, 3) := by decide +kernel
theorem dX11_isOneRow_42 : decode cX11_isOneRow 42 = .ok (.goto (-38), 3) := by decide +kernel
theorem dX11_isOneRow_45 : decode cX11_isOneRow 45 = .ok (.iload_n 1, 1) := by decide +kernel
theorem dX11_isOneRow_46 : decode cX11_isOneRow 46 = .ok (.iconst 1, 1) := by decide +kernel
theorem dX11_isOneRow_47 : decode cX11_isOneRow 47 = .ok (.if_icmp .eq 19, 3) := by decide +kernel
theorem dX11_isOneRow_50 : decode cX11_isOneRow 50 = .ok (.iload_n 1, 1) := by decide +kernel
theorem dX11_isOneRow_51 : decode cX11_isOneRow 51 = .ok (.iconst 2, 1) := by decide +kernel
theorem dX11_isOneRow_52 : decode cX11_isOneRow 52 = .ok (.if_icmp .eq 14, 3) := by decide +kernel
theorem dX11_isOneRow_55 : decode cX11_isOneRow 55 = .ok (.iload_n 1, 1) := by decide +kernel
theorem dX11_isOneRow_56 : decode cX11_isOneRow 56 = .ok (.iconst 4, 1) := by decide +kernel
theorem dX11_isOneRow_57 : decode cX11_isOneRow 57 = .ok (.if_icmp .eq 9, 3) := by decide +kernel
theorem dX11_isOneRow_60 : decode cX11_isOneRow 60 = .ok (.iload_n 1, 1) := by decide +kernel
theorem dX11_isOneRow_61 : decode cX11_isOneRow 61 = .ok (.bipush 8, 2) := by decide +kernel
theorem dX11_isOneRow_63 : decode cX11_isOneRow 63 = .ok (.if_icmp .ne 7, 3) := by decide +kernel
theorem dX11_isOneRow_66 : decode cX11_isOneRow 66 = .ok (.iconst 1, 1) := by decide +kernel
theorem dX11_isOneRow_67 : decode cX11_isOneRow 67 = .ok (.goto 4, 3) := by decide +kernel
theorem dX11_isOneRow_70 : decode cX11_isOneRow 70 = .ok (.iconst 0, 1) := by decide +kernel
theorem dX11_isOneRow_71 : decode cX11_isOneRow 71 = .ok (.ireturn, 1) := by decide +kernel
theorem dX11_conditionsOfWay_0 : decode cX11_conditionsOfWay 0 = .ok (.iconst 0, 1) := by decide +kernel
theorem dX11_conditionsOfWay_1 : decode cX11_conditionsOfWay 1 = .ok (.istore_n 1, 1) := by decide +kernel
theorem dX11_conditionsOfWay_2 : decode cX11_conditionsOfWay 2 = .ok (.iconst 0, 1) := by decide +kernel
theorem dX11_conditionsOfWay_3 : decode cX11_conditionsOfWay 3 = .ok (.istore_n 2, 1) := by decide +kernel
theorem dX11_conditionsOfWay_4 : decode cX11_conditionsOfWay 4 = .ok (.iconst 0, 1) := by decide +kernel
theorem dX11_conditionsOfWay_5 : decode cX11_conditionsOfWay 5 = .ok (.istore_n 3, 1) := by decide +kernel
theorem dX11_conditionsOfWay_6 : decode cX11_conditionsOfWay 6 = .ok (.iconst 1, 1) := by decide +kernel
theorem dX11_conditionsOfWay_7 : decode cX11_conditionsOfWay 7 = .ok (.istore 4, 2) := by decide +kernel
theorem dX11_conditionsOfWay_9 : decode cX11_conditionsOfWay 9 = .ok (.iconst 0, 1) := by decide +kernel
theorem dX11_conditionsOfWay_10 : decode cX11_conditionsOfWay 10 = .ok (.istore 5, 2) := by decide +kernel
theorem dX11_conditionsOfWay_12 : decode cX11_conditionsOfWay 12 = .ok (.iload 5, 2) := by decide +kernel
theorem dX11_conditionsOfWay_14 : decode cX11_conditionsOfWay 14 = .ok (.iconst 5, 1) := by decide +kernel
theorem dX11_conditionsOfWay_15 : decode cX11_conditionsOfWay 15 = .ok (.if_icmp .ge 127, 3) := by decide +kernel
theorem dX11_conditionsOfWay_18 : decode cX11_conditionsOfWay 18 = .ok (.iload 4, 2) := by decide +kernel
theorem dX11_conditionsOfWay_20 : decode cX11_conditionsOfWay 20 = .ok (.ifCond .eq 20, 3) := by decide +kernel
theorem dX11_conditionsOfWay_23 : decode cX11_conditionsOfWay 23 = .ok (.aload_n 0, 1) := by decide +kernel
theorem dX11_conditionsOfWay_24 : decode cX11_conditionsOfWay 24 = .ok (.getfield 65, 3) := by decide +kernel
theorem dX11_conditionsOfWay_27 : decode cX11_conditionsOfWay 27 = .ok (.iload 5, 2) := by decide +kernel
theorem dX11_conditionsOfWay_29 : decode cX11_conditionsOfWay 29 = .ok (.iaload, 1) := by decide +kernel
theorem dX11_conditionsOfWay_30 : decode cX11_conditionsOfWay 30 = .ok (.invokestatic 276, 3) := by decide +kernel
theorem dX11_conditionsOfWay_33 : decode cX11_conditionsOfWay 33 = .ok (.ifCond .eq 7, 3) := by decide +kernel
theorem dX11_conditionsOfWay_36 : decode cX11_conditionsOfWay 36 = .ok (.iconst 1, 1) := by decide +kernel
theorem dX11_conditionsOfWay_37 : decode cX11_conditionsOfWay 37 = .ok (.goto 4, 3) := by decide +kernel
theorem dX11_conditionsOfWay_40 : decode cX11_conditionsOfWay 40 = .ok (.iconst 0, 1) := by decide +kernel
theorem dX11_conditionsOfWay_41 : decode cX11_conditionsOfWay 41 = .ok (.istore 4, 2) := by decide +kernel
theorem dX11_conditionsOfWay_43 : decode cX11_conditionsOfWay 43 = .ok (.aload_n 0, 1) := by decide +kernel
theorem dX11_conditionsOfWay_44 : decode cX11_conditionsOfWay 44 = .ok (.getfield 65, 3) := by decide +kernel
theorem dX11_conditionsOfWay_47 : decode cX11_conditionsOfWay 47 = .ok (.iload 5, 2) := by decide +kernel
theorem dX11_conditionsOfWay_49 : decode cX11_conditionsOfWay 49 = .ok (.iaload, 1) := by decide +kernel
theorem dX11_conditionsOfWay_50 : decode cX11_conditionsOfWay 50 = .ok (.bipush 100, 2) := by decide +kernel
theorem dX11_conditionsOfWay_52 : decode cX11_conditionsOfWay 52 = .ok (.idiv, 1) := by decide +kernel
theorem dX11_conditionsOfWay_53 : decode cX11_conditionsOfWay 53 = .ok (.iconst 1, 1) := by decide +kernel
theorem dX11_conditionsOfWay_54 : decode cX11_conditionsOfWay 54 = .ok (.if_icmp .ne 49, 3) := by decide +kernel
theorem dX11_conditionsOfWay_57 : decode cX11_conditionsOfWay 57 = .ok (.iinc 1 1, 3) := by decide +kernel
theorem dX11_conditionsOfWay_60 : decode cX11_conditionsOfWay 60 = .ok (.iconst 1, 1) := by decide +kernel
theorem dX11_conditionsOfWay_61 : decode cX11_conditionsOfWay 61 = .ok (.istore 6, 2) := by decide +kernel
theorem dX11_conditionsOfWay_63 : decode cX11_conditionsOfWay 63 = .ok (.iload 6, 2) := by decide +kernel
theorem dX11_conditionsOfWay_65 : decode cX11_conditionsOfWay 65 = .ok (.iload 5, 2) := by decide +kernel
theorem dX11_conditionsOfWay_67 : decode cX11_conditionsOfWay 67 = .ok (.if_icmp .ge 36, 3) := by decide +kernel
theorem dX11_conditionsOfWay_70 : decode cX11_conditionsOfWay 70 = .ok (.iload_n 3, 1) := by decide +kernel
theorem dX11_conditionsOfWay_71 : decode cX11_conditionsOfWay 71 = .ok (.ifCond .ne 20, 3) := by decide +kernel
theorem dX11_conditionsOfWay_74 : decode cX11_conditionsOfWay 74 = .ok (.aload_n 0, 1) := by decide +kernel
theorem dX11_conditionsOfWay_75 : decode cX11_conditionsOfWay 75 = .ok (.getfield 65, 3) := by decide +kernel
theorem dX11_conditionsOfWay_78 : decode cX11_conditionsOfWay 78 = .ok (.iload 6, 2) := by decide +kernel
theorem dX11_conditionsOfWay_80 : decode cX11_conditionsOfWay 80 = .ok (.iaload, 1) := by decide +kernel
theorem dX11_conditionsOfWay_81 : decode cX11_conditionsOfWay 81 = .ok (.aload_n 0, 1) := by decide +kernel
theorem dX11_conditionsOfWay_82 : decode cX11_conditionsOfWay 82 = .ok (.getfield 65, 3) := by decide +kernel
theorem dX11_conditionsOfWay_85 : decode cX11_conditionsOfWay 85 = .ok (.iload 5, 2) := by decide +kernel
theorem dX11_conditionsOfWay_87 : decode cX11_conditionsOfWay 87 = .ok (.iaload, 1) := by decide +kernel
theorem dX11_conditionsOfWay_88 : decode cX11_conditionsOfWay 88 = .ok (.if_icmp .ne 7, 3) := by decide +kernel
theorem dX11_conditionsOfWay_91 : decode cX11_conditionsOfWay 91 = .ok (.iconst 1, 1) := by decide +kernel
theorem dX11_conditionsOfWay_92 : decode cX11_conditionsOfWay 92 = .ok (.goto 4, 3) := by decide +kernel
theorem dX11_conditionsOfWay_95 : decode cX11_conditionsOfWay 95 = .ok (.iconst 0, 1) := by decide +kernel
theorem dX11_conditionsOfWay_96 : decode cX11_conditionsOfWay 96 = .ok (.istore_n 3, 1) := by decide +kernel
theorem dX11_conditionsOfWay_97 : decode cX11_conditionsOfWay 97 = .ok (.iinc 6 1, 3) := by decide +kernel
theorem dX11_conditionsOfWay_100 : decode cX11_conditionsOfWay 100 = .ok (.goto (-37), 3) := by decide +kernel
theorem dX11_conditionsOfWay_103 : decode cX11_conditionsOfWay 103 = .ok (.iload_n 2, 1) := by decide +kernel
theorem dX11_conditionsOfWay_104 : decode cX11_conditionsOfWay 104 = .ok (.aload_n 0, 1) := by decide +kernel
theorem dX11_conditionsOfWay_105 : decode cX11_conditionsOfWay 105 = .ok (.getfield 65, 3) := by decide +kernel
theorem dX11_conditionsOfWay_108 : decode cX11_conditionsOfWay 108 = .ok (.iload 5, 2) := by decide +kernel
theorem dX11_conditionsOfWay_110 : decode cX11_conditionsOfWay 110 = .ok (.iaload, 1) := by decide +kernel
theorem dX11_conditionsOfWay_111 : decode cX11_conditionsOfWay 111 = .ok (.bipush 100, 2) := by decide +kernel
theorem dX11_conditionsOfWay_113 : decode cX11_conditionsOfWay 113 = .ok (.idiv, 1) := by decide +kernel
theorem dX11_conditionsOfWay_114 : decode cX11_conditionsOfWay 114 = .ok (.iconst 2, 1) := by decide +kernel
theorem dX11_conditionsOfWay_115 : decode cX11_conditionsOfWay 115 = .ok (.if_icmp .ne 18, 3) := by decide +kernel
theorem dX11_conditionsOfWay_118 : decode cX11_conditionsOfWay 118 = .ok (.iload 5, 2) := by decide +kernel
theorem dX11_conditionsOfWay_120 : decode cX11_conditionsOfWay 120 = .ok (.iconst 5, 1) := by decide +kernel
theorem dX11_conditionsOfWay_121 : decode cX11_conditionsOfWay 121 = .ok (.aload_n 0, 1) := by decide +kernel
theorem dX11_conditionsOfWay_122 : decode cX11_conditionsOfWay 122 = .ok (.getfield 158, 3) := by decide +kernel
theorem dX11_conditionsOfWay_125 : decode cX11_conditionsOfWay 125 = .ok (.isub, 1) := by decide +kernel
theorem dX11_conditionsOfWay_126 : decode cX11_conditionsOfWay 126 = .ok (.if_icmp .ge 7, 3) := by decide +kernel
theorem dX11_conditionsOfWay_129 : decode cX11_conditionsOfWay 129 = .ok (.iconst 1, 1) := by decide +kernel
theorem dX11_conditionsOfWay_130 : decode cX11_conditionsOfWay 130 = .ok (.goto 4, 3) := by decide +kernel
theorem dX11_conditionsOfWay_133 : decode cX11_conditionsOfWay 133 = .ok (.iconst 0, 1) := by decide +kernel
theorem dX11_conditionsOfWay_134 : decode cX11_conditionsOfWay 134 = .ok (.iadd, 1) := by decide +kernel
theorem dX11_conditionsOfWay_135 : decode cX11_conditionsOfWay 135 = .ok (.istore_n 2, 1) := by decide +kernel
theorem dX11_conditionsOfWay_136 : decode cX11_conditionsOfWay 136 = .ok (.iinc 5 1, 3) := by decide +kernel
theorem dX11_conditionsOfWay_139 : decode cX11_conditionsOfWay 139 = .ok (.goto (-127), 3) := by decide +kernel
theorem dX11_conditionsOfWay_142 : decode cX11_conditionsOfWay 142 = .ok (.iload_n 1, 1) := by decide +kernel
theorem dX11_conditionsOfWay_143 : decode cX11_conditionsOfWay 143 = .ok (.iconst 4, 1) := by decide +kernel
theorem dX11_conditionsOfWay_144 : decode cX11_conditionsOfWay 144 = .ok (.if_icmp .ne 7, 3) := by decide +kernel
theorem dX11_conditionsOfWay_147 : decode cX11_conditionsOfWay 147 = .ok (.iconst 1, 1) := by decide +kernel
theorem dX11_conditionsOfWay_148 : decode cX11_conditionsOfWay 148 = .ok (.goto 12, 3) := by decide +kernel
theorem dX11_conditionsOfWay_151 : decode cX11_conditionsOfWay 151 = .ok (.iload_n 1, 1) := by decide +kernel
theorem dX11_conditionsOfWay_152 : decode cX11_conditionsOfWay 152 = .ok (.ifCond .ne 7, 3) := by decide +kernel
theorem dX11_conditionsOfWay_155 : decode cX11_conditionsOfWay 155 = .ok (.iconst 2, 1) := by decide +kernel
theorem dX11_conditionsOfWay_156 : decode cX11_conditionsOfWay 156 = .ok (.goto 4, 3) := by decide +kernel
theorem dX11_conditionsOfWay_159 : decode cX11_conditionsOfWay 159 = .ok (.iconst 0, 1) := by decide +kernel
theorem dX11_conditionsOfWay_160 : decode cX11_conditionsOfWay 160 = .ok (.istore 5, 2) := by decide +kernel
theorem dX11_conditionsOfWay_162 : decode cX11_conditionsOfWay 162 = .ok (.iload 5, 2) := by decide +kernel
theorem dX11_conditionsOfWay_164 : decode cX11_conditionsOfWay 164 = .ok (.aload_n 0, 1) := by decide +kernel
theorem dX11_conditionsOfWay_165 : decode cX11_conditionsOfWay 165 = .ok (.getfield 65, 3) := by decide +kernel
theorem dX11_conditionsOfWay_168 : decode cX11_conditionsOfWay 168 = .ok (.iconst 0, 1) := by decide +kernel
theorem dX11_conditionsOfWay_169 : decode cX11_conditionsOfWay 169 = .ok (.iaload, 1) := by decide +kernel
theorem dX11_conditionsOfWay_170 : decode cX11_conditionsOfWay 170 = .ok (.invokestatic 162, 3) := by decide +kernel
theorem dX11_conditionsOfWay_173 : decode cX11_conditionsOfWay 173 = .ok (.ifCond .eq 7, 3) := by decide +kernel
theorem dX11_conditionsOfWay_176 : decode cX11_conditionsOfWay 176 = .ok (.iconst 4, 1) := by decide +kernel
theorem dX11_conditionsOfWay_177 : decode cX11_conditionsOfWay 177 = .ok (.goto 4, 3) := by decide +kernel
theorem dX11_conditionsOfWay_180 : decode cX11_conditionsOfWay 180 = .ok (.iconst 0, 1) := by decide +kernel
theorem dX11_conditionsOfWay_181 : decode cX11_conditionsOfWay 181 = .ok (.ior, 1) := by decide +kernel
theorem dX11_conditionsOfWay_182 : decode cX11_conditionsOfWay 182 = .ok (.istore 5, 2) := by decide +kernel
theorem dX11_conditionsOfWay_184 : decode cX11_conditionsOfWay 184 = .ok (.iload 5, 2) := by decide +kernel
theorem dX11_conditionsOfWay_186 : decode cX11_conditionsOfWay 186 = .ok (.iload 4, 2) := by decide +kernel
theorem dX11_conditionsOfWay_188 : decode cX11_conditionsOfWay 188 = .ok (.ifCond .eq 8, 3) := by decide +kernel
theorem dX11_conditionsOfWay_191 : decode cX11_conditionsOfWay 191 = .ok (.bipush 8, 2) := by decide +kernel
theorem dX11_conditionsOfWay_193 : decode cX11_conditionsOfWay 193 = .ok (.goto 4, 3) := by decide +kernel
theorem dX11_conditionsOfWay_196 : decode cX11_conditionsOfWay 196 = .ok (.iconst 0, 1) := by decide +kernel
theorem dX11_conditionsOfWay_197 : decode cX11_conditionsOfWay 197 = .ok (.ior, 1) := by decide +kernel
theorem dX11_conditionsOfWay_198 : decode cX11_conditionsOfWay 198 = .ok (.istore 5, 2) := by decide +kernel
theorem dX11_conditionsOfWay_200 : decode cX11_conditionsOfWay 200 = .ok (.iload 5, 2) := by decide +kernel
theorem dX11_conditionsOfWay_202 : decode cX11_conditionsOfWay 202 = .ok (.aload_n 0, 1) := by decide +kernel
theorem dX11_conditionsOfWay_203 : decode cX11_conditionsOfWay 203 = .ok (.invokevirtual 279, 3) := by decide +kernel
theorem dX11_conditionsOfWay_206 : decode cX11_conditionsOfWay 206 = .ok (.ifCond .eq 8, 3) := by decide +kernel
theorem dX11_conditionsOfWay_209 : decode cX11_conditionsOfWay 209 = .ok (.bipush 16, 2) := by decide +kernel
theorem dX11_conditionsOfWay_211 : decode cX11_conditionsOfWay 211 = .ok (.goto 4, 3) := by decide +kernel
theorem dX11_conditionsOfWay_214 : decode cX11_conditionsOfWay 214 = .ok (.iconst 0, 1) := by decide +kernel
theorem dX11_conditionsOfWay_215 : decode cX11_conditionsOfWay 215 = .ok (.ior, 1) := by decide +kernel
theorem dX11_conditionsOfWay_216 : decode cX11_conditionsOfWay 216 = .ok (.istore 5, 2) := by decide +kernel
theorem dX11_conditionsOfWay_218 : decode cX11_conditionsOfWay 218 = .ok (.iload 5, 2) := by decide +kernel
theorem dX11_conditionsOfWay_220 : decode cX11_conditionsOfWay 220 = .ok (.aload_n 0, 1) := by decide +kernel
theorem dX11_conditionsOfWay_221 : decode cX11_conditionsOfWay 221 = .ok (.getfield 158, 3) := by decide +kernel
theorem dX11_conditionsOfWay_224 : decode cX11_conditionsOfWay 224 = .ok (.ifCond .ne 8, 3) := by decide +kernel
theorem dX11_conditionsOfWay_227 : decode cX11_conditionsOfWay 227 = .ok (.bipush 32, 2) := by decide +kernel
theorem dX11_conditionsOfWay_229 : decode cX11_conditionsOfWay 229 = .ok (.goto 4, 3) := by decide +kernel
theorem dX11_conditionsOfWay_232 : decode cX11_conditionsOfWay 232 = .ok (.iconst 0, 1) := by decide +kernel
theorem dX11_conditionsOfWay_233 : decode cX11_conditionsOfWay 233 = .ok (.ior, 1) := by decide +kernel
theorem dX11_conditionsOfWay_234 : decode cX11_conditionsOfWay 234 = .ok (.istore 5, 2) := by decide +kernel
theorem dX11_conditionsOfWay_236 : decode cX11_conditionsOfWay 236 = .ok (.iload 5, 2) := by decide +kernel
theorem dX11_conditionsOfWay_238 : decode cX11_conditionsOfWay 238 = .ok (.iload_n 3, 1) := by decide +kernel
theorem dX11_conditionsOfWay_239 : decode cX11_conditionsOfWay 239 = .ok (.ifCond .eq 8, 3) := by decide +kernel
theorem dX11_conditionsOfWay_242 : decode cX11_conditionsOfWay 242 = .ok (.bipush 64, 2) := by decide +kernel
theorem dX11_conditionsOfWay_244 : decode cX11_conditionsOfWay 244 = .ok (.goto 4, 3) := by decide +kernel
theorem dX11_conditionsOfWay_247 : decode cX11_conditionsOfWay 247 = .ok (.iconst 0, 1) := by decide +kernel
theorem dX11_conditionsOfWay_248 : decode cX11_conditionsOfWay 248 = .ok (.ior, 1) := by decide +kernel
theorem dX11_conditionsOfWay_249 : decode cX11_conditionsOfWay 249 = .ok (.istore 5, 2) := by decide +kernel
theorem dX11_conditionsOfWay_251 : decode cX11_conditionsOfWay 251 = .ok (.iload 5, 2) := by decide +kernel
theorem dX11_conditionsOfWay_253 : decode cX11_conditionsOfWay 253 = .ok (.iload_n 2, 1) := by decide +kernel
theorem dX11_conditionsOfWay_254 : decode cX11_conditionsOfWay 254 = .ok (.iconst 3, 1) := by decide +kernel
theorem dX11_conditionsOfWay_255 : decode cX11_conditionsOfWay 255 = .ok (.if_icmp .lt 9, 3) := by decide +kernel
theorem dX11_conditionsOfWay_258 : decode cX11_conditionsOfWay 258 = .ok (.sipush 128, 3) := by decide +kernel
theorem dX11_conditionsOfWay_261 : decode cX11_conditionsOfWay 261 = .ok (.goto 4, 3) := by decide +kernel
theorem dX11_conditionsOfWay_264 : decode cX11_conditionsOfWay 264 = .ok (.iconst 0, 1) := by decide +kernel
theorem dX11_conditionsOfWay_265 : decode cX11_conditionsOfWay 265 = .ok (.ior, 1) := by decide +kernel
theorem dX11_conditionsOfWay_266 : decode cX11_conditionsOfWay 266 = .ok (.ireturn, 1) := by decide +kernel
theorem dX11_conditionsOfSeven_0 : decode cX11_conditionsOfSeven 0 = .ok (.iconst 1, 1) := by decide +kernel
theorem dX11_conditionsOfSeven_1 : decode cX11_conditionsOfSeven 1 = .ok (.istore_n 1, 1) := by decide +kernel
theorem dX11_conditionsOfSeven_2 : decode cX11_conditionsOfSeven 2 = .ok (.iconst 0, 1) := by decide +kernel
theorem dX11_conditionsOfSeven_3 : decode cX11_conditionsOfSeven 3 = .ok (.istore_n 2, 1) := by decide +kernel
theorem dX11_conditionsOfSeven_4 : decode cX11_conditionsOfSeven 4 = .ok (.iload_n 2, 1) := by decide +kernel
theorem dX11_conditionsOfSeven_5 : decode cX11_conditionsOfSeven 5 = .ok (.bipush 34, 2) := by decide +kernel
theorem dX11_conditionsOfSeven_7 : decode cX11_conditionsOfSeven 7 = .ok (.if_icmp .ge 35, 3) := by decide +kernel
theorem dX11_conditionsOfSeven_10 : decode cX11_conditionsOfSeven 10 = .ok (.iload_n 1, 1) := by decide +kernel
theorem dX11_conditionsOfSeven_11 : decode cX11_conditionsOfSeven 11 = .ok (.ifCond .eq 23, 3) := by decide +kernel
theorem dX11_conditionsOfSeven_14 : decode cX11_conditionsOfSeven 14 = .ok (.aload_n 0, 1) := by decide +kernel
theorem dX11_conditionsOfSeven_15 : decode cX11_conditionsOfSeven 15 = .ok (.getfield 56, 3) := by decide +kernel
theorem dX11_conditionsOfSeven_18 : decode cX11_conditionsOfSeven 18 = .ok (.iload_n 2, 1) := by decide +kernel
theorem dX11_conditionsOfSeven_19 : decode cX11_conditionsOfSeven 19 = .ok (.iaload, 1) := by decide +kernel
theorem dX11_conditionsOfSeven_20 : decode cX11_conditionsOfSeven 20 = .ok (.ifCond .eq 10, 3) := by decide +kernel
theorem dX11_conditionsOfSeven_23 : decode cX11_conditionsOfSeven 23 = .ok (.iload_n 2, 1) := by decide +kernel
theorem dX11_conditionsOfSeven_24 : decode cX11_conditionsOfSeven 24 = .ok (.invokestatic 162, 3) := by decide +kernel
theorem dX11_conditionsOfSeven_27 : decode cX11_conditionsOfSeven 27 = .ok (.ifCond .eq 7, 3) := by decide +kernel
theorem dX11_conditionsOfSeven_30 : decode cX11_conditionsOfSeven 30 = .ok (.iconst 1, 1) := by decide +kernel
theorem dX11_conditionsOfSeven_31 : decode cX11_conditionsOfSeven 31 = .ok (.goto 4, 3) := by decide +kernel
theorem dX11_conditionsOfSeven_34 : decode cX11_conditionsOfSeven 34 = .ok (.iconst 0, 1) := by decide +kernel
theorem dX11_conditionsOfSeven_35 : decode cX11_conditionsOfSeven 35 = .ok (.istore_n 1, 1) := by decide +kernel
theorem dX11_conditionsOfSeven_36 : decode cX11_conditionsOfSeven 36 = .ok (.iinc 2 1, 3) := by decide +kernel
theorem dX11_conditionsOfSeven_39 : decode cX11_conditionsOfSeven 39 = .ok (.goto (-35), 3) := by decide +kernel
theorem dX11_conditionsOfSeven_42 : decode cX11_conditionsOfSeven 42 = .ok (.iload_n 1, 1) := by decide +kernel
theorem dX11_conditionsOfSeven_43 : decode cX11_conditionsOfSeven 43 = .ok (.ifCond .eq 8, 3) := by decide +kernel
theorem dX11_conditionsOfSeven_46 : decode cX11_conditionsOfSeven 46 = .ok (.bipush 12, 2) := by decide +kernel
theorem dX11_conditionsOfSeven_48 : decode cX11_conditionsOfSeven 48 = .ok (.goto 4, 3) := by decide +kernel
theorem dX11_conditionsOfSeven_51 : decode cX11_conditionsOfSeven 51 = .ok (.iconst 0, 1) := by decide +kernel
theorem dX11_conditionsOfSeven_52 : decode cX11_conditionsOfSeven 52 = .ok (.aload_n 0, 1) := by decide +kernel
theorem dX11_conditionsOfSeven_53 : decode cX11_conditionsOfSeven 53 = .ok (.invokevirtual 279, 3) := by decide +kernel
theorem dX11_conditionsOfSeven_56 : decode cX11_conditionsOfSeven 56 = .ok (.ifCond .eq 8, 3) := by decide +kernel
theorem dX11_conditionsOfSeven_59 : decode cX11_conditionsOfSeven 59 = .ok (.bipush 16, 2) := by decide +kernel
theorem dX11_conditionsOfSeven_61 : decode cX11_conditionsOfSeven 61 = .ok (.goto 4, 3) := by decide +kernel
theorem dX11_conditionsOfSeven_64 : decode cX11_conditionsOfSeven 64 = .ok (.iconst 0, 1) := by decide +kernel
theorem dX11_conditionsOfSeven_65 : decode cX11_conditionsOfSeven 65 = .ok (.ior, 1) := by decide +kernel
theorem dX11_conditionsOfSeven_66 : decode cX11_conditionsOfSeven 66 = .ok (.bipush 32, 2) := by decide +kernel
theorem dX11_conditionsOfSeven_68 : decode cX11_conditionsOfSeven 68 = .ok (.ior, 1) := by decide +kernel
theorem dX11_conditionsOfSeven_69 : decode cX11_conditionsOfSeven 69 = .ok (.sipush 256, 3) := by decide +kernel
theorem dX11_conditionsOfSeven_72 : decode cX11_conditionsOfSeven 72 = .ok (.ior, 1) := by decide +kernel
theorem dX11_conditionsOfSeven_73 : decode cX11_conditionsOfSeven 73 = .ok (.ireturn, 1) := by decide +kernel
theorem dX11_sumOf_0 : decode cX11_sumOf 0 = .ok (.iconst 0, 1) := by decide +kernel
theorem dX11_sumOf_1 : decode cX11_sumOf 1 = .ok (.istore_n 2, 1) := by decide +kernel
theorem dX11_sumOf_2 : decode cX11_sumOf 2 = .ok (.iconst 0, 1) := by decide +kernel
theorem dX11_sumOf_3 : decode cX11_sumOf 3 = .ok (.istore_n 3, 1) := by decide +kernel
theorem dX11_sumOf_4 : decode cX11_sumOf 4 = .ok (.iload_n 3, 1) := by decide +kernel
theorem dX11_sumOf_5 : decode cX11_sumOf 5 = .ok (.aload_n 0, 1) := by decide +kernel
theorem dX11_sumOf_6 : decode cX11_sumOf 6 = .ok (.getfield 273, 3) := by decide +kernel
theorem dX11_sumOf_9 : decode cX11_sumOf 9 = .ok (.if_icmp .ge 115, 3) := by decide +kernel
theorem dX11_sumOf_12 : decode cX11_sumOf 12 = .ok (.iload_n 1, 1) := by decide +kernel
theorem dX11_sumOf_13 : decode cX11_sumOf 13 = .ok (.aload_n 0, 1) := by decide +kernel
theorem dX11_sumOf_14 : decode cX11_sumOf 14 = .ok (.getfield 41, 3) := by decide +kernel
theorem dX11_sumOf_17 : decode cX11_sumOf 17 = .ok (.iload_n 3, 1) := by decide +kernel
theorem dX11_sumOf_18 : decode cX11_sumOf 18 = .ok (.iaload, 1) := by decide +kernel
theorem dX11_sumOf_19 : decode cX11_sumOf 19 = .ok (.ishr, 1) := by decide +kernel
theorem dX11_sumOf_20 : decode cX11_sumOf 20 = .ok (.iconst 1, 1) := by decide +kernel
theorem dX11_sumOf_21 : decode cX11_sumOf 21 = .ok (.iand, 1) := by decide +kernel
theorem dX11_sumOf_22 : decode cX11_sumOf 22 = .ok (.iconst 1, 1) := by decide +kernel
theorem dX11_sumOf_23 : decode cX11_sumOf 23 = .ok (.if_icmp .ne 7, 3) := by decide +kernel
theorem dX11_sumOf_26 : decode cX11_sumOf 26 = .ok (.iconst 1, 1) := by decide +kernel
theorem dX11_sumOf_27 : decode cX11_sumOf 27 = .ok (.goto 4, 3) := by decide +kernel
theorem dX11_sumOf_30 : decode cX11_sumOf 30 = .ok (.iconst 0, 1) := by decide +kernel
theorem dX11_sumOf_31 : decode cX11_sumOf 31 = .ok (.istore 4, 2) := by decide +kernel
theorem dX11_sumOf_33 : decode cX11_sumOf 33 = .ok (.iconst 0, 1) := by decide +kernel
theorem dX11_sumOf_34 : decode cX11_sumOf 34 = .ok (.istore 5, 2) := by decide +kernel
theorem dX11_sumOf_36 : decode cX11_sumOf 36 = .ok (.iload 5, 2) := by decide +kernel
theorem dX11_sumOf_38 : decode cX11_sumOf 38 = .ok (.aload_n 0, 1) := by decide +kernel
theorem dX11_sumOf_39 : decode cX11_sumOf 39 = .ok (.getfield 273, 3) := by decide +kernel
theorem dX11_sumOf_42 : decode cX11_sumOf 42 = .ok (.if_icmp .ge 58, 3) := by decide +kernel
theorem dX11_sumOf_45 : decode cX11_sumOf 45 = .ok (.iload 4, 2) := by decide +kernel
theorem dX11_sumOf_47 : decode cX11_sumOf 47 = .ok (.ifCond .eq 44, 3) := by decide +kernel
theorem dX11_sumOf_50 : decode cX11_sumOf 50 = .ok (.iload 5, 2) := by decide +kernel
theorem dX11_sumOf_52 : decode cX11_sumOf 52 = .ok (.iload_n 3, 1) := by decide +kernel
theorem dX11_sumOf_53 : decode cX11_sumOf 53 = .ok (.if_icmp .eq 34, 3) := by decide +kernel
theorem dX11_sumOf_56 : decode cX11_sumOf 56 = .ok (.aload_n 0, 1) := by decide +kernel
theorem dX11_sumOf_57 : decode cX11_sumOf 57 = .ok (.getfield 47, 3) := by decide +kernel
theorem dX11_sumOf_60 : decode cX11_sumOf 60 = .ok (.iload 5, 2) := by decide +kernel
theorem dX11_sumOf_62 : decode cX11_sumOf 62 = .ok (.iaload, 1) := by decide +kernel
theorem dX11_sumOf_63 : decode cX11_sumOf 63 = .ok (.aload_n 0, 1) := by decide +kernel
theorem dX11_sumOf_64 : decode cX11_sumOf 64 = .ok (.getfield 41, 3) := by decide +kernel
theorem dX11_sumOf_67 : decode cX11_sumOf 67 = .ok (.iload_n 3, 1) := by decide +kernel
theorem dX11_sumOf_68 : decode cX11_sumOf 68 = .ok (.iaload, 1) := by decide +kernel
theorem dX11_sumOf_69 : decode cX11_sumOf 69 = .ok (.if_icmp .ne 18, 3) := by decide +kernel
theorem dX11_sumOf_72 : decode cX11_sumOf 72 = .ok (.iload_n 1, 1) := by decide +kernel
theorem dX11_sumOf_73 : decode cX11_sumOf 73 = .ok (.aload_n 0, 1) := by decide +kernel
theorem dX11_sumOf_74 : decode cX11_sumOf 74 = .ok (.getfield 41, 3) := by decide +kernel
theorem dX11_sumOf_77 : decode cX11_sumOf 77 = .ok (.iload 5, 2) := by decide +kernel
theorem dX11_sumOf_79 : decode cX11_sumOf 79 = .ok (.iaload, 1) := by decide +kernel
theorem dX11_sumOf_80 : decode cX11_sumOf 80 = .ok (.ishr, 1) := by decide +kernel
theorem dX11_sumOf_81 : decode cX11_sumOf 81 = .ok (.iconst 1, 1) := by decide +kernel
theorem dX11_sumOf_82 : decode cX11_sumOf 82 = .ok (.iand, 1) := by decide +kernel
theorem dX11_sumOf_83 : decode cX11_sumOf 83 = .ok (.iconst 1, 1) := by decide +kernel
theorem dX11_sumOf_84 : decode cX11_sumOf 84 = .ok (.if_icmp .eq 7, 3) := by decide +kernel
theorem dX11_sumOf_87 : decode cX11_sumOf 87 = .ok (.iconst 1, 1) := by decide +kernel
theorem dX11_sumOf_88 : decode cX11_sumOf 88 = .ok (.goto 4, 3) := by decide +kernel
theorem dX11_sumOf_91 : decode cX11_sumOf 91 = .ok (.iconst 0, 1) := by decide +kernel
theorem dX11_sumOf_92 : decode cX11_sumOf 92 = .ok (.istore 4, 2) := by decide +kernel
theorem dX11_sumOf_94 : decode cX11_sumOf 94 = .ok (.iinc 5 1, 3) := by decide +kernel
theorem dX11_sumOf_97 : decode cX11_sumOf 97 = .ok (.goto (-61), 3) := by decide +kernel
theorem dX11_sumOf_100 : decode cX11_sumOf 100 = .ok (.iload_n 2, 1) := by decide +kernel
theorem dX11_sumOf_101 : decode cX11_sumOf 101 = .ok (.iload 4, 2) := by decide +kernel
theorem dX11_sumOf_103 : decode cX11_sumOf 103 = .ok (.ifCond .eq 12, 3) := by decide +kernel
theorem dX11_sumOf_106 : decode cX11_sumOf 106 = .ok (.aload_n 0, 1) := by decide +kernel
theorem dX11_sumOf_107 : decode cX11_sumOf 107 = .ok (.getfield 44, 3) := by decide +kernel
theorem dX11_sumOf_110 : decode cX11_sumOf 110 = .ok (.iload_n 3, 1) := by decide +kernel
theorem dX11_sumOf_111 : decode cX11_sumOf 111 = .ok (.iaload, 1) := by decide +kernel
theorem dX11_sumOf_112 : decode cX11_sumOf 112 = .ok (.goto 4, 3) := by decide +kernel
theorem dX11_sumOf_115 : decode cX11_sumOf 115 = .ok (.iconst 0, 1) := by decide +kernel
theorem dX11_sumOf_116 : decode cX11_sumOf 116 = .ok (.iadd, 1) := by decide +kernel
theorem dX11_sumOf_117 : decode cX11_sumOf 117 = .ok (.istore_n 2, 1) := by decide +kernel
theorem dX11_sumOf_118 : decode cX11_sumOf 118 = .ok (.iinc 3 1, 3) := by decide +kernel
theorem dX11_sumOf_121 : decode cX11_sumOf 121 = .ok (.goto (-117), 3) := by decide +kernel
theorem dX11_sumOf_124 : decode cX11_sumOf 124 = .ok (.iload_n 2, 1) := by decide +kernel
theorem dX11_sumOf_125 : decode cX11_sumOf 125 = .ok (.ireturn, 1) := by decide +kernel
theorem dX11_worthOf_0 : decode cX11_worthOf 0 = .ok (.iload_n 1, 1) := by decide +kernel
theorem dX11_worthOf_1 : decode cX11_worthOf 1 = .ok (.invokestatic 114, 3) := by decide +kernel
theorem dX11_worthOf_4 : decode cX11_worthOf 4 = .ok (.ifCond .ne 5, 3) := by decide +kernel
theorem dX11_worthOf_7 : decode cX11_worthOf 7 = .ok (.iconst (-1), 1) := by decide +kernel
theorem dX11_worthOf_8 : decode cX11_worthOf 8 = .ok (.ireturn, 1) := by decide +kernel
theorem dX11_worthOf_9 : decode cX11_worthOf 9 = .ok (.aload_n 0, 1) := by decide +kernel
theorem dX11_worthOf_10 : decode cX11_worthOf 10 = .ok (.iload_n 1, 1) := by decide +kernel
theorem dX11_worthOf_11 : decode cX11_worthOf 11 = .ok (.invokevirtual 185, 3) := by decide +kernel
theorem dX11_worthOf_14 : decode cX11_worthOf 14 = .ok (.ifCond .ne 6, 3) := by decide +kernel
theorem dX11_worthOf_17 : decode cX11_worthOf 17 = .ok (.bipush (-2), 2) := by decide +kernel
theorem dX11_worthOf_19 : decode cX11_worthOf 19 = .ok (.ireturn, 1) := by decide +kernel
theorem dX11_worthOf_20 : decode cX11_worthOf 20 = .ok (.aload_n 0, 1) := by decide +kernel
theorem dX11_worthOf_21 : decode cX11_worthOf 21 = .ok (.iload_n 1, 1) := by decide +kernel
theorem dX11_worthOf_22 : decode cX11_worthOf 22 = .ok (.invokevirtual 188, 3) := by decide +kernel
theorem dX11_worthOf_25 : decode cX11_worthOf 25 = .ok (.iconst (-1), 1) := by decide +kernel
theorem dX11_worthOf_26 : decode cX11_worthOf 26 = .ok (.istore_n 2, 1) := by decide +kernel
theorem dX11_worthOf_27 : decode cX11_worthOf 27 = .ok (.aload_n 0, 1) := by decide +kernel
theorem dX11_worthOf_28 : decode cX11_worthOf 28 = .ok (.iconst (-1), 1) := by decide +kernel
theorem dX11_worthOf_29 : decode cX11_worthOf 29 = .ok (.invokevirtual 175, 3) := by decide +kernel
theorem dX11_worthOf_32 : decode cX11_worthOf 32 = .ok (.istore_n 3, 1) := by decide +kernel
theorem dX11_worthOf_33 : decode cX11_worthOf 33 = .ok (.iconst 0, 1) := by decide +kernel
theorem dX11_worthOf_34 : decode cX11_worthOf 34 = .ok (.istore 4, 2) := by decide +kernel
theorem dX11_worthOf_36 : decode cX11_worthOf 36 = .ok (.iload 4, 2) := by decide +kernel
theorem dX11_worthOf_38 : decode cX11_worthOf 38 = .ok (.iload_n 3, 1) := by decide +kernel
theorem dX11_worthOf_39 : decode cX11_worthOf 39 = .ok (.if_icmp .ge 38, 3) := by decide +kernel
theorem dX11_worthOf_42 : decode cX11_worthOf 42 = .ok (.aload_n 0, 1) := by decide +kernel
theorem dX11_worthOf_43 : decode cX11_worthOf 43 = .ok (.iload 4, 2) := by decide +kernel
theorem dX11_worthOf_45 : decode cX11_worthOf 45 = .ok (.invokevirtual 175, 3) := by decide +kernel
theorem dX11_worthOf_48 : decode cX11_worthOf 48 = .ok (.istore 5, 2) := by decide +kernel
theorem dX11_worthOf_50 : decode cX11_worthOf 50 = .ok (.aload_n 0, 1) := by decide +kernel
theorem dX11_worthOf_51 : decode cX11_worthOf 51 = .ok (.iload_n 1, 1) := by decide +kernel
theorem dX11_worthOf_52 : decode cX11_worthOf 52 = .ok (.invokevirtual 197, 3) := by decide +kernel
theorem dX11_worthOf_55 : decode cX11_worthOf 55 = .ok (.aload_n 0, 1) := by decide +kernel
theorem dX11_worthOf_56 : decode cX11_worthOf 56 = .ok (.iload 4, 2) := by decide +kernel
theorem dX11_worthOf_58 : decode cX11_worthOf 58 = .ok (.aload_n 0, 1) := by decide +kernel
theorem dX11_worthOf_59 : decode cX11_worthOf 59 = .ok (.invokevirtual 282, 3) := by decide +kernel
theorem dX11_worthOf_62 : decode cX11_worthOf 62 = .ok (.iload_n 2, 1) := by decide +kernel
theorem dX11_worthOf_63 : decode cX11_worthOf 63 = .ok (.invokevirtual 285, 3) := by decide +kernel
theorem dX11_worthOf_66 : decode cX11_worthOf 66 = .ok (.aload_n 0, 1) := by decide +kernel
theorem dX11_worthOf_67 : decode cX11_worthOf 67 = .ok (.getfield 289, 3) := by decide +kernel
theorem dX11_worthOf_70 : decode cX11_worthOf 70 = .ok (.istore_n 2, 1) := by decide +kernel
theorem dX11_worthOf_71 : decode cX11_worthOf 71 = .ok (.iinc 4 1, 3) := by decide +kernel
theorem dX11_worthOf_74 : decode cX11_worthOf 74 = .ok (.goto (-38), 3) := by decide +kernel
theorem dX11_worthOf_77 : decode cX11_worthOf 77 = .ok (.aload_n 0, 1) := by decide +kernel
theorem dX11_worthOf_78 : decode cX11_worthOf 78 = .ok (.getfield 151, 3) := by decide +kernel
theorem dX11_worthOf_81 : decode cX11_worthOf 81 = .ok (.ifCond .eq 27, 3) := by decide +kernel
theorem dX11_worthOf_84 : decode cX11_worthOf 84 = .ok (.aload_n 0, 1) := by decide +kernel
theorem dX11_worthOf_85 : decode cX11_worthOf 85 = .ok (.invokevirtual 178, 3) := by decide +kernel
theorem dX11_worthOf_88 : decode cX11_worthOf 88 = .ok (.ifCond .eq 20, 3) := by decide +kernel
theorem dX11_worthOf_91 : decode cX11_worthOf 91 = .ok (.aload_n 0, 1) := by decide +kernel
theorem dX11_worthOf_92 : decode cX11_worthOf 92 = .ok (.sipush 1000, 3) := by decide +kernel
theorem dX11_worthOf_95 : decode cX11_worthOf 95 = .ok (.aload_n 0, 1) := by decide +kernel
theorem dX11_worthOf_96 : decode cX11_worthOf 96 = .ok (.invokevirtual 292, 3) := by decide +kernel
theorem dX11_worthOf_99 : decode cX11_worthOf 99 = .ok (.iload_n 2, 1) := by decide +kernel
theorem dX11_worthOf_100 : decode cX11_worthOf 100 = .ok (.invokevirtual 285, 3) := by decide +kernel
theorem dX11_worthOf_103 : decode cX11_worthOf 103 = .ok (.aload_n 0, 1) := by decide +kernel
theorem dX11_worthOf_104 : decode cX11_worthOf 104 = .ok (.getfield 289, 3) := by decide +kernel
theorem dX11_worthOf_107 : decode cX11_worthOf 107 = .ok (.istore_n 2, 1) := by decide +kernel
theorem dX11_worthOf_108 : decode cX11_worthOf 108 = .ok (.aload_n 0, 1) := by decide +kernel
theorem dX11_worthOf_109 : decode cX11_worthOf 109 = .ok (.getfield 155, 3) := by decide +kernel
theorem dX11_worthOf_112 : decode cX11_worthOf 112 = .ok (.ifCond .eq 26, 3) := by decide +kernel
theorem dX11_worthOf_115 : decode cX11_worthOf 115 = .ok (.aload_n 0, 1) := by decide +kernel
theorem dX11_worthOf_116 : decode cX11_worthOf 116 = .ok (.invokevirtual 182, 3) := by decide +kernel
theorem dX11_worthOf_119 : decode cX11_worthOf 119 = .ok (.ifCond .eq 19, 3) := by decide +kernel
theorem dX11_worthOf_122 : decode cX11_worthOf 122 = .ok (.aload_n 0, 1) := by decide +kernel
theorem dX11_worthOf_123 : decode cX11_worthOf 123 = .ok (.sipush 1001, 3) := by decide +kernel
theorem dX11_worthOf_126 : decode cX11_worthOf 126 = .ok (.sipush 552, 3) := by decide +kernel
theorem dX11_worthOf_129 : decode cX11_worthOf 129 = .ok (.iload_n 2, 1) := by decide +kernel
theorem dX11_worthOf_130 : decode cX11_worthOf 130 = .ok (.invokevirtual 285, 3) := by decide +kernel
theorem dX11_worthOf_133 : decode cX11_worthOf 133 = .ok (.aload_n 0, 1) := by decide +kernel
theorem dX11_worthOf_134 : decode cX11_worthOf 134 = .ok (.getfield 289, 3) := by decide +kernel
theorem dX11_worthOf_137 : decode cX11_worthOf 137 = .ok (.istore_n 2, 1) := by decide +kernel
theorem dX11_worthOf_138 : decode cX11_worthOf 138 = .ok (.iload_n 2, 1) := by decide +kernel
theorem dX11_worthOf_139 : decode cX11_worthOf 139 = .ok (.ifCond .ge 8, 3) := by decide +kernel
theorem dX11_worthOf_142 : decode cX11_worthOf 142 = .ok (.bipush (-2), 2) := by decide +kernel
theorem dX11_worthOf_144 : decode cX11_worthOf 144 = .ok (.goto 4, 3) := by decide +kernel
theorem dX11_worthOf_147 : decode cX11_worthOf 147 = .ok (.iload_n 2, 1) := by decide +kernel
theorem dX11_worthOf_148 : decode cX11_worthOf 148 = .ok (.ireturn, 1) := by decide +kernel
theorem dX11_tries_0 : decode cX11_tries 0 = .ok (.aload_n 0, 1) := by decide +kernel
theorem dX11_tries_1 : decode cX11_tries 1 = .ok (.iload_n 2, 1) := by decide +kernel
theorem dX11_tries_2 : decode cX11_tries 2 = .ok (.invokevirtual 295, 3) := by decide +kernel
theorem dX11_tries_5 : decode cX11_tries 5 = .ok (.istore 4, 2) := by decide +kernel
theorem dX11_tries_7 : decode cX11_tries 7 = .ok (.aload_n 0, 1) := by decide +kernel
theorem dX11_tries_8 : decode cX11_tries 8 = .ok (.iload_n 3, 1) := by decide +kernel
theorem dX11_tries_9 : decode cX11_tries 9 = .ok (.putfield 289, 3) := by decide +kernel
theorem dX11_tries_12 : decode cX11_tries 12 = .ok (.iload 4, 2) := by decide +kernel
theorem dX11_tries_14 : decode cX11_tries 14 = .ok (.iload_n 3, 1) := by decide +kernel
theorem dX11_tries_15 : decode cX11_tries 15 = .ok (.if_icmp .le 19, 3) := by decide +kernel
theorem dX11_tries_18 : decode cX11_tries 18 = .ok (.aload_n 0, 1) := by decide +kernel
theorem dX11_tries_19 : decode cX11_tries 19 = .ok (.iload 4, 2) := by decide +kernel
theorem dX11_tries_21 : decode cX11_tries 21 = .ok (.putfield 289, 3) := by decide +kernel
theorem dX11_tries_24 : decode cX11_tries 24 = .ok (.aload_n 0, 1) := by decide +kernel
theorem dX11_tries_25 : decode cX11_tries 25 = .ok (.iload_n 1, 1) := by decide +kernel
theorem dX11_tries_26 : decode cX11_tries 26 = .ok (.putfield 298, 3) := by decide +kernel
theorem dX11_tries_29 : decode cX11_tries 29 = .ok (.aload_n 0, 1) := by decide +kernel
theorem dX11_tries_30 : decode cX11_tries 30 = .ok (.iload_n 2, 1) := by decide +kernel
theorem dX11_tries_31 : decode cX11_tries 31 = .ok (.putfield 301, 3) := by decide +kernel
theorem dX11_tries_34 : decode cX11_tries 34 = .ok (.return_, 1) := by decide +kernel
theorem dX11_worth_0 : decode cX11_worth 0 = .ok (.aload_n 0, 1) := by decide +kernel
theorem dX11_worth_1 : decode cX11_worth 1 = .ok (.iload_n 1, 1) := by decide +kernel
theorem dX11_worth_2 : decode cX11_worth 2 = .ok (.invokevirtual 304, 3) := by decide +kernel
theorem dX11_worth_5 : decode cX11_worth 5 = .ok (.ireturn, 1) := by decide +kernel
theorem dX11_by_0 : decode cX11_by 0 = .ok (.aload_n 0, 1) := by decide +kernel
theorem dX11_by_1 : decode cX11_by 1 = .ok (.iload_n 1, 1) := by decide +kernel
theorem dX11_by_2 : decode cX11_by 2 = .ok (.invokevirtual 304, 3) := by decide +kernel
theorem dX11_by_5 : decode cX11_by 5 = .ok (.istore_n 2, 1) := by decide +kernel
theorem dX11_by_6 : decode cX11_by 6 = .ok (.iload_n 2, 1) := by decide +kernel
theorem dX11_by_7 : decode cX11_by 7 = .ok (.ifCond .ge 7, 3) := by decide +kernel
theorem dX11_by_10 : decode cX11_by 10 = .ok (.iload_n 2, 1) := by decide +kernel
theorem dX11_by_11 : decode cX11_by 11 = .ok (.goto 7, 3) := by decide +kernel
theorem dX11_by_14 : decode cX11_by 14 = .ok (.aload_n 0, 1) := by decide +kernel
theorem dX11_by_15 : decode cX11_by 15 = .ok (.getfield 298, 3) := by decide +kernel
theorem dX11_by_18 : decode cX11_by 18 = .ok (.ireturn, 1) := by decide +kernel
theorem dX11_holds_0 : decode cX11_holds 0 = .ok (.iload_n 1, 1) := by decide +kernel
theorem dX11_holds_1 : decode cX11_holds 1 = .ok (.invokestatic 114, 3) := by decide +kernel
theorem dX11_holds_4 : decode cX11_holds 4 = .ok (.ifCond .eq 15, 3) := by decide +kernel
theorem dX11_holds_7 : decode cX11_holds 7 = .ok (.iload_n 2, 1) := by decide +kernel
theorem dX11_holds_8 : decode cX11_holds 8 = .ok (.i2l, 1) := by decide +kernel
theorem dX11_holds_9 : decode cX11_holds 9 = .ok (.lconst 0, 1) := by decide +kernel
theorem dX11_holds_10 : decode cX11_holds 10 = .ok (.ldc2_w 147, 3) := by decide +kernel
theorem dX11_holds_13 : decode cX11_holds 13 = .ok (.invokestatic 86, 3) := by decide +kernel
theorem dX11_holds_16 : decode cX11_holds 16 = .ok (.ifCond .ne 5, 3) := by decide +kernel
theorem dX11_holds_19 : decode cX11_holds 19 = .ok (.iconst (-1), 1) := by decide +kernel
theorem dX11_holds_20 : decode cX11_holds 20 = .ok (.ireturn, 1) := by decide +kernel
theorem dX11_holds_21 : decode cX11_holds 21 = .ok (.aload_n 0, 1) := by decide +kernel
theorem dX11_holds_22 : decode cX11_holds 22 = .ok (.iload_n 1, 1) := by decide +kernel
theorem dX11_holds_23 : decode cX11_holds 23 = .ok (.invokevirtual 304, 3) := by decide +kernel
theorem dX11_holds_26 : decode cX11_holds 26 = .ok (.istore_n 3, 1) := by decide +kernel
theorem dX11_holds_27 : decode cX11_holds 27 = .ok (.iload_n 3, 1) := by decide +kernel
theorem dX11_holds_28 : decode cX11_holds 28 = .ok (.ifCond .ge 7, 3) := by decide +kernel
theorem dX11_holds_31 : decode cX11_holds 31 = .ok (.iload_n 3, 1) := by decide +kernel
theorem dX11_holds_32 : decode cX11_holds 32 = .ok (.goto 11, 3) := by decide +kernel
theorem dX11_holds_35 : decode cX11_holds 35 = .ok (.aload_n 0, 1) := by decide +kernel
theorem dX11_holds_36 : decode cX11_holds 36 = .ok (.getfield 301, 3) := by decide +kernel
theorem dX11_holds_39 : decode cX11_holds 39 = .ok (.iload_n 2, 1) := by decide +kernel
theorem dX11_holds_40 : decode cX11_holds 40 = .ok (.ishr, 1) := by decide +kernel
theorem dX11_holds_41 : decode cX11_holds 41 = .ok (.iconst 1, 1) := by decide +kernel
theorem dX11_holds_42 : decode cX11_holds 42 = .ok (.iand, 1) := by decide +kernel
theorem dX11_holds_43 : decode cX11_holds 43 = .ok (.ireturn, 1) := by decide +kernel
