theorem dL_cell_0 : decode cL_cell 0 = .ok (.iload_n 1, 1) := by decide +kernel
theorem dL_cell_1 : decode cL_cell 1 = .ok (.aload_n 0, 1) := by decide +kernel
theorem dL_cell_2 : decode cL_cell 2 = .ok (.arraylength, 1) := by decide +kernel
theorem dL_cell_3 : decode cL_cell 3 = .ok (.if_icmp .ge 9, 3) := by decide +kernel
theorem dL_cell_6 : decode cL_cell 6 = .ok (.aload_n 0, 1) := by decide +kernel
theorem dL_cell_7 : decode cL_cell 7 = .ok (.iload_n 1, 1) := by decide +kernel
theorem dL_cell_8 : decode cL_cell 8 = .ok (.iaload, 1) := by decide +kernel
theorem dL_cell_9 : decode cL_cell 9 = .ok (.goto 9, 3) := by decide +kernel
theorem dL_cell_12 : decode cL_cell 12 = .ok (.ldc 7, 2) := by decide +kernel
theorem dL_cell_14 : decode cL_cell 14 = .ok (.iload_n 1, 1) := by decide +kernel
theorem dL_cell_15 : decode cL_cell 15 = .ok (.iconst 1, 1) := by decide +kernel
theorem dL_cell_16 : decode cL_cell 16 = .ok (.iadd, 1) := by decide +kernel
theorem dL_cell_17 : decode cL_cell 17 = .ok (.imul, 1) := by decide +kernel
theorem dL_cell_18 : decode cL_cell 18 = .ok (.ireturn, 1) := by decide +kernel
theorem dL_some_0 : decode cL_some 0 = .ok (.iload_n 0, 1) := by decide +kernel
theorem dL_some_1 : decode cL_some 1 = .ok (.ldc 8, 2) := by decide +kernel
theorem dL_some_3 : decode cL_some 3 = .ok (.iand, 1) := by decide +kernel
theorem dL_some_4 : decode cL_some 4 = .ok (.iload_n 1, 1) := by decide +kernel
theorem dL_some_5 : decode cL_some 5 = .ok (.irem, 1) := by decide +kernel
theorem dL_some_6 : decode cL_some 6 = .ok (.ireturn, 1) := by decide +kernel
theorem dL_act_0 : decode cL_act 0 = .ok (.iload_n 1, 1) := by decide +kernel
theorem dL_act_1 : decode cL_act 1 = .ok (.iconst 3, 1) := by decide +kernel
theorem dL_act_2 : decode cL_act 2 = .ok (.ishr, 1) := by decide +kernel
theorem dL_act_3 : decode cL_act 3 = .ok (.iconst 3, 1) := by decide +kernel
theorem dL_act_4 : decode cL_act 4 = .ok (.iand, 1) := by decide +kernel
theorem dL_act_5 : decode cL_act 5 = .ok (.istore_n 2, 1) := by decide +kernel
theorem dL_act_6 : decode cL_act 6 = .ok (.iload_n 1, 1) := by decide +kernel
theorem dL_act_7 : decode cL_act 7 = .ok (.iconst 5, 1) := by decide +kernel
theorem dL_act_8 : decode cL_act 8 = .ok (.ishr, 1) := by decide +kernel
theorem dL_act_9 : decode cL_act 9 = .ok (.bipush 34, 2) := by decide +kernel
theorem dL_act_11 : decode cL_act 11 = .ok (.invokestatic 9, 3) := by decide +kernel
theorem dL_act_14 : decode cL_act 14 = .ok (.istore_n 3, 1) := by decide +kernel
theorem dL_act_15 : decode cL_act 15 = .ok (.iload_n 1, 1) := by decide +kernel
theorem dL_act_16 : decode cL_act 16 = .ok (.bipush 7, 2) := by decide +kernel
theorem dL_act_18 : decode cL_act 18 = .ok (.iand, 1) := by decide +kernel
theorem dL_act_19 : decode cL_act 19 = .ok (.tableswitch 138 0 6 #[41, 47, 54, 54, 61, 78, 105], 41) := by decide +kernel
theorem dL_act_60 : decode cL_act 60 = .ok (.aload_n 0, 1) := by decide +kernel
theorem dL_act_61 : decode cL_act 61 = .ok (.iload_n 2, 1) := by decide +kernel
theorem dL_act_62 : decode cL_act 62 = .ok (.invokevirtual 15, 3) := by decide +kernel
theorem dL_act_65 : decode cL_act 65 = .ok (.ireturn, 1) := by decide +kernel
theorem dL_act_66 : decode cL_act 66 = .ok (.aload_n 0, 1) := by decide +kernel
theorem dL_act_67 : decode cL_act 67 = .ok (.iload_n 2, 1) := by decide +kernel
theorem dL_act_68 : decode cL_act 68 = .ok (.iload_n 3, 1) := by decide +kernel
theorem dL_act_69 : decode cL_act 69 = .ok (.invokevirtual 21, 3) := by decide +kernel
theorem dL_act_72 : decode cL_act 72 = .ok (.ireturn, 1) := by decide +kernel
theorem dL_act_73 : decode cL_act 73 = .ok (.aload_n 0, 1) := by decide +kernel
theorem dL_act_74 : decode cL_act 74 = .ok (.iload_n 2, 1) := by decide +kernel
theorem dL_act_75 : decode cL_act 75 = .ok (.iload_n 3, 1) := by decide +kernel
theorem dL_act_76 : decode cL_act 76 = .ok (.invokevirtual 24, 3) := by decide +kernel
theorem dL_act_79 : decode cL_act 79 = .ok (.ireturn, 1) := by decide +kernel
theorem dL_act_80 : decode cL_act 80 = .ok (.aload_n 0, 1) := by decide +kernel
theorem dL_act_81 : decode cL_act 81 = .ok (.iload_n 2, 1) := by decide +kernel
theorem dL_act_82 : decode cL_act 82 = .ok (.iconst 1, 1) := by decide +kernel
theorem dL_act_83 : decode cL_act 83 = .ok (.iload_n 1, 1) := by decide +kernel
theorem dL_act_84 : decode cL_act 84 = .ok (.bipush 12, 2) := by decide +kernel
theorem dL_act_86 : decode cL_act 86 = .ok (.ishr, 1) := by decide +kernel
theorem dL_act_87 : decode cL_act 87 = .ok (.iconst 3, 1) := by decide +kernel
theorem dL_act_88 : decode cL_act 88 = .ok (.invokestatic 9, 3) := by decide +kernel
theorem dL_act_91 : decode cL_act 91 = .ok (.iadd, 1) := by decide +kernel
theorem dL_act_92 : decode cL_act 92 = .ok (.iload_n 3, 1) := by decide +kernel
theorem dL_act_93 : decode cL_act 93 = .ok (.invokevirtual 27, 3) := by decide +kernel
theorem dL_act_96 : decode cL_act 96 = .ok (.ireturn, 1) := by decide +kernel
theorem dL_act_97 : decode cL_act 97 = .ok (.aload_n 0, 1) := by decide +kernel
theorem dL_act_98 : decode cL_act 98 = .ok (.iload_n 2, 1) := by decide +kernel
theorem dL_act_99 : decode cL_act 99 = .ok (.invokevirtual 31, 3) := by decide +kernel
theorem dL_act_102 : decode cL_act 102 = .ok (.ifCond .ge 11, 3) := by decide +kernel
theorem dL_act_105 : decode cL_act 105 = .ok (.aload_n 0, 1) := by decide +kernel
theorem dL_act_106 : decode cL_act 106 = .ok (.iload_n 2, 1) := by decide +kernel
theorem dL_act_107 : decode cL_act 107 = .ok (.invokevirtual 15, 3) := by decide +kernel
theorem dL_act_110 : decode cL_act 110 = .ok (.goto 13, 3) := by decide +kernel
theorem dL_act_113 : decode cL_act 113 = .ok (.aload_n 0, 1) := by decide +kernel
theorem dL_act_114 : decode cL_act 114 = .ok (.iload_n 2, 1) := by decide +kernel
theorem dL_act_115 : decode cL_act 115 = .ok (.aload_n 0, 1) := by decide +kernel
theorem dL_act_116 : decode cL_act 116 = .ok (.iload_n 2, 1) := by decide +kernel
theorem dL_act_117 : decode cL_act 117 = .ok (.invokevirtual 31, 3) := by decide +kernel
theorem dL_act_120 : decode cL_act 120 = .ok (.invokevirtual 24, 3) := by decide +kernel
theorem dL_act_123 : decode cL_act 123 = .ok (.ireturn, 1) := by decide +kernel
theorem dL_act_124 : decode cL_act 124 = .ok (.iload_n 1, 1) := by decide +kernel
theorem dL_act_125 : decode cL_act 125 = .ok (.bipush 20, 2) := by decide +kernel
theorem dL_act_127 : decode cL_act 127 = .ok (.ishr, 1) := by decide +kernel
theorem dL_act_128 : decode cL_act 128 = .ok (.bipush 15, 2) := by decide +kernel
theorem dL_act_130 : decode cL_act 130 = .ok (.iand, 1) := by decide +kernel
theorem dL_act_131 : decode cL_act 131 = .ok (.ifCond .ne 11, 3) := by decide +kernel
theorem dL_act_134 : decode cL_act 134 = .ok (.aload_n 0, 1) := by decide +kernel
theorem dL_act_135 : decode cL_act 135 = .ok (.iload_n 2, 1) := by decide +kernel
theorem dL_act_136 : decode cL_act 136 = .ok (.invokevirtual 34, 3) := by decide +kernel
theorem dL_act_139 : decode cL_act 139 = .ok (.goto 17, 3) := by decide +kernel
theorem dL_act_142 : decode cL_act 142 = .ok (.aload_n 0, 1) := by decide +kernel
theorem dL_act_143 : decode cL_act 143 = .ok (.iload_n 2, 1) := by decide +kernel
theorem dL_act_144 : decode cL_act 144 = .ok (.iload_n 1, 1) := by decide +kernel
theorem dL_act_145 : decode cL_act 145 = .ok (.bipush 12, 2) := by decide +kernel
theorem dL_act_147 : decode cL_act 147 = .ok (.ishr, 1) := by decide +kernel
theorem dL_act_148 : decode cL_act 148 = .ok (.bipush 34, 2) := by decide +kernel
theorem dL_act_150 : decode cL_act 150 = .ok (.invokestatic 9, 3) := by decide +kernel
theorem dL_act_153 : decode cL_act 153 = .ok (.invokevirtual 24, 3) := by decide +kernel
theorem dL_act_156 : decode cL_act 156 = .ok (.ireturn, 1) := by decide +kernel
theorem dL_act_157 : decode cL_act 157 = .ok (.aload_n 0, 1) := by decide +kernel
theorem dL_act_158 : decode cL_act 158 = .ok (.iload_n 2, 1) := by decide +kernel
theorem dL_act_159 : decode cL_act 159 = .ok (.invokevirtual 37, 3) := by decide +kernel
theorem dL_act_162 : decode cL_act 162 = .ok (.ireturn, 1) := by decide +kernel
theorem dL_asked_0 : decode cL_asked 0 = .ok (.iload_n 1, 1) := by decide +kernel
theorem dL_asked_1 : decode cL_asked 1 = .ok (.iconst 3, 1) := by decide +kernel
theorem dL_asked_2 : decode cL_asked 2 = .ok (.iand, 1) := by decide +kernel
theorem dL_asked_3 : decode cL_asked 3 = .ok (.istore_n 2, 1) := by decide +kernel
theorem dL_asked_4 : decode cL_asked 4 = .ok (.aload_n 0, 1) := by decide +kernel
theorem dL_asked_5 : decode cL_asked 5 = .ok (.iload_n 2, 1) := by decide +kernel
theorem dL_asked_6 : decode cL_asked 6 = .ok (.invokevirtual 37, 3) := by decide +kernel
theorem dL_asked_9 : decode cL_asked 9 = .ok (.istore_n 3, 1) := by decide +kernel
theorem dL_asked_10 : decode cL_asked 10 = .ok (.aload_n 0, 1) := by decide +kernel
theorem dL_asked_11 : decode cL_asked 11 = .ok (.iload_n 2, 1) := by decide +kernel
theorem dL_asked_12 : decode cL_asked 12 = .ok (.iconst 0, 1) := by decide +kernel
theorem dL_asked_13 : decode cL_asked 13 = .ok (.invokevirtual 40, 3) := by decide +kernel
theorem dL_asked_16 : decode cL_asked 16 = .ok (.istore 4, 2) := by decide +kernel
theorem dL_asked_18 : decode cL_asked 18 = .ok (.iload_n 3, 1) := by decide +kernel
theorem dL_asked_19 : decode cL_asked 19 = .ok (.iload 4, 2) := by decide +kernel
theorem dL_asked_21 : decode cL_asked 21 = .ok (.bipush 13, 2) := by decide +kernel
theorem dL_asked_23 : decode cL_asked 23 = .ok (.if_icmp .ge 8, 3) := by decide +kernel
theorem dL_asked_26 : decode cL_asked 26 = .ok (.bipush (-2), 2) := by decide +kernel
theorem dL_asked_28 : decode cL_asked 28 = .ok (.goto 4, 3) := by decide +kernel
theorem dL_asked_31 : decode cL_asked 31 = .ok (.iload_n 3, 1) := by decide +kernel
theorem dL_asked_32 : decode cL_asked 32 = .ok (.if_icmp .ne 124, 3) := by decide +kernel
theorem dL_asked_35 : decode cL_asked 35 = .ok (.iload 4, 2) := by decide +kernel
theorem dL_asked_37 : decode cL_asked 37 = .ok (.bipush 13, 2) := by decide +kernel
theorem dL_asked_39 : decode cL_asked 39 = .ok (.if_icmp .lt 7, 3) := by decide +kernel
theorem dL_asked_42 : decode cL_asked 42 = .ok (.iload_n 3, 1) := by decide +kernel
theorem dL_asked_43 : decode cL_asked 43 = .ok (.ifCond .lt 113, 3) := by decide +kernel
theorem dL_asked_46 : decode cL_asked 46 = .ok (.aload_n 0, 1) := by decide +kernel
theorem dL_asked_47 : decode cL_asked 47 = .ok (.iload_n 2, 1) := by decide +kernel
theorem dL_asked_48 : decode cL_asked 48 = .ok (.invokevirtual 43, 3) := by decide +kernel
theorem dL_asked_51 : decode cL_asked 51 = .ok (.iload 4, 2) := by decide +kernel
theorem dL_asked_53 : decode cL_asked 53 = .ok (.bipush 14, 2) := by decide +kernel
theorem dL_asked_55 : decode cL_asked 55 = .ok (.if_icmp .ne 11, 3) := by decide +kernel
theorem dL_asked_58 : decode cL_asked 58 = .ok (.aload_n 0, 1) := by decide +kernel
theorem dL_asked_59 : decode cL_asked 59 = .ok (.iload_n 2, 1) := by decide +kernel
theorem dL_asked_60 : decode cL_asked 60 = .ok (.invokevirtual 43, 3) := by decide +kernel
theorem dL_asked_63 : decode cL_asked 63 = .ok (.goto 5, 3) := by decide +kernel
theorem dL_asked_66 : decode cL_asked 66 = .ok (.bipush (-2), 2) := by decide +kernel
theorem dL_asked_68 : decode cL_asked 68 = .ok (.if_icmp .ne 88, 3) := by decide +kernel
theorem dL_asked_71 : decode cL_asked 71 = .ok (.aload_n 0, 1) := by decide +kernel
theorem dL_asked_72 : decode cL_asked 72 = .ok (.bipush 34, 2) := by decide +kernel
theorem dL_asked_74 : decode cL_asked 74 = .ok (.iconst 0, 1) := by decide +kernel
theorem dL_asked_75 : decode cL_asked 75 = .ok (.invokevirtual 46, 3) := by decide +kernel
theorem dL_asked_78 : decode cL_asked 78 = .ok (.iconst (-1), 1) := by decide +kernel
theorem dL_asked_79 : decode cL_asked 79 = .ok (.if_icmp .ne 77, 3) := by decide +kernel
theorem dL_asked_82 : decode cL_asked 82 = .ok (.aload_n 0, 1) := by decide +kernel
theorem dL_asked_83 : decode cL_asked 83 = .ok (.iconst 4, 1) := by decide +kernel
theorem dL_asked_84 : decode cL_asked 84 = .ok (.iconst 0, 1) := by decide +kernel
theorem dL_asked_85 : decode cL_asked 85 = .ok (.invokevirtual 21, 3) := by decide +kernel
theorem dL_asked_88 : decode cL_asked 88 = .ok (.iconst (-1), 1) := by decide +kernel
theorem dL_asked_89 : decode cL_asked 89 = .ok (.if_icmp .ne 67, 3) := by decide +kernel
theorem dL_asked_92 : decode cL_asked 92 = .ok (.aload_n 0, 1) := by decide +kernel
theorem dL_asked_93 : decode cL_asked 93 = .ok (.iconst 0, 1) := by decide +kernel
theorem dL_asked_94 : decode cL_asked 94 = .ok (.iconst (-1), 1) := by decide +kernel
theorem dL_asked_95 : decode cL_asked 95 = .ok (.invokevirtual 24, 3) := by decide +kernel
theorem dL_asked_98 : decode cL_asked 98 = .ok (.iconst (-1), 1) := by decide +kernel
theorem dL_asked_99 : decode cL_asked 99 = .ok (.if_icmp .ne 57, 3) := by decide +kernel
theorem dL_asked_102 : decode cL_asked 102 = .ok (.aload_n 0, 1) := by decide +kernel
theorem dL_asked_103 : decode cL_asked 103 = .ok (.iconst 0, 1) := by decide +kernel
theorem dL_asked_104 : decode cL_asked 104 = .ok (.iconst 0, 1) := by decide +kernel
theorem dL_asked_105 : decode cL_asked 105 = .ok (.iconst 0, 1) := by decide +kernel
theorem dL_asked_106 : decode cL_asked 106 = .ok (.invokevirtual 27, 3) := by decide +kernel
theorem dL_asked_109 : decode cL_asked 109 = .ok (.iconst (-1), 1) := by decide +kernel
theorem dL_asked_110 : decode cL_asked 110 = .ok (.if_icmp .ne 46, 3) := by decide +kernel
theorem dL_asked_113 : decode cL_asked 113 = .ok (.aload_n 0, 1) := by decide +kernel
theorem dL_asked_114 : decode cL_asked 114 = .ok (.iconst 0, 1) := by decide +kernel
theorem dL_asked_115 : decode cL_asked 115 = .ok (.iconst 1, 1) := by decide +kernel
theorem dL_asked_116 : decode cL_asked 116 = .ok (.bipush 7, 2) := by decide +kernel
theorem dL_asked_118 : decode cL_asked 118 = .ok (.invokevirtual 27, 3) := by decide +kernel
theorem dL_asked_121 : decode cL_asked 121 = .ok (.iconst (-1), 1) := by decide +kernel
theorem dL_asked_122 : decode cL_asked 122 = .ok (.if_icmp .ne 34, 3) := by decide +kernel
theorem dL_asked_125 : decode cL_asked 125 = .ok (.aload_n 0, 1) := by decide +kernel
theorem dL_asked_126 : decode cL_asked 126 = .ok (.iconst (-1), 1) := by decide +kernel
theorem dL_asked_127 : decode cL_asked 127 = .ok (.invokevirtual 49, 3) := by decide +kernel
theorem dL_asked_130 : decode cL_asked 130 = .ok (.iconst (-1), 1) := by decide +kernel
theorem dL_asked_131 : decode cL_asked 131 = .ok (.if_icmp .ne 25, 3) := by decide +kernel
theorem dL_asked_134 : decode cL_asked 134 = .ok (.aload_n 0, 1) := by decide +kernel
theorem dL_asked_135 : decode cL_asked 135 = .ok (.iconst (-1), 1) := by decide +kernel
theorem dL_asked_136 : decode cL_asked 136 = .ok (.invokevirtual 52, 3) := by decide +kernel
theorem dL_asked_139 : decode cL_asked 139 = .ok (.iconst (-1), 1) := by decide +kernel
theorem dL_asked_140 : decode cL_asked 140 = .ok (.if_icmp .ne 16, 3) := by decide +kernel
theorem dL_asked_143 : decode cL_asked 143 = .ok (.aload_n 0, 1) := by decide +kernel
theorem dL_asked_144 : decode cL_asked 144 = .ok (.iconst (-1), 1) := by decide +kernel
theorem dL_asked_145 : decode cL_asked 145 = .ok (.invokevirtual 15, 3) := by decide +kernel
theorem dL_asked_148 : decode cL_asked 148 = .ok (.iconst (-1), 1) := by decide +kernel
theorem dL_asked_149 : decode cL_asked 149 = .ok (.if_icmp .ne 7, 3) := by decide +kernel
theorem dL_asked_152 : decode cL_asked 152 = .ok (.iconst 1, 1) := by decide +kernel
theorem dL_asked_153 : decode cL_asked 153 = .ok (.goto 4, 3) := by decide +kernel
theorem dL_asked_156 : decode cL_asked 156 = .ok (.iconst 0, 1) := by decide +kernel
theorem dL_asked_157 : decode cL_asked 157 = .ok (.istore 5, 2) := by decide +kernel
theorem dL_asked_159 : decode cL_asked 159 = .ok (.iload 5, 2) := by decide +kernel
theorem dL_asked_161 : decode cL_asked 161 = .ok (.ifCond .eq 66, 3) := by decide +kernel
theorem dL_asked_164 : decode cL_asked 164 = .ok (.iload 4, 2) := by decide +kernel
theorem dL_asked_166 : decode cL_asked 166 = .ok (.bipush 14, 2) := by decide +kernel
theorem dL_asked_168 : decode cL_asked 168 = .ok (.if_icmp .ne 19, 3) := by decide +kernel
theorem dL_asked_171 : decode cL_asked 171 = .ok (.aload_n 0, 1) := by decide +kernel
theorem dL_asked_172 : decode cL_asked 172 = .ok (.iload_n 2, 1) := by decide +kernel
theorem dL_asked_173 : decode cL_asked 173 = .ok (.invokevirtual 43, 3) := by decide +kernel
theorem dL_asked_176 : decode cL_asked 176 = .ok (.ifCond .eq 11, 3) := by decide +kernel
theorem dL_asked_179 : decode cL_asked 179 = .ok (.aload_n 0, 1) := by decide +kernel
theorem dL_asked_180 : decode cL_asked 180 = .ok (.iload_n 2, 1) := by decide +kernel
theorem dL_asked_181 : decode cL_asked 181 = .ok (.invokevirtual 37, 3) := by decide +kernel
theorem dL_asked_184 : decode cL_asked 184 = .ok (.ifCond .ne 43, 3) := by decide +kernel
theorem dL_asked_187 : decode cL_asked 187 = .ok (.iload 4, 2) := by decide +kernel
theorem dL_asked_189 : decode cL_asked 189 = .ok (.bipush 13, 2) := by decide +kernel
theorem dL_asked_191 : decode cL_asked 191 = .ok (.if_icmp .ne 22, 3) := by decide +kernel
theorem dL_asked_194 : decode cL_asked 194 = .ok (.aload_n 0, 1) := by decide +kernel
theorem dL_asked_195 : decode cL_asked 195 = .ok (.iload_n 2, 1) := by decide +kernel
theorem dL_asked_196 : decode cL_asked 196 = .ok (.iconst 0, 1) := by decide +kernel
theorem dL_asked_197 : decode cL_asked 197 = .ok (.invokevirtual 55, 3) := by decide +kernel
theorem dL_asked_200 : decode cL_asked 200 = .ok (.bipush (-3), 2) := by decide +kernel
theorem dL_asked_202 : decode cL_asked 202 = .ok (.if_icmp .eq 11, 3) := by decide +kernel
theorem dL_asked_205 : decode cL_asked 205 = .ok (.aload_n 0, 1) := by decide +kernel
theorem dL_asked_206 : decode cL_asked 206 = .ok (.iload_n 2, 1) := by decide +kernel
theorem dL_asked_207 : decode cL_asked 207 = .ok (.invokevirtual 37, 3) := by decide +kernel
theorem dL_asked_210 : decode cL_asked 210 = .ok (.ifCond .ne 17, 3) := by decide +kernel
theorem dL_asked_213 : decode cL_asked 213 = .ok (.aload_n 0, 1) := by decide +kernel
theorem dL_asked_214 : decode cL_asked 214 = .ok (.iload_n 2, 1) := by decide +kernel
theorem dL_asked_215 : decode cL_asked 215 = .ok (.iload_n 2, 1) := by decide +kernel
theorem dL_asked_216 : decode cL_asked 216 = .ok (.invokevirtual 58, 3) := by decide +kernel
theorem dL_asked_219 : decode cL_asked 219 = .ok (.iconst 1, 1) := by decide +kernel
theorem dL_asked_220 : decode cL_asked 220 = .ok (.if_icmp .ne 7, 3) := by decide +kernel
theorem dL_asked_223 : decode cL_asked 223 = .ok (.iconst 1, 1) := by decide +kernel
theorem dL_asked_224 : decode cL_asked 224 = .ok (.goto 4, 3) := by decide +kernel
theorem dL_asked_227 : decode cL_asked 227 = .ok (.iconst 0, 1) := by decide +kernel
theorem dL_asked_228 : decode cL_asked 228 = .ok (.ireturn, 1) := by decide +kernel
theorem dL_law_0 : decode cL_law 0 = .ok (.new 16, 3) := by decide +kernel
theorem dL_law_3 : decode cL_law 3 = .ok (.dup, 1) := by decide +kernel
theorem dL_law_4 : decode cL_law 4 = .ok (.invokespecial 61, 3) := by decide +kernel
theorem dL_law_7 : decode cL_law 7 = .ok (.astore_n 1, 1) := by decide +kernel
theorem dL_law_8 : decode cL_law 8 = .ok (.new 16, 3) := by decide +kernel
theorem dL_law_11 : decode cL_law 11 = .ok (.dup, 1) := by decide +kernel
theorem dL_law_12 : decode cL_law 12 = .ok (.invokespecial 61, 3) := by decide +kernel
theorem dL_law_15 : decode cL_law 15 = .ok (.astore_n 2, 1) := by decide +kernel
theorem dL_law_16 : decode cL_law 16 = .ok (.aload_n 0, 1) := by decide +kernel
theorem dL_law_17 : decode cL_law 17 = .ok (.iconst 0, 1) := by decide +kernel
theorem dL_law_18 : decode cL_law 18 = .ok (.invokestatic 62, 3) := by decide +kernel
theorem dL_law_21 : decode cL_law 21 = .ok (.ldc 8, 2) := by decide +kernel
theorem dL_law_23 : decode cL_law 23 = .ok (.iand, 1) := by decide +kernel
theorem dL_law_24 : decode cL_law 24 = .ok (.istore_n 3, 1) := by decide +kernel
theorem dL_law_25 : decode cL_law 25 = .ok (.aload_n 1, 1) := by decide +kernel
theorem dL_law_26 : decode cL_law 26 = .ok (.iload_n 3, 1) := by decide +kernel
theorem dL_law_27 : decode cL_law 27 = .ok (.invokevirtual 52, 3) := by decide +kernel
theorem dL_law_30 : decode cL_law 30 = .ok (.ifCond .ne 11, 3) := by decide +kernel
theorem dL_law_33 : decode cL_law 33 = .ok (.aload_n 2, 1) := by decide +kernel
theorem dL_law_34 : decode cL_law 34 = .ok (.iload_n 3, 1) := by decide +kernel
theorem dL_law_35 : decode cL_law 35 = .ok (.invokevirtual 52, 3) := by decide +kernel
theorem dL_law_38 : decode cL_law 38 = .ok (.ifCond .eq 5, 3) := by decide +kernel
theorem dL_law_41 : decode cL_law 41 = .ok (.iconst 0, 1) := by decide +kernel
theorem dL_law_42 : decode cL_law 42 = .ok (.ireturn, 1) := by decide +kernel
theorem dL_law_43 : decode cL_law 43 = .ok (.bipush 34, 2) := by decide +kernel
theorem dL_law_45 : decode cL_law 45 = .ok (.newarray .int, 2) := by decide +kernel
theorem dL_law_47 : decode cL_law 47 = .ok (.astore 4, 2) := by decide +kernel
theorem dL_law_49 : decode cL_law 49 = .ok (.iconst 0, 1) := by decide +kernel
theorem dL_law_50 : decode cL_law 50 = .ok (.istore 5, 2) := by decide +kernel
theorem dL_law_52 : decode cL_law 52 = .ok (.iload 5, 2) := by decide +kernel
theorem dL_law_54 : decode cL_law 54 = .ok (.bipush 34, 2) := by decide +kernel
theorem dL_law_56 : decode cL_law 56 = .ok (.if_icmp .ge 21, 3) := by decide +kernel
theorem dL_law_59 : decode cL_law 59 = .ok (.aload 4, 2) := by decide +kernel
theorem dL_law_61 : decode cL_law 61 = .ok (.iload 5, 2) := by decide +kernel
theorem dL_law_63 : decode cL_law 63 = .ok (.aload_n 1, 1) := by decide +kernel
theorem dL_law_64 : decode cL_law 64 = .ok (.iload 5, 2) := by decide +kernel
theorem dL_law_66 : decode cL_law 66 = .ok (.iconst 2, 1) := by decide +kernel
theorem dL_law_67 : decode cL_law 67 = .ok (.invokevirtual 46, 3) := by decide +kernel
theorem dL_law_70 : decode cL_law 70 = .ok (.iastore, 1) := by decide +kernel
theorem dL_law_71 : decode cL_law 71 = .ok (.iinc 5 1, 3) := by decide +kernel
theorem dL_law_74 : decode cL_law 74 = .ok (.goto (-22), 3) := by decide +kernel
theorem dL_law_77 : decode cL_law 77 = .ok (.iconst 0, 1) := by decide +kernel
theorem dL_law_78 : decode cL_law 78 = .ok (.istore 5, 2) := by decide +kernel
theorem dL_law_80 : decode cL_law 80 = .ok (.iload 5, 2) := by decide +kernel
theorem dL_law_82 : decode cL_law 82 = .ok (.bipush 40, 2) := by decide +kernel
theorem dL_law_84 : decode cL_law 84 = .ok (.if_icmp .ge 241, 3) := by decide +kernel
theorem dL_law_87 : decode cL_law 87 = .ok (.aload_n 0, 1) := by decide +kernel
theorem dL_law_88 : decode cL_law 88 = .ok (.iconst 1, 1) := by decide +kernel
theorem dL_law_89 : decode cL_law 89 = .ok (.iload 5, 2) := by decide +kernel
theorem dL_law_91 : decode cL_law 91 = .ok (.iadd, 1) := by decide +kernel
theorem dL_law_92 : decode cL_law 92 = .ok (.invokestatic 62, 3) := by decide +kernel
theorem dL_law_95 : decode cL_law 95 = .ok (.istore 6, 2) := by decide +kernel
theorem dL_law_97 : decode cL_law 97 = .ok (.aload_n 2, 1) := by decide +kernel
theorem dL_law_98 : decode cL_law 98 = .ok (.iload 6, 2) := by decide +kernel
theorem dL_law_100 : decode cL_law 100 = .ok (.bipush 9, 2) := by decide +kernel
theorem dL_law_102 : decode cL_law 102 = .ok (.ishr, 1) := by decide +kernel
theorem dL_law_103 : decode cL_law 103 = .ok (.invokestatic 66, 3) := by decide +kernel
theorem dL_law_106 : decode cL_law 106 = .ok (.ifCond .eq 18, 3) := by decide +kernel
theorem dL_law_109 : decode cL_law 109 = .ok (.aload_n 1, 1) := by decide +kernel
theorem dL_law_110 : decode cL_law 110 = .ok (.iload 6, 2) := by decide +kernel
theorem dL_law_112 : decode cL_law 112 = .ok (.invokestatic 70, 3) := by decide +kernel
theorem dL_law_115 : decode cL_law 115 = .ok (.aload_n 2, 1) := by decide +kernel
theorem dL_law_116 : decode cL_law 116 = .ok (.iload 6, 2) := by decide +kernel
theorem dL_law_118 : decode cL_law 118 = .ok (.invokestatic 70, 3) := by decide +kernel
theorem dL_law_121 : decode cL_law 121 = .ok (.if_icmp .eq 5, 3) := by decide +kernel
theorem dL_law_124 : decode cL_law 124 = .ok (.iconst 0, 1) := by decide +kernel
theorem dL_law_125 : decode cL_law 125 = .ok (.ireturn, 1) := by decide +kernel
theorem dL_law_126 : decode cL_law 126 = .ok (.iconst 0, 1) := by decide +kernel
theorem dL_law_127 : decode cL_law 127 = .ok (.istore 7, 2) := by decide +kernel
theorem dL_law_129 : decode cL_law 129 = .ok (.iload 7, 2) := by decide +kernel
theorem dL_law_131 : decode cL_law 131 = .ok (.bipush 34, 2) := by decide +kernel
theorem dL_law_133 : decode cL_law 133 = .ok (.if_icmp .ge 81, 3) := by decide +kernel
theorem dL_law_136 : decode cL_law 136 = .ok (.iconst 0, 1) := by decide +kernel
theorem dL_law_137 : decode cL_law 137 = .ok (.istore 8, 2) := by decide +kernel
theorem dL_law_139 : decode cL_law 139 = .ok (.iconst 0, 1) := by decide +kernel
theorem dL_law_140 : decode cL_law 140 = .ok (.istore 9, 2) := by decide +kernel
theorem dL_law_142 : decode cL_law 142 = .ok (.iload 9, 2) := by decide +kernel
theorem dL_law_144 : decode cL_law 144 = .ok (.bipush 10, 2) := by decide +kernel
theorem dL_law_146 : decode cL_law 146 = .ok (.if_icmp .ge 54, 3) := by decide +kernel
theorem dL_law_149 : decode cL_law 149 = .ok (.iload 8, 2) := by decide +kernel
theorem dL_law_151 : decode cL_law 151 = .ok (.aload_n 1, 1) := by decide +kernel
theorem dL_law_152 : decode cL_law 152 = .ok (.iload 7, 2) := by decide +kernel
theorem dL_law_154 : decode cL_law 154 = .ok (.iload 9, 2) := by decide +kernel
theorem dL_law_156 : decode cL_law 156 = .ok (.invokevirtual 46, 3) := by decide +kernel
theorem dL_law_159 : decode cL_law 159 = .ok (.iadd, 1) := by decide +kernel
theorem dL_law_160 : decode cL_law 160 = .ok (.istore 8, 2) := by decide +kernel
theorem dL_law_162 : decode cL_law 162 = .ok (.aload_n 1, 1) := by decide +kernel
theorem dL_law_163 : decode cL_law 163 = .ok (.iload 7, 2) := by decide +kernel
theorem dL_law_165 : decode cL_law 165 = .ok (.iload 9, 2) := by decide +kernel
theorem dL_law_167 : decode cL_law 167 = .ok (.invokevirtual 46, 3) := by decide +kernel
theorem dL_law_170 : decode cL_law 170 = .ok (.aload_n 2, 1) := by decide +kernel
theorem dL_law_171 : decode cL_law 171 = .ok (.iload 7, 2) := by decide +kernel
theorem dL_law_173 : decode cL_law 173 = .ok (.iload 9, 2) := by decide +kernel
theorem dL_law_175 : decode cL_law 175 = .ok (.invokevirtual 46, 3) := by decide +kernel
theorem dL_law_178 : decode cL_law 178 = .ok (.if_icmp .ne 14, 3) := by decide +kernel
theorem dL_law_181 : decode cL_law 181 = .ok (.aload_n 1, 1) := by decide +kernel
theorem dL_law_182 : decode cL_law 182 = .ok (.iload 7, 2) := by decide +kernel
theorem dL_law_184 : decode cL_law 184 = .ok (.iload 9, 2) := by decide +kernel
theorem dL_law_186 : decode cL_law 186 = .ok (.invokevirtual 46, 3) := by decide +kernel
theorem dL_law_189 : decode cL_law 189 = .ok (.ifCond .ge 5, 3) := by decide +kernel
theorem dL_law_192 : decode cL_law 192 = .ok (.iconst 0, 1) := by decide +kernel
theorem dL_law_193 : decode cL_law 193 = .ok (.ireturn, 1) := by decide +kernel
theorem dL_law_194 : decode cL_law 194 = .ok (.iinc 9 1, 3) := by decide +kernel
theorem dL_law_197 : decode cL_law 197 = .ok (.goto (-55), 3) := by decide +kernel
theorem dL_law_200 : decode cL_law 200 = .ok (.iload 8, 2) := by decide +kernel
theorem dL_law_202 : decode cL_law 202 = .ok (.iconst 4, 1) := by decide +kernel
theorem dL_law_203 : decode cL_law 203 = .ok (.if_icmp .eq 5, 3) := by decide +kernel
theorem dL_law_206 : decode cL_law 206 = .ok (.iconst 0, 1) := by decide +kernel
theorem dL_law_207 : decode cL_law 207 = .ok (.ireturn, 1) := by decide +kernel
theorem dL_law_208 : decode cL_law 208 = .ok (.iinc 7 1, 3) := by decide +kernel
theorem dL_law_211 : decode cL_law 211 = .ok (.goto (-82), 3) := by decide +kernel
theorem dL_law_214 : decode cL_law 214 = .ok (.iload 6, 2) := by decide +kernel
theorem dL_law_216 : decode cL_law 216 = .ok (.iconst 3, 1) := by decide +kernel
theorem dL_law_217 : decode cL_law 217 = .ok (.ishr, 1) := by decide +kernel
theorem dL_law_218 : decode cL_law 218 = .ok (.iconst 3, 1) := by decide +kernel
theorem dL_law_219 : decode cL_law 219 = .ok (.iand, 1) := by decide +kernel
theorem dL_law_220 : decode cL_law 220 = .ok (.istore 7, 2) := by decide +kernel
theorem dL_law_222 : decode cL_law 222 = .ok (.iconst 0, 1) := by decide +kernel
theorem dL_law_223 : decode cL_law 223 = .ok (.istore 8, 2) := by decide +kernel
theorem dL_law_225 : decode cL_law 225 = .ok (.iconst 0, 1) := by decide +kernel
theorem dL_law_226 : decode cL_law 226 = .ok (.istore 9, 2) := by decide +kernel
theorem dL_law_228 : decode cL_law 228 = .ok (.iload 9, 2) := by decide +kernel
theorem dL_law_230 : decode cL_law 230 = .ok (.bipush 34, 2) := by decide +kernel
theorem dL_law_232 : decode cL_law 232 = .ok (.if_icmp .ge 24, 3) := by decide +kernel
theorem dL_law_235 : decode cL_law 235 = .ok (.iload 8, 2) := by decide +kernel
theorem dL_law_237 : decode cL_law 237 = .ok (.aload_n 1, 1) := by decide +kernel
theorem dL_law_238 : decode cL_law 238 = .ok (.iload 9, 2) := by decide +kernel
theorem dL_law_240 : decode cL_law 240 = .ok (.iconst 2, 1) := by decide +kernel
theorem dL_law_241 : decode cL_law 241 = .ok (.iload 7, 2) := by decide +kernel
theorem dL_law_243 : decode cL_law 243 = .ok (.iadd, 1) := by decide +kernel
theorem dL_law_244 : decode cL_law 244 = .ok (.invokevirtual 46, 3) := by decide +kernel
theorem dL_law_247 : decode cL_law 247 = .ok (.iadd, 1) := by decide +kernel
theorem dL_law_248 : decode cL_law 248 = .ok (.istore 8, 2) := by decide +kernel
theorem dL_law_250 : decode cL_law 250 = .ok (.iinc 9 1, 3) := by decide +kernel
theorem dL_law_253 : decode cL_law 253 = .ok (.goto (-25), 3) := by decide +kernel
theorem dL_law_256 : decode cL_law 256 = .ok (.aload_n 1, 1) := by decide +kernel
theorem dL_law_257 : decode cL_law 257 = .ok (.iload 7, 2) := by decide +kernel
theorem dL_law_259 : decode cL_law 259 = .ok (.iconst 1, 1) := by decide +kernel
theorem dL_law_260 : decode cL_law 260 = .ok (.invokevirtual 40, 3) := by decide +kernel
theorem dL_law_263 : decode cL_law 263 = .ok (.iload 8, 2) := by decide +kernel
theorem dL_law_265 : decode cL_law 265 = .ok (.if_icmp .ne 52, 3) := by decide +kernel
theorem dL_law_268 : decode cL_law 268 = .ok (.aload_n 1, 1) := by decide +kernel
theorem dL_law_269 : decode cL_law 269 = .ok (.iload 7, 2) := by decide +kernel
theorem dL_law_271 : decode cL_law 271 = .ok (.iconst 0, 1) := by decide +kernel
theorem dL_law_272 : decode cL_law 272 = .ok (.invokevirtual 40, 3) := by decide +kernel
theorem dL_law_275 : decode cL_law 275 = .ok (.iload 8, 2) := by decide +kernel
theorem dL_law_277 : decode cL_law 277 = .ok (.iconst 3, 1) := by decide +kernel
theorem dL_law_278 : decode cL_law 278 = .ok (.aload_n 1, 1) := by decide +kernel
theorem dL_law_279 : decode cL_law 279 = .ok (.iload 7, 2) := by decide +kernel
theorem dL_law_281 : decode cL_law 281 = .ok (.iconst 2, 1) := by decide +kernel
theorem dL_law_282 : decode cL_law 282 = .ok (.invokevirtual 40, 3) := by decide +kernel
theorem dL_law_285 : decode cL_law 285 = .ok (.imul, 1) := by decide +kernel
theorem dL_law_286 : decode cL_law 286 = .ok (.iadd, 1) := by decide +kernel
theorem dL_law_287 : decode cL_law 287 = .ok (.if_icmp .ne 30, 3) := by decide +kernel
theorem dL_law_290 : decode cL_law 290 = .ok (.aload_n 1, 1) := by decide +kernel
theorem dL_law_291 : decode cL_law 291 = .ok (.iload 7, 2) := by decide +kernel
theorem dL_law_293 : decode cL_law 293 = .ok (.iconst 0, 1) := by decide +kernel
theorem dL_law_294 : decode cL_law 294 = .ok (.invokevirtual 40, 3) := by decide +kernel
theorem dL_law_297 : decode cL_law 297 = .ok (.bipush 14, 2) := by decide +kernel
theorem dL_law_299 : decode cL_law 299 = .ok (.if_icmp .gt 18, 3) := by decide +kernel
theorem dL_law_302 : decode cL_law 302 = .ok (.aload_n 1, 1) := by decide +kernel
theorem dL_law_303 : decode cL_law 303 = .ok (.iload 7, 2) := by decide +kernel
theorem dL_law_305 : decode cL_law 305 = .ok (.invokevirtual 74, 3) := by decide +kernel
theorem dL_law_308 : decode cL_law 308 = .ok (.sipush 136, 3) := by decide +kernel
theorem dL_law_311 : decode cL_law 311 = .ok (.iload 8, 2) := by decide +kernel
theorem dL_law_313 : decode cL_law 313 = .ok (.isub, 1) := by decide +kernel
theorem dL_law_314 : decode cL_law 314 = .ok (.if_icmp .le 5, 3) := by decide +kernel
theorem dL_law_317 : decode cL_law 317 = .ok (.iconst 0, 1) := by decide +kernel
theorem dL_law_318 : decode cL_law 318 = .ok (.ireturn, 1) := by decide +kernel
theorem dL_law_319 : decode cL_law 319 = .ok (.iinc 5 1, 3) := by decide +kernel
theorem dL_law_322 : decode cL_law 322 = .ok (.goto (-242), 3) := by decide +kernel
theorem dL_law_325 : decode cL_law 325 = .ok (.aload_n 1, 1) := by decide +kernel
theorem dL_law_326 : decode cL_law 326 = .ok (.iload_n 3, 1) := by decide +kernel
theorem dL_law_327 : decode cL_law 327 = .ok (.invokevirtual 52, 3) := by decide +kernel
theorem dL_law_330 : decode cL_law 330 = .ok (.ifCond .ne 23, 3) := by decide +kernel
theorem dL_law_333 : decode cL_law 333 = .ok (.aload_n 1, 1) := by decide +kernel
theorem dL_law_334 : decode cL_law 334 = .ok (.iconst 3, 1) := by decide +kernel
theorem dL_law_335 : decode cL_law 335 = .ok (.iconst 0, 1) := by decide +kernel
theorem dL_law_336 : decode cL_law 336 = .ok (.invokevirtual 40, 3) := by decide +kernel
theorem dL_law_339 : decode cL_law 339 = .ok (.bipush 13, 2) := by decide +kernel
theorem dL_law_341 : decode cL_law 341 = .ok (.if_icmp .ne 12, 3) := by decide +kernel
theorem dL_law_344 : decode cL_law 344 = .ok (.aload_n 1, 1) := by decide +kernel
theorem dL_law_345 : decode cL_law 345 = .ok (.iconst 0, 1) := by decide +kernel
theorem dL_law_346 : decode cL_law 346 = .ok (.iconst 2, 1) := by decide +kernel
theorem dL_law_347 : decode cL_law 347 = .ok (.invokevirtual 40, 3) := by decide +kernel
theorem dL_law_350 : decode cL_law 350 = .ok (.ifCond .eq 5, 3) := by decide +kernel
theorem dL_law_353 : decode cL_law 353 = .ok (.iconst 0, 1) := by decide +kernel
theorem dL_law_354 : decode cL_law 354 = .ok (.ireturn, 1) := by decide +kernel
theorem dL_law_355 : decode cL_law 355 = .ok (.iconst 0, 1) := by decide +kernel
theorem dL_law_356 : decode cL_law 356 = .ok (.istore 5, 2) := by decide +kernel
theorem dL_law_358 : decode cL_law 358 = .ok (.iload 5, 2) := by decide +kernel
theorem dL_law_360 : decode cL_law 360 = .ok (.bipush 34, 2) := by decide +kernel
theorem dL_law_362 : decode cL_law 362 = .ok (.if_icmp .ge 36, 3) := by decide +kernel
theorem dL_law_365 : decode cL_law 365 = .ok (.aload_n 1, 1) := by decide +kernel
theorem dL_law_366 : decode cL_law 366 = .ok (.iload 5, 2) := by decide +kernel
theorem dL_law_368 : decode cL_law 368 = .ok (.iconst 2, 1) := by decide +kernel
theorem dL_law_369 : decode cL_law 369 = .ok (.invokevirtual 46, 3) := by decide +kernel
theorem dL_law_372 : decode cL_law 372 = .ok (.aload 4, 2) := by decide +kernel
theorem dL_law_374 : decode cL_law 374 = .ok (.iload 5, 2) := by decide +kernel
theorem dL_law_376 : decode cL_law 376 = .ok (.iaload, 1) := by decide +kernel
theorem dL_law_377 : decode cL_law 377 = .ok (.if_icmp .ne 13, 3) := by decide +kernel
theorem dL_law_380 : decode cL_law 380 = .ok (.aload_n 1, 1) := by decide +kernel
theorem dL_law_381 : decode cL_law 381 = .ok (.iload 5, 2) := by decide +kernel
theorem dL_law_383 : decode cL_law 383 = .ok (.iconst 1, 1) := by decide +kernel
theorem dL_law_384 : decode cL_law 384 = .ok (.invokevirtual 46, 3) := by decide +kernel
theorem dL_law_387 : decode cL_law 387 = .ok (.ifCond .eq 5, 3) := by decide +kernel
theorem dL_law_390 : decode cL_law 390 = .ok (.iconst 0, 1) := by decide +kernel
theorem dL_law_391 : decode cL_law 391 = .ok (.ireturn, 1) := by decide +kernel
theorem dL_law_392 : decode cL_law 392 = .ok (.iinc 5 1, 3) := by decide +kernel
theorem dL_law_395 : decode cL_law 395 = .ok (.goto (-37), 3) := by decide +kernel
theorem dL_law_398 : decode cL_law 398 = .ok (.aload_n 1, 1) := by decide +kernel
theorem dL_law_399 : decode cL_law 399 = .ok (.iconst 0, 1) := by decide +kernel
theorem dL_law_400 : decode cL_law 400 = .ok (.invokevirtual 74, 3) := by decide +kernel
theorem dL_law_403 : decode cL_law 403 = .ok (.bipush 123, 2) := by decide +kernel
theorem dL_law_405 : decode cL_law 405 = .ok (.if_icmp .ne 7, 3) := by decide +kernel
theorem dL_law_408 : decode cL_law 408 = .ok (.iconst 1, 1) := by decide +kernel
theorem dL_law_409 : decode cL_law 409 = .ok (.goto 4, 3) := by decide +kernel
theorem dL_law_412 : decode cL_law 412 = .ok (.iconst 0, 1) := by decide +kernel
theorem dL_law_413 : decode cL_law 413 = .ok (.ireturn, 1) := by decide +kernel
