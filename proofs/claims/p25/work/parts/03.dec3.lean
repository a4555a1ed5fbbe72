theorem dJ9_max_7cf53_0 : decode cJ9_max_7cf53 0 = .ok (.iload_n 0, 1) := by decide +kernel
theorem dJ9_max_7cf53_1 : decode cJ9_max_7cf53 1 = .ok (.iload_n 1, 1) := by decide +kernel
theorem dJ9_max_7cf53_2 : decode cJ9_max_7cf53 2 = .ok (.if_icmp .lt 7, 3) := by decide +kernel
theorem dJ9_max_7cf53_5 : decode cJ9_max_7cf53 5 = .ok (.iload_n 0, 1) := by decide +kernel
theorem dJ9_max_7cf53_6 : decode cJ9_max_7cf53 6 = .ok (.goto 4, 3) := by decide +kernel
theorem dJ9_max_7cf53_9 : decode cJ9_max_7cf53 9 = .ok (.iload_n 1, 1) := by decide +kernel
theorem dJ9_max_7cf53_10 : decode cJ9_max_7cf53 10 = .ok (.ireturn, 1) := by decide +kernel
theorem dL_cell_0 : decode cL_cell 0 = .ok (.aload_n 0, 1) := by decide +kernel
theorem dL_cell_1 : decode cL_cell 1 = .ok (.arraylength, 1) := by decide +kernel
theorem dL_cell_2 : decode cL_cell 2 = .ok (.ifCond .ne 12, 3) := by decide +kernel
theorem dL_cell_5 : decode cL_cell 5 = .ok (.iload_n 1, 1) := by decide +kernel
theorem dL_cell_6 : decode cL_cell 6 = .ok (.bipush 37, 2) := by decide +kernel
theorem dL_cell_8 : decode cL_cell 8 = .ok (.imul, 1) := by decide +kernel
theorem dL_cell_9 : decode cL_cell 9 = .ok (.iconst 5, 1) := by decide +kernel
theorem dL_cell_10 : decode cL_cell 10 = .ok (.iadd, 1) := by decide +kernel
theorem dL_cell_11 : decode cL_cell 11 = .ok (.goto 17, 3) := by decide +kernel
theorem dL_cell_14 : decode cL_cell 14 = .ok (.aload_n 0, 1) := by decide +kernel
theorem dL_cell_15 : decode cL_cell 15 = .ok (.iload_n 1, 1) := by decide +kernel
theorem dL_cell_16 : decode cL_cell 16 = .ok (.aload_n 0, 1) := by decide +kernel
theorem dL_cell_17 : decode cL_cell 17 = .ok (.arraylength, 1) := by decide +kernel
theorem dL_cell_18 : decode cL_cell 18 = .ok (.irem, 1) := by decide +kernel
theorem dL_cell_19 : decode cL_cell 19 = .ok (.iaload, 1) := by decide +kernel
theorem dL_cell_20 : decode cL_cell 20 = .ok (.iload_n 1, 1) := by decide +kernel
theorem dL_cell_21 : decode cL_cell 21 = .ok (.bipush 7, 2) := by decide +kernel
theorem dL_cell_23 : decode cL_cell 23 = .ok (.irem, 1) := by decide +kernel
theorem dL_cell_24 : decode cL_cell 24 = .ok (.ishr, 1) := by decide +kernel
theorem dL_cell_25 : decode cL_cell 25 = .ok (.ldc 7, 2) := by decide +kernel
theorem dL_cell_27 : decode cL_cell 27 = .ok (.iand, 1) := by decide +kernel
theorem dL_cell_28 : decode cL_cell 28 = .ok (.iload_n 2, 1) := by decide +kernel
theorem dL_cell_29 : decode cL_cell 29 = .ok (.irem, 1) := by decide +kernel
theorem dL_cell_30 : decode cL_cell 30 = .ok (.ireturn, 1) := by decide +kernel
theorem dL_anew_0 : decode cL_anew 0 = .ok (.iconst 4, 1) := by decide +kernel
theorem dL_anew_1 : decode cL_anew 1 = .ok (.istore_n 2, 1) := by decide +kernel
theorem dL_anew_2 : decode cL_anew 2 = .ok (.iload_n 2, 1) := by decide +kernel
theorem dL_anew_3 : decode cL_anew 3 = .ok (.bipush 7, 2) := by decide +kernel
theorem dL_anew_5 : decode cL_anew 5 = .ok (.if_icmp .gt 13, 3) := by decide +kernel
theorem dL_anew_8 : decode cL_anew 8 = .ok (.aload_n 0, 1) := by decide +kernel
theorem dL_anew_9 : decode cL_anew 9 = .ok (.iload_n 2, 1) := by decide +kernel
theorem dL_anew_10 : decode cL_anew 10 = .ok (.iconst 0, 1) := by decide +kernel
theorem dL_anew_11 : decode cL_anew 11 = .ok (.iastore, 1) := by decide +kernel
theorem dL_anew_12 : decode cL_anew 12 = .ok (.iinc 2 1, 3) := by decide +kernel
theorem dL_anew_15 : decode cL_anew 15 = .ok (.goto (-13), 3) := by decide +kernel
theorem dL_anew_18 : decode cL_anew 18 = .ok (.iconst 0, 1) := by decide +kernel
theorem dL_anew_19 : decode cL_anew 19 = .ok (.istore_n 2, 1) := by decide +kernel
theorem dL_anew_20 : decode cL_anew 20 = .ok (.iload_n 2, 1) := by decide +kernel
theorem dL_anew_21 : decode cL_anew 21 = .ok (.bipush 30, 2) := by decide +kernel
theorem dL_anew_23 : decode cL_anew 23 = .ok (.if_icmp .ge 28, 3) := by decide +kernel
theorem dL_anew_26 : decode cL_anew 26 = .ok (.aload_n 1, 1) := by decide +kernel
theorem dL_anew_27 : decode cL_anew 27 = .ok (.iload_n 2, 1) := by decide +kernel
theorem dL_anew_28 : decode cL_anew 28 = .ok (.iload_n 2, 1) := by decide +kernel
theorem dL_anew_29 : decode cL_anew 29 = .ok (.bipush 10, 2) := by decide +kernel
theorem dL_anew_31 : decode cL_anew 31 = .ok (.irem, 1) := by decide +kernel
theorem dL_anew_32 : decode cL_anew 32 = .ok (.bipush 8, 2) := by decide +kernel
theorem dL_anew_34 : decode cL_anew 34 = .ok (.if_icmp .ge 7, 3) := by decide +kernel
theorem dL_anew_37 : decode cL_anew 37 = .ok (.iconst 0, 1) := by decide +kernel
theorem dL_anew_38 : decode cL_anew 38 = .ok (.goto 6, 3) := by decide +kernel
theorem dL_anew_41 : decode cL_anew 41 = .ok (.aload_n 1, 1) := by decide +kernel
theorem dL_anew_42 : decode cL_anew 42 = .ok (.iload_n 2, 1) := by decide +kernel
theorem dL_anew_43 : decode cL_anew 43 = .ok (.iaload, 1) := by decide +kernel
theorem dL_anew_44 : decode cL_anew 44 = .ok (.iastore, 1) := by decide +kernel
theorem dL_anew_45 : decode cL_anew 45 = .ok (.iinc 2 1, 3) := by decide +kernel
theorem dL_anew_48 : decode cL_anew 48 = .ok (.goto (-28), 3) := by decide +kernel
theorem dL_anew_51 : decode cL_anew 51 = .ok (.return_, 1) := by decide +kernel
theorem dL_reset_0 : decode cL_reset 0 = .ok (.iload 4, 2) := by decide +kernel
theorem dL_reset_2 : decode cL_reset 2 = .ok (.istore 6, 2) := by decide +kernel
theorem dL_reset_4 : decode cL_reset 4 = .ok (.iconst 2, 1) := by decide +kernel
theorem dL_reset_5 : decode cL_reset 5 = .ok (.istore 7, 2) := by decide +kernel
theorem dL_reset_7 : decode cL_reset 7 = .ok (.iload 7, 2) := by decide +kernel
theorem dL_reset_9 : decode cL_reset 9 = .ok (.ifCond .lt 37, 3) := by decide +kernel
theorem dL_reset_12 : decode cL_reset 12 = .ok (.iload_n 3, 1) := by decide +kernel
theorem dL_reset_13 : decode cL_reset 13 = .ok (.iconst 3, 1) := by decide +kernel
theorem dL_reset_14 : decode cL_reset 14 = .ok (.if_icmp .eq 32, 3) := by decide +kernel
theorem dL_reset_17 : decode cL_reset 17 = .ok (.aload_n 2, 1) := by decide +kernel
theorem dL_reset_18 : decode cL_reset 18 = .ok (.bipush 10, 2) := by decide +kernel
theorem dL_reset_20 : decode cL_reset 20 = .ok (.iload 7, 2) := by decide +kernel
theorem dL_reset_22 : decode cL_reset 22 = .ok (.imul, 1) := by decide +kernel
theorem dL_reset_23 : decode cL_reset 23 = .ok (.bipush 7, 2) := by decide +kernel
theorem dL_reset_25 : decode cL_reset 25 = .ok (.iadd, 1) := by decide +kernel
theorem dL_reset_26 : decode cL_reset 26 = .ok (.iaload, 1) := by decide +kernel
theorem dL_reset_27 : decode cL_reset 27 = .ok (.iconst 1, 1) := by decide +kernel
theorem dL_reset_28 : decode cL_reset 28 = .ok (.if_icmp .ne 8, 3) := by decide +kernel
theorem dL_reset_31 : decode cL_reset 31 = .ok (.iload 7, 2) := by decide +kernel
theorem dL_reset_33 : decode cL_reset 33 = .ok (.goto 5, 3) := by decide +kernel
theorem dL_reset_36 : decode cL_reset 36 = .ok (.iload 6, 2) := by decide +kernel
theorem dL_reset_38 : decode cL_reset 38 = .ok (.istore 6, 2) := by decide +kernel
theorem dL_reset_40 : decode cL_reset 40 = .ok (.iinc 7 (-1), 3) := by decide +kernel
theorem dL_reset_43 : decode cL_reset 43 = .ok (.goto (-36), 3) := by decide +kernel
theorem dL_reset_46 : decode cL_reset 46 = .ok (.aload_n 1, 1) := by decide +kernel
theorem dL_reset_47 : decode cL_reset 47 = .ok (.bipush 9, 2) := by decide +kernel
theorem dL_reset_49 : decode cL_reset 49 = .ok (.iload_n 3, 1) := by decide +kernel
theorem dL_reset_50 : decode cL_reset 50 = .ok (.iastore, 1) := by decide +kernel
theorem dL_reset_51 : decode cL_reset 51 = .ok (.aload_n 1, 1) := by decide +kernel
theorem dL_reset_52 : decode cL_reset 52 = .ok (.bipush 10, 2) := by decide +kernel
theorem dL_reset_54 : decode cL_reset 54 = .ok (.iload 5, 2) := by decide +kernel
theorem dL_reset_56 : decode cL_reset 56 = .ok (.iastore, 1) := by decide +kernel
theorem dL_reset_57 : decode cL_reset 57 = .ok (.aload_n 1, 1) := by decide +kernel
theorem dL_reset_58 : decode cL_reset 58 = .ok (.bipush 11, 2) := by decide +kernel
theorem dL_reset_60 : decode cL_reset 60 = .ok (.iload 6, 2) := by decide +kernel
theorem dL_reset_62 : decode cL_reset 62 = .ok (.iastore, 1) := by decide +kernel
theorem dL_reset_63 : decode cL_reset 63 = .ok (.aload_n 1, 1) := by decide +kernel
theorem dL_reset_64 : decode cL_reset 64 = .ok (.bipush 12, 2) := by decide +kernel
theorem dL_reset_66 : decode cL_reset 66 = .ok (.aload_n 1, 1) := by decide +kernel
theorem dL_reset_67 : decode cL_reset 67 = .ok (.iconst 1, 1) := by decide +kernel
theorem dL_reset_68 : decode cL_reset 68 = .ok (.iaload, 1) := by decide +kernel
theorem dL_reset_69 : decode cL_reset 69 = .ok (.iastore, 1) := by decide +kernel
theorem dL_reset_70 : decode cL_reset 70 = .ok (.aload_n 1, 1) := by decide +kernel
theorem dL_reset_71 : decode cL_reset 71 = .ok (.bipush 13, 2) := by decide +kernel
theorem dL_reset_73 : decode cL_reset 73 = .ok (.aload_n 1, 1) := by decide +kernel
theorem dL_reset_74 : decode cL_reset 74 = .ok (.iconst 4, 1) := by decide +kernel
theorem dL_reset_75 : decode cL_reset 75 = .ok (.iaload, 1) := by decide +kernel
theorem dL_reset_76 : decode cL_reset 76 = .ok (.iastore, 1) := by decide +kernel
theorem dL_reset_77 : decode cL_reset 77 = .ok (.aload_n 1, 1) := by decide +kernel
theorem dL_reset_78 : decode cL_reset 78 = .ok (.bipush 8, 2) := by decide +kernel
theorem dL_reset_80 : decode cL_reset 80 = .ok (.dup2, 1) := by decide +kernel
theorem dL_reset_81 : decode cL_reset 81 = .ok (.iaload, 1) := by decide +kernel
theorem dL_reset_82 : decode cL_reset 82 = .ok (.iconst 1, 1) := by decide +kernel
theorem dL_reset_83 : decode cL_reset 83 = .ok (.iadd, 1) := by decide +kernel
theorem dL_reset_84 : decode cL_reset 84 = .ok (.iastore, 1) := by decide +kernel
theorem dL_reset_85 : decode cL_reset 85 = .ok (.iload 6, 2) := by decide +kernel
theorem dL_reset_87 : decode cL_reset 87 = .ok (.ifCond .lt 17, 3) := by decide +kernel
theorem dL_reset_90 : decode cL_reset 90 = .ok (.aload_n 2, 1) := by decide +kernel
theorem dL_reset_91 : decode cL_reset 91 = .ok (.bipush 10, 2) := by decide +kernel
theorem dL_reset_93 : decode cL_reset 93 = .ok (.iload 6, 2) := by decide +kernel
theorem dL_reset_95 : decode cL_reset 95 = .ok (.imul, 1) := by decide +kernel
theorem dL_reset_96 : decode cL_reset 96 = .ok (.bipush 9, 2) := by decide +kernel
theorem dL_reset_98 : decode cL_reset 98 = .ok (.iadd, 1) := by decide +kernel
theorem dL_reset_99 : decode cL_reset 99 = .ok (.dup2, 1) := by decide +kernel
theorem dL_reset_100 : decode cL_reset 100 = .ok (.iaload, 1) := by decide +kernel
theorem dL_reset_101 : decode cL_reset 101 = .ok (.iconst 1, 1) := by decide +kernel
theorem dL_reset_102 : decode cL_reset 102 = .ok (.iadd, 1) := by decide +kernel
theorem dL_reset_103 : decode cL_reset 103 = .ok (.iastore, 1) := by decide +kernel
theorem dL_reset_104 : decode cL_reset 104 = .ok (.aload_n 1, 1) := by decide +kernel
theorem dL_reset_105 : decode cL_reset 105 = .ok (.iconst 2, 1) := by decide +kernel
theorem dL_reset_106 : decode cL_reset 106 = .ok (.dup2, 1) := by decide +kernel
theorem dL_reset_107 : decode cL_reset 107 = .ok (.iaload, 1) := by decide +kernel
theorem dL_reset_108 : decode cL_reset 108 = .ok (.iconst 1, 1) := by decide +kernel
theorem dL_reset_109 : decode cL_reset 109 = .ok (.iadd, 1) := by decide +kernel
theorem dL_reset_110 : decode cL_reset 110 = .ok (.iastore, 1) := by decide +kernel
theorem dL_reset_111 : decode cL_reset 111 = .ok (.aload_n 1, 1) := by decide +kernel
theorem dL_reset_112 : decode cL_reset 112 = .ok (.iconst 2, 1) := by decide +kernel
theorem dL_reset_113 : decode cL_reset 113 = .ok (.iaload, 1) := by decide +kernel
theorem dL_reset_114 : decode cL_reset 114 = .ok (.aload_n 0, 1) := by decide +kernel
theorem dL_reset_115 : decode cL_reset 115 = .ok (.bipush 20, 2) := by decide +kernel
theorem dL_reset_117 : decode cL_reset 117 = .ok (.invokevirtual 10, 3) := by decide +kernel
theorem dL_reset_120 : decode cL_reset 120 = .ok (.if_icmp .lt 7, 3) := by decide +kernel
theorem dL_reset_123 : decode cL_reset 123 = .ok (.iconst 1, 1) := by decide +kernel
theorem dL_reset_124 : decode cL_reset 124 = .ok (.goto 4, 3) := by decide +kernel
theorem dL_reset_127 : decode cL_reset 127 = .ok (.iconst 0, 1) := by decide +kernel
theorem dL_reset_128 : decode cL_reset 128 = .ok (.istore 7, 2) := by decide +kernel
theorem dL_reset_130 : decode cL_reset 130 = .ok (.iload 7, 2) := by decide +kernel
theorem dL_reset_132 : decode cL_reset 132 = .ok (.ifCond .eq 14, 3) := by decide +kernel
theorem dL_reset_135 : decode cL_reset 135 = .ok (.aload_n 1, 1) := by decide +kernel
theorem dL_reset_136 : decode cL_reset 136 = .ok (.iconst 1, 1) := by decide +kernel
theorem dL_reset_137 : decode cL_reset 137 = .ok (.iaload, 1) := by decide +kernel
theorem dL_reset_138 : decode cL_reset 138 = .ok (.iconst 1, 1) := by decide +kernel
theorem dL_reset_139 : decode cL_reset 139 = .ok (.if_icmp .ne 7, 3) := by decide +kernel
theorem dL_reset_142 : decode cL_reset 142 = .ok (.iconst 1, 1) := by decide +kernel
theorem dL_reset_143 : decode cL_reset 143 = .ok (.goto 4, 3) := by decide +kernel
theorem dL_reset_146 : decode cL_reset 146 = .ok (.iconst 0, 1) := by decide +kernel
theorem dL_reset_147 : decode cL_reset 147 = .ok (.istore 8, 2) := by decide +kernel
theorem dL_reset_149 : decode cL_reset 149 = .ok (.aload_n 1, 1) := by decide +kernel
theorem dL_reset_150 : decode cL_reset 150 = .ok (.iconst 2, 1) := by decide +kernel
theorem dL_reset_151 : decode cL_reset 151 = .ok (.iload 7, 2) := by decide +kernel
theorem dL_reset_153 : decode cL_reset 153 = .ok (.ifCond .eq 12, 3) := by decide +kernel
theorem dL_reset_156 : decode cL_reset 156 = .ok (.iload 8, 2) := by decide +kernel
theorem dL_reset_158 : decode cL_reset 158 = .ok (.ifCond .ne 7, 3) := by decide +kernel
theorem dL_reset_161 : decode cL_reset 161 = .ok (.iconst 0, 1) := by decide +kernel
theorem dL_reset_162 : decode cL_reset 162 = .ok (.goto 6, 3) := by decide +kernel
theorem dL_reset_165 : decode cL_reset 165 = .ok (.aload_n 1, 1) := by decide +kernel
theorem dL_reset_166 : decode cL_reset 166 = .ok (.iconst 2, 1) := by decide +kernel
theorem dL_reset_167 : decode cL_reset 167 = .ok (.iaload, 1) := by decide +kernel
theorem dL_reset_168 : decode cL_reset 168 = .ok (.iastore, 1) := by decide +kernel
theorem dL_reset_169 : decode cL_reset 169 = .ok (.aload_n 1, 1) := by decide +kernel
theorem dL_reset_170 : decode cL_reset 170 = .ok (.iconst 1, 1) := by decide +kernel
theorem dL_reset_171 : decode cL_reset 171 = .ok (.iload 7, 2) := by decide +kernel
theorem dL_reset_173 : decode cL_reset 173 = .ok (.ifCond .eq 7, 3) := by decide +kernel
theorem dL_reset_176 : decode cL_reset 176 = .ok (.iconst 1, 1) := by decide +kernel
theorem dL_reset_177 : decode cL_reset 177 = .ok (.goto 6, 3) := by decide +kernel
theorem dL_reset_180 : decode cL_reset 180 = .ok (.aload_n 1, 1) := by decide +kernel
theorem dL_reset_181 : decode cL_reset 181 = .ok (.iconst 1, 1) := by decide +kernel
theorem dL_reset_182 : decode cL_reset 182 = .ok (.iaload, 1) := by decide +kernel
theorem dL_reset_183 : decode cL_reset 183 = .ok (.iastore, 1) := by decide +kernel
theorem dL_reset_184 : decode cL_reset 184 = .ok (.aload_n 1, 1) := by decide +kernel
theorem dL_reset_185 : decode cL_reset 185 = .ok (.iconst 0, 1) := by decide +kernel
theorem dL_reset_186 : decode cL_reset 186 = .ok (.iload 8, 2) := by decide +kernel
theorem dL_reset_188 : decode cL_reset 188 = .ok (.ifCond .eq 7, 3) := by decide +kernel
theorem dL_reset_191 : decode cL_reset 191 = .ok (.iconst 2, 1) := by decide +kernel
theorem dL_reset_192 : decode cL_reset 192 = .ok (.goto 4, 3) := by decide +kernel
theorem dL_reset_195 : decode cL_reset 195 = .ok (.iconst 0, 1) := by decide +kernel
theorem dL_reset_196 : decode cL_reset 196 = .ok (.iastore, 1) := by decide +kernel
theorem dL_reset_197 : decode cL_reset 197 = .ok (.aload_n 1, 1) := by decide +kernel
theorem dL_reset_198 : decode cL_reset 198 = .ok (.iconst 3, 1) := by decide +kernel
theorem dL_reset_199 : decode cL_reset 199 = .ok (.iload 8, 2) := by decide +kernel
theorem dL_reset_201 : decode cL_reset 201 = .ok (.ifCond .eq 7, 3) := by decide +kernel
theorem dL_reset_204 : decode cL_reset 204 = .ok (.iconst 0, 1) := by decide +kernel
theorem dL_reset_205 : decode cL_reset 205 = .ok (.goto 9, 3) := by decide +kernel
theorem dL_reset_208 : decode cL_reset 208 = .ok (.aload_n 0, 1) := by decide +kernel
theorem dL_reset_209 : decode cL_reset 209 = .ok (.bipush 18, 2) := by decide +kernel
theorem dL_reset_211 : decode cL_reset 211 = .ok (.invokevirtual 10, 3) := by decide +kernel
theorem dL_reset_214 : decode cL_reset 214 = .ok (.iastore, 1) := by decide +kernel
theorem dL_reset_215 : decode cL_reset 215 = .ok (.aload_n 1, 1) := by decide +kernel
theorem dL_reset_216 : decode cL_reset 216 = .ok (.aload_n 2, 1) := by decide +kernel
theorem dL_reset_217 : decode cL_reset 217 = .ok (.invokestatic 16, 3) := by decide +kernel
theorem dL_reset_220 : decode cL_reset 220 = .ok (.return_, 1) := by decide +kernel
theorem dL_crashes_0 : decode cL_crashes 0 = .ok (.bipush 10, 2) := by decide +kernel
theorem dL_crashes_2 : decode cL_crashes 2 = .ok (.iload 4, 2) := by decide +kernel
theorem dL_crashes_4 : decode cL_crashes 4 = .ok (.imul, 1) := by decide +kernel
theorem dL_crashes_5 : decode cL_crashes 5 = .ok (.istore 5, 2) := by decide +kernel
theorem dL_crashes_7 : decode cL_crashes 7 = .ok (.bipush 9, 2) := by decide +kernel
theorem dL_crashes_9 : decode cL_crashes 9 = .ok (.aload_n 1, 1) := by decide +kernel
theorem dL_crashes_10 : decode cL_crashes 10 = .ok (.iconst 1, 1) := by decide +kernel
theorem dL_crashes_11 : decode cL_crashes 11 = .ok (.iaload, 1) := by decide +kernel
theorem dL_crashes_12 : decode cL_crashes 12 = .ok (.imul, 1) := by decide +kernel
theorem dL_crashes_13 : decode cL_crashes 13 = .ok (.iconst 3, 1) := by decide +kernel
theorem dL_crashes_14 : decode cL_crashes 14 = .ok (.iload 4, 2) := by decide +kernel
theorem dL_crashes_16 : decode cL_crashes 16 = .ok (.imul, 1) := by decide +kernel
theorem dL_crashes_17 : decode cL_crashes 17 = .ok (.iadd, 1) := by decide +kernel
theorem dL_crashes_18 : decode cL_crashes 18 = .ok (.istore 6, 2) := by decide +kernel
theorem dL_crashes_20 : decode cL_crashes 20 = .ok (.aload_n 2, 1) := by decide +kernel
theorem dL_crashes_21 : decode cL_crashes 21 = .ok (.iload 5, 2) := by decide +kernel
theorem dL_crashes_23 : decode cL_crashes 23 = .ok (.iconst 0, 1) := by decide +kernel
theorem dL_crashes_24 : decode cL_crashes 24 = .ok (.iadd, 1) := by decide +kernel
theorem dL_crashes_25 : decode cL_crashes 25 = .ok (.iaload, 1) := by decide +kernel
theorem dL_crashes_26 : decode cL_crashes 26 = .ok (.iconst 1, 1) := by decide +kernel
theorem dL_crashes_27 : decode cL_crashes 27 = .ok (.if_icmp .ne 42, 3) := by decide +kernel
theorem dL_crashes_30 : decode cL_crashes 30 = .ok (.aload_n 2, 1) := by decide +kernel
theorem dL_crashes_31 : decode cL_crashes 31 = .ok (.iload 5, 2) := by decide +kernel
theorem dL_crashes_33 : decode cL_crashes 33 = .ok (.iconst 1, 1) := by decide +kernel
theorem dL_crashes_34 : decode cL_crashes 34 = .ok (.iadd, 1) := by decide +kernel
theorem dL_crashes_35 : decode cL_crashes 35 = .ok (.iaload, 1) := by decide +kernel
theorem dL_crashes_36 : decode cL_crashes 36 = .ok (.ifCond .ne 33, 3) := by decide +kernel
theorem dL_crashes_39 : decode cL_crashes 39 = .ok (.aload_n 2, 1) := by decide +kernel
theorem dL_crashes_40 : decode cL_crashes 40 = .ok (.iload 5, 2) := by decide +kernel
theorem dL_crashes_42 : decode cL_crashes 42 = .ok (.iconst 3, 1) := by decide +kernel
theorem dL_crashes_43 : decode cL_crashes 43 = .ok (.iadd, 1) := by decide +kernel
theorem dL_crashes_44 : decode cL_crashes 44 = .ok (.dup2, 1) := by decide +kernel
theorem dL_crashes_45 : decode cL_crashes 45 = .ok (.iaload, 1) := by decide +kernel
theorem dL_crashes_46 : decode cL_crashes 46 = .ok (.iconst 1, 1) := by decide +kernel
theorem dL_crashes_47 : decode cL_crashes 47 = .ok (.isub, 1) := by decide +kernel
theorem dL_crashes_48 : decode cL_crashes 48 = .ok (.iastore, 1) := by decide +kernel
theorem dL_crashes_49 : decode cL_crashes 49 = .ok (.aload_n 2, 1) := by decide +kernel
theorem dL_crashes_50 : decode cL_crashes 50 = .ok (.iload 5, 2) := by decide +kernel
theorem dL_crashes_52 : decode cL_crashes 52 = .ok (.iconst 0, 1) := by decide +kernel
theorem dL_crashes_53 : decode cL_crashes 53 = .ok (.iadd, 1) := by decide +kernel
theorem dL_crashes_54 : decode cL_crashes 54 = .ok (.aload_n 2, 1) := by decide +kernel
theorem dL_crashes_55 : decode cL_crashes 55 = .ok (.iload 5, 2) := by decide +kernel
theorem dL_crashes_57 : decode cL_crashes 57 = .ok (.iconst 3, 1) := by decide +kernel
theorem dL_crashes_58 : decode cL_crashes 58 = .ok (.iadd, 1) := by decide +kernel
theorem dL_crashes_59 : decode cL_crashes 59 = .ok (.iaload, 1) := by decide +kernel
theorem dL_crashes_60 : decode cL_crashes 60 = .ok (.ifCond .le 7, 3) := by decide +kernel
theorem dL_crashes_63 : decode cL_crashes 63 = .ok (.iconst 1, 1) := by decide +kernel
theorem dL_crashes_64 : decode cL_crashes 64 = .ok (.goto 4, 3) := by decide +kernel
theorem dL_crashes_67 : decode cL_crashes 67 = .ok (.iconst 0, 1) := by decide +kernel
theorem dL_crashes_68 : decode cL_crashes 68 = .ok (.iastore, 1) := by decide +kernel
theorem dL_crashes_69 : decode cL_crashes 69 = .ok (.aload_n 0, 1) := by decide +kernel
theorem dL_crashes_70 : decode cL_crashes 70 = .ok (.iload 4, 2) := by decide +kernel
theorem dL_crashes_72 : decode cL_crashes 72 = .ok (.iconst 0, 1) := by decide +kernel
theorem dL_crashes_73 : decode cL_crashes 73 = .ok (.invokevirtual 20, 3) := by decide +kernel
theorem dL_crashes_76 : decode cL_crashes 76 = .ok (.istore 7, 2) := by decide +kernel
theorem dL_crashes_78 : decode cL_crashes 78 = .ok (.aload_n 2, 1) := by decide +kernel
theorem dL_crashes_79 : decode cL_crashes 79 = .ok (.iload 5, 2) := by decide +kernel
theorem dL_crashes_81 : decode cL_crashes 81 = .ok (.iconst 0, 1) := by decide +kernel
theorem dL_crashes_82 : decode cL_crashes 82 = .ok (.iadd, 1) := by decide +kernel
theorem dL_crashes_83 : decode cL_crashes 83 = .ok (.iaload, 1) := by decide +kernel
theorem dL_crashes_84 : decode cL_crashes 84 = .ok (.ifCond .ne 155, 3) := by decide +kernel
theorem dL_crashes_87 : decode cL_crashes 87 = .ok (.aload_n 1, 1) := by decide +kernel
theorem dL_crashes_88 : decode cL_crashes 88 = .ok (.iconst 4, 1) := by decide +kernel
theorem dL_crashes_89 : decode cL_crashes 89 = .ok (.iaload, 1) := by decide +kernel
theorem dL_crashes_90 : decode cL_crashes 90 = .ok (.iload 7, 2) := by decide +kernel
theorem dL_crashes_92 : decode cL_crashes 92 = .ok (.irem, 1) := by decide +kernel
theorem dL_crashes_93 : decode cL_crashes 93 = .ok (.aload_n 0, 1) := by decide +kernel
theorem dL_crashes_94 : decode cL_crashes 94 = .ok (.iload 4, 2) := by decide +kernel
theorem dL_crashes_96 : decode cL_crashes 96 = .ok (.iconst 2, 1) := by decide +kernel
theorem dL_crashes_97 : decode cL_crashes 97 = .ok (.invokevirtual 20, 3) := by decide +kernel
theorem dL_crashes_100 : decode cL_crashes 100 = .ok (.iload 7, 2) := by decide +kernel
theorem dL_crashes_102 : decode cL_crashes 102 = .ok (.irem, 1) := by decide +kernel
theorem dL_crashes_103 : decode cL_crashes 103 = .ok (.if_icmp .ne 136, 3) := by decide +kernel
theorem dL_crashes_106 : decode cL_crashes 106 = .ok (.aload_n 1, 1) := by decide +kernel
theorem dL_crashes_107 : decode cL_crashes 107 = .ok (.iconst 4, 1) := by decide +kernel
theorem dL_crashes_108 : decode cL_crashes 108 = .ok (.iaload, 1) := by decide +kernel
theorem dL_crashes_109 : decode cL_crashes 109 = .ok (.aload_n 3, 1) := by decide +kernel
theorem dL_crashes_110 : decode cL_crashes 110 = .ok (.iload 6, 2) := by decide +kernel
theorem dL_crashes_112 : decode cL_crashes 112 = .ok (.iconst 1, 1) := by decide +kernel
theorem dL_crashes_113 : decode cL_crashes 113 = .ok (.iadd, 1) := by decide +kernel
theorem dL_crashes_114 : decode cL_crashes 114 = .ok (.iaload, 1) := by decide +kernel
theorem dL_crashes_115 : decode cL_crashes 115 = .ok (.if_icmp .lt 10, 3) := by decide +kernel
theorem dL_crashes_118 : decode cL_crashes 118 = .ok (.aload_n 3, 1) := by decide +kernel
theorem dL_crashes_119 : decode cL_crashes 119 = .ok (.iload 6, 2) := by decide +kernel
theorem dL_crashes_121 : decode cL_crashes 121 = .ok (.iaload, 1) := by decide +kernel
theorem dL_crashes_122 : decode cL_crashes 122 = .ok (.goto 4, 3) := by decide +kernel
theorem dL_crashes_125 : decode cL_crashes 125 = .ok (.iconst 0, 1) := by decide +kernel
theorem dL_crashes_126 : decode cL_crashes 126 = .ok (.istore 8, 2) := by decide +kernel
theorem dL_crashes_128 : decode cL_crashes 128 = .ok (.iload 8, 2) := by decide +kernel
theorem dL_crashes_130 : decode cL_crashes 130 = .ok (.iconst 5, 1) := by decide +kernel
theorem dL_crashes_131 : decode cL_crashes 131 = .ok (.if_icmp .ne 5, 3) := by decide +kernel
theorem dL_crashes_134 : decode cL_crashes 134 = .ok (.iconst 1, 1) := by decide +kernel
theorem dL_crashes_135 : decode cL_crashes 135 = .ok (.ireturn, 1) := by decide +kernel
theorem dL_crashes_136 : decode cL_crashes 136 = .ok (.aload_n 2, 1) := by decide +kernel
theorem dL_crashes_137 : decode cL_crashes 137 = .ok (.iload 5, 2) := by decide +kernel
theorem dL_crashes_139 : decode cL_crashes 139 = .ok (.iconst 0, 1) := by decide +kernel
theorem dL_crashes_140 : decode cL_crashes 140 = .ok (.iadd, 1) := by decide +kernel
theorem dL_crashes_141 : decode cL_crashes 141 = .ok (.iconst 1, 1) := by decide +kernel
theorem dL_crashes_142 : decode cL_crashes 142 = .ok (.iastore, 1) := by decide +kernel
theorem dL_crashes_143 : decode cL_crashes 143 = .ok (.aload_n 2, 1) := by decide +kernel
theorem dL_crashes_144 : decode cL_crashes 144 = .ok (.iload 5, 2) := by decide +kernel
theorem dL_crashes_146 : decode cL_crashes 146 = .ok (.iconst 1, 1) := by decide +kernel
theorem dL_crashes_147 : decode cL_crashes 147 = .ok (.iadd, 1) := by decide +kernel
theorem dL_crashes_148 : decode cL_crashes 148 = .ok (.iload 8, 2) := by decide +kernel
theorem dL_crashes_150 : decode cL_crashes 150 = .ok (.iconst 1, 1) := by decide +kernel
theorem dL_crashes_151 : decode cL_crashes 151 = .ok (.if_icmp .ne 7, 3) := by decide +kernel
theorem dL_crashes_154 : decode cL_crashes 154 = .ok (.iconst 1, 1) := by decide +kernel
theorem dL_crashes_155 : decode cL_crashes 155 = .ok (.goto 4, 3) := by decide +kernel
theorem dL_crashes_158 : decode cL_crashes 158 = .ok (.iconst 0, 1) := by decide +kernel
theorem dL_crashes_159 : decode cL_crashes 159 = .ok (.iastore, 1) := by decide +kernel
theorem dL_crashes_160 : decode cL_crashes 160 = .ok (.aload_n 2, 1) := by decide +kernel
theorem dL_crashes_161 : decode cL_crashes 161 = .ok (.iload 5, 2) := by decide +kernel
theorem dL_crashes_163 : decode cL_crashes 163 = .ok (.iconst 2, 1) := by decide +kernel
theorem dL_crashes_164 : decode cL_crashes 164 = .ok (.iadd, 1) := by decide +kernel
theorem dL_crashes_165 : decode cL_crashes 165 = .ok (.aload_n 1, 1) := by decide +kernel
theorem dL_crashes_166 : decode cL_crashes 166 = .ok (.iconst 4, 1) := by decide +kernel
theorem dL_crashes_167 : decode cL_crashes 167 = .ok (.iaload, 1) := by decide +kernel
theorem dL_crashes_168 : decode cL_crashes 168 = .ok (.iastore, 1) := by decide +kernel
theorem dL_crashes_169 : decode cL_crashes 169 = .ok (.aload_n 2, 1) := by decide +kernel
theorem dL_crashes_170 : decode cL_crashes 170 = .ok (.iload 5, 2) := by decide +kernel
theorem dL_crashes_172 : decode cL_crashes 172 = .ok (.iconst 3, 1) := by decide +kernel
theorem dL_crashes_173 : decode cL_crashes 173 = .ok (.iadd, 1) := by decide +kernel
theorem dL_crashes_174 : decode cL_crashes 174 = .ok (.iload 8, 2) := by decide +kernel
theorem dL_crashes_176 : decode cL_crashes 176 = .ok (.iconst 1, 1) := by decide +kernel
theorem dL_crashes_177 : decode cL_crashes 177 = .ok (.if_icmp .ne 7, 3) := by decide +kernel
theorem dL_crashes_180 : decode cL_crashes 180 = .ok (.iconst 0, 1) := by decide +kernel
theorem dL_crashes_181 : decode cL_crashes 181 = .ok (.goto 27, 3) := by decide +kernel
theorem dL_crashes_184 : decode cL_crashes 184 = .ok (.aload_n 0, 1) := by decide +kernel
theorem dL_crashes_185 : decode cL_crashes 185 = .ok (.iload 4, 2) := by decide +kernel
theorem dL_crashes_187 : decode cL_crashes 187 = .ok (.iconst 1, 1) := by decide +kernel
theorem dL_crashes_188 : decode cL_crashes 188 = .ok (.invokevirtual 20, 3) := by decide +kernel
theorem dL_crashes_191 : decode cL_crashes 191 = .ok (.iload 8, 2) := by decide +kernel
theorem dL_crashes_193 : decode cL_crashes 193 = .ok (.iconst 2, 1) := by decide +kernel
theorem dL_crashes_194 : decode cL_crashes 194 = .ok (.if_icmp .ne 12, 3) := by decide +kernel
theorem dL_crashes_197 : decode cL_crashes 197 = .ok (.aload_n 3, 1) := by decide +kernel
theorem dL_crashes_198 : decode cL_crashes 198 = .ok (.iload 6, 2) := by decide +kernel
theorem dL_crashes_200 : decode cL_crashes 200 = .ok (.iconst 2, 1) := by decide +kernel
theorem dL_crashes_201 : decode cL_crashes 201 = .ok (.iadd, 1) := by decide +kernel
theorem dL_crashes_202 : decode cL_crashes 202 = .ok (.iaload, 1) := by decide +kernel
theorem dL_crashes_203 : decode cL_crashes 203 = .ok (.goto 4, 3) := by decide +kernel
theorem dL_crashes_206 : decode cL_crashes 206 = .ok (.iconst 0, 1) := by decide +kernel
theorem dL_crashes_207 : decode cL_crashes 207 = .ok (.iadd, 1) := by decide +kernel
theorem dL_crashes_208 : decode cL_crashes 208 = .ok (.iastore, 1) := by decide +kernel
theorem dL_crashes_209 : decode cL_crashes 209 = .ok (.aload_n 2, 1) := by decide +kernel
theorem dL_crashes_210 : decode cL_crashes 210 = .ok (.iload 5, 2) := by decide +kernel
theorem dL_crashes_212 : decode cL_crashes 212 = .ok (.iconst 4, 1) := by decide +kernel
theorem dL_crashes_213 : decode cL_crashes 213 = .ok (.iadd, 1) := by decide +kernel
theorem dL_crashes_214 : decode cL_crashes 214 = .ok (.dup2, 1) := by decide +kernel
theorem dL_crashes_215 : decode cL_crashes 215 = .ok (.iaload, 1) := by decide +kernel
theorem dL_crashes_216 : decode cL_crashes 216 = .ok (.iload 8, 2) := by decide +kernel
theorem dL_crashes_218 : decode cL_crashes 218 = .ok (.iconst 3, 1) := by decide +kernel
theorem dL_crashes_219 : decode cL_crashes 219 = .ok (.if_icmp .ne 7, 3) := by decide +kernel
theorem dL_crashes_222 : decode cL_crashes 222 = .ok (.iconst 0, 1) := by decide +kernel
theorem dL_crashes_223 : decode cL_crashes 223 = .ok (.goto 14, 3) := by decide +kernel
theorem dL_crashes_226 : decode cL_crashes 226 = .ok (.iload 8, 2) := by decide +kernel
theorem dL_crashes_228 : decode cL_crashes 228 = .ok (.iconst 4, 1) := by decide +kernel
theorem dL_crashes_229 : decode cL_crashes 229 = .ok (.if_icmp .ne 7, 3) := by decide +kernel
theorem dL_crashes_232 : decode cL_crashes 232 = .ok (.iconst 2, 1) := by decide +kernel
theorem dL_crashes_233 : decode cL_crashes 233 = .ok (.goto 4, 3) := by decide +kernel
theorem dL_crashes_236 : decode cL_crashes 236 = .ok (.iconst 1, 1) := by decide +kernel
theorem dL_crashes_237 : decode cL_crashes 237 = .ok (.iadd, 1) := by decide +kernel
theorem dL_crashes_238 : decode cL_crashes 238 = .ok (.iastore, 1) := by decide +kernel
theorem dL_crashes_239 : decode cL_crashes 239 = .ok (.aload_n 0, 1) := by decide +kernel
theorem dL_crashes_240 : decode cL_crashes 240 = .ok (.iload 4, 2) := by decide +kernel
theorem dL_crashes_242 : decode cL_crashes 242 = .ok (.bipush 7, 2) := by decide +kernel
theorem dL_crashes_244 : decode cL_crashes 244 = .ok (.invokevirtual 20, 3) := by decide +kernel
theorem dL_crashes_247 : decode cL_crashes 247 = .ok (.istore 8, 2) := by decide +kernel
theorem dL_crashes_249 : decode cL_crashes 249 = .ok (.aload_n 2, 1) := by decide +kernel
theorem dL_crashes_250 : decode cL_crashes 250 = .ok (.iload 5, 2) := by decide +kernel
theorem dL_crashes_252 : decode cL_crashes 252 = .ok (.bipush 6, 2) := by decide +kernel
theorem dL_crashes_254 : decode cL_crashes 254 = .ok (.iadd, 1) := by decide +kernel
theorem dL_crashes_255 : decode cL_crashes 255 = .ok (.aload_n 2, 1) := by decide +kernel
theorem dL_crashes_256 : decode cL_crashes 256 = .ok (.iload 5, 2) := by decide +kernel
theorem dL_crashes_258 : decode cL_crashes 258 = .ok (.iconst 0, 1) := by decide +kernel
theorem dL_crashes_259 : decode cL_crashes 259 = .ok (.iadd, 1) := by decide +kernel
theorem dL_crashes_260 : decode cL_crashes 260 = .ok (.iaload, 1) := by decide +kernel
theorem dL_crashes_261 : decode cL_crashes 261 = .ok (.iconst 1, 1) := by decide +kernel
theorem dL_crashes_262 : decode cL_crashes 262 = .ok (.if_icmp .ne 27, 3) := by decide +kernel
theorem dL_crashes_265 : decode cL_crashes 265 = .ok (.iload 8, 2) := by decide +kernel
theorem dL_crashes_267 : decode cL_crashes 267 = .ok (.ifCond .le 22, 3) := by decide +kernel
theorem dL_crashes_270 : decode cL_crashes 270 = .ok (.aload_n 1, 1) := by decide +kernel
theorem dL_crashes_271 : decode cL_crashes 271 = .ok (.iconst 4, 1) := by decide +kernel
theorem dL_crashes_272 : decode cL_crashes 272 = .ok (.iaload, 1) := by decide +kernel
theorem dL_crashes_273 : decode cL_crashes 273 = .ok (.aload_n 2, 1) := by decide +kernel
theorem dL_crashes_274 : decode cL_crashes 274 = .ok (.iload 5, 2) := by decide +kernel
theorem dL_crashes_276 : decode cL_crashes 276 = .ok (.iconst 2, 1) := by decide +kernel
theorem dL_crashes_277 : decode cL_crashes 277 = .ok (.iadd, 1) := by decide +kernel
theorem dL_crashes_278 : decode cL_crashes 278 = .ok (.iaload, 1) := by decide +kernel
theorem dL_crashes_279 : decode cL_crashes 279 = .ok (.isub, 1) := by decide +kernel
theorem dL_crashes_280 : decode cL_crashes 280 = .ok (.iload 8, 2) := by decide +kernel
theorem dL_crashes_282 : decode cL_crashes 282 = .ok (.if_icmp .le 7, 3) := by decide +kernel
theorem dL_crashes_285 : decode cL_crashes 285 = .ok (.iconst 1, 1) := by decide +kernel
theorem dL_crashes_286 : decode cL_crashes 286 = .ok (.goto 10, 3) := by decide +kernel
theorem dL_crashes_289 : decode cL_crashes 289 = .ok (.aload_n 2, 1) := by decide +kernel
theorem dL_crashes_290 : decode cL_crashes 290 = .ok (.iload 5, 2) := by decide +kernel
theorem dL_crashes_292 : decode cL_crashes 292 = .ok (.bipush 6, 2) := by decide +kernel
theorem dL_crashes_294 : decode cL_crashes 294 = .ok (.iadd, 1) := by decide +kernel
theorem dL_crashes_295 : decode cL_crashes 295 = .ok (.iaload, 1) := by decide +kernel
theorem dL_crashes_296 : decode cL_crashes 296 = .ok (.iastore, 1) := by decide +kernel
theorem dL_crashes_297 : decode cL_crashes 297 = .ok (.iconst 0, 1) := by decide +kernel
theorem dL_crashes_298 : decode cL_crashes 298 = .ok (.ireturn, 1) := by decide +kernel
theorem dL_kicks_0 : decode cL_kicks 0 = .ok (.aload_n 1, 1) := by decide +kernel
theorem dL_kicks_1 : decode cL_kicks 1 = .ok (.bipush 6, 2) := by decide +kernel
theorem dL_kicks_3 : decode cL_kicks 3 = .ok (.dup2, 1) := by decide +kernel
theorem dL_kicks_4 : decode cL_kicks 4 = .ok (.iaload, 1) := by decide +kernel
theorem dL_kicks_5 : decode cL_kicks 5 = .ok (.iconst 1, 1) := by decide +kernel
theorem dL_kicks_6 : decode cL_kicks 6 = .ok (.iadd, 1) := by decide +kernel
theorem dL_kicks_7 : decode cL_kicks 7 = .ok (.iastore, 1) := by decide +kernel
theorem dL_kicks_8 : decode cL_kicks 8 = .ok (.iconst 0, 1) := by decide +kernel
theorem dL_kicks_9 : decode cL_kicks 9 = .ok (.istore 4, 2) := by decide +kernel
theorem dL_kicks_11 : decode cL_kicks 11 = .ok (.iconst 0, 1) := by decide +kernel
theorem dL_kicks_12 : decode cL_kicks 12 = .ok (.istore 5, 2) := by decide +kernel
theorem dL_kicks_14 : decode cL_kicks 14 = .ok (.iload 5, 2) := by decide +kernel
theorem dL_kicks_16 : decode cL_kicks 16 = .ok (.iload_n 3, 1) := by decide +kernel
theorem dL_kicks_17 : decode cL_kicks 17 = .ok (.if_icmp .ge 214, 3) := by decide +kernel
theorem dL_kicks_20 : decode cL_kicks 20 = .ok (.bipush 10, 2) := by decide +kernel
theorem dL_kicks_22 : decode cL_kicks 22 = .ok (.iload 5, 2) := by decide +kernel
theorem dL_kicks_24 : decode cL_kicks 24 = .ok (.imul, 1) := by decide +kernel
theorem dL_kicks_25 : decode cL_kicks 25 = .ok (.istore 6, 2) := by decide +kernel
theorem dL_kicks_27 : decode cL_kicks 27 = .ok (.aload_n 2, 1) := by decide +kernel
theorem dL_kicks_28 : decode cL_kicks 28 = .ok (.iload 6, 2) := by decide +kernel
theorem dL_kicks_30 : decode cL_kicks 30 = .ok (.bipush 7, 2) := by decide +kernel
theorem dL_kicks_32 : decode cL_kicks 32 = .ok (.iadd, 1) := by decide +kernel
theorem dL_kicks_33 : decode cL_kicks 33 = .ok (.iaload, 1) := by decide +kernel
theorem dL_kicks_34 : decode cL_kicks 34 = .ok (.ifCond .ne 179, 3) := by decide +kernel
theorem dL_kicks_37 : decode cL_kicks 37 = .ok (.aload_n 1, 1) := by decide +kernel
theorem dL_kicks_38 : decode cL_kicks 38 = .ok (.bipush 6, 2) := by decide +kernel
theorem dL_kicks_40 : decode cL_kicks 40 = .ok (.iaload, 1) := by decide +kernel
theorem dL_kicks_41 : decode cL_kicks 41 = .ok (.aload_n 0, 1) := by decide +kernel
theorem dL_kicks_42 : decode cL_kicks 42 = .ok (.iload 5, 2) := by decide +kernel
theorem dL_kicks_44 : decode cL_kicks 44 = .ok (.iconst 3, 1) := by decide +kernel
theorem dL_kicks_45 : decode cL_kicks 45 = .ok (.invokevirtual 20, 3) := by decide +kernel
theorem dL_kicks_48 : decode cL_kicks 48 = .ok (.irem, 1) := by decide +kernel
theorem dL_kicks_49 : decode cL_kicks 49 = .ok (.ifCond .ne 164, 3) := by decide +kernel
theorem dL_kicks_52 : decode cL_kicks 52 = .ok (.aload_n 2, 1) := by decide +kernel
theorem dL_kicks_53 : decode cL_kicks 53 = .ok (.iload 6, 2) := by decide +kernel
theorem dL_kicks_55 : decode cL_kicks 55 = .ok (.iconst 4, 1) := by decide +kernel
theorem dL_kicks_56 : decode cL_kicks 56 = .ok (.iadd, 1) := by decide +kernel
theorem dL_kicks_57 : decode cL_kicks 57 = .ok (.iaload, 1) := by decide +kernel
theorem dL_kicks_58 : decode cL_kicks 58 = .ok (.aload_n 0, 1) := by decide +kernel
theorem dL_kicks_59 : decode cL_kicks 59 = .ok (.iload 5, 2) := by decide +kernel
theorem dL_kicks_61 : decode cL_kicks 61 = .ok (.iconst 4, 1) := by decide +kernel
theorem dL_kicks_62 : decode cL_kicks 62 = .ok (.invokevirtual 20, 3) := by decide +kernel
theorem dL_kicks_65 : decode cL_kicks 65 = .ok (.if_icmp .lt 33, 3) := by decide +kernel
theorem dL_kicks_68 : decode cL_kicks 68 = .ok (.aload_n 2, 1) := by decide +kernel
theorem dL_kicks_69 : decode cL_kicks 69 = .ok (.iload 6, 2) := by decide +kernel
theorem dL_kicks_71 : decode cL_kicks 71 = .ok (.iconst 4, 1) := by decide +kernel
theorem dL_kicks_72 : decode cL_kicks 72 = .ok (.iadd, 1) := by decide +kernel
theorem dL_kicks_73 : decode cL_kicks 73 = .ok (.iaload, 1) := by decide +kernel
theorem dL_kicks_74 : decode cL_kicks 74 = .ok (.aload_n 0, 1) := by decide +kernel
theorem dL_kicks_75 : decode cL_kicks 75 = .ok (.iload 5, 2) := by decide +kernel
theorem dL_kicks_77 : decode cL_kicks 77 = .ok (.iconst 5, 1) := by decide +kernel
theorem dL_kicks_78 : decode cL_kicks 78 = .ok (.invokevirtual 20, 3) := by decide +kernel
theorem dL_kicks_81 : decode cL_kicks 81 = .ok (.if_icmp .gt 17, 3) := by decide +kernel
theorem dL_kicks_84 : decode cL_kicks 84 = .ok (.aload_n 2, 1) := by decide +kernel
theorem dL_kicks_85 : decode cL_kicks 85 = .ok (.iload 6, 2) := by decide +kernel
theorem dL_kicks_87 : decode cL_kicks 87 = .ok (.bipush 6, 2) := by decide +kernel
theorem dL_kicks_89 : decode cL_kicks 89 = .ok (.iadd, 1) := by decide +kernel
theorem dL_kicks_90 : decode cL_kicks 90 = .ok (.iaload, 1) := by decide +kernel
theorem dL_kicks_91 : decode cL_kicks 91 = .ok (.ifCond .ne 7, 3) := by decide +kernel
theorem dL_kicks_94 : decode cL_kicks 94 = .ok (.iconst 1, 1) := by decide +kernel
theorem dL_kicks_95 : decode cL_kicks 95 = .ok (.goto 4, 3) := by decide +kernel
theorem dL_kicks_98 : decode cL_kicks 98 = .ok (.iconst 0, 1) := by decide +kernel
theorem dL_kicks_99 : decode cL_kicks 99 = .ok (.istore 7, 2) := by decide +kernel
theorem dL_kicks_101 : decode cL_kicks 101 = .ok (.aload_n 2, 1) := by decide +kernel
theorem dL_kicks_102 : decode cL_kicks 102 = .ok (.iload 6, 2) := by decide +kernel
theorem dL_kicks_104 : decode cL_kicks 104 = .ok (.iconst 5, 1) := by decide +kernel
theorem dL_kicks_105 : decode cL_kicks 105 = .ok (.iadd, 1) := by decide +kernel
theorem dL_kicks_106 : decode cL_kicks 106 = .ok (.iload 7, 2) := by decide +kernel
theorem dL_kicks_108 : decode cL_kicks 108 = .ok (.ifCond .eq 27, 3) := by decide +kernel
theorem dL_kicks_111 : decode cL_kicks 111 = .ok (.aload_n 2, 1) := by decide +kernel
theorem dL_kicks_112 : decode cL_kicks 112 = .ok (.iload 6, 2) := by decide +kernel
theorem dL_kicks_114 : decode cL_kicks 114 = .ok (.iconst 5, 1) := by decide +kernel
theorem dL_kicks_115 : decode cL_kicks 115 = .ok (.iadd, 1) := by decide +kernel
theorem dL_kicks_116 : decode cL_kicks 116 = .ok (.iaload, 1) := by decide +kernel
theorem dL_kicks_117 : decode cL_kicks 117 = .ok (.ifCond .le 14, 3) := by decide +kernel
theorem dL_kicks_120 : decode cL_kicks 120 = .ok (.aload_n 2, 1) := by decide +kernel
theorem dL_kicks_121 : decode cL_kicks 121 = .ok (.iload 6, 2) := by decide +kernel
theorem dL_kicks_123 : decode cL_kicks 123 = .ok (.iconst 5, 1) := by decide +kernel
theorem dL_kicks_124 : decode cL_kicks 124 = .ok (.iadd, 1) := by decide +kernel
theorem dL_kicks_125 : decode cL_kicks 125 = .ok (.iaload, 1) := by decide +kernel
theorem dL_kicks_126 : decode cL_kicks 126 = .ok (.iconst 1, 1) := by decide +kernel
theorem dL_kicks_127 : decode cL_kicks 127 = .ok (.isub, 1) := by decide +kernel
theorem dL_kicks_128 : decode cL_kicks 128 = .ok (.goto 15, 3) := by decide +kernel
theorem dL_kicks_131 : decode cL_kicks 131 = .ok (.iconst 0, 1) := by decide +kernel
theorem dL_kicks_132 : decode cL_kicks 132 = .ok (.goto 11, 3) := by decide +kernel
theorem dL_kicks_135 : decode cL_kicks 135 = .ok (.aload_n 2, 1) := by decide +kernel
theorem dL_kicks_136 : decode cL_kicks 136 = .ok (.iload 6, 2) := by decide +kernel
theorem dL_kicks_138 : decode cL_kicks 138 = .ok (.iconst 5, 1) := by decide +kernel
theorem dL_kicks_139 : decode cL_kicks 139 = .ok (.iadd, 1) := by decide +kernel
theorem dL_kicks_140 : decode cL_kicks 140 = .ok (.iaload, 1) := by decide +kernel
theorem dL_kicks_141 : decode cL_kicks 141 = .ok (.iconst 1, 1) := by decide +kernel
theorem dL_kicks_142 : decode cL_kicks 142 = .ok (.iadd, 1) := by decide +kernel
theorem dL_kicks_143 : decode cL_kicks 143 = .ok (.iastore, 1) := by decide +kernel
theorem dL_kicks_144 : decode cL_kicks 144 = .ok (.aload_n 2, 1) := by decide +kernel
theorem dL_kicks_145 : decode cL_kicks 145 = .ok (.iload 6, 2) := by decide +kernel
theorem dL_kicks_147 : decode cL_kicks 147 = .ok (.bipush 7, 2) := by decide +kernel
theorem dL_kicks_149 : decode cL_kicks 149 = .ok (.iadd, 1) := by decide +kernel
theorem dL_kicks_150 : decode cL_kicks 150 = .ok (.iload 7, 2) := by decide +kernel
theorem dL_kicks_152 : decode cL_kicks 152 = .ok (.ifCond .ne 24, 3) := by decide +kernel
theorem dL_kicks_155 : decode cL_kicks 155 = .ok (.aload_n 2, 1) := by decide +kernel
theorem dL_kicks_156 : decode cL_kicks 156 = .ok (.iload 6, 2) := by decide +kernel
theorem dL_kicks_158 : decode cL_kicks 158 = .ok (.iconst 5, 1) := by decide +kernel
theorem dL_kicks_159 : decode cL_kicks 159 = .ok (.iadd, 1) := by decide +kernel
theorem dL_kicks_160 : decode cL_kicks 160 = .ok (.iaload, 1) := by decide +kernel
theorem dL_kicks_161 : decode cL_kicks 161 = .ok (.aload_n 0, 1) := by decide +kernel
theorem dL_kicks_162 : decode cL_kicks 162 = .ok (.iload 5, 2) := by decide +kernel
theorem dL_kicks_164 : decode cL_kicks 164 = .ok (.bipush 6, 2) := by decide +kernel
theorem dL_kicks_166 : decode cL_kicks 166 = .ok (.invokevirtual 20, 3) := by decide +kernel
theorem dL_kicks_169 : decode cL_kicks 169 = .ok (.if_icmp .le 7, 3) := by decide +kernel
theorem dL_kicks_172 : decode cL_kicks 172 = .ok (.iconst 1, 1) := by decide +kernel
theorem dL_kicks_173 : decode cL_kicks 173 = .ok (.goto 4, 3) := by decide +kernel
theorem dL_kicks_176 : decode cL_kicks 176 = .ok (.iconst 0, 1) := by decide +kernel
theorem dL_kicks_177 : decode cL_kicks 177 = .ok (.iastore, 1) := by decide +kernel
theorem dL_kicks_178 : decode cL_kicks 178 = .ok (.aload_n 2, 1) := by decide +kernel
theorem dL_kicks_179 : decode cL_kicks 179 = .ok (.iload 6, 2) := by decide +kernel
theorem dL_kicks_181 : decode cL_kicks 181 = .ok (.bipush 8, 2) := by decide +kernel
theorem dL_kicks_183 : decode cL_kicks 183 = .ok (.iadd, 1) := by decide +kernel
theorem dL_kicks_184 : decode cL_kicks 184 = .ok (.dup2, 1) := by decide +kernel
theorem dL_kicks_185 : decode cL_kicks 185 = .ok (.iaload, 1) := by decide +kernel
theorem dL_kicks_186 : decode cL_kicks 186 = .ok (.iload 7, 2) := by decide +kernel
theorem dL_kicks_188 : decode cL_kicks 188 = .ok (.ifCond .eq 7, 3) := by decide +kernel
theorem dL_kicks_191 : decode cL_kicks 191 = .ok (.iconst 0, 1) := by decide +kernel
theorem dL_kicks_192 : decode cL_kicks 192 = .ok (.goto 4, 3) := by decide +kernel
theorem dL_kicks_195 : decode cL_kicks 195 = .ok (.iconst 1, 1) := by decide +kernel
theorem dL_kicks_196 : decode cL_kicks 196 = .ok (.iadd, 1) := by decide +kernel
theorem dL_kicks_197 : decode cL_kicks 197 = .ok (.iastore, 1) := by decide +kernel
theorem dL_kicks_198 : decode cL_kicks 198 = .ok (.aload_n 2, 1) := by decide +kernel
theorem dL_kicks_199 : decode cL_kicks 199 = .ok (.iload 6, 2) := by decide +kernel
theorem dL_kicks_201 : decode cL_kicks 201 = .ok (.iconst 4, 1) := by decide +kernel
theorem dL_kicks_202 : decode cL_kicks 202 = .ok (.iadd, 1) := by decide +kernel
theorem dL_kicks_203 : decode cL_kicks 203 = .ok (.iconst 0, 1) := by decide +kernel
theorem dL_kicks_204 : decode cL_kicks 204 = .ok (.iastore, 1) := by decide +kernel
theorem dL_kicks_205 : decode cL_kicks 205 = .ok (.aload_n 2, 1) := by decide +kernel
theorem dL_kicks_206 : decode cL_kicks 206 = .ok (.iload 6, 2) := by decide +kernel
theorem dL_kicks_208 : decode cL_kicks 208 = .ok (.bipush 6, 2) := by decide +kernel
theorem dL_kicks_210 : decode cL_kicks 210 = .ok (.iadd, 1) := by decide +kernel
theorem dL_kicks_211 : decode cL_kicks 211 = .ok (.iconst 0, 1) := by decide +kernel
theorem dL_kicks_212 : decode cL_kicks 212 = .ok (.iastore, 1) := by decide +kernel
theorem dL_kicks_213 : decode cL_kicks 213 = .ok (.iload 4, 2) := by decide +kernel
theorem dL_kicks_215 : decode cL_kicks 215 = .ok (.aload_n 2, 1) := by decide +kernel
theorem dL_kicks_216 : decode cL_kicks 216 = .ok (.iload 6, 2) := by decide +kernel
theorem dL_kicks_218 : decode cL_kicks 218 = .ok (.bipush 7, 2) := by decide +kernel
theorem dL_kicks_220 : decode cL_kicks 220 = .ok (.iadd, 1) := by decide +kernel
theorem dL_kicks_221 : decode cL_kicks 221 = .ok (.iaload, 1) := by decide +kernel
theorem dL_kicks_222 : decode cL_kicks 222 = .ok (.iadd, 1) := by decide +kernel
theorem dL_kicks_223 : decode cL_kicks 223 = .ok (.istore 4, 2) := by decide +kernel
theorem dL_kicks_225 : decode cL_kicks 225 = .ok (.iinc 5 1, 3) := by decide +kernel
theorem dL_kicks_228 : decode cL_kicks 228 = .ok (.goto (-214), 3) := by decide +kernel
theorem dL_kicks_231 : decode cL_kicks 231 = .ok (.aload_n 1, 1) := by decide +kernel
theorem dL_kicks_232 : decode cL_kicks 232 = .ok (.bipush 7, 2) := by decide +kernel
theorem dL_kicks_234 : decode cL_kicks 234 = .ok (.dup2, 1) := by decide +kernel
theorem dL_kicks_235 : decode cL_kicks 235 = .ok (.iaload, 1) := by decide +kernel
theorem dL_kicks_236 : decode cL_kicks 236 = .ok (.iload 4, 2) := by decide +kernel
theorem dL_kicks_238 : decode cL_kicks 238 = .ok (.ifCond .le 7, 3) := by decide +kernel
theorem dL_kicks_241 : decode cL_kicks 241 = .ok (.iconst 1, 1) := by decide +kernel
theorem dL_kicks_242 : decode cL_kicks 242 = .ok (.goto 4, 3) := by decide +kernel
theorem dL_kicks_245 : decode cL_kicks 245 = .ok (.iconst 0, 1) := by decide +kernel
theorem dL_kicks_246 : decode cL_kicks 246 = .ok (.iadd, 1) := by decide +kernel
theorem dL_kicks_247 : decode cL_kicks 247 = .ok (.iastore, 1) := by decide +kernel
theorem dL_kicks_248 : decode cL_kicks 248 = .ok (.aload_n 1, 1) := by decide +kernel
theorem dL_kicks_249 : decode cL_kicks 249 = .ok (.bipush 7, 2) := by decide +kernel
theorem dL_kicks_251 : decode cL_kicks 251 = .ok (.iaload, 1) := by decide +kernel
theorem dL_kicks_252 : decode cL_kicks 252 = .ok (.aload_n 0, 1) := by decide +kernel
theorem dL_kicks_253 : decode cL_kicks 253 = .ok (.bipush 17, 2) := by decide +kernel
theorem dL_kicks_255 : decode cL_kicks 255 = .ok (.invokevirtual 10, 3) := by decide +kernel
theorem dL_kicks_258 : decode cL_kicks 258 = .ok (.if_icmp .gt 19, 3) := by decide +kernel
theorem dL_kicks_261 : decode cL_kicks 261 = .ok (.aload_n 1, 1) := by decide +kernel
theorem dL_kicks_262 : decode cL_kicks 262 = .ok (.iconst 5, 1) := by decide +kernel
theorem dL_kicks_263 : decode cL_kicks 263 = .ok (.iaload, 1) := by decide +kernel
theorem dL_kicks_264 : decode cL_kicks 264 = .ok (.aload_n 0, 1) := by decide +kernel
theorem dL_kicks_265 : decode cL_kicks 265 = .ok (.bipush 16, 2) := by decide +kernel
theorem dL_kicks_267 : decode cL_kicks 267 = .ok (.invokevirtual 10, 3) := by decide +kernel
theorem dL_kicks_270 : decode cL_kicks 270 = .ok (.if_icmp .lt 7, 3) := by decide +kernel
theorem dL_kicks_273 : decode cL_kicks 273 = .ok (.iconst 1, 1) := by decide +kernel
theorem dL_kicks_274 : decode cL_kicks 274 = .ok (.goto 4, 3) := by decide +kernel
theorem dL_kicks_277 : decode cL_kicks 277 = .ok (.iconst 0, 1) := by decide +kernel
theorem dL_kicks_278 : decode cL_kicks 278 = .ok (.ireturn, 1) := by decide +kernel
theorem dL_tick_0 : decode cL_tick 0 = .ok (.aload_n 1, 1) := by decide +kernel
theorem dL_tick_1 : decode cL_tick 1 = .ok (.iconst 0, 1) := by decide +kernel
theorem dL_tick_2 : decode cL_tick 2 = .ok (.iaload, 1) := by decide +kernel
theorem dL_tick_3 : decode cL_tick 3 = .ok (.ifCond .ne 25, 3) := by decide +kernel
theorem dL_tick_6 : decode cL_tick 6 = .ok (.aload_n 1, 1) := by decide +kernel
theorem dL_tick_7 : decode cL_tick 7 = .ok (.iconst 3, 1) := by decide +kernel
theorem dL_tick_8 : decode cL_tick 8 = .ok (.dup2, 1) := by decide +kernel
theorem dL_tick_9 : decode cL_tick 9 = .ok (.iaload, 1) := by decide +kernel
theorem dL_tick_10 : decode cL_tick 10 = .ok (.iconst 1, 1) := by decide +kernel
theorem dL_tick_11 : decode cL_tick 11 = .ok (.isub, 1) := by decide +kernel
theorem dL_tick_12 : decode cL_tick 12 = .ok (.iastore, 1) := by decide +kernel
theorem dL_tick_13 : decode cL_tick 13 = .ok (.aload_n 1, 1) := by decide +kernel
theorem dL_tick_14 : decode cL_tick 14 = .ok (.iconst 0, 1) := by decide +kernel
theorem dL_tick_15 : decode cL_tick 15 = .ok (.aload_n 1, 1) := by decide +kernel
theorem dL_tick_16 : decode cL_tick 16 = .ok (.iconst 3, 1) := by decide +kernel
theorem dL_tick_17 : decode cL_tick 17 = .ok (.iaload, 1) := by decide +kernel
theorem dL_tick_18 : decode cL_tick 18 = .ok (.ifCond .ne 7, 3) := by decide +kernel
theorem dL_tick_21 : decode cL_tick 21 = .ok (.iconst 1, 1) := by decide +kernel
theorem dL_tick_22 : decode cL_tick 22 = .ok (.goto 4, 3) := by decide +kernel
theorem dL_tick_25 : decode cL_tick 25 = .ok (.iconst 0, 1) := by decide +kernel
theorem dL_tick_26 : decode cL_tick 26 = .ok (.iastore, 1) := by decide +kernel
theorem dL_tick_27 : decode cL_tick 27 = .ok (.return_, 1) := by decide +kernel
theorem dL_tick_28 : decode cL_tick 28 = .ok (.aload_n 1, 1) := by decide +kernel
theorem dL_tick_29 : decode cL_tick 29 = .ok (.iconst 0, 1) := by decide +kernel
theorem dL_tick_30 : decode cL_tick 30 = .ok (.iaload, 1) := by decide +kernel
theorem dL_tick_31 : decode cL_tick 31 = .ok (.iconst 2, 1) := by decide +kernel
theorem dL_tick_32 : decode cL_tick 32 = .ok (.if_icmp .ne 4, 3) := by decide +kernel
theorem dL_tick_35 : decode cL_tick 35 = .ok (.return_, 1) := by decide +kernel
theorem dL_tick_36 : decode cL_tick 36 = .ok (.aload_n 1, 1) := by decide +kernel
theorem dL_tick_37 : decode cL_tick 37 = .ok (.iconst 4, 1) := by decide +kernel
theorem dL_tick_38 : decode cL_tick 38 = .ok (.dup2, 1) := by decide +kernel
theorem dL_tick_39 : decode cL_tick 39 = .ok (.iaload, 1) := by decide +kernel
theorem dL_tick_40 : decode cL_tick 40 = .ok (.iconst 1, 1) := by decide +kernel
theorem dL_tick_41 : decode cL_tick 41 = .ok (.iadd, 1) := by decide +kernel
theorem dL_tick_42 : decode cL_tick 42 = .ok (.iastore, 1) := by decide +kernel
theorem dL_tick_43 : decode cL_tick 43 = .ok (.aload_n 1, 1) := by decide +kernel
theorem dL_tick_44 : decode cL_tick 44 = .ok (.iconst 5, 1) := by decide +kernel
theorem dL_tick_45 : decode cL_tick 45 = .ok (.dup2, 1) := by decide +kernel
theorem dL_tick_46 : decode cL_tick 46 = .ok (.iaload, 1) := by decide +kernel
theorem dL_tick_47 : decode cL_tick 47 = .ok (.iconst 1, 1) := by decide +kernel
theorem dL_tick_48 : decode cL_tick 48 = .ok (.iadd, 1) := by decide +kernel
theorem dL_tick_49 : decode cL_tick 49 = .ok (.iastore, 1) := by decide +kernel
theorem dL_tick_50 : decode cL_tick 50 = .ok (.iconst 0, 1) := by decide +kernel
theorem dL_tick_51 : decode cL_tick 51 = .ok (.istore 6, 2) := by decide +kernel
theorem dL_tick_53 : decode cL_tick 53 = .ok (.iload 6, 2) := by decide +kernel
theorem dL_tick_55 : decode cL_tick 55 = .ok (.iload 4, 2) := by decide +kernel
theorem dL_tick_57 : decode cL_tick 57 = .ok (.if_icmp .ge 33, 3) := by decide +kernel
theorem dL_tick_60 : decode cL_tick 60 = .ok (.aload_n 0, 1) := by decide +kernel
theorem dL_tick_61 : decode cL_tick 61 = .ok (.aload_n 1, 1) := by decide +kernel
theorem dL_tick_62 : decode cL_tick 62 = .ok (.aload_n 2, 1) := by decide +kernel
theorem dL_tick_63 : decode cL_tick 63 = .ok (.aload_n 3, 1) := by decide +kernel
theorem dL_tick_64 : decode cL_tick 64 = .ok (.iload 6, 2) := by decide +kernel
theorem dL_tick_66 : decode cL_tick 66 = .ok (.invokestatic 24, 3) := by decide +kernel
theorem dL_tick_69 : decode cL_tick 69 = .ok (.ifCond .eq 15, 3) := by decide +kernel
theorem dL_tick_72 : decode cL_tick 72 = .ok (.aload_n 0, 1) := by decide +kernel
theorem dL_tick_73 : decode cL_tick 73 = .ok (.aload_n 1, 1) := by decide +kernel
theorem dL_tick_74 : decode cL_tick 74 = .ok (.aload_n 2, 1) := by decide +kernel
theorem dL_tick_75 : decode cL_tick 75 = .ok (.iconst 3, 1) := by decide +kernel
theorem dL_tick_76 : decode cL_tick 76 = .ok (.iload 6, 2) := by decide +kernel
theorem dL_tick_78 : decode cL_tick 78 = .ok (.iload 5, 2) := by decide +kernel
theorem dL_tick_80 : decode cL_tick 80 = .ok (.invokestatic 28, 3) := by decide +kernel
theorem dL_tick_83 : decode cL_tick 83 = .ok (.return_, 1) := by decide +kernel
theorem dL_tick_84 : decode cL_tick 84 = .ok (.iinc 6 1, 3) := by decide +kernel
theorem dL_tick_87 : decode cL_tick 87 = .ok (.goto (-34), 3) := by decide +kernel
theorem dL_tick_90 : decode cL_tick 90 = .ok (.aload_n 1, 1) := by decide +kernel
theorem dL_tick_91 : decode cL_tick 91 = .ok (.iconst 4, 1) := by decide +kernel
theorem dL_tick_92 : decode cL_tick 92 = .ok (.iaload, 1) := by decide +kernel
theorem dL_tick_93 : decode cL_tick 93 = .ok (.aload_n 0, 1) := by decide +kernel
theorem dL_tick_94 : decode cL_tick 94 = .ok (.bipush 15, 2) := by decide +kernel
theorem dL_tick_96 : decode cL_tick 96 = .ok (.invokevirtual 10, 3) := by decide +kernel
theorem dL_tick_99 : decode cL_tick 99 = .ok (.irem, 1) := by decide +kernel
theorem dL_tick_100 : decode cL_tick 100 = .ok (.ifCond .ne 18, 3) := by decide +kernel
theorem dL_tick_103 : decode cL_tick 103 = .ok (.aload_n 0, 1) := by decide +kernel
theorem dL_tick_104 : decode cL_tick 104 = .ok (.aload_n 1, 1) := by decide +kernel
theorem dL_tick_105 : decode cL_tick 105 = .ok (.aload_n 2, 1) := by decide +kernel
theorem dL_tick_106 : decode cL_tick 106 = .ok (.iload 4, 2) := by decide +kernel
theorem dL_tick_108 : decode cL_tick 108 = .ok (.invokestatic 32, 3) := by decide +kernel
theorem dL_tick_111 : decode cL_tick 111 = .ok (.ifCond .eq 7, 3) := by decide +kernel
theorem dL_tick_114 : decode cL_tick 114 = .ok (.iconst 1, 1) := by decide +kernel
theorem dL_tick_115 : decode cL_tick 115 = .ok (.goto 4, 3) := by decide +kernel
theorem dL_tick_118 : decode cL_tick 118 = .ok (.iconst 0, 1) := by decide +kernel
theorem dL_tick_119 : decode cL_tick 119 = .ok (.istore 6, 2) := by decide +kernel
theorem dL_tick_121 : decode cL_tick 121 = .ok (.iload 6, 2) := by decide +kernel
theorem dL_tick_123 : decode cL_tick 123 = .ok (.ifCond .eq 29, 3) := by decide +kernel
theorem dL_tick_126 : decode cL_tick 126 = .ok (.aload_n 1, 1) := by decide +kernel
theorem dL_tick_127 : decode cL_tick 127 = .ok (.iconst 5, 1) := by decide +kernel
theorem dL_tick_128 : decode cL_tick 128 = .ok (.iaload, 1) := by decide +kernel
theorem dL_tick_129 : decode cL_tick 129 = .ok (.aload_n 0, 1) := by decide +kernel
theorem dL_tick_130 : decode cL_tick 130 = .ok (.bipush 13, 2) := by decide +kernel
theorem dL_tick_132 : decode cL_tick 132 = .ok (.invokevirtual 10, 3) := by decide +kernel
theorem dL_tick_135 : decode cL_tick 135 = .ok (.if_icmp .ge 17, 3) := by decide +kernel
theorem dL_tick_138 : decode cL_tick 138 = .ok (.aload_n 0, 1) := by decide +kernel
theorem dL_tick_139 : decode cL_tick 139 = .ok (.aload_n 1, 1) := by decide +kernel
theorem dL_tick_140 : decode cL_tick 140 = .ok (.aload_n 2, 1) := by decide +kernel
theorem dL_tick_141 : decode cL_tick 141 = .ok (.iconst 1, 1) := by decide +kernel
theorem dL_tick_142 : decode cL_tick 142 = .ok (.bipush (-6), 2) := by decide +kernel
theorem dL_tick_144 : decode cL_tick 144 = .ok (.iload 5, 2) := by decide +kernel
theorem dL_tick_146 : decode cL_tick 146 = .ok (.invokestatic 28, 3) := by decide +kernel
theorem dL_tick_149 : decode cL_tick 149 = .ok (.goto 71, 3) := by decide +kernel
theorem dL_tick_152 : decode cL_tick 152 = .ok (.iload 6, 2) := by decide +kernel
theorem dL_tick_154 : decode cL_tick 154 = .ok (.ifCond .ne 29, 3) := by decide +kernel
theorem dL_tick_157 : decode cL_tick 157 = .ok (.aload_n 1, 1) := by decide +kernel
theorem dL_tick_158 : decode cL_tick 158 = .ok (.iconst 5, 1) := by decide +kernel
theorem dL_tick_159 : decode cL_tick 159 = .ok (.iaload, 1) := by decide +kernel
theorem dL_tick_160 : decode cL_tick 160 = .ok (.aload_n 0, 1) := by decide +kernel
theorem dL_tick_161 : decode cL_tick 161 = .ok (.bipush 14, 2) := by decide +kernel
theorem dL_tick_163 : decode cL_tick 163 = .ok (.invokevirtual 10, 3) := by decide +kernel
theorem dL_tick_166 : decode cL_tick 166 = .ok (.if_icmp .le 17, 3) := by decide +kernel
theorem dL_tick_169 : decode cL_tick 169 = .ok (.aload_n 0, 1) := by decide +kernel
theorem dL_tick_170 : decode cL_tick 170 = .ok (.aload_n 1, 1) := by decide +kernel
theorem dL_tick_171 : decode cL_tick 171 = .ok (.aload_n 2, 1) := by decide +kernel
theorem dL_tick_172 : decode cL_tick 172 = .ok (.iconst 2, 1) := by decide +kernel
theorem dL_tick_173 : decode cL_tick 173 = .ok (.bipush (-6), 2) := by decide +kernel
theorem dL_tick_175 : decode cL_tick 175 = .ok (.iload 5, 2) := by decide +kernel
theorem dL_tick_177 : decode cL_tick 177 = .ok (.invokestatic 28, 3) := by decide +kernel
theorem dL_tick_180 : decode cL_tick 180 = .ok (.goto 40, 3) := by decide +kernel
theorem dL_tick_183 : decode cL_tick 183 = .ok (.aload_n 1, 1) := by decide +kernel
theorem dL_tick_184 : decode cL_tick 184 = .ok (.iconst 5, 1) := by decide +kernel
theorem dL_tick_185 : decode cL_tick 185 = .ok (.iload 6, 2) := by decide +kernel
theorem dL_tick_187 : decode cL_tick 187 = .ok (.ifCond .eq 7, 3) := by decide +kernel
theorem dL_tick_190 : decode cL_tick 190 = .ok (.iconst 0, 1) := by decide +kernel
theorem dL_tick_191 : decode cL_tick 191 = .ok (.goto 6, 3) := by decide +kernel
theorem dL_tick_194 : decode cL_tick 194 = .ok (.aload_n 1, 1) := by decide +kernel
theorem dL_tick_195 : decode cL_tick 195 = .ok (.iconst 5, 1) := by decide +kernel
theorem dL_tick_196 : decode cL_tick 196 = .ok (.iaload, 1) := by decide +kernel
theorem dL_tick_197 : decode cL_tick 197 = .ok (.iastore, 1) := by decide +kernel
theorem dL_tick_198 : decode cL_tick 198 = .ok (.aload_n 1, 1) := by decide +kernel
theorem dL_tick_199 : decode cL_tick 199 = .ok (.iconst 2, 1) := by decide +kernel
theorem dL_tick_200 : decode cL_tick 200 = .ok (.aload_n 1, 1) := by decide +kernel
theorem dL_tick_201 : decode cL_tick 201 = .ok (.iconst 4, 1) := by decide +kernel
theorem dL_tick_202 : decode cL_tick 202 = .ok (.iaload, 1) := by decide +kernel
theorem dL_tick_203 : decode cL_tick 203 = .ok (.aload_n 0, 1) := by decide +kernel
theorem dL_tick_204 : decode cL_tick 204 = .ok (.bipush 19, 2) := by decide +kernel
theorem dL_tick_206 : decode cL_tick 206 = .ok (.invokevirtual 10, 3) := by decide +kernel
theorem dL_tick_209 : decode cL_tick 209 = .ok (.if_icmp .ne 7, 3) := by decide +kernel
theorem dL_tick_212 : decode cL_tick 212 = .ok (.iconst 0, 1) := by decide +kernel
theorem dL_tick_213 : decode cL_tick 213 = .ok (.goto 6, 3) := by decide +kernel
theorem dL_tick_216 : decode cL_tick 216 = .ok (.aload_n 1, 1) := by decide +kernel
theorem dL_tick_217 : decode cL_tick 217 = .ok (.iconst 2, 1) := by decide +kernel
theorem dL_tick_218 : decode cL_tick 218 = .ok (.iaload, 1) := by decide +kernel
theorem dL_tick_219 : decode cL_tick 219 = .ok (.iastore, 1) := by decide +kernel
theorem dL_tick_220 : decode cL_tick 220 = .ok (.return_, 1) := by decide +kernel
theorem dL_isTold_0 : decode cL_isTold 0 = .ok (.iconst 0, 1) := by decide +kernel
theorem dL_isTold_1 : decode cL_isTold 1 = .ok (.istore 4, 2) := by decide +kernel
theorem dL_isTold_3 : decode cL_isTold 3 = .ok (.iconst 0, 1) := by decide +kernel
theorem dL_isTold_4 : decode cL_isTold 4 = .ok (.istore 5, 2) := by decide +kernel
theorem dL_isTold_6 : decode cL_isTold 6 = .ok (.iload 5, 2) := by decide +kernel
theorem dL_isTold_8 : decode cL_isTold 8 = .ok (.iload_n 3, 1) := by decide +kernel
theorem dL_isTold_9 : decode cL_isTold 9 = .ok (.if_icmp .ge 216, 3) := by decide +kernel
theorem dL_isTold_12 : decode cL_isTold 12 = .ok (.bipush 10, 2) := by decide +kernel
theorem dL_isTold_14 : decode cL_isTold 14 = .ok (.iload 5, 2) := by decide +kernel
theorem dL_isTold_16 : decode cL_isTold 16 = .ok (.imul, 1) := by decide +kernel
theorem dL_isTold_17 : decode cL_isTold 17 = .ok (.istore 6, 2) := by decide +kernel
theorem dL_isTold_19 : decode cL_isTold 19 = .ok (.iload 4, 2) := by decide +kernel
theorem dL_isTold_21 : decode cL_isTold 21 = .ok (.aload_n 2, 1) := by decide +kernel
theorem dL_isTold_22 : decode cL_isTold 22 = .ok (.iload 6, 2) := by decide +kernel
theorem dL_isTold_24 : decode cL_isTold 24 = .ok (.bipush 7, 2) := by decide +kernel
theorem dL_isTold_26 : decode cL_isTold 26 = .ok (.iadd, 1) := by decide +kernel
theorem dL_isTold_27 : decode cL_isTold 27 = .ok (.iaload, 1) := by decide +kernel
theorem dL_isTold_28 : decode cL_isTold 28 = .ok (.iload 5, 2) := by decide +kernel
theorem dL_isTold_30 : decode cL_isTold 30 = .ok (.ishl, 1) := by decide +kernel
theorem dL_isTold_31 : decode cL_isTold 31 = .ok (.ior, 1) := by decide +kernel
theorem dL_isTold_32 : decode cL_isTold 32 = .ok (.istore 4, 2) := by decide +kernel
theorem dL_isTold_34 : decode cL_isTold 34 = .ok (.aload_n 0, 1) := by decide +kernel
theorem dL_isTold_35 : decode cL_isTold 35 = .ok (.iload 5, 2) := by decide +kernel
theorem dL_isTold_37 : decode cL_isTold 37 = .ok (.bipush 8, 2) := by decide +kernel
theorem dL_isTold_39 : decode cL_isTold 39 = .ok (.invokevirtual 20, 3) := by decide +kernel
theorem dL_isTold_42 : decode cL_isTold 42 = .ok (.aload_n 2, 1) := by decide +kernel
theorem dL_isTold_43 : decode cL_isTold 43 = .ok (.iload 6, 2) := by decide +kernel
theorem dL_isTold_45 : decode cL_isTold 45 = .ok (.iconst 0, 1) := by decide +kernel
theorem dL_isTold_46 : decode cL_isTold 46 = .ok (.iadd, 1) := by decide +kernel
theorem dL_isTold_47 : decode cL_isTold 47 = .ok (.iaload, 1) := by decide +kernel
theorem dL_isTold_48 : decode cL_isTold 48 = .ok (.if_icmp .ne 169, 3) := by decide +kernel
theorem dL_isTold_51 : decode cL_isTold 51 = .ok (.aload_n 0, 1) := by decide +kernel
theorem dL_isTold_52 : decode cL_isTold 52 = .ok (.iload 5, 2) := by decide +kernel
theorem dL_isTold_54 : decode cL_isTold 54 = .ok (.bipush 9, 2) := by decide +kernel
theorem dL_isTold_56 : decode cL_isTold 56 = .ok (.invokevirtual 20, 3) := by decide +kernel
theorem dL_isTold_59 : decode cL_isTold 59 = .ok (.aload_n 2, 1) := by decide +kernel
theorem dL_isTold_60 : decode cL_isTold 60 = .ok (.iload 6, 2) := by decide +kernel
theorem dL_isTold_62 : decode cL_isTold 62 = .ok (.iconst 3, 1) := by decide +kernel
theorem dL_isTold_63 : decode cL_isTold 63 = .ok (.iadd, 1) := by decide +kernel
theorem dL_isTold_64 : decode cL_isTold 64 = .ok (.iaload, 1) := by decide +kernel
theorem dL_isTold_65 : decode cL_isTold 65 = .ok (.iconst 1, 1) := by decide +kernel
theorem dL_isTold_66 : decode cL_isTold 66 = .ok (.aload_n 2, 1) := by decide +kernel
theorem dL_isTold_67 : decode cL_isTold 67 = .ok (.iload 6, 2) := by decide +kernel
theorem dL_isTold_69 : decode cL_isTold 69 = .ok (.iconst 1, 1) := by decide +kernel
theorem dL_isTold_70 : decode cL_isTold 70 = .ok (.iadd, 1) := by decide +kernel
theorem dL_isTold_71 : decode cL_isTold 71 = .ok (.iaload, 1) := by decide +kernel
theorem dL_isTold_72 : decode cL_isTold 72 = .ok (.isub, 1) := by decide +kernel
theorem dL_isTold_73 : decode cL_isTold 73 = .ok (.imul, 1) := by decide +kernel
theorem dL_isTold_74 : decode cL_isTold 74 = .ok (.if_icmp .ne 143, 3) := by decide +kernel
theorem dL_isTold_77 : decode cL_isTold 77 = .ok (.aload_n 0, 1) := by decide +kernel
theorem dL_isTold_78 : decode cL_isTold 78 = .ok (.iload 5, 2) := by decide +kernel
theorem dL_isTold_80 : decode cL_isTold 80 = .ok (.bipush 10, 2) := by decide +kernel
theorem dL_isTold_82 : decode cL_isTold 82 = .ok (.invokevirtual 20, 3) := by decide +kernel
theorem dL_isTold_85 : decode cL_isTold 85 = .ok (.aload_n 2, 1) := by decide +kernel
theorem dL_isTold_86 : decode cL_isTold 86 = .ok (.iload 6, 2) := by decide +kernel
theorem dL_isTold_88 : decode cL_isTold 88 = .ok (.iconst 4, 1) := by decide +kernel
theorem dL_isTold_89 : decode cL_isTold 89 = .ok (.iadd, 1) := by decide +kernel
theorem dL_isTold_90 : decode cL_isTold 90 = .ok (.iaload, 1) := by decide +kernel
theorem dL_isTold_91 : decode cL_isTold 91 = .ok (.if_icmp .ne 126, 3) := by decide +kernel
theorem dL_isTold_94 : decode cL_isTold 94 = .ok (.aload_n 0, 1) := by decide +kernel
theorem dL_isTold_95 : decode cL_isTold 95 = .ok (.iload 5, 2) := by decide +kernel
theorem dL_isTold_97 : decode cL_isTold 97 = .ok (.bipush 11, 2) := by decide +kernel
theorem dL_isTold_99 : decode cL_isTold 99 = .ok (.invokevirtual 20, 3) := by decide +kernel
theorem dL_isTold_102 : decode cL_isTold 102 = .ok (.aload_n 2, 1) := by decide +kernel
theorem dL_isTold_103 : decode cL_isTold 103 = .ok (.iload 6, 2) := by decide +kernel
theorem dL_isTold_105 : decode cL_isTold 105 = .ok (.iconst 5, 1) := by decide +kernel
theorem dL_isTold_106 : decode cL_isTold 106 = .ok (.iadd, 1) := by decide +kernel
theorem dL_isTold_107 : decode cL_isTold 107 = .ok (.iaload, 1) := by decide +kernel
theorem dL_isTold_108 : decode cL_isTold 108 = .ok (.if_icmp .ne 109, 3) := by decide +kernel
theorem dL_isTold_111 : decode cL_isTold 111 = .ok (.aload_n 0, 1) := by decide +kernel
theorem dL_isTold_112 : decode cL_isTold 112 = .ok (.iload 5, 2) := by decide +kernel
theorem dL_isTold_114 : decode cL_isTold 114 = .ok (.bipush 12, 2) := by decide +kernel
theorem dL_isTold_116 : decode cL_isTold 116 = .ok (.invokevirtual 20, 3) := by decide +kernel
theorem dL_isTold_119 : decode cL_isTold 119 = .ok (.aload_n 2, 1) := by decide +kernel
theorem dL_isTold_120 : decode cL_isTold 120 = .ok (.iload 6, 2) := by decide +kernel
theorem dL_isTold_122 : decode cL_isTold 122 = .ok (.bipush 6, 2) := by decide +kernel
theorem dL_isTold_124 : decode cL_isTold 124 = .ok (.iadd, 1) := by decide +kernel
theorem dL_isTold_125 : decode cL_isTold 125 = .ok (.iaload, 1) := by decide +kernel
theorem dL_isTold_126 : decode cL_isTold 126 = .ok (.if_icmp .ne 91, 3) := by decide +kernel
theorem dL_isTold_129 : decode cL_isTold 129 = .ok (.aload_n 0, 1) := by decide +kernel
theorem dL_isTold_130 : decode cL_isTold 130 = .ok (.iload 5, 2) := by decide +kernel
theorem dL_isTold_132 : decode cL_isTold 132 = .ok (.bipush 13, 2) := by decide +kernel
theorem dL_isTold_134 : decode cL_isTold 134 = .ok (.invokevirtual 20, 3) := by decide +kernel
theorem dL_isTold_137 : decode cL_isTold 137 = .ok (.aload_n 2, 1) := by decide +kernel
theorem dL_isTold_138 : decode cL_isTold 138 = .ok (.iload 6, 2) := by decide +kernel
theorem dL_isTold_140 : decode cL_isTold 140 = .ok (.bipush 7, 2) := by decide +kernel
theorem dL_isTold_142 : decode cL_isTold 142 = .ok (.iadd, 1) := by decide +kernel
theorem dL_isTold_143 : decode cL_isTold 143 = .ok (.iaload, 1) := by decide +kernel
theorem dL_isTold_144 : decode cL_isTold 144 = .ok (.if_icmp .ne 73, 3) := by decide +kernel
theorem dL_isTold_147 : decode cL_isTold 147 = .ok (.aload_n 0, 1) := by decide +kernel
theorem dL_isTold_148 : decode cL_isTold 148 = .ok (.iload 5, 2) := by decide +kernel
theorem dL_isTold_150 : decode cL_isTold 150 = .ok (.bipush 16, 2) := by decide +kernel
theorem dL_isTold_152 : decode cL_isTold 152 = .ok (.invokevirtual 20, 3) := by decide +kernel
theorem dL_isTold_155 : decode cL_isTold 155 = .ok (.aload_n 2, 1) := by decide +kernel
theorem dL_isTold_156 : decode cL_isTold 156 = .ok (.iload 6, 2) := by decide +kernel
theorem dL_isTold_158 : decode cL_isTold 158 = .ok (.bipush 8, 2) := by decide +kernel
theorem dL_isTold_160 : decode cL_isTold 160 = .ok (.iadd, 1) := by decide +kernel
theorem dL_isTold_161 : decode cL_isTold 161 = .ok (.iaload, 1) := by decide +kernel
theorem dL_isTold_162 : decode cL_isTold 162 = .ok (.if_icmp .ne 55, 3) := by decide +kernel
theorem dL_isTold_165 : decode cL_isTold 165 = .ok (.aload_n 0, 1) := by decide +kernel
theorem dL_isTold_166 : decode cL_isTold 166 = .ok (.iload 5, 2) := by decide +kernel
theorem dL_isTold_168 : decode cL_isTold 168 = .ok (.bipush 18, 2) := by decide +kernel
theorem dL_isTold_170 : decode cL_isTold 170 = .ok (.invokevirtual 20, 3) := by decide +kernel
theorem dL_isTold_173 : decode cL_isTold 173 = .ok (.aload_n 2, 1) := by decide +kernel
theorem dL_isTold_174 : decode cL_isTold 174 = .ok (.iload 6, 2) := by decide +kernel
theorem dL_isTold_176 : decode cL_isTold 176 = .ok (.bipush 9, 2) := by decide +kernel
theorem dL_isTold_178 : decode cL_isTold 178 = .ok (.iadd, 1) := by decide +kernel
theorem dL_isTold_179 : decode cL_isTold 179 = .ok (.iaload, 1) := by decide +kernel
theorem dL_isTold_180 : decode cL_isTold 180 = .ok (.if_icmp .ne 37, 3) := by decide +kernel
theorem dL_isTold_183 : decode cL_isTold 183 = .ok (.aload_n 0, 1) := by decide +kernel
theorem dL_isTold_184 : decode cL_isTold 184 = .ok (.iload 5, 2) := by decide +kernel
theorem dL_isTold_186 : decode cL_isTold 186 = .ok (.bipush 17, 2) := by decide +kernel
theorem dL_isTold_188 : decode cL_isTold 188 = .ok (.invokevirtual 20, 3) := by decide +kernel
theorem dL_isTold_191 : decode cL_isTold 191 = .ok (.ifCond .ge 7, 3) := by decide +kernel
theorem dL_isTold_194 : decode cL_isTold 194 = .ok (.iconst 1, 1) := by decide +kernel
theorem dL_isTold_195 : decode cL_isTold 195 = .ok (.goto 4, 3) := by decide +kernel
theorem dL_isTold_198 : decode cL_isTold 198 = .ok (.iconst 0, 1) := by decide +kernel
theorem dL_isTold_199 : decode cL_isTold 199 = .ok (.aload_n 2, 1) := by decide +kernel
theorem dL_isTold_200 : decode cL_isTold 200 = .ok (.iload 6, 2) := by decide +kernel
theorem dL_isTold_202 : decode cL_isTold 202 = .ok (.bipush 8, 2) := by decide +kernel
theorem dL_isTold_204 : decode cL_isTold 204 = .ok (.iadd, 1) := by decide +kernel
theorem dL_isTold_205 : decode cL_isTold 205 = .ok (.iaload, 1) := by decide +kernel
theorem dL_isTold_206 : decode cL_isTold 206 = .ok (.ifCond .ne 7, 3) := by decide +kernel
theorem dL_isTold_209 : decode cL_isTold 209 = .ok (.iconst 1, 1) := by decide +kernel
theorem dL_isTold_210 : decode cL_isTold 210 = .ok (.goto 4, 3) := by decide +kernel
theorem dL_isTold_213 : decode cL_isTold 213 = .ok (.iconst 0, 1) := by decide +kernel
theorem dL_isTold_214 : decode cL_isTold 214 = .ok (.if_icmp .eq 5, 3) := by decide +kernel
theorem dL_isTold_217 : decode cL_isTold 217 = .ok (.iconst 0, 1) := by decide +kernel
theorem dL_isTold_218 : decode cL_isTold 218 = .ok (.ireturn, 1) := by decide +kernel
theorem dL_isTold_219 : decode cL_isTold 219 = .ok (.iinc 5 1, 3) := by decide +kernel
theorem dL_isTold_222 : decode cL_isTold 222 = .ok (.goto (-216), 3) := by decide +kernel
theorem dL_isTold_225 : decode cL_isTold 225 = .ok (.aload_n 1, 1) := by decide +kernel
theorem dL_isTold_226 : decode cL_isTold 226 = .ok (.bipush 8, 2) := by decide +kernel
theorem dL_isTold_228 : decode cL_isTold 228 = .ok (.iaload, 1) := by decide +kernel
theorem dL_isTold_229 : decode cL_isTold 229 = .ok (.iconst 1, 1) := by decide +kernel
theorem dL_isTold_230 : decode cL_isTold 230 = .ok (.isub, 1) := by decide +kernel
theorem dL_isTold_231 : decode cL_isTold 231 = .ok (.istore 5, 2) := by decide +kernel
theorem dL_isTold_233 : decode cL_isTold 233 = .ok (.iload 5, 2) := by decide +kernel
theorem dL_isTold_235 : decode cL_isTold 235 = .ok (.ifCond .lt 75, 3) := by decide +kernel
theorem dL_isTold_238 : decode cL_isTold 238 = .ok (.aload_n 0, 1) := by decide +kernel
theorem dL_isTold_239 : decode cL_isTold 239 = .ok (.iload 5, 2) := by decide +kernel
theorem dL_isTold_241 : decode cL_isTold 241 = .ok (.iconst 0, 1) := by decide +kernel
theorem dL_isTold_242 : decode cL_isTold 242 = .ok (.invokevirtual 36, 3) := by decide +kernel
theorem dL_isTold_245 : decode cL_isTold 245 = .ok (.aload_n 1, 1) := by decide +kernel
theorem dL_isTold_246 : decode cL_isTold 246 = .ok (.bipush 9, 2) := by decide +kernel
theorem dL_isTold_248 : decode cL_isTold 248 = .ok (.iaload, 1) := by decide +kernel
theorem dL_isTold_249 : decode cL_isTold 249 = .ok (.if_icmp .ne 59, 3) := by decide +kernel
theorem dL_isTold_252 : decode cL_isTold 252 = .ok (.aload_n 0, 1) := by decide +kernel
theorem dL_isTold_253 : decode cL_isTold 253 = .ok (.iload 5, 2) := by decide +kernel
theorem dL_isTold_255 : decode cL_isTold 255 = .ok (.iconst 1, 1) := by decide +kernel
theorem dL_isTold_256 : decode cL_isTold 256 = .ok (.invokevirtual 36, 3) := by decide +kernel
theorem dL_isTold_259 : decode cL_isTold 259 = .ok (.aload_n 1, 1) := by decide +kernel
theorem dL_isTold_260 : decode cL_isTold 260 = .ok (.bipush 10, 2) := by decide +kernel
theorem dL_isTold_262 : decode cL_isTold 262 = .ok (.iaload, 1) := by decide +kernel
theorem dL_isTold_263 : decode cL_isTold 263 = .ok (.if_icmp .ne 45, 3) := by decide +kernel
theorem dL_isTold_266 : decode cL_isTold 266 = .ok (.aload_n 0, 1) := by decide +kernel
theorem dL_isTold_267 : decode cL_isTold 267 = .ok (.iload 5, 2) := by decide +kernel
theorem dL_isTold_269 : decode cL_isTold 269 = .ok (.iconst 2, 1) := by decide +kernel
theorem dL_isTold_270 : decode cL_isTold 270 = .ok (.invokevirtual 36, 3) := by decide +kernel
theorem dL_isTold_273 : decode cL_isTold 273 = .ok (.aload_n 1, 1) := by decide +kernel
theorem dL_isTold_274 : decode cL_isTold 274 = .ok (.bipush 11, 2) := by decide +kernel
theorem dL_isTold_276 : decode cL_isTold 276 = .ok (.iaload, 1) := by decide +kernel
theorem dL_isTold_277 : decode cL_isTold 277 = .ok (.if_icmp .ne 31, 3) := by decide +kernel
theorem dL_isTold_280 : decode cL_isTold 280 = .ok (.aload_n 0, 1) := by decide +kernel
theorem dL_isTold_281 : decode cL_isTold 281 = .ok (.iload 5, 2) := by decide +kernel
theorem dL_isTold_283 : decode cL_isTold 283 = .ok (.iconst 3, 1) := by decide +kernel
theorem dL_isTold_284 : decode cL_isTold 284 = .ok (.invokevirtual 36, 3) := by decide +kernel
theorem dL_isTold_287 : decode cL_isTold 287 = .ok (.aload_n 1, 1) := by decide +kernel
theorem dL_isTold_288 : decode cL_isTold 288 = .ok (.bipush 12, 2) := by decide +kernel
theorem dL_isTold_290 : decode cL_isTold 290 = .ok (.iaload, 1) := by decide +kernel
theorem dL_isTold_291 : decode cL_isTold 291 = .ok (.if_icmp .ne 17, 3) := by decide +kernel
theorem dL_isTold_294 : decode cL_isTold 294 = .ok (.aload_n 0, 1) := by decide +kernel
theorem dL_isTold_295 : decode cL_isTold 295 = .ok (.iload 5, 2) := by decide +kernel
theorem dL_isTold_297 : decode cL_isTold 297 = .ok (.iconst 4, 1) := by decide +kernel
theorem dL_isTold_298 : decode cL_isTold 298 = .ok (.invokevirtual 36, 3) := by decide +kernel
theorem dL_isTold_301 : decode cL_isTold 301 = .ok (.aload_n 1, 1) := by decide +kernel
theorem dL_isTold_302 : decode cL_isTold 302 = .ok (.bipush 13, 2) := by decide +kernel
theorem dL_isTold_304 : decode cL_isTold 304 = .ok (.iaload, 1) := by decide +kernel
theorem dL_isTold_305 : decode cL_isTold 305 = .ok (.if_icmp .eq 5, 3) := by decide +kernel
theorem dL_isTold_308 : decode cL_isTold 308 = .ok (.iconst 0, 1) := by decide +kernel
theorem dL_isTold_309 : decode cL_isTold 309 = .ok (.ireturn, 1) := by decide +kernel
theorem dL_isTold_310 : decode cL_isTold 310 = .ok (.aload_n 0, 1) := by decide +kernel
theorem dL_isTold_311 : decode cL_isTold 311 = .ok (.iconst 1, 1) := by decide +kernel
theorem dL_isTold_312 : decode cL_isTold 312 = .ok (.invokevirtual 10, 3) := by decide +kernel
theorem dL_isTold_315 : decode cL_isTold 315 = .ok (.aload_n 1, 1) := by decide +kernel
theorem dL_isTold_316 : decode cL_isTold 316 = .ok (.iconst 0, 1) := by decide +kernel
theorem dL_isTold_317 : decode cL_isTold 317 = .ok (.iaload, 1) := by decide +kernel
theorem dL_isTold_318 : decode cL_isTold 318 = .ok (.if_icmp .ne 113, 3) := by decide +kernel
theorem dL_isTold_321 : decode cL_isTold 321 = .ok (.aload_n 0, 1) := by decide +kernel
theorem dL_isTold_322 : decode cL_isTold 322 = .ok (.iconst 2, 1) := by decide +kernel
theorem dL_isTold_323 : decode cL_isTold 323 = .ok (.invokevirtual 10, 3) := by decide +kernel
theorem dL_isTold_326 : decode cL_isTold 326 = .ok (.aload_n 1, 1) := by decide +kernel
theorem dL_isTold_327 : decode cL_isTold 327 = .ok (.iconst 1, 1) := by decide +kernel
theorem dL_isTold_328 : decode cL_isTold 328 = .ok (.iaload, 1) := by decide +kernel
theorem dL_isTold_329 : decode cL_isTold 329 = .ok (.if_icmp .ne 102, 3) := by decide +kernel
theorem dL_isTold_332 : decode cL_isTold 332 = .ok (.aload_n 0, 1) := by decide +kernel
theorem dL_isTold_333 : decode cL_isTold 333 = .ok (.iconst 3, 1) := by decide +kernel
theorem dL_isTold_334 : decode cL_isTold 334 = .ok (.invokevirtual 10, 3) := by decide +kernel
theorem dL_isTold_337 : decode cL_isTold 337 = .ok (.aload_n 1, 1) := by decide +kernel
theorem dL_isTold_338 : decode cL_isTold 338 = .ok (.iconst 2, 1) := by decide +kernel
theorem dL_isTold_339 : decode cL_isTold 339 = .ok (.iaload, 1) := by decide +kernel
theorem dL_isTold_340 : decode cL_isTold 340 = .ok (.if_icmp .ne 91, 3) := by decide +kernel
theorem dL_isTold_343 : decode cL_isTold 343 = .ok (.aload_n 0, 1) := by decide +kernel
theorem dL_isTold_344 : decode cL_isTold 344 = .ok (.iconst 4, 1) := by decide +kernel
theorem dL_isTold_345 : decode cL_isTold 345 = .ok (.invokevirtual 10, 3) := by decide +kernel
theorem dL_isTold_348 : decode cL_isTold 348 = .ok (.aload_n 1, 1) := by decide +kernel
theorem dL_isTold_349 : decode cL_isTold 349 = .ok (.iconst 3, 1) := by decide +kernel
theorem dL_isTold_350 : decode cL_isTold 350 = .ok (.iaload, 1) := by decide +kernel
theorem dL_isTold_351 : decode cL_isTold 351 = .ok (.if_icmp .ne 80, 3) := by decide +kernel
theorem dL_isTold_354 : decode cL_isTold 354 = .ok (.aload_n 0, 1) := by decide +kernel
theorem dL_isTold_355 : decode cL_isTold 355 = .ok (.iconst 5, 1) := by decide +kernel
theorem dL_isTold_356 : decode cL_isTold 356 = .ok (.invokevirtual 10, 3) := by decide +kernel
theorem dL_isTold_359 : decode cL_isTold 359 = .ok (.aload_n 1, 1) := by decide +kernel
theorem dL_isTold_360 : decode cL_isTold 360 = .ok (.iconst 4, 1) := by decide +kernel
theorem dL_isTold_361 : decode cL_isTold 361 = .ok (.iaload, 1) := by decide +kernel
theorem dL_isTold_362 : decode cL_isTold 362 = .ok (.if_icmp .ne 69, 3) := by decide +kernel
theorem dL_isTold_365 : decode cL_isTold 365 = .ok (.aload_n 0, 1) := by decide +kernel
theorem dL_isTold_366 : decode cL_isTold 366 = .ok (.bipush 6, 2) := by decide +kernel
theorem dL_isTold_368 : decode cL_isTold 368 = .ok (.invokevirtual 10, 3) := by decide +kernel
theorem dL_isTold_371 : decode cL_isTold 371 = .ok (.aload_n 1, 1) := by decide +kernel
theorem dL_isTold_372 : decode cL_isTold 372 = .ok (.iconst 5, 1) := by decide +kernel
theorem dL_isTold_373 : decode cL_isTold 373 = .ok (.iaload, 1) := by decide +kernel
theorem dL_isTold_374 : decode cL_isTold 374 = .ok (.if_icmp .ne 57, 3) := by decide +kernel
theorem dL_isTold_377 : decode cL_isTold 377 = .ok (.aload_n 0, 1) := by decide +kernel
theorem dL_isTold_378 : decode cL_isTold 378 = .ok (.bipush 7, 2) := by decide +kernel
theorem dL_isTold_380 : decode cL_isTold 380 = .ok (.invokevirtual 10, 3) := by decide +kernel
theorem dL_isTold_383 : decode cL_isTold 383 = .ok (.aload_n 1, 1) := by decide +kernel
theorem dL_isTold_384 : decode cL_isTold 384 = .ok (.bipush 6, 2) := by decide +kernel
theorem dL_isTold_386 : decode cL_isTold 386 = .ok (.iaload, 1) := by decide +kernel
theorem dL_isTold_387 : decode cL_isTold 387 = .ok (.if_icmp .ne 44, 3) := by decide +kernel
theorem dL_isTold_390 : decode cL_isTold 390 = .ok (.aload_n 0, 1) := by decide +kernel
theorem dL_isTold_391 : decode cL_isTold 391 = .ok (.bipush 8, 2) := by decide +kernel
theorem dL_isTold_393 : decode cL_isTold 393 = .ok (.invokevirtual 10, 3) := by decide +kernel
theorem dL_isTold_396 : decode cL_isTold 396 = .ok (.aload_n 1, 1) := by decide +kernel
theorem dL_isTold_397 : decode cL_isTold 397 = .ok (.bipush 7, 2) := by decide +kernel
theorem dL_isTold_399 : decode cL_isTold 399 = .ok (.iaload, 1) := by decide +kernel
theorem dL_isTold_400 : decode cL_isTold 400 = .ok (.if_icmp .ne 31, 3) := by decide +kernel
theorem dL_isTold_403 : decode cL_isTold 403 = .ok (.aload_n 0, 1) := by decide +kernel
theorem dL_isTold_404 : decode cL_isTold 404 = .ok (.bipush 9, 2) := by decide +kernel
theorem dL_isTold_406 : decode cL_isTold 406 = .ok (.invokevirtual 10, 3) := by decide +kernel
theorem dL_isTold_409 : decode cL_isTold 409 = .ok (.aload_n 1, 1) := by decide +kernel
theorem dL_isTold_410 : decode cL_isTold 410 = .ok (.bipush 8, 2) := by decide +kernel
theorem dL_isTold_412 : decode cL_isTold 412 = .ok (.iaload, 1) := by decide +kernel
theorem dL_isTold_413 : decode cL_isTold 413 = .ok (.if_icmp .ne 18, 3) := by decide +kernel
theorem dL_isTold_416 : decode cL_isTold 416 = .ok (.aload_n 0, 1) := by decide +kernel
theorem dL_isTold_417 : decode cL_isTold 417 = .ok (.bipush 11, 2) := by decide +kernel
theorem dL_isTold_419 : decode cL_isTold 419 = .ok (.invokevirtual 10, 3) := by decide +kernel
theorem dL_isTold_422 : decode cL_isTold 422 = .ok (.iload 4, 2) := by decide +kernel
theorem dL_isTold_424 : decode cL_isTold 424 = .ok (.if_icmp .ne 7, 3) := by decide +kernel
theorem dL_isTold_427 : decode cL_isTold 427 = .ok (.iconst 1, 1) := by decide +kernel
theorem dL_isTold_428 : decode cL_isTold 428 = .ok (.goto 4, 3) := by decide +kernel
theorem dL_isTold_431 : decode cL_isTold 431 = .ok (.iconst 0, 1) := by decide +kernel
theorem dL_isTold_432 : decode cL_isTold 432 = .ok (.ireturn, 1) := by decide +kernel
theorem dL_law_0 : decode cL_law 0 = .ok (.new 11, 3) := by decide +kernel
theorem dL_law_3 : decode cL_law 3 = .ok (.dup, 1) := by decide +kernel
theorem dL_law_4 : decode cL_law 4 = .ok (.invokespecial 39, 3) := by decide +kernel
theorem dL_law_7 : decode cL_law 7 = .ok (.astore_n 1, 1) := by decide +kernel
theorem dL_law_8 : decode cL_law 8 = .ok (.iconst 1, 1) := by decide +kernel
theorem dL_law_9 : decode cL_law 9 = .ok (.aload_n 0, 1) := by decide +kernel
theorem dL_law_10 : decode cL_law 10 = .ok (.iconst 0, 1) := by decide +kernel
theorem dL_law_11 : decode cL_law 11 = .ok (.iconst 3, 1) := by decide +kernel
theorem dL_law_12 : decode cL_law 12 = .ok (.invokestatic 40, 3) := by decide +kernel
theorem dL_law_15 : decode cL_law 15 = .ok (.iadd, 1) := by decide +kernel
theorem dL_law_16 : decode cL_law 16 = .ok (.istore_n 2, 1) := by decide +kernel
theorem dL_law_17 : decode cL_law 17 = .ok (.bipush 14, 2) := by decide +kernel
theorem dL_law_19 : decode cL_law 19 = .ok (.newarray .int, 2) := by decide +kernel
theorem dL_law_21 : decode cL_law 21 = .ok (.astore_n 3, 1) := by decide +kernel
theorem dL_law_22 : decode cL_law 22 = .ok (.bipush 30, 2) := by decide +kernel
theorem dL_law_24 : decode cL_law 24 = .ok (.newarray .int, 2) := by decide +kernel
theorem dL_law_26 : decode cL_law 26 = .ok (.astore 4, 2) := by decide +kernel
theorem dL_law_28 : decode cL_law 28 = .ok (.bipush 18, 2) := by decide +kernel
theorem dL_law_30 : decode cL_law 30 = .ok (.newarray .int, 2) := by decide +kernel
theorem dL_law_32 : decode cL_law 32 = .ok (.astore 5, 2) := by decide +kernel
theorem dL_law_34 : decode cL_law 34 = .ok (.aload_n 3, 1) := by decide +kernel
theorem dL_law_35 : decode cL_law 35 = .ok (.iconst 3, 1) := by decide +kernel
theorem dL_law_36 : decode cL_law 36 = .ok (.bipush 30, 2) := by decide +kernel
theorem dL_law_38 : decode cL_law 38 = .ok (.iastore, 1) := by decide +kernel
theorem dL_law_39 : decode cL_law 39 = .ok (.aload_n 1, 1) := by decide +kernel
theorem dL_law_40 : decode cL_law 40 = .ok (.iconst 0, 1) := by decide +kernel
theorem dL_law_41 : decode cL_law 41 = .ok (.aload_n 0, 1) := by decide +kernel
theorem dL_law_42 : decode cL_law 42 = .ok (.iconst 1, 1) := by decide +kernel
theorem dL_law_43 : decode cL_law 43 = .ok (.bipush 12, 2) := by decide +kernel
theorem dL_law_45 : decode cL_law 45 = .ok (.invokestatic 40, 3) := by decide +kernel
theorem dL_law_48 : decode cL_law 48 = .ok (.invokevirtual 44, 3) := by decide +kernel
theorem dL_law_51 : decode cL_law 51 = .ok (.pop, 1) := by decide +kernel
theorem dL_law_52 : decode cL_law 52 = .ok (.aload_n 1, 1) := by decide +kernel
theorem dL_law_53 : decode cL_law 53 = .ok (.iconst 1, 1) := by decide +kernel
theorem dL_law_54 : decode cL_law 54 = .ok (.bipush 10, 2) := by decide +kernel
theorem dL_law_56 : decode cL_law 56 = .ok (.aload_n 0, 1) := by decide +kernel
theorem dL_law_57 : decode cL_law 57 = .ok (.iconst 2, 1) := by decide +kernel
theorem dL_law_58 : decode cL_law 58 = .ok (.bipush 40, 2) := by decide +kernel
theorem dL_law_60 : decode cL_law 60 = .ok (.invokestatic 40, 3) := by decide +kernel
theorem dL_law_63 : decode cL_law 63 = .ok (.iadd, 1) := by decide +kernel
theorem dL_law_64 : decode cL_law 64 = .ok (.invokevirtual 44, 3) := by decide +kernel
theorem dL_law_67 : decode cL_law 67 = .ok (.pop, 1) := by decide +kernel
theorem dL_law_68 : decode cL_law 68 = .ok (.aload_n 1, 1) := by decide +kernel
theorem dL_law_69 : decode cL_law 69 = .ok (.iconst 2, 1) := by decide +kernel
theorem dL_law_70 : decode cL_law 70 = .ok (.iconst 1, 1) := by decide +kernel
theorem dL_law_71 : decode cL_law 71 = .ok (.aload_n 0, 1) := by decide +kernel
theorem dL_law_72 : decode cL_law 72 = .ok (.iconst 3, 1) := by decide +kernel
theorem dL_law_73 : decode cL_law 73 = .ok (.bipush 8, 2) := by decide +kernel
theorem dL_law_75 : decode cL_law 75 = .ok (.invokestatic 40, 3) := by decide +kernel
theorem dL_law_78 : decode cL_law 78 = .ok (.iadd, 1) := by decide +kernel
theorem dL_law_79 : decode cL_law 79 = .ok (.invokevirtual 44, 3) := by decide +kernel
theorem dL_law_82 : decode cL_law 82 = .ok (.pop, 1) := by decide +kernel
theorem dL_law_83 : decode cL_law 83 = .ok (.aload_n 1, 1) := by decide +kernel
theorem dL_law_84 : decode cL_law 84 = .ok (.iconst 3, 1) := by decide +kernel
theorem dL_law_85 : decode cL_law 85 = .ok (.aload_n 0, 1) := by decide +kernel
theorem dL_law_86 : decode cL_law 86 = .ok (.iconst 4, 1) := by decide +kernel
theorem dL_law_87 : decode cL_law 87 = .ok (.bipush 30, 2) := by decide +kernel
theorem dL_law_89 : decode cL_law 89 = .ok (.invokestatic 40, 3) := by decide +kernel
theorem dL_law_92 : decode cL_law 92 = .ok (.invokevirtual 44, 3) := by decide +kernel
theorem dL_law_95 : decode cL_law 95 = .ok (.pop, 1) := by decide +kernel
theorem dL_law_96 : decode cL_law 96 = .ok (.aload_n 1, 1) := by decide +kernel
theorem dL_law_97 : decode cL_law 97 = .ok (.iconst 4, 1) := by decide +kernel
theorem dL_law_98 : decode cL_law 98 = .ok (.aload_n 0, 1) := by decide +kernel
theorem dL_law_99 : decode cL_law 99 = .ok (.iconst 5, 1) := by decide +kernel
theorem dL_law_100 : decode cL_law 100 = .ok (.iconst 4, 1) := by decide +kernel
theorem dL_law_101 : decode cL_law 101 = .ok (.invokestatic 40, 3) := by decide +kernel
theorem dL_law_104 : decode cL_law 104 = .ok (.invokevirtual 44, 3) := by decide +kernel
theorem dL_law_107 : decode cL_law 107 = .ok (.pop, 1) := by decide +kernel
theorem dL_law_108 : decode cL_law 108 = .ok (.aload_n 1, 1) := by decide +kernel
theorem dL_law_109 : decode cL_law 109 = .ok (.iconst 5, 1) := by decide +kernel
theorem dL_law_110 : decode cL_law 110 = .ok (.iconst 1, 1) := by decide +kernel
theorem dL_law_111 : decode cL_law 111 = .ok (.aload_n 0, 1) := by decide +kernel
theorem dL_law_112 : decode cL_law 112 = .ok (.bipush 6, 2) := by decide +kernel
theorem dL_law_114 : decode cL_law 114 = .ok (.bipush 6, 2) := by decide +kernel
theorem dL_law_116 : decode cL_law 116 = .ok (.invokestatic 40, 3) := by decide +kernel
theorem dL_law_119 : decode cL_law 119 = .ok (.iadd, 1) := by decide +kernel
theorem dL_law_120 : decode cL_law 120 = .ok (.invokevirtual 44, 3) := by decide +kernel
theorem dL_law_123 : decode cL_law 123 = .ok (.pop, 1) := by decide +kernel
theorem dL_law_124 : decode cL_law 124 = .ok (.aload_n 1, 1) := by decide +kernel
theorem dL_law_125 : decode cL_law 125 = .ok (.bipush 6, 2) := by decide +kernel
theorem dL_law_127 : decode cL_law 127 = .ok (.iconst 5, 1) := by decide +kernel
theorem dL_law_128 : decode cL_law 128 = .ok (.aload_n 0, 1) := by decide +kernel
theorem dL_law_129 : decode cL_law 129 = .ok (.bipush 7, 2) := by decide +kernel
theorem dL_law_131 : decode cL_law 131 = .ok (.bipush 60, 2) := by decide +kernel
theorem dL_law_133 : decode cL_law 133 = .ok (.invokestatic 40, 3) := by decide +kernel
theorem dL_law_136 : decode cL_law 136 = .ok (.iadd, 1) := by decide +kernel
theorem dL_law_137 : decode cL_law 137 = .ok (.invokevirtual 44, 3) := by decide +kernel
theorem dL_law_140 : decode cL_law 140 = .ok (.pop, 1) := by decide +kernel
theorem dL_law_141 : decode cL_law 141 = .ok (.aload_n 1, 1) := by decide +kernel
theorem dL_law_142 : decode cL_law 142 = .ok (.bipush 7, 2) := by decide +kernel
theorem dL_law_144 : decode cL_law 144 = .ok (.iconst 1, 1) := by decide +kernel
theorem dL_law_145 : decode cL_law 145 = .ok (.aload_n 0, 1) := by decide +kernel
theorem dL_law_146 : decode cL_law 146 = .ok (.bipush 8, 2) := by decide +kernel
theorem dL_law_148 : decode cL_law 148 = .ok (.iconst 3, 1) := by decide +kernel
theorem dL_law_149 : decode cL_law 149 = .ok (.invokestatic 40, 3) := by decide +kernel
theorem dL_law_152 : decode cL_law 152 = .ok (.iadd, 1) := by decide +kernel
theorem dL_law_153 : decode cL_law 153 = .ok (.invokevirtual 44, 3) := by decide +kernel
theorem dL_law_156 : decode cL_law 156 = .ok (.pop, 1) := by decide +kernel
theorem dL_law_157 : decode cL_law 157 = .ok (.iconst 0, 1) := by decide +kernel
theorem dL_law_158 : decode cL_law 158 = .ok (.istore 6, 2) := by decide +kernel
theorem dL_law_160 : decode cL_law 160 = .ok (.iload 6, 2) := by decide +kernel
theorem dL_law_162 : decode cL_law 162 = .ok (.iload_n 2, 1) := by decide +kernel
theorem dL_law_163 : decode cL_law 163 = .ok (.if_icmp .ge 287, 3) := by decide +kernel
theorem dL_law_166 : decode cL_law 166 = .ok (.bipush 8, 2) := by decide +kernel
theorem dL_law_168 : decode cL_law 168 = .ok (.iload 6, 2) := by decide +kernel
theorem dL_law_170 : decode cL_law 170 = .ok (.imul, 1) := by decide +kernel
theorem dL_law_171 : decode cL_law 171 = .ok (.bipush 9, 2) := by decide +kernel
theorem dL_law_173 : decode cL_law 173 = .ok (.iadd, 1) := by decide +kernel
theorem dL_law_174 : decode cL_law 174 = .ok (.istore 7, 2) := by decide +kernel
theorem dL_law_176 : decode cL_law 176 = .ok (.aload_n 1, 1) := by decide +kernel
theorem dL_law_177 : decode cL_law 177 = .ok (.iconst 1, 1) := by decide +kernel
theorem dL_law_178 : decode cL_law 178 = .ok (.aload_n 0, 1) := by decide +kernel
theorem dL_law_179 : decode cL_law 179 = .ok (.iload 7, 2) := by decide +kernel
theorem dL_law_181 : decode cL_law 181 = .ok (.bipush 12, 2) := by decide +kernel
theorem dL_law_183 : decode cL_law 183 = .ok (.invokestatic 40, 3) := by decide +kernel
theorem dL_law_186 : decode cL_law 186 = .ok (.iadd, 1) := by decide +kernel
theorem dL_law_187 : decode cL_law 187 = .ok (.iconst 1, 1) := by decide +kernel
theorem dL_law_188 : decode cL_law 188 = .ok (.aload_n 0, 1) := by decide +kernel
theorem dL_law_189 : decode cL_law 189 = .ok (.iload 7, 2) := by decide +kernel
theorem dL_law_191 : decode cL_law 191 = .ok (.iconst 1, 1) := by decide +kernel
theorem dL_law_192 : decode cL_law 192 = .ok (.iadd, 1) := by decide +kernel
theorem dL_law_193 : decode cL_law 193 = .ok (.bipush 10, 2) := by decide +kernel
theorem dL_law_195 : decode cL_law 195 = .ok (.invokestatic 40, 3) := by decide +kernel
theorem dL_law_198 : decode cL_law 198 = .ok (.iadd, 1) := by decide +kernel
theorem dL_law_199 : decode cL_law 199 = .ok (.invokevirtual 47, 3) := by decide +kernel
theorem dL_law_202 : decode cL_law 202 = .ok (.pop, 1) := by decide +kernel
theorem dL_law_203 : decode cL_law 203 = .ok (.aload_n 1, 1) := by decide +kernel
theorem dL_law_204 : decode cL_law 204 = .ok (.iload 6, 2) := by decide +kernel
theorem dL_law_206 : decode cL_law 206 = .ok (.iconst 2, 1) := by decide +kernel
theorem dL_law_207 : decode cL_law 207 = .ok (.aload_n 0, 1) := by decide +kernel
theorem dL_law_208 : decode cL_law 208 = .ok (.iload 7, 2) := by decide +kernel
theorem dL_law_210 : decode cL_law 210 = .ok (.iconst 2, 1) := by decide +kernel
theorem dL_law_211 : decode cL_law 211 = .ok (.iadd, 1) := by decide +kernel
theorem dL_law_212 : decode cL_law 212 = .ok (.bipush 14, 2) := by decide +kernel
theorem dL_law_214 : decode cL_law 214 = .ok (.invokestatic 40, 3) := by decide +kernel
theorem dL_law_217 : decode cL_law 217 = .ok (.invokevirtual 50, 3) := by decide +kernel
theorem dL_law_220 : decode cL_law 220 = .ok (.pop, 1) := by decide +kernel
theorem dL_law_221 : decode cL_law 221 = .ok (.aload_n 1, 1) := by decide +kernel
theorem dL_law_222 : decode cL_law 222 = .ok (.iload 6, 2) := by decide +kernel
theorem dL_law_224 : decode cL_law 224 = .ok (.iconst 3, 1) := by decide +kernel
theorem dL_law_225 : decode cL_law 225 = .ok (.iconst 1, 1) := by decide +kernel
theorem dL_law_226 : decode cL_law 226 = .ok (.aload_n 0, 1) := by decide +kernel
theorem dL_law_227 : decode cL_law 227 = .ok (.iload 7, 2) := by decide +kernel
theorem dL_law_229 : decode cL_law 229 = .ok (.iconst 3, 1) := by decide +kernel
theorem dL_law_230 : decode cL_law 230 = .ok (.iadd, 1) := by decide +kernel
theorem dL_law_231 : decode cL_law 231 = .ok (.iconst 4, 1) := by decide +kernel
theorem dL_law_232 : decode cL_law 232 = .ok (.invokestatic 40, 3) := by decide +kernel
theorem dL_law_235 : decode cL_law 235 = .ok (.iadd, 1) := by decide +kernel
theorem dL_law_236 : decode cL_law 236 = .ok (.invokevirtual 50, 3) := by decide +kernel
theorem dL_law_239 : decode cL_law 239 = .ok (.pop, 1) := by decide +kernel
theorem dL_law_240 : decode cL_law 240 = .ok (.aload_n 1, 1) := by decide +kernel
theorem dL_law_241 : decode cL_law 241 = .ok (.iload 6, 2) := by decide +kernel
theorem dL_law_243 : decode cL_law 243 = .ok (.iconst 4, 1) := by decide +kernel
theorem dL_law_244 : decode cL_law 244 = .ok (.aload_n 0, 1) := by decide +kernel
theorem dL_law_245 : decode cL_law 245 = .ok (.iload 7, 2) := by decide +kernel
theorem dL_law_247 : decode cL_law 247 = .ok (.iconst 4, 1) := by decide +kernel
theorem dL_law_248 : decode cL_law 248 = .ok (.iadd, 1) := by decide +kernel
theorem dL_law_249 : decode cL_law 249 = .ok (.iconst 3, 1) := by decide +kernel
theorem dL_law_250 : decode cL_law 250 = .ok (.invokestatic 40, 3) := by decide +kernel
theorem dL_law_253 : decode cL_law 253 = .ok (.invokevirtual 50, 3) := by decide +kernel
theorem dL_law_256 : decode cL_law 256 = .ok (.pop, 1) := by decide +kernel
theorem dL_law_257 : decode cL_law 257 = .ok (.aload_n 1, 1) := by decide +kernel
theorem dL_law_258 : decode cL_law 258 = .ok (.iload 6, 2) := by decide +kernel
theorem dL_law_260 : decode cL_law 260 = .ok (.iconst 5, 1) := by decide +kernel
theorem dL_law_261 : decode cL_law 261 = .ok (.iconst 1, 1) := by decide +kernel
theorem dL_law_262 : decode cL_law 262 = .ok (.aload_n 0, 1) := by decide +kernel
theorem dL_law_263 : decode cL_law 263 = .ok (.iload 7, 2) := by decide +kernel
theorem dL_law_265 : decode cL_law 265 = .ok (.iconst 5, 1) := by decide +kernel
theorem dL_law_266 : decode cL_law 266 = .ok (.iadd, 1) := by decide +kernel
theorem dL_law_267 : decode cL_law 267 = .ok (.bipush 6, 2) := by decide +kernel
theorem dL_law_269 : decode cL_law 269 = .ok (.invokestatic 40, 3) := by decide +kernel
theorem dL_law_272 : decode cL_law 272 = .ok (.iadd, 1) := by decide +kernel
theorem dL_law_273 : decode cL_law 273 = .ok (.invokevirtual 50, 3) := by decide +kernel
theorem dL_law_276 : decode cL_law 276 = .ok (.pop, 1) := by decide +kernel
theorem dL_law_277 : decode cL_law 277 = .ok (.aload_n 1, 1) := by decide +kernel
theorem dL_law_278 : decode cL_law 278 = .ok (.iload 6, 2) := by decide +kernel
theorem dL_law_280 : decode cL_law 280 = .ok (.bipush 6, 2) := by decide +kernel
theorem dL_law_282 : decode cL_law 282 = .ok (.aload_n 0, 1) := by decide +kernel
theorem dL_law_283 : decode cL_law 283 = .ok (.iload 7, 2) := by decide +kernel
theorem dL_law_285 : decode cL_law 285 = .ok (.bipush 6, 2) := by decide +kernel
theorem dL_law_287 : decode cL_law 287 = .ok (.iadd, 1) := by decide +kernel
theorem dL_law_288 : decode cL_law 288 = .ok (.iconst 3, 1) := by decide +kernel
theorem dL_law_289 : decode cL_law 289 = .ok (.invokestatic 40, 3) := by decide +kernel
theorem dL_law_292 : decode cL_law 292 = .ok (.invokevirtual 50, 3) := by decide +kernel
theorem dL_law_295 : decode cL_law 295 = .ok (.pop, 1) := by decide +kernel
theorem dL_law_296 : decode cL_law 296 = .ok (.aload_n 1, 1) := by decide +kernel
theorem dL_law_297 : decode cL_law 297 = .ok (.iload 6, 2) := by decide +kernel
theorem dL_law_299 : decode cL_law 299 = .ok (.bipush 7, 2) := by decide +kernel
theorem dL_law_301 : decode cL_law 301 = .ok (.aload_n 0, 1) := by decide +kernel
theorem dL_law_302 : decode cL_law 302 = .ok (.iload 7, 2) := by decide +kernel
theorem dL_law_304 : decode cL_law 304 = .ok (.bipush 7, 2) := by decide +kernel
theorem dL_law_306 : decode cL_law 306 = .ok (.iadd, 1) := by decide +kernel
theorem dL_law_307 : decode cL_law 307 = .ok (.bipush 12, 2) := by decide +kernel
theorem dL_law_309 : decode cL_law 309 = .ok (.invokestatic 40, 3) := by decide +kernel
theorem dL_law_312 : decode cL_law 312 = .ok (.invokevirtual 50, 3) := by decide +kernel
theorem dL_law_315 : decode cL_law 315 = .ok (.pop, 1) := by decide +kernel
theorem dL_law_316 : decode cL_law 316 = .ok (.iconst 0, 1) := by decide +kernel
theorem dL_law_317 : decode cL_law 317 = .ok (.istore 8, 2) := by decide +kernel
theorem dL_law_319 : decode cL_law 319 = .ok (.iload 8, 2) := by decide +kernel
theorem dL_law_321 : decode cL_law 321 = .ok (.iconst 2, 1) := by decide +kernel
theorem dL_law_322 : decode cL_law 322 = .ok (.if_icmp .ge 122, 3) := by decide +kernel
theorem dL_law_325 : decode cL_law 325 = .ok (.bipush 9, 2) := by decide +kernel
theorem dL_law_327 : decode cL_law 327 = .ok (.iload 8, 2) := by decide +kernel
theorem dL_law_329 : decode cL_law 329 = .ok (.imul, 1) := by decide +kernel
theorem dL_law_330 : decode cL_law 330 = .ok (.iconst 3, 1) := by decide +kernel
theorem dL_law_331 : decode cL_law 331 = .ok (.iload 6, 2) := by decide +kernel
theorem dL_law_333 : decode cL_law 333 = .ok (.imul, 1) := by decide +kernel
theorem dL_law_334 : decode cL_law 334 = .ok (.iadd, 1) := by decide +kernel
theorem dL_law_335 : decode cL_law 335 = .ok (.istore 9, 2) := by decide +kernel
theorem dL_law_337 : decode cL_law 337 = .ok (.aload 5, 2) := by decide +kernel
theorem dL_law_339 : decode cL_law 339 = .ok (.iload 9, 2) := by decide +kernel
theorem dL_law_341 : decode cL_law 341 = .ok (.aload_n 0, 1) := by decide +kernel
theorem dL_law_342 : decode cL_law 342 = .ok (.iload 9, 2) := by decide +kernel
theorem dL_law_344 : decode cL_law 344 = .ok (.bipush 34, 2) := by decide +kernel
theorem dL_law_346 : decode cL_law 346 = .ok (.iadd, 1) := by decide +kernel
theorem dL_law_347 : decode cL_law 347 = .ok (.iconst 3, 1) := by decide +kernel
theorem dL_law_348 : decode cL_law 348 = .ok (.invokestatic 40, 3) := by decide +kernel
theorem dL_law_351 : decode cL_law 351 = .ok (.ifCond .ne 17, 3) := by decide +kernel
theorem dL_law_354 : decode cL_law 354 = .ok (.aload_n 0, 1) := by decide +kernel
theorem dL_law_355 : decode cL_law 355 = .ok (.iload 9, 2) := by decide +kernel
theorem dL_law_357 : decode cL_law 357 = .ok (.bipush 35, 2) := by decide +kernel
theorem dL_law_359 : decode cL_law 359 = .ok (.iadd, 1) := by decide +kernel
theorem dL_law_360 : decode cL_law 360 = .ok (.bipush 6, 2) := by decide +kernel
theorem dL_law_362 : decode cL_law 362 = .ok (.invokestatic 40, 3) := by decide +kernel
theorem dL_law_365 : decode cL_law 365 = .ok (.goto 4, 3) := by decide +kernel
theorem dL_law_368 : decode cL_law 368 = .ok (.iconst 0, 1) := by decide +kernel
theorem dL_law_369 : decode cL_law 369 = .ok (.iastore, 1) := by decide +kernel
theorem dL_law_370 : decode cL_law 370 = .ok (.aload 5, 2) := by decide +kernel
theorem dL_law_372 : decode cL_law 372 = .ok (.iload 9, 2) := by decide +kernel
theorem dL_law_374 : decode cL_law 374 = .ok (.iconst 1, 1) := by decide +kernel
theorem dL_law_375 : decode cL_law 375 = .ok (.iadd, 1) := by decide +kernel
theorem dL_law_376 : decode cL_law 376 = .ok (.aload_n 0, 1) := by decide +kernel
theorem dL_law_377 : decode cL_law 377 = .ok (.iload 9, 2) := by decide +kernel
theorem dL_law_379 : decode cL_law 379 = .ok (.bipush 36, 2) := by decide +kernel
theorem dL_law_381 : decode cL_law 381 = .ok (.iadd, 1) := by decide +kernel
theorem dL_law_382 : decode cL_law 382 = .ok (.bipush 60, 2) := by decide +kernel
theorem dL_law_384 : decode cL_law 384 = .ok (.invokestatic 40, 3) := by decide +kernel
theorem dL_law_387 : decode cL_law 387 = .ok (.iastore, 1) := by decide +kernel
theorem dL_law_388 : decode cL_law 388 = .ok (.aload 5, 2) := by decide +kernel
theorem dL_law_390 : decode cL_law 390 = .ok (.iload 9, 2) := by decide +kernel
theorem dL_law_392 : decode cL_law 392 = .ok (.iconst 2, 1) := by decide +kernel
theorem dL_law_393 : decode cL_law 393 = .ok (.iadd, 1) := by decide +kernel
theorem dL_law_394 : decode cL_law 394 = .ok (.aload_n 0, 1) := by decide +kernel
theorem dL_law_395 : decode cL_law 395 = .ok (.iload 9, 2) := by decide +kernel
theorem dL_law_397 : decode cL_law 397 = .ok (.bipush 37, 2) := by decide +kernel
theorem dL_law_399 : decode cL_law 399 = .ok (.iadd, 1) := by decide +kernel
theorem dL_law_400 : decode cL_law 400 = .ok (.bipush 15, 2) := by decide +kernel
theorem dL_law_402 : decode cL_law 402 = .ok (.invokestatic 40, 3) := by decide +kernel
theorem dL_law_405 : decode cL_law 405 = .ok (.iastore, 1) := by decide +kernel
theorem dL_law_406 : decode cL_law 406 = .ok (.aload_n 1, 1) := by decide +kernel
theorem dL_law_407 : decode cL_law 407 = .ok (.iload 8, 2) := by decide +kernel
theorem dL_law_409 : decode cL_law 409 = .ok (.iload 6, 2) := by decide +kernel
theorem dL_law_411 : decode cL_law 411 = .ok (.aload 5, 2) := by decide +kernel
theorem dL_law_413 : decode cL_law 413 = .ok (.iload 9, 2) := by decide +kernel
theorem dL_law_415 : decode cL_law 415 = .ok (.iaload, 1) := by decide +kernel
theorem dL_law_416 : decode cL_law 416 = .ok (.aload 5, 2) := by decide +kernel
theorem dL_law_418 : decode cL_law 418 = .ok (.iload 9, 2) := by decide +kernel
theorem dL_law_420 : decode cL_law 420 = .ok (.iconst 1, 1) := by decide +kernel
theorem dL_law_421 : decode cL_law 421 = .ok (.iadd, 1) := by decide +kernel
theorem dL_law_422 : decode cL_law 422 = .ok (.iaload, 1) := by decide +kernel
theorem dL_law_423 : decode cL_law 423 = .ok (.aload 5, 2) := by decide +kernel
theorem dL_law_425 : decode cL_law 425 = .ok (.iload 9, 2) := by decide +kernel
theorem dL_law_427 : decode cL_law 427 = .ok (.iconst 2, 1) := by decide +kernel
theorem dL_law_428 : decode cL_law 428 = .ok (.iadd, 1) := by decide +kernel
theorem dL_law_429 : decode cL_law 429 = .ok (.iaload, 1) := by decide +kernel
theorem dL_law_430 : decode cL_law 430 = .ok (.invokevirtual 54, 3) := by decide +kernel
theorem dL_law_433 : decode cL_law 433 = .ok (.ifCond .eq 5, 3) := by decide +kernel
theorem dL_law_436 : decode cL_law 436 = .ok (.iconst 0, 1) := by decide +kernel
theorem dL_law_437 : decode cL_law 437 = .ok (.ireturn, 1) := by decide +kernel
theorem dL_law_438 : decode cL_law 438 = .ok (.iinc 8 1, 3) := by decide +kernel
theorem dL_law_441 : decode cL_law 441 = .ok (.goto (-122), 3) := by decide +kernel
theorem dL_law_444 : decode cL_law 444 = .ok (.iinc 6 1, 3) := by decide +kernel
theorem dL_law_447 : decode cL_law 447 = .ok (.goto (-287), 3) := by decide +kernel
theorem dL_law_450 : decode cL_law 450 = .ok (.aload_n 0, 1) := by decide +kernel
theorem dL_law_451 : decode cL_law 451 = .ok (.bipush 60, 2) := by decide +kernel
theorem dL_law_453 : decode cL_law 453 = .ok (.iconst 2, 1) := by decide +kernel
theorem dL_law_454 : decode cL_law 454 = .ok (.invokestatic 40, 3) := by decide +kernel
theorem dL_law_457 : decode cL_law 457 = .ok (.ifCond .ne 17, 3) := by decide +kernel
theorem dL_law_460 : decode cL_law 460 = .ok (.aload_n 3, 1) := by decide +kernel
theorem dL_law_461 : decode cL_law 461 = .ok (.iconst 3, 1) := by decide +kernel
theorem dL_law_462 : decode cL_law 462 = .ok (.aload_n 1, 1) := by decide +kernel
theorem dL_law_463 : decode cL_law 463 = .ok (.bipush 18, 2) := by decide +kernel
theorem dL_law_465 : decode cL_law 465 = .ok (.invokevirtual 10, 3) := by decide +kernel
theorem dL_law_468 : decode cL_law 468 = .ok (.iastore, 1) := by decide +kernel
theorem dL_law_469 : decode cL_law 469 = .ok (.aload_n 1, 1) := by decide +kernel
theorem dL_law_470 : decode cL_law 470 = .ok (.invokevirtual 58, 3) := by decide +kernel
theorem dL_law_473 : decode cL_law 473 = .ok (.pop, 1) := by decide +kernel
theorem dL_law_474 : decode cL_law 474 = .ok (.aload_n 1, 1) := by decide +kernel
theorem dL_law_475 : decode cL_law 475 = .ok (.sipush 150, 3) := by decide +kernel
theorem dL_law_478 : decode cL_law 478 = .ok (.invokevirtual 62, 3) := by decide +kernel
theorem dL_law_481 : decode cL_law 481 = .ok (.istore 6, 2) := by decide +kernel
theorem dL_law_483 : decode cL_law 483 = .ok (.bipush (-6), 2) := by decide +kernel
theorem dL_law_485 : decode cL_law 485 = .ok (.istore 7, 2) := by decide +kernel
theorem dL_law_487 : decode cL_law 487 = .ok (.iconst 0, 1) := by decide +kernel
theorem dL_law_488 : decode cL_law 488 = .ok (.istore 8, 2) := by decide +kernel
theorem dL_law_490 : decode cL_law 490 = .ok (.iload 8, 2) := by decide +kernel
theorem dL_law_492 : decode cL_law 492 = .ok (.sipush 150, 3) := by decide +kernel
theorem dL_law_495 : decode cL_law 495 = .ok (.if_icmp .ge 70, 3) := by decide +kernel
theorem dL_law_498 : decode cL_law 498 = .ok (.aload_n 1, 1) := by decide +kernel
theorem dL_law_499 : decode cL_law 499 = .ok (.aload_n 3, 1) := by decide +kernel
theorem dL_law_500 : decode cL_law 500 = .ok (.aload 4, 2) := by decide +kernel
theorem dL_law_502 : decode cL_law 502 = .ok (.aload 5, 2) := by decide +kernel
theorem dL_law_504 : decode cL_law 504 = .ok (.iload_n 2, 1) := by decide +kernel
theorem dL_law_505 : decode cL_law 505 = .ok (.iload 8, 2) := by decide +kernel
theorem dL_law_507 : decode cL_law 507 = .ok (.invokestatic 65, 3) := by decide +kernel
theorem dL_law_510 : decode cL_law 510 = .ok (.iload 7, 2) := by decide +kernel
theorem dL_law_512 : decode cL_law 512 = .ok (.ifCond .ge 18, 3) := by decide +kernel
theorem dL_law_515 : decode cL_law 515 = .ok (.aload_n 3, 1) := by decide +kernel
theorem dL_law_516 : decode cL_law 516 = .ok (.bipush 8, 2) := by decide +kernel
theorem dL_law_518 : decode cL_law 518 = .ok (.iaload, 1) := by decide +kernel
theorem dL_law_519 : decode cL_law 519 = .ok (.iconst 1, 1) := by decide +kernel
theorem dL_law_520 : decode cL_law 520 = .ok (.if_icmp .ne 10, 3) := by decide +kernel
theorem dL_law_523 : decode cL_law 523 = .ok (.iload 8, 2) := by decide +kernel
theorem dL_law_525 : decode cL_law 525 = .ok (.iconst 1, 1) := by decide +kernel
theorem dL_law_526 : decode cL_law 526 = .ok (.iadd, 1) := by decide +kernel
theorem dL_law_527 : decode cL_law 527 = .ok (.goto 5, 3) := by decide +kernel
theorem dL_law_530 : decode cL_law 530 = .ok (.iload 7, 2) := by decide +kernel
theorem dL_law_532 : decode cL_law 532 = .ok (.istore 7, 2) := by decide +kernel
theorem dL_law_534 : decode cL_law 534 = .ok (.aload_n 1, 1) := by decide +kernel
theorem dL_law_535 : decode cL_law 535 = .ok (.iconst 1, 1) := by decide +kernel
theorem dL_law_536 : decode cL_law 536 = .ok (.invokevirtual 69, 3) := by decide +kernel
theorem dL_law_539 : decode cL_law 539 = .ok (.iload 8, 2) := by decide +kernel
theorem dL_law_541 : decode cL_law 541 = .ok (.iconst 1, 1) := by decide +kernel
theorem dL_law_542 : decode cL_law 542 = .ok (.iadd, 1) := by decide +kernel
theorem dL_law_543 : decode cL_law 543 = .ok (.if_icmp .ne 14, 3) := by decide +kernel
theorem dL_law_546 : decode cL_law 546 = .ok (.aload_n 1, 1) := by decide +kernel
theorem dL_law_547 : decode cL_law 547 = .ok (.aload_n 3, 1) := by decide +kernel
theorem dL_law_548 : decode cL_law 548 = .ok (.aload 4, 2) := by decide +kernel
theorem dL_law_550 : decode cL_law 550 = .ok (.iload_n 2, 1) := by decide +kernel
theorem dL_law_551 : decode cL_law 551 = .ok (.invokestatic 72, 3) := by decide +kernel
theorem dL_law_554 : decode cL_law 554 = .ok (.ifCond .ne 5, 3) := by decide +kernel
theorem dL_law_557 : decode cL_law 557 = .ok (.iconst 0, 1) := by decide +kernel
theorem dL_law_558 : decode cL_law 558 = .ok (.ireturn, 1) := by decide +kernel
theorem dL_law_559 : decode cL_law 559 = .ok (.iinc 8 1, 3) := by decide +kernel
theorem dL_law_562 : decode cL_law 562 = .ok (.goto (-72), 3) := by decide +kernel
theorem dL_law_565 : decode cL_law 565 = .ok (.iload 6, 2) := by decide +kernel
theorem dL_law_567 : decode cL_law 567 = .ok (.iload 7, 2) := by decide +kernel
theorem dL_law_569 : decode cL_law 569 = .ok (.if_icmp .ne 7, 3) := by decide +kernel
theorem dL_law_572 : decode cL_law 572 = .ok (.iconst 1, 1) := by decide +kernel
theorem dL_law_573 : decode cL_law 573 = .ok (.goto 4, 3) := by decide +kernel
theorem dL_law_576 : decode cL_law 576 = .ok (.iconst 0, 1) := by decide +kernel
theorem dL_law_577 : decode cL_law 577 = .ok (.ireturn, 1) := by decide +kernel
