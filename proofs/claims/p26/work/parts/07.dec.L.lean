theorem dL_cell_0 : decode cL_cell 0 = .ok (.iload_n 1, 1) := by decide +kernel
theorem dL_cell_1 : decode cL_cell 1 = .ok (.aload_n 0, 1) := by decide +kernel
theorem dL_cell_2 : decode cL_cell 2 = .ok (.arraylength, 1) := by decide +kernel
theorem dL_cell_3 : decode cL_cell 3 = .ok (.if_icmp .ge 9, 3) := by decide +kernel
theorem dL_cell_6 : decode cL_cell 6 = .ok (.aload_n 0, 1) := by decide +kernel
theorem dL_cell_7 : decode cL_cell 7 = .ok (.iload_n 1, 1) := by decide +kernel
theorem dL_cell_8 : decode cL_cell 8 = .ok (.iaload, 1) := by decide +kernel
theorem dL_cell_9 : decode cL_cell 9 = .ok (.goto 15, 3) := by decide +kernel
theorem dL_cell_12 : decode cL_cell 12 = .ok (.sipush 7919, 3) := by decide +kernel
theorem dL_cell_15 : decode cL_cell 15 = .ok (.iload_n 1, 1) := by decide +kernel
theorem dL_cell_16 : decode cL_cell 16 = .ok (.iconst 3, 1) := by decide +kernel
theorem dL_cell_17 : decode cL_cell 17 = .ok (.iadd, 1) := by decide +kernel
theorem dL_cell_18 : decode cL_cell 18 = .ok (.imul, 1) := by decide +kernel
theorem dL_cell_19 : decode cL_cell 19 = .ok (.iload_n 1, 1) := by decide +kernel
theorem dL_cell_20 : decode cL_cell 20 = .ok (.bipush 11, 2) := by decide +kernel
theorem dL_cell_22 : decode cL_cell 22 = .ok (.iadd, 1) := by decide +kernel
theorem dL_cell_23 : decode cL_cell 23 = .ok (.imul, 1) := by decide +kernel
theorem dL_cell_24 : decode cL_cell 24 = .ok (.ireturn, 1) := by decide +kernel
theorem dL_low_0 : decode cL_low 0 = .ok (.iload_n 0, 1) := by decide +kernel
theorem dL_low_1 : decode cL_low 1 = .ok (.ldc 7, 2) := by decide +kernel
theorem dL_low_3 : decode cL_low 3 = .ok (.iand, 1) := by decide +kernel
theorem dL_low_4 : decode cL_low 4 = .ok (.iload_n 1, 1) := by decide +kernel
theorem dL_low_5 : decode cL_low 5 = .ok (.irem, 1) := by decide +kernel
theorem dL_low_6 : decode cL_low 6 = .ok (.ireturn, 1) := by decide +kernel
theorem dL_told_0 : decode cL_told 0 = .ok (.ldc2_w 8, 3) := by decide +kernel
theorem dL_told_3 : decode cL_told 3 = .ok (.lstore_n 1, 1) := by decide +kernel
theorem dL_told_4 : decode cL_told 4 = .ok (.iconst 0, 1) := by decide +kernel
theorem dL_told_5 : decode cL_told 5 = .ok (.istore_n 3, 1) := by decide +kernel
theorem dL_told_6 : decode cL_told 6 = .ok (.iload_n 3, 1) := by decide +kernel
theorem dL_told_7 : decode cL_told 7 = .ok (.bipush 12, 2) := by decide +kernel
theorem dL_told_9 : decode cL_told 9 = .ok (.if_icmp .ge 22, 3) := by decide +kernel
theorem dL_told_12 : decode cL_told 12 = .ok (.ldc2_w 10, 3) := by decide +kernel
theorem dL_told_15 : decode cL_told 15 = .ok (.lload_n 1, 1) := by decide +kernel
theorem dL_told_16 : decode cL_told 16 = .ok (.lmul, 1) := by decide +kernel
theorem dL_told_17 : decode cL_told 17 = .ok (.aload_n 0, 1) := by decide +kernel
theorem dL_told_18 : decode cL_told 18 = .ok (.iload_n 3, 1) := by decide +kernel
theorem dL_told_19 : decode cL_told 19 = .ok (.invokevirtual 12, 3) := by decide +kernel
theorem dL_told_22 : decode cL_told 22 = .ok (.i2l, 1) := by decide +kernel
theorem dL_told_23 : decode cL_told 23 = .ok (.ladd, 1) := by decide +kernel
theorem dL_told_24 : decode cL_told 24 = .ok (.lstore_n 1, 1) := by decide +kernel
theorem dL_told_25 : decode cL_told 25 = .ok (.iinc 3 1, 3) := by decide +kernel
theorem dL_told_28 : decode cL_told 28 = .ok (.goto (-22), 3) := by decide +kernel
theorem dL_told_31 : decode cL_told 31 = .ok (.iconst 0, 1) := by decide +kernel
theorem dL_told_32 : decode cL_told 32 = .ok (.istore_n 3, 1) := by decide +kernel
theorem dL_told_33 : decode cL_told 33 = .ok (.iload_n 3, 1) := by decide +kernel
theorem dL_told_34 : decode cL_told 34 = .ok (.bipush 24, 2) := by decide +kernel
theorem dL_told_36 : decode cL_told 36 = .ok (.if_icmp .ge 39, 3) := by decide +kernel
theorem dL_told_39 : decode cL_told 39 = .ok (.iconst 0, 1) := by decide +kernel
theorem dL_told_40 : decode cL_told 40 = .ok (.istore 4, 2) := by decide +kernel
theorem dL_told_42 : decode cL_told 42 = .ok (.iload 4, 2) := by decide +kernel
theorem dL_told_44 : decode cL_told 44 = .ok (.iconst 4, 1) := by decide +kernel
theorem dL_told_45 : decode cL_told 45 = .ok (.if_icmp .ge 24, 3) := by decide +kernel
theorem dL_told_48 : decode cL_told 48 = .ok (.ldc2_w 10, 3) := by decide +kernel
theorem dL_told_51 : decode cL_told 51 = .ok (.lload_n 1, 1) := by decide +kernel
theorem dL_told_52 : decode cL_told 52 = .ok (.lmul, 1) := by decide +kernel
theorem dL_told_53 : decode cL_told 53 = .ok (.aload_n 0, 1) := by decide +kernel
theorem dL_told_54 : decode cL_told 54 = .ok (.iload_n 3, 1) := by decide +kernel
theorem dL_told_55 : decode cL_told 55 = .ok (.iload 4, 2) := by decide +kernel
theorem dL_told_57 : decode cL_told 57 = .ok (.invokevirtual 18, 3) := by decide +kernel
theorem dL_told_60 : decode cL_told 60 = .ok (.i2l, 1) := by decide +kernel
theorem dL_told_61 : decode cL_told 61 = .ok (.ladd, 1) := by decide +kernel
theorem dL_told_62 : decode cL_told 62 = .ok (.lstore_n 1, 1) := by decide +kernel
theorem dL_told_63 : decode cL_told 63 = .ok (.iinc 4 1, 3) := by decide +kernel
theorem dL_told_66 : decode cL_told 66 = .ok (.goto (-24), 3) := by decide +kernel
theorem dL_told_69 : decode cL_told 69 = .ok (.iinc 3 1, 3) := by decide +kernel
theorem dL_told_72 : decode cL_told 72 = .ok (.goto (-39), 3) := by decide +kernel
theorem dL_told_75 : decode cL_told 75 = .ok (.iconst 0, 1) := by decide +kernel
theorem dL_told_76 : decode cL_told 76 = .ok (.istore_n 3, 1) := by decide +kernel
theorem dL_told_77 : decode cL_told 77 = .ok (.iload_n 3, 1) := by decide +kernel
theorem dL_told_78 : decode cL_told 78 = .ok (.bipush 6, 2) := by decide +kernel
theorem dL_told_80 : decode cL_told 80 = .ok (.if_icmp .ge 39, 3) := by decide +kernel
theorem dL_told_83 : decode cL_told 83 = .ok (.iconst 0, 1) := by decide +kernel
theorem dL_told_84 : decode cL_told 84 = .ok (.istore 4, 2) := by decide +kernel
theorem dL_told_86 : decode cL_told 86 = .ok (.iload 4, 2) := by decide +kernel
theorem dL_told_88 : decode cL_told 88 = .ok (.iconst 5, 1) := by decide +kernel
theorem dL_told_89 : decode cL_told 89 = .ok (.if_icmp .ge 24, 3) := by decide +kernel
theorem dL_told_92 : decode cL_told 92 = .ok (.ldc2_w 10, 3) := by decide +kernel
theorem dL_told_95 : decode cL_told 95 = .ok (.lload_n 1, 1) := by decide +kernel
theorem dL_told_96 : decode cL_told 96 = .ok (.lmul, 1) := by decide +kernel
theorem dL_told_97 : decode cL_told 97 = .ok (.aload_n 0, 1) := by decide +kernel
theorem dL_told_98 : decode cL_told 98 = .ok (.iload_n 3, 1) := by decide +kernel
theorem dL_told_99 : decode cL_told 99 = .ok (.iload 4, 2) := by decide +kernel
theorem dL_told_101 : decode cL_told 101 = .ok (.invokevirtual 22, 3) := by decide +kernel
theorem dL_told_104 : decode cL_told 104 = .ok (.i2l, 1) := by decide +kernel
theorem dL_told_105 : decode cL_told 105 = .ok (.ladd, 1) := by decide +kernel
theorem dL_told_106 : decode cL_told 106 = .ok (.lstore_n 1, 1) := by decide +kernel
theorem dL_told_107 : decode cL_told 107 = .ok (.iinc 4 1, 3) := by decide +kernel
theorem dL_told_110 : decode cL_told 110 = .ok (.goto (-24), 3) := by decide +kernel
theorem dL_told_113 : decode cL_told 113 = .ok (.iinc 3 1, 3) := by decide +kernel
theorem dL_told_116 : decode cL_told 116 = .ok (.goto (-39), 3) := by decide +kernel
theorem dL_told_119 : decode cL_told 119 = .ok (.iconst 0, 1) := by decide +kernel
theorem dL_told_120 : decode cL_told 120 = .ok (.istore_n 3, 1) := by decide +kernel
theorem dL_told_121 : decode cL_told 121 = .ok (.iload_n 3, 1) := by decide +kernel
theorem dL_told_122 : decode cL_told 122 = .ok (.iconst 4, 1) := by decide +kernel
theorem dL_told_123 : decode cL_told 123 = .ok (.if_icmp .ge 39, 3) := by decide +kernel
theorem dL_told_126 : decode cL_told 126 = .ok (.iconst 0, 1) := by decide +kernel
theorem dL_told_127 : decode cL_told 127 = .ok (.istore 4, 2) := by decide +kernel
theorem dL_told_129 : decode cL_told 129 = .ok (.iload 4, 2) := by decide +kernel
theorem dL_told_131 : decode cL_told 131 = .ok (.iconst 3, 1) := by decide +kernel
theorem dL_told_132 : decode cL_told 132 = .ok (.if_icmp .ge 24, 3) := by decide +kernel
theorem dL_told_135 : decode cL_told 135 = .ok (.ldc2_w 10, 3) := by decide +kernel
theorem dL_told_138 : decode cL_told 138 = .ok (.lload_n 1, 1) := by decide +kernel
theorem dL_told_139 : decode cL_told 139 = .ok (.lmul, 1) := by decide +kernel
theorem dL_told_140 : decode cL_told 140 = .ok (.aload_n 0, 1) := by decide +kernel
theorem dL_told_141 : decode cL_told 141 = .ok (.iload_n 3, 1) := by decide +kernel
theorem dL_told_142 : decode cL_told 142 = .ok (.iload 4, 2) := by decide +kernel
theorem dL_told_144 : decode cL_told 144 = .ok (.invokevirtual 25, 3) := by decide +kernel
theorem dL_told_147 : decode cL_told 147 = .ok (.i2l, 1) := by decide +kernel
theorem dL_told_148 : decode cL_told 148 = .ok (.ladd, 1) := by decide +kernel
theorem dL_told_149 : decode cL_told 149 = .ok (.lstore_n 1, 1) := by decide +kernel
theorem dL_told_150 : decode cL_told 150 = .ok (.iinc 4 1, 3) := by decide +kernel
theorem dL_told_153 : decode cL_told 153 = .ok (.goto (-24), 3) := by decide +kernel
theorem dL_told_156 : decode cL_told 156 = .ok (.iinc 3 1, 3) := by decide +kernel
theorem dL_told_159 : decode cL_told 159 = .ok (.goto (-38), 3) := by decide +kernel
theorem dL_told_162 : decode cL_told 162 = .ok (.lload_n 1, 1) := by decide +kernel
theorem dL_told_163 : decode cL_told 163 = .ok (.lreturn, 1) := by decide +kernel
theorem dL_act_0 : decode cL_act 0 = .ok (.iload_n 1, 1) := by decide +kernel
theorem dL_act_1 : decode cL_act 1 = .ok (.iconst 4, 1) := by decide +kernel
theorem dL_act_2 : decode cL_act 2 = .ok (.ishr, 1) := by decide +kernel
theorem dL_act_3 : decode cL_act 3 = .ok (.iconst 4, 1) := by decide +kernel
theorem dL_act_4 : decode cL_act 4 = .ok (.invokestatic 28, 3) := by decide +kernel
theorem dL_act_7 : decode cL_act 7 = .ok (.istore_n 3, 1) := by decide +kernel
theorem dL_act_8 : decode cL_act 8 = .ok (.iload_n 2, 1) := by decide +kernel
theorem dL_act_9 : decode cL_act 9 = .ok (.iload_n 2, 1) := by decide +kernel
theorem dL_act_10 : decode cL_act 10 = .ok (.bipush 20, 2) := by decide +kernel
theorem dL_act_12 : decode cL_act 12 = .ok (.ishr, 1) := by decide +kernel
theorem dL_act_13 : decode cL_act 13 = .ok (.iconst 1, 1) := by decide +kernel
theorem dL_act_14 : decode cL_act 14 = .ok (.iand, 1) := by decide +kernel
theorem dL_act_15 : decode cL_act 15 = .ok (.ifCond .ne 8, 3) := by decide +kernel
theorem dL_act_18 : decode cL_act 18 = .ok (.bipush 8, 2) := by decide +kernel
theorem dL_act_20 : decode cL_act 20 = .ok (.goto 5, 3) := by decide +kernel
theorem dL_act_23 : decode cL_act 23 = .ok (.bipush 24, 2) := by decide +kernel
theorem dL_act_25 : decode cL_act 25 = .ok (.invokestatic 28, 3) := by decide +kernel
theorem dL_act_28 : decode cL_act 28 = .ok (.istore 4, 2) := by decide +kernel
theorem dL_act_30 : decode cL_act 30 = .ok (.iload_n 1, 1) := by decide +kernel
theorem dL_act_31 : decode cL_act 31 = .ok (.bipush 15, 2) := by decide +kernel
theorem dL_act_33 : decode cL_act 33 = .ok (.iand, 1) := by decide +kernel
theorem dL_act_34 : decode cL_act 34 = .ok (.tableswitch 197 0 11 #[62, 62, 68, 88, 88, 99, 104, 104, 137, 137, 159, 159], 62) := by decide +kernel
theorem dL_act_96 : decode cL_act 96 = .ok (.aload_n 0, 1) := by decide +kernel
theorem dL_act_97 : decode cL_act 97 = .ok (.iload_n 3, 1) := by decide +kernel
theorem dL_act_98 : decode cL_act 98 = .ok (.invokevirtual 33, 3) := by decide +kernel
theorem dL_act_101 : decode cL_act 101 = .ok (.ireturn, 1) := by decide +kernel
theorem dL_act_102 : decode cL_act 102 = .ok (.aload_n 0, 1) := by decide +kernel
theorem dL_act_103 : decode cL_act 103 = .ok (.iload_n 3, 1) := by decide +kernel
theorem dL_act_104 : decode cL_act 104 = .ok (.iconst 0, 1) := by decide +kernel
theorem dL_act_105 : decode cL_act 105 = .ok (.invokevirtual 25, 3) := by decide +kernel
theorem dL_act_108 : decode cL_act 108 = .ok (.ifCond .ge 8, 3) := by decide +kernel
theorem dL_act_111 : decode cL_act 111 = .ok (.bipush (-9), 2) := by decide +kernel
theorem dL_act_113 : decode cL_act 113 = .ok (.goto 8, 3) := by decide +kernel
theorem dL_act_116 : decode cL_act 116 = .ok (.aload_n 0, 1) := by decide +kernel
theorem dL_act_117 : decode cL_act 117 = .ok (.iload_n 3, 1) := by decide +kernel
theorem dL_act_118 : decode cL_act 118 = .ok (.invokevirtual 36, 3) := by decide +kernel
theorem dL_act_121 : decode cL_act 121 = .ok (.ireturn, 1) := by decide +kernel
theorem dL_act_122 : decode cL_act 122 = .ok (.aload_n 0, 1) := by decide +kernel
theorem dL_act_123 : decode cL_act 123 = .ok (.iload_n 2, 1) := by decide +kernel
theorem dL_act_124 : decode cL_act 124 = .ok (.bipush 6, 2) := by decide +kernel
theorem dL_act_126 : decode cL_act 126 = .ok (.invokestatic 28, 3) := by decide +kernel
theorem dL_act_129 : decode cL_act 129 = .ok (.invokevirtual 39, 3) := by decide +kernel
theorem dL_act_132 : decode cL_act 132 = .ok (.ireturn, 1) := by decide +kernel
theorem dL_act_133 : decode cL_act 133 = .ok (.aload_n 0, 1) := by decide +kernel
theorem dL_act_134 : decode cL_act 134 = .ok (.invokevirtual 42, 3) := by decide +kernel
theorem dL_act_137 : decode cL_act 137 = .ok (.ireturn, 1) := by decide +kernel
theorem dL_act_138 : decode cL_act 138 = .ok (.aload_n 0, 1) := by decide +kernel
theorem dL_act_139 : decode cL_act 139 = .ok (.iload_n 3, 1) := by decide +kernel
theorem dL_act_140 : decode cL_act 140 = .ok (.iconst 0, 1) := by decide +kernel
theorem dL_act_141 : decode cL_act 141 = .ok (.invokevirtual 25, 3) := by decide +kernel
theorem dL_act_144 : decode cL_act 144 = .ok (.ifCond .ge 8, 3) := by decide +kernel
theorem dL_act_147 : decode cL_act 147 = .ok (.bipush (-9), 2) := by decide +kernel
theorem dL_act_149 : decode cL_act 149 = .ok (.goto 21, 3) := by decide +kernel
theorem dL_act_152 : decode cL_act 152 = .ok (.aload_n 0, 1) := by decide +kernel
theorem dL_act_153 : decode cL_act 153 = .ok (.iload_n 3, 1) := by decide +kernel
theorem dL_act_154 : decode cL_act 154 = .ok (.iload_n 2, 1) := by decide +kernel
theorem dL_act_155 : decode cL_act 155 = .ok (.bipush 10, 2) := by decide +kernel
theorem dL_act_157 : decode cL_act 157 = .ok (.invokestatic 28, 3) := by decide +kernel
theorem dL_act_160 : decode cL_act 160 = .ok (.iload_n 2, 1) := by decide +kernel
theorem dL_act_161 : decode cL_act 161 = .ok (.iconst 4, 1) := by decide +kernel
theorem dL_act_162 : decode cL_act 162 = .ok (.ishr, 1) := by decide +kernel
theorem dL_act_163 : decode cL_act 163 = .ok (.iconst 3, 1) := by decide +kernel
theorem dL_act_164 : decode cL_act 164 = .ok (.invokestatic 28, 3) := by decide +kernel
theorem dL_act_167 : decode cL_act 167 = .ok (.invokevirtual 46, 3) := by decide +kernel
theorem dL_act_170 : decode cL_act 170 = .ok (.ireturn, 1) := by decide +kernel
theorem dL_act_171 : decode cL_act 171 = .ok (.aload_n 0, 1) := by decide +kernel
theorem dL_act_172 : decode cL_act 172 = .ok (.iload 4, 2) := by decide +kernel
theorem dL_act_174 : decode cL_act 174 = .ok (.iconst 3, 1) := by decide +kernel
theorem dL_act_175 : decode cL_act 175 = .ok (.invokevirtual 18, 3) := by decide +kernel
theorem dL_act_178 : decode cL_act 178 = .ok (.ifCond .ne 8, 3) := by decide +kernel
theorem dL_act_181 : decode cL_act 181 = .ok (.bipush (-9), 2) := by decide +kernel
theorem dL_act_183 : decode cL_act 183 = .ok (.goto 9, 3) := by decide +kernel
theorem dL_act_186 : decode cL_act 186 = .ok (.aload_n 0, 1) := by decide +kernel
theorem dL_act_187 : decode cL_act 187 = .ok (.iload 4, 2) := by decide +kernel
theorem dL_act_189 : decode cL_act 189 = .ok (.invokevirtual 50, 3) := by decide +kernel
theorem dL_act_192 : decode cL_act 192 = .ok (.ireturn, 1) := by decide +kernel
theorem dL_act_193 : decode cL_act 193 = .ok (.aload_n 0, 1) := by decide +kernel
theorem dL_act_194 : decode cL_act 194 = .ok (.iload 4, 2) := by decide +kernel
theorem dL_act_196 : decode cL_act 196 = .ok (.iconst 3, 1) := by decide +kernel
theorem dL_act_197 : decode cL_act 197 = .ok (.invokevirtual 18, 3) := by decide +kernel
theorem dL_act_200 : decode cL_act 200 = .ok (.ifCond .eq 11, 3) := by decide +kernel
theorem dL_act_203 : decode cL_act 203 = .ok (.aload_n 0, 1) := by decide +kernel
theorem dL_act_204 : decode cL_act 204 = .ok (.iconst 4, 1) := by decide +kernel
theorem dL_act_205 : decode cL_act 205 = .ok (.invokevirtual 12, 3) := by decide +kernel
theorem dL_act_208 : decode cL_act 208 = .ok (.ifCond .ne 8, 3) := by decide +kernel
theorem dL_act_211 : decode cL_act 211 = .ok (.bipush (-9), 2) := by decide +kernel
theorem dL_act_213 : decode cL_act 213 = .ok (.goto 17, 3) := by decide +kernel
theorem dL_act_216 : decode cL_act 216 = .ok (.aload_n 0, 1) := by decide +kernel
theorem dL_act_217 : decode cL_act 217 = .ok (.iload 4, 2) := by decide +kernel
theorem dL_act_219 : decode cL_act 219 = .ok (.iload_n 2, 1) := by decide +kernel
theorem dL_act_220 : decode cL_act 220 = .ok (.iconst 5, 1) := by decide +kernel
theorem dL_act_221 : decode cL_act 221 = .ok (.ishr, 1) := by decide +kernel
theorem dL_act_222 : decode cL_act 222 = .ok (.bipush 10, 2) := by decide +kernel
theorem dL_act_224 : decode cL_act 224 = .ok (.invokestatic 28, 3) := by decide +kernel
theorem dL_act_227 : decode cL_act 227 = .ok (.invokevirtual 53, 3) := by decide +kernel
theorem dL_act_230 : decode cL_act 230 = .ok (.ireturn, 1) := by decide +kernel
theorem dL_act_231 : decode cL_act 231 = .ok (.aload_n 0, 1) := by decide +kernel
theorem dL_act_232 : decode cL_act 232 = .ok (.iconst 4, 1) := by decide +kernel
theorem dL_act_233 : decode cL_act 233 = .ok (.invokevirtual 12, 3) := by decide +kernel
theorem dL_act_236 : decode cL_act 236 = .ok (.ifCond .ne 8, 3) := by decide +kernel
theorem dL_act_239 : decode cL_act 239 = .ok (.bipush (-9), 2) := by decide +kernel
theorem dL_act_241 : decode cL_act 241 = .ok (.goto 13, 3) := by decide +kernel
theorem dL_act_244 : decode cL_act 244 = .ok (.aload_n 0, 1) := by decide +kernel
theorem dL_act_245 : decode cL_act 245 = .ok (.iload_n 2, 1) := by decide +kernel
theorem dL_act_246 : decode cL_act 246 = .ok (.bipush 10, 2) := by decide +kernel
theorem dL_act_248 : decode cL_act 248 = .ok (.invokestatic 28, 3) := by decide +kernel
theorem dL_act_251 : decode cL_act 251 = .ok (.invokevirtual 56, 3) := by decide +kernel
theorem dL_act_254 : decode cL_act 254 = .ok (.ireturn, 1) := by decide +kernel
theorem dL_holds_0 : decode cL_holds 0 = .ok (.aload_n 0, 1) := by decide +kernel
theorem dL_holds_1 : decode cL_holds 1 = .ok (.iconst 0, 1) := by decide +kernel
theorem dL_holds_2 : decode cL_holds 2 = .ok (.invokevirtual 12, 3) := by decide +kernel
theorem dL_holds_5 : decode cL_holds 5 = .ok (.istore_n 2, 1) := by decide +kernel
theorem dL_holds_6 : decode cL_holds 6 = .ok (.iload_n 2, 1) := by decide +kernel
theorem dL_holds_7 : decode cL_holds 7 = .ok (.istore_n 3, 1) := by decide +kernel
theorem dL_holds_8 : decode cL_holds 8 = .ok (.iconst 0, 1) := by decide +kernel
theorem dL_holds_9 : decode cL_holds 9 = .ok (.istore 4, 2) := by decide +kernel
theorem dL_holds_11 : decode cL_holds 11 = .ok (.iload 4, 2) := by decide +kernel
theorem dL_holds_13 : decode cL_holds 13 = .ok (.iconst 4, 1) := by decide +kernel
theorem dL_holds_14 : decode cL_holds 14 = .ok (.if_icmp .ge 140, 3) := by decide +kernel
theorem dL_holds_17 : decode cL_holds 17 = .ok (.aload_n 0, 1) := by decide +kernel
theorem dL_holds_18 : decode cL_holds 18 = .ok (.iload 4, 2) := by decide +kernel
theorem dL_holds_20 : decode cL_holds 20 = .ok (.iconst 0, 1) := by decide +kernel
theorem dL_holds_21 : decode cL_holds 21 = .ok (.invokevirtual 25, 3) := by decide +kernel
theorem dL_holds_24 : decode cL_holds 24 = .ok (.istore 5, 2) := by decide +kernel
theorem dL_holds_26 : decode cL_holds 26 = .ok (.iload_n 1, 1) := by decide +kernel
theorem dL_holds_27 : decode cL_holds 27 = .ok (.iconst 3, 1) := by decide +kernel
theorem dL_holds_28 : decode cL_holds 28 = .ok (.iload 4, 2) := by decide +kernel
theorem dL_holds_30 : decode cL_holds 30 = .ok (.imul, 1) := by decide +kernel
theorem dL_holds_31 : decode cL_holds 31 = .ok (.ishr, 1) := by decide +kernel
theorem dL_holds_32 : decode cL_holds 32 = .ok (.bipush 10, 2) := by decide +kernel
theorem dL_holds_34 : decode cL_holds 34 = .ok (.invokestatic 28, 3) := by decide +kernel
theorem dL_holds_37 : decode cL_holds 37 = .ok (.istore 6, 2) := by decide +kernel
theorem dL_holds_39 : decode cL_holds 39 = .ok (.iload 5, 2) := by decide +kernel
theorem dL_holds_41 : decode cL_holds 41 = .ok (.ifCond .lt 14, 3) := by decide +kernel
theorem dL_holds_44 : decode cL_holds 44 = .ok (.iload 5, 2) := by decide +kernel
theorem dL_holds_46 : decode cL_holds 46 = .ok (.iload_n 3, 1) := by decide +kernel
theorem dL_holds_47 : decode cL_holds 47 = .ok (.if_icmp .ge 8, 3) := by decide +kernel
theorem dL_holds_50 : decode cL_holds 50 = .ok (.iload 5, 2) := by decide +kernel
theorem dL_holds_52 : decode cL_holds 52 = .ok (.goto 4, 3) := by decide +kernel
theorem dL_holds_55 : decode cL_holds 55 = .ok (.iload_n 3, 1) := by decide +kernel
theorem dL_holds_56 : decode cL_holds 56 = .ok (.istore_n 3, 1) := by decide +kernel
theorem dL_holds_57 : decode cL_holds 57 = .ok (.iload 5, 2) := by decide +kernel
theorem dL_holds_59 : decode cL_holds 59 = .ok (.ifCond .lt 89, 3) := by decide +kernel
theorem dL_holds_62 : decode cL_holds 62 = .ok (.aload_n 0, 1) := by decide +kernel
theorem dL_holds_63 : decode cL_holds 63 = .ok (.iload 5, 2) := by decide +kernel
theorem dL_holds_65 : decode cL_holds 65 = .ok (.iload 6, 2) := by decide +kernel
theorem dL_holds_67 : decode cL_holds 67 = .ok (.iconst 1, 1) := by decide +kernel
theorem dL_holds_68 : decode cL_holds 68 = .ok (.iconst 0, 1) := by decide +kernel
theorem dL_holds_69 : decode cL_holds 69 = .ok (.invokevirtual 59, 3) := by decide +kernel
theorem dL_holds_72 : decode cL_holds 72 = .ok (.aload_n 0, 1) := by decide +kernel
theorem dL_holds_73 : decode cL_holds 73 = .ok (.iload 5, 2) := by decide +kernel
theorem dL_holds_75 : decode cL_holds 75 = .ok (.iload 6, 2) := by decide +kernel
theorem dL_holds_77 : decode cL_holds 77 = .ok (.iconst 0, 1) := by decide +kernel
theorem dL_holds_78 : decode cL_holds 78 = .ok (.iconst 0, 1) := by decide +kernel
theorem dL_holds_79 : decode cL_holds 79 = .ok (.invokevirtual 59, 3) := by decide +kernel
theorem dL_holds_82 : decode cL_holds 82 = .ok (.if_icmp .ne 64, 3) := by decide +kernel
theorem dL_holds_85 : decode cL_holds 85 = .ok (.aload_n 0, 1) := by decide +kernel
theorem dL_holds_86 : decode cL_holds 86 = .ok (.iload 5, 2) := by decide +kernel
theorem dL_holds_88 : decode cL_holds 88 = .ok (.iload 6, 2) := by decide +kernel
theorem dL_holds_90 : decode cL_holds 90 = .ok (.iconst 2, 1) := by decide +kernel
theorem dL_holds_91 : decode cL_holds 91 = .ok (.iconst 0, 1) := by decide +kernel
theorem dL_holds_92 : decode cL_holds 92 = .ok (.invokevirtual 59, 3) := by decide +kernel
theorem dL_holds_95 : decode cL_holds 95 = .ok (.aload_n 0, 1) := by decide +kernel
theorem dL_holds_96 : decode cL_holds 96 = .ok (.iload 5, 2) := by decide +kernel
theorem dL_holds_98 : decode cL_holds 98 = .ok (.iload 6, 2) := by decide +kernel
theorem dL_holds_100 : decode cL_holds 100 = .ok (.iconst 0, 1) := by decide +kernel
theorem dL_holds_101 : decode cL_holds 101 = .ok (.iconst 0, 1) := by decide +kernel
theorem dL_holds_102 : decode cL_holds 102 = .ok (.invokevirtual 59, 3) := by decide +kernel
theorem dL_holds_105 : decode cL_holds 105 = .ok (.if_icmp .ne 41, 3) := by decide +kernel
theorem dL_holds_108 : decode cL_holds 108 = .ok (.aload_n 0, 1) := by decide +kernel
theorem dL_holds_109 : decode cL_holds 109 = .ok (.iload 5, 2) := by decide +kernel
theorem dL_holds_111 : decode cL_holds 111 = .ok (.iload 6, 2) := by decide +kernel
theorem dL_holds_113 : decode cL_holds 113 = .ok (.iconst 2, 1) := by decide +kernel
theorem dL_holds_114 : decode cL_holds 114 = .ok (.iconst 1, 1) := by decide +kernel
theorem dL_holds_115 : decode cL_holds 115 = .ok (.invokevirtual 59, 3) := by decide +kernel
theorem dL_holds_118 : decode cL_holds 118 = .ok (.aload_n 0, 1) := by decide +kernel
theorem dL_holds_119 : decode cL_holds 119 = .ok (.iload 5, 2) := by decide +kernel
theorem dL_holds_121 : decode cL_holds 121 = .ok (.iload 6, 2) := by decide +kernel
theorem dL_holds_123 : decode cL_holds 123 = .ok (.iconst 1, 1) := by decide +kernel
theorem dL_holds_124 : decode cL_holds 124 = .ok (.iconst 1, 1) := by decide +kernel
theorem dL_holds_125 : decode cL_holds 125 = .ok (.invokevirtual 59, 3) := by decide +kernel
theorem dL_holds_128 : decode cL_holds 128 = .ok (.if_icmp .gt 18, 3) := by decide +kernel
theorem dL_holds_131 : decode cL_holds 131 = .ok (.aload_n 0, 1) := by decide +kernel
theorem dL_holds_132 : decode cL_holds 132 = .ok (.iload 5, 2) := by decide +kernel
theorem dL_holds_134 : decode cL_holds 134 = .ok (.iload 6, 2) := by decide +kernel
theorem dL_holds_136 : decode cL_holds 136 = .ok (.iconst 1, 1) := by decide +kernel
theorem dL_holds_137 : decode cL_holds 137 = .ok (.iconst 1, 1) := by decide +kernel
theorem dL_holds_138 : decode cL_holds 138 = .ok (.invokevirtual 59, 3) := by decide +kernel
theorem dL_holds_141 : decode cL_holds 141 = .ok (.bipush 6, 2) := by decide +kernel
theorem dL_holds_143 : decode cL_holds 143 = .ok (.if_icmp .le 5, 3) := by decide +kernel
theorem dL_holds_146 : decode cL_holds 146 = .ok (.iconst 0, 1) := by decide +kernel
theorem dL_holds_147 : decode cL_holds 147 = .ok (.ireturn, 1) := by decide +kernel
theorem dL_holds_148 : decode cL_holds 148 = .ok (.iinc 4 1, 3) := by decide +kernel
theorem dL_holds_151 : decode cL_holds 151 = .ok (.goto (-140), 3) := by decide +kernel
theorem dL_holds_154 : decode cL_holds 154 = .ok (.iconst 0, 1) := by decide +kernel
theorem dL_holds_155 : decode cL_holds 155 = .ok (.istore 4, 2) := by decide +kernel
theorem dL_holds_157 : decode cL_holds 157 = .ok (.iconst 0, 1) := by decide +kernel
theorem dL_holds_158 : decode cL_holds 158 = .ok (.istore 5, 2) := by decide +kernel
theorem dL_holds_160 : decode cL_holds 160 = .ok (.iconst 0, 1) := by decide +kernel
theorem dL_holds_161 : decode cL_holds 161 = .ok (.istore 6, 2) := by decide +kernel
theorem dL_holds_163 : decode cL_holds 163 = .ok (.iconst 0, 1) := by decide +kernel
theorem dL_holds_164 : decode cL_holds 164 = .ok (.istore 7, 2) := by decide +kernel
theorem dL_holds_166 : decode cL_holds 166 = .ok (.iload 7, 2) := by decide +kernel
theorem dL_holds_168 : decode cL_holds 168 = .ok (.bipush 6, 2) := by decide +kernel
theorem dL_holds_170 : decode cL_holds 170 = .ok (.if_icmp .ge 130, 3) := by decide +kernel
theorem dL_holds_173 : decode cL_holds 173 = .ok (.iload 4, 2) := by decide +kernel
theorem dL_holds_175 : decode cL_holds 175 = .ok (.aload_n 0, 1) := by decide +kernel
theorem dL_holds_176 : decode cL_holds 176 = .ok (.iload 7, 2) := by decide +kernel
theorem dL_holds_178 : decode cL_holds 178 = .ok (.iconst 1, 1) := by decide +kernel
theorem dL_holds_179 : decode cL_holds 179 = .ok (.invokevirtual 22, 3) := by decide +kernel
theorem dL_holds_182 : decode cL_holds 182 = .ok (.iadd, 1) := by decide +kernel
theorem dL_holds_183 : decode cL_holds 183 = .ok (.istore 4, 2) := by decide +kernel
theorem dL_holds_185 : decode cL_holds 185 = .ok (.iload 5, 2) := by decide +kernel
theorem dL_holds_187 : decode cL_holds 187 = .ok (.aload_n 0, 1) := by decide +kernel
theorem dL_holds_188 : decode cL_holds 188 = .ok (.iload 7, 2) := by decide +kernel
theorem dL_holds_190 : decode cL_holds 190 = .ok (.iconst 2, 1) := by decide +kernel
theorem dL_holds_191 : decode cL_holds 191 = .ok (.invokevirtual 22, 3) := by decide +kernel
theorem dL_holds_194 : decode cL_holds 194 = .ok (.iadd, 1) := by decide +kernel
theorem dL_holds_195 : decode cL_holds 195 = .ok (.istore 5, 2) := by decide +kernel
theorem dL_holds_197 : decode cL_holds 197 = .ok (.iload 6, 2) := by decide +kernel
theorem dL_holds_199 : decode cL_holds 199 = .ok (.aload_n 0, 1) := by decide +kernel
theorem dL_holds_200 : decode cL_holds 200 = .ok (.iload 7, 2) := by decide +kernel
theorem dL_holds_202 : decode cL_holds 202 = .ok (.iconst 0, 1) := by decide +kernel
theorem dL_holds_203 : decode cL_holds 203 = .ok (.invokevirtual 22, 3) := by decide +kernel
theorem dL_holds_206 : decode cL_holds 206 = .ok (.iadd, 1) := by decide +kernel
theorem dL_holds_207 : decode cL_holds 207 = .ok (.istore 6, 2) := by decide +kernel
theorem dL_holds_209 : decode cL_holds 209 = .ok (.aload_n 0, 1) := by decide +kernel
theorem dL_holds_210 : decode cL_holds 210 = .ok (.iload 7, 2) := by decide +kernel
theorem dL_holds_212 : decode cL_holds 212 = .ok (.iconst 0, 1) := by decide +kernel
theorem dL_holds_213 : decode cL_holds 213 = .ok (.invokevirtual 22, 3) := by decide +kernel
theorem dL_holds_216 : decode cL_holds 216 = .ok (.iconst 1, 1) := by decide +kernel
theorem dL_holds_217 : decode cL_holds 217 = .ok (.if_icmp .ne 41, 3) := by decide +kernel
theorem dL_holds_220 : decode cL_holds 220 = .ok (.aload_n 0, 1) := by decide +kernel
theorem dL_holds_221 : decode cL_holds 221 = .ok (.iload 7, 2) := by decide +kernel
theorem dL_holds_223 : decode cL_holds 223 = .ok (.iconst 1, 1) := by decide +kernel
theorem dL_holds_224 : decode cL_holds 224 = .ok (.invokevirtual 22, 3) := by decide +kernel
theorem dL_holds_227 : decode cL_holds 227 = .ok (.aload_n 0, 1) := by decide +kernel
theorem dL_holds_228 : decode cL_holds 228 = .ok (.iload 7, 2) := by decide +kernel
theorem dL_holds_230 : decode cL_holds 230 = .ok (.iconst 2, 1) := by decide +kernel
theorem dL_holds_231 : decode cL_holds 231 = .ok (.invokevirtual 22, 3) := by decide +kernel
theorem dL_holds_234 : decode cL_holds 234 = .ok (.if_icmp .ne 58, 3) := by decide +kernel
theorem dL_holds_237 : decode cL_holds 237 = .ok (.aload_n 0, 1) := by decide +kernel
theorem dL_holds_238 : decode cL_holds 238 = .ok (.iload 7, 2) := by decide +kernel
theorem dL_holds_240 : decode cL_holds 240 = .ok (.iconst 3, 1) := by decide +kernel
theorem dL_holds_241 : decode cL_holds 241 = .ok (.invokevirtual 22, 3) := by decide +kernel
theorem dL_holds_244 : decode cL_holds 244 = .ok (.ifCond .ne 48, 3) := by decide +kernel
theorem dL_holds_247 : decode cL_holds 247 = .ok (.aload_n 0, 1) := by decide +kernel
theorem dL_holds_248 : decode cL_holds 248 = .ok (.iload 7, 2) := by decide +kernel
theorem dL_holds_250 : decode cL_holds 250 = .ok (.iconst 4, 1) := by decide +kernel
theorem dL_holds_251 : decode cL_holds 251 = .ok (.invokevirtual 22, 3) := by decide +kernel
theorem dL_holds_254 : decode cL_holds 254 = .ok (.iload_n 3, 1) := by decide +kernel
theorem dL_holds_255 : decode cL_holds 255 = .ok (.if_icmp .gt 37, 3) := by decide +kernel
theorem dL_holds_258 : decode cL_holds 258 = .ok (.aload_n 0, 1) := by decide +kernel
theorem dL_holds_259 : decode cL_holds 259 = .ok (.iload 7, 2) := by decide +kernel
theorem dL_holds_261 : decode cL_holds 261 = .ok (.iconst 0, 1) := by decide +kernel
theorem dL_holds_262 : decode cL_holds 262 = .ok (.invokevirtual 22, 3) := by decide +kernel
theorem dL_holds_265 : decode cL_holds 265 = .ok (.ifCond .ne 7, 3) := by decide +kernel
theorem dL_holds_268 : decode cL_holds 268 = .ok (.iconst 1, 1) := by decide +kernel
theorem dL_holds_269 : decode cL_holds 269 = .ok (.goto 4, 3) := by decide +kernel
theorem dL_holds_272 : decode cL_holds 272 = .ok (.iconst 0, 1) := by decide +kernel
theorem dL_holds_273 : decode cL_holds 273 = .ok (.aload_n 0, 1) := by decide +kernel
theorem dL_holds_274 : decode cL_holds 274 = .ok (.iload 7, 2) := by decide +kernel
theorem dL_holds_276 : decode cL_holds 276 = .ok (.iconst 4, 1) := by decide +kernel
theorem dL_holds_277 : decode cL_holds 277 = .ok (.invokevirtual 22, 3) := by decide +kernel
theorem dL_holds_280 : decode cL_holds 280 = .ok (.iconst (-1), 1) := by decide +kernel
theorem dL_holds_281 : decode cL_holds 281 = .ok (.if_icmp .ne 7, 3) := by decide +kernel
theorem dL_holds_284 : decode cL_holds 284 = .ok (.iconst 1, 1) := by decide +kernel
theorem dL_holds_285 : decode cL_holds 285 = .ok (.goto 4, 3) := by decide +kernel
theorem dL_holds_288 : decode cL_holds 288 = .ok (.iconst 0, 1) := by decide +kernel
theorem dL_holds_289 : decode cL_holds 289 = .ok (.if_icmp .eq 5, 3) := by decide +kernel
theorem dL_holds_292 : decode cL_holds 292 = .ok (.iconst 0, 1) := by decide +kernel
theorem dL_holds_293 : decode cL_holds 293 = .ok (.ireturn, 1) := by decide +kernel
theorem dL_holds_294 : decode cL_holds 294 = .ok (.iinc 7 1, 3) := by decide +kernel
theorem dL_holds_297 : decode cL_holds 297 = .ok (.goto (-131), 3) := by decide +kernel
theorem dL_holds_300 : decode cL_holds 300 = .ok (.iconst 0, 1) := by decide +kernel
theorem dL_holds_301 : decode cL_holds 301 = .ok (.istore 7, 2) := by decide +kernel
theorem dL_holds_303 : decode cL_holds 303 = .ok (.iload 7, 2) := by decide +kernel
theorem dL_holds_305 : decode cL_holds 305 = .ok (.bipush 24, 2) := by decide +kernel
theorem dL_holds_307 : decode cL_holds 307 = .ok (.if_icmp .ge 107, 3) := by decide +kernel
theorem dL_holds_310 : decode cL_holds 310 = .ok (.aload_n 0, 1) := by decide +kernel
theorem dL_holds_311 : decode cL_holds 311 = .ok (.iload 7, 2) := by decide +kernel
theorem dL_holds_313 : decode cL_holds 313 = .ok (.iconst 2, 1) := by decide +kernel
theorem dL_holds_314 : decode cL_holds 314 = .ok (.invokevirtual 18, 3) := by decide +kernel
theorem dL_holds_317 : decode cL_holds 317 = .ok (.istore 8, 2) := by decide +kernel
theorem dL_holds_319 : decode cL_holds 319 = .ok (.aload_n 0, 1) := by decide +kernel
theorem dL_holds_320 : decode cL_holds 320 = .ok (.iload 7, 2) := by decide +kernel
theorem dL_holds_322 : decode cL_holds 322 = .ok (.iconst 0, 1) := by decide +kernel
theorem dL_holds_323 : decode cL_holds 323 = .ok (.invokevirtual 18, 3) := by decide +kernel
theorem dL_holds_326 : decode cL_holds 326 = .ok (.iconst (-1), 1) := by decide +kernel
theorem dL_holds_327 : decode cL_holds 327 = .ok (.if_icmp .ne 7, 3) := by decide +kernel
theorem dL_holds_330 : decode cL_holds 330 = .ok (.iconst 1, 1) := by decide +kernel
theorem dL_holds_331 : decode cL_holds 331 = .ok (.goto 4, 3) := by decide +kernel
theorem dL_holds_334 : decode cL_holds 334 = .ok (.iconst 0, 1) := by decide +kernel
theorem dL_holds_335 : decode cL_holds 335 = .ok (.iload 8, 2) := by decide +kernel
theorem dL_holds_337 : decode cL_holds 337 = .ok (.iconst (-1), 1) := by decide +kernel
theorem dL_holds_338 : decode cL_holds 338 = .ok (.if_icmp .ne 7, 3) := by decide +kernel
theorem dL_holds_341 : decode cL_holds 341 = .ok (.iconst 1, 1) := by decide +kernel
theorem dL_holds_342 : decode cL_holds 342 = .ok (.goto 4, 3) := by decide +kernel
theorem dL_holds_345 : decode cL_holds 345 = .ok (.iconst 0, 1) := by decide +kernel
theorem dL_holds_346 : decode cL_holds 346 = .ok (.if_icmp .ne 60, 3) := by decide +kernel
theorem dL_holds_349 : decode cL_holds 349 = .ok (.iload 8, 2) := by decide +kernel
theorem dL_holds_351 : decode cL_holds 351 = .ok (.ifCond .le 15, 3) := by decide +kernel
theorem dL_holds_354 : decode cL_holds 354 = .ok (.iload 8, 2) := by decide +kernel
theorem dL_holds_356 : decode cL_holds 356 = .ok (.aload_n 0, 1) := by decide +kernel
theorem dL_holds_357 : decode cL_holds 357 = .ok (.iload 7, 2) := by decide +kernel
theorem dL_holds_359 : decode cL_holds 359 = .ok (.iconst 1, 1) := by decide +kernel
theorem dL_holds_360 : decode cL_holds 360 = .ok (.invokevirtual 18, 3) := by decide +kernel
theorem dL_holds_363 : decode cL_holds 363 = .ok (.if_icmp .le 43, 3) := by decide +kernel
theorem dL_holds_366 : decode cL_holds 366 = .ok (.aload_n 0, 1) := by decide +kernel
theorem dL_holds_367 : decode cL_holds 367 = .ok (.iload 7, 2) := by decide +kernel
theorem dL_holds_369 : decode cL_holds 369 = .ok (.iconst 1, 1) := by decide +kernel
theorem dL_holds_370 : decode cL_holds 370 = .ok (.invokevirtual 18, 3) := by decide +kernel
theorem dL_holds_373 : decode cL_holds 373 = .ok (.iload_n 2, 1) := by decide +kernel
theorem dL_holds_374 : decode cL_holds 374 = .ok (.if_icmp .gt 32, 3) := by decide +kernel
theorem dL_holds_377 : decode cL_holds 377 = .ok (.aload_n 0, 1) := by decide +kernel
theorem dL_holds_378 : decode cL_holds 378 = .ok (.iload 7, 2) := by decide +kernel
theorem dL_holds_380 : decode cL_holds 380 = .ok (.iconst 3, 1) := by decide +kernel
theorem dL_holds_381 : decode cL_holds 381 = .ok (.invokevirtual 18, 3) := by decide +kernel
theorem dL_holds_384 : decode cL_holds 384 = .ok (.iconst 1, 1) := by decide +kernel
theorem dL_holds_385 : decode cL_holds 385 = .ok (.if_icmp .ne 7, 3) := by decide +kernel
theorem dL_holds_388 : decode cL_holds 388 = .ok (.iconst 1, 1) := by decide +kernel
theorem dL_holds_389 : decode cL_holds 389 = .ok (.goto 4, 3) := by decide +kernel
theorem dL_holds_392 : decode cL_holds 392 = .ok (.iconst 0, 1) := by decide +kernel
theorem dL_holds_393 : decode cL_holds 393 = .ok (.iload 8, 2) := by decide +kernel
theorem dL_holds_395 : decode cL_holds 395 = .ok (.ifCond .ne 7, 3) := by decide +kernel
theorem dL_holds_398 : decode cL_holds 398 = .ok (.iconst 1, 1) := by decide +kernel
theorem dL_holds_399 : decode cL_holds 399 = .ok (.goto 4, 3) := by decide +kernel
theorem dL_holds_402 : decode cL_holds 402 = .ok (.iconst 0, 1) := by decide +kernel
theorem dL_holds_403 : decode cL_holds 403 = .ok (.if_icmp .eq 5, 3) := by decide +kernel
theorem dL_holds_406 : decode cL_holds 406 = .ok (.iconst 0, 1) := by decide +kernel
theorem dL_holds_407 : decode cL_holds 407 = .ok (.ireturn, 1) := by decide +kernel
theorem dL_holds_408 : decode cL_holds 408 = .ok (.iinc 7 1, 3) := by decide +kernel
theorem dL_holds_411 : decode cL_holds 411 = .ok (.goto (-108), 3) := by decide +kernel
theorem dL_holds_414 : decode cL_holds 414 = .ok (.aload_n 0, 1) := by decide +kernel
theorem dL_holds_415 : decode cL_holds 415 = .ok (.iconst 1, 1) := by decide +kernel
theorem dL_holds_416 : decode cL_holds 416 = .ok (.invokevirtual 12, 3) := by decide +kernel
theorem dL_holds_419 : decode cL_holds 419 = .ok (.iload_n 3, 1) := by decide +kernel
theorem dL_holds_420 : decode cL_holds 420 = .ok (.if_icmp .ne 77, 3) := by decide +kernel
theorem dL_holds_423 : decode cL_holds 423 = .ok (.iload 4, 2) := by decide +kernel
theorem dL_holds_425 : decode cL_holds 425 = .ok (.aload_n 0, 1) := by decide +kernel
theorem dL_holds_426 : decode cL_holds 426 = .ok (.iconst 2, 1) := by decide +kernel
theorem dL_holds_427 : decode cL_holds 427 = .ok (.invokevirtual 12, 3) := by decide +kernel
theorem dL_holds_430 : decode cL_holds 430 = .ok (.if_icmp .ne 67, 3) := by decide +kernel
theorem dL_holds_433 : decode cL_holds 433 = .ok (.iload 5, 2) := by decide +kernel
theorem dL_holds_435 : decode cL_holds 435 = .ok (.aload_n 0, 1) := by decide +kernel
theorem dL_holds_436 : decode cL_holds 436 = .ok (.iconst 3, 1) := by decide +kernel
theorem dL_holds_437 : decode cL_holds 437 = .ok (.invokevirtual 12, 3) := by decide +kernel
theorem dL_holds_440 : decode cL_holds 440 = .ok (.if_icmp .ne 57, 3) := by decide +kernel
theorem dL_holds_443 : decode cL_holds 443 = .ok (.iload 6, 2) := by decide +kernel
theorem dL_holds_445 : decode cL_holds 445 = .ok (.aload_n 0, 1) := by decide +kernel
theorem dL_holds_446 : decode cL_holds 446 = .ok (.iconst 5, 1) := by decide +kernel
theorem dL_holds_447 : decode cL_holds 447 = .ok (.invokevirtual 12, 3) := by decide +kernel
theorem dL_holds_450 : decode cL_holds 450 = .ok (.if_icmp .ne 47, 3) := by decide +kernel
theorem dL_holds_453 : decode cL_holds 453 = .ok (.aload_n 0, 1) := by decide +kernel
theorem dL_holds_454 : decode cL_holds 454 = .ok (.iconst 2, 1) := by decide +kernel
theorem dL_holds_455 : decode cL_holds 455 = .ok (.invokevirtual 12, 3) := by decide +kernel
theorem dL_holds_458 : decode cL_holds 458 = .ok (.aload_n 0, 1) := by decide +kernel
theorem dL_holds_459 : decode cL_holds 459 = .ok (.iconst 4, 1) := by decide +kernel
theorem dL_holds_460 : decode cL_holds 460 = .ok (.invokevirtual 12, 3) := by decide +kernel
theorem dL_holds_463 : decode cL_holds 463 = .ok (.iadd, 1) := by decide +kernel
theorem dL_holds_464 : decode cL_holds 464 = .ok (.bipush 24, 2) := by decide +kernel
theorem dL_holds_466 : decode cL_holds 466 = .ok (.if_icmp .ne 31, 3) := by decide +kernel
theorem dL_holds_469 : decode cL_holds 469 = .ok (.aload_n 0, 1) := by decide +kernel
theorem dL_holds_470 : decode cL_holds 470 = .ok (.bipush 9, 2) := by decide +kernel
theorem dL_holds_472 : decode cL_holds 472 = .ok (.invokevirtual 12, 3) := by decide +kernel
theorem dL_holds_475 : decode cL_holds 475 = .ok (.ifCond .ne 22, 3) := by decide +kernel
theorem dL_holds_478 : decode cL_holds 478 = .ok (.aload_n 0, 1) := by decide +kernel
theorem dL_holds_479 : decode cL_holds 479 = .ok (.invokevirtual 63, 3) := by decide +kernel
theorem dL_holds_482 : decode cL_holds 482 = .ok (.iload 6, 2) := by decide +kernel
theorem dL_holds_484 : decode cL_holds 484 = .ok (.i2d, 1) := by decide +kernel
theorem dL_holds_485 : decode cL_holds 485 = .ok (.ldc2_w 67, 3) := by decide +kernel
theorem dL_holds_488 : decode cL_holds 488 = .ok (.ddiv, 1) := by decide +kernel
theorem dL_holds_489 : decode cL_holds 489 = .ok (.dcmp .l, 1) := by decide +kernel
theorem dL_holds_490 : decode cL_holds 490 = .ok (.ifCond .ne 7, 3) := by decide +kernel
theorem dL_holds_493 : decode cL_holds 493 = .ok (.iconst 1, 1) := by decide +kernel
theorem dL_holds_494 : decode cL_holds 494 = .ok (.goto 4, 3) := by decide +kernel
theorem dL_holds_497 : decode cL_holds 497 = .ok (.iconst 0, 1) := by decide +kernel
theorem dL_holds_498 : decode cL_holds 498 = .ok (.ireturn, 1) := by decide +kernel
