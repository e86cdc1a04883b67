/-! stretches of HeavierRowModel, by program (wip/whole/genall.py) -/
theorem dX12_doReach_0 : decode mX12_doReach.2.1 0 = .ok (.iconst 0, 1) := by decide +kernel
theorem dX12_doReach_1 : decode mX12_doReach.2.1 1 = .ok (.istore 4, 2) := by decide +kernel
theorem dX12_doReach_3 : decode mX12_doReach.2.1 3 = .ok (.iconst 0, 1) := by decide +kernel
theorem dX12_doReach_4 : decode mX12_doReach.2.1 4 = .ok (.istore 5, 2) := by decide +kernel
theorem dX12_doReach_6 : decode mX12_doReach.2.1 6 = .ok (.iload 5, 2) := by decide +kernel
theorem dX12_doReach_8 : decode mX12_doReach.2.1 8 = .ok (.iload_n 1, 1) := by decide +kernel
theorem dX12_doReach_9 : decode mX12_doReach.2.1 9 = .ok (.if_icmp .ge 21, 3) := by decide +kernel
theorem dX12_doReach_12 : decode mX12_doReach.2.1 12 = .ok (.iload 4, 2) := by decide +kernel
theorem dX12_doReach_14 : decode mX12_doReach.2.1 14 = .ok (.aload_n 0, 1) := by decide +kernel
theorem dX12_doReach_15 : decode mX12_doReach.2.1 15 = .ok (.getfield 188, 3) := by decide +kernel
theorem dX12_doReach_18 : decode mX12_doReach.2.1 18 = .ok (.iload 5, 2) := by decide +kernel
theorem dX12_doReach_20 : decode mX12_doReach.2.1 20 = .ok (.iaload, 1) := by decide +kernel
theorem dX12_doReach_21 : decode mX12_doReach.2.1 21 = .ok (.iadd, 1) := by decide +kernel
theorem dX12_doReach_22 : decode mX12_doReach.2.1 22 = .ok (.istore 4, 2) := by decide +kernel
theorem dX12_doReach_24 : decode mX12_doReach.2.1 24 = .ok (.iinc 5 1, 3) := by decide +kernel
theorem dX12_doReach_27 : decode mX12_doReach.2.1 27 = .ok (.goto (-21), 3) := by decide +kernel
theorem dX12_doReach_30 : decode mX12_doReach.2.1 30 = .ok (.iload 4, 2) := by decide +kernel
theorem dX12_doReach_32 : decode mX12_doReach.2.1 32 = .ok (.iload_n 2, 1) := by decide +kernel
theorem dX12_doReach_33 : decode mX12_doReach.2.1 33 = .ok (.if_icmp .ge 5, 3) := by decide +kernel
theorem dX12_doReach_36 : decode mX12_doReach.2.1 36 = .ok (.iconst 0, 1) := by decide +kernel
theorem dX12_doReach_37 : decode mX12_doReach.2.1 37 = .ok (.ireturn, 1) := by decide +kernel
theorem dX12_doReach_38 : decode mX12_doReach.2.1 38 = .ok (.iconst 0, 1) := by decide +kernel
theorem dX12_doReach_39 : decode mX12_doReach.2.1 39 = .ok (.istore 5, 2) := by decide +kernel
theorem dX12_doReach_41 : decode mX12_doReach.2.1 41 = .ok (.iload 5, 2) := by decide +kernel
theorem dX12_doReach_43 : decode mX12_doReach.2.1 43 = .ok (.iconst 2, 1) := by decide +kernel
theorem dX12_doReach_44 : decode mX12_doReach.2.1 44 = .ok (.iload 4, 2) := by decide +kernel
theorem dX12_doReach_46 : decode mX12_doReach.2.1 46 = .ok (.imul, 1) := by decide +kernel
theorem dX12_doReach_47 : decode mX12_doReach.2.1 47 = .ok (.if_icmp .gt 28, 3) := by decide +kernel
theorem dX12_doReach_50 : decode mX12_doReach.2.1 50 = .ok (.aload_n 0, 1) := by decide +kernel
theorem dX12_doReach_51 : decode mX12_doReach.2.1 51 = .ok (.getfield 191, 3) := by decide +kernel
theorem dX12_doReach_54 : decode mX12_doReach.2.1 54 = .ok (.iload 5, 2) := by decide +kernel
theorem dX12_doReach_56 : decode mX12_doReach.2.1 56 = .ok (.iload 5, 2) := by decide +kernel
theorem dX12_doReach_58 : decode mX12_doReach.2.1 58 = .ok (.iload 4, 2) := by decide +kernel
theorem dX12_doReach_60 : decode mX12_doReach.2.1 60 = .ok (.if_icmp .ne 7, 3) := by decide +kernel
theorem dX12_doReach_63 : decode mX12_doReach.2.1 63 = .ok (.iconst 1, 1) := by decide +kernel
theorem dX12_doReach_64 : decode mX12_doReach.2.1 64 = .ok (.goto 4, 3) := by decide +kernel
theorem dX12_doReach_67 : decode mX12_doReach.2.1 67 = .ok (.iconst 0, 1) := by decide +kernel
theorem dX12_doReach_68 : decode mX12_doReach.2.1 68 = .ok (.bastore, 1) := by decide +kernel
theorem dX12_doReach_69 : decode mX12_doReach.2.1 69 = .ok (.iinc 5 1, 3) := by decide +kernel
theorem dX12_doReach_72 : decode mX12_doReach.2.1 72 = .ok (.goto (-31), 3) := by decide +kernel
theorem dX12_doReach_75 : decode mX12_doReach.2.1 75 = .ok (.iconst 0, 1) := by decide +kernel
theorem dX12_doReach_76 : decode mX12_doReach.2.1 76 = .ok (.istore 5, 2) := by decide +kernel
theorem dX12_doReach_78 : decode mX12_doReach.2.1 78 = .ok (.iload 5, 2) := by decide +kernel
theorem dX12_doReach_80 : decode mX12_doReach.2.1 80 = .ok (.iload_n 1, 1) := by decide +kernel
theorem dX12_doReach_81 : decode mX12_doReach.2.1 81 = .ok (.if_icmp .ge 146, 3) := by decide +kernel
theorem dX12_doReach_84 : decode mX12_doReach.2.1 84 = .ok (.iconst 2, 1) := by decide +kernel
theorem dX12_doReach_85 : decode mX12_doReach.2.1 85 = .ok (.iload 4, 2) := by decide +kernel
theorem dX12_doReach_87 : decode mX12_doReach.2.1 87 = .ok (.imul, 1) := by decide +kernel
theorem dX12_doReach_88 : decode mX12_doReach.2.1 88 = .ok (.istore 6, 2) := by decide +kernel
theorem dX12_doReach_90 : decode mX12_doReach.2.1 90 = .ok (.iload 6, 2) := by decide +kernel
theorem dX12_doReach_92 : decode mX12_doReach.2.1 92 = .ok (.aload_n 0, 1) := by decide +kernel
theorem dX12_doReach_93 : decode mX12_doReach.2.1 93 = .ok (.getfield 188, 3) := by decide +kernel
theorem dX12_doReach_96 : decode mX12_doReach.2.1 96 = .ok (.iload 5, 2) := by decide +kernel
theorem dX12_doReach_98 : decode mX12_doReach.2.1 98 = .ok (.iaload, 1) := by decide +kernel
theorem dX12_doReach_99 : decode mX12_doReach.2.1 99 = .ok (.if_icmp .lt 49, 3) := by decide +kernel
theorem dX12_doReach_102 : decode mX12_doReach.2.1 102 = .ok (.aload_n 0, 1) := by decide +kernel
theorem dX12_doReach_103 : decode mX12_doReach.2.1 103 = .ok (.getfield 191, 3) := by decide +kernel
theorem dX12_doReach_106 : decode mX12_doReach.2.1 106 = .ok (.iload 6, 2) := by decide +kernel
theorem dX12_doReach_108 : decode mX12_doReach.2.1 108 = .ok (.aload_n 0, 1) := by decide +kernel
theorem dX12_doReach_109 : decode mX12_doReach.2.1 109 = .ok (.getfield 191, 3) := by decide +kernel
theorem dX12_doReach_112 : decode mX12_doReach.2.1 112 = .ok (.iload 6, 2) := by decide +kernel
theorem dX12_doReach_114 : decode mX12_doReach.2.1 114 = .ok (.baload, 1) := by decide +kernel
theorem dX12_doReach_115 : decode mX12_doReach.2.1 115 = .ok (.ifCond .ne 21, 3) := by decide +kernel
theorem dX12_doReach_118 : decode mX12_doReach.2.1 118 = .ok (.aload_n 0, 1) := by decide +kernel
theorem dX12_doReach_119 : decode mX12_doReach.2.1 119 = .ok (.getfield 191, 3) := by decide +kernel
theorem dX12_doReach_122 : decode mX12_doReach.2.1 122 = .ok (.iload 6, 2) := by decide +kernel
theorem dX12_doReach_124 : decode mX12_doReach.2.1 124 = .ok (.aload_n 0, 1) := by decide +kernel
theorem dX12_doReach_125 : decode mX12_doReach.2.1 125 = .ok (.getfield 188, 3) := by decide +kernel
theorem dX12_doReach_128 : decode mX12_doReach.2.1 128 = .ok (.iload 5, 2) := by decide +kernel
theorem dX12_doReach_130 : decode mX12_doReach.2.1 130 = .ok (.iaload, 1) := by decide +kernel
theorem dX12_doReach_131 : decode mX12_doReach.2.1 131 = .ok (.isub, 1) := by decide +kernel
theorem dX12_doReach_132 : decode mX12_doReach.2.1 132 = .ok (.baload, 1) := by decide +kernel
theorem dX12_doReach_133 : decode mX12_doReach.2.1 133 = .ok (.ifCond .eq 7, 3) := by decide +kernel
theorem dX12_doReach_136 : decode mX12_doReach.2.1 136 = .ok (.iconst 1, 1) := by decide +kernel
theorem dX12_doReach_137 : decode mX12_doReach.2.1 137 = .ok (.goto 4, 3) := by decide +kernel
theorem dX12_doReach_140 : decode mX12_doReach.2.1 140 = .ok (.iconst 0, 1) := by decide +kernel
theorem dX12_doReach_141 : decode mX12_doReach.2.1 141 = .ok (.bastore, 1) := by decide +kernel
theorem dX12_doReach_142 : decode mX12_doReach.2.1 142 = .ok (.iinc 6 (-1), 3) := by decide +kernel
theorem dX12_doReach_145 : decode mX12_doReach.2.1 145 = .ok (.goto (-55), 3) := by decide +kernel
theorem dX12_doReach_148 : decode mX12_doReach.2.1 148 = .ok (.iload_n 3, 1) := by decide +kernel
theorem dX12_doReach_149 : decode mX12_doReach.2.1 149 = .ok (.ifCond .ne 6, 3) := by decide +kernel
theorem dX12_doReach_152 : decode mX12_doReach.2.1 152 = .ok (.goto 69, 3) := by decide +kernel
theorem dX12_doReach_155 : decode mX12_doReach.2.1 155 = .ok (.iconst 0, 1) := by decide +kernel
theorem dX12_doReach_156 : decode mX12_doReach.2.1 156 = .ok (.istore 6, 2) := by decide +kernel
theorem dX12_doReach_158 : decode mX12_doReach.2.1 158 = .ok (.iload 6, 2) := by decide +kernel
theorem dX12_doReach_160 : decode mX12_doReach.2.1 160 = .ok (.aload_n 0, 1) := by decide +kernel
theorem dX12_doReach_161 : decode mX12_doReach.2.1 161 = .ok (.getfield 188, 3) := by decide +kernel
theorem dX12_doReach_164 : decode mX12_doReach.2.1 164 = .ok (.iload 5, 2) := by decide +kernel
theorem dX12_doReach_166 : decode mX12_doReach.2.1 166 = .ok (.iaload, 1) := by decide +kernel
theorem dX12_doReach_167 : decode mX12_doReach.2.1 167 = .ok (.iadd, 1) := by decide +kernel
theorem dX12_doReach_168 : decode mX12_doReach.2.1 168 = .ok (.iconst 2, 1) := by decide +kernel
theorem dX12_doReach_169 : decode mX12_doReach.2.1 169 = .ok (.iload 4, 2) := by decide +kernel
theorem dX12_doReach_171 : decode mX12_doReach.2.1 171 = .ok (.imul, 1) := by decide +kernel
theorem dX12_doReach_172 : decode mX12_doReach.2.1 172 = .ok (.if_icmp .gt 49, 3) := by decide +kernel
theorem dX12_doReach_175 : decode mX12_doReach.2.1 175 = .ok (.aload_n 0, 1) := by decide +kernel
theorem dX12_doReach_176 : decode mX12_doReach.2.1 176 = .ok (.getfield 191, 3) := by decide +kernel
theorem dX12_doReach_179 : decode mX12_doReach.2.1 179 = .ok (.iload 6, 2) := by decide +kernel
theorem dX12_doReach_181 : decode mX12_doReach.2.1 181 = .ok (.aload_n 0, 1) := by decide +kernel
theorem dX12_doReach_182 : decode mX12_doReach.2.1 182 = .ok (.getfield 191, 3) := by decide +kernel
theorem dX12_doReach_185 : decode mX12_doReach.2.1 185 = .ok (.iload 6, 2) := by decide +kernel
theorem dX12_doReach_187 : decode mX12_doReach.2.1 187 = .ok (.baload, 1) := by decide +kernel
theorem dX12_doReach_188 : decode mX12_doReach.2.1 188 = .ok (.ifCond .ne 21, 3) := by decide +kernel
theorem dX12_doReach_191 : decode mX12_doReach.2.1 191 = .ok (.aload_n 0, 1) := by decide +kernel
theorem dX12_doReach_192 : decode mX12_doReach.2.1 192 = .ok (.getfield 191, 3) := by decide +kernel
theorem dX12_doReach_195 : decode mX12_doReach.2.1 195 = .ok (.iload 6, 2) := by decide +kernel
theorem dX12_doReach_197 : decode mX12_doReach.2.1 197 = .ok (.aload_n 0, 1) := by decide +kernel
theorem dX12_doReach_198 : decode mX12_doReach.2.1 198 = .ok (.getfield 188, 3) := by decide +kernel
theorem dX12_doReach_201 : decode mX12_doReach.2.1 201 = .ok (.iload 5, 2) := by decide +kernel
theorem dX12_doReach_203 : decode mX12_doReach.2.1 203 = .ok (.iaload, 1) := by decide +kernel
theorem dX12_doReach_204 : decode mX12_doReach.2.1 204 = .ok (.iadd, 1) := by decide +kernel
theorem dX12_doReach_205 : decode mX12_doReach.2.1 205 = .ok (.baload, 1) := by decide +kernel
theorem dX12_doReach_206 : decode mX12_doReach.2.1 206 = .ok (.ifCond .eq 7, 3) := by decide +kernel
theorem dX12_doReach_209 : decode mX12_doReach.2.1 209 = .ok (.iconst 1, 1) := by decide +kernel
theorem dX12_doReach_210 : decode mX12_doReach.2.1 210 = .ok (.goto 4, 3) := by decide +kernel
theorem dX12_doReach_213 : decode mX12_doReach.2.1 213 = .ok (.iconst 0, 1) := by decide +kernel
theorem dX12_doReach_214 : decode mX12_doReach.2.1 214 = .ok (.bastore, 1) := by decide +kernel
theorem dX12_doReach_215 : decode mX12_doReach.2.1 215 = .ok (.iinc 6 1, 3) := by decide +kernel
theorem dX12_doReach_218 : decode mX12_doReach.2.1 218 = .ok (.goto (-60), 3) := by decide +kernel
theorem dX12_doReach_221 : decode mX12_doReach.2.1 221 = .ok (.iinc 5 1, 3) := by decide +kernel
theorem dX12_doReach_224 : decode mX12_doReach.2.1 224 = .ok (.goto (-146), 3) := by decide +kernel
theorem dX12_doReach_227 : decode mX12_doReach.2.1 227 = .ok (.iconst 1, 1) := by decide +kernel
theorem dX12_doReach_228 : decode mX12_doReach.2.1 228 = .ok (.istore 5, 2) := by decide +kernel
theorem dX12_doReach_230 : decode mX12_doReach.2.1 230 = .ok (.iload 5, 2) := by decide +kernel
theorem dX12_doReach_232 : decode mX12_doReach.2.1 232 = .ok (.iload_n 2, 1) := by decide +kernel
theorem dX12_doReach_233 : decode mX12_doReach.2.1 233 = .ok (.if_icmp .gt 24, 3) := by decide +kernel
theorem dX12_doReach_236 : decode mX12_doReach.2.1 236 = .ok (.aload_n 0, 1) := by decide +kernel
theorem dX12_doReach_237 : decode mX12_doReach.2.1 237 = .ok (.getfield 191, 3) := by decide +kernel
theorem dX12_doReach_240 : decode mX12_doReach.2.1 240 = .ok (.iload 4, 2) := by decide +kernel
theorem dX12_doReach_242 : decode mX12_doReach.2.1 242 = .ok (.iload 5, 2) := by decide +kernel
theorem dX12_doReach_244 : decode mX12_doReach.2.1 244 = .ok (.iadd, 1) := by decide +kernel
theorem dX12_doReach_245 : decode mX12_doReach.2.1 245 = .ok (.baload, 1) := by decide +kernel
theorem dX12_doReach_246 : decode mX12_doReach.2.1 246 = .ok (.ifCond .ne 5, 3) := by decide +kernel
theorem dX12_doReach_249 : decode mX12_doReach.2.1 249 = .ok (.iconst 0, 1) := by decide +kernel
theorem dX12_doReach_250 : decode mX12_doReach.2.1 250 = .ok (.ireturn, 1) := by decide +kernel
theorem dX12_doReach_251 : decode mX12_doReach.2.1 251 = .ok (.iinc 5 1, 3) := by decide +kernel
theorem dX12_doReach_254 : decode mX12_doReach.2.1 254 = .ok (.goto (-24), 3) := by decide +kernel
theorem dX12_doReach_257 : decode mX12_doReach.2.1 257 = .ok (.iconst 1, 1) := by decide +kernel
theorem dX12_doReach_258 : decode mX12_doReach.2.1 258 = .ok (.ireturn, 1) := by decide +kernel
theorem dX12_heaps_0 : decode mX12_heaps.2.1 0 = .ok (.iload_n 1, 1) := by decide +kernel
theorem dX12_heaps_1 : decode mX12_heaps.2.1 1 = .ok (.iconst 0, 1) := by decide +kernel
theorem dX12_heaps_2 : decode mX12_heaps.2.1 2 = .ok (.iconst 2, 1) := by decide +kernel
theorem dX12_heaps_3 : decode mX12_heaps.2.1 3 = .ok (.invokestatic 367, 3) := by decide +kernel
theorem dX12_heaps_6 : decode mX12_heaps.2.1 6 = .ok (.ifCond .eq 11, 3) := by decide +kernel
theorem dX12_heaps_9 : decode mX12_heaps.2.1 9 = .ok (.aload_n 0, 1) := by decide +kernel
theorem dX12_heaps_10 : decode mX12_heaps.2.1 10 = .ok (.invokevirtual 364, 3) := by decide +kernel
theorem dX12_heaps_13 : decode mX12_heaps.2.1 13 = .ok (.iconst 2, 1) := by decide +kernel
theorem dX12_heaps_14 : decode mX12_heaps.2.1 14 = .ok (.if_icmp .ge 5, 3) := by decide +kernel
theorem dX12_heaps_17 : decode mX12_heaps.2.1 17 = .ok (.iconst (-1), 1) := by decide +kernel
theorem dX12_heaps_18 : decode mX12_heaps.2.1 18 = .ok (.ireturn, 1) := by decide +kernel
theorem dX12_heaps_19 : decode mX12_heaps.2.1 19 = .ok (.iconst 0, 1) := by decide +kernel
theorem dX12_heaps_20 : decode mX12_heaps.2.1 20 = .ok (.istore_n 3, 1) := by decide +kernel
theorem dX12_heaps_21 : decode mX12_heaps.2.1 21 = .ok (.iconst 0, 1) := by decide +kernel
theorem dX12_heaps_22 : decode mX12_heaps.2.1 22 = .ok (.istore 4, 2) := by decide +kernel
theorem dX12_heaps_24 : decode mX12_heaps.2.1 24 = .ok (.iload 4, 2) := by decide +kernel
theorem dX12_heaps_26 : decode mX12_heaps.2.1 26 = .ok (.aload_n 0, 1) := by decide +kernel
theorem dX12_heaps_27 : decode mX12_heaps.2.1 27 = .ok (.invokevirtual 564, 3) := by decide +kernel
theorem dX12_heaps_30 : decode mX12_heaps.2.1 30 = .ok (.if_icmp .ge 37, 3) := by decide +kernel
theorem dX12_heaps_33 : decode mX12_heaps.2.1 33 = .ok (.aload_n 0, 1) := by decide +kernel
theorem dX12_heaps_34 : decode mX12_heaps.2.1 34 = .ok (.iload 4, 2) := by decide +kernel
theorem dX12_heaps_36 : decode mX12_heaps.2.1 36 = .ok (.invokevirtual 567, 3) := by decide +kernel
theorem dX12_heaps_39 : decode mX12_heaps.2.1 39 = .ok (.aload_n 0, 1) := by decide +kernel
theorem dX12_heaps_40 : decode mX12_heaps.2.1 40 = .ok (.iload_n 2, 1) := by decide +kernel
theorem dX12_heaps_41 : decode mX12_heaps.2.1 41 = .ok (.invokevirtual 570, 3) := by decide +kernel
theorem dX12_heaps_44 : decode mX12_heaps.2.1 44 = .ok (.ifCond .ne 6, 3) := by decide +kernel
theorem dX12_heaps_47 : decode mX12_heaps.2.1 47 = .ok (.goto 14, 3) := by decide +kernel
theorem dX12_heaps_50 : decode mX12_heaps.2.1 50 = .ok (.aload_n 0, 1) := by decide +kernel
theorem dX12_heaps_51 : decode mX12_heaps.2.1 51 = .ok (.getfield 194, 3) := by decide +kernel
theorem dX12_heaps_54 : decode mX12_heaps.2.1 54 = .ok (.iload_n 3, 1) := by decide +kernel
theorem dX12_heaps_55 : decode mX12_heaps.2.1 55 = .ok (.iload 4, 2) := by decide +kernel
theorem dX12_heaps_57 : decode mX12_heaps.2.1 57 = .ok (.iastore, 1) := by decide +kernel
theorem dX12_heaps_58 : decode mX12_heaps.2.1 58 = .ok (.iinc 3 1, 3) := by decide +kernel
theorem dX12_heaps_61 : decode mX12_heaps.2.1 61 = .ok (.iinc 4 1, 3) := by decide +kernel
theorem dX12_heaps_64 : decode mX12_heaps.2.1 64 = .ok (.goto (-40), 3) := by decide +kernel
theorem dX12_heaps_67 : decode mX12_heaps.2.1 67 = .ok (.iload_n 3, 1) := by decide +kernel
theorem dX12_heaps_68 : decode mX12_heaps.2.1 68 = .ok (.ifCond .ne 5, 3) := by decide +kernel
theorem dX12_heaps_71 : decode mX12_heaps.2.1 71 = .ok (.iconst (-1), 1) := by decide +kernel
theorem dX12_heaps_72 : decode mX12_heaps.2.1 72 = .ok (.ireturn, 1) := by decide +kernel
theorem dX12_heaps_73 : decode mX12_heaps.2.1 73 = .ok (.iconst (-1), 1) := by decide +kernel
theorem dX12_heaps_74 : decode mX12_heaps.2.1 74 = .ok (.istore 4, 2) := by decide +kernel
theorem dX12_heaps_76 : decode mX12_heaps.2.1 76 = .ok (.iconst 0, 1) := by decide +kernel
theorem dX12_heaps_77 : decode mX12_heaps.2.1 77 = .ok (.istore 5, 2) := by decide +kernel
theorem dX12_heaps_79 : decode mX12_heaps.2.1 79 = .ok (.iconst 1, 1) := by decide +kernel
theorem dX12_heaps_80 : decode mX12_heaps.2.1 80 = .ok (.istore 6, 2) := by decide +kernel
theorem dX12_heaps_82 : decode mX12_heaps.2.1 82 = .ok (.iload 6, 2) := by decide +kernel
theorem dX12_heaps_84 : decode mX12_heaps.2.1 84 = .ok (.iconst 1, 1) := by decide +kernel
theorem dX12_heaps_85 : decode mX12_heaps.2.1 85 = .ok (.aload_n 0, 1) := by decide +kernel
theorem dX12_heaps_86 : decode mX12_heaps.2.1 86 = .ok (.invokevirtual 364, 3) := by decide +kernel
theorem dX12_heaps_89 : decode mX12_heaps.2.1 89 = .ok (.ishl, 1) := by decide +kernel
theorem dX12_heaps_90 : decode mX12_heaps.2.1 90 = .ok (.if_icmp .ge 80, 3) := by decide +kernel
theorem dX12_heaps_93 : decode mX12_heaps.2.1 93 = .ok (.iconst 1, 1) := by decide +kernel
theorem dX12_heaps_94 : decode mX12_heaps.2.1 94 = .ok (.istore 7, 2) := by decide +kernel
theorem dX12_heaps_96 : decode mX12_heaps.2.1 96 = .ok (.iload 7, 2) := by decide +kernel
theorem dX12_heaps_98 : decode mX12_heaps.2.1 98 = .ok (.iconst 1, 1) := by decide +kernel
theorem dX12_heaps_99 : decode mX12_heaps.2.1 99 = .ok (.aload_n 0, 1) := by decide +kernel
theorem dX12_heaps_100 : decode mX12_heaps.2.1 100 = .ok (.invokevirtual 364, 3) := by decide +kernel
theorem dX12_heaps_103 : decode mX12_heaps.2.1 103 = .ok (.ishl, 1) := by decide +kernel
theorem dX12_heaps_104 : decode mX12_heaps.2.1 104 = .ok (.if_icmp .ge 60, 3) := by decide +kernel
theorem dX12_heaps_107 : decode mX12_heaps.2.1 107 = .ok (.iload 6, 2) := by decide +kernel
theorem dX12_heaps_109 : decode mX12_heaps.2.1 109 = .ok (.iload 7, 2) := by decide +kernel
theorem dX12_heaps_111 : decode mX12_heaps.2.1 111 = .ok (.iand, 1) := by decide +kernel
theorem dX12_heaps_112 : decode mX12_heaps.2.1 112 = .ok (.ifCond .eq 6, 3) := by decide +kernel
theorem dX12_heaps_115 : decode mX12_heaps.2.1 115 = .ok (.goto 43, 3) := by decide +kernel
theorem dX12_heaps_118 : decode mX12_heaps.2.1 118 = .ok (.aload_n 0, 1) := by decide +kernel
theorem dX12_heaps_119 : decode mX12_heaps.2.1 119 = .ok (.iload 6, 2) := by decide +kernel
theorem dX12_heaps_121 : decode mX12_heaps.2.1 121 = .ok (.iload 7, 2) := by decide +kernel
theorem dX12_heaps_123 : decode mX12_heaps.2.1 123 = .ok (.iload_n 3, 1) := by decide +kernel
theorem dX12_heaps_124 : decode mX12_heaps.2.1 124 = .ok (.invokevirtual 587, 3) := by decide +kernel
theorem dX12_heaps_127 : decode mX12_heaps.2.1 127 = .ok (.istore 8, 2) := by decide +kernel
theorem dX12_heaps_129 : decode mX12_heaps.2.1 129 = .ok (.iload 4, 2) := by decide +kernel
theorem dX12_heaps_131 : decode mX12_heaps.2.1 131 = .ok (.ifCond .lt 13, 3) := by decide +kernel
theorem dX12_heaps_134 : decode mX12_heaps.2.1 134 = .ok (.iload 8, 2) := by decide +kernel
theorem dX12_heaps_136 : decode mX12_heaps.2.1 136 = .ok (.iload 5, 2) := by decide +kernel
theorem dX12_heaps_138 : decode mX12_heaps.2.1 138 = .ok (.if_icmp .lt 6, 3) := by decide +kernel
theorem dX12_heaps_141 : decode mX12_heaps.2.1 141 = .ok (.goto 17, 3) := by decide +kernel
theorem dX12_heaps_144 : decode mX12_heaps.2.1 144 = .ok (.bipush 32, 2) := by decide +kernel
theorem dX12_heaps_146 : decode mX12_heaps.2.1 146 = .ok (.iload 6, 2) := by decide +kernel
theorem dX12_heaps_148 : decode mX12_heaps.2.1 148 = .ok (.imul, 1) := by decide +kernel
theorem dX12_heaps_149 : decode mX12_heaps.2.1 149 = .ok (.iload 7, 2) := by decide +kernel
theorem dX12_heaps_151 : decode mX12_heaps.2.1 151 = .ok (.iadd, 1) := by decide +kernel
theorem dX12_heaps_152 : decode mX12_heaps.2.1 152 = .ok (.istore 4, 2) := by decide +kernel
theorem dX12_heaps_154 : decode mX12_heaps.2.1 154 = .ok (.iload 8, 2) := by decide +kernel
theorem dX12_heaps_156 : decode mX12_heaps.2.1 156 = .ok (.istore 5, 2) := by decide +kernel
theorem dX12_heaps_158 : decode mX12_heaps.2.1 158 = .ok (.iinc 7 1, 3) := by decide +kernel
theorem dX12_heaps_161 : decode mX12_heaps.2.1 161 = .ok (.goto (-65), 3) := by decide +kernel
theorem dX12_heaps_164 : decode mX12_heaps.2.1 164 = .ok (.iinc 6 1, 3) := by decide +kernel
theorem dX12_heaps_167 : decode mX12_heaps.2.1 167 = .ok (.goto (-85), 3) := by decide +kernel
theorem dX12_heaps_170 : decode mX12_heaps.2.1 170 = .ok (.iload_n 1, 1) := by decide +kernel
theorem dX12_heaps_171 : decode mX12_heaps.2.1 171 = .ok (.ifCond .ne 11, 3) := by decide +kernel
theorem dX12_heaps_174 : decode mX12_heaps.2.1 174 = .ok (.iload 4, 2) := by decide +kernel
theorem dX12_heaps_176 : decode mX12_heaps.2.1 176 = .ok (.bipush 32, 2) := by decide +kernel
theorem dX12_heaps_178 : decode mX12_heaps.2.1 178 = .ok (.idiv, 1) := by decide +kernel
theorem dX12_heaps_179 : decode mX12_heaps.2.1 179 = .ok (.goto 18, 3) := by decide +kernel
theorem dX12_heaps_182 : decode mX12_heaps.2.1 182 = .ok (.iload_n 1, 1) := by decide +kernel
theorem dX12_heaps_183 : decode mX12_heaps.2.1 183 = .ok (.iconst 1, 1) := by decide +kernel
theorem dX12_heaps_184 : decode mX12_heaps.2.1 184 = .ok (.if_icmp .ne 11, 3) := by decide +kernel
theorem dX12_heaps_187 : decode mX12_heaps.2.1 187 = .ok (.iload 4, 2) := by decide +kernel
theorem dX12_heaps_189 : decode mX12_heaps.2.1 189 = .ok (.bipush 32, 2) := by decide +kernel
theorem dX12_heaps_191 : decode mX12_heaps.2.1 191 = .ok (.irem, 1) := by decide +kernel
theorem dX12_heaps_192 : decode mX12_heaps.2.1 192 = .ok (.goto 5, 3) := by decide +kernel
theorem dX12_heaps_195 : decode mX12_heaps.2.1 195 = .ok (.iload 5, 2) := by decide +kernel
theorem dX12_heaps_197 : decode mX12_heaps.2.1 197 = .ok (.ireturn, 1) := by decide +kernel
theorem dX12_worstOf_0 : decode mX12_worstOf.2.1 0 = .ok (.iconst 0, 1) := by decide +kernel
theorem dX12_worstOf_1 : decode mX12_worstOf.2.1 1 = .ok (.istore 4, 2) := by decide +kernel
theorem dX12_worstOf_3 : decode mX12_worstOf.2.1 3 = .ok (.iload 4, 2) := by decide +kernel
theorem dX12_worstOf_5 : decode mX12_worstOf.2.1 5 = .ok (.iconst 3, 1) := by decide +kernel
theorem dX12_worstOf_6 : decode mX12_worstOf.2.1 6 = .ok (.if_icmp .ge 17, 3) := by decide +kernel
theorem dX12_worstOf_9 : decode mX12_worstOf.2.1 9 = .ok (.aload_n 0, 1) := by decide +kernel
theorem dX12_worstOf_10 : decode mX12_worstOf.2.1 10 = .ok (.getfield 185, 3) := by decide +kernel
theorem dX12_worstOf_13 : decode mX12_worstOf.2.1 13 = .ok (.iload 4, 2) := by decide +kernel
theorem dX12_worstOf_15 : decode mX12_worstOf.2.1 15 = .ok (.iconst 0, 1) := by decide +kernel
theorem dX12_worstOf_16 : decode mX12_worstOf.2.1 16 = .ok (.iastore, 1) := by decide +kernel
theorem dX12_worstOf_17 : decode mX12_worstOf.2.1 17 = .ok (.iinc 4 1, 3) := by decide +kernel
theorem dX12_worstOf_20 : decode mX12_worstOf.2.1 20 = .ok (.goto (-17), 3) := by decide +kernel
theorem dX12_worstOf_23 : decode mX12_worstOf.2.1 23 = .ok (.iconst 0, 1) := by decide +kernel
theorem dX12_worstOf_24 : decode mX12_worstOf.2.1 24 = .ok (.istore 4, 2) := by decide +kernel
theorem dX12_worstOf_26 : decode mX12_worstOf.2.1 26 = .ok (.iload 4, 2) := by decide +kernel
theorem dX12_worstOf_28 : decode mX12_worstOf.2.1 28 = .ok (.iload_n 3, 1) := by decide +kernel
theorem dX12_worstOf_29 : decode mX12_worstOf.2.1 29 = .ok (.if_icmp .ge 35, 3) := by decide +kernel
theorem dX12_worstOf_32 : decode mX12_worstOf.2.1 32 = .ok (.aload_n 0, 1) := by decide +kernel
theorem dX12_worstOf_33 : decode mX12_worstOf.2.1 33 = .ok (.aload_n 0, 1) := by decide +kernel
theorem dX12_worstOf_34 : decode mX12_worstOf.2.1 34 = .ok (.getfield 194, 3) := by decide +kernel
theorem dX12_worstOf_37 : decode mX12_worstOf.2.1 37 = .ok (.iload 4, 2) := by decide +kernel
theorem dX12_worstOf_39 : decode mX12_worstOf.2.1 39 = .ok (.iaload, 1) := by decide +kernel
theorem dX12_worstOf_40 : decode mX12_worstOf.2.1 40 = .ok (.invokevirtual 567, 3) := by decide +kernel
theorem dX12_worstOf_43 : decode mX12_worstOf.2.1 43 = .ok (.aload_n 0, 1) := by decide +kernel
theorem dX12_worstOf_44 : decode mX12_worstOf.2.1 44 = .ok (.getfield 185, 3) := by decide +kernel
theorem dX12_worstOf_47 : decode mX12_worstOf.2.1 47 = .ok (.aload_n 0, 1) := by decide +kernel
theorem dX12_worstOf_48 : decode mX12_worstOf.2.1 48 = .ok (.iload_n 1, 1) := by decide +kernel
theorem dX12_worstOf_49 : decode mX12_worstOf.2.1 49 = .ok (.iload_n 2, 1) := by decide +kernel
theorem dX12_worstOf_50 : decode mX12_worstOf.2.1 50 = .ok (.invokevirtual 561, 3) := by decide +kernel
theorem dX12_worstOf_53 : decode mX12_worstOf.2.1 53 = .ok (.dup2, 1) := by decide +kernel
theorem dX12_worstOf_54 : decode mX12_worstOf.2.1 54 = .ok (.iaload, 1) := by decide +kernel
theorem dX12_worstOf_55 : decode mX12_worstOf.2.1 55 = .ok (.iconst 1, 1) := by decide +kernel
theorem dX12_worstOf_56 : decode mX12_worstOf.2.1 56 = .ok (.iadd, 1) := by decide +kernel
theorem dX12_worstOf_57 : decode mX12_worstOf.2.1 57 = .ok (.iastore, 1) := by decide +kernel
theorem dX12_worstOf_58 : decode mX12_worstOf.2.1 58 = .ok (.iinc 4 1, 3) := by decide +kernel
theorem dX12_worstOf_61 : decode mX12_worstOf.2.1 61 = .ok (.goto (-35), 3) := by decide +kernel
theorem dX12_worstOf_64 : decode mX12_worstOf.2.1 64 = .ok (.iconst 0, 1) := by decide +kernel
theorem dX12_worstOf_65 : decode mX12_worstOf.2.1 65 = .ok (.istore 4, 2) := by decide +kernel
theorem dX12_worstOf_67 : decode mX12_worstOf.2.1 67 = .ok (.iconst 0, 1) := by decide +kernel
theorem dX12_worstOf_68 : decode mX12_worstOf.2.1 68 = .ok (.istore 5, 2) := by decide +kernel
theorem dX12_worstOf_70 : decode mX12_worstOf.2.1 70 = .ok (.iload 5, 2) := by decide +kernel
theorem dX12_worstOf_72 : decode mX12_worstOf.2.1 72 = .ok (.iconst 3, 1) := by decide +kernel
theorem dX12_worstOf_73 : decode mX12_worstOf.2.1 73 = .ok (.if_icmp .ge 35, 3) := by decide +kernel
theorem dX12_worstOf_76 : decode mX12_worstOf.2.1 76 = .ok (.aload_n 0, 1) := by decide +kernel
theorem dX12_worstOf_77 : decode mX12_worstOf.2.1 77 = .ok (.getfield 185, 3) := by decide +kernel
theorem dX12_worstOf_80 : decode mX12_worstOf.2.1 80 = .ok (.iload 5, 2) := by decide +kernel
theorem dX12_worstOf_82 : decode mX12_worstOf.2.1 82 = .ok (.iaload, 1) := by decide +kernel
theorem dX12_worstOf_83 : decode mX12_worstOf.2.1 83 = .ok (.iload 4, 2) := by decide +kernel
theorem dX12_worstOf_85 : decode mX12_worstOf.2.1 85 = .ok (.if_icmp .le 13, 3) := by decide +kernel
theorem dX12_worstOf_88 : decode mX12_worstOf.2.1 88 = .ok (.aload_n 0, 1) := by decide +kernel
theorem dX12_worstOf_89 : decode mX12_worstOf.2.1 89 = .ok (.getfield 185, 3) := by decide +kernel
theorem dX12_worstOf_92 : decode mX12_worstOf.2.1 92 = .ok (.iload 5, 2) := by decide +kernel
theorem dX12_worstOf_94 : decode mX12_worstOf.2.1 94 = .ok (.iaload, 1) := by decide +kernel
theorem dX12_worstOf_95 : decode mX12_worstOf.2.1 95 = .ok (.goto 5, 3) := by decide +kernel
theorem dX12_worstOf_98 : decode mX12_worstOf.2.1 98 = .ok (.iload 4, 2) := by decide +kernel
theorem dX12_worstOf_100 : decode mX12_worstOf.2.1 100 = .ok (.istore 4, 2) := by decide +kernel
theorem dX12_worstOf_102 : decode mX12_worstOf.2.1 102 = .ok (.iinc 5 1, 3) := by decide +kernel
theorem dX12_worstOf_105 : decode mX12_worstOf.2.1 105 = .ok (.goto (-35), 3) := by decide +kernel
theorem dX12_worstOf_108 : decode mX12_worstOf.2.1 108 = .ok (.iload 4, 2) := by decide +kernel
theorem dX12_worstOf_110 : decode mX12_worstOf.2.1 110 = .ok (.ireturn, 1) := by decide +kernel
theorem dX12_image_0 : decode mX12_image.2.1 0 = .ok (.iload_n 1, 1) := by decide +kernel
theorem dX12_image_1 : decode mX12_image.2.1 1 = .ok (.iconst 0, 1) := by decide +kernel
theorem dX12_image_2 : decode mX12_image.2.1 2 = .ok (.iconst 2, 1) := by decide +kernel
theorem dX12_image_3 : decode mX12_image.2.1 3 = .ok (.invokestatic 367, 3) := by decide +kernel
theorem dX12_image_6 : decode mX12_image.2.1 6 = .ok (.ifCond .ne 5, 3) := by decide +kernel
theorem dX12_image_9 : decode mX12_image.2.1 9 = .ok (.iconst (-1), 1) := by decide +kernel
theorem dX12_image_10 : decode mX12_image.2.1 10 = .ok (.ireturn, 1) := by decide +kernel
theorem dX12_image_11 : decode mX12_image.2.1 11 = .ok (.aload_n 0, 1) := by decide +kernel
theorem dX12_image_12 : decode mX12_image.2.1 12 = .ok (.getfield 197, 3) := by decide +kernel
theorem dX12_image_15 : decode mX12_image.2.1 15 = .ok (.iload_n 1, 1) := by decide +kernel
theorem dX12_image_16 : decode mX12_image.2.1 16 = .ok (.aload_n 0, 1) := by decide +kernel
theorem dX12_image_17 : decode mX12_image.2.1 17 = .ok (.getfield 304, 3) := by decide +kernel
theorem dX12_image_20 : decode mX12_image.2.1 20 = .ok (.iastore, 1) := by decide +kernel
theorem dX12_image_21 : decode mX12_image.2.1 21 = .ok (.aload_n 0, 1) := by decide +kernel
theorem dX12_image_22 : decode mX12_image.2.1 22 = .ok (.getfield 200, 3) := by decide +kernel
theorem dX12_image_25 : decode mX12_image.2.1 25 = .ok (.iload_n 1, 1) := by decide +kernel
theorem dX12_image_26 : decode mX12_image.2.1 26 = .ok (.aload_n 0, 1) := by decide +kernel
theorem dX12_image_27 : decode mX12_image.2.1 27 = .ok (.getfield 377, 3) := by decide +kernel
theorem dX12_image_30 : decode mX12_image.2.1 30 = .ok (.iastore, 1) := by decide +kernel
theorem dX12_image_31 : decode mX12_image.2.1 31 = .ok (.aload_n 0, 1) := by decide +kernel
theorem dX12_image_32 : decode mX12_image.2.1 32 = .ok (.getfield 206, 3) := by decide +kernel
theorem dX12_image_35 : decode mX12_image.2.1 35 = .ok (.iload_n 1, 1) := by decide +kernel
theorem dX12_image_36 : decode mX12_image.2.1 36 = .ok (.aload_n 0, 1) := by decide +kernel
theorem dX12_image_37 : decode mX12_image.2.1 37 = .ok (.getfield 307, 3) := by decide +kernel
theorem dX12_image_40 : decode mX12_image.2.1 40 = .ok (.iastore, 1) := by decide +kernel
theorem dX12_image_41 : decode mX12_image.2.1 41 = .ok (.aload_n 0, 1) := by decide +kernel
theorem dX12_image_42 : decode mX12_image.2.1 42 = .ok (.getfield 209, 3) := by decide +kernel
theorem dX12_image_45 : decode mX12_image.2.1 45 = .ok (.iload_n 1, 1) := by decide +kernel
theorem dX12_image_46 : decode mX12_image.2.1 46 = .ok (.aload_n 0, 1) := by decide +kernel
theorem dX12_image_47 : decode mX12_image.2.1 47 = .ok (.getfield 310, 3) := by decide +kernel
theorem dX12_image_50 : decode mX12_image.2.1 50 = .ok (.iastore, 1) := by decide +kernel
theorem dX12_image_51 : decode mX12_image.2.1 51 = .ok (.iconst 0, 1) := by decide +kernel
theorem dX12_image_52 : decode mX12_image.2.1 52 = .ok (.istore_n 2, 1) := by decide +kernel
theorem dX12_image_53 : decode mX12_image.2.1 53 = .ok (.iload_n 2, 1) := by decide +kernel
theorem dX12_image_54 : decode mX12_image.2.1 54 = .ok (.iconst 5, 1) := by decide +kernel
theorem dX12_image_55 : decode mX12_image.2.1 55 = .ok (.if_icmp .ge 25, 3) := by decide +kernel
theorem dX12_image_58 : decode mX12_image.2.1 58 = .ok (.aload_n 0, 1) := by decide +kernel
theorem dX12_image_59 : decode mX12_image.2.1 59 = .ok (.getfield 212, 3) := by decide +kernel
theorem dX12_image_62 : decode mX12_image.2.1 62 = .ok (.iconst 5, 1) := by decide +kernel
theorem dX12_image_63 : decode mX12_image.2.1 63 = .ok (.iload_n 1, 1) := by decide +kernel
theorem dX12_image_64 : decode mX12_image.2.1 64 = .ok (.imul, 1) := by decide +kernel
theorem dX12_image_65 : decode mX12_image.2.1 65 = .ok (.iload_n 2, 1) := by decide +kernel
theorem dX12_image_66 : decode mX12_image.2.1 66 = .ok (.iadd, 1) := by decide +kernel
theorem dX12_image_67 : decode mX12_image.2.1 67 = .ok (.aload_n 0, 1) := by decide +kernel
theorem dX12_image_68 : decode mX12_image.2.1 68 = .ok (.getfield 104, 3) := by decide +kernel
theorem dX12_image_71 : decode mX12_image.2.1 71 = .ok (.iload_n 2, 1) := by decide +kernel
theorem dX12_image_72 : decode mX12_image.2.1 72 = .ok (.iaload, 1) := by decide +kernel
theorem dX12_image_73 : decode mX12_image.2.1 73 = .ok (.iastore, 1) := by decide +kernel
theorem dX12_image_74 : decode mX12_image.2.1 74 = .ok (.iinc 2 1, 3) := by decide +kernel
theorem dX12_image_77 : decode mX12_image.2.1 77 = .ok (.goto (-24), 3) := by decide +kernel
theorem dX12_image_80 : decode mX12_image.2.1 80 = .ok (.iconst 0, 1) := by decide +kernel
theorem dX12_image_81 : decode mX12_image.2.1 81 = .ok (.istore_n 2, 1) := by decide +kernel
theorem dX12_image_82 : decode mX12_image.2.1 82 = .ok (.iload_n 2, 1) := by decide +kernel
theorem dX12_image_83 : decode mX12_image.2.1 83 = .ok (.aload_n 0, 1) := by decide +kernel
theorem dX12_image_84 : decode mX12_image.2.1 84 = .ok (.getfield 307, 3) := by decide +kernel
theorem dX12_image_87 : decode mX12_image.2.1 87 = .ok (.if_icmp .ge 46, 3) := by decide +kernel
theorem dX12_image_90 : decode mX12_image.2.1 90 = .ok (.aload_n 0, 1) := by decide +kernel
theorem dX12_image_91 : decode mX12_image.2.1 91 = .ok (.getfield 215, 3) := by decide +kernel
theorem dX12_image_94 : decode mX12_image.2.1 94 = .ok (.bipush 80, 2) := by decide +kernel
theorem dX12_image_96 : decode mX12_image.2.1 96 = .ok (.iload_n 1, 1) := by decide +kernel
theorem dX12_image_97 : decode mX12_image.2.1 97 = .ok (.imul, 1) := by decide +kernel
theorem dX12_image_98 : decode mX12_image.2.1 98 = .ok (.iload_n 2, 1) := by decide +kernel
theorem dX12_image_99 : decode mX12_image.2.1 99 = .ok (.iadd, 1) := by decide +kernel
theorem dX12_image_100 : decode mX12_image.2.1 100 = .ok (.aload_n 0, 1) := by decide +kernel
theorem dX12_image_101 : decode mX12_image.2.1 101 = .ok (.getfield 98, 3) := by decide +kernel
theorem dX12_image_104 : decode mX12_image.2.1 104 = .ok (.iload_n 2, 1) := by decide +kernel
theorem dX12_image_105 : decode mX12_image.2.1 105 = .ok (.iaload, 1) := by decide +kernel
theorem dX12_image_106 : decode mX12_image.2.1 106 = .ok (.iastore, 1) := by decide +kernel
theorem dX12_image_107 : decode mX12_image.2.1 107 = .ok (.aload_n 0, 1) := by decide +kernel
theorem dX12_image_108 : decode mX12_image.2.1 108 = .ok (.getfield 215, 3) := by decide +kernel
theorem dX12_image_111 : decode mX12_image.2.1 111 = .ok (.bipush 80, 2) := by decide +kernel
theorem dX12_image_113 : decode mX12_image.2.1 113 = .ok (.iload_n 1, 1) := by decide +kernel
theorem dX12_image_114 : decode mX12_image.2.1 114 = .ok (.imul, 1) := by decide +kernel
theorem dX12_image_115 : decode mX12_image.2.1 115 = .ok (.bipush 40, 2) := by decide +kernel
theorem dX12_image_117 : decode mX12_image.2.1 117 = .ok (.iadd, 1) := by decide +kernel
theorem dX12_image_118 : decode mX12_image.2.1 118 = .ok (.iload_n 2, 1) := by decide +kernel
theorem dX12_image_119 : decode mX12_image.2.1 119 = .ok (.iadd, 1) := by decide +kernel
theorem dX12_image_120 : decode mX12_image.2.1 120 = .ok (.aload_n 0, 1) := by decide +kernel
theorem dX12_image_121 : decode mX12_image.2.1 121 = .ok (.getfield 101, 3) := by decide +kernel
theorem dX12_image_124 : decode mX12_image.2.1 124 = .ok (.iload_n 2, 1) := by decide +kernel
theorem dX12_image_125 : decode mX12_image.2.1 125 = .ok (.iaload, 1) := by decide +kernel
theorem dX12_image_126 : decode mX12_image.2.1 126 = .ok (.iastore, 1) := by decide +kernel
theorem dX12_image_127 : decode mX12_image.2.1 127 = .ok (.iinc 2 1, 3) := by decide +kernel
theorem dX12_image_130 : decode mX12_image.2.1 130 = .ok (.goto (-48), 3) := by decide +kernel
theorem dX12_image_133 : decode mX12_image.2.1 133 = .ok (.iconst 0, 1) := by decide +kernel
theorem dX12_image_134 : decode mX12_image.2.1 134 = .ok (.istore_n 2, 1) := by decide +kernel
theorem dX12_image_135 : decode mX12_image.2.1 135 = .ok (.iload_n 2, 1) := by decide +kernel
theorem dX12_image_136 : decode mX12_image.2.1 136 = .ok (.aload_n 0, 1) := by decide +kernel
theorem dX12_image_137 : decode mX12_image.2.1 137 = .ok (.getfield 304, 3) := by decide +kernel
theorem dX12_image_140 : decode mX12_image.2.1 140 = .ok (.if_icmp .ge 87, 3) := by decide +kernel
theorem dX12_image_143 : decode mX12_image.2.1 143 = .ok (.sipush 300, 3) := by decide +kernel
theorem dX12_image_146 : decode mX12_image.2.1 146 = .ok (.iload_n 1, 1) := by decide +kernel
theorem dX12_image_147 : decode mX12_image.2.1 147 = .ok (.imul, 1) := by decide +kernel
theorem dX12_image_148 : decode mX12_image.2.1 148 = .ok (.iconst 5, 1) := by decide +kernel
theorem dX12_image_149 : decode mX12_image.2.1 149 = .ok (.iload_n 2, 1) := by decide +kernel
theorem dX12_image_150 : decode mX12_image.2.1 150 = .ok (.imul, 1) := by decide +kernel
theorem dX12_image_151 : decode mX12_image.2.1 151 = .ok (.iadd, 1) := by decide +kernel
theorem dX12_image_152 : decode mX12_image.2.1 152 = .ok (.istore_n 3, 1) := by decide +kernel
theorem dX12_image_153 : decode mX12_image.2.1 153 = .ok (.aload_n 0, 1) := by decide +kernel
theorem dX12_image_154 : decode mX12_image.2.1 154 = .ok (.getfield 203, 3) := by decide +kernel
theorem dX12_image_157 : decode mX12_image.2.1 157 = .ok (.iload_n 3, 1) := by decide +kernel
theorem dX12_image_158 : decode mX12_image.2.1 158 = .ok (.aload_n 0, 1) := by decide +kernel
theorem dX12_image_159 : decode mX12_image.2.1 159 = .ok (.getfield 83, 3) := by decide +kernel
theorem dX12_image_162 : decode mX12_image.2.1 162 = .ok (.iload_n 2, 1) := by decide +kernel
theorem dX12_image_163 : decode mX12_image.2.1 163 = .ok (.iaload, 1) := by decide +kernel
theorem dX12_image_164 : decode mX12_image.2.1 164 = .ok (.iastore, 1) := by decide +kernel
theorem dX12_image_165 : decode mX12_image.2.1 165 = .ok (.aload_n 0, 1) := by decide +kernel
theorem dX12_image_166 : decode mX12_image.2.1 166 = .ok (.getfield 203, 3) := by decide +kernel
theorem dX12_image_169 : decode mX12_image.2.1 169 = .ok (.iload_n 3, 1) := by decide +kernel
theorem dX12_image_170 : decode mX12_image.2.1 170 = .ok (.iconst 1, 1) := by decide +kernel
theorem dX12_image_171 : decode mX12_image.2.1 171 = .ok (.iadd, 1) := by decide +kernel
theorem dX12_image_172 : decode mX12_image.2.1 172 = .ok (.aload_n 0, 1) := by decide +kernel
theorem dX12_image_173 : decode mX12_image.2.1 173 = .ok (.getfield 86, 3) := by decide +kernel
theorem dX12_image_176 : decode mX12_image.2.1 176 = .ok (.iload_n 2, 1) := by decide +kernel
theorem dX12_image_177 : decode mX12_image.2.1 177 = .ok (.iaload, 1) := by decide +kernel
theorem dX12_image_178 : decode mX12_image.2.1 178 = .ok (.iastore, 1) := by decide +kernel
theorem dX12_image_179 : decode mX12_image.2.1 179 = .ok (.aload_n 0, 1) := by decide +kernel
theorem dX12_image_180 : decode mX12_image.2.1 180 = .ok (.getfield 203, 3) := by decide +kernel
theorem dX12_image_183 : decode mX12_image.2.1 183 = .ok (.iload_n 3, 1) := by decide +kernel
theorem dX12_image_184 : decode mX12_image.2.1 184 = .ok (.iconst 2, 1) := by decide +kernel
theorem dX12_image_185 : decode mX12_image.2.1 185 = .ok (.iadd, 1) := by decide +kernel
theorem dX12_image_186 : decode mX12_image.2.1 186 = .ok (.aload_n 0, 1) := by decide +kernel
theorem dX12_image_187 : decode mX12_image.2.1 187 = .ok (.getfield 89, 3) := by decide +kernel
theorem dX12_image_190 : decode mX12_image.2.1 190 = .ok (.iload_n 2, 1) := by decide +kernel
theorem dX12_image_191 : decode mX12_image.2.1 191 = .ok (.iaload, 1) := by decide +kernel
theorem dX12_image_192 : decode mX12_image.2.1 192 = .ok (.iastore, 1) := by decide +kernel
theorem dX12_image_193 : decode mX12_image.2.1 193 = .ok (.aload_n 0, 1) := by decide +kernel
theorem dX12_image_194 : decode mX12_image.2.1 194 = .ok (.getfield 203, 3) := by decide +kernel
theorem dX12_image_197 : decode mX12_image.2.1 197 = .ok (.iload_n 3, 1) := by decide +kernel
theorem dX12_image_198 : decode mX12_image.2.1 198 = .ok (.iconst 3, 1) := by decide +kernel
theorem dX12_image_199 : decode mX12_image.2.1 199 = .ok (.iadd, 1) := by decide +kernel
theorem dX12_image_200 : decode mX12_image.2.1 200 = .ok (.aload_n 0, 1) := by decide +kernel
theorem dX12_image_201 : decode mX12_image.2.1 201 = .ok (.getfield 92, 3) := by decide +kernel
theorem dX12_image_204 : decode mX12_image.2.1 204 = .ok (.iload_n 2, 1) := by decide +kernel
theorem dX12_image_205 : decode mX12_image.2.1 205 = .ok (.iaload, 1) := by decide +kernel
theorem dX12_image_206 : decode mX12_image.2.1 206 = .ok (.iastore, 1) := by decide +kernel
theorem dX12_image_207 : decode mX12_image.2.1 207 = .ok (.aload_n 0, 1) := by decide +kernel
theorem dX12_image_208 : decode mX12_image.2.1 208 = .ok (.getfield 203, 3) := by decide +kernel
theorem dX12_image_211 : decode mX12_image.2.1 211 = .ok (.iload_n 3, 1) := by decide +kernel
theorem dX12_image_212 : decode mX12_image.2.1 212 = .ok (.iconst 4, 1) := by decide +kernel
theorem dX12_image_213 : decode mX12_image.2.1 213 = .ok (.iadd, 1) := by decide +kernel
theorem dX12_image_214 : decode mX12_image.2.1 214 = .ok (.aload_n 0, 1) := by decide +kernel
theorem dX12_image_215 : decode mX12_image.2.1 215 = .ok (.getfield 95, 3) := by decide +kernel
theorem dX12_image_218 : decode mX12_image.2.1 218 = .ok (.iload_n 2, 1) := by decide +kernel
theorem dX12_image_219 : decode mX12_image.2.1 219 = .ok (.iaload, 1) := by decide +kernel
theorem dX12_image_220 : decode mX12_image.2.1 220 = .ok (.iastore, 1) := by decide +kernel
theorem dX12_image_221 : decode mX12_image.2.1 221 = .ok (.iinc 2 1, 3) := by decide +kernel
theorem dX12_image_224 : decode mX12_image.2.1 224 = .ok (.goto (-89), 3) := by decide +kernel
theorem dX12_image_227 : decode mX12_image.2.1 227 = .ok (.aload_n 0, 1) := by decide +kernel
theorem dX12_image_228 : decode mX12_image.2.1 228 = .ok (.getfield 304, 3) := by decide +kernel
theorem dX12_image_231 : decode mX12_image.2.1 231 = .ok (.ireturn, 1) := by decide +kernel
theorem dX12_back_0 : decode mX12_back.2.1 0 = .ok (.iload_n 1, 1) := by decide +kernel
theorem dX12_back_1 : decode mX12_back.2.1 1 = .ok (.iconst 0, 1) := by decide +kernel
theorem dX12_back_2 : decode mX12_back.2.1 2 = .ok (.iconst 2, 1) := by decide +kernel
theorem dX12_back_3 : decode mX12_back.2.1 3 = .ok (.invokestatic 367, 3) := by decide +kernel
theorem dX12_back_6 : decode mX12_back.2.1 6 = .ok (.ifCond .eq 12, 3) := by decide +kernel
theorem dX12_back_9 : decode mX12_back.2.1 9 = .ok (.aload_n 0, 1) := by decide +kernel
theorem dX12_back_10 : decode mX12_back.2.1 10 = .ok (.getfield 197, 3) := by decide +kernel
theorem dX12_back_13 : decode mX12_back.2.1 13 = .ok (.iload_n 1, 1) := by decide +kernel
theorem dX12_back_14 : decode mX12_back.2.1 14 = .ok (.iaload, 1) := by decide +kernel
theorem dX12_back_15 : decode mX12_back.2.1 15 = .ok (.ifCond .ge 5, 3) := by decide +kernel
theorem dX12_back_18 : decode mX12_back.2.1 18 = .ok (.iconst (-1), 1) := by decide +kernel
theorem dX12_back_19 : decode mX12_back.2.1 19 = .ok (.ireturn, 1) := by decide +kernel
theorem dX12_back_20 : decode mX12_back.2.1 20 = .ok (.aload_n 0, 1) := by decide +kernel
theorem dX12_back_21 : decode mX12_back.2.1 21 = .ok (.aload_n 0, 1) := by decide +kernel
theorem dX12_back_22 : decode mX12_back.2.1 22 = .ok (.getfield 197, 3) := by decide +kernel
theorem dX12_back_25 : decode mX12_back.2.1 25 = .ok (.iload_n 1, 1) := by decide +kernel
theorem dX12_back_26 : decode mX12_back.2.1 26 = .ok (.iaload, 1) := by decide +kernel
theorem dX12_back_27 : decode mX12_back.2.1 27 = .ok (.putfield 304, 3) := by decide +kernel
theorem dX12_back_30 : decode mX12_back.2.1 30 = .ok (.aload_n 0, 1) := by decide +kernel
theorem dX12_back_31 : decode mX12_back.2.1 31 = .ok (.aload_n 0, 1) := by decide +kernel
theorem dX12_back_32 : decode mX12_back.2.1 32 = .ok (.getfield 200, 3) := by decide +kernel
theorem dX12_back_35 : decode mX12_back.2.1 35 = .ok (.iload_n 1, 1) := by decide +kernel
theorem dX12_back_36 : decode mX12_back.2.1 36 = .ok (.iaload, 1) := by decide +kernel
theorem dX12_back_37 : decode mX12_back.2.1 37 = .ok (.putfield 377, 3) := by decide +kernel
theorem dX12_back_40 : decode mX12_back.2.1 40 = .ok (.aload_n 0, 1) := by decide +kernel
theorem dX12_back_41 : decode mX12_back.2.1 41 = .ok (.aload_n 0, 1) := by decide +kernel
theorem dX12_back_42 : decode mX12_back.2.1 42 = .ok (.getfield 206, 3) := by decide +kernel
theorem dX12_back_45 : decode mX12_back.2.1 45 = .ok (.iload_n 1, 1) := by decide +kernel
theorem dX12_back_46 : decode mX12_back.2.1 46 = .ok (.iaload, 1) := by decide +kernel
theorem dX12_back_47 : decode mX12_back.2.1 47 = .ok (.putfield 307, 3) := by decide +kernel
theorem dX12_back_50 : decode mX12_back.2.1 50 = .ok (.aload_n 0, 1) := by decide +kernel
theorem dX12_back_51 : decode mX12_back.2.1 51 = .ok (.aload_n 0, 1) := by decide +kernel
theorem dX12_back_52 : decode mX12_back.2.1 52 = .ok (.getfield 209, 3) := by decide +kernel
theorem dX12_back_55 : decode mX12_back.2.1 55 = .ok (.iload_n 1, 1) := by decide +kernel
theorem dX12_back_56 : decode mX12_back.2.1 56 = .ok (.iaload, 1) := by decide +kernel
theorem dX12_back_57 : decode mX12_back.2.1 57 = .ok (.putfield 310, 3) := by decide +kernel
theorem dX12_back_60 : decode mX12_back.2.1 60 = .ok (.iconst 0, 1) := by decide +kernel
theorem dX12_back_61 : decode mX12_back.2.1 61 = .ok (.istore_n 2, 1) := by decide +kernel
theorem dX12_back_62 : decode mX12_back.2.1 62 = .ok (.iload_n 2, 1) := by decide +kernel
theorem dX12_back_63 : decode mX12_back.2.1 63 = .ok (.iconst 5, 1) := by decide +kernel
theorem dX12_back_64 : decode mX12_back.2.1 64 = .ok (.if_icmp .ge 25, 3) := by decide +kernel
theorem dX12_back_67 : decode mX12_back.2.1 67 = .ok (.aload_n 0, 1) := by decide +kernel
theorem dX12_back_68 : decode mX12_back.2.1 68 = .ok (.getfield 104, 3) := by decide +kernel
theorem dX12_back_71 : decode mX12_back.2.1 71 = .ok (.iload_n 2, 1) := by decide +kernel
theorem dX12_back_72 : decode mX12_back.2.1 72 = .ok (.aload_n 0, 1) := by decide +kernel
theorem dX12_back_73 : decode mX12_back.2.1 73 = .ok (.getfield 212, 3) := by decide +kernel
theorem dX12_back_76 : decode mX12_back.2.1 76 = .ok (.iconst 5, 1) := by decide +kernel
theorem dX12_back_77 : decode mX12_back.2.1 77 = .ok (.iload_n 1, 1) := by decide +kernel
theorem dX12_back_78 : decode mX12_back.2.1 78 = .ok (.imul, 1) := by decide +kernel
theorem dX12_back_79 : decode mX12_back.2.1 79 = .ok (.iload_n 2, 1) := by decide +kernel
theorem dX12_back_80 : decode mX12_back.2.1 80 = .ok (.iadd, 1) := by decide +kernel
theorem dX12_back_81 : decode mX12_back.2.1 81 = .ok (.iaload, 1) := by decide +kernel
theorem dX12_back_82 : decode mX12_back.2.1 82 = .ok (.iastore, 1) := by decide +kernel
theorem dX12_back_83 : decode mX12_back.2.1 83 = .ok (.iinc 2 1, 3) := by decide +kernel
theorem dX12_back_86 : decode mX12_back.2.1 86 = .ok (.goto (-24), 3) := by decide +kernel
theorem dX12_back_89 : decode mX12_back.2.1 89 = .ok (.iconst 0, 1) := by decide +kernel
theorem dX12_back_90 : decode mX12_back.2.1 90 = .ok (.istore_n 2, 1) := by decide +kernel
theorem dX12_back_91 : decode mX12_back.2.1 91 = .ok (.iload_n 2, 1) := by decide +kernel
theorem dX12_back_92 : decode mX12_back.2.1 92 = .ok (.aload_n 0, 1) := by decide +kernel
theorem dX12_back_93 : decode mX12_back.2.1 93 = .ok (.getfield 307, 3) := by decide +kernel
theorem dX12_back_96 : decode mX12_back.2.1 96 = .ok (.if_icmp .ge 46, 3) := by decide +kernel
theorem dX12_back_99 : decode mX12_back.2.1 99 = .ok (.aload_n 0, 1) := by decide +kernel
theorem dX12_back_100 : decode mX12_back.2.1 100 = .ok (.getfield 98, 3) := by decide +kernel
theorem dX12_back_103 : decode mX12_back.2.1 103 = .ok (.iload_n 2, 1) := by decide +kernel
theorem dX12_back_104 : decode mX12_back.2.1 104 = .ok (.aload_n 0, 1) := by decide +kernel
theorem dX12_back_105 : decode mX12_back.2.1 105 = .ok (.getfield 215, 3) := by decide +kernel
theorem dX12_back_108 : decode mX12_back.2.1 108 = .ok (.bipush 80, 2) := by decide +kernel
theorem dX12_back_110 : decode mX12_back.2.1 110 = .ok (.iload_n 1, 1) := by decide +kernel
theorem dX12_back_111 : decode mX12_back.2.1 111 = .ok (.imul, 1) := by decide +kernel
theorem dX12_back_112 : decode mX12_back.2.1 112 = .ok (.iload_n 2, 1) := by decide +kernel
theorem dX12_back_113 : decode mX12_back.2.1 113 = .ok (.iadd, 1) := by decide +kernel
theorem dX12_back_114 : decode mX12_back.2.1 114 = .ok (.iaload, 1) := by decide +kernel
theorem dX12_back_115 : decode mX12_back.2.1 115 = .ok (.iastore, 1) := by decide +kernel
theorem dX12_back_116 : decode mX12_back.2.1 116 = .ok (.aload_n 0, 1) := by decide +kernel
theorem dX12_back_117 : decode mX12_back.2.1 117 = .ok (.getfield 101, 3) := by decide +kernel
theorem dX12_back_120 : decode mX12_back.2.1 120 = .ok (.iload_n 2, 1) := by decide +kernel
theorem dX12_back_121 : decode mX12_back.2.1 121 = .ok (.aload_n 0, 1) := by decide +kernel
theorem dX12_back_122 : decode mX12_back.2.1 122 = .ok (.getfield 215, 3) := by decide +kernel
theorem dX12_back_125 : decode mX12_back.2.1 125 = .ok (.bipush 80, 2) := by decide +kernel
theorem dX12_back_127 : decode mX12_back.2.1 127 = .ok (.iload_n 1, 1) := by decide +kernel
theorem dX12_back_128 : decode mX12_back.2.1 128 = .ok (.imul, 1) := by decide +kernel
theorem dX12_back_129 : decode mX12_back.2.1 129 = .ok (.bipush 40, 2) := by decide +kernel
theorem dX12_back_131 : decode mX12_back.2.1 131 = .ok (.iadd, 1) := by decide +kernel
theorem dX12_back_132 : decode mX12_back.2.1 132 = .ok (.iload_n 2, 1) := by decide +kernel
theorem dX12_back_133 : decode mX12_back.2.1 133 = .ok (.iadd, 1) := by decide +kernel
theorem dX12_back_134 : decode mX12_back.2.1 134 = .ok (.iaload, 1) := by decide +kernel
theorem dX12_back_135 : decode mX12_back.2.1 135 = .ok (.iastore, 1) := by decide +kernel
theorem dX12_back_136 : decode mX12_back.2.1 136 = .ok (.iinc 2 1, 3) := by decide +kernel
theorem dX12_back_139 : decode mX12_back.2.1 139 = .ok (.goto (-48), 3) := by decide +kernel
theorem dX12_back_142 : decode mX12_back.2.1 142 = .ok (.iconst 0, 1) := by decide +kernel
theorem dX12_back_143 : decode mX12_back.2.1 143 = .ok (.istore_n 2, 1) := by decide +kernel
theorem dX12_back_144 : decode mX12_back.2.1 144 = .ok (.iload_n 2, 1) := by decide +kernel
theorem dX12_back_145 : decode mX12_back.2.1 145 = .ok (.aload_n 0, 1) := by decide +kernel
theorem dX12_back_146 : decode mX12_back.2.1 146 = .ok (.getfield 304, 3) := by decide +kernel
theorem dX12_back_149 : decode mX12_back.2.1 149 = .ok (.if_icmp .ge 87, 3) := by decide +kernel
theorem dX12_back_152 : decode mX12_back.2.1 152 = .ok (.sipush 300, 3) := by decide +kernel
theorem dX12_back_155 : decode mX12_back.2.1 155 = .ok (.iload_n 1, 1) := by decide +kernel
theorem dX12_back_156 : decode mX12_back.2.1 156 = .ok (.imul, 1) := by decide +kernel
theorem dX12_back_157 : decode mX12_back.2.1 157 = .ok (.iconst 5, 1) := by decide +kernel
theorem dX12_back_158 : decode mX12_back.2.1 158 = .ok (.iload_n 2, 1) := by decide +kernel
theorem dX12_back_159 : decode mX12_back.2.1 159 = .ok (.imul, 1) := by decide +kernel
theorem dX12_back_160 : decode mX12_back.2.1 160 = .ok (.iadd, 1) := by decide +kernel
theorem dX12_back_161 : decode mX12_back.2.1 161 = .ok (.istore_n 3, 1) := by decide +kernel
theorem dX12_back_162 : decode mX12_back.2.1 162 = .ok (.aload_n 0, 1) := by decide +kernel
theorem dX12_back_163 : decode mX12_back.2.1 163 = .ok (.getfield 83, 3) := by decide +kernel
theorem dX12_back_166 : decode mX12_back.2.1 166 = .ok (.iload_n 2, 1) := by decide +kernel
theorem dX12_back_167 : decode mX12_back.2.1 167 = .ok (.aload_n 0, 1) := by decide +kernel
theorem dX12_back_168 : decode mX12_back.2.1 168 = .ok (.getfield 203, 3) := by decide +kernel
theorem dX12_back_171 : decode mX12_back.2.1 171 = .ok (.iload_n 3, 1) := by decide +kernel
theorem dX12_back_172 : decode mX12_back.2.1 172 = .ok (.iaload, 1) := by decide +kernel
theorem dX12_back_173 : decode mX12_back.2.1 173 = .ok (.iastore, 1) := by decide +kernel
theorem dX12_back_174 : decode mX12_back.2.1 174 = .ok (.aload_n 0, 1) := by decide +kernel
theorem dX12_back_175 : decode mX12_back.2.1 175 = .ok (.getfield 86, 3) := by decide +kernel
theorem dX12_back_178 : decode mX12_back.2.1 178 = .ok (.iload_n 2, 1) := by decide +kernel
theorem dX12_back_179 : decode mX12_back.2.1 179 = .ok (.aload_n 0, 1) := by decide +kernel
theorem dX12_back_180 : decode mX12_back.2.1 180 = .ok (.getfield 203, 3) := by decide +kernel
theorem dX12_back_183 : decode mX12_back.2.1 183 = .ok (.iload_n 3, 1) := by decide +kernel
theorem dX12_back_184 : decode mX12_back.2.1 184 = .ok (.iconst 1, 1) := by decide +kernel
theorem dX12_back_185 : decode mX12_back.2.1 185 = .ok (.iadd, 1) := by decide +kernel
theorem dX12_back_186 : decode mX12_back.2.1 186 = .ok (.iaload, 1) := by decide +kernel
theorem dX12_back_187 : decode mX12_back.2.1 187 = .ok (.iastore, 1) := by decide +kernel
theorem dX12_back_188 : decode mX12_back.2.1 188 = .ok (.aload_n 0, 1) := by decide +kernel
theorem dX12_back_189 : decode mX12_back.2.1 189 = .ok (.getfield 89, 3) := by decide +kernel
theorem dX12_back_192 : decode mX12_back.2.1 192 = .ok (.iload_n 2, 1) := by decide +kernel
theorem dX12_back_193 : decode mX12_back.2.1 193 = .ok (.aload_n 0, 1) := by decide +kernel
theorem dX12_back_194 : decode mX12_back.2.1 194 = .ok (.getfield 203, 3) := by decide +kernel
theorem dX12_back_197 : decode mX12_back.2.1 197 = .ok (.iload_n 3, 1) := by decide +kernel
theorem dX12_back_198 : decode mX12_back.2.1 198 = .ok (.iconst 2, 1) := by decide +kernel
theorem dX12_back_199 : decode mX12_back.2.1 199 = .ok (.iadd, 1) := by decide +kernel
theorem dX12_back_200 : decode mX12_back.2.1 200 = .ok (.iaload, 1) := by decide +kernel
theorem dX12_back_201 : decode mX12_back.2.1 201 = .ok (.iastore, 1) := by decide +kernel
theorem dX12_back_202 : decode mX12_back.2.1 202 = .ok (.aload_n 0, 1) := by decide +kernel
theorem dX12_back_203 : decode mX12_back.2.1 203 = .ok (.getfield 92, 3) := by decide +kernel
theorem dX12_back_206 : decode mX12_back.2.1 206 = .ok (.iload_n 2, 1) := by decide +kernel
theorem dX12_back_207 : decode mX12_back.2.1 207 = .ok (.aload_n 0, 1) := by decide +kernel
theorem dX12_back_208 : decode mX12_back.2.1 208 = .ok (.getfield 203, 3) := by decide +kernel
theorem dX12_back_211 : decode mX12_back.2.1 211 = .ok (.iload_n 3, 1) := by decide +kernel
theorem dX12_back_212 : decode mX12_back.2.1 212 = .ok (.iconst 3, 1) := by decide +kernel
theorem dX12_back_213 : decode mX12_back.2.1 213 = .ok (.iadd, 1) := by decide +kernel
theorem dX12_back_214 : decode mX12_back.2.1 214 = .ok (.iaload, 1) := by decide +kernel
theorem dX12_back_215 : decode mX12_back.2.1 215 = .ok (.iastore, 1) := by decide +kernel
theorem dX12_back_216 : decode mX12_back.2.1 216 = .ok (.aload_n 0, 1) := by decide +kernel
theorem dX12_back_217 : decode mX12_back.2.1 217 = .ok (.getfield 95, 3) := by decide +kernel
theorem dX12_back_220 : decode mX12_back.2.1 220 = .ok (.iload_n 2, 1) := by decide +kernel
theorem dX12_back_221 : decode mX12_back.2.1 221 = .ok (.aload_n 0, 1) := by decide +kernel
theorem dX12_back_222 : decode mX12_back.2.1 222 = .ok (.getfield 203, 3) := by decide +kernel
theorem dX12_back_225 : decode mX12_back.2.1 225 = .ok (.iload_n 3, 1) := by decide +kernel
theorem dX12_back_226 : decode mX12_back.2.1 226 = .ok (.iconst 4, 1) := by decide +kernel
theorem dX12_back_227 : decode mX12_back.2.1 227 = .ok (.iadd, 1) := by decide +kernel
theorem dX12_back_228 : decode mX12_back.2.1 228 = .ok (.iaload, 1) := by decide +kernel
theorem dX12_back_229 : decode mX12_back.2.1 229 = .ok (.iastore, 1) := by decide +kernel
theorem dX12_back_230 : decode mX12_back.2.1 230 = .ok (.iinc 2 1, 3) := by decide +kernel
theorem dX12_back_233 : decode mX12_back.2.1 233 = .ok (.goto (-89), 3) := by decide +kernel
theorem dX12_back_236 : decode mX12_back.2.1 236 = .ok (.aload_n 0, 1) := by decide +kernel
theorem dX12_back_237 : decode mX12_back.2.1 237 = .ok (.getfield 304, 3) := by decide +kernel
theorem dX12_back_240 : decode mX12_back.2.1 240 = .ok (.ireturn, 1) := by decide +kernel
theorem dX12_about_0 : decode mX12_about.2.1 0 = .ok (.iload_n 1, 1) := by decide +kernel
theorem dX12_about_1 : decode mX12_about.2.1 1 = .ok (.tableswitch 133 0 9 #[55, 60, 78, 88, 93, 98, 103, 108, 118, 128], 55) := by decide +kernel
theorem dX12_about_56 : decode mX12_about.2.1 56 = .ok (.aload_n 0, 1) := by decide +kernel
theorem dX12_about_57 : decode mX12_about.2.1 57 = .ok (.invokevirtual 364, 3) := by decide +kernel
theorem dX12_about_60 : decode mX12_about.2.1 60 = .ok (.ireturn, 1) := by decide +kernel
theorem dX12_about_61 : decode mX12_about.2.1 61 = .ok (.aload_n 0, 1) := by decide +kernel
theorem dX12_about_62 : decode mX12_about.2.1 62 = .ok (.getfield 36, 3) := by decide +kernel
theorem dX12_about_65 : decode mX12_about.2.1 65 = .ok (.aload_n 0, 1) := by decide +kernel
theorem dX12_about_66 : decode mX12_about.2.1 66 = .ok (.getfield 295, 3) := by decide +kernel
theorem dX12_about_69 : decode mX12_about.2.1 69 = .ok (.baload, 1) := by decide +kernel
theorem dX12_about_70 : decode mX12_about.2.1 70 = .ok (.ifCond .eq 7, 3) := by decide +kernel
theorem dX12_about_73 : decode mX12_about.2.1 73 = .ok (.iconst 1, 1) := by decide +kernel
theorem dX12_about_74 : decode mX12_about.2.1 74 = .ok (.goto 4, 3) := by decide +kernel
theorem dX12_about_77 : decode mX12_about.2.1 77 = .ok (.iconst 0, 1) := by decide +kernel
theorem dX12_about_78 : decode mX12_about.2.1 78 = .ok (.ireturn, 1) := by decide +kernel
theorem dX12_about_79 : decode mX12_about.2.1 79 = .ok (.aload_n 0, 1) := by decide +kernel
theorem dX12_about_80 : decode mX12_about.2.1 80 = .ok (.getfield 24, 3) := by decide +kernel
theorem dX12_about_83 : decode mX12_about.2.1 83 = .ok (.aload_n 0, 1) := by decide +kernel
theorem dX12_about_84 : decode mX12_about.2.1 84 = .ok (.getfield 295, 3) := by decide +kernel
theorem dX12_about_87 : decode mX12_about.2.1 87 = .ok (.iaload, 1) := by decide +kernel
theorem dX12_about_88 : decode mX12_about.2.1 88 = .ok (.ireturn, 1) := by decide +kernel
theorem dX12_about_89 : decode mX12_about.2.1 89 = .ok (.aload_n 0, 1) := by decide +kernel
theorem dX12_about_90 : decode mX12_about.2.1 90 = .ok (.getfield 304, 3) := by decide +kernel
theorem dX12_about_93 : decode mX12_about.2.1 93 = .ok (.ireturn, 1) := by decide +kernel
theorem dX12_about_94 : decode mX12_about.2.1 94 = .ok (.aload_n 0, 1) := by decide +kernel
theorem dX12_about_95 : decode mX12_about.2.1 95 = .ok (.getfield 377, 3) := by decide +kernel
theorem dX12_about_98 : decode mX12_about.2.1 98 = .ok (.ireturn, 1) := by decide +kernel
theorem dX12_about_99 : decode mX12_about.2.1 99 = .ok (.aload_n 0, 1) := by decide +kernel
theorem dX12_about_100 : decode mX12_about.2.1 100 = .ok (.getfield 292, 3) := by decide +kernel
theorem dX12_about_103 : decode mX12_about.2.1 103 = .ok (.ireturn, 1) := by decide +kernel
theorem dX12_about_104 : decode mX12_about.2.1 104 = .ok (.aload_n 0, 1) := by decide +kernel
theorem dX12_about_105 : decode mX12_about.2.1 105 = .ok (.getfield 313, 3) := by decide +kernel
theorem dX12_about_108 : decode mX12_about.2.1 108 = .ok (.ireturn, 1) := by decide +kernel
theorem dX12_about_109 : decode mX12_about.2.1 109 = .ok (.aload_n 0, 1) := by decide +kernel
theorem dX12_about_110 : decode mX12_about.2.1 110 = .ok (.getfield 53, 3) := by decide +kernel
theorem dX12_about_113 : decode mX12_about.2.1 113 = .ok (.aload_n 0, 1) := by decide +kernel
theorem dX12_about_114 : decode mX12_about.2.1 114 = .ok (.getfield 295, 3) := by decide +kernel
theorem dX12_about_117 : decode mX12_about.2.1 117 = .ok (.iaload, 1) := by decide +kernel
theorem dX12_about_118 : decode mX12_about.2.1 118 = .ok (.ireturn, 1) := by decide +kernel
theorem dX12_about_119 : decode mX12_about.2.1 119 = .ok (.aload_n 0, 1) := by decide +kernel
theorem dX12_about_120 : decode mX12_about.2.1 120 = .ok (.getfield 56, 3) := by decide +kernel
theorem dX12_about_123 : decode mX12_about.2.1 123 = .ok (.aload_n 0, 1) := by decide +kernel
theorem dX12_about_124 : decode mX12_about.2.1 124 = .ok (.getfield 295, 3) := by decide +kernel
theorem dX12_about_127 : decode mX12_about.2.1 127 = .ok (.iaload, 1) := by decide +kernel
theorem dX12_about_128 : decode mX12_about.2.1 128 = .ok (.ireturn, 1) := by decide +kernel
theorem dX12_about_129 : decode mX12_about.2.1 129 = .ok (.aload_n 0, 1) := by decide +kernel
theorem dX12_about_130 : decode mX12_about.2.1 130 = .ok (.getfield 307, 3) := by decide +kernel
theorem dX12_about_133 : decode mX12_about.2.1 133 = .ok (.ireturn, 1) := by decide +kernel
theorem dX12_about_134 : decode mX12_about.2.1 134 = .ok (.iconst (-1), 1) := by decide +kernel
theorem dX12_about_135 : decode mX12_about.2.1 135 = .ok (.ireturn, 1) := by decide +kernel
theorem dX12_feed_0 : decode mX12_feed.2.1 0 = .ok (.aload_n 0, 1) := by decide +kernel
theorem dX12_feed_1 : decode mX12_feed.2.1 1 = .ok (.getfield 292, 3) := by decide +kernel
theorem dX12_feed_4 : decode mX12_feed.2.1 4 = .ok (.bipush 20, 2) := by decide +kernel
theorem dX12_feed_6 : decode mX12_feed.2.1 6 = .ok (.iadd, 1) := by decide +kernel
theorem dX12_feed_7 : decode mX12_feed.2.1 7 = .ok (.sipush 1200, 3) := by decide +kernel
theorem dX12_feed_10 : decode mX12_feed.2.1 10 = .ok (.if_icmp .le 5, 3) := by decide +kernel
theorem dX12_feed_13 : decode mX12_feed.2.1 13 = .ok (.iconst (-1), 1) := by decide +kernel
theorem dX12_feed_14 : decode mX12_feed.2.1 14 = .ok (.ireturn, 1) := by decide +kernel
theorem dX12_feed_15 : decode mX12_feed.2.1 15 = .ok (.iconst 0, 1) := by decide +kernel
theorem dX12_feed_16 : decode mX12_feed.2.1 16 = .ok (.istore 6, 2) := by decide +kernel
theorem dX12_feed_18 : decode mX12_feed.2.1 18 = .ok (.iload 6, 2) := by decide +kernel
theorem dX12_feed_20 : decode mX12_feed.2.1 20 = .ok (.bipush 20, 2) := by decide +kernel
theorem dX12_feed_22 : decode mX12_feed.2.1 22 = .ok (.if_icmp .ge 83, 3) := by decide +kernel
theorem dX12_feed_25 : decode mX12_feed.2.1 25 = .ok (.iload 6, 2) := by decide +kernel
theorem dX12_feed_27 : decode mX12_feed.2.1 27 = .ok (.iconst 4, 1) := by decide +kernel
theorem dX12_feed_28 : decode mX12_feed.2.1 28 = .ok (.if_icmp .ge 7, 3) := by decide +kernel
theorem dX12_feed_31 : decode mX12_feed.2.1 31 = .ok (.iload_n 1, 1) := by decide +kernel
theorem dX12_feed_32 : decode mX12_feed.2.1 32 = .ok (.goto 39, 3) := by decide +kernel
theorem dX12_feed_35 : decode mX12_feed.2.1 35 = .ok (.iload 6, 2) := by decide +kernel
theorem dX12_feed_37 : decode mX12_feed.2.1 37 = .ok (.bipush 8, 2) := by decide +kernel
theorem dX12_feed_39 : decode mX12_feed.2.1 39 = .ok (.if_icmp .ge 7, 3) := by decide +kernel
theorem dX12_feed_42 : decode mX12_feed.2.1 42 = .ok (.iload_n 2, 1) := by decide +kernel
theorem dX12_feed_43 : decode mX12_feed.2.1 43 = .ok (.goto 28, 3) := by decide +kernel
theorem dX12_feed_46 : decode mX12_feed.2.1 46 = .ok (.iload 6, 2) := by decide +kernel
theorem dX12_feed_48 : decode mX12_feed.2.1 48 = .ok (.bipush 12, 2) := by decide +kernel
theorem dX12_feed_50 : decode mX12_feed.2.1 50 = .ok (.if_icmp .ge 7, 3) := by decide +kernel
theorem dX12_feed_53 : decode mX12_feed.2.1 53 = .ok (.iload_n 3, 1) := by decide +kernel
theorem dX12_feed_54 : decode mX12_feed.2.1 54 = .ok (.goto 17, 3) := by decide +kernel
theorem dX12_feed_57 : decode mX12_feed.2.1 57 = .ok (.iload 6, 2) := by decide +kernel
theorem dX12_feed_59 : decode mX12_feed.2.1 59 = .ok (.bipush 16, 2) := by decide +kernel
theorem dX12_feed_61 : decode mX12_feed.2.1 61 = .ok (.if_icmp .ge 8, 3) := by decide +kernel
theorem dX12_feed_64 : decode mX12_feed.2.1 64 = .ok (.iload 4, 2) := by decide +kernel
theorem dX12_feed_66 : decode mX12_feed.2.1 66 = .ok (.goto 5, 3) := by decide +kernel
theorem dX12_feed_69 : decode mX12_feed.2.1 69 = .ok (.iload 5, 2) := by decide +kernel
theorem dX12_feed_71 : decode mX12_feed.2.1 71 = .ok (.istore 7, 2) := by decide +kernel
theorem dX12_feed_73 : decode mX12_feed.2.1 73 = .ok (.aload_n 0, 1) := by decide +kernel
theorem dX12_feed_74 : decode mX12_feed.2.1 74 = .ok (.getfield 7, 3) := by decide +kernel
theorem dX12_feed_77 : decode mX12_feed.2.1 77 = .ok (.aload_n 0, 1) := by decide +kernel
theorem dX12_feed_78 : decode mX12_feed.2.1 78 = .ok (.getfield 292, 3) := by decide +kernel
theorem dX12_feed_81 : decode mX12_feed.2.1 81 = .ok (.iload 6, 2) := by decide +kernel
theorem dX12_feed_83 : decode mX12_feed.2.1 83 = .ok (.iadd, 1) := by decide +kernel
theorem dX12_feed_84 : decode mX12_feed.2.1 84 = .ok (.iload 7, 2) := by decide +kernel
theorem dX12_feed_86 : decode mX12_feed.2.1 86 = .ok (.bipush 24, 2) := by decide +kernel
theorem dX12_feed_88 : decode mX12_feed.2.1 88 = .ok (.bipush 8, 2) := by decide +kernel
theorem dX12_feed_90 : decode mX12_feed.2.1 90 = .ok (.iload 6, 2) := by decide +kernel
theorem dX12_feed_92 : decode mX12_feed.2.1 92 = .ok (.iconst 3, 1) := by decide +kernel
theorem dX12_feed_93 : decode mX12_feed.2.1 93 = .ok (.iand, 1) := by decide +kernel
theorem dX12_feed_94 : decode mX12_feed.2.1 94 = .ok (.imul, 1) := by decide +kernel
theorem dX12_feed_95 : decode mX12_feed.2.1 95 = .ok (.isub, 1) := by decide +kernel
theorem dX12_feed_96 : decode mX12_feed.2.1 96 = .ok (.ishr, 1) := by decide +kernel
theorem dX12_feed_97 : decode mX12_feed.2.1 97 = .ok (.i2b, 1) := by decide +kernel
theorem dX12_feed_98 : decode mX12_feed.2.1 98 = .ok (.bastore, 1) := by decide +kernel
theorem dX12_feed_99 : decode mX12_feed.2.1 99 = .ok (.iinc 6 1, 3) := by decide +kernel
theorem dX12_feed_102 : decode mX12_feed.2.1 102 = .ok (.goto (-84), 3) := by decide +kernel
theorem dX12_feed_105 : decode mX12_feed.2.1 105 = .ok (.aload_n 0, 1) := by decide +kernel
theorem dX12_feed_106 : decode mX12_feed.2.1 106 = .ok (.dup, 1) := by decide +kernel
theorem dX12_feed_107 : decode mX12_feed.2.1 107 = .ok (.getfield 292, 3) := by decide +kernel
theorem dX12_feed_110 : decode mX12_feed.2.1 110 = .ok (.bipush 20, 2) := by decide +kernel
theorem dX12_feed_112 : decode mX12_feed.2.1 112 = .ok (.iadd, 1) := by decide +kernel
theorem dX12_feed_113 : decode mX12_feed.2.1 113 = .ok (.putfield 292, 3) := by decide +kernel
theorem dX12_feed_116 : decode mX12_feed.2.1 116 = .ok (.aload_n 0, 1) := by decide +kernel
theorem dX12_feed_117 : decode mX12_feed.2.1 117 = .ok (.getfield 292, 3) := by decide +kernel
theorem dX12_feed_120 : decode mX12_feed.2.1 120 = .ok (.ireturn, 1) := by decide +kernel
theorem dX12_end_0 : decode mX12_end.2.1 0 = .ok (.iload_n 1, 1) := by decide +kernel
theorem dX12_end_1 : decode mX12_end.2.1 1 = .ok (.ifCond .lt 11, 3) := by decide +kernel
theorem dX12_end_4 : decode mX12_end.2.1 4 = .ok (.iload_n 1, 1) := by decide +kernel
theorem dX12_end_5 : decode mX12_end.2.1 5 = .ok (.aload_n 0, 1) := by decide +kernel
theorem dX12_end_6 : decode mX12_end.2.1 6 = .ok (.getfield 292, 3) := by decide +kernel
theorem dX12_end_9 : decode mX12_end.2.1 9 = .ok (.if_icmp .le 5, 3) := by decide +kernel
theorem dX12_end_12 : decode mX12_end.2.1 12 = .ok (.iconst (-1), 1) := by decide +kernel
theorem dX12_end_13 : decode mX12_end.2.1 13 = .ok (.ireturn, 1) := by decide +kernel
theorem dX12_end_14 : decode mX12_end.2.1 14 = .ok (.aload_n 0, 1) := by decide +kernel
theorem dX12_end_15 : decode mX12_end.2.1 15 = .ok (.iload_n 1, 1) := by decide +kernel
theorem dX12_end_16 : decode mX12_end.2.1 16 = .ok (.putfield 292, 3) := by decide +kernel
theorem dX12_end_19 : decode mX12_end.2.1 19 = .ok (.iload_n 1, 1) := by decide +kernel
theorem dX12_end_20 : decode mX12_end.2.1 20 = .ok (.ireturn, 1) := by decide +kernel
theorem bX12_doReach_0 {d : Nat} {g : xSt} {r : Option Value × xSt} {a1 a2 a3 : Int32} (k : xX d mX12_doReach 6 [some (.ref 113), some (.int a1), some (.int a2), some (.int a3), some (.int 0), some (.int 0), none] [] g = some r) : xX d mX12_doReach 0 [some (.ref 113), some (.int a1), some (.int a2), some (.int a3), none, none, none] [] g = some r :=
  Y_iconst 0 dX12_doReach_0 ic_0 <| Y_istore dX12_doReach_1 rfl rfl <| Y_iconst 0 dX12_doReach_3 ic_0 <| Y_istore dX12_doReach_4 rfl rfl <| X_le (xle_s (xle_s (xle_s (xle_s (xle_s (xle_s (xle_n xle_0))))))) k
theorem bX12_doReach_6 {d : Nat} {g : xSt} {r : Option Value × xSt} {a1 a2 a3 a4 a5 : Int32} (k1 : a1 ≤ a5 → xX d mX12_doReach 30 [some (.ref 113), some (.int a1), some (.int a2), some (.int a3), some (.int a4), none, none] [] g = some r) (k2 : ¬ (a1 ≤ a5) → xX d mX12_doReach 12 [some (.ref 113), some (.int a1), some (.int a2), some (.int a3), some (.int a4), some (.int a5), none] [] g = some r) : xX d mX12_doReach 6 [some (.ref 113), some (.int a1), some (.int a2), some (.int a3), some (.int a4), some (.int a5), none] [] g = some r :=
  Y_iload dX12_doReach_6 rfl <| Y_iload_n dX12_doReach_8 rfl <| Y_ge 30 dX12_doReach_9 rfl (fun q => X_le (xle_s (xle_s (xle_s (xle_s (xle_s (xle_n (xle_n xle_0))))))) (k1 q)) (fun q => X_le (xle_s (xle_s (xle_s (xle_s (xle_s (xle_s (xle_n xle_0))))))) (k2 q))
theorem bX12_doReach_12 {d : Nat} {g : xSt} {r : Option Value × xSt} {a1 a2 a3 a4 a5 : Int32} (W : xWf g) (hi20 : vp_in a5 8) (k : xX d mX12_doReach 6 [some (.ref 113), some (.int a1), some (.int a2), some (.int a3), some (.int (a4 + (xI g 171 a5.toNatClampNeg))), some (.int (a5 + 1)), none] [] g = some r) : xX d mX12_doReach 12 [some (.ref 113), some (.int a1), some (.int a2), some (.int a3), some (.int a4), some (.int a5), none] [] g = some r :=
  Y_iload dX12_doReach_12 rfl <| Y_aload_n dX12_doReach_14 rfl <| Y_getR dX12_doReach_15 f_11_188 (by rw [ft_11_80]; rfl) (xis W 113 11 s_113 (Nat.le_of_ble_eq_true rfl)) (xptr W 113 80 p_113_80) <| Y_iload dX12_doReach_18 rfl <| Y_iald dX12_doReach_20 (xarr W (o := 171) s_171 (Nat.le_of_ble_eq_true rfl)) hi20 <| Y_iadd dX12_doReach_21 <| Y_istore dX12_doReach_22 rfl rfl <| Y_iinc 1 dX12_doReach_24 rfl ic_1 rfl rfl <| Y_goto 6 dX12_doReach_27 rfl <| X_le (xle_s (xle_s (xle_s (xle_s (xle_s (xle_s (xle_n xle_0))))))) k
theorem bX12_doReach_30 {d : Nat} {g : xSt} {r : Option Value × xSt} {a1 a2 a3 a4 : Int32} (k1 : a2 ≤ a4 → xX d mX12_doReach 38 [some (.ref 113), some (.int a1), some (.int a2), some (.int a3), some (.int a4), none, none] [] g = some r) (k2 : ¬ (a2 ≤ a4) → xX d mX12_doReach 36 [none, none, none, none, none, none, none] [] g = some r) : xX d mX12_doReach 30 [some (.ref 113), some (.int a1), some (.int a2), some (.int a3), some (.int a4), none, none] [] g = some r :=
  Y_iload dX12_doReach_30 rfl <| Y_iload_n dX12_doReach_32 rfl <| Y_ge 38 dX12_doReach_33 rfl (fun q => X_le (xle_s (xle_s (xle_s (xle_s (xle_s (xle_n (xle_n xle_0))))))) (k1 q)) (fun q => X_le (xle_n (xle_n (xle_n (xle_n (xle_n (xle_n (xle_n xle_0))))))) (k2 q))
theorem bX12_doReach_36 {d : Nat} {g : xSt} {r : Option Value × xSt}  (k : r = (some (.int 0), g)) : xX d mX12_doReach 36 [none, none, none, none, none, none, none] [] g = some r :=
  Y_iconst 0 dX12_doReach_36 ic_0 <| Y_zret dX12_doReach_37 rfl (by decide) k
theorem bX12_doReach_38 {d : Nat} {g : xSt} {r : Option Value × xSt} {a1 a2 a3 a4 : Int32} (k : xX d mX12_doReach 41 [some (.ref 113), some (.int a1), some (.int a2), some (.int a3), some (.int a4), some (.int 0), none] [] g = some r) : xX d mX12_doReach 38 [some (.ref 113), some (.int a1), some (.int a2), some (.int a3), some (.int a4), none, none] [] g = some r :=
  Y_iconst 0 dX12_doReach_38 ic_0 <| Y_istore dX12_doReach_39 rfl rfl <| X_le (xle_s (xle_s (xle_s (xle_s (xle_s (xle_s (xle_n xle_0))))))) k
theorem bX12_doReach_41 {d : Nat} {g : xSt} {r : Option Value × xSt} {a1 a2 a3 a4 a5 : Int32} (k1 : (2 * a4) < a5 → xX d mX12_doReach 75 [some (.ref 113), some (.int a1), some (.int a2), some (.int a3), some (.int a4), none, none] [] g = some r) (k2 : ¬ ((2 * a4) < a5) → xX d mX12_doReach 50 [some (.ref 113), some (.int a1), some (.int a2), some (.int a3), some (.int a4), some (.int a5), none] [] g = some r) : xX d mX12_doReach 41 [some (.ref 113), some (.int a1), some (.int a2), some (.int a3), some (.int a4), some (.int a5), none] [] g = some r :=
  Y_iload dX12_doReach_41 rfl <| Y_iconst 2 dX12_doReach_43 ic_2 <| Y_iload dX12_doReach_44 rfl <| Y_imul dX12_doReach_46 <| Y_gt 75 dX12_doReach_47 rfl (fun q => X_le (xle_s (xle_s (xle_s (xle_s (xle_s (xle_n (xle_n xle_0))))))) (k1 q)) (fun q => X_le (xle_s (xle_s (xle_s (xle_s (xle_s (xle_s (xle_n xle_0))))))) (k2 q))
theorem bX12_doReach_50 {d : Nat} {g : xSt} {r : Option Value × xSt} {a1 a2 a3 a4 a5 : Int32} (W : xWf g) (k1 : a5 = a4 → xX d mX12_doReach 63 [some (.ref 113), some (.int a1), some (.int a2), some (.int a3), some (.int a4), some (.int a5), none] [.int a5, .ref 172] g = some r) (k2 : ¬ (a5 = a4) → xX d mX12_doReach 67 [some (.ref 113), some (.int a1), some (.int a2), some (.int a3), some (.int a4), some (.int a5), none] [.int a5, .ref 172] g = some r) : xX d mX12_doReach 50 [some (.ref 113), some (.int a1), some (.int a2), some (.int a3), some (.int a4), some (.int a5), none] [] g = some r :=
  Y_aload_n dX12_doReach_50 rfl <| Y_getR dX12_doReach_51 f_11_191 (by rw [ft_11_81]; rfl) (xis W 113 11 s_113 (Nat.le_of_ble_eq_true rfl)) (xptr W 113 81 p_113_81) <| Y_iload dX12_doReach_54 rfl <| Y_iload dX12_doReach_56 rfl <| Y_iload dX12_doReach_58 rfl <| Y_ne 67 dX12_doReach_60 rfl (fun q => X_le (xle_s (xle_s (xle_s (xle_s (xle_s (xle_s (xle_n xle_0))))))) (k1 q)) (fun q => X_le (xle_s (xle_s (xle_s (xle_s (xle_s (xle_s (xle_n xle_0))))))) (k2 q))
theorem bX12_doReach_63 {d : Nat} {g : xSt} {r : Option Value × xSt} {a1 a2 a3 a4 a5 s0 : Int32} (k : xX d mX12_doReach 68 [some (.ref 113), some (.int a1), some (.int a2), some (.int a3), some (.int a4), some (.int a5), none] [.int 1, .int s0, .ref 172] g = some r) : xX d mX12_doReach 63 [some (.ref 113), some (.int a1), some (.int a2), some (.int a3), some (.int a4), some (.int a5), none] [.int s0, .ref 172] g = some r :=
  Y_iconst 1 dX12_doReach_63 ic_1 <| Y_goto 68 dX12_doReach_64 rfl <| X_le (xle_s (xle_s (xle_s (xle_s (xle_s (xle_s (xle_n xle_0))))))) k
theorem bX12_doReach_67 {d : Nat} {g : xSt} {r : Option Value × xSt} {a1 a2 a3 a4 a5 s0 : Int32} (k : xX d mX12_doReach 68 [some (.ref 113), some (.int a1), some (.int a2), some (.int a3), some (.int a4), some (.int a5), none] [.int 0, .int s0, .ref 172] g = some r) : xX d mX12_doReach 67 [some (.ref 113), some (.int a1), some (.int a2), some (.int a3), some (.int a4), some (.int a5), none] [.int s0, .ref 172] g = some r :=
  Y_iconst 0 dX12_doReach_67 ic_0 <| X_le (xle_s (xle_s (xle_s (xle_s (xle_s (xle_s (xle_n xle_0))))))) k
theorem bX12_doReach_68 {d : Nat} {g : xSt} {r : Option Value × xSt} {a1 a2 a3 a4 a5 s1 s0 : Int32} (W : xWf g) (hi68 : vp_in s1 1300) (hz68 : s0 = 0 ∨ s0 = 1) (k : xX d mX12_doReach 41 [some (.ref 113), some (.int a1), some (.int a2), some (.int a3), some (.int a4), some (.int (a5 + 1)), none] [] (xWI g 172 s1.toNatClampNeg s0) = some r) : xX d mX12_doReach 68 [some (.ref 113), some (.int a1), some (.int a2), some (.int a3), some (.int a4), some (.int a5), none] [.int s0, .int s1, .ref 172] g = some r :=
  Y_zast dX12_doReach_68 (xarr W (o := 172) s_172 (Nat.le_of_ble_eq_true rfl)) hi68 (hz68) <| Y_iinc 1 dX12_doReach_69 rfl ic_1 rfl rfl <| Y_goto 41 dX12_doReach_72 rfl <| X_le (xle_s (xle_s (xle_s (xle_s (xle_s (xle_s (xle_n xle_0))))))) k
theorem bX12_doReach_75 {d : Nat} {g : xSt} {r : Option Value × xSt} {a1 a2 a3 a4 : Int32} (k : xX d mX12_doReach 78 [some (.ref 113), some (.int a1), some (.int a2), some (.int a3), some (.int a4), some (.int 0), none] [] g = some r) : xX d mX12_doReach 75 [some (.ref 113), some (.int a1), some (.int a2), some (.int a3), some (.int a4), none, none] [] g = some r :=
  Y_iconst 0 dX12_doReach_75 ic_0 <| Y_istore dX12_doReach_76 rfl rfl <| X_le (xle_s (xle_s (xle_s (xle_s (xle_s (xle_s (xle_n xle_0))))))) k
theorem bX12_doReach_78 {d : Nat} {g : xSt} {r : Option Value × xSt} {a1 a2 a3 a4 a5 : Int32} (k1 : a1 ≤ a5 → xX d mX12_doReach 227 [some (.ref 113), none, some (.int a2), none, some (.int a4), none, none] [] g = some r) (k2 : ¬ (a1 ≤ a5) → xX d mX12_doReach 84 [some (.ref 113), some (.int a1), some (.int a2), some (.int a3), some (.int a4), some (.int a5), none] [] g = some r) : xX d mX12_doReach 78 [some (.ref 113), some (.int a1), some (.int a2), some (.int a3), some (.int a4), some (.int a5), none] [] g = some r :=
  Y_iload dX12_doReach_78 rfl <| Y_iload_n dX12_doReach_80 rfl <| Y_ge 227 dX12_doReach_81 rfl (fun q => X_le (xle_s (xle_n (xle_s (xle_n (xle_s (xle_n (xle_n xle_0))))))) (k1 q)) (fun q => X_le (xle_s (xle_s (xle_s (xle_s (xle_s (xle_s (xle_n xle_0))))))) (k2 q))
theorem bX12_doReach_84 {d : Nat} {g : xSt} {r : Option Value × xSt} {a1 a2 a3 a4 a5 : Int32} (k : xX d mX12_doReach 90 [some (.ref 113), some (.int a1), some (.int a2), some (.int a3), some (.int a4), some (.int a5), some (.int (2 * a4))] [] g = some r) : xX d mX12_doReach 84 [some (.ref 113), some (.int a1), some (.int a2), some (.int a3), some (.int a4), some (.int a5), none] [] g = some r :=
  Y_iconst 2 dX12_doReach_84 ic_2 <| Y_iload dX12_doReach_85 rfl <| Y_imul dX12_doReach_87 <| Y_istore dX12_doReach_88 rfl rfl <| X_le (xle_s (xle_s (xle_s (xle_s (xle_s (xle_s (xle_s xle_0))))))) k
theorem bX12_doReach_90 {d : Nat} {g : xSt} {r : Option Value × xSt} {a1 a2 a3 a4 a5 a6 : Int32} (W : xWf g) (hi98 : vp_in a5 8) (k1 : a6 < (xI g 171 a5.toNatClampNeg) → xX d mX12_doReach 148 [some (.ref 113), some (.int a1), some (.int a2), some (.int a3), some (.int a4), some (.int a5), none] [] g = some r) (k2 : ¬ (a6 < (xI g 171 a5.toNatClampNeg)) → xX d mX12_doReach 102 [some (.ref 113), some (.int a1), some (.int a2), some (.int a3), some (.int a4), some (.int a5), some (.int a6)] [] g = some r) : xX d mX12_doReach 90 [some (.ref 113), some (.int a1), some (.int a2), some (.int a3), some (.int a4), some (.int a5), some (.int a6)] [] g = some r :=
  Y_iload dX12_doReach_90 rfl <| Y_aload_n dX12_doReach_92 rfl <| Y_getR dX12_doReach_93 f_11_188 (by rw [ft_11_80]; rfl) (xis W 113 11 s_113 (Nat.le_of_ble_eq_true rfl)) (xptr W 113 80 p_113_80) <| Y_iload dX12_doReach_96 rfl <| Y_iald dX12_doReach_98 (xarr W (o := 171) s_171 (Nat.le_of_ble_eq_true rfl)) hi98 <| Y_lt 148 dX12_doReach_99 rfl (fun q => X_le (xle_s (xle_s (xle_s (xle_s (xle_s (xle_s (xle_n xle_0))))))) (k1 q)) (fun q => X_le (xle_s (xle_s (xle_s (xle_s (xle_s (xle_s (xle_s xle_0))))))) (k2 q))
theorem bX12_doReach_102 {d : Nat} {g : xSt} {r : Option Value × xSt} {a1 a2 a3 a4 a5 a6 : Int32} (W : xWf g) (hi114 : vp_in a6 1300) (k1 : (xI g 172 a6.toNatClampNeg) = 0 → xX d mX12_doReach 118 [some (.ref 113), some (.int a1), some (.int a2), some (.int a3), some (.int a4), some (.int a5), some (.int a6)] [.int a6, .ref 172] g = some r) (k2 : ¬ ((xI g 172 a6.toNatClampNeg) = 0) → xX d mX12_doReach 136 [some (.ref 113), some (.int a1), some (.int a2), some (.int a3), some (.int a4), some (.int a5), some (.int a6)] [.int a6, .ref 172] g = some r) : xX d mX12_doReach 102 [some (.ref 113), some (.int a1), some (.int a2), some (.int a3), some (.int a4), some (.int a5), some (.int a6)] [] g = some r :=
  Y_aload_n dX12_doReach_102 rfl <| Y_getR dX12_doReach_103 f_11_191 (by rw [ft_11_81]; rfl) (xis W 113 11 s_113 (Nat.le_of_ble_eq_true rfl)) (xptr W 113 81 p_113_81) <| Y_iload dX12_doReach_106 rfl <| Y_aload_n dX12_doReach_108 rfl <| Y_getR dX12_doReach_109 f_11_191 (by rw [ft_11_81]; rfl) (xis W 113 11 s_113 (Nat.le_of_ble_eq_true rfl)) (xptr W 113 81 p_113_81) <| Y_iload dX12_doReach_112 rfl <| Y_zald dX12_doReach_114 (xarr W (o := 172) s_172 (Nat.le_of_ble_eq_true rfl)) hi114 <| Y_ne0 136 dX12_doReach_115 rfl (fun q => X_le (xle_s (xle_s (xle_s (xle_s (xle_s (xle_s (xle_s xle_0))))))) (k1 q)) (fun q => X_le (xle_s (xle_s (xle_s (xle_s (xle_s (xle_s (xle_s xle_0))))))) (k2 q))
theorem bX12_doReach_118 {d : Nat} {g : xSt} {r : Option Value × xSt} {a1 a2 a3 a4 a5 a6 s0 : Int32} (W : xWf g) (hi130 : vp_in a5 8) (hi132 : vp_in (a6 - (xI g 171 a5.toNatClampNeg)) 1300) (k1 : (xI g 172 (a6 - (xI g 171 a5.toNatClampNeg)).toNatClampNeg) = 0 → xX d mX12_doReach 140 [some (.ref 113), some (.int a1), some (.int a2), some (.int a3), some (.int a4), some (.int a5), some (.int a6)] [.int s0, .ref 172] g = some r) (k2 : ¬ ((xI g 172 (a6 - (xI g 171 a5.toNatClampNeg)).toNatClampNeg) = 0) → xX d mX12_doReach 136 [some (.ref 113), some (.int a1), some (.int a2), some (.int a3), some (.int a4), some (.int a5), some (.int a6)] [.int s0, .ref 172] g = some r) : xX d mX12_doReach 118 [some (.ref 113), some (.int a1), some (.int a2), some (.int a3), some (.int a4), some (.int a5), some (.int a6)] [.int s0, .ref 172] g = some r :=
  Y_aload_n dX12_doReach_118 rfl <| Y_getR dX12_doReach_119 f_11_191 (by rw [ft_11_81]; rfl) (xis W 113 11 s_113 (Nat.le_of_ble_eq_true rfl)) (xptr W 113 81 p_113_81) <| Y_iload dX12_doReach_122 rfl <| Y_aload_n dX12_doReach_124 rfl <| Y_getR dX12_doReach_125 f_11_188 (by rw [ft_11_80]; rfl) (xis W 113 11 s_113 (Nat.le_of_ble_eq_true rfl)) (xptr W 113 80 p_113_80) <| Y_iload dX12_doReach_128 rfl <| Y_iald dX12_doReach_130 (xarr W (o := 171) s_171 (Nat.le_of_ble_eq_true rfl)) hi130 <| Y_isub dX12_doReach_131 <| Y_zald dX12_doReach_132 (xarr W (o := 172) s_172 (Nat.le_of_ble_eq_true rfl)) hi132 <| Y_eq0 140 dX12_doReach_133 rfl (fun q => X_le (xle_s (xle_s (xle_s (xle_s (xle_s (xle_s (xle_s xle_0))))))) (k1 q)) (fun q => X_le (xle_s (xle_s (xle_s (xle_s (xle_s (xle_s (xle_s xle_0))))))) (k2 q))
theorem bX12_doReach_136 {d : Nat} {g : xSt} {r : Option Value × xSt} {a1 a2 a3 a4 a5 a6 s0 : Int32} (k : xX d mX12_doReach 141 [some (.ref 113), some (.int a1), some (.int a2), some (.int a3), some (.int a4), some (.int a5), some (.int a6)] [.int 1, .int s0, .ref 172] g = some r) : xX d mX12_doReach 136 [some (.ref 113), some (.int a1), some (.int a2), some (.int a3), some (.int a4), some (.int a5), some (.int a6)] [.int s0, .ref 172] g = some r :=
  Y_iconst 1 dX12_doReach_136 ic_1 <| Y_goto 141 dX12_doReach_137 rfl <| X_le (xle_s (xle_s (xle_s (xle_s (xle_s (xle_s (xle_s xle_0))))))) k
theorem bX12_doReach_140 {d : Nat} {g : xSt} {r : Option Value × xSt} {a1 a2 a3 a4 a5 a6 s0 : Int32} (k : xX d mX12_doReach 141 [some (.ref 113), some (.int a1), some (.int a2), some (.int a3), some (.int a4), some (.int a5), some (.int a6)] [.int 0, .int s0, .ref 172] g = some r) : xX d mX12_doReach 140 [some (.ref 113), some (.int a1), some (.int a2), some (.int a3), some (.int a4), some (.int a5), some (.int a6)] [.int s0, .ref 172] g = some r :=
  Y_iconst 0 dX12_doReach_140 ic_0 <| X_le (xle_s (xle_s (xle_s (xle_s (xle_s (xle_s (xle_s xle_0))))))) k
theorem bX12_doReach_141 {d : Nat} {g : xSt} {r : Option Value × xSt} {a1 a2 a3 a4 a5 a6 s1 s0 : Int32} (W : xWf g) (hi141 : vp_in s1 1300) (hz141 : s0 = 0 ∨ s0 = 1) (k : xX d mX12_doReach 90 [some (.ref 113), some (.int a1), some (.int a2), some (.int a3), some (.int a4), some (.int a5), some (.int (a6 + (-1)))] [] (xWI g 172 s1.toNatClampNeg s0) = some r) : xX d mX12_doReach 141 [some (.ref 113), some (.int a1), some (.int a2), some (.int a3), some (.int a4), some (.int a5), some (.int a6)] [.int s0, .int s1, .ref 172] g = some r :=
  Y_zast dX12_doReach_141 (xarr W (o := 172) s_172 (Nat.le_of_ble_eq_true rfl)) hi141 (hz141) <| Y_iinc (-1) dX12_doReach_142 rfl ic_m1 rfl rfl <| Y_goto 90 dX12_doReach_145 rfl <| X_le (xle_s (xle_s (xle_s (xle_s (xle_s (xle_s (xle_s xle_0))))))) k
theorem bX12_doReach_148 {d : Nat} {g : xSt} {r : Option Value × xSt} {a1 a2 a3 a4 a5 : Int32} (k1 : a3 = 0 → xX d mX12_doReach 152 [some (.ref 113), some (.int a1), some (.int a2), some (.int a3), some (.int a4), some (.int a5), none] [] g = some r) (k2 : ¬ (a3 = 0) → xX d mX12_doReach 155 [some (.ref 113), some (.int a1), some (.int a2), some (.int a3), some (.int a4), some (.int a5), none] [] g = some r) : xX d mX12_doReach 148 [some (.ref 113), some (.int a1), some (.int a2), some (.int a3), some (.int a4), some (.int a5), none] [] g = some r :=
  Y_iload_n dX12_doReach_148 rfl <| Y_ne0 155 dX12_doReach_149 rfl (fun q => X_le (xle_s (xle_s (xle_s (xle_s (xle_s (xle_s (xle_n xle_0))))))) (k1 q)) (fun q => X_le (xle_s (xle_s (xle_s (xle_s (xle_s (xle_s (xle_n xle_0))))))) (k2 q))
theorem bX12_doReach_152 {d : Nat} {g : xSt} {r : Option Value × xSt} {a1 a2 a3 a4 a5 : Int32} (k : xX d mX12_doReach 221 [some (.ref 113), some (.int a1), some (.int a2), some (.int a3), some (.int a4), some (.int a5), none] [] g = some r) : xX d mX12_doReach 152 [some (.ref 113), some (.int a1), some (.int a2), some (.int a3), some (.int a4), some (.int a5), none] [] g = some r :=
  Y_goto 221 dX12_doReach_152 rfl <| X_le (xle_s (xle_s (xle_s (xle_s (xle_s (xle_s (xle_n xle_0))))))) k
theorem bX12_doReach_155 {d : Nat} {g : xSt} {r : Option Value × xSt} {a1 a2 a3 a4 a5 : Int32} (k : xX d mX12_doReach 158 [some (.ref 113), some (.int a1), some (.int a2), some (.int a3), some (.int a4), some (.int a5), some (.int 0)] [] g = some r) : xX d mX12_doReach 155 [some (.ref 113), some (.int a1), some (.int a2), some (.int a3), some (.int a4), some (.int a5), none] [] g = some r :=
  Y_iconst 0 dX12_doReach_155 ic_0 <| Y_istore dX12_doReach_156 rfl rfl <| X_le (xle_s (xle_s (xle_s (xle_s (xle_s (xle_s (xle_s xle_0))))))) k
theorem bX12_doReach_158 {d : Nat} {g : xSt} {r : Option Value × xSt} {a1 a2 a3 a4 a5 a6 : Int32} (W : xWf g) (hi166 : vp_in a5 8) (k1 : (2 * a4) < (a6 + (xI g 171 a5.toNatClampNeg)) → xX d mX12_doReach 221 [some (.ref 113), some (.int a1), some (.int a2), some (.int a3), some (.int a4), some (.int a5), none] [] g = some r) (k2 : ¬ ((2 * a4) < (a6 + (xI g 171 a5.toNatClampNeg))) → xX d mX12_doReach 175 [some (.ref 113), some (.int a1), some (.int a2), some (.int a3), some (.int a4), some (.int a5), some (.int a6)] [] g = some r) : xX d mX12_doReach 158 [some (.ref 113), some (.int a1), some (.int a2), some (.int a3), some (.int a4), some (.int a5), some (.int a6)] [] g = some r :=
  Y_iload dX12_doReach_158 rfl <| Y_aload_n dX12_doReach_160 rfl <| Y_getR dX12_doReach_161 f_11_188 (by rw [ft_11_80]; rfl) (xis W 113 11 s_113 (Nat.le_of_ble_eq_true rfl)) (xptr W 113 80 p_113_80) <| Y_iload dX12_doReach_164 rfl <| Y_iald dX12_doReach_166 (xarr W (o := 171) s_171 (Nat.le_of_ble_eq_true rfl)) hi166 <| Y_iadd dX12_doReach_167 <| Y_iconst 2 dX12_doReach_168 ic_2 <| Y_iload dX12_doReach_169 rfl <| Y_imul dX12_doReach_171 <| Y_gt 221 dX12_doReach_172 rfl (fun q => X_le (xle_s (xle_s (xle_s (xle_s (xle_s (xle_s (xle_n xle_0))))))) (k1 q)) (fun q => X_le (xle_s (xle_s (xle_s (xle_s (xle_s (xle_s (xle_s xle_0))))))) (k2 q))
theorem bX12_doReach_175 {d : Nat} {g : xSt} {r : Option Value × xSt} {a1 a2 a3 a4 a5 a6 : Int32} (W : xWf g) (hi187 : vp_in a6 1300) (k1 : (xI g 172 a6.toNatClampNeg) = 0 → xX d mX12_doReach 191 [some (.ref 113), some (.int a1), some (.int a2), some (.int a3), some (.int a4), some (.int a5), some (.int a6)] [.int a6, .ref 172] g = some r) (k2 : ¬ ((xI g 172 a6.toNatClampNeg) = 0) → xX d mX12_doReach 209 [some (.ref 113), some (.int a1), some (.int a2), some (.int a3), some (.int a4), some (.int a5), some (.int a6)] [.int a6, .ref 172] g = some r) : xX d mX12_doReach 175 [some (.ref 113), some (.int a1), some (.int a2), some (.int a3), some (.int a4), some (.int a5), some (.int a6)] [] g = some r :=
  Y_aload_n dX12_doReach_175 rfl <| Y_getR dX12_doReach_176 f_11_191 (by rw [ft_11_81]; rfl) (xis W 113 11 s_113 (Nat.le_of_ble_eq_true rfl)) (xptr W 113 81 p_113_81) <| Y_iload dX12_doReach_179 rfl <| Y_aload_n dX12_doReach_181 rfl <| Y_getR dX12_doReach_182 f_11_191 (by rw [ft_11_81]; rfl) (xis W 113 11 s_113 (Nat.le_of_ble_eq_true rfl)) (xptr W 113 81 p_113_81) <| Y_iload dX12_doReach_185 rfl <| Y_zald dX12_doReach_187 (xarr W (o := 172) s_172 (Nat.le_of_ble_eq_true rfl)) hi187 <| Y_ne0 209 dX12_doReach_188 rfl (fun q => X_le (xle_s (xle_s (xle_s (xle_s (xle_s (xle_s (xle_s xle_0))))))) (k1 q)) (fun q => X_le (xle_s (xle_s (xle_s (xle_s (xle_s (xle_s (xle_s xle_0))))))) (k2 q))
theorem bX12_doReach_191 {d : Nat} {g : xSt} {r : Option Value × xSt} {a1 a2 a3 a4 a5 a6 s0 : Int32} (W : xWf g) (hi203 : vp_in a5 8) (hi205 : vp_in (a6 + (xI g 171 a5.toNatClampNeg)) 1300) (k1 : (xI g 172 (a6 + (xI g 171 a5.toNatClampNeg)).toNatClampNeg) = 0 → xX d mX12_doReach 213 [some (.ref 113), some (.int a1), some (.int a2), some (.int a3), some (.int a4), some (.int a5), some (.int a6)] [.int s0, .ref 172] g = some r) (k2 : ¬ ((xI g 172 (a6 + (xI g 171 a5.toNatClampNeg)).toNatClampNeg) = 0) → xX d mX12_doReach 209 [some (.ref 113), some (.int a1), some (.int a2), some (.int a3), some (.int a4), some (.int a5), some (.int a6)] [.int s0, .ref 172] g = some r) : xX d mX12_doReach 191 [some (.ref 113), some (.int a1), some (.int a2), some (.int a3), some (.int a4), some (.int a5), some (.int a6)] [.int s0, .ref 172] g = some r :=
  Y_aload_n dX12_doReach_191 rfl <| Y_getR dX12_doReach_192 f_11_191 (by rw [ft_11_81]; rfl) (xis W 113 11 s_113 (Nat.le_of_ble_eq_true rfl)) (xptr W 113 81 p_113_81) <| Y_iload dX12_doReach_195 rfl <| Y_aload_n dX12_doReach_197 rfl <| Y_getR dX12_doReach_198 f_11_188 (by rw [ft_11_80]; rfl) (xis W 113 11 s_113 (Nat.le_of_ble_eq_true rfl)) (xptr W 113 80 p_113_80) <| Y_iload dX12_doReach_201 rfl <| Y_iald dX12_doReach_203 (xarr W (o := 171) s_171 (Nat.le_of_ble_eq_true rfl)) hi203 <| Y_iadd dX12_doReach_204 <| Y_zald dX12_doReach_205 (xarr W (o := 172) s_172 (Nat.le_of_ble_eq_true rfl)) hi205 <| Y_eq0 213 dX12_doReach_206 rfl (fun q => X_le (xle_s (xle_s (xle_s (xle_s (xle_s (xle_s (xle_s xle_0))))))) (k1 q)) (fun q => X_le (xle_s (xle_s (xle_s (xle_s (xle_s (xle_s (xle_s xle_0))))))) (k2 q))
theorem bX12_doReach_209 {d : Nat} {g : xSt} {r : Option Value × xSt} {a1 a2 a3 a4 a5 a6 s0 : Int32} (k : xX d mX12_doReach 214 [some (.ref 113), some (.int a1), some (.int a2), some (.int a3), some (.int a4), some (.int a5), some (.int a6)] [.int 1, .int s0, .ref 172] g = some r) : xX d mX12_doReach 209 [some (.ref 113), some (.int a1), some (.int a2), some (.int a3), some (.int a4), some (.int a5), some (.int a6)] [.int s0, .ref 172] g = some r :=
  Y_iconst 1 dX12_doReach_209 ic_1 <| Y_goto 214 dX12_doReach_210 rfl <| X_le (xle_s (xle_s (xle_s (xle_s (xle_s (xle_s (xle_s xle_0))))))) k
theorem bX12_doReach_213 {d : Nat} {g : xSt} {r : Option Value × xSt} {a1 a2 a3 a4 a5 a6 s0 : Int32} (k : xX d mX12_doReach 214 [some (.ref 113), some (.int a1), some (.int a2), some (.int a3), some (.int a4), some (.int a5), some (.int a6)] [.int 0, .int s0, .ref 172] g = some r) : xX d mX12_doReach 213 [some (.ref 113), some (.int a1), some (.int a2), some (.int a3), some (.int a4), some (.int a5), some (.int a6)] [.int s0, .ref 172] g = some r :=
  Y_iconst 0 dX12_doReach_213 ic_0 <| X_le (xle_s (xle_s (xle_s (xle_s (xle_s (xle_s (xle_s xle_0))))))) k
theorem bX12_doReach_214 {d : Nat} {g : xSt} {r : Option Value × xSt} {a1 a2 a3 a4 a5 a6 s1 s0 : Int32} (W : xWf g) (hi214 : vp_in s1 1300) (hz214 : s0 = 0 ∨ s0 = 1) (k : xX d mX12_doReach 158 [some (.ref 113), some (.int a1), some (.int a2), some (.int a3), some (.int a4), some (.int a5), some (.int (a6 + 1))] [] (xWI g 172 s1.toNatClampNeg s0) = some r) : xX d mX12_doReach 214 [some (.ref 113), some (.int a1), some (.int a2), some (.int a3), some (.int a4), some (.int a5), some (.int a6)] [.int s0, .int s1, .ref 172] g = some r :=
  Y_zast dX12_doReach_214 (xarr W (o := 172) s_172 (Nat.le_of_ble_eq_true rfl)) hi214 (hz214) <| Y_iinc 1 dX12_doReach_215 rfl ic_1 rfl rfl <| Y_goto 158 dX12_doReach_218 rfl <| X_le (xle_s (xle_s (xle_s (xle_s (xle_s (xle_s (xle_s xle_0))))))) k
theorem bX12_doReach_221 {d : Nat} {g : xSt} {r : Option Value × xSt} {a1 a2 a3 a4 a5 : Int32} (k : xX d mX12_doReach 78 [some (.ref 113), some (.int a1), some (.int a2), some (.int a3), some (.int a4), some (.int (a5 + 1)), none] [] g = some r) : xX d mX12_doReach 221 [some (.ref 113), some (.int a1), some (.int a2), some (.int a3), some (.int a4), some (.int a5), none] [] g = some r :=
  Y_iinc 1 dX12_doReach_221 rfl ic_1 rfl rfl <| Y_goto 78 dX12_doReach_224 rfl <| X_le (xle_s (xle_s (xle_s (xle_s (xle_s (xle_s (xle_n xle_0))))))) k
theorem bX12_doReach_227 {d : Nat} {g : xSt} {r : Option Value × xSt} {a2 a4 : Int32} (k : xX d mX12_doReach 230 [some (.ref 113), none, some (.int a2), none, some (.int a4), some (.int 1), none] [] g = some r) : xX d mX12_doReach 227 [some (.ref 113), none, some (.int a2), none, some (.int a4), none, none] [] g = some r :=
  Y_iconst 1 dX12_doReach_227 ic_1 <| Y_istore dX12_doReach_228 rfl rfl <| X_le (xle_s (xle_n (xle_s (xle_n (xle_s (xle_s (xle_n xle_0))))))) k
theorem bX12_doReach_230 {d : Nat} {g : xSt} {r : Option Value × xSt} {a2 a4 a5 : Int32} (k1 : a2 < a5 → xX d mX12_doReach 257 [none, none, none, none, none, none, none] [] g = some r) (k2 : ¬ (a2 < a5) → xX d mX12_doReach 236 [some (.ref 113), none, some (.int a2), none, some (.int a4), some (.int a5), none] [] g = some r) : xX d mX12_doReach 230 [some (.ref 113), none, some (.int a2), none, some (.int a4), some (.int a5), none] [] g = some r :=
  Y_iload dX12_doReach_230 rfl <| Y_iload_n dX12_doReach_232 rfl <| Y_gt 257 dX12_doReach_233 rfl (fun q => X_le (xle_n (xle_n (xle_n (xle_n (xle_n (xle_n (xle_n xle_0))))))) (k1 q)) (fun q => X_le (xle_s (xle_n (xle_s (xle_n (xle_s (xle_s (xle_n xle_0))))))) (k2 q))
theorem bX12_doReach_236 {d : Nat} {g : xSt} {r : Option Value × xSt} {a2 a4 a5 : Int32} (W : xWf g) (hi245 : vp_in (a4 + a5) 1300) (k1 : (xI g 172 (a4 + a5).toNatClampNeg) = 0 → xX d mX12_doReach 249 [none, none, none, none, none, none, none] [] g = some r) (k2 : ¬ ((xI g 172 (a4 + a5).toNatClampNeg) = 0) → xX d mX12_doReach 251 [some (.ref 113), none, some (.int a2), none, some (.int a4), some (.int a5), none] [] g = some r) : xX d mX12_doReach 236 [some (.ref 113), none, some (.int a2), none, some (.int a4), some (.int a5), none] [] g = some r :=
  Y_aload_n dX12_doReach_236 rfl <| Y_getR dX12_doReach_237 f_11_191 (by rw [ft_11_81]; rfl) (xis W 113 11 s_113 (Nat.le_of_ble_eq_true rfl)) (xptr W 113 81 p_113_81) <| Y_iload dX12_doReach_240 rfl <| Y_iload dX12_doReach_242 rfl <| Y_iadd dX12_doReach_244 <| Y_zald dX12_doReach_245 (xarr W (o := 172) s_172 (Nat.le_of_ble_eq_true rfl)) hi245 <| Y_ne0 251 dX12_doReach_246 rfl (fun q => X_le (xle_n (xle_n (xle_n (xle_n (xle_n (xle_n (xle_n xle_0))))))) (k1 q)) (fun q => X_le (xle_s (xle_n (xle_s (xle_n (xle_s (xle_s (xle_n xle_0))))))) (k2 q))
theorem bX12_doReach_249 {d : Nat} {g : xSt} {r : Option Value × xSt}  (k : r = (some (.int 0), g)) : xX d mX12_doReach 249 [none, none, none, none, none, none, none] [] g = some r :=
  Y_iconst 0 dX12_doReach_249 ic_0 <| Y_zret dX12_doReach_250 rfl (by decide) k
theorem bX12_doReach_251 {d : Nat} {g : xSt} {r : Option Value × xSt} {a2 a4 a5 : Int32} (k : xX d mX12_doReach 230 [some (.ref 113), none, some (.int a2), none, some (.int a4), some (.int (a5 + 1)), none] [] g = some r) : xX d mX12_doReach 251 [some (.ref 113), none, some (.int a2), none, some (.int a4), some (.int a5), none] [] g = some r :=
  Y_iinc 1 dX12_doReach_251 rfl ic_1 rfl rfl <| Y_goto 230 dX12_doReach_254 rfl <| X_le (xle_s (xle_n (xle_s (xle_n (xle_s (xle_s (xle_n xle_0))))))) k
theorem bX12_doReach_257 {d : Nat} {g : xSt} {r : Option Value × xSt}  (k : r = (some (.int 1), g)) : xX d mX12_doReach 257 [none, none, none, none, none, none, none] [] g = some r :=
  Y_iconst 1 dX12_doReach_257 ic_1 <| Y_zret dX12_doReach_258 rfl (by decide) k
theorem bX12_heaps_0 {d : Nat} {g : xSt} {r : Option Value × xSt} {a1 a2 r3 : Int32} {g3 : xSt} (hk3 : xCallM d mX12_isIn [.int a1, .int 0, .int 2] g = some (some (.int r3), g3)) (W3 : xWf g3) (k1 : r3 = 0 → xX (d + 1) mX12_heaps 17 [none, none, none, none, none, none, none, none, none] [] g3 = some r) (k2 : ¬ (r3 = 0) → xX (d + 1) mX12_heaps 9 [some (.ref 113), some (.int a1), some (.int a2), none, none, none, none, none, none] [] g3 = some r) : xX (d + 1) mX12_heaps 0 [some (.ref 113), some (.int a1), some (.int a2), none, none, none, none, none, none] [] g = some r :=
  Y_iload_n dX12_heaps_0 rfl <| Y_iconst 0 dX12_heaps_1 ic_0 <| Y_iconst 2 dX12_heaps_2 ic_2 <| Y_callS1 dX12_heaps_3 cl_11_367 rfl rfl rfl rfl rfl (hk3) <| Y_eq0 17 dX12_heaps_6 rfl (fun q => X_le (xle_n (xle_n (xle_n (xle_n (xle_n (xle_n (xle_n (xle_n (xle_n xle_0))))))))) (k1 q)) (fun q => X_le (xle_s (xle_s (xle_s (xle_n (xle_n (xle_n (xle_n (xle_n (xle_n xle_0))))))))) (k2 q))
theorem bX12_heaps_9 {d : Nat} {g : xSt} {r : Option Value × xSt} {a1 a2 r10 : Int32} {g10 : xSt} (W : xWf g) (hk10 : xCallM d mX12_thingMany [.ref 113] g = some (some (.int r10), g10)) (W10 : xWf g10) (k1 : 2 ≤ r10 → xX (d + 1) mX12_heaps 19 [some (.ref 113), some (.int a1), some (.int a2), none, none, none, none, none, none] [] g10 = some r) (k2 : ¬ (2 ≤ r10) → xX (d + 1) mX12_heaps 17 [none, none, none, none, none, none, none, none, none] [] g10 = some r) : xX (d + 1) mX12_heaps 9 [some (.ref 113), some (.int a1), some (.int a2), none, none, none, none, none, none] [] g = some r :=
  Y_aload_n dX12_heaps_9 rfl <| Y_callV1 dX12_heaps_10 cl_11_364 rfl rfl (xis W 113 11 s_113 (Nat.le_of_ble_eq_true rfl)) rfl rfl rfl (hk10) <| Y_iconst 2 dX12_heaps_13 ic_2 <| Y_ge 19 dX12_heaps_14 rfl (fun q => X_le (xle_s (xle_s (xle_s (xle_n (xle_n (xle_n (xle_n (xle_n (xle_n xle_0))))))))) (k1 q)) (fun q => X_le (xle_n (xle_n (xle_n (xle_n (xle_n (xle_n (xle_n (xle_n (xle_n xle_0))))))))) (k2 q))
theorem bX12_heaps_17 {d : Nat} {g : xSt} {r : Option Value × xSt}  (k : r = (some (.int (-1)), g)) : xX (d + 1) mX12_heaps 17 [none, none, none, none, none, none, none, none, none] [] g = some r :=
  Y_iconst (-1) dX12_heaps_17 ic_m1 <| Y_iret dX12_heaps_18 rfl k
theorem bX12_heaps_19 {d : Nat} {g : xSt} {r : Option Value × xSt} {a1 a2 : Int32} (k : xX (d + 1) mX12_heaps 24 [some (.ref 113), some (.int a1), some (.int a2), some (.int 0), some (.int 0), none, none, none, none] [] g = some r) : xX (d + 1) mX12_heaps 19 [some (.ref 113), some (.int a1), some (.int a2), none, none, none, none, none, none] [] g = some r :=
  Y_iconst 0 dX12_heaps_19 ic_0 <| Y_istore_n dX12_heaps_20 rfl rfl <| Y_iconst 0 dX12_heaps_21 ic_0 <| Y_istore dX12_heaps_22 rfl rfl <| X_le (xle_s (xle_s (xle_s (xle_s (xle_s (xle_n (xle_n (xle_n (xle_n xle_0))))))))) k
theorem bX12_heaps_24 {d : Nat} {g : xSt} {r : Option Value × xSt} {a1 a2 a3 a4 r27 : Int32} {g27 : xSt} (W : xWf g) (hk27 : xCallM d mX12_weightRows [.ref 113] g = some (some (.int r27), g27)) (W27 : xWf g27) (k1 : r27 ≤ a4 → xX (d + 1) mX12_heaps 67 [some (.ref 113), some (.int a1), none, some (.int a3), none, none, none, none, none] [] g27 = some r) (k2 : ¬ (r27 ≤ a4) → xX (d + 1) mX12_heaps 33 [some (.ref 113), some (.int a1), some (.int a2), some (.int a3), some (.int a4), none, none, none, none] [] g27 = some r) : xX (d + 1) mX12_heaps 24 [some (.ref 113), some (.int a1), some (.int a2), some (.int a3), some (.int a4), none, none, none, none] [] g = some r :=
  Y_iload dX12_heaps_24 rfl <| Y_aload_n dX12_heaps_26 rfl <| Y_callV1 dX12_heaps_27 cl_11_564 rfl rfl (xis W 113 11 s_113 (Nat.le_of_ble_eq_true rfl)) rfl rfl rfl (hk27) <| Y_ge 67 dX12_heaps_30 rfl (fun q => X_le (xle_s (xle_s (xle_n (xle_s (xle_n (xle_n (xle_n (xle_n (xle_n xle_0))))))))) (k1 q)) (fun q => X_le (xle_s (xle_s (xle_s (xle_s (xle_s (xle_n (xle_n (xle_n (xle_n xle_0))))))))) (k2 q))
theorem bX12_heaps_33 {d : Nat} {g : xSt} {r : Option Value × xSt} {a1 a2 a3 a4 r41 : Int32} {g36 g41 : xSt} (W : xWf g) (hk36 : xCallM d mX12_layWeights [.ref 113, .int a4] g = some (none, g36)) (W36 : xWf g36) (hk41 : xCallM d mX12_doFit [.ref 113, .int a2] g36 = some (some (.int r41), g41)) (W41 : xWf g41) (k1 : r41 = 0 → xX (d + 1) mX12_heaps 47 [some (.ref 113), some (.int a1), some (.int a2), some (.int a3), some (.int a4), none, none, none, none] [] g41 = some r) (k2 : ¬ (r41 = 0) → xX (d + 1) mX12_heaps 50 [some (.ref 113), some (.int a1), some (.int a2), some (.int a3), some (.int a4), none, none, none, none] [] g41 = some r) : xX (d + 1) mX12_heaps 33 [some (.ref 113), some (.int a1), some (.int a2), some (.int a3), some (.int a4), none, none, none, none] [] g = some r :=
  Y_aload_n dX12_heaps_33 rfl <| Y_iload dX12_heaps_34 rfl <| Y_callV0 dX12_heaps_36 cl_11_567 rfl rfl (xis W 113 11 s_113 (Nat.le_of_ble_eq_true rfl)) rfl rfl rfl (hk36) <| Y_aload_n dX12_heaps_39 rfl <| Y_iload_n dX12_heaps_40 rfl <| Y_callV1 dX12_heaps_41 cl_11_570 rfl rfl (xis W36 113 11 s_113 (Nat.le_of_ble_eq_true rfl)) rfl rfl rfl (hk41) <| Y_ne0 50 dX12_heaps_44 rfl (fun q => X_le (xle_s (xle_s (xle_s (xle_s (xle_s (xle_n (xle_n (xle_n (xle_n xle_0))))))))) (k1 q)) (fun q => X_le (xle_s (xle_s (xle_s (xle_s (xle_s (xle_n (xle_n (xle_n (xle_n xle_0))))))))) (k2 q))
theorem bX12_heaps_47 {d : Nat} {g : xSt} {r : Option Value × xSt} {a1 a2 a3 a4 : Int32} (k : xX (d + 1) mX12_heaps 61 [some (.ref 113), some (.int a1), some (.int a2), some (.int a3), some (.int a4), none, none, none, none] [] g = some r) : xX (d + 1) mX12_heaps 47 [some (.ref 113), some (.int a1), some (.int a2), some (.int a3), some (.int a4), none, none, none, none] [] g = some r :=
  Y_goto 61 dX12_heaps_47 rfl <| X_le (xle_s (xle_s (xle_s (xle_s (xle_s (xle_n (xle_n (xle_n (xle_n xle_0))))))))) k
theorem bX12_heaps_50 {d : Nat} {g : xSt} {r : Option Value × xSt} {a1 a2 a3 a4 : Int32} (W : xWf g) (hi57 : vp_in a3 7776) (k : xX (d + 1) mX12_heaps 61 [some (.ref 113), some (.int a1), some (.int a2), some (.int (a3 + 1)), some (.int a4), none, none, none, none] [] (xWI g 173 a3.toNatClampNeg a4) = some r) : xX (d + 1) mX12_heaps 50 [some (.ref 113), some (.int a1), some (.int a2), some (.int a3), some (.int a4), none, none, none, none] [] g = some r :=
  Y_aload_n dX12_heaps_50 rfl <| Y_getR dX12_heaps_51 f_11_194 (by rw [ft_11_82]; rfl) (xis W 113 11 s_113 (Nat.le_of_ble_eq_true rfl)) (xptr W 113 82 p_113_82) <| Y_iload_n dX12_heaps_54 rfl <| Y_iload dX12_heaps_55 rfl <| Y_iast dX12_heaps_57 (xarr W (o := 173) s_173 (Nat.le_of_ble_eq_true rfl)) hi57 <| Y_iinc 1 dX12_heaps_58 rfl ic_1 rfl rfl <| X_le (xle_s (xle_s (xle_s (xle_s (xle_s (xle_n (xle_n (xle_n (xle_n xle_0))))))))) k
theorem bX12_heaps_61 {d : Nat} {g : xSt} {r : Option Value × xSt} {a1 a2 a3 a4 : Int32} (k : xX (d + 1) mX12_heaps 24 [some (.ref 113), some (.int a1), some (.int a2), some (.int a3), some (.int (a4 + 1)), none, none, none, none] [] g = some r) : xX (d + 1) mX12_heaps 61 [some (.ref 113), some (.int a1), some (.int a2), some (.int a3), some (.int a4), none, none, none, none] [] g = some r :=
  Y_iinc 1 dX12_heaps_61 rfl ic_1 rfl rfl <| Y_goto 24 dX12_heaps_64 rfl <| X_le (xle_s (xle_s (xle_s (xle_s (xle_s (xle_n (xle_n (xle_n (xle_n xle_0))))))))) k
theorem bX12_heaps_67 {d : Nat} {g : xSt} {r : Option Value × xSt} {a1 a3 : Int32} (k1 : a3 = 0 → xX (d + 1) mX12_heaps 71 [none, none, none, none, none, none, none, none, none] [] g = some r) (k2 : ¬ (a3 = 0) → xX (d + 1) mX12_heaps 73 [some (.ref 113), some (.int a1), none, some (.int a3), none, none, none, none, none] [] g = some r) : xX (d + 1) mX12_heaps 67 [some (.ref 113), some (.int a1), none, some (.int a3), none, none, none, none, none] [] g = some r :=
  Y_iload_n dX12_heaps_67 rfl <| Y_ne0 73 dX12_heaps_68 rfl (fun q => X_le (xle_n (xle_n (xle_n (xle_n (xle_n (xle_n (xle_n (xle_n (xle_n xle_0))))))))) (k1 q)) (fun q => X_le (xle_s (xle_s (xle_n (xle_s (xle_n (xle_n (xle_n (xle_n (xle_n xle_0))))))))) (k2 q))
theorem bX12_heaps_71 {d : Nat} {g : xSt} {r : Option Value × xSt}  (k : r = (some (.int (-1)), g)) : xX (d + 1) mX12_heaps 71 [none, none, none, none, none, none, none, none, none] [] g = some r :=
  Y_iconst (-1) dX12_heaps_71 ic_m1 <| Y_iret dX12_heaps_72 rfl k
theorem bX12_heaps_73 {d : Nat} {g : xSt} {r : Option Value × xSt} {a1 a3 : Int32} (k : xX (d + 1) mX12_heaps 82 [some (.ref 113), some (.int a1), none, some (.int a3), some (.int (-1)), some (.int 0), some (.int 1), none, none] [] g = some r) : xX (d + 1) mX12_heaps 73 [some (.ref 113), some (.int a1), none, some (.int a3), none, none, none, none, none] [] g = some r :=
  Y_iconst (-1) dX12_heaps_73 ic_m1 <| Y_istore dX12_heaps_74 rfl rfl <| Y_iconst 0 dX12_heaps_76 ic_0 <| Y_istore dX12_heaps_77 rfl rfl <| Y_iconst 1 dX12_heaps_79 ic_1 <| Y_istore dX12_heaps_80 rfl rfl <| X_le (xle_s (xle_s (xle_n (xle_s (xle_s (xle_s (xle_s (xle_n (xle_n xle_0))))))))) k
theorem bX12_heaps_82 {d : Nat} {g : xSt} {r : Option Value × xSt} {a1 a3 a4 a5 a6 r86 : Int32} {g86 : xSt} (W : xWf g) (hk86 : xCallM d mX12_thingMany [.ref 113] g = some (some (.int r86), g86)) (W86 : xWf g86) (k1 : (1 <<< (r86 &&& 31)) ≤ a6 → xX (d + 1) mX12_heaps 170 [none, some (.int a1), none, none, some (.int a4), some (.int a5), none, none, none] [] g86 = some r) (k2 : ¬ ((1 <<< (r86 &&& 31)) ≤ a6) → xX (d + 1) mX12_heaps 93 [some (.ref 113), some (.int a1), none, some (.int a3), some (.int a4), some (.int a5), some (.int a6), none, none] [] g86 = some r) : xX (d + 1) mX12_heaps 82 [some (.ref 113), some (.int a1), none, some (.int a3), some (.int a4), some (.int a5), some (.int a6), none, none] [] g = some r :=
  Y_iload dX12_heaps_82 rfl <| Y_iconst 1 dX12_heaps_84 ic_1 <| Y_aload_n dX12_heaps_85 rfl <| Y_callV1 dX12_heaps_86 cl_11_364 rfl rfl (xis W 113 11 s_113 (Nat.le_of_ble_eq_true rfl)) rfl rfl rfl (hk86) <| Y_ishl dX12_heaps_89 <| Y_ge 170 dX12_heaps_90 rfl (fun q => X_le (xle_n (xle_s (xle_n (xle_n (xle_s (xle_s (xle_n (xle_n (xle_n xle_0))))))))) (k1 q)) (fun q => X_le (xle_s (xle_s (xle_n (xle_s (xle_s (xle_s (xle_s (xle_n (xle_n xle_0))))))))) (k2 q))
theorem bX12_heaps_93 {d : Nat} {g : xSt} {r : Option Value × xSt} {a1 a3 a4 a5 a6 : Int32} (k : xX (d + 1) mX12_heaps 96 [some (.ref 113), some (.int a1), none, some (.int a3), some (.int a4), some (.int a5), some (.int a6), some (.int 1), none] [] g = some r) : xX (d + 1) mX12_heaps 93 [some (.ref 113), some (.int a1), none, some (.int a3), some (.int a4), some (.int a5), some (.int a6), none, none] [] g = some r :=
  Y_iconst 1 dX12_heaps_93 ic_1 <| Y_istore dX12_heaps_94 rfl rfl <| X_le (xle_s (xle_s (xle_n (xle_s (xle_s (xle_s (xle_s (xle_s (xle_n xle_0))))))))) k
theorem bX12_heaps_96 {d : Nat} {g : xSt} {r : Option Value × xSt} {a1 a3 a4 a5 a6 a7 r100 : Int32} {g100 : xSt} (W : xWf g) (hk100 : xCallM d mX12_thingMany [.ref 113] g = some (some (.int r100), g100)) (W100 : xWf g100) (k1 : (1 <<< (r100 &&& 31)) ≤ a7 → xX (d + 1) mX12_heaps 164 [some (.ref 113), some (.int a1), none, some (.int a3), some (.int a4), some (.int a5), some (.int a6), none, none] [] g100 = some r) (k2 : ¬ ((1 <<< (r100 &&& 31)) ≤ a7) → xX (d + 1) mX12_heaps 107 [some (.ref 113), some (.int a1), none, some (.int a3), some (.int a4), some (.int a5), some (.int a6), some (.int a7), none] [] g100 = some r) : xX (d + 1) mX12_heaps 96 [some (.ref 113), some (.int a1), none, some (.int a3), some (.int a4), some (.int a5), some (.int a6), some (.int a7), none] [] g = some r :=
  Y_iload dX12_heaps_96 rfl <| Y_iconst 1 dX12_heaps_98 ic_1 <| Y_aload_n dX12_heaps_99 rfl <| Y_callV1 dX12_heaps_100 cl_11_364 rfl rfl (xis W 113 11 s_113 (Nat.le_of_ble_eq_true rfl)) rfl rfl rfl (hk100) <| Y_ishl dX12_heaps_103 <| Y_ge 164 dX12_heaps_104 rfl (fun q => X_le (xle_s (xle_s (xle_n (xle_s (xle_s (xle_s (xle_s (xle_n (xle_n xle_0))))))))) (k1 q)) (fun q => X_le (xle_s (xle_s (xle_n (xle_s (xle_s (xle_s (xle_s (xle_s (xle_n xle_0))))))))) (k2 q))
theorem bX12_heaps_107 {d : Nat} {g : xSt} {r : Option Value × xSt} {a1 a3 a4 a5 a6 a7 : Int32} (k1 : (a6 &&& a7) = 0 → xX (d + 1) mX12_heaps 118 [some (.ref 113), some (.int a1), none, some (.int a3), some (.int a4), some (.int a5), some (.int a6), some (.int a7), none] [] g = some r) (k2 : ¬ ((a6 &&& a7) = 0) → xX (d + 1) mX12_heaps 115 [some (.ref 113), some (.int a1), none, some (.int a3), some (.int a4), some (.int a5), some (.int a6), some (.int a7), none] [] g = some r) : xX (d + 1) mX12_heaps 107 [some (.ref 113), some (.int a1), none, some (.int a3), some (.int a4), some (.int a5), some (.int a6), some (.int a7), none] [] g = some r :=
  Y_iload dX12_heaps_107 rfl <| Y_iload dX12_heaps_109 rfl <| Y_iand dX12_heaps_111 <| Y_eq0 118 dX12_heaps_112 rfl (fun q => X_le (xle_s (xle_s (xle_n (xle_s (xle_s (xle_s (xle_s (xle_s (xle_n xle_0))))))))) (k1 q)) (fun q => X_le (xle_s (xle_s (xle_n (xle_s (xle_s (xle_s (xle_s (xle_s (xle_n xle_0))))))))) (k2 q))
theorem bX12_heaps_115 {d : Nat} {g : xSt} {r : Option Value × xSt} {a1 a3 a4 a5 a6 a7 : Int32} (k : xX (d + 1) mX12_heaps 158 [some (.ref 113), some (.int a1), none, some (.int a3), some (.int a4), some (.int a5), some (.int a6), some (.int a7), none] [] g = some r) : xX (d + 1) mX12_heaps 115 [some (.ref 113), some (.int a1), none, some (.int a3), some (.int a4), some (.int a5), some (.int a6), some (.int a7), none] [] g = some r :=
  Y_goto 158 dX12_heaps_115 rfl <| X_le (xle_s (xle_s (xle_n (xle_s (xle_s (xle_s (xle_s (xle_s (xle_n xle_0))))))))) k
theorem bX12_heaps_118 {d : Nat} {g : xSt} {r : Option Value × xSt} {a1 a3 a4 a5 a6 a7 r124 : Int32} {g124 : xSt} (W : xWf g) (hk124 : xCallM d mX12_worstOf [.ref 113, .int a6, .int a7, .int a3] g = some (some (.int r124), g124)) (W124 : xWf g124) (k1 : a4 < 0 → xX (d + 1) mX12_heaps 144 [some (.ref 113), some (.int a1), none, some (.int a3), none, none, some (.int a6), some (.int a7), some (.int r124)] [] g124 = some r) (k2 : ¬ (a4 < 0) → xX (d + 1) mX12_heaps 134 [some (.ref 113), some (.int a1), none, some (.int a3), some (.int a4), some (.int a5), some (.int a6), some (.int a7), some (.int r124)] [] g124 = some r) : xX (d + 1) mX12_heaps 118 [some (.ref 113), some (.int a1), none, some (.int a3), some (.int a4), some (.int a5), some (.int a6), some (.int a7), none] [] g = some r :=
  Y_aload_n dX12_heaps_118 rfl <| Y_iload dX12_heaps_119 rfl <| Y_iload dX12_heaps_121 rfl <| Y_iload_n dX12_heaps_123 rfl <| Y_callV1 dX12_heaps_124 cl_11_587 rfl rfl (xis W 113 11 s_113 (Nat.le_of_ble_eq_true rfl)) rfl rfl rfl (hk124) <| Y_istore dX12_heaps_127 rfl rfl <| Y_iload dX12_heaps_129 rfl <| Y_lt0 144 dX12_heaps_131 rfl (fun q => X_le (xle_s (xle_s (xle_n (xle_s (xle_n (xle_n (xle_s (xle_s (xle_s xle_0))))))))) (k1 q)) (fun q => X_le (xle_s (xle_s (xle_n (xle_s (xle_s (xle_s (xle_s (xle_s (xle_s xle_0))))))))) (k2 q))
theorem bX12_heaps_134 {d : Nat} {g : xSt} {r : Option Value × xSt} {a1 a3 a4 a5 a6 a7 a8 : Int32} (k1 : a8 < a5 → xX (d + 1) mX12_heaps 144 [some (.ref 113), some (.int a1), none, some (.int a3), none, none, some (.int a6), some (.int a7), some (.int a8)] [] g = some r) (k2 : ¬ (a8 < a5) → xX (d + 1) mX12_heaps 141 [some (.ref 113), some (.int a1), none, some (.int a3), some (.int a4), some (.int a5), some (.int a6), some (.int a7), none] [] g = some r) : xX (d + 1) mX12_heaps 134 [some (.ref 113), some (.int a1), none, some (.int a3), some (.int a4), some (.int a5), some (.int a6), some (.int a7), some (.int a8)] [] g = some r :=
  Y_iload dX12_heaps_134 rfl <| Y_iload dX12_heaps_136 rfl <| Y_lt 144 dX12_heaps_138 rfl (fun q => X_le (xle_s (xle_s (xle_n (xle_s (xle_n (xle_n (xle_s (xle_s (xle_s xle_0))))))))) (k1 q)) (fun q => X_le (xle_s (xle_s (xle_n (xle_s (xle_s (xle_s (xle_s (xle_s (xle_n xle_0))))))))) (k2 q))
theorem bX12_heaps_141 {d : Nat} {g : xSt} {r : Option Value × xSt} {a1 a3 a4 a5 a6 a7 : Int32} (k : xX (d + 1) mX12_heaps 158 [some (.ref 113), some (.int a1), none, some (.int a3), some (.int a4), some (.int a5), some (.int a6), some (.int a7), none] [] g = some r) : xX (d + 1) mX12_heaps 141 [some (.ref 113), some (.int a1), none, some (.int a3), some (.int a4), some (.int a5), some (.int a6), some (.int a7), none] [] g = some r :=
  Y_goto 158 dX12_heaps_141 rfl <| X_le (xle_s (xle_s (xle_n (xle_s (xle_s (xle_s (xle_s (xle_s (xle_n xle_0))))))))) k
theorem bX12_heaps_144 {d : Nat} {g : xSt} {r : Option Value × xSt} {a1 a3 a6 a7 a8 : Int32} (k : xX (d + 1) mX12_heaps 158 [some (.ref 113), some (.int a1), none, some (.int a3), some (.int ((32 * a6) + a7)), some (.int a8), some (.int a6), some (.int a7), none] [] g = some r) : xX (d + 1) mX12_heaps 144 [some (.ref 113), some (.int a1), none, some (.int a3), none, none, some (.int a6), some (.int a7), some (.int a8)] [] g = some r :=
  Y_bipush 32 dX12_heaps_144 bp_32 <| Y_iload dX12_heaps_146 rfl <| Y_imul dX12_heaps_148 <| Y_iload dX12_heaps_149 rfl <| Y_iadd dX12_heaps_151 <| Y_istore dX12_heaps_152 rfl rfl <| Y_iload dX12_heaps_154 rfl <| Y_istore dX12_heaps_156 rfl rfl <| X_le (xle_s (xle_s (xle_n (xle_s (xle_s (xle_s (xle_s (xle_s (xle_n xle_0))))))))) k
theorem bX12_heaps_158 {d : Nat} {g : xSt} {r : Option Value × xSt} {a1 a3 a4 a5 a6 a7 : Int32} (k : xX (d + 1) mX12_heaps 96 [some (.ref 113), some (.int a1), none, some (.int a3), some (.int a4), some (.int a5), some (.int a6), some (.int (a7 + 1)), none] [] g = some r) : xX (d + 1) mX12_heaps 158 [some (.ref 113), some (.int a1), none, some (.int a3), some (.int a4), some (.int a5), some (.int a6), some (.int a7), none] [] g = some r :=
  Y_iinc 1 dX12_heaps_158 rfl ic_1 rfl rfl <| Y_goto 96 dX12_heaps_161 rfl <| X_le (xle_s (xle_s (xle_n (xle_s (xle_s (xle_s (xle_s (xle_s (xle_n xle_0))))))))) k
theorem bX12_heaps_164 {d : Nat} {g : xSt} {r : Option Value × xSt} {a1 a3 a4 a5 a6 : Int32} (k : xX (d + 1) mX12_heaps 82 [some (.ref 113), some (.int a1), none, some (.int a3), some (.int a4), some (.int a5), some (.int (a6 + 1)), none, none] [] g = some r) : xX (d + 1) mX12_heaps 164 [some (.ref 113), some (.int a1), none, some (.int a3), some (.int a4), some (.int a5), some (.int a6), none, none] [] g = some r :=
  Y_iinc 1 dX12_heaps_164 rfl ic_1 rfl rfl <| Y_goto 82 dX12_heaps_167 rfl <| X_le (xle_s (xle_s (xle_n (xle_s (xle_s (xle_s (xle_s (xle_n (xle_n xle_0))))))))) k
theorem bX12_heaps_170 {d : Nat} {g : xSt} {r : Option Value × xSt} {a1 a4 a5 : Int32} (k1 : a1 = 0 → xX (d + 1) mX12_heaps 174 [none, none, none, none, some (.int a4), none, none, none, none] [] g = some r) (k2 : ¬ (a1 = 0) → xX (d + 1) mX12_heaps 182 [none, some (.int a1), none, none, some (.int a4), some (.int a5), none, none, none] [] g = some r) : xX (d + 1) mX12_heaps 170 [none, some (.int a1), none, none, some (.int a4), some (.int a5), none, none, none] [] g = some r :=
  Y_iload_n dX12_heaps_170 rfl <| Y_ne0 182 dX12_heaps_171 rfl (fun q => X_le (xle_n (xle_n (xle_n (xle_n (xle_s (xle_n (xle_n (xle_n (xle_n xle_0))))))))) (k1 q)) (fun q => X_le (xle_n (xle_s (xle_n (xle_n (xle_s (xle_s (xle_n (xle_n (xle_n xle_0))))))))) (k2 q))
theorem bX12_heaps_174 {d : Nat} {g : xSt} {r : Option Value × xSt} {a4 : Int32} (k : xX (d + 1) mX12_heaps 197 [none, none, none, none, none, none, none, none, none] [.int (a4 / 32)] g = some r) : xX (d + 1) mX12_heaps 174 [none, none, none, none, some (.int a4), none, none, none, none] [] g = some r :=
  Y_iload dX12_heaps_174 rfl <| Y_bipush 32 dX12_heaps_176 bp_32 <| Y_idiv dX12_heaps_178 (by decide) <| Y_goto 197 dX12_heaps_179 rfl <| X_le (xle_n (xle_n (xle_n (xle_n (xle_n (xle_n (xle_n (xle_n (xle_n xle_0))))))))) k
theorem bX12_heaps_182 {d : Nat} {g : xSt} {r : Option Value × xSt} {a1 a4 a5 : Int32} (k1 : a1 = 1 → xX (d + 1) mX12_heaps 187 [none, none, none, none, some (.int a4), none, none, none, none] [] g = some r) (k2 : ¬ (a1 = 1) → xX (d + 1) mX12_heaps 195 [none, none, none, none, none, some (.int a5), none, none, none] [] g = some r) : xX (d + 1) mX12_heaps 182 [none, some (.int a1), none, none, some (.int a4), some (.int a5), none, none, none] [] g = some r :=
  Y_iload_n dX12_heaps_182 rfl <| Y_iconst 1 dX12_heaps_183 ic_1 <| Y_ne 195 dX12_heaps_184 rfl (fun q => X_le (xle_n (xle_n (xle_n (xle_n (xle_s (xle_n (xle_n (xle_n (xle_n xle_0))))))))) (k1 q)) (fun q => X_le (xle_n (xle_n (xle_n (xle_n (xle_n (xle_s (xle_n (xle_n (xle_n xle_0))))))))) (k2 q))
theorem bX12_heaps_187 {d : Nat} {g : xSt} {r : Option Value × xSt} {a4 : Int32} (k : xX (d + 1) mX12_heaps 197 [none, none, none, none, none, none, none, none, none] [.int (a4 - a4 / 32 * 32)] g = some r) : xX (d + 1) mX12_heaps 187 [none, none, none, none, some (.int a4), none, none, none, none] [] g = some r :=
  Y_iload dX12_heaps_187 rfl <| Y_bipush 32 dX12_heaps_189 bp_32 <| Y_irem dX12_heaps_191 (by decide) <| Y_goto 197 dX12_heaps_192 rfl <| X_le (xle_n (xle_n (xle_n (xle_n (xle_n (xle_n (xle_n (xle_n (xle_n xle_0))))))))) k
theorem bX12_heaps_195 {d : Nat} {g : xSt} {r : Option Value × xSt} {a5 : Int32} (k : xX (d + 1) mX12_heaps 197 [none, none, none, none, none, none, none, none, none] [.int a5] g = some r) : xX (d + 1) mX12_heaps 195 [none, none, none, none, none, some (.int a5), none, none, none] [] g = some r :=
  Y_iload dX12_heaps_195 rfl <| X_le (xle_n (xle_n (xle_n (xle_n (xle_n (xle_n (xle_n (xle_n (xle_n xle_0))))))))) k
theorem bX12_heaps_197 {d : Nat} {g : xSt} {r : Option Value × xSt} {s0 : Int32} (k : r = (some (.int s0), g)) : xX (d + 1) mX12_heaps 197 [none, none, none, none, none, none, none, none, none] [.int s0] g = some r :=
  Y_iret dX12_heaps_197 rfl k
theorem bX12_worstOf_0 {d : Nat} {g : xSt} {r : Option Value × xSt} {a1 a2 a3 : Int32} (k : xX (d + 1) mX12_worstOf 3 [some (.ref 113), some (.int a1), some (.int a2), some (.int a3), some (.int 0), none] [] g = some r) : xX (d + 1) mX12_worstOf 0 [some (.ref 113), some (.int a1), some (.int a2), some (.int a3), none, none] [] g = some r :=
  Y_iconst 0 dX12_worstOf_0 ic_0 <| Y_istore dX12_worstOf_1 rfl rfl <| X_le (xle_s (xle_s (xle_s (xle_s (xle_s (xle_n xle_0)))))) k
theorem bX12_worstOf_3 {d : Nat} {g : xSt} {r : Option Value × xSt} {a1 a2 a3 a4 : Int32} (k1 : 3 ≤ a4 → xX (d + 1) mX12_worstOf 23 [some (.ref 113), some (.int a1), some (.int a2), some (.int a3), none, none] [] g = some r) (k2 : ¬ (3 ≤ a4) → xX (d + 1) mX12_worstOf 9 [some (.ref 113), some (.int a1), some (.int a2), some (.int a3), some (.int a4), none] [] g = some r) : xX (d + 1) mX12_worstOf 3 [some (.ref 113), some (.int a1), some (.int a2), some (.int a3), some (.int a4), none] [] g = some r :=
  Y_iload dX12_worstOf_3 rfl <| Y_iconst 3 dX12_worstOf_5 ic_3 <| Y_ge 23 dX12_worstOf_6 rfl (fun q => X_le (xle_s (xle_s (xle_s (xle_s (xle_n (xle_n xle_0)))))) (k1 q)) (fun q => X_le (xle_s (xle_s (xle_s (xle_s (xle_s (xle_n xle_0)))))) (k2 q))
theorem bX12_worstOf_9 {d : Nat} {g : xSt} {r : Option Value × xSt} {a1 a2 a3 a4 : Int32} (W : xWf g) (hi16 : vp_in a4 3) (k : xX (d + 1) mX12_worstOf 3 [some (.ref 113), some (.int a1), some (.int a2), some (.int a3), some (.int (a4 + 1)), none] [] (xWI g 170 a4.toNatClampNeg 0) = some r) : xX (d + 1) mX12_worstOf 9 [some (.ref 113), some (.int a1), some (.int a2), some (.int a3), some (.int a4), none] [] g = some r :=
  Y_aload_n dX12_worstOf_9 rfl <| Y_getR dX12_worstOf_10 f_11_185 (by rw [ft_11_79]; rfl) (xis W 113 11 s_113 (Nat.le_of_ble_eq_true rfl)) (xptr W 113 79 p_113_79) <| Y_iload dX12_worstOf_13 rfl <| Y_iconst 0 dX12_worstOf_15 ic_0 <| Y_iast dX12_worstOf_16 (xarr W (o := 170) s_170 (Nat.le_of_ble_eq_true rfl)) hi16 <| Y_iinc 1 dX12_worstOf_17 rfl ic_1 rfl rfl <| Y_goto 3 dX12_worstOf_20 rfl <| X_le (xle_s (xle_s (xle_s (xle_s (xle_s (xle_n xle_0)))))) k
theorem bX12_worstOf_23 {d : Nat} {g : xSt} {r : Option Value × xSt} {a1 a2 a3 : Int32} (k : xX (d + 1) mX12_worstOf 26 [some (.ref 113), some (.int a1), some (.int a2), some (.int a3), some (.int 0), none] [] g = some r) : xX (d + 1) mX12_worstOf 23 [some (.ref 113), some (.int a1), some (.int a2), some (.int a3), none, none] [] g = some r :=
  Y_iconst 0 dX12_worstOf_23 ic_0 <| Y_istore dX12_worstOf_24 rfl rfl <| X_le (xle_s (xle_s (xle_s (xle_s (xle_s (xle_n xle_0)))))) k
theorem bX12_worstOf_26 {d : Nat} {g : xSt} {r : Option Value × xSt} {a1 a2 a3 a4 : Int32} (k1 : a3 ≤ a4 → xX (d + 1) mX12_worstOf 64 [some (.ref 113), none, none, none, none, none] [] g = some r) (k2 : ¬ (a3 ≤ a4) → xX (d + 1) mX12_worstOf 32 [some (.ref 113), some (.int a1), some (.int a2), some (.int a3), some (.int a4), none] [] g = some r) : xX (d + 1) mX12_worstOf 26 [some (.ref 113), some (.int a1), some (.int a2), some (.int a3), some (.int a4), none] [] g = some r :=
  Y_iload dX12_worstOf_26 rfl <| Y_iload_n dX12_worstOf_28 rfl <| Y_ge 64 dX12_worstOf_29 rfl (fun q => X_le (xle_s (xle_n (xle_n (xle_n (xle_n (xle_n xle_0)))))) (k1 q)) (fun q => X_le (xle_s (xle_s (xle_s (xle_s (xle_s (xle_n xle_0)))))) (k2 q))
theorem bX12_worstOf_32 {d : Nat} {g : xSt} {r : Option Value × xSt} {a1 a2 a3 a4 r50 : Int32} {g40 g50 : xSt} (W : xWf g) (hi39 : vp_in a4 7776) (hk40 : xCallM d mX12_layWeights [.ref 113, .int (xI g 173 a4.toNatClampNeg)] g = some (none, g40)) (W40 : xWf g40) (hk50 : xCallM d mX12_saysOf [.ref 113, .int a1, .int a2] g40 = some (some (.int r50), g50)) (W50 : xWf g50) (hi54 : vp_in r50 3) (hi57 : vp_in r50 3) (k : xX (d + 1) mX12_worstOf 26 [some (.ref 113), some (.int a1), some (.int a2), some (.int a3), some (.int (a4 + 1)), none] [] (xWI g50 170 r50.toNatClampNeg ((xI g50 170 r50.toNatClampNeg) + 1)) = some r) : xX (d + 1) mX12_worstOf 32 [some (.ref 113), some (.int a1), some (.int a2), some (.int a3), some (.int a4), none] [] g = some r :=
  Y_aload_n dX12_worstOf_32 rfl <| Y_aload_n dX12_worstOf_33 rfl <| Y_getR dX12_worstOf_34 f_11_194 (by rw [ft_11_82]; rfl) (xis W 113 11 s_113 (Nat.le_of_ble_eq_true rfl)) (xptr W 113 82 p_113_82) <| Y_iload dX12_worstOf_37 rfl <| Y_iald dX12_worstOf_39 (xarr W (o := 173) s_173 (Nat.le_of_ble_eq_true rfl)) hi39 <| Y_callV0 dX12_worstOf_40 cl_11_567 rfl rfl (xis W 113 11 s_113 (Nat.le_of_ble_eq_true rfl)) rfl rfl rfl (hk40) <| Y_aload_n dX12_worstOf_43 rfl <| Y_getR dX12_worstOf_44 f_11_185 (by rw [ft_11_79]; rfl) (xis W40 113 11 s_113 (Nat.le_of_ble_eq_true rfl)) (xptr W40 113 79 p_113_79) <| Y_aload_n dX12_worstOf_47 rfl <| Y_iload_n dX12_worstOf_48 rfl <| Y_iload_n dX12_worstOf_49 rfl <| Y_callV1 dX12_worstOf_50 cl_11_561 rfl rfl (xis W40 113 11 s_113 (Nat.le_of_ble_eq_true rfl)) rfl rfl rfl (hk50) <| Y_dup2 dX12_worstOf_53 rfl rfl <| Y_iald dX12_worstOf_54 (xarr W50 (o := 170) s_170 (Nat.le_of_ble_eq_true rfl)) hi54 <| Y_iconst 1 dX12_worstOf_55 ic_1 <| Y_iadd dX12_worstOf_56 <| Y_iast dX12_worstOf_57 (xarr W50 (o := 170) s_170 (Nat.le_of_ble_eq_true rfl)) hi57 <| Y_iinc 1 dX12_worstOf_58 rfl ic_1 rfl rfl <| Y_goto 26 dX12_worstOf_61 rfl <| X_le (xle_s (xle_s (xle_s (xle_s (xle_s (xle_n xle_0)))))) k
theorem bX12_worstOf_64 {d : Nat} {g : xSt} {r : Option Value × xSt}  (k : xX (d + 1) mX12_worstOf 70 [some (.ref 113), none, none, none, some (.int 0), some (.int 0)] [] g = some r) : xX (d + 1) mX12_worstOf 64 [some (.ref 113), none, none, none, none, none] [] g = some r :=
  Y_iconst 0 dX12_worstOf_64 ic_0 <| Y_istore dX12_worstOf_65 rfl rfl <| Y_iconst 0 dX12_worstOf_67 ic_0 <| Y_istore dX12_worstOf_68 rfl rfl <| X_le (xle_s (xle_n (xle_n (xle_n (xle_s (xle_s xle_0)))))) k
theorem bX12_worstOf_70 {d : Nat} {g : xSt} {r : Option Value × xSt} {a4 a5 : Int32} (k1 : 3 ≤ a5 → xX (d + 1) mX12_worstOf 108 [none, none, none, none, some (.int a4), none] [] g = some r) (k2 : ¬ (3 ≤ a5) → xX (d + 1) mX12_worstOf 76 [some (.ref 113), none, none, none, some (.int a4), some (.int a5)] [] g = some r) : xX (d + 1) mX12_worstOf 70 [some (.ref 113), none, none, none, some (.int a4), some (.int a5)] [] g = some r :=
  Y_iload dX12_worstOf_70 rfl <| Y_iconst 3 dX12_worstOf_72 ic_3 <| Y_ge 108 dX12_worstOf_73 rfl (fun q => X_le (xle_n (xle_n (xle_n (xle_n (xle_s (xle_n xle_0)))))) (k1 q)) (fun q => X_le (xle_s (xle_n (xle_n (xle_n (xle_s (xle_s xle_0)))))) (k2 q))
theorem bX12_worstOf_76 {d : Nat} {g : xSt} {r : Option Value × xSt} {a4 a5 : Int32} (W : xWf g) (hi82 : vp_in a5 3) (k1 : (xI g 170 a5.toNatClampNeg) ≤ a4 → xX (d + 1) mX12_worstOf 98 [some (.ref 113), none, none, none, some (.int a4), some (.int a5)] [] g = some r) (k2 : ¬ ((xI g 170 a5.toNatClampNeg) ≤ a4) → xX (d + 1) mX12_worstOf 88 [some (.ref 113), none, none, none, none, some (.int a5)] [] g = some r) : xX (d + 1) mX12_worstOf 76 [some (.ref 113), none, none, none, some (.int a4), some (.int a5)] [] g = some r :=
  Y_aload_n dX12_worstOf_76 rfl <| Y_getR dX12_worstOf_77 f_11_185 (by rw [ft_11_79]; rfl) (xis W 113 11 s_113 (Nat.le_of_ble_eq_true rfl)) (xptr W 113 79 p_113_79) <| Y_iload dX12_worstOf_80 rfl <| Y_iald dX12_worstOf_82 (xarr W (o := 170) s_170 (Nat.le_of_ble_eq_true rfl)) hi82 <| Y_iload dX12_worstOf_83 rfl <| Y_le 98 dX12_worstOf_85 rfl (fun q => X_le (xle_s (xle_n (xle_n (xle_n (xle_s (xle_s xle_0)))))) (k1 q)) (fun q => X_le (xle_s (xle_n (xle_n (xle_n (xle_n (xle_s xle_0)))))) (k2 q))
theorem bX12_worstOf_88 {d : Nat} {g : xSt} {r : Option Value × xSt} {a5 : Int32} (W : xWf g) (hi94 : vp_in a5 3) (k : xX (d + 1) mX12_worstOf 100 [some (.ref 113), none, none, none, none, some (.int a5)] [.int (xI g 170 a5.toNatClampNeg)] g = some r) : xX (d + 1) mX12_worstOf 88 [some (.ref 113), none, none, none, none, some (.int a5)] [] g = some r :=
  Y_aload_n dX12_worstOf_88 rfl <| Y_getR dX12_worstOf_89 f_11_185 (by rw [ft_11_79]; rfl) (xis W 113 11 s_113 (Nat.le_of_ble_eq_true rfl)) (xptr W 113 79 p_113_79) <| Y_iload dX12_worstOf_92 rfl <| Y_iald dX12_worstOf_94 (xarr W (o := 170) s_170 (Nat.le_of_ble_eq_true rfl)) hi94 <| Y_goto 100 dX12_worstOf_95 rfl <| X_le (xle_s (xle_n (xle_n (xle_n (xle_n (xle_s xle_0)))))) k
theorem bX12_worstOf_98 {d : Nat} {g : xSt} {r : Option Value × xSt} {a4 a5 : Int32} (k : xX (d + 1) mX12_worstOf 100 [some (.ref 113), none, none, none, none, some (.int a5)] [.int a4] g = some r) : xX (d + 1) mX12_worstOf 98 [some (.ref 113), none, none, none, some (.int a4), some (.int a5)] [] g = some r :=
  Y_iload dX12_worstOf_98 rfl <| X_le (xle_s (xle_n (xle_n (xle_n (xle_n (xle_s xle_0)))))) k
theorem bX12_worstOf_100 {d : Nat} {g : xSt} {r : Option Value × xSt} {a5 s0 : Int32} (k : xX (d + 1) mX12_worstOf 70 [some (.ref 113), none, none, none, some (.int s0), some (.int (a5 + 1))] [] g = some r) : xX (d + 1) mX12_worstOf 100 [some (.ref 113), none, none, none, none, some (.int a5)] [.int s0] g = some r :=
  Y_istore dX12_worstOf_100 rfl rfl <| Y_iinc 1 dX12_worstOf_102 rfl ic_1 rfl rfl <| Y_goto 70 dX12_worstOf_105 rfl <| X_le (xle_s (xle_n (xle_n (xle_n (xle_s (xle_s xle_0)))))) k
theorem bX12_worstOf_108 {d : Nat} {g : xSt} {r : Option Value × xSt} {a4 : Int32} (k : r = (some (.int a4), g)) : xX (d + 1) mX12_worstOf 108 [none, none, none, none, some (.int a4), none] [] g = some r :=
  Y_iload dX12_worstOf_108 rfl <| Y_iret dX12_worstOf_110 rfl k
theorem bX12_image_0 {d : Nat} {g : xSt} {r : Option Value × xSt} {a1 r3 : Int32} {g3 : xSt} (hk3 : xCallM d mX12_isIn [.int a1, .int 0, .int 2] g = some (some (.int r3), g3)) (W3 : xWf g3) (k1 : r3 = 0 → xX (d + 1) mX12_image 9 [none, none, none, none] [] g3 = some r) (k2 : ¬ (r3 = 0) → xX (d + 1) mX12_image 11 [some (.ref 113), some (.int a1), none, none] [] g3 = some r) : xX (d + 1) mX12_image 0 [some (.ref 113), some (.int a1), none, none] [] g = some r :=
  Y_iload_n dX12_image_0 rfl <| Y_iconst 0 dX12_image_1 ic_0 <| Y_iconst 2 dX12_image_2 ic_2 <| Y_callS1 dX12_image_3 cl_11_367 rfl rfl rfl rfl rfl (hk3) <| Y_ne0 11 dX12_image_6 rfl (fun q => X_le (xle_n (xle_n (xle_n (xle_n xle_0)))) (k1 q)) (fun q => X_le (xle_s (xle_s (xle_n (xle_n xle_0)))) (k2 q))
theorem bX12_image_9 {d : Nat} {g : xSt} {r : Option Value × xSt}  (k : r = (some (.int (-1)), g)) : xX (d + 1) mX12_image 9 [none, none, none, none] [] g = some r :=
  Y_iconst (-1) dX12_image_9 ic_m1 <| Y_iret dX12_image_10 rfl k
theorem bX12_image_11 {d : Nat} {g : xSt} {r : Option Value × xSt} {a1 : Int32} (W : xWf g) (hi20 : vp_in a1 3) (hi30 : vp_in a1 3) (hi40 : vp_in a1 3) (hi50 : vp_in a1 3) (k : xX (d + 1) mX12_image 53 [some (.ref 113), some (.int a1), some (.int 0), none] [] (xWI (xWI (xWI (xWI g 174 a1.toNatClampNeg (xI g 113 44)) 175 a1.toNatClampNeg (xI g 113 45)) 177 a1.toNatClampNeg (xI g 113 46)) 178 a1.toNatClampNeg (xI g 113 47)) = some r) : xX (d + 1) mX12_image 11 [some (.ref 113), some (.int a1), none, none] [] g = some r :=
  Y_aload_n dX12_image_11 rfl <| Y_getR dX12_image_12 f_11_197 (by rw [ft_11_83]; rfl) (xis W 113 11 s_113 (Nat.le_of_ble_eq_true rfl)) (xptr W 113 83 p_113_83) <| Y_iload_n dX12_image_15 rfl <| Y_aload_n dX12_image_16 rfl <| Y_getI dX12_image_17 f_11_304 ft_11_44 (xis W 113 11 s_113 (Nat.le_of_ble_eq_true rfl)) <| Y_iast dX12_image_20 (xarr W (o := 174) s_174 (Nat.le_of_ble_eq_true rfl)) hi20 <| Y_aload_n dX12_image_21 rfl <| Y_getR dX12_image_22 f_11_200 (by rw [ft_11_84]; rfl) (xis W 113 11 s_113 (Nat.le_of_ble_eq_true rfl)) (xptr W 113 84 p_113_84) <| Y_iload_n dX12_image_25 rfl <| Y_aload_n dX12_image_26 rfl <| Y_getI dX12_image_27 f_11_377 ft_11_45 (xis W 113 11 s_113 (Nat.le_of_ble_eq_true rfl)) <| Y_iast dX12_image_30 (xarr W (o := 175) s_175 (Nat.le_of_ble_eq_true rfl)) hi30 <| Y_aload_n dX12_image_31 rfl <| Y_getR dX12_image_32 f_11_206 (by rw [ft_11_86]; rfl) (xis W 113 11 s_113 (Nat.le_of_ble_eq_true rfl)) (xptr W 113 86 p_113_86) <| Y_iload_n dX12_image_35 rfl <| Y_aload_n dX12_image_36 rfl <| Y_getI dX12_image_37 f_11_307 ft_11_46 (xis W 113 11 s_113 (Nat.le_of_ble_eq_true rfl)) <| Y_iast dX12_image_40 (xarr W (o := 177) s_177 (Nat.le_of_ble_eq_true rfl)) hi40 <| Y_aload_n dX12_image_41 rfl <| Y_getR dX12_image_42 f_11_209 (by rw [ft_11_87]; rfl) (xis W 113 11 s_113 (Nat.le_of_ble_eq_true rfl)) (xptr W 113 87 p_113_87) <| Y_iload_n dX12_image_45 rfl <| Y_aload_n dX12_image_46 rfl <| Y_getI dX12_image_47 f_11_310 ft_11_47 (xis W 113 11 s_113 (Nat.le_of_ble_eq_true rfl)) <| Y_iast dX12_image_50 (xarr W (o := 178) s_178 (Nat.le_of_ble_eq_true rfl)) hi50 <| Y_iconst 0 dX12_image_51 ic_0 <| Y_istore_n dX12_image_52 rfl rfl <| X_le (xle_s (xle_s (xle_s (xle_n xle_0)))) k
theorem bX12_image_53 {d : Nat} {g : xSt} {r : Option Value × xSt} {a1 a2 : Int32} (k1 : 5 ≤ a2 → xX (d + 1) mX12_image 80 [some (.ref 113), some (.int a1), none, none] [] g = some r) (k2 : ¬ (5 ≤ a2) → xX (d + 1) mX12_image 58 [some (.ref 113), some (.int a1), some (.int a2), none] [] g = some r) : xX (d + 1) mX12_image 53 [some (.ref 113), some (.int a1), some (.int a2), none] [] g = some r :=
  Y_iload_n dX12_image_53 rfl <| Y_iconst 5 dX12_image_54 ic_5 <| Y_ge 80 dX12_image_55 rfl (fun q => X_le (xle_s (xle_s (xle_n (xle_n xle_0)))) (k1 q)) (fun q => X_le (xle_s (xle_s (xle_s (xle_n xle_0)))) (k2 q))
theorem bX12_image_58 {d : Nat} {g : xSt} {r : Option Value × xSt} {a1 a2 : Int32} (W : xWf g) (hi72 : vp_in a2 5) (hi73 : vp_in ((5 * a1) + a2) 15) (k : xX (d + 1) mX12_image 53 [some (.ref 113), some (.int a1), some (.int (a2 + 1)), none] [] (xWI g 179 ((5 * a1) + a2).toNatClampNeg (xI g 143 a2.toNatClampNeg)) = some r) : xX (d + 1) mX12_image 58 [some (.ref 113), some (.int a1), some (.int a2), none] [] g = some r :=
  Y_aload_n dX12_image_58 rfl <| Y_getR dX12_image_59 f_11_212 (by rw [ft_11_88]; rfl) (xis W 113 11 s_113 (Nat.le_of_ble_eq_true rfl)) (xptr W 113 88 p_113_88) <| Y_iconst 5 dX12_image_62 ic_5 <| Y_iload_n dX12_image_63 rfl <| Y_imul dX12_image_64 <| Y_iload_n dX12_image_65 rfl <| Y_iadd dX12_image_66 <| Y_aload_n dX12_image_67 rfl <| Y_getR dX12_image_68 f_11_104 (by rw [ft_11_42]; rfl) (xis W 113 11 s_113 (Nat.le_of_ble_eq_true rfl)) (xptr W 113 42 p_113_42) <| Y_iload_n dX12_image_71 rfl <| Y_iald dX12_image_72 (xarr W (o := 143) s_143 (Nat.le_of_ble_eq_true rfl)) hi72 <| Y_iast dX12_image_73 (xarr W (o := 179) s_179 (Nat.le_of_ble_eq_true rfl)) hi73 <| Y_iinc 1 dX12_image_74 rfl ic_1 rfl rfl <| Y_goto 53 dX12_image_77 rfl <| X_le (xle_s (xle_s (xle_s (xle_n xle_0)))) k
theorem bX12_image_80 {d : Nat} {g : xSt} {r : Option Value × xSt} {a1 : Int32} (k : xX (d + 1) mX12_image 82 [some (.ref 113), some (.int a1), some (.int 0), none] [] g = some r) : xX (d + 1) mX12_image 80 [some (.ref 113), some (.int a1), none, none] [] g = some r :=
  Y_iconst 0 dX12_image_80 ic_0 <| Y_istore_n dX12_image_81 rfl rfl <| X_le (xle_s (xle_s (xle_s (xle_n xle_0)))) k
theorem bX12_image_82 {d : Nat} {g : xSt} {r : Option Value × xSt} {a1 a2 : Int32} (W : xWf g) (k1 : (xI g 113 46) ≤ a2 → xX (d + 1) mX12_image 133 [some (.ref 113), some (.int a1), none, none] [] g = some r) (k2 : ¬ ((xI g 113 46) ≤ a2) → xX (d + 1) mX12_image 90 [some (.ref 113), some (.int a1), some (.int a2), none] [] g = some r) : xX (d + 1) mX12_image 82 [some (.ref 113), some (.int a1), some (.int a2), none] [] g = some r :=
  Y_iload_n dX12_image_82 rfl <| Y_aload_n dX12_image_83 rfl <| Y_getI dX12_image_84 f_11_307 ft_11_46 (xis W 113 11 s_113 (Nat.le_of_ble_eq_true rfl)) <| Y_ge 133 dX12_image_87 rfl (fun q => X_le (xle_s (xle_s (xle_n (xle_n xle_0)))) (k1 q)) (fun q => X_le (xle_s (xle_s (xle_s (xle_n xle_0)))) (k2 q))
theorem bX12_image_90 {d : Nat} {g : xSt} {r : Option Value × xSt} {a1 a2 : Int32} (W : xWf g) (hi105 : vp_in a2 40) (hi106 : vp_in ((80 * a1) + a2) 240) (hi125 : vp_in a2 40) (hi126 : vp_in (((80 * a1) + 40) + a2) 240) (k : xX (d + 1) mX12_image 82 [some (.ref 113), some (.int a1), some (.int (a2 + 1)), none] [] (xWI (xWI g 180 ((80 * a1) + a2).toNatClampNeg (xI g 141 a2.toNatClampNeg)) 180 (((80 * a1) + 40) + a2).toNatClampNeg (xI g 142 a2.toNatClampNeg)) = some r) : xX (d + 1) mX12_image 90 [some (.ref 113), some (.int a1), some (.int a2), none] [] g = some r :=
  Y_aload_n dX12_image_90 rfl <| Y_getR dX12_image_91 f_11_215 (by rw [ft_11_89]; rfl) (xis W 113 11 s_113 (Nat.le_of_ble_eq_true rfl)) (xptr W 113 89 p_113_89) <| Y_bipush 80 dX12_image_94 bp_80 <| Y_iload_n dX12_image_96 rfl <| Y_imul dX12_image_97 <| Y_iload_n dX12_image_98 rfl <| Y_iadd dX12_image_99 <| Y_aload_n dX12_image_100 rfl <| Y_getR dX12_image_101 f_11_98 (by rw [ft_11_40]; rfl) (xis W 113 11 s_113 (Nat.le_of_ble_eq_true rfl)) (xptr W 113 40 p_113_40) <| Y_iload_n dX12_image_104 rfl <| Y_iald dX12_image_105 (xarr W (o := 141) s_141 (Nat.le_of_ble_eq_true rfl)) hi105 <| Y_iast dX12_image_106 (xarr W (o := 180) s_180 (Nat.le_of_ble_eq_true rfl)) hi106 <| Y_aload_n dX12_image_107 rfl <| Y_getR dX12_image_108 f_11_215 (by rw [ft_11_89]; rfl) (xis W 113 11 s_113 (Nat.le_of_ble_eq_true rfl)) (xptr W 113 89 p_113_89) <| Y_bipush 80 dX12_image_111 bp_80 <| Y_iload_n dX12_image_113 rfl <| Y_imul dX12_image_114 <| Y_bipush 40 dX12_image_115 bp_40 <| Y_iadd dX12_image_117 <| Y_iload_n dX12_image_118 rfl <| Y_iadd dX12_image_119 <| Y_aload_n dX12_image_120 rfl <| Y_getR dX12_image_121 f_11_101 (by rw [ft_11_41]; rfl) (xis W 113 11 s_113 (Nat.le_of_ble_eq_true rfl)) (xptr W 113 41 p_113_41) <| Y_iload_n dX12_image_124 rfl <| Y_iald dX12_image_125 (xarr W (o := 142) s_142 (Nat.le_of_ble_eq_true rfl)) hi125 <| Y_iast dX12_image_126 (xarr W (o := 180) s_180 (Nat.le_of_ble_eq_true rfl)) hi126 <| Y_iinc 1 dX12_image_127 rfl ic_1 rfl rfl <| Y_goto 82 dX12_image_130 rfl <| X_le (xle_s (xle_s (xle_s (xle_n xle_0)))) k
theorem bX12_image_133 {d : Nat} {g : xSt} {r : Option Value × xSt} {a1 : Int32} (k : xX (d + 1) mX12_image 135 [some (.ref 113), some (.int a1), some (.int 0), none] [] g = some r) : xX (d + 1) mX12_image 133 [some (.ref 113), some (.int a1), none, none] [] g = some r :=
  Y_iconst 0 dX12_image_133 ic_0 <| Y_istore_n dX12_image_134 rfl rfl <| X_le (xle_s (xle_s (xle_s (xle_n xle_0)))) k
theorem bX12_image_135 {d : Nat} {g : xSt} {r : Option Value × xSt} {a1 a2 : Int32} (W : xWf g) (k1 : (xI g 113 44) ≤ a2 → xX (d + 1) mX12_image 227 [some (.ref 113), none, none, none] [] g = some r) (k2 : ¬ ((xI g 113 44) ≤ a2) → xX (d + 1) mX12_image 143 [some (.ref 113), some (.int a1), some (.int a2), none] [] g = some r) : xX (d + 1) mX12_image 135 [some (.ref 113), some (.int a1), some (.int a2), none] [] g = some r :=
  Y_iload_n dX12_image_135 rfl <| Y_aload_n dX12_image_136 rfl <| Y_getI dX12_image_137 f_11_304 ft_11_44 (xis W 113 11 s_113 (Nat.le_of_ble_eq_true rfl)) <| Y_ge 227 dX12_image_140 rfl (fun q => X_le (xle_s (xle_n (xle_n (xle_n xle_0)))) (k1 q)) (fun q => X_le (xle_s (xle_s (xle_s (xle_n xle_0)))) (k2 q))
theorem bX12_image_143 {d : Nat} {g : xSt} {r : Option Value × xSt} {a1 a2 : Int32} (W : xWf g) (hi163 : vp_in a2 60) (hi164 : vp_in ((300 * a1) + (5 * a2)) 900) (hi177 : vp_in a2 60) (hi178 : vp_in (((300 * a1) + (5 * a2)) + 1) 900) (hi191 : vp_in a2 60) (hi192 : vp_in (((300 * a1) + (5 * a2)) + 2) 900) (hi205 : vp_in a2 60) (hi206 : vp_in (((300 * a1) + (5 * a2)) + 3) 900) (k : xX (d + 1) mX12_image 207 [some (.ref 113), some (.int a1), some (.int a2), some (.int ((300 * a1) + (5 * a2)))] [] (xWI (xWI (xWI (xWI g 176 ((300 * a1) + (5 * a2)).toNatClampNeg (xI g 136 a2.toNatClampNeg)) 176 (((300 * a1) + (5 * a2)) + 1).toNatClampNeg (xI g 137 a2.toNatClampNeg)) 176 (((300 * a1) + (5 * a2)) + 2).toNatClampNeg (xI g 138 a2.toNatClampNeg)) 176 (((300 * a1) + (5 * a2)) + 3).toNatClampNeg (xI g 139 a2.toNatClampNeg)) = some r) : xX (d + 1) mX12_image 143 [some (.ref 113), some (.int a1), some (.int a2), none] [] g = some r :=
  Y_sipush 300 dX12_image_143 sp_300 <| Y_iload_n dX12_image_146 rfl <| Y_imul dX12_image_147 <| Y_iconst 5 dX12_image_148 ic_5 <| Y_iload_n dX12_image_149 rfl <| Y_imul dX12_image_150 <| Y_iadd dX12_image_151 <| Y_istore_n dX12_image_152 rfl rfl <| Y_aload_n dX12_image_153 rfl <| Y_getR dX12_image_154 f_11_203 (by rw [ft_11_85]; rfl) (xis W 113 11 s_113 (Nat.le_of_ble_eq_true rfl)) (xptr W 113 85 p_113_85) <| Y_iload_n dX12_image_157 rfl <| Y_aload_n dX12_image_158 rfl <| Y_getR dX12_image_159 f_11_83 (by rw [ft_11_35]; rfl) (xis W 113 11 s_113 (Nat.le_of_ble_eq_true rfl)) (xptr W 113 35 p_113_35) <| Y_iload_n dX12_image_162 rfl <| Y_iald dX12_image_163 (xarr W (o := 136) s_136 (Nat.le_of_ble_eq_true rfl)) hi163 <| Y_iast dX12_image_164 (xarr W (o := 176) s_176 (Nat.le_of_ble_eq_true rfl)) hi164 <| Y_aload_n dX12_image_165 rfl <| Y_getR dX12_image_166 f_11_203 (by rw [ft_11_85]; rfl) (xis W 113 11 s_113 (Nat.le_of_ble_eq_true rfl)) (xptr W 113 85 p_113_85) <| Y_iload_n dX12_image_169 rfl <| Y_iconst 1 dX12_image_170 ic_1 <| Y_iadd dX12_image_171 <| Y_aload_n dX12_image_172 rfl <| Y_getR dX12_image_173 f_11_86 (by rw [ft_11_36]; rfl) (xis W 113 11 s_113 (Nat.le_of_ble_eq_true rfl)) (xptr W 113 36 p_113_36) <| Y_iload_n dX12_image_176 rfl <| Y_iald dX12_image_177 (xarr W (o := 137) s_137 (Nat.le_of_ble_eq_true rfl)) hi177 <| Y_iast dX12_image_178 (xarr W (o := 176) s_176 (Nat.le_of_ble_eq_true rfl)) hi178 <| Y_aload_n dX12_image_179 rfl <| Y_getR dX12_image_180 f_11_203 (by rw [ft_11_85]; rfl) (xis W 113 11 s_113 (Nat.le_of_ble_eq_true rfl)) (xptr W 113 85 p_113_85) <| Y_iload_n dX12_image_183 rfl <| Y_iconst 2 dX12_image_184 ic_2 <| Y_iadd dX12_image_185 <| Y_aload_n dX12_image_186 rfl <| Y_getR dX12_image_187 f_11_89 (by rw [ft_11_37]; rfl) (xis W 113 11 s_113 (Nat.le_of_ble_eq_true rfl)) (xptr W 113 37 p_113_37) <| Y_iload_n dX12_image_190 rfl <| Y_iald dX12_image_191 (xarr W (o := 138) s_138 (Nat.le_of_ble_eq_true rfl)) hi191 <| Y_iast dX12_image_192 (xarr W (o := 176) s_176 (Nat.le_of_ble_eq_true rfl)) hi192 <| Y_aload_n dX12_image_193 rfl <| Y_getR dX12_image_194 f_11_203 (by rw [ft_11_85]; rfl) (xis W 113 11 s_113 (Nat.le_of_ble_eq_true rfl)) (xptr W 113 85 p_113_85) <| Y_iload_n dX12_image_197 rfl <| Y_iconst 3 dX12_image_198 ic_3 <| Y_iadd dX12_image_199 <| Y_aload_n dX12_image_200 rfl <| Y_getR dX12_image_201 f_11_92 (by rw [ft_11_38]; rfl) (xis W 113 11 s_113 (Nat.le_of_ble_eq_true rfl)) (xptr W 113 38 p_113_38) <| Y_iload_n dX12_image_204 rfl <| Y_iald dX12_image_205 (xarr W (o := 139) s_139 (Nat.le_of_ble_eq_true rfl)) hi205 <| Y_iast dX12_image_206 (xarr W (o := 176) s_176 (Nat.le_of_ble_eq_true rfl)) hi206 <| X_le (xle_s (xle_s (xle_s (xle_s xle_0)))) k
theorem bX12_image_207 {d : Nat} {g : xSt} {r : Option Value × xSt} {a1 a2 a3 : Int32} (W : xWf g) (hi219 : vp_in a2 60) (hi220 : vp_in (a3 + 4) 900) (k : xX (d + 1) mX12_image 135 [some (.ref 113), some (.int a1), some (.int (a2 + 1)), none] [] (xWI g 176 (a3 + 4).toNatClampNeg (xI g 140 a2.toNatClampNeg)) = some r) : xX (d + 1) mX12_image 207 [some (.ref 113), some (.int a1), some (.int a2), some (.int a3)] [] g = some r :=
  Y_aload_n dX12_image_207 rfl <| Y_getR dX12_image_208 f_11_203 (by rw [ft_11_85]; rfl) (xis W 113 11 s_113 (Nat.le_of_ble_eq_true rfl)) (xptr W 113 85 p_113_85) <| Y_iload_n dX12_image_211 rfl <| Y_iconst 4 dX12_image_212 ic_4 <| Y_iadd dX12_image_213 <| Y_aload_n dX12_image_214 rfl <| Y_getR dX12_image_215 f_11_95 (by rw [ft_11_39]; rfl) (xis W 113 11 s_113 (Nat.le_of_ble_eq_true rfl)) (xptr W 113 39 p_113_39) <| Y_iload_n dX12_image_218 rfl <| Y_iald dX12_image_219 (xarr W (o := 140) s_140 (Nat.le_of_ble_eq_true rfl)) hi219 <| Y_iast dX12_image_220 (xarr W (o := 176) s_176 (Nat.le_of_ble_eq_true rfl)) hi220 <| Y_iinc 1 dX12_image_221 rfl ic_1 rfl rfl <| Y_goto 135 dX12_image_224 rfl <| X_le (xle_s (xle_s (xle_s (xle_n xle_0)))) k
theorem bX12_image_227 {d : Nat} {g : xSt} {r : Option Value × xSt}  (W : xWf g) (k : r = (some (.int (xI g 113 44)), g)) : xX (d + 1) mX12_image 227 [some (.ref 113), none, none, none] [] g = some r :=
  Y_aload_n dX12_image_227 rfl <| Y_getI dX12_image_228 f_11_304 ft_11_44 (xis W 113 11 s_113 (Nat.le_of_ble_eq_true rfl)) <| Y_iret dX12_image_231 rfl k
theorem bX12_back_0 {d : Nat} {g : xSt} {r : Option Value × xSt} {a1 r3 : Int32} {g3 : xSt} (hk3 : xCallM d mX12_isIn [.int a1, .int 0, .int 2] g = some (some (.int r3), g3)) (W3 : xWf g3) (k1 : r3 = 0 → xX (d + 1) mX12_back 18 [none, none, none, none] [] g3 = some r) (k2 : ¬ (r3 = 0) → xX (d + 1) mX12_back 9 [some (.ref 113), some (.int a1), none, none] [] g3 = some r) : xX (d + 1) mX12_back 0 [some (.ref 113), some (.int a1), none, none] [] g = some r :=
  Y_iload_n dX12_back_0 rfl <| Y_iconst 0 dX12_back_1 ic_0 <| Y_iconst 2 dX12_back_2 ic_2 <| Y_callS1 dX12_back_3 cl_11_367 rfl rfl rfl rfl rfl (hk3) <| Y_eq0 18 dX12_back_6 rfl (fun q => X_le (xle_n (xle_n (xle_n (xle_n xle_0)))) (k1 q)) (fun q => X_le (xle_s (xle_s (xle_n (xle_n xle_0)))) (k2 q))
theorem bX12_back_9 {d : Nat} {g : xSt} {r : Option Value × xSt} {a1 : Int32} (W : xWf g) (hi14 : vp_in a1 3) (k1 : 0 ≤ (xI g 174 a1.toNatClampNeg) → xX (d + 1) mX12_back 20 [some (.ref 113), some (.int a1), none, none] [] g = some r) (k2 : ¬ (0 ≤ (xI g 174 a1.toNatClampNeg)) → xX (d + 1) mX12_back 18 [none, none, none, none] [] g = some r) : xX (d + 1) mX12_back 9 [some (.ref 113), some (.int a1), none, none] [] g = some r :=
  Y_aload_n dX12_back_9 rfl <| Y_getR dX12_back_10 f_11_197 (by rw [ft_11_83]; rfl) (xis W 113 11 s_113 (Nat.le_of_ble_eq_true rfl)) (xptr W 113 83 p_113_83) <| Y_iload_n dX12_back_13 rfl <| Y_iald dX12_back_14 (xarr W (o := 174) s_174 (Nat.le_of_ble_eq_true rfl)) hi14 <| Y_ge0 20 dX12_back_15 rfl (fun q => X_le (xle_s (xle_s (xle_n (xle_n xle_0)))) (k1 q)) (fun q => X_le (xle_n (xle_n (xle_n (xle_n xle_0)))) (k2 q))
theorem bX12_back_18 {d : Nat} {g : xSt} {r : Option Value × xSt}  (k : r = (some (.int (-1)), g)) : xX (d + 1) mX12_back 18 [none, none, none, none] [] g = some r :=
  Y_iconst (-1) dX12_back_18 ic_m1 <| Y_iret dX12_back_19 rfl k
theorem bX12_back_20 {d : Nat} {g : xSt} {r : Option Value × xSt} {a1 : Int32} (W : xWf g) (hi26 : vp_in a1 3) (hi36 : vp_in a1 3) (hi46 : vp_in a1 3) (hi56 : vp_in a1 3) (k : xX (d + 1) mX12_back 62 [some (.ref 113), some (.int a1), some (.int 0), none] [] (xWI (xWI (xWI (xWI g 113 44 (xI g 174 a1.toNatClampNeg)) 113 45 (xI g 175 a1.toNatClampNeg)) 113 46 (xI g 177 a1.toNatClampNeg)) 113 47 (xI g 178 a1.toNatClampNeg)) = some r) : xX (d + 1) mX12_back 20 [some (.ref 113), some (.int a1), none, none] [] g = some r :=
  Y_aload_n dX12_back_20 rfl <| Y_aload_n dX12_back_21 rfl <| Y_getR dX12_back_22 f_11_197 (by rw [ft_11_83]; rfl) (xis W 113 11 s_113 (Nat.le_of_ble_eq_true rfl)) (xptr W 113 83 p_113_83) <| Y_iload_n dX12_back_25 rfl <| Y_iald dX12_back_26 (xarr W (o := 174) s_174 (Nat.le_of_ble_eq_true rfl)) hi26 <| Y_putI dX12_back_27 f_11_304 fn_11_44 ft_11_44 (xis W 113 11 s_113 (Nat.le_of_ble_eq_true rfl)) <| Y_aload_n dX12_back_30 rfl <| Y_aload_n dX12_back_31 rfl <| Y_getR dX12_back_32 f_11_200 (by rw [ft_11_84]; rfl) (xis W 113 11 s_113 (Nat.le_of_ble_eq_true rfl)) (xptr W 113 84 p_113_84) <| Y_iload_n dX12_back_35 rfl <| Y_iald dX12_back_36 (xarr W (o := 175) s_175 (Nat.le_of_ble_eq_true rfl)) hi36 <| Y_putI dX12_back_37 f_11_377 fn_11_45 ft_11_45 (xis W 113 11 s_113 (Nat.le_of_ble_eq_true rfl)) <| Y_aload_n dX12_back_40 rfl <| Y_aload_n dX12_back_41 rfl <| Y_getR dX12_back_42 f_11_206 (by rw [ft_11_86]; rfl) (xis W 113 11 s_113 (Nat.le_of_ble_eq_true rfl)) (xptr W 113 86 p_113_86) <| Y_iload_n dX12_back_45 rfl <| Y_iald dX12_back_46 (xarr W (o := 177) s_177 (Nat.le_of_ble_eq_true rfl)) hi46 <| Y_putI dX12_back_47 f_11_307 fn_11_46 ft_11_46 (xis W 113 11 s_113 (Nat.le_of_ble_eq_true rfl)) <| Y_aload_n dX12_back_50 rfl <| Y_aload_n dX12_back_51 rfl <| Y_getR dX12_back_52 f_11_209 (by rw [ft_11_87]; rfl) (xis W 113 11 s_113 (Nat.le_of_ble_eq_true rfl)) (xptr W 113 87 p_113_87) <| Y_iload_n dX12_back_55 rfl <| Y_iald dX12_back_56 (xarr W (o := 178) s_178 (Nat.le_of_ble_eq_true rfl)) hi56 <| Y_putI dX12_back_57 f_11_310 fn_11_47 ft_11_47 (xis W 113 11 s_113 (Nat.le_of_ble_eq_true rfl)) <| Y_iconst 0 dX12_back_60 ic_0 <| Y_istore_n dX12_back_61 rfl rfl <| X_le (xle_s (xle_s (xle_s (xle_n xle_0)))) k
theorem bX12_back_62 {d : Nat} {g : xSt} {r : Option Value × xSt} {a1 a2 : Int32} (k1 : 5 ≤ a2 → xX (d + 1) mX12_back 89 [some (.ref 113), some (.int a1), none, none] [] g = some r) (k2 : ¬ (5 ≤ a2) → xX (d + 1) mX12_back 67 [some (.ref 113), some (.int a1), some (.int a2), none] [] g = some r) : xX (d + 1) mX12_back 62 [some (.ref 113), some (.int a1), some (.int a2), none] [] g = some r :=
  Y_iload_n dX12_back_62 rfl <| Y_iconst 5 dX12_back_63 ic_5 <| Y_ge 89 dX12_back_64 rfl (fun q => X_le (xle_s (xle_s (xle_n (xle_n xle_0)))) (k1 q)) (fun q => X_le (xle_s (xle_s (xle_s (xle_n xle_0)))) (k2 q))
theorem bX12_back_67 {d : Nat} {g : xSt} {r : Option Value × xSt} {a1 a2 : Int32} (W : xWf g) (hi81 : vp_in ((5 * a1) + a2) 15) (hi82 : vp_in a2 5) (k : xX (d + 1) mX12_back 62 [some (.ref 113), some (.int a1), some (.int (a2 + 1)), none] [] (xWI g 143 a2.toNatClampNeg (xI g 179 ((5 * a1) + a2).toNatClampNeg)) = some r) : xX (d + 1) mX12_back 67 [some (.ref 113), some (.int a1), some (.int a2), none] [] g = some r :=
  Y_aload_n dX12_back_67 rfl <| Y_getR dX12_back_68 f_11_104 (by rw [ft_11_42]; rfl) (xis W 113 11 s_113 (Nat.le_of_ble_eq_true rfl)) (xptr W 113 42 p_113_42) <| Y_iload_n dX12_back_71 rfl <| Y_aload_n dX12_back_72 rfl <| Y_getR dX12_back_73 f_11_212 (by rw [ft_11_88]; rfl) (xis W 113 11 s_113 (Nat.le_of_ble_eq_true rfl)) (xptr W 113 88 p_113_88) <| Y_iconst 5 dX12_back_76 ic_5 <| Y_iload_n dX12_back_77 rfl <| Y_imul dX12_back_78 <| Y_iload_n dX12_back_79 rfl <| Y_iadd dX12_back_80 <| Y_iald dX12_back_81 (xarr W (o := 179) s_179 (Nat.le_of_ble_eq_true rfl)) hi81 <| Y_iast dX12_back_82 (xarr W (o := 143) s_143 (Nat.le_of_ble_eq_true rfl)) hi82 <| Y_iinc 1 dX12_back_83 rfl ic_1 rfl rfl <| Y_goto 62 dX12_back_86 rfl <| X_le (xle_s (xle_s (xle_s (xle_n xle_0)))) k
theorem bX12_back_89 {d : Nat} {g : xSt} {r : Option Value × xSt} {a1 : Int32} (k : xX (d + 1) mX12_back 91 [some (.ref 113), some (.int a1), some (.int 0), none] [] g = some r) : xX (d + 1) mX12_back 89 [some (.ref 113), some (.int a1), none, none] [] g = some r :=
  Y_iconst 0 dX12_back_89 ic_0 <| Y_istore_n dX12_back_90 rfl rfl <| X_le (xle_s (xle_s (xle_s (xle_n xle_0)))) k
theorem bX12_back_91 {d : Nat} {g : xSt} {r : Option Value × xSt} {a1 a2 : Int32} (W : xWf g) (k1 : (xI g 113 46) ≤ a2 → xX (d + 1) mX12_back 142 [some (.ref 113), some (.int a1), none, none] [] g = some r) (k2 : ¬ ((xI g 113 46) ≤ a2) → xX (d + 1) mX12_back 99 [some (.ref 113), some (.int a1), some (.int a2), none] [] g = some r) : xX (d + 1) mX12_back 91 [some (.ref 113), some (.int a1), some (.int a2), none] [] g = some r :=
  Y_iload_n dX12_back_91 rfl <| Y_aload_n dX12_back_92 rfl <| Y_getI dX12_back_93 f_11_307 ft_11_46 (xis W 113 11 s_113 (Nat.le_of_ble_eq_true rfl)) <| Y_ge 142 dX12_back_96 rfl (fun q => X_le (xle_s (xle_s (xle_n (xle_n xle_0)))) (k1 q)) (fun q => X_le (xle_s (xle_s (xle_s (xle_n xle_0)))) (k2 q))
theorem bX12_back_99 {d : Nat} {g : xSt} {r : Option Value × xSt} {a1 a2 : Int32} (W : xWf g) (hi114 : vp_in ((80 * a1) + a2) 240) (hi115 : vp_in a2 40) (hi134 : vp_in (((80 * a1) + 40) + a2) 240) (hi135 : vp_in a2 40) (k : xX (d + 1) mX12_back 91 [some (.ref 113), some (.int a1), some (.int (a2 + 1)), none] [] (xWI (xWI g 141 a2.toNatClampNeg (xI g 180 ((80 * a1) + a2).toNatClampNeg)) 142 a2.toNatClampNeg (xI g 180 (((80 * a1) + 40) + a2).toNatClampNeg)) = some r) : xX (d + 1) mX12_back 99 [some (.ref 113), some (.int a1), some (.int a2), none] [] g = some r :=
  Y_aload_n dX12_back_99 rfl <| Y_getR dX12_back_100 f_11_98 (by rw [ft_11_40]; rfl) (xis W 113 11 s_113 (Nat.le_of_ble_eq_true rfl)) (xptr W 113 40 p_113_40) <| Y_iload_n dX12_back_103 rfl <| Y_aload_n dX12_back_104 rfl <| Y_getR dX12_back_105 f_11_215 (by rw [ft_11_89]; rfl) (xis W 113 11 s_113 (Nat.le_of_ble_eq_true rfl)) (xptr W 113 89 p_113_89) <| Y_bipush 80 dX12_back_108 bp_80 <| Y_iload_n dX12_back_110 rfl <| Y_imul dX12_back_111 <| Y_iload_n dX12_back_112 rfl <| Y_iadd dX12_back_113 <| Y_iald dX12_back_114 (xarr W (o := 180) s_180 (Nat.le_of_ble_eq_true rfl)) hi114 <| Y_iast dX12_back_115 (xarr W (o := 141) s_141 (Nat.le_of_ble_eq_true rfl)) hi115 <| Y_aload_n dX12_back_116 rfl <| Y_getR dX12_back_117 f_11_101 (by rw [ft_11_41]; rfl) (xis W 113 11 s_113 (Nat.le_of_ble_eq_true rfl)) (xptr W 113 41 p_113_41) <| Y_iload_n dX12_back_120 rfl <| Y_aload_n dX12_back_121 rfl <| Y_getR dX12_back_122 f_11_215 (by rw [ft_11_89]; rfl) (xis W 113 11 s_113 (Nat.le_of_ble_eq_true rfl)) (xptr W 113 89 p_113_89) <| Y_bipush 80 dX12_back_125 bp_80 <| Y_iload_n dX12_back_127 rfl <| Y_imul dX12_back_128 <| Y_bipush 40 dX12_back_129 bp_40 <| Y_iadd dX12_back_131 <| Y_iload_n dX12_back_132 rfl <| Y_iadd dX12_back_133 <| Y_iald dX12_back_134 (xarr W (o := 180) s_180 (Nat.le_of_ble_eq_true rfl)) hi134 <| Y_iast dX12_back_135 (xarr W (o := 142) s_142 (Nat.le_of_ble_eq_true rfl)) hi135 <| Y_iinc 1 dX12_back_136 rfl ic_1 rfl rfl <| Y_goto 91 dX12_back_139 rfl <| X_le (xle_s (xle_s (xle_s (xle_n xle_0)))) k
theorem bX12_back_142 {d : Nat} {g : xSt} {r : Option Value × xSt} {a1 : Int32} (k : xX (d + 1) mX12_back 144 [some (.ref 113), some (.int a1), some (.int 0), none] [] g = some r) : xX (d + 1) mX12_back 142 [some (.ref 113), some (.int a1), none, none] [] g = some r :=
  Y_iconst 0 dX12_back_142 ic_0 <| Y_istore_n dX12_back_143 rfl rfl <| X_le (xle_s (xle_s (xle_s (xle_n xle_0)))) k
theorem bX12_back_144 {d : Nat} {g : xSt} {r : Option Value × xSt} {a1 a2 : Int32} (W : xWf g) (k1 : (xI g 113 44) ≤ a2 → xX (d + 1) mX12_back 236 [some (.ref 113), none, none, none] [] g = some r) (k2 : ¬ ((xI g 113 44) ≤ a2) → xX (d + 1) mX12_back 152 [some (.ref 113), some (.int a1), some (.int a2), none] [] g = some r) : xX (d + 1) mX12_back 144 [some (.ref 113), some (.int a1), some (.int a2), none] [] g = some r :=
  Y_iload_n dX12_back_144 rfl <| Y_aload_n dX12_back_145 rfl <| Y_getI dX12_back_146 f_11_304 ft_11_44 (xis W 113 11 s_113 (Nat.le_of_ble_eq_true rfl)) <| Y_ge 236 dX12_back_149 rfl (fun q => X_le (xle_s (xle_n (xle_n (xle_n xle_0)))) (k1 q)) (fun q => X_le (xle_s (xle_s (xle_s (xle_n xle_0)))) (k2 q))
theorem bX12_back_152 {d : Nat} {g : xSt} {r : Option Value × xSt} {a1 a2 : Int32} (W : xWf g) (hi172 : vp_in ((300 * a1) + (5 * a2)) 900) (hi173 : vp_in a2 60) (hi186 : vp_in (((300 * a1) + (5 * a2)) + 1) 900) (hi187 : vp_in a2 60) (hi200 : vp_in (((300 * a1) + (5 * a2)) + 2) 900) (hi201 : vp_in a2 60) (hi214 : vp_in (((300 * a1) + (5 * a2)) + 3) 900) (hi215 : vp_in a2 60) (k : xX (d + 1) mX12_back 216 [some (.ref 113), some (.int a1), some (.int a2), some (.int ((300 * a1) + (5 * a2)))] [] (xWI (xWI (xWI (xWI g 136 a2.toNatClampNeg (xI g 176 ((300 * a1) + (5 * a2)).toNatClampNeg)) 137 a2.toNatClampNeg (xI g 176 (((300 * a1) + (5 * a2)) + 1).toNatClampNeg)) 138 a2.toNatClampNeg (xI g 176 (((300 * a1) + (5 * a2)) + 2).toNatClampNeg)) 139 a2.toNatClampNeg (xI g 176 (((300 * a1) + (5 * a2)) + 3).toNatClampNeg)) = some r) : xX (d + 1) mX12_back 152 [some (.ref 113), some (.int a1), some (.int a2), none] [] g = some r :=
  Y_sipush 300 dX12_back_152 sp_300 <| Y_iload_n dX12_back_155 rfl <| Y_imul dX12_back_156 <| Y_iconst 5 dX12_back_157 ic_5 <| Y_iload_n dX12_back_158 rfl <| Y_imul dX12_back_159 <| Y_iadd dX12_back_160 <| Y_istore_n dX12_back_161 rfl rfl <| Y_aload_n dX12_back_162 rfl <| Y_getR dX12_back_163 f_11_83 (by rw [ft_11_35]; rfl) (xis W 113 11 s_113 (Nat.le_of_ble_eq_true rfl)) (xptr W 113 35 p_113_35) <| Y_iload_n dX12_back_166 rfl <| Y_aload_n dX12_back_167 rfl <| Y_getR dX12_back_168 f_11_203 (by rw [ft_11_85]; rfl) (xis W 113 11 s_113 (Nat.le_of_ble_eq_true rfl)) (xptr W 113 85 p_113_85) <| Y_iload_n dX12_back_171 rfl <| Y_iald dX12_back_172 (xarr W (o := 176) s_176 (Nat.le_of_ble_eq_true rfl)) hi172 <| Y_iast dX12_back_173 (xarr W (o := 136) s_136 (Nat.le_of_ble_eq_true rfl)) hi173 <| Y_aload_n dX12_back_174 rfl <| Y_getR dX12_back_175 f_11_86 (by rw [ft_11_36]; rfl) (xis W 113 11 s_113 (Nat.le_of_ble_eq_true rfl)) (xptr W 113 36 p_113_36) <| Y_iload_n dX12_back_178 rfl <| Y_aload_n dX12_back_179 rfl <| Y_getR dX12_back_180 f_11_203 (by rw [ft_11_85]; rfl) (xis W 113 11 s_113 (Nat.le_of_ble_eq_true rfl)) (xptr W 113 85 p_113_85) <| Y_iload_n dX12_back_183 rfl <| Y_iconst 1 dX12_back_184 ic_1 <| Y_iadd dX12_back_185 <| Y_iald dX12_back_186 (xarr W (o := 176) s_176 (Nat.le_of_ble_eq_true rfl)) hi186 <| Y_iast dX12_back_187 (xarr W (o := 137) s_137 (Nat.le_of_ble_eq_true rfl)) hi187 <| Y_aload_n dX12_back_188 rfl <| Y_getR dX12_back_189 f_11_89 (by rw [ft_11_37]; rfl) (xis W 113 11 s_113 (Nat.le_of_ble_eq_true rfl)) (xptr W 113 37 p_113_37) <| Y_iload_n dX12_back_192 rfl <| Y_aload_n dX12_back_193 rfl <| Y_getR dX12_back_194 f_11_203 (by rw [ft_11_85]; rfl) (xis W 113 11 s_113 (Nat.le_of_ble_eq_true rfl)) (xptr W 113 85 p_113_85) <| Y_iload_n dX12_back_197 rfl <| Y_iconst 2 dX12_back_198 ic_2 <| Y_iadd dX12_back_199 <| Y_iald dX12_back_200 (xarr W (o := 176) s_176 (Nat.le_of_ble_eq_true rfl)) hi200 <| Y_iast dX12_back_201 (xarr W (o := 138) s_138 (Nat.le_of_ble_eq_true rfl)) hi201 <| Y_aload_n dX12_back_202 rfl <| Y_getR dX12_back_203 f_11_92 (by rw [ft_11_38]; rfl) (xis W 113 11 s_113 (Nat.le_of_ble_eq_true rfl)) (xptr W 113 38 p_113_38) <| Y_iload_n dX12_back_206 rfl <| Y_aload_n dX12_back_207 rfl <| Y_getR dX12_back_208 f_11_203 (by rw [ft_11_85]; rfl) (xis W 113 11 s_113 (Nat.le_of_ble_eq_true rfl)) (xptr W 113 85 p_113_85) <| Y_iload_n dX12_back_211 rfl <| Y_iconst 3 dX12_back_212 ic_3 <| Y_iadd dX12_back_213 <| Y_iald dX12_back_214 (xarr W (o := 176) s_176 (Nat.le_of_ble_eq_true rfl)) hi214 <| Y_iast dX12_back_215 (xarr W (o := 139) s_139 (Nat.le_of_ble_eq_true rfl)) hi215 <| X_le (xle_s (xle_s (xle_s (xle_s xle_0)))) k
theorem bX12_back_216 {d : Nat} {g : xSt} {r : Option Value × xSt} {a1 a2 a3 : Int32} (W : xWf g) (hi228 : vp_in (a3 + 4) 900) (hi229 : vp_in a2 60) (k : xX (d + 1) mX12_back 144 [some (.ref 113), some (.int a1), some (.int (a2 + 1)), none] [] (xWI g 140 a2.toNatClampNeg (xI g 176 (a3 + 4).toNatClampNeg)) = some r) : xX (d + 1) mX12_back 216 [some (.ref 113), some (.int a1), some (.int a2), some (.int a3)] [] g = some r :=
  Y_aload_n dX12_back_216 rfl <| Y_getR dX12_back_217 f_11_95 (by rw [ft_11_39]; rfl) (xis W 113 11 s_113 (Nat.le_of_ble_eq_true rfl)) (xptr W 113 39 p_113_39) <| Y_iload_n dX12_back_220 rfl <| Y_aload_n dX12_back_221 rfl <| Y_getR dX12_back_222 f_11_203 (by rw [ft_11_85]; rfl) (xis W 113 11 s_113 (Nat.le_of_ble_eq_true rfl)) (xptr W 113 85 p_113_85) <| Y_iload_n dX12_back_225 rfl <| Y_iconst 4 dX12_back_226 ic_4 <| Y_iadd dX12_back_227 <| Y_iald dX12_back_228 (xarr W (o := 176) s_176 (Nat.le_of_ble_eq_true rfl)) hi228 <| Y_iast dX12_back_229 (xarr W (o := 140) s_140 (Nat.le_of_ble_eq_true rfl)) hi229 <| Y_iinc 1 dX12_back_230 rfl ic_1 rfl rfl <| Y_goto 144 dX12_back_233 rfl <| X_le (xle_s (xle_s (xle_s (xle_n xle_0)))) k
theorem bX12_back_236 {d : Nat} {g : xSt} {r : Option Value × xSt}  (W : xWf g) (k : r = (some (.int (xI g 113 44)), g)) : xX (d + 1) mX12_back 236 [some (.ref 113), none, none, none] [] g = some r :=
  Y_aload_n dX12_back_236 rfl <| Y_getI dX12_back_237 f_11_304 ft_11_44 (xis W 113 11 s_113 (Nat.le_of_ble_eq_true rfl)) <| Y_iret dX12_back_240 rfl k
theorem bX12_about_0 {d : Nat} {g : xSt} {r : Option Value × xSt} {a1 : Int32} (k0 : a1 = 0 → xX (d + 1) mX12_about 56 [some (.ref 113), none] [] g = some r) (k1 : a1 = 1 → xX (d + 1) mX12_about 61 [some (.ref 113), none] [] g = some r) (k2 : a1 = 2 → xX (d + 1) mX12_about 79 [some (.ref 113), none] [] g = some r) (k3 : a1 = 3 → xX (d + 1) mX12_about 89 [some (.ref 113), none] [] g = some r) (k4 : a1 = 4 → xX (d + 1) mX12_about 94 [some (.ref 113), none] [] g = some r) (k5 : a1 = 5 → xX (d + 1) mX12_about 99 [some (.ref 113), none] [] g = some r) (k6 : a1 = 6 → xX (d + 1) mX12_about 104 [some (.ref 113), none] [] g = some r) (k7 : a1 = 7 → xX (d + 1) mX12_about 109 [some (.ref 113), none] [] g = some r) (k8 : a1 = 8 → xX (d + 1) mX12_about 119 [some (.ref 113), none] [] g = some r) (k9 : a1 = 9 → xX (d + 1) mX12_about 129 [some (.ref 113), none] [] g = some r) (kd : ¬ a1 = 0 → ¬ a1 = 1 → ¬ a1 = 2 → ¬ a1 = 3 → ¬ a1 = 4 → ¬ a1 = 5 → ¬ a1 = 6 → ¬ a1 = 7 → ¬ a1 = 8 → ¬ a1 = 9 → xX (d + 1) mX12_about 134 [none, none] [] g = some r) : xX (d + 1) mX12_about 0 [some (.ref 113), some (.int a1)] [] g = some r := by
  refine Y_iload_n dX12_about_0 rfl <| ?_
  by_cases q0 : a1 = 0
  · exact Y_swc q0 dX12_about_1 (by decide +kernel) (X_le (xle_s (xle_n xle_0)) (k0 q0))
  by_cases q1 : a1 = 1
  · exact Y_swc q1 dX12_about_1 (by decide +kernel) (X_le (xle_s (xle_n xle_0)) (k1 q1))
  by_cases q2 : a1 = 2
  · exact Y_swc q2 dX12_about_1 (by decide +kernel) (X_le (xle_s (xle_n xle_0)) (k2 q2))
  by_cases q3 : a1 = 3
  · exact Y_swc q3 dX12_about_1 (by decide +kernel) (X_le (xle_s (xle_n xle_0)) (k3 q3))
  by_cases q4 : a1 = 4
  · exact Y_swc q4 dX12_about_1 (by decide +kernel) (X_le (xle_s (xle_n xle_0)) (k4 q4))
  by_cases q5 : a1 = 5
  · exact Y_swc q5 dX12_about_1 (by decide +kernel) (X_le (xle_s (xle_n xle_0)) (k5 q5))
  by_cases q6 : a1 = 6
  · exact Y_swc q6 dX12_about_1 (by decide +kernel) (X_le (xle_s (xle_n xle_0)) (k6 q6))
  by_cases q7 : a1 = 7
  · exact Y_swc q7 dX12_about_1 (by decide +kernel) (X_le (xle_s (xle_n xle_0)) (k7 q7))
  by_cases q8 : a1 = 8
  · exact Y_swc q8 dX12_about_1 (by decide +kernel) (X_le (xle_s (xle_n xle_0)) (k8 q8))
  by_cases q9 : a1 = 9
  · exact Y_swc q9 dX12_about_1 (by decide +kernel) (X_le (xle_s (xle_n xle_0)) (k9 q9))
  exact Y_swd 134 dX12_about_1 (xsw10 q0 q1 q2 q3 q4 q5 q6 q7 q8 q9) rfl (X_le (xle_n (xle_n xle_0)) (kd q0 q1 q2 q3 q4 q5 q6 q7 q8 q9))
theorem bX12_about_56 {d : Nat} {g : xSt} {r : Option Value × xSt} {r57 : Int32} {g57 : xSt} (W : xWf g) (hk57 : xCallM d mX12_thingMany [.ref 113] g = some (some (.int r57), g57)) (W57 : xWf g57) (k : r = (some (.int r57), g57)) : xX (d + 1) mX12_about 56 [some (.ref 113), none] [] g = some r :=
  Y_aload_n dX12_about_56 rfl <| Y_callV1 dX12_about_57 cl_11_364 rfl rfl (xis W 113 11 s_113 (Nat.le_of_ble_eq_true rfl)) rfl rfl rfl (hk57) <| Y_iret dX12_about_60 rfl k
theorem bX12_about_61 {d : Nat} {g : xSt} {r : Option Value × xSt}  (W : xWf g) (hi69 : vp_in (xI g 113 30) 2) (k1 : (xI g 121 (xI g 113 30).toNatClampNeg) = 0 → xX (d + 1) mX12_about 77 [none, none] [] g = some r) (k2 : ¬ ((xI g 121 (xI g 113 30).toNatClampNeg) = 0) → xX (d + 1) mX12_about 73 [none, none] [] g = some r) : xX (d + 1) mX12_about 61 [some (.ref 113), none] [] g = some r :=
  Y_aload_n dX12_about_61 rfl <| Y_getR dX12_about_62 f_11_36 (by rw [ft_11_16]; rfl) (xis W 113 11 s_113 (Nat.le_of_ble_eq_true rfl)) (xptr W 113 16 p_113_16) <| Y_aload_n dX12_about_65 rfl <| Y_getI dX12_about_66 f_11_295 ft_11_30 (xis W 113 11 s_113 (Nat.le_of_ble_eq_true rfl)) <| Y_zald dX12_about_69 (xarr W (o := 121) s_121 (Nat.le_of_ble_eq_true rfl)) hi69 <| Y_eq0 77 dX12_about_70 rfl (fun q => X_le (xle_n (xle_n xle_0)) (k1 q)) (fun q => X_le (xle_n (xle_n xle_0)) (k2 q))
theorem bX12_about_73 {d : Nat} {g : xSt} {r : Option Value × xSt}  (k : xX (d + 1) mX12_about 78 [none, none] [.int 1] g = some r) : xX (d + 1) mX12_about 73 [none, none] [] g = some r :=
  Y_iconst 1 dX12_about_73 ic_1 <| Y_goto 78 dX12_about_74 rfl <| X_le (xle_n (xle_n xle_0)) k
theorem bX12_about_77 {d : Nat} {g : xSt} {r : Option Value × xSt}  (k : xX (d + 1) mX12_about 78 [none, none] [.int 0] g = some r) : xX (d + 1) mX12_about 77 [none, none] [] g = some r :=
  Y_iconst 0 dX12_about_77 ic_0 <| X_le (xle_n (xle_n xle_0)) k
theorem bX12_about_78 {d : Nat} {g : xSt} {r : Option Value × xSt} {s0 : Int32} (k : r = (some (.int s0), g)) : xX (d + 1) mX12_about 78 [none, none] [.int s0] g = some r :=
  Y_iret dX12_about_78 rfl k
theorem bX12_about_79 {d : Nat} {g : xSt} {r : Option Value × xSt}  (W : xWf g) (hi87 : vp_in (xI g 113 30) 2) (k : r = (some (.int (xI g 117 (xI g 113 30).toNatClampNeg)), g)) : xX (d + 1) mX12_about 79 [some (.ref 113), none] [] g = some r :=
  Y_aload_n dX12_about_79 rfl <| Y_getR dX12_about_80 f_11_24 (by rw [ft_11_12]; rfl) (xis W 113 11 s_113 (Nat.le_of_ble_eq_true rfl)) (xptr W 113 12 p_113_12) <| Y_aload_n dX12_about_83 rfl <| Y_getI dX12_about_84 f_11_295 ft_11_30 (xis W 113 11 s_113 (Nat.le_of_ble_eq_true rfl)) <| Y_iald dX12_about_87 (xarr W (o := 117) s_117 (Nat.le_of_ble_eq_true rfl)) hi87 <| Y_iret dX12_about_88 rfl k
theorem bX12_about_89 {d : Nat} {g : xSt} {r : Option Value × xSt}  (W : xWf g) (k : r = (some (.int (xI g 113 44)), g)) : xX (d + 1) mX12_about 89 [some (.ref 113), none] [] g = some r :=
  Y_aload_n dX12_about_89 rfl <| Y_getI dX12_about_90 f_11_304 ft_11_44 (xis W 113 11 s_113 (Nat.le_of_ble_eq_true rfl)) <| Y_iret dX12_about_93 rfl k
theorem bX12_about_94 {d : Nat} {g : xSt} {r : Option Value × xSt}  (W : xWf g) (k : r = (some (.int (xI g 113 45)), g)) : xX (d + 1) mX12_about 94 [some (.ref 113), none] [] g = some r :=
  Y_aload_n dX12_about_94 rfl <| Y_getI dX12_about_95 f_11_377 ft_11_45 (xis W 113 11 s_113 (Nat.le_of_ble_eq_true rfl)) <| Y_iret dX12_about_98 rfl k
theorem bX12_about_99 {d : Nat} {g : xSt} {r : Option Value × xSt}  (W : xWf g) (k : r = (some (.int (xI g 113 2)), g)) : xX (d + 1) mX12_about 99 [some (.ref 113), none] [] g = some r :=
  Y_aload_n dX12_about_99 rfl <| Y_getI dX12_about_100 f_11_292 ft_11_2 (xis W 113 11 s_113 (Nat.le_of_ble_eq_true rfl)) <| Y_iret dX12_about_103 rfl k
theorem bX12_about_104 {d : Nat} {g : xSt} {r : Option Value × xSt}  (W : xWf g) (k : r = (some (.int (xI g 113 54)), g)) : xX (d + 1) mX12_about 104 [some (.ref 113), none] [] g = some r :=
  Y_aload_n dX12_about_104 rfl <| Y_getI dX12_about_105 f_11_313 ft_11_54 (xis W 113 11 s_113 (Nat.le_of_ble_eq_true rfl)) <| Y_iret dX12_about_108 rfl k
theorem bX12_about_109 {d : Nat} {g : xSt} {r : Option Value × xSt}  (W : xWf g) (hi117 : vp_in (xI g 113 30) 2) (k : r = (some (.int (xI g 126 (xI g 113 30).toNatClampNeg)), g)) : xX (d + 1) mX12_about 109 [some (.ref 113), none] [] g = some r :=
  Y_aload_n dX12_about_109 rfl <| Y_getR dX12_about_110 f_11_53 (by rw [ft_11_21]; rfl) (xis W 113 11 s_113 (Nat.le_of_ble_eq_true rfl)) (xptr W 113 21 p_113_21) <| Y_aload_n dX12_about_113 rfl <| Y_getI dX12_about_114 f_11_295 ft_11_30 (xis W 113 11 s_113 (Nat.le_of_ble_eq_true rfl)) <| Y_iald dX12_about_117 (xarr W (o := 126) s_126 (Nat.le_of_ble_eq_true rfl)) hi117 <| Y_iret dX12_about_118 rfl k
theorem bX12_about_119 {d : Nat} {g : xSt} {r : Option Value × xSt}  (W : xWf g) (hi127 : vp_in (xI g 113 30) 2) (k : r = (some (.int (xI g 127 (xI g 113 30).toNatClampNeg)), g)) : xX (d + 1) mX12_about 119 [some (.ref 113), none] [] g = some r :=
  Y_aload_n dX12_about_119 rfl <| Y_getR dX12_about_120 f_11_56 (by rw [ft_11_22]; rfl) (xis W 113 11 s_113 (Nat.le_of_ble_eq_true rfl)) (xptr W 113 22 p_113_22) <| Y_aload_n dX12_about_123 rfl <| Y_getI dX12_about_124 f_11_295 ft_11_30 (xis W 113 11 s_113 (Nat.le_of_ble_eq_true rfl)) <| Y_iald dX12_about_127 (xarr W (o := 127) s_127 (Nat.le_of_ble_eq_true rfl)) hi127 <| Y_iret dX12_about_128 rfl k
theorem bX12_about_129 {d : Nat} {g : xSt} {r : Option Value × xSt}  (W : xWf g) (k : r = (some (.int (xI g 113 46)), g)) : xX (d + 1) mX12_about 129 [some (.ref 113), none] [] g = some r :=
  Y_aload_n dX12_about_129 rfl <| Y_getI dX12_about_130 f_11_307 ft_11_46 (xis W 113 11 s_113 (Nat.le_of_ble_eq_true rfl)) <| Y_iret dX12_about_133 rfl k
theorem bX12_about_134 {d : Nat} {g : xSt} {r : Option Value × xSt}  (k : r = (some (.int (-1)), g)) : xX (d + 1) mX12_about 134 [none, none] [] g = some r :=
  Y_iconst (-1) dX12_about_134 ic_m1 <| Y_iret dX12_about_135 rfl k
theorem bX12_feed_0 {d : Nat} {g : xSt} {r : Option Value × xSt} {a1 a2 a3 a4 a5 : Int32} (W : xWf g) (k1 : ((xI g 113 2) + 20) ≤ 1200 → xX d mX12_feed 15 [some (.ref 113), some (.int a1), some (.int a2), some (.int a3), some (.int a4), some (.int a5), none, none] [] g = some r) (k2 : ¬ (((xI g 113 2) + 20) ≤ 1200) → xX d mX12_feed 13 [none, none, none, none, none, none, none, none] [] g = some r) : xX d mX12_feed 0 [some (.ref 113), some (.int a1), some (.int a2), some (.int a3), some (.int a4), some (.int a5), none, none] [] g = some r :=
  Y_aload_n dX12_feed_0 rfl <| Y_getI dX12_feed_1 f_11_292 ft_11_2 (xis W 113 11 s_113 (Nat.le_of_ble_eq_true rfl)) <| Y_bipush 20 dX12_feed_4 bp_20 <| Y_iadd dX12_feed_6 <| Y_sipush 1200 dX12_feed_7 sp_1200 <| Y_le 15 dX12_feed_10 rfl (fun q => X_le (xle_s (xle_s (xle_s (xle_s (xle_s (xle_s (xle_n (xle_n xle_0)))))))) (k1 q)) (fun q => X_le (xle_n (xle_n (xle_n (xle_n (xle_n (xle_n (xle_n (xle_n xle_0)))))))) (k2 q))
theorem bX12_feed_13 {d : Nat} {g : xSt} {r : Option Value × xSt}  (k : r = (some (.int (-1)), g)) : xX d mX12_feed 13 [none, none, none, none, none, none, none, none] [] g = some r :=
  Y_iconst (-1) dX12_feed_13 ic_m1 <| Y_iret dX12_feed_14 rfl k
theorem bX12_feed_15 {d : Nat} {g : xSt} {r : Option Value × xSt} {a1 a2 a3 a4 a5 : Int32} (k : xX d mX12_feed 18 [some (.ref 113), some (.int a1), some (.int a2), some (.int a3), some (.int a4), some (.int a5), some (.int 0), none] [] g = some r) : xX d mX12_feed 15 [some (.ref 113), some (.int a1), some (.int a2), some (.int a3), some (.int a4), some (.int a5), none, none] [] g = some r :=
  Y_iconst 0 dX12_feed_15 ic_0 <| Y_istore dX12_feed_16 rfl rfl <| X_le (xle_s (xle_s (xle_s (xle_s (xle_s (xle_s (xle_s (xle_n xle_0)))))))) k
theorem bX12_feed_18 {d : Nat} {g : xSt} {r : Option Value × xSt} {a1 a2 a3 a4 a5 a6 : Int32} (k1 : 20 ≤ a6 → xX d mX12_feed 105 [some (.ref 113), none, none, none, none, none, none, none] [] g = some r) (k2 : ¬ (20 ≤ a6) → xX d mX12_feed 25 [some (.ref 113), some (.int a1), some (.int a2), some (.int a3), some (.int a4), some (.int a5), some (.int a6), none] [] g = some r) : xX d mX12_feed 18 [some (.ref 113), some (.int a1), some (.int a2), some (.int a3), some (.int a4), some (.int a5), some (.int a6), none] [] g = some r :=
  Y_iload dX12_feed_18 rfl <| Y_bipush 20 dX12_feed_20 bp_20 <| Y_ge 105 dX12_feed_22 rfl (fun q => X_le (xle_s (xle_n (xle_n (xle_n (xle_n (xle_n (xle_n (xle_n xle_0)))))))) (k1 q)) (fun q => X_le (xle_s (xle_s (xle_s (xle_s (xle_s (xle_s (xle_s (xle_n xle_0)))))))) (k2 q))
theorem bX12_feed_25 {d : Nat} {g : xSt} {r : Option Value × xSt} {a1 a2 a3 a4 a5 a6 : Int32} (k1 : 4 ≤ a6 → xX d mX12_feed 35 [some (.ref 113), some (.int a1), some (.int a2), some (.int a3), some (.int a4), some (.int a5), some (.int a6), none] [] g = some r) (k2 : ¬ (4 ≤ a6) → xX d mX12_feed 31 [some (.ref 113), some (.int a1), some (.int a2), some (.int a3), some (.int a4), some (.int a5), some (.int a6), none] [] g = some r) : xX d mX12_feed 25 [some (.ref 113), some (.int a1), some (.int a2), some (.int a3), some (.int a4), some (.int a5), some (.int a6), none] [] g = some r :=
  Y_iload dX12_feed_25 rfl <| Y_iconst 4 dX12_feed_27 ic_4 <| Y_ge 35 dX12_feed_28 rfl (fun q => X_le (xle_s (xle_s (xle_s (xle_s (xle_s (xle_s (xle_s (xle_n xle_0)))))))) (k1 q)) (fun q => X_le (xle_s (xle_s (xle_s (xle_s (xle_s (xle_s (xle_s (xle_n xle_0)))))))) (k2 q))
theorem bX12_feed_31 {d : Nat} {g : xSt} {r : Option Value × xSt} {a1 a2 a3 a4 a5 a6 : Int32} (k : xX d mX12_feed 71 [some (.ref 113), some (.int a1), some (.int a2), some (.int a3), some (.int a4), some (.int a5), some (.int a6), none] [.int a1] g = some r) : xX d mX12_feed 31 [some (.ref 113), some (.int a1), some (.int a2), some (.int a3), some (.int a4), some (.int a5), some (.int a6), none] [] g = some r :=
  Y_iload_n dX12_feed_31 rfl <| Y_goto 71 dX12_feed_32 rfl <| X_le (xle_s (xle_s (xle_s (xle_s (xle_s (xle_s (xle_s (xle_n xle_0)))))))) k
theorem bX12_feed_35 {d : Nat} {g : xSt} {r : Option Value × xSt} {a1 a2 a3 a4 a5 a6 : Int32} (k1 : 8 ≤ a6 → xX d mX12_feed 46 [some (.ref 113), some (.int a1), some (.int a2), some (.int a3), some (.int a4), some (.int a5), some (.int a6), none] [] g = some r) (k2 : ¬ (8 ≤ a6) → xX d mX12_feed 42 [some (.ref 113), some (.int a1), some (.int a2), some (.int a3), some (.int a4), some (.int a5), some (.int a6), none] [] g = some r) : xX d mX12_feed 35 [some (.ref 113), some (.int a1), some (.int a2), some (.int a3), some (.int a4), some (.int a5), some (.int a6), none] [] g = some r :=
  Y_iload dX12_feed_35 rfl <| Y_bipush 8 dX12_feed_37 bp_8 <| Y_ge 46 dX12_feed_39 rfl (fun q => X_le (xle_s (xle_s (xle_s (xle_s (xle_s (xle_s (xle_s (xle_n xle_0)))))))) (k1 q)) (fun q => X_le (xle_s (xle_s (xle_s (xle_s (xle_s (xle_s (xle_s (xle_n xle_0)))))))) (k2 q))
theorem bX12_feed_42 {d : Nat} {g : xSt} {r : Option Value × xSt} {a1 a2 a3 a4 a5 a6 : Int32} (k : xX d mX12_feed 71 [some (.ref 113), some (.int a1), some (.int a2), some (.int a3), some (.int a4), some (.int a5), some (.int a6), none] [.int a2] g = some r) : xX d mX12_feed 42 [some (.ref 113), some (.int a1), some (.int a2), some (.int a3), some (.int a4), some (.int a5), some (.int a6), none] [] g = some r :=
  Y_iload_n dX12_feed_42 rfl <| Y_goto 71 dX12_feed_43 rfl <| X_le (xle_s (xle_s (xle_s (xle_s (xle_s (xle_s (xle_s (xle_n xle_0)))))))) k
theorem bX12_feed_46 {d : Nat} {g : xSt} {r : Option Value × xSt} {a1 a2 a3 a4 a5 a6 : Int32} (k1 : 12 ≤ a6 → xX d mX12_feed 57 [some (.ref 113), some (.int a1), some (.int a2), some (.int a3), some (.int a4), some (.int a5), some (.int a6), none] [] g = some r) (k2 : ¬ (12 ≤ a6) → xX d mX12_feed 53 [some (.ref 113), some (.int a1), some (.int a2), some (.int a3), some (.int a4), some (.int a5), some (.int a6), none] [] g = some r) : xX d mX12_feed 46 [some (.ref 113), some (.int a1), some (.int a2), some (.int a3), some (.int a4), some (.int a5), some (.int a6), none] [] g = some r :=
  Y_iload dX12_feed_46 rfl <| Y_bipush 12 dX12_feed_48 bp_12 <| Y_ge 57 dX12_feed_50 rfl (fun q => X_le (xle_s (xle_s (xle_s (xle_s (xle_s (xle_s (xle_s (xle_n xle_0)))))))) (k1 q)) (fun q => X_le (xle_s (xle_s (xle_s (xle_s (xle_s (xle_s (xle_s (xle_n xle_0)))))))) (k2 q))
theorem bX12_feed_53 {d : Nat} {g : xSt} {r : Option Value × xSt} {a1 a2 a3 a4 a5 a6 : Int32} (k : xX d mX12_feed 71 [some (.ref 113), some (.int a1), some (.int a2), some (.int a3), some (.int a4), some (.int a5), some (.int a6), none] [.int a3] g = some r) : xX d mX12_feed 53 [some (.ref 113), some (.int a1), some (.int a2), some (.int a3), some (.int a4), some (.int a5), some (.int a6), none] [] g = some r :=
  Y_iload_n dX12_feed_53 rfl <| Y_goto 71 dX12_feed_54 rfl <| X_le (xle_s (xle_s (xle_s (xle_s (xle_s (xle_s (xle_s (xle_n xle_0)))))))) k
theorem bX12_feed_57 {d : Nat} {g : xSt} {r : Option Value × xSt} {a1 a2 a3 a4 a5 a6 : Int32} (k1 : 16 ≤ a6 → xX d mX12_feed 69 [some (.ref 113), some (.int a1), some (.int a2), some (.int a3), some (.int a4), some (.int a5), some (.int a6), none] [] g = some r) (k2 : ¬ (16 ≤ a6) → xX d mX12_feed 64 [some (.ref 113), some (.int a1), some (.int a2), some (.int a3), some (.int a4), some (.int a5), some (.int a6), none] [] g = some r) : xX d mX12_feed 57 [some (.ref 113), some (.int a1), some (.int a2), some (.int a3), some (.int a4), some (.int a5), some (.int a6), none] [] g = some r :=
  Y_iload dX12_feed_57 rfl <| Y_bipush 16 dX12_feed_59 bp_16 <| Y_ge 69 dX12_feed_61 rfl (fun q => X_le (xle_s (xle_s (xle_s (xle_s (xle_s (xle_s (xle_s (xle_n xle_0)))))))) (k1 q)) (fun q => X_le (xle_s (xle_s (xle_s (xle_s (xle_s (xle_s (xle_s (xle_n xle_0)))))))) (k2 q))
theorem bX12_feed_64 {d : Nat} {g : xSt} {r : Option Value × xSt} {a1 a2 a3 a4 a5 a6 : Int32} (k : xX d mX12_feed 71 [some (.ref 113), some (.int a1), some (.int a2), some (.int a3), some (.int a4), some (.int a5), some (.int a6), none] [.int a4] g = some r) : xX d mX12_feed 64 [some (.ref 113), some (.int a1), some (.int a2), some (.int a3), some (.int a4), some (.int a5), some (.int a6), none] [] g = some r :=
  Y_iload dX12_feed_64 rfl <| Y_goto 71 dX12_feed_66 rfl <| X_le (xle_s (xle_s (xle_s (xle_s (xle_s (xle_s (xle_s (xle_n xle_0)))))))) k
theorem bX12_feed_69 {d : Nat} {g : xSt} {r : Option Value × xSt} {a1 a2 a3 a4 a5 a6 : Int32} (k : xX d mX12_feed 71 [some (.ref 113), some (.int a1), some (.int a2), some (.int a3), some (.int a4), some (.int a5), some (.int a6), none] [.int a5] g = some r) : xX d mX12_feed 69 [some (.ref 113), some (.int a1), some (.int a2), some (.int a3), some (.int a4), some (.int a5), some (.int a6), none] [] g = some r :=
  Y_iload dX12_feed_69 rfl <| X_le (xle_s (xle_s (xle_s (xle_s (xle_s (xle_s (xle_s (xle_n xle_0)))))))) k
theorem bX12_feed_71 {d : Nat} {g : xSt} {r : Option Value × xSt} {a1 a2 a3 a4 a5 a6 s0 : Int32} (W : xWf g) (hi98 : vp_in ((xI g 113 2) + a6) 1220) (k : xX d mX12_feed 18 [some (.ref 113), some (.int a1), some (.int a2), some (.int a3), some (.int a4), some (.int a5), some (.int (a6 + 1)), none] [] (xWI g 114 ((xI g 113 2) + a6).toNatClampNeg (Int32.toInt8 ((Int32.toInt8 (s0 >>> ((24 - (8 * (a6 &&& 3))) &&& 31))).toInt32)).toInt32) = some r) : xX d mX12_feed 71 [some (.ref 113), some (.int a1), some (.int a2), some (.int a3), some (.int a4), some (.int a5), some (.int a6), none] [.int s0] g = some r :=
  Y_istore dX12_feed_71 rfl rfl <| Y_aload_n dX12_feed_73 rfl <| Y_getR dX12_feed_74 f_11_7 (by rw [ft_11_0]; rfl) (xis W 113 11 s_113 (Nat.le_of_ble_eq_true rfl)) (xptr W 113 0 p_113_0) <| Y_aload_n dX12_feed_77 rfl <| Y_getI dX12_feed_78 f_11_292 ft_11_2 (xis W 113 11 s_113 (Nat.le_of_ble_eq_true rfl)) <| Y_iload dX12_feed_81 rfl <| Y_iadd dX12_feed_83 <| Y_iload dX12_feed_84 rfl <| Y_bipush 24 dX12_feed_86 bp_24 <| Y_bipush 8 dX12_feed_88 bp_8 <| Y_iload dX12_feed_90 rfl <| Y_iconst 3 dX12_feed_92 ic_3 <| Y_iand dX12_feed_93 <| Y_imul dX12_feed_94 <| Y_isub dX12_feed_95 <| Y_ishr dX12_feed_96 <| Y_i2b dX12_feed_97 <| Y_bast dX12_feed_98 (xarr W (o := 114) s_114 (Nat.le_of_ble_eq_true rfl)) hi98 <| Y_iinc 1 dX12_feed_99 rfl ic_1 rfl rfl <| Y_goto 18 dX12_feed_102 rfl <| X_le (xle_s (xle_s (xle_s (xle_s (xle_s (xle_s (xle_s (xle_n xle_0)))))))) k
theorem bX12_feed_105 {d : Nat} {g : xSt} {r : Option Value × xSt}  (W : xWf g) (k : r = (some (.int ((xI g 113 2) + 20)), xWI g 113 2 ((xI g 113 2) + 20))) : xX d mX12_feed 105 [some (.ref 113), none, none, none, none, none, none, none] [] g = some r :=
  Y_aload_n dX12_feed_105 rfl <| Y_dup dX12_feed_106 rfl <| Y_getI dX12_feed_107 f_11_292 ft_11_2 (xis W 113 11 s_113 (Nat.le_of_ble_eq_true rfl)) <| Y_bipush 20 dX12_feed_110 bp_20 <| Y_iadd dX12_feed_112 <| Y_putI dX12_feed_113 f_11_292 fn_11_2 ft_11_2 (xis W 113 11 s_113 (Nat.le_of_ble_eq_true rfl)) <| Y_aload_n dX12_feed_116 rfl <| Y_getI dX12_feed_117 f_11_292 ft_11_2 (xis W 113 11 s_113 (Nat.le_of_ble_eq_true rfl)) <| Y_iret dX12_feed_120 rfl k
theorem bX12_end_0 {d : Nat} {g : xSt} {r : Option Value × xSt} {a1 : Int32} (k1 : a1 < 0 → xX d mX12_end 12 [none, none] [] g = some r) (k2 : ¬ (a1 < 0) → xX d mX12_end 4 [some (.ref 113), some (.int a1)] [] g = some r) : xX d mX12_end 0 [some (.ref 113), some (.int a1)] [] g = some r :=
  Y_iload_n dX12_end_0 rfl <| Y_lt0 12 dX12_end_1 rfl (fun q => X_le (xle_n (xle_n xle_0)) (k1 q)) (fun q => X_le (xle_s (xle_s xle_0)) (k2 q))
theorem bX12_end_4 {d : Nat} {g : xSt} {r : Option Value × xSt} {a1 : Int32} (W : xWf g) (k1 : a1 ≤ (xI g 113 2) → xX d mX12_end 14 [some (.ref 113), some (.int a1)] [] g = some r) (k2 : ¬ (a1 ≤ (xI g 113 2)) → xX d mX12_end 12 [none, none] [] g = some r) : xX d mX12_end 4 [some (.ref 113), some (.int a1)] [] g = some r :=
  Y_iload_n dX12_end_4 rfl <| Y_aload_n dX12_end_5 rfl <| Y_getI dX12_end_6 f_11_292 ft_11_2 (xis W 113 11 s_113 (Nat.le_of_ble_eq_true rfl)) <| Y_le 14 dX12_end_9 rfl (fun q => X_le (xle_s (xle_s xle_0)) (k1 q)) (fun q => X_le (xle_n (xle_n xle_0)) (k2 q))
theorem bX12_end_12 {d : Nat} {g : xSt} {r : Option Value × xSt}  (k : r = (some (.int (-1)), g)) : xX d mX12_end 12 [none, none] [] g = some r :=
  Y_iconst (-1) dX12_end_12 ic_m1 <| Y_iret dX12_end_13 rfl k
theorem bX12_end_14 {d : Nat} {g : xSt} {r : Option Value × xSt} {a1 : Int32} (W : xWf g) (k : r = (some (.int a1), xWI g 113 2 a1)) : xX d mX12_end 14 [some (.ref 113), some (.int a1)] [] g = some r :=
  Y_aload_n dX12_end_14 rfl <| Y_iload_n dX12_end_15 rfl <| Y_putI dX12_end_16 f_11_292 fn_11_2 ft_11_2 (xis W 113 11 s_113 (Nat.le_of_ble_eq_true rfl)) <| Y_iload_n dX12_end_19 rfl <| Y_iret dX12_end_20 rfl k
