/-! stretches of HeavierRow$Reader, by program (wip/whole/genall.py) -/
theorem dX6_read_0 : decode mX6_read.2.1 0 = .ok (.aload_n 0, 1) := by decide +kernel
theorem dX6_read_1 : decode mX6_read.2.1 1 = .ok (.aload_n 1, 1) := by decide +kernel
theorem dX6_read_2 : decode mX6_read.2.1 2 = .ok (.putfield 33, 3) := by decide +kernel
theorem dX6_read_5 : decode mX6_read.2.1 5 = .ok (.aload_n 0, 1) := by decide +kernel
theorem dX6_read_6 : decode mX6_read.2.1 6 = .ok (.iload_n 2, 1) := by decide +kernel
theorem dX6_read_7 : decode mX6_read.2.1 7 = .ok (.putfield 58, 3) := by decide +kernel
theorem dX6_read_10 : decode mX6_read.2.1 10 = .ok (.aload_n 0, 1) := by decide +kernel
theorem dX6_read_11 : decode mX6_read.2.1 11 = .ok (.aload_n 3, 1) := by decide +kernel
theorem dX6_read_12 : decode mX6_read.2.1 12 = .ok (.putfield 40, 3) := by decide +kernel
theorem dX6_read_15 : decode mX6_read.2.1 15 = .ok (.aload_n 0, 1) := by decide +kernel
theorem dX6_read_16 : decode mX6_read.2.1 16 = .ok (.getfield 40, 3) := by decide +kernel
theorem dX6_read_19 : decode mX6_read.2.1 19 = .ok (.invokevirtual 60, 3) := by decide +kernel
theorem dX6_read_22 : decode mX6_read.2.1 22 = .ok (.aload_n 0, 1) := by decide +kernel
theorem dX6_read_23 : decode mX6_read.2.1 23 = .ok (.iconst 0, 1) := by decide +kernel
theorem dX6_read_24 : decode mX6_read.2.1 24 = .ok (.putfield 63, 3) := by decide +kernel
theorem dX6_read_27 : decode mX6_read.2.1 27 = .ok (.aload_n 0, 1) := by decide +kernel
theorem dX6_read_28 : decode mX6_read.2.1 28 = .ok (.iconst (-1), 1) := by decide +kernel
theorem dX6_read_29 : decode mX6_read.2.1 29 = .ok (.putfield 44, 3) := by decide +kernel
theorem dX6_read_32 : decode mX6_read.2.1 32 = .ok (.aload_n 0, 1) := by decide +kernel
theorem dX6_read_33 : decode mX6_read.2.1 33 = .ok (.iconst 0, 1) := by decide +kernel
theorem dX6_read_34 : decode mX6_read.2.1 34 = .ok (.putfield 66, 3) := by decide +kernel
theorem dX6_read_37 : decode mX6_read.2.1 37 = .ok (.aload_n 0, 1) := by decide +kernel
theorem dX6_read_38 : decode mX6_read.2.1 38 = .ok (.invokevirtual 69, 3) := by decide +kernel
theorem dX6_read_41 : decode mX6_read.2.1 41 = .ok (.iconst 0, 1) := by decide +kernel
theorem dX6_read_42 : decode mX6_read.2.1 42 = .ok (.istore 4, 2) := by decide +kernel
theorem dX6_read_44 : decode mX6_read.2.1 44 = .ok (.iload 4, 2) := by decide +kernel
theorem dX6_read_46 : decode mX6_read.2.1 46 = .ok (.aload_n 0, 1) := by decide +kernel
theorem dX6_read_47 : decode mX6_read.2.1 47 = .ok (.getfield 58, 3) := by decide +kernel
theorem dX6_read_50 : decode mX6_read.2.1 50 = .ok (.if_icmp .gt 27, 3) := by decide +kernel
theorem dX6_read_53 : decode mX6_read.2.1 53 = .ok (.aload_n 0, 1) := by decide +kernel
theorem dX6_read_54 : decode mX6_read.2.1 54 = .ok (.getfield 63, 3) := by decide +kernel
theorem dX6_read_57 : decode mX6_read.2.1 57 = .ok (.ifCond .ne 20, 3) := by decide +kernel
theorem dX6_read_60 : decode mX6_read.2.1 60 = .ok (.aload_n 0, 1) := by decide +kernel
theorem dX6_read_61 : decode mX6_read.2.1 61 = .ok (.getfield 72, 3) := by decide +kernel
theorem dX6_read_64 : decode mX6_read.2.1 64 = .ok (.ifCond .eq 13, 3) := by decide +kernel
theorem dX6_read_67 : decode mX6_read.2.1 67 = .ok (.aload_n 0, 1) := by decide +kernel
theorem dX6_read_68 : decode mX6_read.2.1 68 = .ok (.invokevirtual 75, 3) := by decide +kernel
theorem dX6_read_71 : decode mX6_read.2.1 71 = .ok (.iinc 4 1, 3) := by decide +kernel
theorem dX6_read_74 : decode mX6_read.2.1 74 = .ok (.goto (-30), 3) := by decide +kernel
theorem dX6_read_77 : decode mX6_read.2.1 77 = .ok (.aload_n 0, 1) := by decide +kernel
theorem dX6_read_78 : decode mX6_read.2.1 78 = .ok (.getfield 40, 3) := by decide +kernel
theorem dX6_read_81 : decode mX6_read.2.1 81 = .ok (.invokevirtual 78, 3) := by decide +kernel
theorem dX6_read_84 : decode mX6_read.2.1 84 = .ok (.return_, 1) := by decide +kernel
theorem dX6_advance_0 : decode mX6_advance.2.1 0 = .ok (.aload_n 0, 1) := by decide +kernel
theorem dX6_advance_1 : decode mX6_advance.2.1 1 = .ok (.aload_n 0, 1) := by decide +kernel
theorem dX6_advance_2 : decode mX6_advance.2.1 2 = .ok (.getfield 66, 3) := by decide +kernel
theorem dX6_advance_5 : decode mX6_advance.2.1 5 = .ok (.putfield 81, 3) := by decide +kernel
theorem dX6_advance_8 : decode mX6_advance.2.1 8 = .ok (.aload_n 0, 1) := by decide +kernel
theorem dX6_advance_9 : decode mX6_advance.2.1 9 = .ok (.getfield 81, 3) := by decide +kernel
theorem dX6_advance_12 : decode mX6_advance.2.1 12 = .ok (.aload_n 0, 1) := by decide +kernel
theorem dX6_advance_13 : decode mX6_advance.2.1 13 = .ok (.getfield 58, 3) := by decide +kernel
theorem dX6_advance_16 : decode mX6_advance.2.1 16 = .ok (.if_icmp .ge 42, 3) := by decide +kernel
theorem dX6_advance_19 : decode mX6_advance.2.1 19 = .ok (.aload_n 0, 1) := by decide +kernel
theorem dX6_advance_20 : decode mX6_advance.2.1 20 = .ok (.aload_n 0, 1) := by decide +kernel
theorem dX6_advance_21 : decode mX6_advance.2.1 21 = .ok (.getfield 81, 3) := by decide +kernel
theorem dX6_advance_24 : decode mX6_advance.2.1 24 = .ok (.invokevirtual 205, 3) := by decide +kernel
theorem dX6_advance_27 : decode mX6_advance.2.1 27 = .ok (.bipush 32, 2) := by decide +kernel
theorem dX6_advance_29 : decode mX6_advance.2.1 29 = .ok (.if_icmp .eq 16, 3) := by decide +kernel
theorem dX6_advance_32 : decode mX6_advance.2.1 32 = .ok (.aload_n 0, 1) := by decide +kernel
theorem dX6_advance_33 : decode mX6_advance.2.1 33 = .ok (.aload_n 0, 1) := by decide +kernel
theorem dX6_advance_34 : decode mX6_advance.2.1 34 = .ok (.getfield 81, 3) := by decide +kernel
theorem dX6_advance_37 : decode mX6_advance.2.1 37 = .ok (.invokevirtual 205, 3) := by decide +kernel
theorem dX6_advance_40 : decode mX6_advance.2.1 40 = .ok (.bipush 10, 2) := by decide +kernel
theorem dX6_advance_42 : decode mX6_advance.2.1 42 = .ok (.if_icmp .ne 16, 3) := by decide +kernel
theorem dX6_advance_45 : decode mX6_advance.2.1 45 = .ok (.aload_n 0, 1) := by decide +kernel
theorem dX6_advance_46 : decode mX6_advance.2.1 46 = .ok (.dup, 1) := by decide +kernel
theorem dX6_advance_47 : decode mX6_advance.2.1 47 = .ok (.getfield 81, 3) := by decide +kernel
theorem dX6_advance_50 : decode mX6_advance.2.1 50 = .ok (.iconst 1, 1) := by decide +kernel
theorem dX6_advance_51 : decode mX6_advance.2.1 51 = .ok (.iadd, 1) := by decide +kernel
theorem dX6_advance_52 : decode mX6_advance.2.1 52 = .ok (.putfield 81, 3) := by decide +kernel
theorem dX6_advance_55 : decode mX6_advance.2.1 55 = .ok (.goto (-47), 3) := by decide +kernel
theorem dX6_advance_58 : decode mX6_advance.2.1 58 = .ok (.aload_n 0, 1) := by decide +kernel
theorem dX6_advance_59 : decode mX6_advance.2.1 59 = .ok (.aload_n 0, 1) := by decide +kernel
theorem dX6_advance_60 : decode mX6_advance.2.1 60 = .ok (.getfield 81, 3) := by decide +kernel
theorem dX6_advance_63 : decode mX6_advance.2.1 63 = .ok (.putfield 66, 3) := by decide +kernel
theorem dX6_advance_66 : decode mX6_advance.2.1 66 = .ok (.aload_n 0, 1) := by decide +kernel
theorem dX6_advance_67 : decode mX6_advance.2.1 67 = .ok (.lconst 0, 1) := by decide +kernel
theorem dX6_advance_68 : decode mX6_advance.2.1 68 = .ok (.putfield 110, 3) := by decide +kernel
theorem dX6_advance_71 : decode mX6_advance.2.1 71 = .ok (.aload_n 0, 1) := by decide +kernel
theorem dX6_advance_72 : decode mX6_advance.2.1 72 = .ok (.iconst 0, 1) := by decide +kernel
theorem dX6_advance_73 : decode mX6_advance.2.1 73 = .ok (.putfield 199, 3) := by decide +kernel
theorem dX6_advance_76 : decode mX6_advance.2.1 76 = .ok (.aload_n 0, 1) := by decide +kernel
theorem dX6_advance_77 : decode mX6_advance.2.1 77 = .ok (.getfield 66, 3) := by decide +kernel
theorem dX6_advance_80 : decode mX6_advance.2.1 80 = .ok (.aload_n 0, 1) := by decide +kernel
theorem dX6_advance_81 : decode mX6_advance.2.1 81 = .ok (.getfield 58, 3) := by decide +kernel
theorem dX6_advance_84 : decode mX6_advance.2.1 84 = .ok (.if_icmp .ge 51, 3) := by decide +kernel
theorem dX6_advance_87 : decode mX6_advance.2.1 87 = .ok (.aload_n 0, 1) := by decide +kernel
theorem dX6_advance_88 : decode mX6_advance.2.1 88 = .ok (.aload_n 0, 1) := by decide +kernel
theorem dX6_advance_89 : decode mX6_advance.2.1 89 = .ok (.getfield 66, 3) := by decide +kernel
theorem dX6_advance_92 : decode mX6_advance.2.1 92 = .ok (.invokevirtual 205, 3) := by decide +kernel
theorem dX6_advance_95 : decode mX6_advance.2.1 95 = .ok (.invokestatic 208, 3) := by decide +kernel
theorem dX6_advance_98 : decode mX6_advance.2.1 98 = .ok (.ifCond .eq 37, 3) := by decide +kernel
theorem dX6_advance_101 : decode mX6_advance.2.1 101 = .ok (.aload_n 0, 1) := by decide +kernel
theorem dX6_advance_102 : decode mX6_advance.2.1 102 = .ok (.aload_n 0, 1) := by decide +kernel
theorem dX6_advance_103 : decode mX6_advance.2.1 103 = .ok (.getfield 110, 3) := by decide +kernel
theorem dX6_advance_106 : decode mX6_advance.2.1 106 = .ok (.bipush 8, 2) := by decide +kernel
theorem dX6_advance_108 : decode mX6_advance.2.1 108 = .ok (.lshl, 1) := by decide +kernel
theorem dX6_advance_109 : decode mX6_advance.2.1 109 = .ok (.aload_n 0, 1) := by decide +kernel
theorem dX6_advance_110 : decode mX6_advance.2.1 110 = .ok (.aload_n 0, 1) := by decide +kernel
theorem dX6_advance_111 : decode mX6_advance.2.1 111 = .ok (.getfield 66, 3) := by decide +kernel
theorem dX6_advance_114 : decode mX6_advance.2.1 114 = .ok (.invokevirtual 205, 3) := by decide +kernel
theorem dX6_advance_117 : decode mX6_advance.2.1 117 = .ok (.i2l, 1) := by decide +kernel
theorem dX6_advance_118 : decode mX6_advance.2.1 118 = .ok (.lor, 1) := by decide +kernel
theorem dX6_advance_119 : decode mX6_advance.2.1 119 = .ok (.putfield 110, 3) := by decide +kernel
theorem dX6_advance_122 : decode mX6_advance.2.1 122 = .ok (.aload_n 0, 1) := by decide +kernel
theorem dX6_advance_123 : decode mX6_advance.2.1 123 = .ok (.dup, 1) := by decide +kernel
theorem dX6_advance_124 : decode mX6_advance.2.1 124 = .ok (.getfield 66, 3) := by decide +kernel
theorem dX6_advance_127 : decode mX6_advance.2.1 127 = .ok (.iconst 1, 1) := by decide +kernel
theorem dX6_advance_128 : decode mX6_advance.2.1 128 = .ok (.iadd, 1) := by decide +kernel
theorem dX6_advance_129 : decode mX6_advance.2.1 129 = .ok (.putfield 66, 3) := by decide +kernel
theorem dX6_advance_132 : decode mX6_advance.2.1 132 = .ok (.goto (-56), 3) := by decide +kernel
theorem dX6_advance_135 : decode mX6_advance.2.1 135 = .ok (.aload_n 0, 1) := by decide +kernel
theorem dX6_advance_136 : decode mX6_advance.2.1 136 = .ok (.getfield 66, 3) := by decide +kernel
theorem dX6_advance_139 : decode mX6_advance.2.1 139 = .ok (.aload_n 0, 1) := by decide +kernel
theorem dX6_advance_140 : decode mX6_advance.2.1 140 = .ok (.getfield 81, 3) := by decide +kernel
theorem dX6_advance_143 : decode mX6_advance.2.1 143 = .ok (.if_icmp .le 47, 3) := by decide +kernel
theorem dX6_advance_146 : decode mX6_advance.2.1 146 = .ok (.aload_n 0, 1) := by decide +kernel
theorem dX6_advance_147 : decode mX6_advance.2.1 147 = .ok (.aload_n 0, 1) := by decide +kernel
theorem dX6_advance_148 : decode mX6_advance.2.1 148 = .ok (.getfield 66, 3) := by decide +kernel
theorem dX6_advance_151 : decode mX6_advance.2.1 151 = .ok (.aload_n 0, 1) := by decide +kernel
theorem dX6_advance_152 : decode mX6_advance.2.1 152 = .ok (.getfield 81, 3) := by decide +kernel
theorem dX6_advance_155 : decode mX6_advance.2.1 155 = .ok (.isub, 1) := by decide +kernel
theorem dX6_advance_156 : decode mX6_advance.2.1 156 = .ok (.bipush 8, 2) := by decide +kernel
theorem dX6_advance_158 : decode mX6_advance.2.1 158 = .ok (.if_icmp .le 7, 3) := by decide +kernel
theorem dX6_advance_161 : decode mX6_advance.2.1 161 = .ok (.iconst 3, 1) := by decide +kernel
theorem dX6_advance_162 : decode mX6_advance.2.1 162 = .ok (.goto 4, 3) := by decide +kernel
theorem dX6_advance_165 : decode mX6_advance.2.1 165 = .ok (.iconst 1, 1) := by decide +kernel
theorem dX6_advance_166 : decode mX6_advance.2.1 166 = .ok (.putfield 72, 3) := by decide +kernel
theorem dX6_advance_169 : decode mX6_advance.2.1 169 = .ok (.aload_n 0, 1) := by decide +kernel
theorem dX6_advance_170 : decode mX6_advance.2.1 170 = .ok (.aload_n 0, 1) := by decide +kernel
theorem dX6_advance_171 : decode mX6_advance.2.1 171 = .ok (.getfield 29, 3) := by decide +kernel
theorem dX6_advance_174 : decode mX6_advance.2.1 174 = .ok (.aload_n 0, 1) := by decide +kernel
theorem dX6_advance_175 : decode mX6_advance.2.1 175 = .ok (.getfield 29, 3) := by decide +kernel
theorem dX6_advance_178 : decode mX6_advance.2.1 178 = .ok (.arraylength, 1) := by decide +kernel
theorem dX6_advance_179 : decode mX6_advance.2.1 179 = .ok (.aload_n 0, 1) := by decide +kernel
theorem dX6_advance_180 : decode mX6_advance.2.1 180 = .ok (.getfield 110, 3) := by decide +kernel
theorem dX6_advance_183 : decode mX6_advance.2.1 183 = .ok (.invokestatic 211, 3) := by decide +kernel
theorem dX6_advance_186 : decode mX6_advance.2.1 186 = .ok (.putfield 202, 3) := by decide +kernel
theorem dX6_advance_189 : decode mX6_advance.2.1 189 = .ok (.return_, 1) := by decide +kernel
theorem dX6_advance_190 : decode mX6_advance.2.1 190 = .ok (.aload_n 0, 1) := by decide +kernel
theorem dX6_advance_191 : decode mX6_advance.2.1 191 = .ok (.getfield 66, 3) := by decide +kernel
theorem dX6_advance_194 : decode mX6_advance.2.1 194 = .ok (.aload_n 0, 1) := by decide +kernel
theorem dX6_advance_195 : decode mX6_advance.2.1 195 = .ok (.getfield 58, 3) := by decide +kernel
theorem dX6_advance_198 : decode mX6_advance.2.1 198 = .ok (.if_icmp .ge 53, 3) := by decide +kernel
theorem dX6_advance_201 : decode mX6_advance.2.1 201 = .ok (.aload_n 0, 1) := by decide +kernel
theorem dX6_advance_202 : decode mX6_advance.2.1 202 = .ok (.aload_n 0, 1) := by decide +kernel
theorem dX6_advance_203 : decode mX6_advance.2.1 203 = .ok (.getfield 66, 3) := by decide +kernel
theorem dX6_advance_206 : decode mX6_advance.2.1 206 = .ok (.invokevirtual 205, 3) := by decide +kernel
theorem dX6_advance_209 : decode mX6_advance.2.1 209 = .ok (.invokestatic 215, 3) := by decide +kernel
theorem dX6_advance_212 : decode mX6_advance.2.1 212 = .ok (.ifCond .eq 39, 3) := by decide +kernel
theorem dX6_advance_215 : decode mX6_advance.2.1 215 = .ok (.aload_n 0, 1) := by decide +kernel
theorem dX6_advance_216 : decode mX6_advance.2.1 216 = .ok (.bipush 10, 2) := by decide +kernel
theorem dX6_advance_218 : decode mX6_advance.2.1 218 = .ok (.aload_n 0, 1) := by decide +kernel
theorem dX6_advance_219 : decode mX6_advance.2.1 219 = .ok (.getfield 199, 3) := by decide +kernel
theorem dX6_advance_222 : decode mX6_advance.2.1 222 = .ok (.imul, 1) := by decide +kernel
theorem dX6_advance_223 : decode mX6_advance.2.1 223 = .ok (.aload_n 0, 1) := by decide +kernel
theorem dX6_advance_224 : decode mX6_advance.2.1 224 = .ok (.aload_n 0, 1) := by decide +kernel
theorem dX6_advance_225 : decode mX6_advance.2.1 225 = .ok (.getfield 66, 3) := by decide +kernel
theorem dX6_advance_228 : decode mX6_advance.2.1 228 = .ok (.invokevirtual 205, 3) := by decide +kernel
theorem dX6_advance_231 : decode mX6_advance.2.1 231 = .ok (.iadd, 1) := by decide +kernel
theorem dX6_advance_232 : decode mX6_advance.2.1 232 = .ok (.bipush 48, 2) := by decide +kernel
theorem dX6_advance_234 : decode mX6_advance.2.1 234 = .ok (.isub, 1) := by decide +kernel
theorem dX6_advance_235 : decode mX6_advance.2.1 235 = .ok (.putfield 199, 3) := by decide +kernel
theorem dX6_advance_238 : decode mX6_advance.2.1 238 = .ok (.aload_n 0, 1) := by decide +kernel
theorem dX6_advance_239 : decode mX6_advance.2.1 239 = .ok (.dup, 1) := by decide +kernel
theorem dX6_advance_240 : decode mX6_advance.2.1 240 = .ok (.getfield 66, 3) := by decide +kernel
theorem dX6_advance_243 : decode mX6_advance.2.1 243 = .ok (.iconst 1, 1) := by decide +kernel
theorem dX6_advance_244 : decode mX6_advance.2.1 244 = .ok (.iadd, 1) := by decide +kernel
theorem dX6_advance_245 : decode mX6_advance.2.1 245 = .ok (.putfield 66, 3) := by decide +kernel
theorem dX6_advance_248 : decode mX6_advance.2.1 248 = .ok (.goto (-58), 3) := by decide +kernel
theorem dX6_advance_251 : decode mX6_advance.2.1 251 = .ok (.aload_n 0, 1) := by decide +kernel
theorem dX6_advance_252 : decode mX6_advance.2.1 252 = .ok (.getfield 66, 3) := by decide +kernel
theorem dX6_advance_255 : decode mX6_advance.2.1 255 = .ok (.aload_n 0, 1) := by decide +kernel
theorem dX6_advance_256 : decode mX6_advance.2.1 256 = .ok (.getfield 81, 3) := by decide +kernel
theorem dX6_advance_259 : decode mX6_advance.2.1 259 = .ok (.if_icmp .le 40, 3) := by decide +kernel
theorem dX6_advance_262 : decode mX6_advance.2.1 262 = .ok (.aload_n 0, 1) := by decide +kernel
theorem dX6_advance_263 : decode mX6_advance.2.1 263 = .ok (.aload_n 0, 1) := by decide +kernel
theorem dX6_advance_264 : decode mX6_advance.2.1 264 = .ok (.getfield 66, 3) := by decide +kernel
theorem dX6_advance_267 : decode mX6_advance.2.1 267 = .ok (.aload_n 0, 1) := by decide +kernel
theorem dX6_advance_268 : decode mX6_advance.2.1 268 = .ok (.getfield 81, 3) := by decide +kernel
theorem dX6_advance_271 : decode mX6_advance.2.1 271 = .ok (.isub, 1) := by decide +kernel
theorem dX6_advance_272 : decode mX6_advance.2.1 272 = .ok (.iconst 4, 1) := by decide +kernel
theorem dX6_advance_273 : decode mX6_advance.2.1 273 = .ok (.if_icmp .gt 17, 3) := by decide +kernel
theorem dX6_advance_276 : decode mX6_advance.2.1 276 = .ok (.aload_n 0, 1) := by decide +kernel
theorem dX6_advance_277 : decode mX6_advance.2.1 277 = .ok (.aload_n 0, 1) := by decide +kernel
theorem dX6_advance_278 : decode mX6_advance.2.1 278 = .ok (.getfield 66, 3) := by decide +kernel
theorem dX6_advance_281 : decode mX6_advance.2.1 281 = .ok (.invokevirtual 205, 3) := by decide +kernel
theorem dX6_advance_284 : decode mX6_advance.2.1 284 = .ok (.invokestatic 208, 3) := by decide +kernel
theorem dX6_advance_287 : decode mX6_advance.2.1 287 = .ok (.ifCond .eq 7, 3) := by decide +kernel
theorem dX6_advance_290 : decode mX6_advance.2.1 290 = .ok (.iconst 3, 1) := by decide +kernel
theorem dX6_advance_291 : decode mX6_advance.2.1 291 = .ok (.goto 4, 3) := by decide +kernel
theorem dX6_advance_294 : decode mX6_advance.2.1 294 = .ok (.iconst 2, 1) := by decide +kernel
theorem dX6_advance_295 : decode mX6_advance.2.1 295 = .ok (.putfield 72, 3) := by decide +kernel
theorem dX6_advance_298 : decode mX6_advance.2.1 298 = .ok (.return_, 1) := by decide +kernel
theorem dX6_advance_299 : decode mX6_advance.2.1 299 = .ok (.aload_n 0, 1) := by decide +kernel
theorem dX6_advance_300 : decode mX6_advance.2.1 300 = .ok (.aload_n 0, 1) := by decide +kernel
theorem dX6_advance_301 : decode mX6_advance.2.1 301 = .ok (.getfield 81, 3) := by decide +kernel
theorem dX6_advance_304 : decode mX6_advance.2.1 304 = .ok (.aload_n 0, 1) := by decide +kernel
theorem dX6_advance_305 : decode mX6_advance.2.1 305 = .ok (.getfield 58, 3) := by decide +kernel
theorem dX6_advance_308 : decode mX6_advance.2.1 308 = .ok (.if_icmp .lt 7, 3) := by decide +kernel
theorem dX6_advance_311 : decode mX6_advance.2.1 311 = .ok (.iconst 0, 1) := by decide +kernel
theorem dX6_advance_312 : decode mX6_advance.2.1 312 = .ok (.goto 29, 3) := by decide +kernel
theorem dX6_advance_315 : decode mX6_advance.2.1 315 = .ok (.aload_n 0, 1) := by decide +kernel
theorem dX6_advance_316 : decode mX6_advance.2.1 316 = .ok (.aload_n 0, 1) := by decide +kernel
theorem dX6_advance_317 : decode mX6_advance.2.1 317 = .ok (.getfield 81, 3) := by decide +kernel
theorem dX6_advance_320 : decode mX6_advance.2.1 320 = .ok (.invokevirtual 205, 3) := by decide +kernel
theorem dX6_advance_323 : decode mX6_advance.2.1 323 = .ok (.invokestatic 218, 3) := by decide +kernel
theorem dX6_advance_326 : decode mX6_advance.2.1 326 = .ok (.ifCond .eq 14, 3) := by decide +kernel
theorem dX6_advance_329 : decode mX6_advance.2.1 329 = .ok (.aload_n 0, 1) := by decide +kernel
theorem dX6_advance_330 : decode mX6_advance.2.1 330 = .ok (.aload_n 0, 1) := by decide +kernel
theorem dX6_advance_331 : decode mX6_advance.2.1 331 = .ok (.getfield 81, 3) := by decide +kernel
theorem dX6_advance_334 : decode mX6_advance.2.1 334 = .ok (.invokevirtual 205, 3) := by decide +kernel
theorem dX6_advance_337 : decode mX6_advance.2.1 337 = .ok (.goto 4, 3) := by decide +kernel
theorem dX6_advance_340 : decode mX6_advance.2.1 340 = .ok (.iconst 3, 1) := by decide +kernel
theorem dX6_advance_341 : decode mX6_advance.2.1 341 = .ok (.putfield 72, 3) := by decide +kernel
theorem dX6_advance_344 : decode mX6_advance.2.1 344 = .ok (.aload_n 0, 1) := by decide +kernel
theorem dX6_advance_345 : decode mX6_advance.2.1 345 = .ok (.aload_n 0, 1) := by decide +kernel
theorem dX6_advance_346 : decode mX6_advance.2.1 346 = .ok (.getfield 81, 3) := by decide +kernel
theorem dX6_advance_349 : decode mX6_advance.2.1 349 = .ok (.iconst 1, 1) := by decide +kernel
theorem dX6_advance_350 : decode mX6_advance.2.1 350 = .ok (.iadd, 1) := by decide +kernel
theorem dX6_advance_351 : decode mX6_advance.2.1 351 = .ok (.aload_n 0, 1) := by decide +kernel
theorem dX6_advance_352 : decode mX6_advance.2.1 352 = .ok (.getfield 58, 3) := by decide +kernel
theorem dX6_advance_355 : decode mX6_advance.2.1 355 = .ok (.invokestatic 221, 3) := by decide +kernel
theorem dX6_advance_358 : decode mX6_advance.2.1 358 = .ok (.putfield 66, 3) := by decide +kernel
theorem dX6_advance_361 : decode mX6_advance.2.1 361 = .ok (.return_, 1) := by decide +kernel
theorem dX6_byteAt_0 : decode mX6_byteAt.2.1 0 = .ok (.iload_n 1, 1) := by decide +kernel
theorem dX6_byteAt_1 : decode mX6_byteAt.2.1 1 = .ok (.ifCond .lt 33, 3) := by decide +kernel
theorem dX6_byteAt_4 : decode mX6_byteAt.2.1 4 = .ok (.iload_n 1, 1) := by decide +kernel
theorem dX6_byteAt_5 : decode mX6_byteAt.2.1 5 = .ok (.aload_n 0, 1) := by decide +kernel
theorem dX6_byteAt_6 : decode mX6_byteAt.2.1 6 = .ok (.getfield 58, 3) := by decide +kernel
theorem dX6_byteAt_9 : decode mX6_byteAt.2.1 9 = .ok (.if_icmp .ge 25, 3) := by decide +kernel
theorem dX6_byteAt_12 : decode mX6_byteAt.2.1 12 = .ok (.iload_n 1, 1) := by decide +kernel
theorem dX6_byteAt_13 : decode mX6_byteAt.2.1 13 = .ok (.aload_n 0, 1) := by decide +kernel
theorem dX6_byteAt_14 : decode mX6_byteAt.2.1 14 = .ok (.getfield 33, 3) := by decide +kernel
theorem dX6_byteAt_17 : decode mX6_byteAt.2.1 17 = .ok (.arraylength, 1) := by decide +kernel
theorem dX6_byteAt_18 : decode mX6_byteAt.2.1 18 = .ok (.if_icmp .ge 16, 3) := by decide +kernel
theorem dX6_byteAt_21 : decode mX6_byteAt.2.1 21 = .ok (.aload_n 0, 1) := by decide +kernel
theorem dX6_byteAt_22 : decode mX6_byteAt.2.1 22 = .ok (.getfield 33, 3) := by decide +kernel
theorem dX6_byteAt_25 : decode mX6_byteAt.2.1 25 = .ok (.iload_n 1, 1) := by decide +kernel
theorem dX6_byteAt_26 : decode mX6_byteAt.2.1 26 = .ok (.baload, 1) := by decide +kernel
theorem dX6_byteAt_27 : decode mX6_byteAt.2.1 27 = .ok (.sipush 255, 3) := by decide +kernel
theorem dX6_byteAt_30 : decode mX6_byteAt.2.1 30 = .ok (.iand, 1) := by decide +kernel
theorem dX6_byteAt_31 : decode mX6_byteAt.2.1 31 = .ok (.goto 4, 3) := by decide +kernel
theorem dX6_byteAt_34 : decode mX6_byteAt.2.1 34 = .ok (.iconst (-1), 1) := by decide +kernel
theorem dX6_byteAt_35 : decode mX6_byteAt.2.1 35 = .ok (.ireturn, 1) := by decide +kernel
theorem dX6_isLetter_0 : decode mX6_isLetter.2.1 0 = .ok (.iload_n 0, 1) := by decide +kernel
theorem dX6_isLetter_1 : decode mX6_isLetter.2.1 1 = .ok (.bipush 97, 2) := by decide +kernel
theorem dX6_isLetter_3 : decode mX6_isLetter.2.1 3 = .ok (.if_icmp .lt 13, 3) := by decide +kernel
theorem dX6_isLetter_6 : decode mX6_isLetter.2.1 6 = .ok (.iload_n 0, 1) := by decide +kernel
theorem dX6_isLetter_7 : decode mX6_isLetter.2.1 7 = .ok (.bipush 122, 2) := by decide +kernel
theorem dX6_isLetter_9 : decode mX6_isLetter.2.1 9 = .ok (.if_icmp .gt 7, 3) := by decide +kernel
theorem dX6_isLetter_12 : decode mX6_isLetter.2.1 12 = .ok (.iconst 1, 1) := by decide +kernel
theorem dX6_isLetter_13 : decode mX6_isLetter.2.1 13 = .ok (.goto 4, 3) := by decide +kernel
theorem dX6_isLetter_16 : decode mX6_isLetter.2.1 16 = .ok (.iconst 0, 1) := by decide +kernel
theorem dX6_isLetter_17 : decode mX6_isLetter.2.1 17 = .ok (.ireturn, 1) := by decide +kernel
theorem dX6_isDigit_0 : decode mX6_isDigit.2.1 0 = .ok (.iload_n 0, 1) := by decide +kernel
theorem dX6_isDigit_1 : decode mX6_isDigit.2.1 1 = .ok (.bipush 48, 2) := by decide +kernel
theorem dX6_isDigit_3 : decode mX6_isDigit.2.1 3 = .ok (.if_icmp .lt 13, 3) := by decide +kernel
theorem dX6_isDigit_6 : decode mX6_isDigit.2.1 6 = .ok (.iload_n 0, 1) := by decide +kernel
theorem dX6_isDigit_7 : decode mX6_isDigit.2.1 7 = .ok (.bipush 57, 2) := by decide +kernel
theorem dX6_isDigit_9 : decode mX6_isDigit.2.1 9 = .ok (.if_icmp .gt 7, 3) := by decide +kernel
theorem dX6_isDigit_12 : decode mX6_isDigit.2.1 12 = .ok (.iconst 1, 1) := by decide +kernel
theorem dX6_isDigit_13 : decode mX6_isDigit.2.1 13 = .ok (.goto 4, 3) := by decide +kernel
theorem dX6_isDigit_16 : decode mX6_isDigit.2.1 16 = .ok (.iconst 0, 1) := by decide +kernel
theorem dX6_isDigit_17 : decode mX6_isDigit.2.1 17 = .ok (.ireturn, 1) := by decide +kernel
theorem dX6_isSign_0 : decode mX6_isSign.2.1 0 = .ok (.iload_n 0, 1) := by decide +kernel
theorem dX6_isSign_1 : decode mX6_isSign.2.1 1 = .ok (.bipush 59, 2) := by decide +kernel
theorem dX6_isSign_3 : decode mX6_isSign.2.1 3 = .ok (.if_icmp .eq 21, 3) := by decide +kernel
theorem dX6_isSign_6 : decode mX6_isSign.2.1 6 = .ok (.iload_n 0, 1) := by decide +kernel
theorem dX6_isSign_7 : decode mX6_isSign.2.1 7 = .ok (.bipush 40, 2) := by decide +kernel
theorem dX6_isSign_9 : decode mX6_isSign.2.1 9 = .ok (.if_icmp .eq 15, 3) := by decide +kernel
theorem dX6_isSign_12 : decode mX6_isSign.2.1 12 = .ok (.iload_n 0, 1) := by decide +kernel
theorem dX6_isSign_13 : decode mX6_isSign.2.1 13 = .ok (.bipush 41, 2) := by decide +kernel
theorem dX6_isSign_15 : decode mX6_isSign.2.1 15 = .ok (.if_icmp .eq 9, 3) := by decide +kernel
theorem dX6_isSign_18 : decode mX6_isSign.2.1 18 = .ok (.iload_n 0, 1) := by decide +kernel
theorem dX6_isSign_19 : decode mX6_isSign.2.1 19 = .ok (.bipush 47, 2) := by decide +kernel
theorem dX6_isSign_21 : decode mX6_isSign.2.1 21 = .ok (.if_icmp .ne 7, 3) := by decide +kernel
theorem dX6_isSign_24 : decode mX6_isSign.2.1 24 = .ok (.iconst 1, 1) := by decide +kernel
theorem dX6_isSign_25 : decode mX6_isSign.2.1 25 = .ok (.goto 4, 3) := by decide +kernel
theorem dX6_isSign_28 : decode mX6_isSign.2.1 28 = .ok (.iconst 0, 1) := by decide +kernel
theorem dX6_isSign_29 : decode mX6_isSign.2.1 29 = .ok (.ireturn, 1) := by decide +kernel
theorem dX6_readLine_0 : decode mX6_readLine.2.1 0 = .ok (.aload_n 0, 1) := by decide +kernel
theorem dX6_readLine_1 : decode mX6_readLine.2.1 1 = .ok (.iconst 0, 1) := by decide +kernel
theorem dX6_readLine_2 : decode mX6_readLine.2.1 2 = .ok (.invokevirtual 84, 3) := by decide +kernel
theorem dX6_readLine_5 : decode mX6_readLine.2.1 5 = .ok (.ifCond .eq 10, 3) := by decide +kernel
theorem dX6_readLine_8 : decode mX6_readLine.2.1 8 = .ok (.aload_n 0, 1) := by decide +kernel
theorem dX6_readLine_9 : decode mX6_readLine.2.1 9 = .ok (.invokevirtual 88, 3) := by decide +kernel
theorem dX6_readLine_12 : decode mX6_readLine.2.1 12 = .ok (.goto 68, 3) := by decide +kernel
theorem dX6_readLine_15 : decode mX6_readLine.2.1 15 = .ok (.aload_n 0, 1) := by decide +kernel
theorem dX6_readLine_16 : decode mX6_readLine.2.1 16 = .ok (.iconst 2, 1) := by decide +kernel
theorem dX6_readLine_17 : decode mX6_readLine.2.1 17 = .ok (.invokevirtual 84, 3) := by decide +kernel
theorem dX6_readLine_20 : decode mX6_readLine.2.1 20 = .ok (.ifCond .eq 10, 3) := by decide +kernel
theorem dX6_readLine_23 : decode mX6_readLine.2.1 23 = .ok (.aload_n 0, 1) := by decide +kernel
theorem dX6_readLine_24 : decode mX6_readLine.2.1 24 = .ok (.invokevirtual 91, 3) := by decide +kernel
theorem dX6_readLine_27 : decode mX6_readLine.2.1 27 = .ok (.goto 53, 3) := by decide +kernel
theorem dX6_readLine_30 : decode mX6_readLine.2.1 30 = .ok (.aload_n 0, 1) := by decide +kernel
theorem dX6_readLine_31 : decode mX6_readLine.2.1 31 = .ok (.iconst 3, 1) := by decide +kernel
theorem dX6_readLine_32 : decode mX6_readLine.2.1 32 = .ok (.invokevirtual 84, 3) := by decide +kernel
theorem dX6_readLine_35 : decode mX6_readLine.2.1 35 = .ok (.ifCond .eq 10, 3) := by decide +kernel
theorem dX6_readLine_38 : decode mX6_readLine.2.1 38 = .ok (.aload_n 0, 1) := by decide +kernel
theorem dX6_readLine_39 : decode mX6_readLine.2.1 39 = .ok (.invokevirtual 94, 3) := by decide +kernel
theorem dX6_readLine_42 : decode mX6_readLine.2.1 42 = .ok (.goto 38, 3) := by decide +kernel
theorem dX6_readLine_45 : decode mX6_readLine.2.1 45 = .ok (.aload_n 0, 1) := by decide +kernel
theorem dX6_readLine_46 : decode mX6_readLine.2.1 46 = .ok (.iconst 4, 1) := by decide +kernel
theorem dX6_readLine_47 : decode mX6_readLine.2.1 47 = .ok (.invokevirtual 84, 3) := by decide +kernel
theorem dX6_readLine_50 : decode mX6_readLine.2.1 50 = .ok (.ifCond .eq 10, 3) := by decide +kernel
theorem dX6_readLine_53 : decode mX6_readLine.2.1 53 = .ok (.aload_n 0, 1) := by decide +kernel
theorem dX6_readLine_54 : decode mX6_readLine.2.1 54 = .ok (.invokevirtual 97, 3) := by decide +kernel
theorem dX6_readLine_57 : decode mX6_readLine.2.1 57 = .ok (.goto 23, 3) := by decide +kernel
theorem dX6_readLine_60 : decode mX6_readLine.2.1 60 = .ok (.aload_n 0, 1) := by decide +kernel
theorem dX6_readLine_61 : decode mX6_readLine.2.1 61 = .ok (.iconst 5, 1) := by decide +kernel
theorem dX6_readLine_62 : decode mX6_readLine.2.1 62 = .ok (.invokevirtual 84, 3) := by decide +kernel
theorem dX6_readLine_65 : decode mX6_readLine.2.1 65 = .ok (.ifCond .eq 10, 3) := by decide +kernel
theorem dX6_readLine_68 : decode mX6_readLine.2.1 68 = .ok (.aload_n 0, 1) := by decide +kernel
theorem dX6_readLine_69 : decode mX6_readLine.2.1 69 = .ok (.invokevirtual 100, 3) := by decide +kernel
theorem dX6_readLine_72 : decode mX6_readLine.2.1 72 = .ok (.goto 8, 3) := by decide +kernel
theorem dX6_readLine_75 : decode mX6_readLine.2.1 75 = .ok (.aload_n 0, 1) := by decide +kernel
theorem dX6_readLine_76 : decode mX6_readLine.2.1 76 = .ok (.iconst 2, 1) := by decide +kernel
theorem dX6_readLine_77 : decode mX6_readLine.2.1 77 = .ok (.invokevirtual 103, 3) := by decide +kernel
theorem dX6_readLine_80 : decode mX6_readLine.2.1 80 = .ok (.return_, 1) := by decide +kernel
theorem dX6_isOwn_0 : decode mX6_isOwn.2.1 0 = .ok (.aload_n 0, 1) := by decide +kernel
theorem dX6_isOwn_1 : decode mX6_isOwn.2.1 1 = .ok (.getfield 72, 3) := by decide +kernel
theorem dX6_isOwn_4 : decode mX6_isOwn.2.1 4 = .ok (.iconst 1, 1) := by decide +kernel
theorem dX6_isOwn_5 : decode mX6_isOwn.2.1 5 = .ok (.if_icmp .ne 15, 3) := by decide +kernel
theorem dX6_isOwn_8 : decode mX6_isOwn.2.1 8 = .ok (.aload_n 0, 1) := by decide +kernel
theorem dX6_isOwn_9 : decode mX6_isOwn.2.1 9 = .ok (.getfield 202, 3) := by decide +kernel
theorem dX6_isOwn_12 : decode mX6_isOwn.2.1 12 = .ok (.iload_n 1, 1) := by decide +kernel
theorem dX6_isOwn_13 : decode mX6_isOwn.2.1 13 = .ok (.if_icmp .ne 7, 3) := by decide +kernel
theorem dX6_isOwn_16 : decode mX6_isOwn.2.1 16 = .ok (.iconst 1, 1) := by decide +kernel
theorem dX6_isOwn_17 : decode mX6_isOwn.2.1 17 = .ok (.goto 4, 3) := by decide +kernel
theorem dX6_isOwn_20 : decode mX6_isOwn.2.1 20 = .ok (.iconst 0, 1) := by decide +kernel
theorem dX6_isOwn_21 : decode mX6_isOwn.2.1 21 = .ok (.ireturn, 1) := by decide +kernel
theorem dX6_readThing_0 : decode mX6_readThing.2.1 0 = .ok (.aload_n 0, 1) := by decide +kernel
theorem dX6_readThing_1 : decode mX6_readThing.2.1 1 = .ok (.getfield 40, 3) := by decide +kernel
theorem dX6_readThing_4 : decode mX6_readThing.2.1 4 = .ok (.getfield 107, 3) := by decide +kernel
theorem dX6_readThing_7 : decode mX6_readThing.2.1 7 = .ok (.iconst 5, 1) := by decide +kernel
theorem dX6_readThing_8 : decode mX6_readThing.2.1 8 = .ok (.if_icmp .lt 8, 3) := by decide +kernel
theorem dX6_readThing_11 : decode mX6_readThing.2.1 11 = .ok (.aload_n 0, 1) := by decide +kernel
theorem dX6_readThing_12 : decode mX6_readThing.2.1 12 = .ok (.iconst 2, 1) := by decide +kernel
theorem dX6_readThing_13 : decode mX6_readThing.2.1 13 = .ok (.invokevirtual 103, 3) := by decide +kernel
theorem dX6_readThing_16 : decode mX6_readThing.2.1 16 = .ok (.aload_n 0, 1) := by decide +kernel
theorem dX6_readThing_17 : decode mX6_readThing.2.1 17 = .ok (.invokevirtual 69, 3) := by decide +kernel
theorem dX6_readThing_20 : decode mX6_readThing.2.1 20 = .ok (.aload_n 0, 1) := by decide +kernel
theorem dX6_readThing_21 : decode mX6_readThing.2.1 21 = .ok (.aload_n 0, 1) := by decide +kernel
theorem dX6_readThing_22 : decode mX6_readThing.2.1 22 = .ok (.getfield 40, 3) := by decide +kernel
theorem dX6_readThing_25 : decode mX6_readThing.2.1 25 = .ok (.aload_n 0, 1) := by decide +kernel
theorem dX6_readThing_26 : decode mX6_readThing.2.1 26 = .ok (.getfield 110, 3) := by decide +kernel
theorem dX6_readThing_29 : decode mX6_readThing.2.1 29 = .ok (.invokevirtual 114, 3) := by decide +kernel
theorem dX6_readThing_32 : decode mX6_readThing.2.1 32 = .ok (.invokevirtual 118, 3) := by decide +kernel
theorem dX6_readThing_35 : decode mX6_readThing.2.1 35 = .ok (.lstore_n 1, 1) := by decide +kernel
theorem dX6_readThing_36 : decode mX6_readThing.2.1 36 = .ok (.aload_n 0, 1) := by decide +kernel
theorem dX6_readThing_37 : decode mX6_readThing.2.1 37 = .ok (.iconst 1, 1) := by decide +kernel
theorem dX6_readThing_38 : decode mX6_readThing.2.1 38 = .ok (.invokevirtual 122, 3) := by decide +kernel
theorem dX6_readThing_41 : decode mX6_readThing.2.1 41 = .ok (.aload_n 0, 1) := by decide +kernel
theorem dX6_readThing_42 : decode mX6_readThing.2.1 42 = .ok (.iconst 1, 1) := by decide +kernel
theorem dX6_readThing_43 : decode mX6_readThing.2.1 43 = .ok (.sipush 999, 3) := by decide +kernel
theorem dX6_readThing_46 : decode mX6_readThing.2.1 46 = .ok (.invokevirtual 125, 3) := by decide +kernel
theorem dX6_readThing_49 : decode mX6_readThing.2.1 49 = .ok (.istore_n 3, 1) := by decide +kernel
theorem dX6_readThing_50 : decode mX6_readThing.2.1 50 = .ok (.aload_n 0, 1) := by decide +kernel
theorem dX6_readThing_51 : decode mX6_readThing.2.1 51 = .ok (.bipush 59, 2) := by decide +kernel
theorem dX6_readThing_53 : decode mX6_readThing.2.1 53 = .ok (.invokevirtual 129, 3) := by decide +kernel
theorem dX6_readThing_56 : decode mX6_readThing.2.1 56 = .ok (.aload_n 0, 1) := by decide +kernel
theorem dX6_readThing_57 : decode mX6_readThing.2.1 57 = .ok (.getfield 63, 3) := by decide +kernel
theorem dX6_readThing_60 : decode mX6_readThing.2.1 60 = .ok (.ifCond .ne 12, 3) := by decide +kernel
theorem dX6_readThing_63 : decode mX6_readThing.2.1 63 = .ok (.aload_n 0, 1) := by decide +kernel
theorem dX6_readThing_64 : decode mX6_readThing.2.1 64 = .ok (.getfield 40, 3) := by decide +kernel
theorem dX6_readThing_67 : decode mX6_readThing.2.1 67 = .ok (.lload_n 1, 1) := by decide +kernel
theorem dX6_readThing_68 : decode mX6_readThing.2.1 68 = .ok (.iload_n 3, 1) := by decide +kernel
theorem dX6_readThing_69 : decode mX6_readThing.2.1 69 = .ok (.invokevirtual 132, 3) := by decide +kernel
theorem dX6_readThing_72 : decode mX6_readThing.2.1 72 = .ok (.return_, 1) := by decide +kernel
theorem dX6_fail_0 : decode mX6_fail.2.1 0 = .ok (.aload_n 0, 1) := by decide +kernel
theorem dX6_fail_1 : decode mX6_fail.2.1 1 = .ok (.getfield 63, 3) := by decide +kernel
theorem dX6_fail_4 : decode mX6_fail.2.1 4 = .ok (.ifCond .ne 41, 3) := by decide +kernel
theorem dX6_fail_7 : decode mX6_fail.2.1 7 = .ok (.aload_n 0, 1) := by decide +kernel
theorem dX6_fail_8 : decode mX6_fail.2.1 8 = .ok (.aload_n 0, 1) := by decide +kernel
theorem dX6_fail_9 : decode mX6_fail.2.1 9 = .ok (.getfield 72, 3) := by decide +kernel
theorem dX6_fail_12 : decode mX6_fail.2.1 12 = .ok (.iconst 3, 1) := by decide +kernel
theorem dX6_fail_13 : decode mX6_fail.2.1 13 = .ok (.if_icmp .ne 7, 3) := by decide +kernel
theorem dX6_fail_16 : decode mX6_fail.2.1 16 = .ok (.iconst 1, 1) := by decide +kernel
theorem dX6_fail_17 : decode mX6_fail.2.1 17 = .ok (.goto 4, 3) := by decide +kernel
theorem dX6_fail_20 : decode mX6_fail.2.1 20 = .ok (.iload_n 1, 1) := by decide +kernel
theorem dX6_fail_21 : decode mX6_fail.2.1 21 = .ok (.putfield 63, 3) := by decide +kernel
theorem dX6_fail_24 : decode mX6_fail.2.1 24 = .ok (.aload_n 0, 1) := by decide +kernel
theorem dX6_fail_25 : decode mX6_fail.2.1 25 = .ok (.aload_n 0, 1) := by decide +kernel
theorem dX6_fail_26 : decode mX6_fail.2.1 26 = .ok (.getfield 81, 3) := by decide +kernel
theorem dX6_fail_29 : decode mX6_fail.2.1 29 = .ok (.putfield 44, 3) := by decide +kernel
theorem dX6_fail_32 : decode mX6_fail.2.1 32 = .ok (.aload_n 0, 1) := by decide +kernel
theorem dX6_fail_33 : decode mX6_fail.2.1 33 = .ok (.iconst 0, 1) := by decide +kernel
theorem dX6_fail_34 : decode mX6_fail.2.1 34 = .ok (.putfield 72, 3) := by decide +kernel
theorem dX6_fail_37 : decode mX6_fail.2.1 37 = .ok (.aload_n 0, 1) := by decide +kernel
theorem dX6_fail_38 : decode mX6_fail.2.1 38 = .ok (.aload_n 0, 1) := by decide +kernel
theorem dX6_fail_39 : decode mX6_fail.2.1 39 = .ok (.getfield 58, 3) := by decide +kernel
theorem dX6_fail_42 : decode mX6_fail.2.1 42 = .ok (.putfield 66, 3) := by decide +kernel
theorem dX6_fail_45 : decode mX6_fail.2.1 45 = .ok (.return_, 1) := by decide +kernel
theorem dX6_takeNewName_0 : decode mX6_takeNewName.2.1 0 = .ok (.aload_n 0, 1) := by decide +kernel
theorem dX6_takeNewName_1 : decode mX6_takeNewName.2.1 1 = .ok (.invokevirtual 151, 3) := by decide +kernel
theorem dX6_takeNewName_4 : decode mX6_takeNewName.2.1 4 = .ok (.ifCond .ne 8, 3) := by decide +kernel
theorem dX6_takeNewName_7 : decode mX6_takeNewName.2.1 7 = .ok (.aload_n 0, 1) := by decide +kernel
theorem dX6_takeNewName_8 : decode mX6_takeNewName.2.1 8 = .ok (.iconst 2, 1) := by decide +kernel
theorem dX6_takeNewName_9 : decode mX6_takeNewName.2.1 9 = .ok (.invokevirtual 103, 3) := by decide +kernel
theorem dX6_takeNewName_12 : decode mX6_takeNewName.2.1 12 = .ok (.iload_n 1, 1) := by decide +kernel
theorem dX6_takeNewName_13 : decode mX6_takeNewName.2.1 13 = .ok (.iconst (-1), 1) := by decide +kernel
theorem dX6_takeNewName_14 : decode mX6_takeNewName.2.1 14 = .ok (.if_icmp .eq 8, 3) := by decide +kernel
theorem dX6_takeNewName_17 : decode mX6_takeNewName.2.1 17 = .ok (.aload_n 0, 1) := by decide +kernel
theorem dX6_takeNewName_18 : decode mX6_takeNewName.2.1 18 = .ok (.iconst 3, 1) := by decide +kernel
theorem dX6_takeNewName_19 : decode mX6_takeNewName.2.1 19 = .ok (.invokevirtual 103, 3) := by decide +kernel
theorem dX6_takeNewName_22 : decode mX6_takeNewName.2.1 22 = .ok (.aload_n 0, 1) := by decide +kernel
theorem dX6_takeNewName_23 : decode mX6_takeNewName.2.1 23 = .ok (.getfield 110, 3) := by decide +kernel
theorem dX6_takeNewName_26 : decode mX6_takeNewName.2.1 26 = .ok (.lstore_n 2, 1) := by decide +kernel
theorem dX6_takeNewName_27 : decode mX6_takeNewName.2.1 27 = .ok (.aload_n 0, 1) := by decide +kernel
theorem dX6_takeNewName_28 : decode mX6_takeNewName.2.1 28 = .ok (.invokevirtual 69, 3) := by decide +kernel
theorem dX6_takeNewName_31 : decode mX6_takeNewName.2.1 31 = .ok (.lload_n 2, 1) := by decide +kernel
theorem dX6_takeNewName_32 : decode mX6_takeNewName.2.1 32 = .ok (.lreturn, 1) := by decide +kernel
theorem dX6_isName_0 : decode mX6_isName.2.1 0 = .ok (.aload_n 0, 1) := by decide +kernel
theorem dX6_isName_1 : decode mX6_isName.2.1 1 = .ok (.getfield 72, 3) := by decide +kernel
theorem dX6_isName_4 : decode mX6_isName.2.1 4 = .ok (.iconst 1, 1) := by decide +kernel
theorem dX6_isName_5 : decode mX6_isName.2.1 5 = .ok (.if_icmp .ne 15, 3) := by decide +kernel
theorem dX6_isName_8 : decode mX6_isName.2.1 8 = .ok (.aload_n 0, 1) := by decide +kernel
theorem dX6_isName_9 : decode mX6_isName.2.1 9 = .ok (.getfield 202, 3) := by decide +kernel
theorem dX6_isName_12 : decode mX6_isName.2.1 12 = .ok (.iconst (-1), 1) := by decide +kernel
theorem dX6_isName_13 : decode mX6_isName.2.1 13 = .ok (.if_icmp .ne 7, 3) := by decide +kernel
theorem dX6_isName_16 : decode mX6_isName.2.1 16 = .ok (.iconst 1, 1) := by decide +kernel
theorem dX6_isName_17 : decode mX6_isName.2.1 17 = .ok (.goto 4, 3) := by decide +kernel
theorem dX6_isName_20 : decode mX6_isName.2.1 20 = .ok (.iconst 0, 1) := by decide +kernel
theorem dX6_isName_21 : decode mX6_isName.2.1 21 = .ok (.ireturn, 1) := by decide +kernel
theorem dX6_takeOwn_0 : decode mX6_takeOwn.2.1 0 = .ok (.aload_n 0, 1) := by decide +kernel
theorem dX6_takeOwn_1 : decode mX6_takeOwn.2.1 1 = .ok (.iload_n 1, 1) := by decide +kernel
theorem dX6_takeOwn_2 : decode mX6_takeOwn.2.1 2 = .ok (.invokevirtual 84, 3) := by decide +kernel
theorem dX6_takeOwn_5 : decode mX6_takeOwn.2.1 5 = .ok (.ifCond .ne 8, 3) := by decide +kernel
theorem dX6_takeOwn_8 : decode mX6_takeOwn.2.1 8 = .ok (.aload_n 0, 1) := by decide +kernel
theorem dX6_takeOwn_9 : decode mX6_takeOwn.2.1 9 = .ok (.iconst 2, 1) := by decide +kernel
theorem dX6_takeOwn_10 : decode mX6_takeOwn.2.1 10 = .ok (.invokevirtual 103, 3) := by decide +kernel
theorem dX6_takeOwn_13 : decode mX6_takeOwn.2.1 13 = .ok (.aload_n 0, 1) := by decide +kernel
theorem dX6_takeOwn_14 : decode mX6_takeOwn.2.1 14 = .ok (.invokevirtual 69, 3) := by decide +kernel
theorem dX6_takeOwn_17 : decode mX6_takeOwn.2.1 17 = .ok (.return_, 1) := by decide +kernel
theorem dX6_takeNumber_0 : decode mX6_takeNumber.2.1 0 = .ok (.aload_n 0, 1) := by decide +kernel
theorem dX6_takeNumber_1 : decode mX6_takeNumber.2.1 1 = .ok (.getfield 72, 3) := by decide +kernel
theorem dX6_takeNumber_4 : decode mX6_takeNumber.2.1 4 = .ok (.iconst 2, 1) := by decide +kernel
theorem dX6_takeNumber_5 : decode mX6_takeNumber.2.1 5 = .ok (.if_icmp .eq 8, 3) := by decide +kernel
theorem dX6_takeNumber_8 : decode mX6_takeNumber.2.1 8 = .ok (.aload_n 0, 1) := by decide +kernel
theorem dX6_takeNumber_9 : decode mX6_takeNumber.2.1 9 = .ok (.iconst 2, 1) := by decide +kernel
theorem dX6_takeNumber_10 : decode mX6_takeNumber.2.1 10 = .ok (.invokevirtual 103, 3) := by decide +kernel
theorem dX6_takeNumber_13 : decode mX6_takeNumber.2.1 13 = .ok (.aload_n 0, 1) := by decide +kernel
theorem dX6_takeNumber_14 : decode mX6_takeNumber.2.1 14 = .ok (.getfield 199, 3) := by decide +kernel
theorem dX6_takeNumber_17 : decode mX6_takeNumber.2.1 17 = .ok (.iload_n 1, 1) := by decide +kernel
theorem dX6_takeNumber_18 : decode mX6_takeNumber.2.1 18 = .ok (.if_icmp .lt 11, 3) := by decide +kernel
theorem dX6_takeNumber_21 : decode mX6_takeNumber.2.1 21 = .ok (.aload_n 0, 1) := by decide +kernel
theorem dX6_takeNumber_22 : decode mX6_takeNumber.2.1 22 = .ok (.getfield 199, 3) := by decide +kernel
theorem dX6_takeNumber_25 : decode mX6_takeNumber.2.1 25 = .ok (.iload_n 2, 1) := by decide +kernel
theorem dX6_takeNumber_26 : decode mX6_takeNumber.2.1 26 = .ok (.if_icmp .le 8, 3) := by decide +kernel
theorem dX6_takeNumber_29 : decode mX6_takeNumber.2.1 29 = .ok (.aload_n 0, 1) := by decide +kernel
theorem dX6_takeNumber_30 : decode mX6_takeNumber.2.1 30 = .ok (.iconst 4, 1) := by decide +kernel
theorem dX6_takeNumber_31 : decode mX6_takeNumber.2.1 31 = .ok (.invokevirtual 103, 3) := by decide +kernel
theorem dX6_takeNumber_34 : decode mX6_takeNumber.2.1 34 = .ok (.aload_n 0, 1) := by decide +kernel
theorem dX6_takeNumber_35 : decode mX6_takeNumber.2.1 35 = .ok (.getfield 199, 3) := by decide +kernel
theorem dX6_takeNumber_38 : decode mX6_takeNumber.2.1 38 = .ok (.istore_n 3, 1) := by decide +kernel
theorem dX6_takeNumber_39 : decode mX6_takeNumber.2.1 39 = .ok (.aload_n 0, 1) := by decide +kernel
theorem dX6_takeNumber_40 : decode mX6_takeNumber.2.1 40 = .ok (.invokevirtual 69, 3) := by decide +kernel
theorem dX6_takeNumber_43 : decode mX6_takeNumber.2.1 43 = .ok (.iload_n 3, 1) := by decide +kernel
theorem dX6_takeNumber_44 : decode mX6_takeNumber.2.1 44 = .ok (.ireturn, 1) := by decide +kernel
theorem dX6_takeSign_0 : decode mX6_takeSign.2.1 0 = .ok (.aload_n 0, 1) := by decide +kernel
theorem dX6_takeSign_1 : decode mX6_takeSign.2.1 1 = .ok (.getfield 72, 3) := by decide +kernel
theorem dX6_takeSign_4 : decode mX6_takeSign.2.1 4 = .ok (.iload_n 1, 1) := by decide +kernel
theorem dX6_takeSign_5 : decode mX6_takeSign.2.1 5 = .ok (.if_icmp .eq 8, 3) := by decide +kernel
theorem dX6_takeSign_8 : decode mX6_takeSign.2.1 8 = .ok (.aload_n 0, 1) := by decide +kernel
theorem dX6_takeSign_9 : decode mX6_takeSign.2.1 9 = .ok (.iconst 2, 1) := by decide +kernel
theorem dX6_takeSign_10 : decode mX6_takeSign.2.1 10 = .ok (.invokevirtual 103, 3) := by decide +kernel
theorem dX6_takeSign_13 : decode mX6_takeSign.2.1 13 = .ok (.aload_n 0, 1) := by decide +kernel
theorem dX6_takeSign_14 : decode mX6_takeSign.2.1 14 = .ok (.invokevirtual 69, 3) := by decide +kernel
theorem dX6_takeSign_17 : decode mX6_takeSign.2.1 17 = .ok (.return_, 1) := by decide +kernel
theorem dX6_readTwins_0 : decode mX6_readTwins.2.1 0 = .ok (.aload_n 0, 1) := by decide +kernel
theorem dX6_readTwins_1 : decode mX6_readTwins.2.1 1 = .ok (.getfield 40, 3) := by decide +kernel
theorem dX6_readTwins_4 : decode mX6_readTwins.2.1 4 = .ok (.getfield 136, 3) := by decide +kernel
theorem dX6_readTwins_7 : decode mX6_readTwins.2.1 7 = .ok (.ifCond .eq 8, 3) := by decide +kernel
theorem dX6_readTwins_10 : decode mX6_readTwins.2.1 10 = .ok (.aload_n 0, 1) := by decide +kernel
theorem dX6_readTwins_11 : decode mX6_readTwins.2.1 11 = .ok (.iconst 2, 1) := by decide +kernel
theorem dX6_readTwins_12 : decode mX6_readTwins.2.1 12 = .ok (.invokevirtual 103, 3) := by decide +kernel
theorem dX6_readTwins_15 : decode mX6_readTwins.2.1 15 = .ok (.aload_n 0, 1) := by decide +kernel
theorem dX6_readTwins_16 : decode mX6_readTwins.2.1 16 = .ok (.invokevirtual 69, 3) := by decide +kernel
theorem dX6_readTwins_19 : decode mX6_readTwins.2.1 19 = .ok (.aload_n 0, 1) := by decide +kernel
theorem dX6_readTwins_20 : decode mX6_readTwins.2.1 20 = .ok (.bipush 59, 2) := by decide +kernel
theorem dX6_readTwins_22 : decode mX6_readTwins.2.1 22 = .ok (.invokevirtual 129, 3) := by decide +kernel
theorem dX6_readTwins_25 : decode mX6_readTwins.2.1 25 = .ok (.aload_n 0, 1) := by decide +kernel
theorem dX6_readTwins_26 : decode mX6_readTwins.2.1 26 = .ok (.getfield 40, 3) := by decide +kernel
theorem dX6_readTwins_29 : decode mX6_readTwins.2.1 29 = .ok (.iconst 1, 1) := by decide +kernel
theorem dX6_readTwins_30 : decode mX6_readTwins.2.1 30 = .ok (.putfield 136, 3) := by decide +kernel
theorem dX6_readTwins_33 : decode mX6_readTwins.2.1 33 = .ok (.return_, 1) := by decide +kernel
theorem dX6_readSticks_0 : decode mX6_readSticks.2.1 0 = .ok (.aload_n 0, 1) := by decide +kernel
theorem dX6_readSticks_1 : decode mX6_readSticks.2.1 1 = .ok (.getfield 40, 3) := by decide +kernel
theorem dX6_readSticks_4 : decode mX6_readSticks.2.1 4 = .ok (.getfield 140, 3) := by decide +kernel
theorem dX6_readSticks_7 : decode mX6_readSticks.2.1 7 = .ok (.ifCond .eq 8, 3) := by decide +kernel
theorem dX6_readSticks_10 : decode mX6_readSticks.2.1 10 = .ok (.aload_n 0, 1) := by decide +kernel
theorem dX6_readSticks_11 : decode mX6_readSticks.2.1 11 = .ok (.iconst 2, 1) := by decide +kernel
theorem dX6_readSticks_12 : decode mX6_readSticks.2.1 12 = .ok (.invokevirtual 103, 3) := by decide +kernel
theorem dX6_readSticks_15 : decode mX6_readSticks.2.1 15 = .ok (.aload_n 0, 1) := by decide +kernel
theorem dX6_readSticks_16 : decode mX6_readSticks.2.1 16 = .ok (.invokevirtual 69, 3) := by decide +kernel
theorem dX6_readSticks_19 : decode mX6_readSticks.2.1 19 = .ok (.aload_n 0, 1) := by decide +kernel
theorem dX6_readSticks_20 : decode mX6_readSticks.2.1 20 = .ok (.getfield 40, 3) := by decide +kernel
theorem dX6_readSticks_23 : decode mX6_readSticks.2.1 23 = .ok (.aload_n 0, 1) := by decide +kernel
theorem dX6_readSticks_24 : decode mX6_readSticks.2.1 24 = .ok (.iconst 0, 1) := by decide +kernel
theorem dX6_readSticks_25 : decode mX6_readSticks.2.1 25 = .ok (.bipush 99, 2) := by decide +kernel
theorem dX6_readSticks_27 : decode mX6_readSticks.2.1 27 = .ok (.invokevirtual 125, 3) := by decide +kernel
theorem dX6_readSticks_30 : decode mX6_readSticks.2.1 30 = .ok (.putfield 143, 3) := by decide +kernel
theorem dX6_readSticks_33 : decode mX6_readSticks.2.1 33 = .ok (.aload_n 0, 1) := by decide +kernel
theorem dX6_readSticks_34 : decode mX6_readSticks.2.1 34 = .ok (.bipush 59, 2) := by decide +kernel
theorem dX6_readSticks_36 : decode mX6_readSticks.2.1 36 = .ok (.invokevirtual 129, 3) := by decide +kernel
theorem dX6_readSticks_39 : decode mX6_readSticks.2.1 39 = .ok (.aload_n 0, 1) := by decide +kernel
theorem dX6_readSticks_40 : decode mX6_readSticks.2.1 40 = .ok (.getfield 40, 3) := by decide +kernel
theorem dX6_readSticks_43 : decode mX6_readSticks.2.1 43 = .ok (.iconst 1, 1) := by decide +kernel
theorem dX6_readSticks_44 : decode mX6_readSticks.2.1 44 = .ok (.putfield 140, 3) := by decide +kernel
theorem dX6_readSticks_47 : decode mX6_readSticks.2.1 47 = .ok (.return_, 1) := by decide +kernel
theorem dX6_readRow_0 : decode mX6_readRow.2.1 0 = .ok (.aload_n 0, 1) := by decide +kernel
theorem dX6_readRow_1 : decode mX6_readRow.2.1 1 = .ok (.getfield 40, 3) := by decide +kernel
theorem dX6_readRow_4 : decode mX6_readRow.2.1 4 = .ok (.getfield 145, 3) := by decide +kernel
theorem dX6_readRow_7 : decode mX6_readRow.2.1 7 = .ok (.ifCond .le 8, 3) := by decide +kernel
theorem dX6_readRow_10 : decode mX6_readRow.2.1 10 = .ok (.aload_n 0, 1) := by decide +kernel
theorem dX6_readRow_11 : decode mX6_readRow.2.1 11 = .ok (.iconst 2, 1) := by decide +kernel
theorem dX6_readRow_12 : decode mX6_readRow.2.1 12 = .ok (.invokevirtual 103, 3) := by decide +kernel
theorem dX6_readRow_15 : decode mX6_readRow.2.1 15 = .ok (.aload_n 0, 1) := by decide +kernel
theorem dX6_readRow_16 : decode mX6_readRow.2.1 16 = .ok (.invokevirtual 69, 3) := by decide +kernel
theorem dX6_readRow_19 : decode mX6_readRow.2.1 19 = .ok (.aload_n 0, 1) := by decide +kernel
theorem dX6_readRow_20 : decode mX6_readRow.2.1 20 = .ok (.invokevirtual 148, 3) := by decide +kernel
theorem dX6_readRow_23 : decode mX6_readRow.2.1 23 = .ok (.iconst 0, 1) := by decide +kernel
theorem dX6_readRow_24 : decode mX6_readRow.2.1 24 = .ok (.istore_n 1, 1) := by decide +kernel
theorem dX6_readRow_25 : decode mX6_readRow.2.1 25 = .ok (.iload_n 1, 1) := by decide +kernel
theorem dX6_readRow_26 : decode mX6_readRow.2.1 26 = .ok (.iconst 5, 1) := by decide +kernel
theorem dX6_readRow_27 : decode mX6_readRow.2.1 27 = .ok (.if_icmp .ge 20, 3) := by decide +kernel
theorem dX6_readRow_30 : decode mX6_readRow.2.1 30 = .ok (.aload_n 0, 1) := by decide +kernel
theorem dX6_readRow_31 : decode mX6_readRow.2.1 31 = .ok (.invokevirtual 151, 3) := by decide +kernel
theorem dX6_readRow_34 : decode mX6_readRow.2.1 34 = .ok (.ifCond .eq 13, 3) := by decide +kernel
theorem dX6_readRow_37 : decode mX6_readRow.2.1 37 = .ok (.aload_n 0, 1) := by decide +kernel
theorem dX6_readRow_38 : decode mX6_readRow.2.1 38 = .ok (.invokevirtual 148, 3) := by decide +kernel
theorem dX6_readRow_41 : decode mX6_readRow.2.1 41 = .ok (.iinc 1 1, 3) := by decide +kernel
theorem dX6_readRow_44 : decode mX6_readRow.2.1 44 = .ok (.goto (-19), 3) := by decide +kernel
theorem dX6_readRow_47 : decode mX6_readRow.2.1 47 = .ok (.aload_n 0, 1) := by decide +kernel
theorem dX6_readRow_48 : decode mX6_readRow.2.1 48 = .ok (.bipush 59, 2) := by decide +kernel
theorem dX6_readRow_50 : decode mX6_readRow.2.1 50 = .ok (.invokevirtual 129, 3) := by decide +kernel
theorem dX6_readRow_53 : decode mX6_readRow.2.1 53 = .ok (.return_, 1) := by decide +kernel
theorem dX6_takeRowName_0 : decode mX6_takeRowName.2.1 0 = .ok (.aload_n 0, 1) := by decide +kernel
theorem dX6_takeRowName_1 : decode mX6_takeRowName.2.1 1 = .ok (.aload_n 0, 1) := by decide +kernel
theorem dX6_takeRowName_2 : decode mX6_takeRowName.2.1 2 = .ok (.getfield 40, 3) := by decide +kernel
theorem dX6_takeRowName_5 : decode mX6_takeRowName.2.1 5 = .ok (.invokevirtual 155, 3) := by decide +kernel
theorem dX6_takeRowName_8 : decode mX6_takeRowName.2.1 8 = .ok (.invokevirtual 158, 3) := by decide +kernel
theorem dX6_takeRowName_11 : decode mX6_takeRowName.2.1 11 = .ok (.istore_n 1, 1) := by decide +kernel
theorem dX6_takeRowName_12 : decode mX6_takeRowName.2.1 12 = .ok (.aload_n 0, 1) := by decide +kernel
theorem dX6_takeRowName_13 : decode mX6_takeRowName.2.1 13 = .ok (.getfield 63, 3) := by decide +kernel
theorem dX6_takeRowName_16 : decode mX6_takeRowName.2.1 16 = .ok (.ifCond .ne 11, 3) := by decide +kernel
theorem dX6_takeRowName_19 : decode mX6_takeRowName.2.1 19 = .ok (.aload_n 0, 1) := by decide +kernel
theorem dX6_takeRowName_20 : decode mX6_takeRowName.2.1 20 = .ok (.getfield 40, 3) := by decide +kernel
theorem dX6_takeRowName_23 : decode mX6_takeRowName.2.1 23 = .ok (.iload_n 1, 1) := by decide +kernel
theorem dX6_takeRowName_24 : decode mX6_takeRowName.2.1 24 = .ok (.invokevirtual 162, 3) := by decide +kernel
theorem dX6_takeRowName_27 : decode mX6_takeRowName.2.1 27 = .ok (.return_, 1) := by decide +kernel
theorem dX6_takeThing_0 : decode mX6_takeThing.2.1 0 = .ok (.aload_n 0, 1) := by decide +kernel
theorem dX6_takeThing_1 : decode mX6_takeThing.2.1 1 = .ok (.invokevirtual 151, 3) := by decide +kernel
theorem dX6_takeThing_4 : decode mX6_takeThing.2.1 4 = .ok (.ifCond .ne 8, 3) := by decide +kernel
theorem dX6_takeThing_7 : decode mX6_takeThing.2.1 7 = .ok (.aload_n 0, 1) := by decide +kernel
theorem dX6_takeThing_8 : decode mX6_takeThing.2.1 8 = .ok (.iconst 2, 1) := by decide +kernel
theorem dX6_takeThing_9 : decode mX6_takeThing.2.1 9 = .ok (.invokevirtual 103, 3) := by decide +kernel
theorem dX6_takeThing_12 : decode mX6_takeThing.2.1 12 = .ok (.aload_n 0, 1) := by decide +kernel
theorem dX6_takeThing_13 : decode mX6_takeThing.2.1 13 = .ok (.getfield 40, 3) := by decide +kernel
theorem dX6_takeThing_16 : decode mX6_takeThing.2.1 16 = .ok (.aload_n 0, 1) := by decide +kernel
theorem dX6_takeThing_17 : decode mX6_takeThing.2.1 17 = .ok (.getfield 110, 3) := by decide +kernel
theorem dX6_takeThing_20 : decode mX6_takeThing.2.1 20 = .ok (.invokevirtual 114, 3) := by decide +kernel
theorem dX6_takeThing_23 : decode mX6_takeThing.2.1 23 = .ok (.istore_n 2, 1) := by decide +kernel
theorem dX6_takeThing_24 : decode mX6_takeThing.2.1 24 = .ok (.iload_n 2, 1) := by decide +kernel
theorem dX6_takeThing_25 : decode mX6_takeThing.2.1 25 = .ok (.iconst (-1), 1) := by decide +kernel
theorem dX6_takeThing_26 : decode mX6_takeThing.2.1 26 = .ok (.if_icmp .ne 8, 3) := by decide +kernel
theorem dX6_takeThing_29 : decode mX6_takeThing.2.1 29 = .ok (.aload_n 0, 1) := by decide +kernel
theorem dX6_takeThing_30 : decode mX6_takeThing.2.1 30 = .ok (.iconst 5, 1) := by decide +kernel
theorem dX6_takeThing_31 : decode mX6_takeThing.2.1 31 = .ok (.invokevirtual 103, 3) := by decide +kernel
theorem dX6_takeThing_34 : decode mX6_takeThing.2.1 34 = .ok (.iload_n 1, 1) := by decide +kernel
theorem dX6_takeThing_35 : decode mX6_takeThing.2.1 35 = .ok (.iload_n 2, 1) := by decide +kernel
theorem dX6_takeThing_36 : decode mX6_takeThing.2.1 36 = .ok (.invokestatic 193, 3) := by decide +kernel
theorem dX6_takeThing_39 : decode mX6_takeThing.2.1 39 = .ok (.ifCond .eq 8, 3) := by decide +kernel
theorem dX6_takeThing_42 : decode mX6_takeThing.2.1 42 = .ok (.aload_n 0, 1) := by decide +kernel
theorem dX6_takeThing_43 : decode mX6_takeThing.2.1 43 = .ok (.iconst 3, 1) := by decide +kernel
theorem dX6_takeThing_44 : decode mX6_takeThing.2.1 44 = .ok (.invokevirtual 103, 3) := by decide +kernel
theorem dX6_takeThing_47 : decode mX6_takeThing.2.1 47 = .ok (.aload_n 0, 1) := by decide +kernel
theorem dX6_takeThing_48 : decode mX6_takeThing.2.1 48 = .ok (.invokevirtual 69, 3) := by decide +kernel
theorem dX6_takeThing_51 : decode mX6_takeThing.2.1 51 = .ok (.iload_n 2, 1) := by decide +kernel
theorem dX6_takeThing_52 : decode mX6_takeThing.2.1 52 = .ok (.ireturn, 1) := by decide +kernel
theorem dX6_readPlan_0 : decode mX6_readPlan.2.1 0 = .ok (.aload_n 0, 1) := by decide +kernel
theorem dX6_readPlan_1 : decode mX6_readPlan.2.1 1 = .ok (.getfield 40, 3) := by decide +kernel
theorem dX6_readPlan_4 : decode mX6_readPlan.2.1 4 = .ok (.getfield 165, 3) := by decide +kernel
theorem dX6_readPlan_7 : decode mX6_readPlan.2.1 7 = .ok (.iconst 3, 1) := by decide +kernel
theorem dX6_readPlan_8 : decode mX6_readPlan.2.1 8 = .ok (.if_icmp .lt 8, 3) := by decide +kernel
theorem dX6_readPlan_11 : decode mX6_readPlan.2.1 11 = .ok (.aload_n 0, 1) := by decide +kernel
theorem dX6_readPlan_12 : decode mX6_readPlan.2.1 12 = .ok (.iconst 2, 1) := by decide +kernel
theorem dX6_readPlan_13 : decode mX6_readPlan.2.1 13 = .ok (.invokevirtual 103, 3) := by decide +kernel
theorem dX6_readPlan_16 : decode mX6_readPlan.2.1 16 = .ok (.aload_n 0, 1) := by decide +kernel
theorem dX6_readPlan_17 : decode mX6_readPlan.2.1 17 = .ok (.invokevirtual 69, 3) := by decide +kernel
theorem dX6_readPlan_20 : decode mX6_readPlan.2.1 20 = .ok (.aload_n 0, 1) := by decide +kernel
theorem dX6_readPlan_21 : decode mX6_readPlan.2.1 21 = .ok (.aload_n 0, 1) := by decide +kernel
theorem dX6_readPlan_22 : decode mX6_readPlan.2.1 22 = .ok (.getfield 40, 3) := by decide +kernel
theorem dX6_readPlan_25 : decode mX6_readPlan.2.1 25 = .ok (.aload_n 0, 1) := by decide +kernel
theorem dX6_readPlan_26 : decode mX6_readPlan.2.1 26 = .ok (.getfield 110, 3) := by decide +kernel
theorem dX6_readPlan_29 : decode mX6_readPlan.2.1 29 = .ok (.invokevirtual 168, 3) := by decide +kernel
theorem dX6_readPlan_32 : decode mX6_readPlan.2.1 32 = .ok (.invokevirtual 118, 3) := by decide +kernel
theorem dX6_readPlan_35 : decode mX6_readPlan.2.1 35 = .ok (.lstore_n 1, 1) := by decide +kernel
theorem dX6_readPlan_36 : decode mX6_readPlan.2.1 36 = .ok (.aload_n 0, 1) := by decide +kernel
theorem dX6_readPlan_37 : decode mX6_readPlan.2.1 37 = .ok (.iconst 0, 1) := by decide +kernel
theorem dX6_readPlan_38 : decode mX6_readPlan.2.1 38 = .ok (.invokestatic 171, 3) := by decide +kernel
theorem dX6_readPlan_41 : decode mX6_readPlan.2.1 41 = .ok (.istore_n 3, 1) := by decide +kernel
theorem dX6_readPlan_42 : decode mX6_readPlan.2.1 42 = .ok (.aload_n 0, 1) := by decide +kernel
theorem dX6_readPlan_43 : decode mX6_readPlan.2.1 43 = .ok (.bipush 59, 2) := by decide +kernel
theorem dX6_readPlan_45 : decode mX6_readPlan.2.1 45 = .ok (.invokevirtual 129, 3) := by decide +kernel
theorem dX6_readPlan_48 : decode mX6_readPlan.2.1 48 = .ok (.aload_n 0, 1) := by decide +kernel
theorem dX6_readPlan_49 : decode mX6_readPlan.2.1 49 = .ok (.getfield 63, 3) := by decide +kernel
theorem dX6_readPlan_52 : decode mX6_readPlan.2.1 52 = .ok (.ifCond .ne 12, 3) := by decide +kernel
theorem dX6_readPlan_55 : decode mX6_readPlan.2.1 55 = .ok (.aload_n 0, 1) := by decide +kernel
theorem dX6_readPlan_56 : decode mX6_readPlan.2.1 56 = .ok (.getfield 40, 3) := by decide +kernel
theorem dX6_readPlan_59 : decode mX6_readPlan.2.1 59 = .ok (.lload_n 1, 1) := by decide +kernel
theorem dX6_readPlan_60 : decode mX6_readPlan.2.1 60 = .ok (.iload_n 3, 1) := by decide +kernel
theorem dX6_readPlan_61 : decode mX6_readPlan.2.1 61 = .ok (.invokevirtual 175, 3) := by decide +kernel
theorem dX6_readPlan_64 : decode mX6_readPlan.2.1 64 = .ok (.return_, 1) := by decide +kernel
theorem dX6_readPart_0 : decode mX6_readPart.2.1 0 = .ok (.iload_n 1, 1) := by decide +kernel
theorem dX6_readPart_1 : decode mX6_readPart.2.1 1 = .ok (.bipush 10, 2) := by decide +kernel
theorem dX6_readPart_3 : decode mX6_readPart.2.1 3 = .ok (.if_icmp .le 8, 3) := by decide +kernel
theorem dX6_readPart_6 : decode mX6_readPart.2.1 6 = .ok (.aload_n 0, 1) := by decide +kernel
theorem dX6_readPart_7 : decode mX6_readPart.2.1 7 = .ok (.iconst 2, 1) := by decide +kernel
theorem dX6_readPart_8 : decode mX6_readPart.2.1 8 = .ok (.invokevirtual 103, 3) := by decide +kernel
theorem dX6_readPart_11 : decode mX6_readPart.2.1 11 = .ok (.aload_n 0, 1) := by decide +kernel
theorem dX6_readPart_12 : decode mX6_readPart.2.1 12 = .ok (.getfield 63, 3) := by decide +kernel
theorem dX6_readPart_15 : decode mX6_readPart.2.1 15 = .ok (.ifCond .eq 5, 3) := by decide +kernel
theorem dX6_readPart_18 : decode mX6_readPart.2.1 18 = .ok (.iconst (-1), 1) := by decide +kernel
theorem dX6_readPart_19 : decode mX6_readPart.2.1 19 = .ok (.ireturn, 1) := by decide +kernel
theorem dX6_readPart_20 : decode mX6_readPart.2.1 20 = .ok (.aload_n 0, 1) := by decide +kernel
theorem dX6_readPart_21 : decode mX6_readPart.2.1 21 = .ok (.bipush 6, 2) := by decide +kernel
theorem dX6_readPart_23 : decode mX6_readPart.2.1 23 = .ok (.invokevirtual 84, 3) := by decide +kernel
theorem dX6_readPart_26 : decode mX6_readPart.2.1 26 = .ok (.ifCond .eq 9, 3) := by decide +kernel
theorem dX6_readPart_29 : decode mX6_readPart.2.1 29 = .ok (.aload_n 0, 1) := by decide +kernel
theorem dX6_readPart_30 : decode mX6_readPart.2.1 30 = .ok (.invokevirtual 69, 3) := by decide +kernel
theorem dX6_readPart_33 : decode mX6_readPart.2.1 33 = .ok (.iconst (-1), 1) := by decide +kernel
theorem dX6_readPart_34 : decode mX6_readPart.2.1 34 = .ok (.ireturn, 1) := by decide +kernel
theorem dX6_readPart_35 : decode mX6_readPart.2.1 35 = .ok (.aload_n 0, 1) := by decide +kernel
theorem dX6_readPart_36 : decode mX6_readPart.2.1 36 = .ok (.getfield 40, 3) := by decide +kernel
theorem dX6_readPart_39 : decode mX6_readPart.2.1 39 = .ok (.getfield 178, 3) := by decide +kernel
theorem dX6_readPart_42 : decode mX6_readPart.2.1 42 = .ok (.bipush 60, 2) := by decide +kernel
theorem dX6_readPart_44 : decode mX6_readPart.2.1 44 = .ok (.if_icmp .lt 8, 3) := by decide +kernel
theorem dX6_readPart_47 : decode mX6_readPart.2.1 47 = .ok (.aload_n 0, 1) := by decide +kernel
theorem dX6_readPart_48 : decode mX6_readPart.2.1 48 = .ok (.iconst 2, 1) := by decide +kernel
theorem dX6_readPart_49 : decode mX6_readPart.2.1 49 = .ok (.invokevirtual 103, 3) := by decide +kernel
theorem dX6_readPart_52 : decode mX6_readPart.2.1 52 = .ok (.aload_n 0, 1) := by decide +kernel
theorem dX6_readPart_53 : decode mX6_readPart.2.1 53 = .ok (.iconst 0, 1) := by decide +kernel
theorem dX6_readPart_54 : decode mX6_readPart.2.1 54 = .ok (.invokevirtual 158, 3) := by decide +kernel
theorem dX6_readPart_57 : decode mX6_readPart.2.1 57 = .ok (.istore_n 2, 1) := by decide +kernel
theorem dX6_readPart_58 : decode mX6_readPart.2.1 58 = .ok (.aload_n 0, 1) := by decide +kernel
theorem dX6_readPart_59 : decode mX6_readPart.2.1 59 = .ok (.iconst 1, 1) := by decide +kernel
theorem dX6_readPart_60 : decode mX6_readPart.2.1 60 = .ok (.iload_n 2, 1) := by decide +kernel
theorem dX6_readPart_61 : decode mX6_readPart.2.1 61 = .ok (.iconst 0, 1) := by decide +kernel
theorem dX6_readPart_62 : decode mX6_readPart.2.1 62 = .ok (.invokestatic 181, 3) := by decide +kernel
theorem dX6_readPart_65 : decode mX6_readPart.2.1 65 = .ok (.ishl, 1) := by decide +kernel
theorem dX6_readPart_66 : decode mX6_readPart.2.1 66 = .ok (.invokevirtual 158, 3) := by decide +kernel
theorem dX6_readPart_69 : decode mX6_readPart.2.1 69 = .ok (.istore_n 3, 1) := by decide +kernel
theorem dX6_readPart_70 : decode mX6_readPart.2.1 70 = .ok (.aload_n 0, 1) := by decide +kernel
theorem dX6_readPart_71 : decode mX6_readPart.2.1 71 = .ok (.getfield 63, 3) := by decide +kernel
theorem dX6_readPart_74 : decode mX6_readPart.2.1 74 = .ok (.ifCond .ne 15, 3) := by decide +kernel
theorem dX6_readPart_77 : decode mX6_readPart.2.1 77 = .ok (.aload_n 0, 1) := by decide +kernel
theorem dX6_readPart_78 : decode mX6_readPart.2.1 78 = .ok (.getfield 40, 3) := by decide +kernel
theorem dX6_readPart_81 : decode mX6_readPart.2.1 81 = .ok (.iload_n 2, 1) := by decide +kernel
theorem dX6_readPart_82 : decode mX6_readPart.2.1 82 = .ok (.iload_n 3, 1) := by decide +kernel
theorem dX6_readPart_83 : decode mX6_readPart.2.1 83 = .ok (.invokevirtual 186, 3) := by decide +kernel
theorem dX6_readPart_86 : decode mX6_readPart.2.1 86 = .ok (.goto 4, 3) := by decide +kernel
theorem dX6_readPart_89 : decode mX6_readPart.2.1 89 = .ok (.iconst (-1), 1) := by decide +kernel
theorem dX6_readPart_90 : decode mX6_readPart.2.1 90 = .ok (.istore 4, 2) := by decide +kernel
theorem dX6_readPart_92 : decode mX6_readPart.2.1 92 = .ok (.aload_n 0, 1) := by decide +kernel
theorem dX6_readPart_93 : decode mX6_readPart.2.1 93 = .ok (.bipush 40, 2) := by decide +kernel
theorem dX6_readPart_95 : decode mX6_readPart.2.1 95 = .ok (.invokevirtual 129, 3) := by decide +kernel
theorem dX6_readPart_98 : decode mX6_readPart.2.1 98 = .ok (.aload_n 0, 1) := by decide +kernel
theorem dX6_readPart_99 : decode mX6_readPart.2.1 99 = .ok (.getfield 40, 3) := by decide +kernel
theorem dX6_readPart_102 : decode mX6_readPart.2.1 102 = .ok (.iload 4, 2) := by decide +kernel
theorem dX6_readPart_104 : decode mX6_readPart.2.1 104 = .ok (.iconst 1, 1) := by decide +kernel
theorem dX6_readPart_105 : decode mX6_readPart.2.1 105 = .ok (.aload_n 0, 1) := by decide +kernel
theorem dX6_readPart_106 : decode mX6_readPart.2.1 106 = .ok (.iload_n 1, 1) := by decide +kernel
theorem dX6_readPart_107 : decode mX6_readPart.2.1 107 = .ok (.iconst 1, 1) := by decide +kernel
theorem dX6_readPart_108 : decode mX6_readPart.2.1 108 = .ok (.iadd, 1) := by decide +kernel
theorem dX6_readPart_109 : decode mX6_readPart.2.1 109 = .ok (.invokestatic 171, 3) := by decide +kernel
theorem dX6_readPart_112 : decode mX6_readPart.2.1 112 = .ok (.invokevirtual 189, 3) := by decide +kernel
theorem dX6_readPart_115 : decode mX6_readPart.2.1 115 = .ok (.aload_n 0, 1) := by decide +kernel
theorem dX6_readPart_116 : decode mX6_readPart.2.1 116 = .ok (.bipush 47, 2) := by decide +kernel
theorem dX6_readPart_118 : decode mX6_readPart.2.1 118 = .ok (.invokevirtual 129, 3) := by decide +kernel
theorem dX6_readPart_121 : decode mX6_readPart.2.1 121 = .ok (.aload_n 0, 1) := by decide +kernel
theorem dX6_readPart_122 : decode mX6_readPart.2.1 122 = .ok (.getfield 40, 3) := by decide +kernel
theorem dX6_readPart_125 : decode mX6_readPart.2.1 125 = .ok (.iload 4, 2) := by decide +kernel
theorem dX6_readPart_127 : decode mX6_readPart.2.1 127 = .ok (.iconst 2, 1) := by decide +kernel
theorem dX6_readPart_128 : decode mX6_readPart.2.1 128 = .ok (.aload_n 0, 1) := by decide +kernel
theorem dX6_readPart_129 : decode mX6_readPart.2.1 129 = .ok (.iload_n 1, 1) := by decide +kernel
theorem dX6_readPart_130 : decode mX6_readPart.2.1 130 = .ok (.iconst 1, 1) := by decide +kernel
theorem dX6_readPart_131 : decode mX6_readPart.2.1 131 = .ok (.iadd, 1) := by decide +kernel
theorem dX6_readPart_132 : decode mX6_readPart.2.1 132 = .ok (.invokestatic 171, 3) := by decide +kernel
theorem dX6_readPart_135 : decode mX6_readPart.2.1 135 = .ok (.invokevirtual 189, 3) := by decide +kernel
theorem dX6_readPart_138 : decode mX6_readPart.2.1 138 = .ok (.iconst (-1), 1) := by decide +kernel
theorem dX6_readPart_139 : decode mX6_readPart.2.1 139 = .ok (.istore 5, 2) := by decide +kernel
theorem dX6_readPart_141 : decode mX6_readPart.2.1 141 = .ok (.aload_n 0, 1) := by decide +kernel
theorem dX6_readPart_142 : decode mX6_readPart.2.1 142 = .ok (.getfield 72, 3) := by decide +kernel
theorem dX6_readPart_145 : decode mX6_readPart.2.1 145 = .ok (.bipush 47, 2) := by decide +kernel
theorem dX6_readPart_147 : decode mX6_readPart.2.1 147 = .ok (.if_icmp .ne 16, 3) := by decide +kernel
theorem dX6_readPart_150 : decode mX6_readPart.2.1 150 = .ok (.aload_n 0, 1) := by decide +kernel
theorem dX6_readPart_151 : decode mX6_readPart.2.1 151 = .ok (.invokevirtual 69, 3) := by decide +kernel
theorem dX6_readPart_154 : decode mX6_readPart.2.1 154 = .ok (.aload_n 0, 1) := by decide +kernel
theorem dX6_readPart_155 : decode mX6_readPart.2.1 155 = .ok (.iload_n 1, 1) := by decide +kernel
theorem dX6_readPart_156 : decode mX6_readPart.2.1 156 = .ok (.iconst 1, 1) := by decide +kernel
theorem dX6_readPart_157 : decode mX6_readPart.2.1 157 = .ok (.iadd, 1) := by decide +kernel
theorem dX6_readPart_158 : decode mX6_readPart.2.1 158 = .ok (.invokestatic 171, 3) := by decide +kernel
theorem dX6_readPart_161 : decode mX6_readPart.2.1 161 = .ok (.istore 5, 2) := by decide +kernel
theorem dX6_readPart_163 : decode mX6_readPart.2.1 163 = .ok (.aload_n 0, 1) := by decide +kernel
theorem dX6_readPart_164 : decode mX6_readPart.2.1 164 = .ok (.getfield 40, 3) := by decide +kernel
theorem dX6_readPart_167 : decode mX6_readPart.2.1 167 = .ok (.iload 4, 2) := by decide +kernel
theorem dX6_readPart_169 : decode mX6_readPart.2.1 169 = .ok (.iconst 0, 1) := by decide +kernel
theorem dX6_readPart_170 : decode mX6_readPart.2.1 170 = .ok (.iload 5, 2) := by decide +kernel
theorem dX6_readPart_172 : decode mX6_readPart.2.1 172 = .ok (.invokevirtual 189, 3) := by decide +kernel
theorem dX6_readPart_175 : decode mX6_readPart.2.1 175 = .ok (.aload_n 0, 1) := by decide +kernel
theorem dX6_readPart_176 : decode mX6_readPart.2.1 176 = .ok (.bipush 41, 2) := by decide +kernel
theorem dX6_readPart_178 : decode mX6_readPart.2.1 178 = .ok (.invokevirtual 129, 3) := by decide +kernel
theorem dX6_readPart_181 : decode mX6_readPart.2.1 181 = .ok (.iload 4, 2) := by decide +kernel
theorem dX6_readPart_183 : decode mX6_readPart.2.1 183 = .ok (.ireturn, 1) := by decide +kernel
theorem bX6_read_0 {d : Nat} {g : xSt} {r : Option Value × xSt} {a2 : Int32} {g19 g38 : xSt} {t : Nat} (W : xWf g) (ht : xTw t) (hk19 : xCallM d mX10_empty [.ref t] (xWR (xWI (xWR g 20 1 (some 1)) 20 2 a2) 20 3 (some t)) = some (none, g19)) (W19 : xWf g19) (hk38 : xCallM d mX6_advance [.ref 20] (xWI (xWI (xWI g19 20 10 0) 20 11 (-1)) 20 5 0) = some (none, g38)) (W38 : xWf g38) (k : xX (d + 1) mX6_read 44 [some (.ref 20), none, none, none, some (.int 0)] [] g38 = some r) : xX (d + 1) mX6_read 0 [some (.ref 20), some (.ref 1), some (.int a2), some (.ref t), none] [] g = some r :=
  Y_aload_n dX6_read_0 rfl <| Y_aload_n dX6_read_1 rfl <| Y_putR dX6_read_2 f_6_33 fn_6_1 (by rw [ft_6_1]; rfl) (xis W 20 6 s_20 (Nat.le_of_ble_eq_true rfl)) <| Y_aload_n dX6_read_5 rfl <| Y_iload_n dX6_read_6 rfl <| Y_putI dX6_read_7 f_6_58 fn_6_2 ft_6_2 (xis W 20 6 s_20 (Nat.le_of_ble_eq_true rfl)) <| Y_aload_n dX6_read_10 rfl <| Y_aload_n dX6_read_11 rfl <| Y_putR dX6_read_12 f_6_40 fn_6_3 (by rw [ft_6_3]; rfl) (xis W 20 6 s_20 (Nat.le_of_ble_eq_true rfl)) <| Y_aload_n dX6_read_15 rfl <| Y_getR dX6_read_16 f_6_40 (by rw [ft_6_3]; rfl) (xis W 20 6 s_20 (Nat.le_of_ble_eq_true rfl)) (rfl) <| Y_callV0 dX6_read_19 cl_6_60 rfl rfl (xisS W ht) rfl rfl rfl (hk19) <| Y_aload_n dX6_read_22 rfl <| Y_iconst 0 dX6_read_23 ic_0 <| Y_putI dX6_read_24 f_6_63 fn_6_10 ft_6_10 (xis W19 20 6 s_20 (Nat.le_of_ble_eq_true rfl)) <| Y_aload_n dX6_read_27 rfl <| Y_iconst (-1) dX6_read_28 ic_m1 <| Y_putI dX6_read_29 f_6_44 fn_6_11 ft_6_11 (xis W19 20 6 s_20 (Nat.le_of_ble_eq_true rfl)) <| Y_aload_n dX6_read_32 rfl <| Y_iconst 0 dX6_read_33 ic_0 <| Y_putI dX6_read_34 f_6_66 fn_6_5 ft_6_5 (xis W19 20 6 s_20 (Nat.le_of_ble_eq_true rfl)) <| Y_aload_n dX6_read_37 rfl <| Y_callV0 dX6_read_38 cl_6_69 rfl rfl (xis W19 20 6 s_20 (Nat.le_of_ble_eq_true rfl)) rfl rfl rfl (hk38) <| Y_iconst 0 dX6_read_41 ic_0 <| Y_istore dX6_read_42 rfl rfl <| X_le (xle_s (xle_n (xle_n (xle_n (xle_s xle_0))))) k
theorem bX6_read_44 {d : Nat} {g : xSt} {r : Option Value × xSt} {a4 : Int32} (W : xWf g) (k1 : (xI g 20 2) < a4 → xX (d + 1) mX6_read 77 [some (.ref 20), none, none, none, none] [] g = some r) (k2 : ¬ ((xI g 20 2) < a4) → xX (d + 1) mX6_read 53 [some (.ref 20), none, none, none, some (.int a4)] [] g = some r) : xX (d + 1) mX6_read 44 [some (.ref 20), none, none, none, some (.int a4)] [] g = some r :=
  Y_iload dX6_read_44 rfl <| Y_aload_n dX6_read_46 rfl <| Y_getI dX6_read_47 f_6_58 ft_6_2 (xis W 20 6 s_20 (Nat.le_of_ble_eq_true rfl)) <| Y_gt 77 dX6_read_50 rfl (fun q => X_le (xle_s (xle_n (xle_n (xle_n (xle_n xle_0))))) (k1 q)) (fun q => X_le (xle_s (xle_n (xle_n (xle_n (xle_s xle_0))))) (k2 q))
theorem bX6_read_53 {d : Nat} {g : xSt} {r : Option Value × xSt} {a4 : Int32} (W : xWf g) (k1 : (xI g 20 10) = 0 → xX (d + 1) mX6_read 60 [some (.ref 20), none, none, none, some (.int a4)] [] g = some r) (k2 : ¬ ((xI g 20 10) = 0) → xX (d + 1) mX6_read 77 [some (.ref 20), none, none, none, none] [] g = some r) : xX (d + 1) mX6_read 53 [some (.ref 20), none, none, none, some (.int a4)] [] g = some r :=
  Y_aload_n dX6_read_53 rfl <| Y_getI dX6_read_54 f_6_63 ft_6_10 (xis W 20 6 s_20 (Nat.le_of_ble_eq_true rfl)) <| Y_ne0 77 dX6_read_57 rfl (fun q => X_le (xle_s (xle_n (xle_n (xle_n (xle_s xle_0))))) (k1 q)) (fun q => X_le (xle_s (xle_n (xle_n (xle_n (xle_n xle_0))))) (k2 q))
theorem bX6_read_60 {d : Nat} {g : xSt} {r : Option Value × xSt} {a4 : Int32} (W : xWf g) (k1 : (xI g 20 6) = 0 → xX (d + 1) mX6_read 77 [some (.ref 20), none, none, none, none] [] g = some r) (k2 : ¬ ((xI g 20 6) = 0) → xX (d + 1) mX6_read 67 [some (.ref 20), none, none, none, some (.int a4)] [] g = some r) : xX (d + 1) mX6_read 60 [some (.ref 20), none, none, none, some (.int a4)] [] g = some r :=
  Y_aload_n dX6_read_60 rfl <| Y_getI dX6_read_61 f_6_72 ft_6_6 (xis W 20 6 s_20 (Nat.le_of_ble_eq_true rfl)) <| Y_eq0 77 dX6_read_64 rfl (fun q => X_le (xle_s (xle_n (xle_n (xle_n (xle_n xle_0))))) (k1 q)) (fun q => X_le (xle_s (xle_n (xle_n (xle_n (xle_s xle_0))))) (k2 q))
theorem bX6_read_67 {d : Nat} {g : xSt} {r : Option Value × xSt} {a4 : Int32} {g68 : xSt} (W : xWf g) (hk68 : xCallM d mX6_readLine [.ref 20] g = some (none, g68)) (W68 : xWf g68) (k : xX (d + 1) mX6_read 44 [some (.ref 20), none, none, none, some (.int (a4 + 1))] [] g68 = some r) : xX (d + 1) mX6_read 67 [some (.ref 20), none, none, none, some (.int a4)] [] g = some r :=
  Y_aload_n dX6_read_67 rfl <| Y_callV0 dX6_read_68 cl_6_75 rfl rfl (xis W 20 6 s_20 (Nat.le_of_ble_eq_true rfl)) rfl rfl rfl (hk68) <| Y_iinc 1 dX6_read_71 rfl ic_1 rfl rfl <| Y_goto 44 dX6_read_74 rfl <| X_le (xle_s (xle_n (xle_n (xle_n (xle_s xle_0))))) k
theorem bX6_read_77 {d : Nat} {g : xSt} {r : Option Value × xSt} {g81 : xSt} {t : Nat} (W : xWf g) (ht : xTw t) (hpi0 : xR g 20 3 = some t) (hk81 : xCallM d mX10_completeRow [.ref t] g = some (none, g81)) (W81 : xWf g81) (k : r = (none, g81)) : xX (d + 1) mX6_read 77 [some (.ref 20), none, none, none, none] [] g = some r :=
  Y_aload_n dX6_read_77 rfl <| Y_getR dX6_read_78 f_6_40 (by rw [ft_6_3]; rfl) (xis W 20 6 s_20 (Nat.le_of_ble_eq_true rfl)) (hpi0) <| Y_callV0 dX6_read_81 cl_6_78 rfl rfl (xisS W ht) rfl rfl rfl (hk81) <| Y_ret dX6_read_84 rfl k
theorem bX6_advance_0 {d : Nat} {g : xSt} {r : Option Value × xSt}  (W : xWf g) (k : xX (d + 1) mX6_advance 8 [some (.ref 20)] [] (xWI g 20 4 (xI g 20 5)) = some r) : xX (d + 1) mX6_advance 0 [some (.ref 20)] [] g = some r :=
  Y_aload_n dX6_advance_0 rfl <| Y_aload_n dX6_advance_1 rfl <| Y_getI dX6_advance_2 f_6_66 ft_6_5 (xis W 20 6 s_20 (Nat.le_of_ble_eq_true rfl)) <| Y_putI dX6_advance_5 f_6_81 fn_6_4 ft_6_4 (xis W 20 6 s_20 (Nat.le_of_ble_eq_true rfl)) <| X_le (xle_s xle_0) k
theorem bX6_advance_8 {d : Nat} {g : xSt} {r : Option Value × xSt}  (W : xWf g) (k1 : (xI g 20 2) ≤ (xI g 20 4) → xX (d + 1) mX6_advance 58 [some (.ref 20)] [] g = some r) (k2 : ¬ ((xI g 20 2) ≤ (xI g 20 4)) → xX (d + 1) mX6_advance 19 [some (.ref 20)] [] g = some r) : xX (d + 1) mX6_advance 8 [some (.ref 20)] [] g = some r :=
  Y_aload_n dX6_advance_8 rfl <| Y_getI dX6_advance_9 f_6_81 ft_6_4 (xis W 20 6 s_20 (Nat.le_of_ble_eq_true rfl)) <| Y_aload_n dX6_advance_12 rfl <| Y_getI dX6_advance_13 f_6_58 ft_6_2 (xis W 20 6 s_20 (Nat.le_of_ble_eq_true rfl)) <| Y_ge 58 dX6_advance_16 rfl (fun q => X_le (xle_s xle_0) (k1 q)) (fun q => X_le (xle_s xle_0) (k2 q))
theorem bX6_advance_19 {d : Nat} {g : xSt} {r : Option Value × xSt} {r24 : Int32} {g24 : xSt} (W : xWf g) (hk24 : xCallM d mX6_byteAt [.ref 20, .int (xI g 20 4)] g = some (some (.int r24), g24)) (W24 : xWf g24) (k1 : r24 = 32 → xX (d + 1) mX6_advance 45 [some (.ref 20)] [] g24 = some r) (k2 : ¬ (r24 = 32) → xX (d + 1) mX6_advance 32 [some (.ref 20)] [] g24 = some r) : xX (d + 1) mX6_advance 19 [some (.ref 20)] [] g = some r :=
  Y_aload_n dX6_advance_19 rfl <| Y_aload_n dX6_advance_20 rfl <| Y_getI dX6_advance_21 f_6_81 ft_6_4 (xis W 20 6 s_20 (Nat.le_of_ble_eq_true rfl)) <| Y_callV1 dX6_advance_24 cl_6_205 rfl rfl (xis W 20 6 s_20 (Nat.le_of_ble_eq_true rfl)) rfl rfl rfl (hk24) <| Y_bipush 32 dX6_advance_27 bp_32 <| Y_eq 45 dX6_advance_29 rfl (fun q => X_le (xle_s xle_0) (k1 q)) (fun q => X_le (xle_s xle_0) (k2 q))
theorem bX6_advance_32 {d : Nat} {g : xSt} {r : Option Value × xSt} {r37 : Int32} {g37 : xSt} (W : xWf g) (hk37 : xCallM d mX6_byteAt [.ref 20, .int (xI g 20 4)] g = some (some (.int r37), g37)) (W37 : xWf g37) (k1 : r37 = 10 → xX (d + 1) mX6_advance 45 [some (.ref 20)] [] g37 = some r) (k2 : ¬ (r37 = 10) → xX (d + 1) mX6_advance 58 [some (.ref 20)] [] g37 = some r) : xX (d + 1) mX6_advance 32 [some (.ref 20)] [] g = some r :=
  Y_aload_n dX6_advance_32 rfl <| Y_aload_n dX6_advance_33 rfl <| Y_getI dX6_advance_34 f_6_81 ft_6_4 (xis W 20 6 s_20 (Nat.le_of_ble_eq_true rfl)) <| Y_callV1 dX6_advance_37 cl_6_205 rfl rfl (xis W 20 6 s_20 (Nat.le_of_ble_eq_true rfl)) rfl rfl rfl (hk37) <| Y_bipush 10 dX6_advance_40 bp_10 <| Y_ne 58 dX6_advance_42 rfl (fun q => X_le (xle_s xle_0) (k1 q)) (fun q => X_le (xle_s xle_0) (k2 q))
theorem bX6_advance_45 {d : Nat} {g : xSt} {r : Option Value × xSt}  (W : xWf g) (k : xX (d + 1) mX6_advance 8 [some (.ref 20)] [] (xWI g 20 4 ((xI g 20 4) + 1)) = some r) : xX (d + 1) mX6_advance 45 [some (.ref 20)] [] g = some r :=
  Y_aload_n dX6_advance_45 rfl <| Y_dup dX6_advance_46 rfl <| Y_getI dX6_advance_47 f_6_81 ft_6_4 (xis W 20 6 s_20 (Nat.le_of_ble_eq_true rfl)) <| Y_iconst 1 dX6_advance_50 ic_1 <| Y_iadd dX6_advance_51 <| Y_putI dX6_advance_52 f_6_81 fn_6_4 ft_6_4 (xis W 20 6 s_20 (Nat.le_of_ble_eq_true rfl)) <| Y_goto 8 dX6_advance_55 rfl <| X_le (xle_s xle_0) k
theorem bX6_advance_58 {d : Nat} {g : xSt} {r : Option Value × xSt}  (W : xWf g) (k : xX (d + 1) mX6_advance 76 [some (.ref 20)] [] (xWI (xWL (xWI g 20 5 (xI g 20 4)) 20 8 0) 20 7 0) = some r) : xX (d + 1) mX6_advance 58 [some (.ref 20)] [] g = some r :=
  Y_aload_n dX6_advance_58 rfl <| Y_aload_n dX6_advance_59 rfl <| Y_getI dX6_advance_60 f_6_81 ft_6_4 (xis W 20 6 s_20 (Nat.le_of_ble_eq_true rfl)) <| Y_putI dX6_advance_63 f_6_66 fn_6_5 ft_6_5 (xis W 20 6 s_20 (Nat.le_of_ble_eq_true rfl)) <| Y_aload_n dX6_advance_66 rfl <| Y_lconst 0 dX6_advance_67 rfl <| Y_putJ dX6_advance_68 f_6_110 fn_6_8 ft_6_8 (xis W 20 6 s_20 (Nat.le_of_ble_eq_true rfl)) <| Y_aload_n dX6_advance_71 rfl <| Y_iconst 0 dX6_advance_72 ic_0 <| Y_putI dX6_advance_73 f_6_199 fn_6_7 ft_6_7 (xis W 20 6 s_20 (Nat.le_of_ble_eq_true rfl)) <| X_le (xle_s xle_0) k
theorem bX6_advance_76 {d : Nat} {g : xSt} {r : Option Value × xSt}  (W : xWf g) (k1 : (xI g 20 2) ≤ (xI g 20 5) → xX (d + 1) mX6_advance 135 [some (.ref 20)] [] g = some r) (k2 : ¬ ((xI g 20 2) ≤ (xI g 20 5)) → xX (d + 1) mX6_advance 87 [some (.ref 20)] [] g = some r) : xX (d + 1) mX6_advance 76 [some (.ref 20)] [] g = some r :=
  Y_aload_n dX6_advance_76 rfl <| Y_getI dX6_advance_77 f_6_66 ft_6_5 (xis W 20 6 s_20 (Nat.le_of_ble_eq_true rfl)) <| Y_aload_n dX6_advance_80 rfl <| Y_getI dX6_advance_81 f_6_58 ft_6_2 (xis W 20 6 s_20 (Nat.le_of_ble_eq_true rfl)) <| Y_ge 135 dX6_advance_84 rfl (fun q => X_le (xle_s xle_0) (k1 q)) (fun q => X_le (xle_s xle_0) (k2 q))
theorem bX6_advance_87 {d : Nat} {g : xSt} {r : Option Value × xSt} {r92 r95 : Int32} {g92 g95 : xSt} (W : xWf g) (hk92 : xCallM d mX6_byteAt [.ref 20, .int (xI g 20 5)] g = some (some (.int r92), g92)) (W92 : xWf g92) (hk95 : xCallM d mX6_isLetter [.int r92] g92 = some (some (.int r95), g95)) (W95 : xWf g95) (k1 : r95 = 0 → xX (d + 1) mX6_advance 135 [some (.ref 20)] [] g95 = some r) (k2 : ¬ (r95 = 0) → xX (d + 1) mX6_advance 101 [some (.ref 20)] [] g95 = some r) : xX (d + 1) mX6_advance 87 [some (.ref 20)] [] g = some r :=
  Y_aload_n dX6_advance_87 rfl <| Y_aload_n dX6_advance_88 rfl <| Y_getI dX6_advance_89 f_6_66 ft_6_5 (xis W 20 6 s_20 (Nat.le_of_ble_eq_true rfl)) <| Y_callV1 dX6_advance_92 cl_6_205 rfl rfl (xis W 20 6 s_20 (Nat.le_of_ble_eq_true rfl)) rfl rfl rfl (hk92) <| Y_callS1 dX6_advance_95 cl_6_208 rfl rfl rfl rfl rfl (hk95) <| Y_eq0 135 dX6_advance_98 rfl (fun q => X_le (xle_s xle_0) (k1 q)) (fun q => X_le (xle_s xle_0) (k2 q))
theorem bX6_advance_101 {d : Nat} {g : xSt} {r : Option Value × xSt} {r114 : Int32} {g114 : xSt} (W : xWf g) (hk114 : xCallM d mX6_byteAt [.ref 20, .int (xI g 20 5)] g = some (some (.int r114), g114)) (W114 : xWf g114) (k : xX (d + 1) mX6_advance 76 [some (.ref 20)] [] (xWI (xWL g114 20 8 (((xL g 20 8) <<< (Int32.toInt64 8 &&& 63)) ||| (Int32.toInt64 r114))) 20 5 ((xI g114 20 5) + 1)) = some r) : xX (d + 1) mX6_advance 101 [some (.ref 20)] [] g = some r :=
  Y_aload_n dX6_advance_101 rfl <| Y_aload_n dX6_advance_102 rfl <| Y_getJ dX6_advance_103 f_6_110 ft_6_8 (xis W 20 6 s_20 (Nat.le_of_ble_eq_true rfl)) <| Y_bipush 8 dX6_advance_106 bp_8 <| Y_lshl dX6_advance_108 <| Y_aload_n dX6_advance_109 rfl <| Y_aload_n dX6_advance_110 rfl <| Y_getI dX6_advance_111 f_6_66 ft_6_5 (xis W 20 6 s_20 (Nat.le_of_ble_eq_true rfl)) <| Y_callV1 dX6_advance_114 cl_6_205 rfl rfl (xis W 20 6 s_20 (Nat.le_of_ble_eq_true rfl)) rfl rfl rfl (hk114) <| Y_i2l dX6_advance_117 <| Y_lor dX6_advance_118 <| Y_putJ dX6_advance_119 f_6_110 fn_6_8 ft_6_8 (xis W114 20 6 s_20 (Nat.le_of_ble_eq_true rfl)) <| Y_aload_n dX6_advance_122 rfl <| Y_dup dX6_advance_123 rfl <| Y_getI dX6_advance_124 f_6_66 ft_6_5 (xis W114 20 6 s_20 (Nat.le_of_ble_eq_true rfl)) <| Y_iconst 1 dX6_advance_127 ic_1 <| Y_iadd dX6_advance_128 <| Y_putI dX6_advance_129 f_6_66 fn_6_5 ft_6_5 (xis W114 20 6 s_20 (Nat.le_of_ble_eq_true rfl)) <| Y_goto 76 dX6_advance_132 rfl <| X_le (xle_s xle_0) k
theorem bX6_advance_135 {d : Nat} {g : xSt} {r : Option Value × xSt}  (W : xWf g) (k1 : (xI g 20 5) ≤ (xI g 20 4) → xX (d + 1) mX6_advance 190 [some (.ref 20)] [] g = some r) (k2 : ¬ ((xI g 20 5) ≤ (xI g 20 4)) → xX (d + 1) mX6_advance 146 [some (.ref 20)] [] g = some r) : xX (d + 1) mX6_advance 135 [some (.ref 20)] [] g = some r :=
  Y_aload_n dX6_advance_135 rfl <| Y_getI dX6_advance_136 f_6_66 ft_6_5 (xis W 20 6 s_20 (Nat.le_of_ble_eq_true rfl)) <| Y_aload_n dX6_advance_139 rfl <| Y_getI dX6_advance_140 f_6_81 ft_6_4 (xis W 20 6 s_20 (Nat.le_of_ble_eq_true rfl)) <| Y_le 190 dX6_advance_143 rfl (fun q => X_le (xle_s xle_0) (k1 q)) (fun q => X_le (xle_s xle_0) (k2 q))
theorem bX6_advance_146 {d : Nat} {g : xSt} {r : Option Value × xSt}  (W : xWf g) (k1 : ((xI g 20 5) - (xI g 20 4)) ≤ 8 → xX (d + 1) mX6_advance 165 [some (.ref 20)] [.ref 20] g = some r) (k2 : ¬ (((xI g 20 5) - (xI g 20 4)) ≤ 8) → xX (d + 1) mX6_advance 161 [some (.ref 20)] [.ref 20] g = some r) : xX (d + 1) mX6_advance 146 [some (.ref 20)] [] g = some r :=
  Y_aload_n dX6_advance_146 rfl <| Y_aload_n dX6_advance_147 rfl <| Y_getI dX6_advance_148 f_6_66 ft_6_5 (xis W 20 6 s_20 (Nat.le_of_ble_eq_true rfl)) <| Y_aload_n dX6_advance_151 rfl <| Y_getI dX6_advance_152 f_6_81 ft_6_4 (xis W 20 6 s_20 (Nat.le_of_ble_eq_true rfl)) <| Y_isub dX6_advance_155 <| Y_bipush 8 dX6_advance_156 bp_8 <| Y_le 165 dX6_advance_158 rfl (fun q => X_le (xle_s xle_0) (k1 q)) (fun q => X_le (xle_s xle_0) (k2 q))
theorem bX6_advance_161 {d : Nat} {g : xSt} {r : Option Value × xSt}  (k : xX (d + 1) mX6_advance 166 [some (.ref 20)] [.int 3, .ref 20] g = some r) : xX (d + 1) mX6_advance 161 [some (.ref 20)] [.ref 20] g = some r :=
  Y_iconst 3 dX6_advance_161 ic_3 <| Y_goto 166 dX6_advance_162 rfl <| X_le (xle_s xle_0) k
theorem bX6_advance_165 {d : Nat} {g : xSt} {r : Option Value × xSt}  (k : xX (d + 1) mX6_advance 166 [some (.ref 20)] [.int 1, .ref 20] g = some r) : xX (d + 1) mX6_advance 165 [some (.ref 20)] [.ref 20] g = some r :=
  Y_iconst 1 dX6_advance_165 ic_1 <| X_le (xle_s xle_0) k
theorem bX6_advance_166 {d : Nat} {g : xSt} {r : Option Value × xSt} {s0 r183 : Int32} {g183 : xSt} (W : xWf g) (hk183 : xCallM d mX7_find [.ref 21, .int 7, .long (xL g 20 8)] (xWI g 20 6 s0) = some (some (.int r183), g183)) (W183 : xWf g183) (k : r = (none, xWI g183 20 9 r183)) : xX (d + 1) mX6_advance 166 [some (.ref 20)] [.int s0, .ref 20] g = some r :=
  Y_putI dX6_advance_166 f_6_72 fn_6_6 ft_6_6 (xis W 20 6 s_20 (Nat.le_of_ble_eq_true rfl)) <| Y_aload_n dX6_advance_169 rfl <| Y_aload_n dX6_advance_170 rfl <| Y_getR dX6_advance_171 f_6_29 (by rw [ft_6_0]; rfl) (xis W 20 6 s_20 (Nat.le_of_ble_eq_true rfl)) (xptr W 20 0 p_20_0) <| Y_aload_n dX6_advance_174 rfl <| Y_getR dX6_advance_175 f_6_29 (by rw [ft_6_0]; rfl) (xis W 20 6 s_20 (Nat.le_of_ble_eq_true rfl)) (xptr W 20 0 p_20_0) <| Y_alen 7 dX6_advance_178 (xarr W (o := 21) s_21 (Nat.le_of_ble_eq_true rfl)) on_7 rfl <| Y_aload_n dX6_advance_179 rfl <| Y_getJ dX6_advance_180 f_6_110 ft_6_8 (xis W 20 6 s_20 (Nat.le_of_ble_eq_true rfl)) <| Y_callS1 dX6_advance_183 cl_6_211 rfl rfl rfl rfl rfl (hk183) <| Y_putI dX6_advance_186 f_6_202 fn_6_9 ft_6_9 (xis W183 20 6 s_20 (Nat.le_of_ble_eq_true rfl)) <| Y_ret dX6_advance_189 rfl k
theorem bX6_advance_190 {d : Nat} {g : xSt} {r : Option Value × xSt}  (W : xWf g) (k1 : (xI g 20 2) ≤ (xI g 20 5) → xX (d + 1) mX6_advance 251 [some (.ref 20)] [] g = some r) (k2 : ¬ ((xI g 20 2) ≤ (xI g 20 5)) → xX (d + 1) mX6_advance 201 [some (.ref 20)] [] g = some r) : xX (d + 1) mX6_advance 190 [some (.ref 20)] [] g = some r :=
  Y_aload_n dX6_advance_190 rfl <| Y_getI dX6_advance_191 f_6_66 ft_6_5 (xis W 20 6 s_20 (Nat.le_of_ble_eq_true rfl)) <| Y_aload_n dX6_advance_194 rfl <| Y_getI dX6_advance_195 f_6_58 ft_6_2 (xis W 20 6 s_20 (Nat.le_of_ble_eq_true rfl)) <| Y_ge 251 dX6_advance_198 rfl (fun q => X_le (xle_s xle_0) (k1 q)) (fun q => X_le (xle_s xle_0) (k2 q))
theorem bX6_advance_201 {d : Nat} {g : xSt} {r : Option Value × xSt} {r206 r209 : Int32} {g206 g209 : xSt} (W : xWf g) (hk206 : xCallM d mX6_byteAt [.ref 20, .int (xI g 20 5)] g = some (some (.int r206), g206)) (W206 : xWf g206) (hk209 : xCallM d mX6_isDigit [.int r206] g206 = some (some (.int r209), g209)) (W209 : xWf g209) (k1 : r209 = 0 → xX (d + 1) mX6_advance 251 [some (.ref 20)] [] g209 = some r) (k2 : ¬ (r209 = 0) → xX (d + 1) mX6_advance 215 [some (.ref 20)] [] g209 = some r) : xX (d + 1) mX6_advance 201 [some (.ref 20)] [] g = some r :=
  Y_aload_n dX6_advance_201 rfl <| Y_aload_n dX6_advance_202 rfl <| Y_getI dX6_advance_203 f_6_66 ft_6_5 (xis W 20 6 s_20 (Nat.le_of_ble_eq_true rfl)) <| Y_callV1 dX6_advance_206 cl_6_205 rfl rfl (xis W 20 6 s_20 (Nat.le_of_ble_eq_true rfl)) rfl rfl rfl (hk206) <| Y_callS1 dX6_advance_209 cl_6_215 rfl rfl rfl rfl rfl (hk209) <| Y_eq0 251 dX6_advance_212 rfl (fun q => X_le (xle_s xle_0) (k1 q)) (fun q => X_le (xle_s xle_0) (k2 q))
theorem bX6_advance_215 {d : Nat} {g : xSt} {r : Option Value × xSt} {r228 : Int32} {g228 : xSt} (W : xWf g) (hk228 : xCallM d mX6_byteAt [.ref 20, .int (xI g 20 5)] g = some (some (.int r228), g228)) (W228 : xWf g228) (k : xX (d + 1) mX6_advance 190 [some (.ref 20)] [] (xWI (xWI g228 20 7 (((10 * (xI g 20 7)) + r228) - 48)) 20 5 ((xI g228 20 5) + 1)) = some r) : xX (d + 1) mX6_advance 215 [some (.ref 20)] [] g = some r :=
  Y_aload_n dX6_advance_215 rfl <| Y_bipush 10 dX6_advance_216 bp_10 <| Y_aload_n dX6_advance_218 rfl <| Y_getI dX6_advance_219 f_6_199 ft_6_7 (xis W 20 6 s_20 (Nat.le_of_ble_eq_true rfl)) <| Y_imul dX6_advance_222 <| Y_aload_n dX6_advance_223 rfl <| Y_aload_n dX6_advance_224 rfl <| Y_getI dX6_advance_225 f_6_66 ft_6_5 (xis W 20 6 s_20 (Nat.le_of_ble_eq_true rfl)) <| Y_callV1 dX6_advance_228 cl_6_205 rfl rfl (xis W 20 6 s_20 (Nat.le_of_ble_eq_true rfl)) rfl rfl rfl (hk228) <| Y_iadd dX6_advance_231 <| Y_bipush 48 dX6_advance_232 bp_48 <| Y_isub dX6_advance_234 <| Y_putI dX6_advance_235 f_6_199 fn_6_7 ft_6_7 (xis W228 20 6 s_20 (Nat.le_of_ble_eq_true rfl)) <| Y_aload_n dX6_advance_238 rfl <| Y_dup dX6_advance_239 rfl <| Y_getI dX6_advance_240 f_6_66 ft_6_5 (xis W228 20 6 s_20 (Nat.le_of_ble_eq_true rfl)) <| Y_iconst 1 dX6_advance_243 ic_1 <| Y_iadd dX6_advance_244 <| Y_putI dX6_advance_245 f_6_66 fn_6_5 ft_6_5 (xis W228 20 6 s_20 (Nat.le_of_ble_eq_true rfl)) <| Y_goto 190 dX6_advance_248 rfl <| X_le (xle_s xle_0) k
theorem bX6_advance_251 {d : Nat} {g : xSt} {r : Option Value × xSt}  (W : xWf g) (k1 : (xI g 20 5) ≤ (xI g 20 4) → xX (d + 1) mX6_advance 299 [some (.ref 20)] [] g = some r) (k2 : ¬ ((xI g 20 5) ≤ (xI g 20 4)) → xX (d + 1) mX6_advance 262 [some (.ref 20)] [] g = some r) : xX (d + 1) mX6_advance 251 [some (.ref 20)] [] g = some r :=
  Y_aload_n dX6_advance_251 rfl <| Y_getI dX6_advance_252 f_6_66 ft_6_5 (xis W 20 6 s_20 (Nat.le_of_ble_eq_true rfl)) <| Y_aload_n dX6_advance_255 rfl <| Y_getI dX6_advance_256 f_6_81 ft_6_4 (xis W 20 6 s_20 (Nat.le_of_ble_eq_true rfl)) <| Y_le 299 dX6_advance_259 rfl (fun q => X_le (xle_s xle_0) (k1 q)) (fun q => X_le (xle_s xle_0) (k2 q))
theorem bX6_advance_262 {d : Nat} {g : xSt} {r : Option Value × xSt}  (W : xWf g) (k1 : 4 < ((xI g 20 5) - (xI g 20 4)) → xX (d + 1) mX6_advance 290 [none] [.ref 20] g = some r) (k2 : ¬ (4 < ((xI g 20 5) - (xI g 20 4))) → xX (d + 1) mX6_advance 276 [some (.ref 20)] [.ref 20] g = some r) : xX (d + 1) mX6_advance 262 [some (.ref 20)] [] g = some r :=
  Y_aload_n dX6_advance_262 rfl <| Y_aload_n dX6_advance_263 rfl <| Y_getI dX6_advance_264 f_6_66 ft_6_5 (xis W 20 6 s_20 (Nat.le_of_ble_eq_true rfl)) <| Y_aload_n dX6_advance_267 rfl <| Y_getI dX6_advance_268 f_6_81 ft_6_4 (xis W 20 6 s_20 (Nat.le_of_ble_eq_true rfl)) <| Y_isub dX6_advance_271 <| Y_iconst 4 dX6_advance_272 ic_4 <| Y_gt 290 dX6_advance_273 rfl (fun q => X_le (xle_n xle_0) (k1 q)) (fun q => X_le (xle_s xle_0) (k2 q))
theorem bX6_advance_276 {d : Nat} {g : xSt} {r : Option Value × xSt} {r281 r284 : Int32} {g281 g284 : xSt} (W : xWf g) (hk281 : xCallM d mX6_byteAt [.ref 20, .int (xI g 20 5)] g = some (some (.int r281), g281)) (W281 : xWf g281) (hk284 : xCallM d mX6_isLetter [.int r281] g281 = some (some (.int r284), g284)) (W284 : xWf g284) (k1 : r284 = 0 → xX (d + 1) mX6_advance 294 [none] [.ref 20] g284 = some r) (k2 : ¬ (r284 = 0) → xX (d + 1) mX6_advance 290 [none] [.ref 20] g284 = some r) : xX (d + 1) mX6_advance 276 [some (.ref 20)] [.ref 20] g = some r :=
  Y_aload_n dX6_advance_276 rfl <| Y_aload_n dX6_advance_277 rfl <| Y_getI dX6_advance_278 f_6_66 ft_6_5 (xis W 20 6 s_20 (Nat.le_of_ble_eq_true rfl)) <| Y_callV1 dX6_advance_281 cl_6_205 rfl rfl (xis W 20 6 s_20 (Nat.le_of_ble_eq_true rfl)) rfl rfl rfl (hk281) <| Y_callS1 dX6_advance_284 cl_6_208 rfl rfl rfl rfl rfl (hk284) <| Y_eq0 294 dX6_advance_287 rfl (fun q => X_le (xle_n xle_0) (k1 q)) (fun q => X_le (xle_n xle_0) (k2 q))
theorem bX6_advance_290 {d : Nat} {g : xSt} {r : Option Value × xSt}  (k : xX (d + 1) mX6_advance 295 [none] [.int 3, .ref 20] g = some r) : xX (d + 1) mX6_advance 290 [none] [.ref 20] g = some r :=
  Y_iconst 3 dX6_advance_290 ic_3 <| Y_goto 295 dX6_advance_291 rfl <| X_le (xle_n xle_0) k
theorem bX6_advance_294 {d : Nat} {g : xSt} {r : Option Value × xSt}  (k : xX (d + 1) mX6_advance 295 [none] [.int 2, .ref 20] g = some r) : xX (d + 1) mX6_advance 294 [none] [.ref 20] g = some r :=
  Y_iconst 2 dX6_advance_294 ic_2 <| X_le (xle_n xle_0) k
theorem bX6_advance_295 {d : Nat} {g : xSt} {r : Option Value × xSt} {s0 : Int32} (W : xWf g) (k : r = (none, xWI g 20 6 s0)) : xX (d + 1) mX6_advance 295 [none] [.int s0, .ref 20] g = some r :=
  Y_putI dX6_advance_295 f_6_72 fn_6_6 ft_6_6 (xis W 20 6 s_20 (Nat.le_of_ble_eq_true rfl)) <| Y_ret dX6_advance_298 rfl k
theorem bX6_advance_299 {d : Nat} {g : xSt} {r : Option Value × xSt}  (W : xWf g) (k1 : (xI g 20 4) < (xI g 20 2) → xX (d + 1) mX6_advance 315 [some (.ref 20)] [.ref 20] g = some r) (k2 : ¬ ((xI g 20 4) < (xI g 20 2)) → xX (d + 1) mX6_advance 311 [some (.ref 20)] [.ref 20] g = some r) : xX (d + 1) mX6_advance 299 [some (.ref 20)] [] g = some r :=
  Y_aload_n dX6_advance_299 rfl <| Y_aload_n dX6_advance_300 rfl <| Y_getI dX6_advance_301 f_6_81 ft_6_4 (xis W 20 6 s_20 (Nat.le_of_ble_eq_true rfl)) <| Y_aload_n dX6_advance_304 rfl <| Y_getI dX6_advance_305 f_6_58 ft_6_2 (xis W 20 6 s_20 (Nat.le_of_ble_eq_true rfl)) <| Y_lt 315 dX6_advance_308 rfl (fun q => X_le (xle_s xle_0) (k1 q)) (fun q => X_le (xle_s xle_0) (k2 q))
theorem bX6_advance_311 {d : Nat} {g : xSt} {r : Option Value × xSt}  (k : xX (d + 1) mX6_advance 341 [some (.ref 20)] [.int 0, .ref 20] g = some r) : xX (d + 1) mX6_advance 311 [some (.ref 20)] [.ref 20] g = some r :=
  Y_iconst 0 dX6_advance_311 ic_0 <| Y_goto 341 dX6_advance_312 rfl <| X_le (xle_s xle_0) k
theorem bX6_advance_315 {d : Nat} {g : xSt} {r : Option Value × xSt} {r320 r323 : Int32} {g320 g323 : xSt} (W : xWf g) (hk320 : xCallM d mX6_byteAt [.ref 20, .int (xI g 20 4)] g = some (some (.int r320), g320)) (W320 : xWf g320) (hk323 : xCallM d mX6_isSign [.int r320] g320 = some (some (.int r323), g323)) (W323 : xWf g323) (k1 : r323 = 0 → xX (d + 1) mX6_advance 340 [some (.ref 20)] [.ref 20] g323 = some r) (k2 : ¬ (r323 = 0) → xX (d + 1) mX6_advance 329 [some (.ref 20)] [.ref 20] g323 = some r) : xX (d + 1) mX6_advance 315 [some (.ref 20)] [.ref 20] g = some r :=
  Y_aload_n dX6_advance_315 rfl <| Y_aload_n dX6_advance_316 rfl <| Y_getI dX6_advance_317 f_6_81 ft_6_4 (xis W 20 6 s_20 (Nat.le_of_ble_eq_true rfl)) <| Y_callV1 dX6_advance_320 cl_6_205 rfl rfl (xis W 20 6 s_20 (Nat.le_of_ble_eq_true rfl)) rfl rfl rfl (hk320) <| Y_callS1 dX6_advance_323 cl_6_218 rfl rfl rfl rfl rfl (hk323) <| Y_eq0 340 dX6_advance_326 rfl (fun q => X_le (xle_s xle_0) (k1 q)) (fun q => X_le (xle_s xle_0) (k2 q))
theorem bX6_advance_329 {d : Nat} {g : xSt} {r : Option Value × xSt} {r334 : Int32} {g334 : xSt} (W : xWf g) (hk334 : xCallM d mX6_byteAt [.ref 20, .int (xI g 20 4)] g = some (some (.int r334), g334)) (W334 : xWf g334) (k : xX (d + 1) mX6_advance 341 [some (.ref 20)] [.int r334, .ref 20] g334 = some r) : xX (d + 1) mX6_advance 329 [some (.ref 20)] [.ref 20] g = some r :=
  Y_aload_n dX6_advance_329 rfl <| Y_aload_n dX6_advance_330 rfl <| Y_getI dX6_advance_331 f_6_81 ft_6_4 (xis W 20 6 s_20 (Nat.le_of_ble_eq_true rfl)) <| Y_callV1 dX6_advance_334 cl_6_205 rfl rfl (xis W 20 6 s_20 (Nat.le_of_ble_eq_true rfl)) rfl rfl rfl (hk334) <| Y_goto 341 dX6_advance_337 rfl <| X_le (xle_s xle_0) k
theorem bX6_advance_340 {d : Nat} {g : xSt} {r : Option Value × xSt}  (k : xX (d + 1) mX6_advance 341 [some (.ref 20)] [.int 3, .ref 20] g = some r) : xX (d + 1) mX6_advance 340 [some (.ref 20)] [.ref 20] g = some r :=
  Y_iconst 3 dX6_advance_340 ic_3 <| X_le (xle_s xle_0) k
theorem bX6_advance_341 {d : Nat} {g : xSt} {r : Option Value × xSt} {s0 : Int32} (W : xWf g) (k : r = (none, xWI (xWI g 20 6 s0) 20 5 (imin ((xI g 20 4) + 1) (xI g 20 2)))) : xX (d + 1) mX6_advance 341 [some (.ref 20)] [.int s0, .ref 20] g = some r :=
  Y_putI dX6_advance_341 f_6_72 fn_6_6 ft_6_6 (xis W 20 6 s_20 (Nat.le_of_ble_eq_true rfl)) <| Y_aload_n dX6_advance_344 rfl <| Y_aload_n dX6_advance_345 rfl <| Y_getI dX6_advance_346 f_6_81 ft_6_4 (xis W 20 6 s_20 (Nat.le_of_ble_eq_true rfl)) <| Y_iconst 1 dX6_advance_349 ic_1 <| Y_iadd dX6_advance_350 <| Y_aload_n dX6_advance_351 rfl <| Y_getI dX6_advance_352 f_6_58 ft_6_2 (xis W 20 6 s_20 (Nat.le_of_ble_eq_true rfl)) <| Y_min dX6_advance_355 km_6_221 kn_6_221 rfl <| Y_putI dX6_advance_358 f_6_66 fn_6_5 ft_6_5 (xis W 20 6 s_20 (Nat.le_of_ble_eq_true rfl)) <| Y_ret dX6_advance_361 rfl k
theorem bX6_byteAt_0 {d : Nat} {g : xSt} {r : Option Value × xSt} {a1 : Int32} (k1 : a1 < 0 → xX d mX6_byteAt 34 [none, none] [] g = some r) (k2 : ¬ (a1 < 0) → xX d mX6_byteAt 4 [some (.ref 20), some (.int a1)] [] g = some r) : xX d mX6_byteAt 0 [some (.ref 20), some (.int a1)] [] g = some r :=
  Y_iload_n dX6_byteAt_0 rfl <| Y_lt0 34 dX6_byteAt_1 rfl (fun q => X_le (xle_n (xle_n xle_0)) (k1 q)) (fun q => X_le (xle_s (xle_s xle_0)) (k2 q))
theorem bX6_byteAt_4 {d : Nat} {g : xSt} {r : Option Value × xSt} {a1 : Int32} (W : xWf g) (k1 : (xI g 20 2) ≤ a1 → xX d mX6_byteAt 34 [none, none] [] g = some r) (k2 : ¬ ((xI g 20 2) ≤ a1) → xX d mX6_byteAt 12 [some (.ref 20), some (.int a1)] [] g = some r) : xX d mX6_byteAt 4 [some (.ref 20), some (.int a1)] [] g = some r :=
  Y_iload_n dX6_byteAt_4 rfl <| Y_aload_n dX6_byteAt_5 rfl <| Y_getI dX6_byteAt_6 f_6_58 ft_6_2 (xis W 20 6 s_20 (Nat.le_of_ble_eq_true rfl)) <| Y_ge 34 dX6_byteAt_9 rfl (fun q => X_le (xle_n (xle_n xle_0)) (k1 q)) (fun q => X_le (xle_s (xle_s xle_0)) (k2 q))
theorem bX6_byteAt_12 {d : Nat} {g : xSt} {r : Option Value × xSt} {a1 : Int32} (W : xWf g) (hpt0 : xR g 20 1 = some 1) (k1 : 1200 ≤ a1 → xX d mX6_byteAt 34 [none, none] [] g = some r) (k2 : ¬ (1200 ≤ a1) → xX d mX6_byteAt 21 [some (.ref 20), some (.int a1)] [] g = some r) : xX d mX6_byteAt 12 [some (.ref 20), some (.int a1)] [] g = some r :=
  Y_iload_n dX6_byteAt_12 rfl <| Y_aload_n dX6_byteAt_13 rfl <| Y_getR dX6_byteAt_14 f_6_33 (by rw [ft_6_1]; rfl) (xis W 20 6 s_20 (Nat.le_of_ble_eq_true rfl)) (hpt0) <| Y_alen 1200 dX6_byteAt_17 (xarr W (o := 1) s_1 (Nat.le_of_ble_eq_true rfl)) on_1200 rfl <| Y_ge 34 dX6_byteAt_18 rfl (fun q => X_le (xle_n (xle_n xle_0)) (k1 q)) (fun q => X_le (xle_s (xle_s xle_0)) (k2 q))
theorem bX6_byteAt_21 {d : Nat} {g : xSt} {r : Option Value × xSt} {a1 : Int32} (W : xWf g) (hpt0 : xR g 20 1 = some 1) (hi26 : vp_in a1 1200) (k : xX d mX6_byteAt 35 [none, none] [.int ((xI g 1 a1.toNatClampNeg) &&& 255)] g = some r) : xX d mX6_byteAt 21 [some (.ref 20), some (.int a1)] [] g = some r :=
  Y_aload_n dX6_byteAt_21 rfl <| Y_getR dX6_byteAt_22 f_6_33 (by rw [ft_6_1]; rfl) (xis W 20 6 s_20 (Nat.le_of_ble_eq_true rfl)) (hpt0) <| Y_iload_n dX6_byteAt_25 rfl <| Y_bald dX6_byteAt_26 (xarr W (o := 1) s_1 (Nat.le_of_ble_eq_true rfl)) hi26 <| Y_sipush 255 dX6_byteAt_27 sp_255 <| Y_iand dX6_byteAt_30 <| Y_goto 35 dX6_byteAt_31 rfl <| X_le (xle_n (xle_n xle_0)) k
theorem bX6_byteAt_34 {d : Nat} {g : xSt} {r : Option Value × xSt}  (k : xX d mX6_byteAt 35 [none, none] [.int (-1)] g = some r) : xX d mX6_byteAt 34 [none, none] [] g = some r :=
  Y_iconst (-1) dX6_byteAt_34 ic_m1 <| X_le (xle_n (xle_n xle_0)) k
theorem bX6_byteAt_35 {d : Nat} {g : xSt} {r : Option Value × xSt} {s0 : Int32} (k : r = (some (.int s0), g)) : xX d mX6_byteAt 35 [none, none] [.int s0] g = some r :=
  Y_iret dX6_byteAt_35 rfl k
theorem bX6_isLetter_0 {d : Nat} {g : xSt} {r : Option Value × xSt} {a0 : Int32} (k1 : a0 < 97 → xX d mX6_isLetter 16 [none] [] g = some r) (k2 : ¬ (a0 < 97) → xX d mX6_isLetter 6 [some (.int a0)] [] g = some r) : xX d mX6_isLetter 0 [some (.int a0)] [] g = some r :=
  Y_iload_n dX6_isLetter_0 rfl <| Y_bipush 97 dX6_isLetter_1 bp_97 <| Y_lt 16 dX6_isLetter_3 rfl (fun q => X_le (xle_n xle_0) (k1 q)) (fun q => X_le (xle_s xle_0) (k2 q))
theorem bX6_isLetter_6 {d : Nat} {g : xSt} {r : Option Value × xSt} {a0 : Int32} (k1 : 122 < a0 → xX d mX6_isLetter 16 [none] [] g = some r) (k2 : ¬ (122 < a0) → xX d mX6_isLetter 12 [none] [] g = some r) : xX d mX6_isLetter 6 [some (.int a0)] [] g = some r :=
  Y_iload_n dX6_isLetter_6 rfl <| Y_bipush 122 dX6_isLetter_7 bp_122 <| Y_gt 16 dX6_isLetter_9 rfl (fun q => X_le (xle_n xle_0) (k1 q)) (fun q => X_le (xle_n xle_0) (k2 q))
theorem bX6_isLetter_12 {d : Nat} {g : xSt} {r : Option Value × xSt}  (k : xX d mX6_isLetter 17 [none] [.int 1] g = some r) : xX d mX6_isLetter 12 [none] [] g = some r :=
  Y_iconst 1 dX6_isLetter_12 ic_1 <| Y_goto 17 dX6_isLetter_13 rfl <| X_le (xle_n xle_0) k
theorem bX6_isLetter_16 {d : Nat} {g : xSt} {r : Option Value × xSt}  (k : xX d mX6_isLetter 17 [none] [.int 0] g = some r) : xX d mX6_isLetter 16 [none] [] g = some r :=
  Y_iconst 0 dX6_isLetter_16 ic_0 <| X_le (xle_n xle_0) k
theorem bX6_isLetter_17 {d : Nat} {g : xSt} {r : Option Value × xSt} {s0 : Int32} (hz17 : s0 = 0 ∨ s0 = 1) (k : r = (some (.int s0), g)) : xX d mX6_isLetter 17 [none] [.int s0] g = some r :=
  Y_zret dX6_isLetter_17 rfl (hz17) k
theorem bX6_isDigit_0 {d : Nat} {g : xSt} {r : Option Value × xSt} {a0 : Int32} (k1 : a0 < 48 → xX d mX6_isDigit 16 [none] [] g = some r) (k2 : ¬ (a0 < 48) → xX d mX6_isDigit 6 [some (.int a0)] [] g = some r) : xX d mX6_isDigit 0 [some (.int a0)] [] g = some r :=
  Y_iload_n dX6_isDigit_0 rfl <| Y_bipush 48 dX6_isDigit_1 bp_48 <| Y_lt 16 dX6_isDigit_3 rfl (fun q => X_le (xle_n xle_0) (k1 q)) (fun q => X_le (xle_s xle_0) (k2 q))
theorem bX6_isDigit_6 {d : Nat} {g : xSt} {r : Option Value × xSt} {a0 : Int32} (k1 : 57 < a0 → xX d mX6_isDigit 16 [none] [] g = some r) (k2 : ¬ (57 < a0) → xX d mX6_isDigit 12 [none] [] g = some r) : xX d mX6_isDigit 6 [some (.int a0)] [] g = some r :=
  Y_iload_n dX6_isDigit_6 rfl <| Y_bipush 57 dX6_isDigit_7 bp_57 <| Y_gt 16 dX6_isDigit_9 rfl (fun q => X_le (xle_n xle_0) (k1 q)) (fun q => X_le (xle_n xle_0) (k2 q))
theorem bX6_isDigit_12 {d : Nat} {g : xSt} {r : Option Value × xSt}  (k : xX d mX6_isDigit 17 [none] [.int 1] g = some r) : xX d mX6_isDigit 12 [none] [] g = some r :=
  Y_iconst 1 dX6_isDigit_12 ic_1 <| Y_goto 17 dX6_isDigit_13 rfl <| X_le (xle_n xle_0) k
theorem bX6_isDigit_16 {d : Nat} {g : xSt} {r : Option Value × xSt}  (k : xX d mX6_isDigit 17 [none] [.int 0] g = some r) : xX d mX6_isDigit 16 [none] [] g = some r :=
  Y_iconst 0 dX6_isDigit_16 ic_0 <| X_le (xle_n xle_0) k
theorem bX6_isDigit_17 {d : Nat} {g : xSt} {r : Option Value × xSt} {s0 : Int32} (hz17 : s0 = 0 ∨ s0 = 1) (k : r = (some (.int s0), g)) : xX d mX6_isDigit 17 [none] [.int s0] g = some r :=
  Y_zret dX6_isDigit_17 rfl (hz17) k
theorem bX6_isSign_0 {d : Nat} {g : xSt} {r : Option Value × xSt} {a0 : Int32} (k1 : a0 = 59 → xX d mX6_isSign 24 [none] [] g = some r) (k2 : ¬ (a0 = 59) → xX d mX6_isSign 6 [some (.int a0)] [] g = some r) : xX d mX6_isSign 0 [some (.int a0)] [] g = some r :=
  Y_iload_n dX6_isSign_0 rfl <| Y_bipush 59 dX6_isSign_1 bp_59 <| Y_eq 24 dX6_isSign_3 rfl (fun q => X_le (xle_n xle_0) (k1 q)) (fun q => X_le (xle_s xle_0) (k2 q))
theorem bX6_isSign_6 {d : Nat} {g : xSt} {r : Option Value × xSt} {a0 : Int32} (k1 : a0 = 40 → xX d mX6_isSign 24 [none] [] g = some r) (k2 : ¬ (a0 = 40) → xX d mX6_isSign 12 [some (.int a0)] [] g = some r) : xX d mX6_isSign 6 [some (.int a0)] [] g = some r :=
  Y_iload_n dX6_isSign_6 rfl <| Y_bipush 40 dX6_isSign_7 bp_40 <| Y_eq 24 dX6_isSign_9 rfl (fun q => X_le (xle_n xle_0) (k1 q)) (fun q => X_le (xle_s xle_0) (k2 q))
theorem bX6_isSign_12 {d : Nat} {g : xSt} {r : Option Value × xSt} {a0 : Int32} (k1 : a0 = 41 → xX d mX6_isSign 24 [none] [] g = some r) (k2 : ¬ (a0 = 41) → xX d mX6_isSign 18 [some (.int a0)] [] g = some r) : xX d mX6_isSign 12 [some (.int a0)] [] g = some r :=
  Y_iload_n dX6_isSign_12 rfl <| Y_bipush 41 dX6_isSign_13 bp_41 <| Y_eq 24 dX6_isSign_15 rfl (fun q => X_le (xle_n xle_0) (k1 q)) (fun q => X_le (xle_s xle_0) (k2 q))
theorem bX6_isSign_18 {d : Nat} {g : xSt} {r : Option Value × xSt} {a0 : Int32} (k1 : a0 = 47 → xX d mX6_isSign 24 [none] [] g = some r) (k2 : ¬ (a0 = 47) → xX d mX6_isSign 28 [none] [] g = some r) : xX d mX6_isSign 18 [some (.int a0)] [] g = some r :=
  Y_iload_n dX6_isSign_18 rfl <| Y_bipush 47 dX6_isSign_19 bp_47 <| Y_ne 28 dX6_isSign_21 rfl (fun q => X_le (xle_n xle_0) (k1 q)) (fun q => X_le (xle_n xle_0) (k2 q))
theorem bX6_isSign_24 {d : Nat} {g : xSt} {r : Option Value × xSt}  (k : xX d mX6_isSign 29 [none] [.int 1] g = some r) : xX d mX6_isSign 24 [none] [] g = some r :=
  Y_iconst 1 dX6_isSign_24 ic_1 <| Y_goto 29 dX6_isSign_25 rfl <| X_le (xle_n xle_0) k
theorem bX6_isSign_28 {d : Nat} {g : xSt} {r : Option Value × xSt}  (k : xX d mX6_isSign 29 [none] [.int 0] g = some r) : xX d mX6_isSign 28 [none] [] g = some r :=
  Y_iconst 0 dX6_isSign_28 ic_0 <| X_le (xle_n xle_0) k
theorem bX6_isSign_29 {d : Nat} {g : xSt} {r : Option Value × xSt} {s0 : Int32} (hz29 : s0 = 0 ∨ s0 = 1) (k : r = (some (.int s0), g)) : xX d mX6_isSign 29 [none] [.int s0] g = some r :=
  Y_zret dX6_isSign_29 rfl (hz29) k
theorem bX6_readLine_0 {d : Nat} {g : xSt} {r : Option Value × xSt} {r2 : Int32} {g2 : xSt} (W : xWf g) (hk2 : xCallM d mX6_isOwn [.ref 20, .int 0] g = some (some (.int r2), g2)) (W2 : xWf g2) (k1 : r2 = 0 → xX (d + 1) mX6_readLine 15 [some (.ref 20)] [] g2 = some r) (k2 : ¬ (r2 = 0) → xX (d + 1) mX6_readLine 8 [some (.ref 20)] [] g2 = some r) : xX (d + 1) mX6_readLine 0 [some (.ref 20)] [] g = some r :=
  Y_aload_n dX6_readLine_0 rfl <| Y_iconst 0 dX6_readLine_1 ic_0 <| Y_callV1 dX6_readLine_2 cl_6_84 rfl rfl (xis W 20 6 s_20 (Nat.le_of_ble_eq_true rfl)) rfl rfl rfl (hk2) <| Y_eq0 15 dX6_readLine_5 rfl (fun q => X_le (xle_s xle_0) (k1 q)) (fun q => X_le (xle_s xle_0) (k2 q))
theorem bX6_readLine_8 {d : Nat} {g : xSt} {r : Option Value × xSt} {g9 : xSt} (W : xWf g) (hk9 : xCallM d mX6_readThing [.ref 20] g = some (none, g9)) (W9 : xWf g9) (k : xX (d + 1) mX6_readLine 80 [none] [] g9 = some r) : xX (d + 1) mX6_readLine 8 [some (.ref 20)] [] g = some r :=
  Y_aload_n dX6_readLine_8 rfl <| Y_callV0 dX6_readLine_9 cl_6_88 rfl rfl (xis W 20 6 s_20 (Nat.le_of_ble_eq_true rfl)) rfl rfl rfl (hk9) <| Y_goto 80 dX6_readLine_12 rfl <| X_le (xle_n xle_0) k
theorem bX6_readLine_15 {d : Nat} {g : xSt} {r : Option Value × xSt} {r17 : Int32} {g17 : xSt} (W : xWf g) (hk17 : xCallM d mX6_isOwn [.ref 20, .int 2] g = some (some (.int r17), g17)) (W17 : xWf g17) (k1 : r17 = 0 → xX (d + 1) mX6_readLine 30 [some (.ref 20)] [] g17 = some r) (k2 : ¬ (r17 = 0) → xX (d + 1) mX6_readLine 23 [some (.ref 20)] [] g17 = some r) : xX (d + 1) mX6_readLine 15 [some (.ref 20)] [] g = some r :=
  Y_aload_n dX6_readLine_15 rfl <| Y_iconst 2 dX6_readLine_16 ic_2 <| Y_callV1 dX6_readLine_17 cl_6_84 rfl rfl (xis W 20 6 s_20 (Nat.le_of_ble_eq_true rfl)) rfl rfl rfl (hk17) <| Y_eq0 30 dX6_readLine_20 rfl (fun q => X_le (xle_s xle_0) (k1 q)) (fun q => X_le (xle_s xle_0) (k2 q))
theorem bX6_readLine_23 {d : Nat} {g : xSt} {r : Option Value × xSt} {g24 : xSt} (W : xWf g) (hk24 : xCallM d mX6_readTwins [.ref 20] g = some (none, g24)) (W24 : xWf g24) (k : xX (d + 1) mX6_readLine 80 [none] [] g24 = some r) : xX (d + 1) mX6_readLine 23 [some (.ref 20)] [] g = some r :=
  Y_aload_n dX6_readLine_23 rfl <| Y_callV0 dX6_readLine_24 cl_6_91 rfl rfl (xis W 20 6 s_20 (Nat.le_of_ble_eq_true rfl)) rfl rfl rfl (hk24) <| Y_goto 80 dX6_readLine_27 rfl <| X_le (xle_n xle_0) k
theorem bX6_readLine_30 {d : Nat} {g : xSt} {r : Option Value × xSt} {r32 : Int32} {g32 : xSt} (W : xWf g) (hk32 : xCallM d mX6_isOwn [.ref 20, .int 3] g = some (some (.int r32), g32)) (W32 : xWf g32) (k1 : r32 = 0 → xX (d + 1) mX6_readLine 45 [some (.ref 20)] [] g32 = some r) (k2 : ¬ (r32 = 0) → xX (d + 1) mX6_readLine 38 [some (.ref 20)] [] g32 = some r) : xX (d + 1) mX6_readLine 30 [some (.ref 20)] [] g = some r :=
  Y_aload_n dX6_readLine_30 rfl <| Y_iconst 3 dX6_readLine_31 ic_3 <| Y_callV1 dX6_readLine_32 cl_6_84 rfl rfl (xis W 20 6 s_20 (Nat.le_of_ble_eq_true rfl)) rfl rfl rfl (hk32) <| Y_eq0 45 dX6_readLine_35 rfl (fun q => X_le (xle_s xle_0) (k1 q)) (fun q => X_le (xle_s xle_0) (k2 q))
theorem bX6_readLine_38 {d : Nat} {g : xSt} {r : Option Value × xSt} {g39 : xSt} (W : xWf g) (hk39 : xCallM d mX6_readSticks [.ref 20] g = some (none, g39)) (W39 : xWf g39) (k : xX (d + 1) mX6_readLine 80 [none] [] g39 = some r) : xX (d + 1) mX6_readLine 38 [some (.ref 20)] [] g = some r :=
  Y_aload_n dX6_readLine_38 rfl <| Y_callV0 dX6_readLine_39 cl_6_94 rfl rfl (xis W 20 6 s_20 (Nat.le_of_ble_eq_true rfl)) rfl rfl rfl (hk39) <| Y_goto 80 dX6_readLine_42 rfl <| X_le (xle_n xle_0) k
theorem bX6_readLine_45 {d : Nat} {g : xSt} {r : Option Value × xSt} {r47 : Int32} {g47 : xSt} (W : xWf g) (hk47 : xCallM d mX6_isOwn [.ref 20, .int 4] g = some (some (.int r47), g47)) (W47 : xWf g47) (k1 : r47 = 0 → xX (d + 1) mX6_readLine 60 [some (.ref 20)] [] g47 = some r) (k2 : ¬ (r47 = 0) → xX (d + 1) mX6_readLine 53 [some (.ref 20)] [] g47 = some r) : xX (d + 1) mX6_readLine 45 [some (.ref 20)] [] g = some r :=
  Y_aload_n dX6_readLine_45 rfl <| Y_iconst 4 dX6_readLine_46 ic_4 <| Y_callV1 dX6_readLine_47 cl_6_84 rfl rfl (xis W 20 6 s_20 (Nat.le_of_ble_eq_true rfl)) rfl rfl rfl (hk47) <| Y_eq0 60 dX6_readLine_50 rfl (fun q => X_le (xle_s xle_0) (k1 q)) (fun q => X_le (xle_s xle_0) (k2 q))
theorem bX6_readLine_53 {d : Nat} {g : xSt} {r : Option Value × xSt} {g54 : xSt} (W : xWf g) (hk54 : xCallM d mX6_readRow [.ref 20] g = some (none, g54)) (W54 : xWf g54) (k : xX (d + 1) mX6_readLine 80 [none] [] g54 = some r) : xX (d + 1) mX6_readLine 53 [some (.ref 20)] [] g = some r :=
  Y_aload_n dX6_readLine_53 rfl <| Y_callV0 dX6_readLine_54 cl_6_97 rfl rfl (xis W 20 6 s_20 (Nat.le_of_ble_eq_true rfl)) rfl rfl rfl (hk54) <| Y_goto 80 dX6_readLine_57 rfl <| X_le (xle_n xle_0) k
theorem bX6_readLine_60 {d : Nat} {g : xSt} {r : Option Value × xSt} {r62 : Int32} {g62 : xSt} (W : xWf g) (hk62 : xCallM d mX6_isOwn [.ref 20, .int 5] g = some (some (.int r62), g62)) (W62 : xWf g62) (k1 : r62 = 0 → xX (d + 1) mX6_readLine 75 [some (.ref 20)] [] g62 = some r) (k2 : ¬ (r62 = 0) → xX (d + 1) mX6_readLine 68 [some (.ref 20)] [] g62 = some r) : xX (d + 1) mX6_readLine 60 [some (.ref 20)] [] g = some r :=
  Y_aload_n dX6_readLine_60 rfl <| Y_iconst 5 dX6_readLine_61 ic_5 <| Y_callV1 dX6_readLine_62 cl_6_84 rfl rfl (xis W 20 6 s_20 (Nat.le_of_ble_eq_true rfl)) rfl rfl rfl (hk62) <| Y_eq0 75 dX6_readLine_65 rfl (fun q => X_le (xle_s xle_0) (k1 q)) (fun q => X_le (xle_s xle_0) (k2 q))
theorem bX6_readLine_68 {d : Nat} {g : xSt} {r : Option Value × xSt} {g69 : xSt} (W : xWf g) (hk69 : xCallM d mX6_readPlan [.ref 20] g = some (none, g69)) (W69 : xWf g69) (k : xX (d + 1) mX6_readLine 80 [none] [] g69 = some r) : xX (d + 1) mX6_readLine 68 [some (.ref 20)] [] g = some r :=
  Y_aload_n dX6_readLine_68 rfl <| Y_callV0 dX6_readLine_69 cl_6_100 rfl rfl (xis W 20 6 s_20 (Nat.le_of_ble_eq_true rfl)) rfl rfl rfl (hk69) <| Y_goto 80 dX6_readLine_72 rfl <| X_le (xle_n xle_0) k
theorem bX6_readLine_75 {d : Nat} {g : xSt} {r : Option Value × xSt} {g77 : xSt} (W : xWf g) (hk77 : xCallM d mX6_fail [.ref 20, .int 2] g = some (none, g77)) (W77 : xWf g77) (k : xX (d + 1) mX6_readLine 80 [none] [] g77 = some r) : xX (d + 1) mX6_readLine 75 [some (.ref 20)] [] g = some r :=
  Y_aload_n dX6_readLine_75 rfl <| Y_iconst 2 dX6_readLine_76 ic_2 <| Y_callV0 dX6_readLine_77 cl_6_103 rfl rfl (xis W 20 6 s_20 (Nat.le_of_ble_eq_true rfl)) rfl rfl rfl (hk77) <| X_le (xle_n xle_0) k
theorem bX6_readLine_80 {d : Nat} {g : xSt} {r : Option Value × xSt}  (k : r = (none, g)) : xX (d + 1) mX6_readLine 80 [none] [] g = some r :=
  Y_ret dX6_readLine_80 rfl k
theorem bX6_isOwn_0 {d : Nat} {g : xSt} {r : Option Value × xSt} {a1 : Int32} (W : xWf g) (k1 : (xI g 20 6) = 1 → xX d mX6_isOwn 8 [some (.ref 20), some (.int a1)] [] g = some r) (k2 : ¬ ((xI g 20 6) = 1) → xX d mX6_isOwn 20 [none, none] [] g = some r) : xX d mX6_isOwn 0 [some (.ref 20), some (.int a1)] [] g = some r :=
  Y_aload_n dX6_isOwn_0 rfl <| Y_getI dX6_isOwn_1 f_6_72 ft_6_6 (xis W 20 6 s_20 (Nat.le_of_ble_eq_true rfl)) <| Y_iconst 1 dX6_isOwn_4 ic_1 <| Y_ne 20 dX6_isOwn_5 rfl (fun q => X_le (xle_s (xle_s xle_0)) (k1 q)) (fun q => X_le (xle_n (xle_n xle_0)) (k2 q))
theorem bX6_isOwn_8 {d : Nat} {g : xSt} {r : Option Value × xSt} {a1 : Int32} (W : xWf g) (k1 : (xI g 20 9) = a1 → xX d mX6_isOwn 16 [none, none] [] g = some r) (k2 : ¬ ((xI g 20 9) = a1) → xX d mX6_isOwn 20 [none, none] [] g = some r) : xX d mX6_isOwn 8 [some (.ref 20), some (.int a1)] [] g = some r :=
  Y_aload_n dX6_isOwn_8 rfl <| Y_getI dX6_isOwn_9 f_6_202 ft_6_9 (xis W 20 6 s_20 (Nat.le_of_ble_eq_true rfl)) <| Y_iload_n dX6_isOwn_12 rfl <| Y_ne 20 dX6_isOwn_13 rfl (fun q => X_le (xle_n (xle_n xle_0)) (k1 q)) (fun q => X_le (xle_n (xle_n xle_0)) (k2 q))
theorem bX6_isOwn_16 {d : Nat} {g : xSt} {r : Option Value × xSt}  (k : xX d mX6_isOwn 21 [none, none] [.int 1] g = some r) : xX d mX6_isOwn 16 [none, none] [] g = some r :=
  Y_iconst 1 dX6_isOwn_16 ic_1 <| Y_goto 21 dX6_isOwn_17 rfl <| X_le (xle_n (xle_n xle_0)) k
theorem bX6_isOwn_20 {d : Nat} {g : xSt} {r : Option Value × xSt}  (k : xX d mX6_isOwn 21 [none, none] [.int 0] g = some r) : xX d mX6_isOwn 20 [none, none] [] g = some r :=
  Y_iconst 0 dX6_isOwn_20 ic_0 <| X_le (xle_n (xle_n xle_0)) k
theorem bX6_isOwn_21 {d : Nat} {g : xSt} {r : Option Value × xSt} {s0 : Int32} (hz21 : s0 = 0 ∨ s0 = 1) (k : r = (some (.int s0), g)) : xX d mX6_isOwn 21 [none, none] [.int s0] g = some r :=
  Y_zret dX6_isOwn_21 rfl (hz21) k
theorem bX6_readThing_0 {d : Nat} {g : xSt} {r : Option Value × xSt} {t : Nat} (W : xWf g) (ht : xTw t) (hpi0 : xR g 20 3 = some t) (k1 : (xI g t 0) < 5 → xX (d + 1) mX6_readThing 16 [some (.ref 20), none, none, none] [] g = some r) (k2 : ¬ ((xI g t 0) < 5) → xX (d + 1) mX6_readThing 11 [some (.ref 20), none, none, none] [] g = some r) : xX (d + 1) mX6_readThing 0 [some (.ref 20), none, none, none] [] g = some r :=
  Y_aload_n dX6_readThing_0 rfl <| Y_getR dX6_readThing_1 f_6_40 (by rw [ft_6_3]; rfl) (xis W 20 6 s_20 (Nat.le_of_ble_eq_true rfl)) (hpi0) <| Y_getI dX6_readThing_4 f_6_107 ft_9_0 (xisS W ht) <| Y_iconst 5 dX6_readThing_7 ic_5 <| Y_lt 16 dX6_readThing_8 rfl (fun q => X_le (xle_s (xle_n (xle_n (xle_n xle_0)))) (k1 q)) (fun q => X_le (xle_s (xle_n (xle_n (xle_n xle_0)))) (k2 q))
theorem bX6_readThing_11 {d : Nat} {g : xSt} {r : Option Value × xSt} {g13 : xSt} (W : xWf g) (hk13 : xCallM d mX6_fail [.ref 20, .int 2] g = some (none, g13)) (W13 : xWf g13) (k : xX (d + 1) mX6_readThing 16 [some (.ref 20), none, none, none] [] g13 = some r) : xX (d + 1) mX6_readThing 11 [some (.ref 20), none, none, none] [] g = some r :=
  Y_aload_n dX6_readThing_11 rfl <| Y_iconst 2 dX6_readThing_12 ic_2 <| Y_callV0 dX6_readThing_13 cl_6_103 rfl rfl (xis W 20 6 s_20 (Nat.le_of_ble_eq_true rfl)) rfl rfl rfl (hk13) <| X_le (xle_s (xle_n (xle_n (xle_n xle_0)))) k
theorem bX6_readThing_16 {d : Nat} {g : xSt} {r : Option Value × xSt} {g17 g29 g32 g38 g46 g53 : xSt} {r29 r46 : Int32} {r32 : Int64} {t : Nat} (W : xWf g) (ht : xTw t) (hk17 : xCallM d mX6_advance [.ref 20] g = some (none, g17)) (W17 : xWf g17) (hpi2 : xR g17 20 3 = some t) (hk29 : xCallM d mX10_thingOf [.ref t, .long (xL g17 20 8)] g17 = some (some (.int r29), g29)) (W29 : xWf g29) (hk32 : xCallM d mX6_takeNewName [.ref 20, .int r29] g29 = some (some (.long r32), g32)) (W32 : xWf g32) (hk38 : xCallM d mX6_takeOwn [.ref 20, .int 1] g32 = some (none, g38)) (W38 : xWf g38) (hk46 : xCallM d mX6_takeNumber [.ref 20, .int 1, .int 999] g38 = some (some (.int r46), g46)) (W46 : xWf g46) (hk53 : xCallM d mX6_takeSign [.ref 20, .int 59] g46 = some (none, g53)) (W53 : xWf g53) (k1 : (xI g53 20 10) = 0 → xX (d + 1) mX6_readThing 63 [some (.ref 20), some (.long r32), none, some (.int r46)] [] g53 = some r) (k2 : ¬ ((xI g53 20 10) = 0) → xX (d + 1) mX6_readThing 72 [none, none, none, none] [] g53 = some r) : xX (d + 1) mX6_readThing 16 [some (.ref 20), none, none, none] [] g = some r :=
  Y_aload_n dX6_readThing_16 rfl <| Y_callV0 dX6_readThing_17 cl_6_69 rfl rfl (xis W 20 6 s_20 (Nat.le_of_ble_eq_true rfl)) rfl rfl rfl (hk17) <| Y_aload_n dX6_readThing_20 rfl <| Y_aload_n dX6_readThing_21 rfl <| Y_getR dX6_readThing_22 f_6_40 (by rw [ft_6_3]; rfl) (xis W17 20 6 s_20 (Nat.le_of_ble_eq_true rfl)) (hpi2) <| Y_aload_n dX6_readThing_25 rfl <| Y_getJ dX6_readThing_26 f_6_110 ft_6_8 (xis W17 20 6 s_20 (Nat.le_of_ble_eq_true rfl)) <| Y_callV1 dX6_readThing_29 cl_6_114 rfl rfl (xisS W17 ht) rfl rfl rfl (hk29) <| Y_callV1 dX6_readThing_32 cl_6_118 rfl rfl (xis W29 20 6 s_20 (Nat.le_of_ble_eq_true rfl)) rfl rfl rfl (hk32) <| Y_lstore_n dX6_readThing_35 rfl rfl <| Y_aload_n dX6_readThing_36 rfl <| Y_iconst 1 dX6_readThing_37 ic_1 <| Y_callV0 dX6_readThing_38 cl_6_122 rfl rfl (xis W32 20 6 s_20 (Nat.le_of_ble_eq_true rfl)) rfl rfl rfl (hk38) <| Y_aload_n dX6_readThing_41 rfl <| Y_iconst 1 dX6_readThing_42 ic_1 <| Y_sipush 999 dX6_readThing_43 sp_999 <| Y_callV1 dX6_readThing_46 cl_6_125 rfl rfl (xis W38 20 6 s_20 (Nat.le_of_ble_eq_true rfl)) rfl rfl rfl (hk46) <| Y_istore_n dX6_readThing_49 rfl rfl <| Y_aload_n dX6_readThing_50 rfl <| Y_bipush 59 dX6_readThing_51 bp_59 <| Y_callV0 dX6_readThing_53 cl_6_129 rfl rfl (xis W46 20 6 s_20 (Nat.le_of_ble_eq_true rfl)) rfl rfl rfl (hk53) <| Y_aload_n dX6_readThing_56 rfl <| Y_getI dX6_readThing_57 f_6_63 ft_6_10 (xis W53 20 6 s_20 (Nat.le_of_ble_eq_true rfl)) <| Y_ne0 72 dX6_readThing_60 rfl (fun q => X_le (xle_s (xle_s (xle_n (xle_s xle_0)))) (k1 q)) (fun q => X_le (xle_n (xle_n (xle_n (xle_n xle_0)))) (k2 q))
theorem bX6_readThing_63 {d : Nat} {g : xSt} {r : Option Value × xSt} {a1 : Int64} {a3 : Int32} {g69 : xSt} {t : Nat} (W : xWf g) (ht : xTw t) (hpi0 : xR g 20 3 = some t) (hk69 : xCallM d mX10_addThing [.ref t, .long a1, .int a3] g = some (none, g69)) (W69 : xWf g69) (k : xX (d + 1) mX6_readThing 72 [none, none, none, none] [] g69 = some r) : xX (d + 1) mX6_readThing 63 [some (.ref 20), some (.long a1), none, some (.int a3)] [] g = some r :=
  Y_aload_n dX6_readThing_63 rfl <| Y_getR dX6_readThing_64 f_6_40 (by rw [ft_6_3]; rfl) (xis W 20 6 s_20 (Nat.le_of_ble_eq_true rfl)) (hpi0) <| Y_lload_n dX6_readThing_67 rfl <| Y_iload_n dX6_readThing_68 rfl <| Y_callV0 dX6_readThing_69 cl_6_132 rfl rfl (xisS W ht) rfl rfl rfl (hk69) <| X_le (xle_n (xle_n (xle_n (xle_n xle_0)))) k
theorem bX6_readThing_72 {d : Nat} {g : xSt} {r : Option Value × xSt}  (k : r = (none, g)) : xX (d + 1) mX6_readThing 72 [none, none, none, none] [] g = some r :=
  Y_ret dX6_readThing_72 rfl k
theorem bX6_fail_0 {d : Nat} {g : xSt} {r : Option Value × xSt} {a1 : Int32} (W : xWf g) (k1 : (xI g 20 10) = 0 → xX d mX6_fail 7 [some (.ref 20), some (.int a1)] [] g = some r) (k2 : ¬ ((xI g 20 10) = 0) → xX d mX6_fail 45 [none, none] [] g = some r) : xX d mX6_fail 0 [some (.ref 20), some (.int a1)] [] g = some r :=
  Y_aload_n dX6_fail_0 rfl <| Y_getI dX6_fail_1 f_6_63 ft_6_10 (xis W 20 6 s_20 (Nat.le_of_ble_eq_true rfl)) <| Y_ne0 45 dX6_fail_4 rfl (fun q => X_le (xle_s (xle_s xle_0)) (k1 q)) (fun q => X_le (xle_n (xle_n xle_0)) (k2 q))
theorem bX6_fail_7 {d : Nat} {g : xSt} {r : Option Value × xSt} {a1 : Int32} (W : xWf g) (k1 : (xI g 20 6) = 3 → xX d mX6_fail 16 [some (.ref 20), none] [.ref 20] g = some r) (k2 : ¬ ((xI g 20 6) = 3) → xX d mX6_fail 20 [some (.ref 20), some (.int a1)] [.ref 20] g = some r) : xX d mX6_fail 7 [some (.ref 20), some (.int a1)] [] g = some r :=
  Y_aload_n dX6_fail_7 rfl <| Y_aload_n dX6_fail_8 rfl <| Y_getI dX6_fail_9 f_6_72 ft_6_6 (xis W 20 6 s_20 (Nat.le_of_ble_eq_true rfl)) <| Y_iconst 3 dX6_fail_12 ic_3 <| Y_ne 20 dX6_fail_13 rfl (fun q => X_le (xle_s (xle_n xle_0)) (k1 q)) (fun q => X_le (xle_s (xle_s xle_0)) (k2 q))
theorem bX6_fail_16 {d : Nat} {g : xSt} {r : Option Value × xSt}  (k : xX d mX6_fail 21 [some (.ref 20), none] [.int 1, .ref 20] g = some r) : xX d mX6_fail 16 [some (.ref 20), none] [.ref 20] g = some r :=
  Y_iconst 1 dX6_fail_16 ic_1 <| Y_goto 21 dX6_fail_17 rfl <| X_le (xle_s (xle_n xle_0)) k
theorem bX6_fail_20 {d : Nat} {g : xSt} {r : Option Value × xSt} {a1 : Int32} (k : xX d mX6_fail 21 [some (.ref 20), none] [.int a1, .ref 20] g = some r) : xX d mX6_fail 20 [some (.ref 20), some (.int a1)] [.ref 20] g = some r :=
  Y_iload_n dX6_fail_20 rfl <| X_le (xle_s (xle_n xle_0)) k
theorem bX6_fail_21 {d : Nat} {g : xSt} {r : Option Value × xSt} {s0 : Int32} (W : xWf g) (k : xX d mX6_fail 45 [none, none] [] (xWI (xWI (xWI (xWI g 20 10 s0) 20 11 (xI g 20 4)) 20 6 0) 20 5 (xI g 20 2)) = some r) : xX d mX6_fail 21 [some (.ref 20), none] [.int s0, .ref 20] g = some r :=
  Y_putI dX6_fail_21 f_6_63 fn_6_10 ft_6_10 (xis W 20 6 s_20 (Nat.le_of_ble_eq_true rfl)) <| Y_aload_n dX6_fail_24 rfl <| Y_aload_n dX6_fail_25 rfl <| Y_getI dX6_fail_26 f_6_81 ft_6_4 (xis W 20 6 s_20 (Nat.le_of_ble_eq_true rfl)) <| Y_putI dX6_fail_29 f_6_44 fn_6_11 ft_6_11 (xis W 20 6 s_20 (Nat.le_of_ble_eq_true rfl)) <| Y_aload_n dX6_fail_32 rfl <| Y_iconst 0 dX6_fail_33 ic_0 <| Y_putI dX6_fail_34 f_6_72 fn_6_6 ft_6_6 (xis W 20 6 s_20 (Nat.le_of_ble_eq_true rfl)) <| Y_aload_n dX6_fail_37 rfl <| Y_aload_n dX6_fail_38 rfl <| Y_getI dX6_fail_39 f_6_58 ft_6_2 (xis W 20 6 s_20 (Nat.le_of_ble_eq_true rfl)) <| Y_putI dX6_fail_42 f_6_66 fn_6_5 ft_6_5 (xis W 20 6 s_20 (Nat.le_of_ble_eq_true rfl)) <| X_le (xle_n (xle_n xle_0)) k
theorem bX6_fail_45 {d : Nat} {g : xSt} {r : Option Value × xSt}  (k : r = (none, g)) : xX d mX6_fail 45 [none, none] [] g = some r :=
  Y_ret dX6_fail_45 rfl k
theorem bX6_takeNewName_0 {d : Nat} {g : xSt} {r : Option Value × xSt} {a1 r1 : Int32} {g1 : xSt} (W : xWf g) (hk1 : xCallM d mX6_isName [.ref 20] g = some (some (.int r1), g1)) (W1 : xWf g1) (k1 : r1 = 0 → xX (d + 1) mX6_takeNewName 7 [some (.ref 20), some (.int a1), none, none] [] g1 = some r) (k2 : ¬ (r1 = 0) → xX (d + 1) mX6_takeNewName 12 [some (.ref 20), some (.int a1), none, none] [] g1 = some r) : xX (d + 1) mX6_takeNewName 0 [some (.ref 20), some (.int a1), none, none] [] g = some r :=
  Y_aload_n dX6_takeNewName_0 rfl <| Y_callV1 dX6_takeNewName_1 cl_6_151 rfl rfl (xis W 20 6 s_20 (Nat.le_of_ble_eq_true rfl)) rfl rfl rfl (hk1) <| Y_ne0 12 dX6_takeNewName_4 rfl (fun q => X_le (xle_s (xle_s (xle_n (xle_n xle_0)))) (k1 q)) (fun q => X_le (xle_s (xle_s (xle_n (xle_n xle_0)))) (k2 q))
theorem bX6_takeNewName_7 {d : Nat} {g : xSt} {r : Option Value × xSt} {a1 : Int32} {g9 : xSt} (W : xWf g) (hk9 : xCallM d mX6_fail [.ref 20, .int 2] g = some (none, g9)) (W9 : xWf g9) (k : xX (d + 1) mX6_takeNewName 12 [some (.ref 20), some (.int a1), none, none] [] g9 = some r) : xX (d + 1) mX6_takeNewName 7 [some (.ref 20), some (.int a1), none, none] [] g = some r :=
  Y_aload_n dX6_takeNewName_7 rfl <| Y_iconst 2 dX6_takeNewName_8 ic_2 <| Y_callV0 dX6_takeNewName_9 cl_6_103 rfl rfl (xis W 20 6 s_20 (Nat.le_of_ble_eq_true rfl)) rfl rfl rfl (hk9) <| X_le (xle_s (xle_s (xle_n (xle_n xle_0)))) k
theorem bX6_takeNewName_12 {d : Nat} {g : xSt} {r : Option Value × xSt} {a1 : Int32} (k1 : a1 = (-1) → xX (d + 1) mX6_takeNewName 22 [some (.ref 20), none, none, none] [] g = some r) (k2 : ¬ (a1 = (-1)) → xX (d + 1) mX6_takeNewName 17 [some (.ref 20), none, none, none] [] g = some r) : xX (d + 1) mX6_takeNewName 12 [some (.ref 20), some (.int a1), none, none] [] g = some r :=
  Y_iload_n dX6_takeNewName_12 rfl <| Y_iconst (-1) dX6_takeNewName_13 ic_m1 <| Y_eq 22 dX6_takeNewName_14 rfl (fun q => X_le (xle_s (xle_n (xle_n (xle_n xle_0)))) (k1 q)) (fun q => X_le (xle_s (xle_n (xle_n (xle_n xle_0)))) (k2 q))
theorem bX6_takeNewName_17 {d : Nat} {g : xSt} {r : Option Value × xSt} {g19 : xSt} (W : xWf g) (hk19 : xCallM d mX6_fail [.ref 20, .int 3] g = some (none, g19)) (W19 : xWf g19) (k : xX (d + 1) mX6_takeNewName 22 [some (.ref 20), none, none, none] [] g19 = some r) : xX (d + 1) mX6_takeNewName 17 [some (.ref 20), none, none, none] [] g = some r :=
  Y_aload_n dX6_takeNewName_17 rfl <| Y_iconst 3 dX6_takeNewName_18 ic_3 <| Y_callV0 dX6_takeNewName_19 cl_6_103 rfl rfl (xis W 20 6 s_20 (Nat.le_of_ble_eq_true rfl)) rfl rfl rfl (hk19) <| X_le (xle_s (xle_n (xle_n (xle_n xle_0)))) k
theorem bX6_takeNewName_22 {d : Nat} {g : xSt} {r : Option Value × xSt} {g28 : xSt} (W : xWf g) (hk28 : xCallM d mX6_advance [.ref 20] g = some (none, g28)) (W28 : xWf g28) (k : r = (some (.long (xL g 20 8)), g28)) : xX (d + 1) mX6_takeNewName 22 [some (.ref 20), none, none, none] [] g = some r :=
  Y_aload_n dX6_takeNewName_22 rfl <| Y_getJ dX6_takeNewName_23 f_6_110 ft_6_8 (xis W 20 6 s_20 (Nat.le_of_ble_eq_true rfl)) <| Y_lstore_n dX6_takeNewName_26 rfl rfl <| Y_aload_n dX6_takeNewName_27 rfl <| Y_callV0 dX6_takeNewName_28 cl_6_69 rfl rfl (xis W 20 6 s_20 (Nat.le_of_ble_eq_true rfl)) rfl rfl rfl (hk28) <| Y_lload_n dX6_takeNewName_31 rfl <| Y_lret dX6_takeNewName_32 rfl k
theorem bX6_isName_0 {d : Nat} {g : xSt} {r : Option Value × xSt}  (W : xWf g) (k1 : (xI g 20 6) = 1 → xX d mX6_isName 8 [some (.ref 20)] [] g = some r) (k2 : ¬ ((xI g 20 6) = 1) → xX d mX6_isName 20 [none] [] g = some r) : xX d mX6_isName 0 [some (.ref 20)] [] g = some r :=
  Y_aload_n dX6_isName_0 rfl <| Y_getI dX6_isName_1 f_6_72 ft_6_6 (xis W 20 6 s_20 (Nat.le_of_ble_eq_true rfl)) <| Y_iconst 1 dX6_isName_4 ic_1 <| Y_ne 20 dX6_isName_5 rfl (fun q => X_le (xle_s xle_0) (k1 q)) (fun q => X_le (xle_n xle_0) (k2 q))
theorem bX6_isName_8 {d : Nat} {g : xSt} {r : Option Value × xSt}  (W : xWf g) (k1 : (xI g 20 9) = (-1) → xX d mX6_isName 16 [none] [] g = some r) (k2 : ¬ ((xI g 20 9) = (-1)) → xX d mX6_isName 20 [none] [] g = some r) : xX d mX6_isName 8 [some (.ref 20)] [] g = some r :=
  Y_aload_n dX6_isName_8 rfl <| Y_getI dX6_isName_9 f_6_202 ft_6_9 (xis W 20 6 s_20 (Nat.le_of_ble_eq_true rfl)) <| Y_iconst (-1) dX6_isName_12 ic_m1 <| Y_ne 20 dX6_isName_13 rfl (fun q => X_le (xle_n xle_0) (k1 q)) (fun q => X_le (xle_n xle_0) (k2 q))
theorem bX6_isName_16 {d : Nat} {g : xSt} {r : Option Value × xSt}  (k : xX d mX6_isName 21 [none] [.int 1] g = some r) : xX d mX6_isName 16 [none] [] g = some r :=
  Y_iconst 1 dX6_isName_16 ic_1 <| Y_goto 21 dX6_isName_17 rfl <| X_le (xle_n xle_0) k
theorem bX6_isName_20 {d : Nat} {g : xSt} {r : Option Value × xSt}  (k : xX d mX6_isName 21 [none] [.int 0] g = some r) : xX d mX6_isName 20 [none] [] g = some r :=
  Y_iconst 0 dX6_isName_20 ic_0 <| X_le (xle_n xle_0) k
theorem bX6_isName_21 {d : Nat} {g : xSt} {r : Option Value × xSt} {s0 : Int32} (hz21 : s0 = 0 ∨ s0 = 1) (k : r = (some (.int s0), g)) : xX d mX6_isName 21 [none] [.int s0] g = some r :=
  Y_zret dX6_isName_21 rfl (hz21) k
theorem bX6_takeOwn_0 {d : Nat} {g : xSt} {r : Option Value × xSt} {a1 r2 : Int32} {g2 : xSt} (W : xWf g) (hk2 : xCallM d mX6_isOwn [.ref 20, .int a1] g = some (some (.int r2), g2)) (W2 : xWf g2) (k1 : r2 = 0 → xX (d + 1) mX6_takeOwn 8 [some (.ref 20), none] [] g2 = some r) (k2 : ¬ (r2 = 0) → xX (d + 1) mX6_takeOwn 13 [some (.ref 20), none] [] g2 = some r) : xX (d + 1) mX6_takeOwn 0 [some (.ref 20), some (.int a1)] [] g = some r :=
  Y_aload_n dX6_takeOwn_0 rfl <| Y_iload_n dX6_takeOwn_1 rfl <| Y_callV1 dX6_takeOwn_2 cl_6_84 rfl rfl (xis W 20 6 s_20 (Nat.le_of_ble_eq_true rfl)) rfl rfl rfl (hk2) <| Y_ne0 13 dX6_takeOwn_5 rfl (fun q => X_le (xle_s (xle_n xle_0)) (k1 q)) (fun q => X_le (xle_s (xle_n xle_0)) (k2 q))
theorem bX6_takeOwn_8 {d : Nat} {g : xSt} {r : Option Value × xSt} {g10 : xSt} (W : xWf g) (hk10 : xCallM d mX6_fail [.ref 20, .int 2] g = some (none, g10)) (W10 : xWf g10) (k : xX (d + 1) mX6_takeOwn 13 [some (.ref 20), none] [] g10 = some r) : xX (d + 1) mX6_takeOwn 8 [some (.ref 20), none] [] g = some r :=
  Y_aload_n dX6_takeOwn_8 rfl <| Y_iconst 2 dX6_takeOwn_9 ic_2 <| Y_callV0 dX6_takeOwn_10 cl_6_103 rfl rfl (xis W 20 6 s_20 (Nat.le_of_ble_eq_true rfl)) rfl rfl rfl (hk10) <| X_le (xle_s (xle_n xle_0)) k
theorem bX6_takeOwn_13 {d : Nat} {g : xSt} {r : Option Value × xSt} {g14 : xSt} (W : xWf g) (hk14 : xCallM d mX6_advance [.ref 20] g = some (none, g14)) (W14 : xWf g14) (k : r = (none, g14)) : xX (d + 1) mX6_takeOwn 13 [some (.ref 20), none] [] g = some r :=
  Y_aload_n dX6_takeOwn_13 rfl <| Y_callV0 dX6_takeOwn_14 cl_6_69 rfl rfl (xis W 20 6 s_20 (Nat.le_of_ble_eq_true rfl)) rfl rfl rfl (hk14) <| Y_ret dX6_takeOwn_17 rfl k
theorem bX6_takeNumber_0 {d : Nat} {g : xSt} {r : Option Value × xSt} {a1 a2 : Int32} (W : xWf g) (k1 : (xI g 20 6) = 2 → xX (d + 1) mX6_takeNumber 13 [some (.ref 20), some (.int a1), some (.int a2), none] [] g = some r) (k2 : ¬ ((xI g 20 6) = 2) → xX (d + 1) mX6_takeNumber 8 [some (.ref 20), some (.int a1), some (.int a2), none] [] g = some r) : xX (d + 1) mX6_takeNumber 0 [some (.ref 20), some (.int a1), some (.int a2), none] [] g = some r :=
  Y_aload_n dX6_takeNumber_0 rfl <| Y_getI dX6_takeNumber_1 f_6_72 ft_6_6 (xis W 20 6 s_20 (Nat.le_of_ble_eq_true rfl)) <| Y_iconst 2 dX6_takeNumber_4 ic_2 <| Y_eq 13 dX6_takeNumber_5 rfl (fun q => X_le (xle_s (xle_s (xle_s (xle_n xle_0)))) (k1 q)) (fun q => X_le (xle_s (xle_s (xle_s (xle_n xle_0)))) (k2 q))
theorem bX6_takeNumber_8 {d : Nat} {g : xSt} {r : Option Value × xSt} {a1 a2 : Int32} {g10 : xSt} (W : xWf g) (hk10 : xCallM d mX6_fail [.ref 20, .int 2] g = some (none, g10)) (W10 : xWf g10) (k : xX (d + 1) mX6_takeNumber 13 [some (.ref 20), some (.int a1), some (.int a2), none] [] g10 = some r) : xX (d + 1) mX6_takeNumber 8 [some (.ref 20), some (.int a1), some (.int a2), none] [] g = some r :=
  Y_aload_n dX6_takeNumber_8 rfl <| Y_iconst 2 dX6_takeNumber_9 ic_2 <| Y_callV0 dX6_takeNumber_10 cl_6_103 rfl rfl (xis W 20 6 s_20 (Nat.le_of_ble_eq_true rfl)) rfl rfl rfl (hk10) <| X_le (xle_s (xle_s (xle_s (xle_n xle_0)))) k
theorem bX6_takeNumber_13 {d : Nat} {g : xSt} {r : Option Value × xSt} {a1 a2 : Int32} (W : xWf g) (k1 : (xI g 20 7) < a1 → xX (d + 1) mX6_takeNumber 29 [some (.ref 20), none, none, none] [] g = some r) (k2 : ¬ ((xI g 20 7) < a1) → xX (d + 1) mX6_takeNumber 21 [some (.ref 20), none, some (.int a2), none] [] g = some r) : xX (d + 1) mX6_takeNumber 13 [some (.ref 20), some (.int a1), some (.int a2), none] [] g = some r :=
  Y_aload_n dX6_takeNumber_13 rfl <| Y_getI dX6_takeNumber_14 f_6_199 ft_6_7 (xis W 20 6 s_20 (Nat.le_of_ble_eq_true rfl)) <| Y_iload_n dX6_takeNumber_17 rfl <| Y_lt 29 dX6_takeNumber_18 rfl (fun q => X_le (xle_s (xle_n (xle_n (xle_n xle_0)))) (k1 q)) (fun q => X_le (xle_s (xle_n (xle_s (xle_n xle_0)))) (k2 q))
theorem bX6_takeNumber_21 {d : Nat} {g : xSt} {r : Option Value × xSt} {a2 : Int32} (W : xWf g) (k1 : (xI g 20 7) ≤ a2 → xX (d + 1) mX6_takeNumber 34 [some (.ref 20), none, none, none] [] g = some r) (k2 : ¬ ((xI g 20 7) ≤ a2) → xX (d + 1) mX6_takeNumber 29 [some (.ref 20), none, none, none] [] g = some r) : xX (d + 1) mX6_takeNumber 21 [some (.ref 20), none, some (.int a2), none] [] g = some r :=
  Y_aload_n dX6_takeNumber_21 rfl <| Y_getI dX6_takeNumber_22 f_6_199 ft_6_7 (xis W 20 6 s_20 (Nat.le_of_ble_eq_true rfl)) <| Y_iload_n dX6_takeNumber_25 rfl <| Y_le 34 dX6_takeNumber_26 rfl (fun q => X_le (xle_s (xle_n (xle_n (xle_n xle_0)))) (k1 q)) (fun q => X_le (xle_s (xle_n (xle_n (xle_n xle_0)))) (k2 q))
theorem bX6_takeNumber_29 {d : Nat} {g : xSt} {r : Option Value × xSt} {g31 : xSt} (W : xWf g) (hk31 : xCallM d mX6_fail [.ref 20, .int 4] g = some (none, g31)) (W31 : xWf g31) (k : xX (d + 1) mX6_takeNumber 34 [some (.ref 20), none, none, none] [] g31 = some r) : xX (d + 1) mX6_takeNumber 29 [some (.ref 20), none, none, none] [] g = some r :=
  Y_aload_n dX6_takeNumber_29 rfl <| Y_iconst 4 dX6_takeNumber_30 ic_4 <| Y_callV0 dX6_takeNumber_31 cl_6_103 rfl rfl (xis W 20 6 s_20 (Nat.le_of_ble_eq_true rfl)) rfl rfl rfl (hk31) <| X_le (xle_s (xle_n (xle_n (xle_n xle_0)))) k
theorem bX6_takeNumber_34 {d : Nat} {g : xSt} {r : Option Value × xSt} {g40 : xSt} (W : xWf g) (hk40 : xCallM d mX6_advance [.ref 20] g = some (none, g40)) (W40 : xWf g40) (k : r = (some (.int (xI g 20 7)), g40)) : xX (d + 1) mX6_takeNumber 34 [some (.ref 20), none, none, none] [] g = some r :=
  Y_aload_n dX6_takeNumber_34 rfl <| Y_getI dX6_takeNumber_35 f_6_199 ft_6_7 (xis W 20 6 s_20 (Nat.le_of_ble_eq_true rfl)) <| Y_istore_n dX6_takeNumber_38 rfl rfl <| Y_aload_n dX6_takeNumber_39 rfl <| Y_callV0 dX6_takeNumber_40 cl_6_69 rfl rfl (xis W 20 6 s_20 (Nat.le_of_ble_eq_true rfl)) rfl rfl rfl (hk40) <| Y_iload_n dX6_takeNumber_43 rfl <| Y_iret dX6_takeNumber_44 rfl k
theorem bX6_takeSign_0 {d : Nat} {g : xSt} {r : Option Value × xSt} {a1 : Int32} (W : xWf g) (k1 : (xI g 20 6) = a1 → xX (d + 1) mX6_takeSign 13 [some (.ref 20), none] [] g = some r) (k2 : ¬ ((xI g 20 6) = a1) → xX (d + 1) mX6_takeSign 8 [some (.ref 20), none] [] g = some r) : xX (d + 1) mX6_takeSign 0 [some (.ref 20), some (.int a1)] [] g = some r :=
  Y_aload_n dX6_takeSign_0 rfl <| Y_getI dX6_takeSign_1 f_6_72 ft_6_6 (xis W 20 6 s_20 (Nat.le_of_ble_eq_true rfl)) <| Y_iload_n dX6_takeSign_4 rfl <| Y_eq 13 dX6_takeSign_5 rfl (fun q => X_le (xle_s (xle_n xle_0)) (k1 q)) (fun q => X_le (xle_s (xle_n xle_0)) (k2 q))
theorem bX6_takeSign_8 {d : Nat} {g : xSt} {r : Option Value × xSt} {g10 : xSt} (W : xWf g) (hk10 : xCallM d mX6_fail [.ref 20, .int 2] g = some (none, g10)) (W10 : xWf g10) (k : xX (d + 1) mX6_takeSign 13 [some (.ref 20), none] [] g10 = some r) : xX (d + 1) mX6_takeSign 8 [some (.ref 20), none] [] g = some r :=
  Y_aload_n dX6_takeSign_8 rfl <| Y_iconst 2 dX6_takeSign_9 ic_2 <| Y_callV0 dX6_takeSign_10 cl_6_103 rfl rfl (xis W 20 6 s_20 (Nat.le_of_ble_eq_true rfl)) rfl rfl rfl (hk10) <| X_le (xle_s (xle_n xle_0)) k
theorem bX6_takeSign_13 {d : Nat} {g : xSt} {r : Option Value × xSt} {g14 : xSt} (W : xWf g) (hk14 : xCallM d mX6_advance [.ref 20] g = some (none, g14)) (W14 : xWf g14) (k : r = (none, g14)) : xX (d + 1) mX6_takeSign 13 [some (.ref 20), none] [] g = some r :=
  Y_aload_n dX6_takeSign_13 rfl <| Y_callV0 dX6_takeSign_14 cl_6_69 rfl rfl (xis W 20 6 s_20 (Nat.le_of_ble_eq_true rfl)) rfl rfl rfl (hk14) <| Y_ret dX6_takeSign_17 rfl k
theorem bX6_readTwins_0 {d : Nat} {g : xSt} {r : Option Value × xSt} {t : Nat} (W : xWf g) (ht : xTw t) (hpi0 : xR g 20 3 = some t) (k1 : (xI g t 3) = 0 → xX (d + 1) mX6_readTwins 15 [some (.ref 20)] [] g = some r) (k2 : ¬ ((xI g t 3) = 0) → xX (d + 1) mX6_readTwins 10 [some (.ref 20)] [] g = some r) : xX (d + 1) mX6_readTwins 0 [some (.ref 20)] [] g = some r :=
  Y_aload_n dX6_readTwins_0 rfl <| Y_getR dX6_readTwins_1 f_6_40 (by rw [ft_6_3]; rfl) (xis W 20 6 s_20 (Nat.le_of_ble_eq_true rfl)) (hpi0) <| Y_getZ dX6_readTwins_4 f_6_136 ft_9_3 (xisS W ht) <| Y_eq0 15 dX6_readTwins_7 rfl (fun q => X_le (xle_s xle_0) (k1 q)) (fun q => X_le (xle_s xle_0) (k2 q))
theorem bX6_readTwins_10 {d : Nat} {g : xSt} {r : Option Value × xSt} {g12 : xSt} (W : xWf g) (hk12 : xCallM d mX6_fail [.ref 20, .int 2] g = some (none, g12)) (W12 : xWf g12) (k : xX (d + 1) mX6_readTwins 15 [some (.ref 20)] [] g12 = some r) : xX (d + 1) mX6_readTwins 10 [some (.ref 20)] [] g = some r :=
  Y_aload_n dX6_readTwins_10 rfl <| Y_iconst 2 dX6_readTwins_11 ic_2 <| Y_callV0 dX6_readTwins_12 cl_6_103 rfl rfl (xis W 20 6 s_20 (Nat.le_of_ble_eq_true rfl)) rfl rfl rfl (hk12) <| X_le (xle_s xle_0) k
theorem bX6_readTwins_15 {d : Nat} {g : xSt} {r : Option Value × xSt} {g16 g22 : xSt} {t : Nat} (W : xWf g) (ht : xTw t) (hk16 : xCallM d mX6_advance [.ref 20] g = some (none, g16)) (W16 : xWf g16) (hk22 : xCallM d mX6_takeSign [.ref 20, .int 59] g16 = some (none, g22)) (W22 : xWf g22) (hpi4 : xR g22 20 3 = some t) (k : r = (none, xWI g22 t 3 1)) : xX (d + 1) mX6_readTwins 15 [some (.ref 20)] [] g = some r :=
  Y_aload_n dX6_readTwins_15 rfl <| Y_callV0 dX6_readTwins_16 cl_6_69 rfl rfl (xis W 20 6 s_20 (Nat.le_of_ble_eq_true rfl)) rfl rfl rfl (hk16) <| Y_aload_n dX6_readTwins_19 rfl <| Y_bipush 59 dX6_readTwins_20 bp_59 <| Y_callV0 dX6_readTwins_22 cl_6_129 rfl rfl (xis W16 20 6 s_20 (Nat.le_of_ble_eq_true rfl)) rfl rfl rfl (hk22) <| Y_aload_n dX6_readTwins_25 rfl <| Y_getR dX6_readTwins_26 f_6_40 (by rw [ft_6_3]; rfl) (xis W22 20 6 s_20 (Nat.le_of_ble_eq_true rfl)) (hpi4) <| Y_iconst 1 dX6_readTwins_29 ic_1 <| Y_putZ dX6_readTwins_30 f_6_136 fn_9_3 ft_9_3 (xisS W22 ht) (by decide) <| Y_ret dX6_readTwins_33 rfl k
theorem bX6_readSticks_0 {d : Nat} {g : xSt} {r : Option Value × xSt} {t : Nat} (W : xWf g) (ht : xTw t) (hpi0 : xR g 20 3 = some t) (k1 : (xI g t 4) = 0 → xX (d + 1) mX6_readSticks 15 [some (.ref 20)] [] g = some r) (k2 : ¬ ((xI g t 4) = 0) → xX (d + 1) mX6_readSticks 10 [some (.ref 20)] [] g = some r) : xX (d + 1) mX6_readSticks 0 [some (.ref 20)] [] g = some r :=
  Y_aload_n dX6_readSticks_0 rfl <| Y_getR dX6_readSticks_1 f_6_40 (by rw [ft_6_3]; rfl) (xis W 20 6 s_20 (Nat.le_of_ble_eq_true rfl)) (hpi0) <| Y_getZ dX6_readSticks_4 f_6_140 ft_9_4 (xisS W ht) <| Y_eq0 15 dX6_readSticks_7 rfl (fun q => X_le (xle_s xle_0) (k1 q)) (fun q => X_le (xle_s xle_0) (k2 q))
theorem bX6_readSticks_10 {d : Nat} {g : xSt} {r : Option Value × xSt} {g12 : xSt} (W : xWf g) (hk12 : xCallM d mX6_fail [.ref 20, .int 2] g = some (none, g12)) (W12 : xWf g12) (k : xX (d + 1) mX6_readSticks 15 [some (.ref 20)] [] g12 = some r) : xX (d + 1) mX6_readSticks 10 [some (.ref 20)] [] g = some r :=
  Y_aload_n dX6_readSticks_10 rfl <| Y_iconst 2 dX6_readSticks_11 ic_2 <| Y_callV0 dX6_readSticks_12 cl_6_103 rfl rfl (xis W 20 6 s_20 (Nat.le_of_ble_eq_true rfl)) rfl rfl rfl (hk12) <| X_le (xle_s xle_0) k
theorem bX6_readSticks_15 {d : Nat} {g : xSt} {r : Option Value × xSt} {g16 g27 g36 : xSt} {r27 : Int32} {t : Nat} (W : xWf g) (ht : xTw t) (hk16 : xCallM d mX6_advance [.ref 20] g = some (none, g16)) (W16 : xWf g16) (hpi2 : xR g16 20 3 = some t) (hk27 : xCallM d mX6_takeNumber [.ref 20, .int 0, .int 99] g16 = some (some (.int r27), g27)) (W27 : xWf g27) (hk36 : xCallM d mX6_takeSign [.ref 20, .int 59] (xWI g27 t 5 r27) = some (none, g36)) (W36 : xWf g36) (hpi7 : xR g36 20 3 = some t) (k : r = (none, xWI g36 t 4 1)) : xX (d + 1) mX6_readSticks 15 [some (.ref 20)] [] g = some r :=
  Y_aload_n dX6_readSticks_15 rfl <| Y_callV0 dX6_readSticks_16 cl_6_69 rfl rfl (xis W 20 6 s_20 (Nat.le_of_ble_eq_true rfl)) rfl rfl rfl (hk16) <| Y_aload_n dX6_readSticks_19 rfl <| Y_getR dX6_readSticks_20 f_6_40 (by rw [ft_6_3]; rfl) (xis W16 20 6 s_20 (Nat.le_of_ble_eq_true rfl)) (hpi2) <| Y_aload_n dX6_readSticks_23 rfl <| Y_iconst 0 dX6_readSticks_24 ic_0 <| Y_bipush 99 dX6_readSticks_25 bp_99 <| Y_callV1 dX6_readSticks_27 cl_6_125 rfl rfl (xis W16 20 6 s_20 (Nat.le_of_ble_eq_true rfl)) rfl rfl rfl (hk27) <| Y_putI dX6_readSticks_30 f_6_143 fn_9_5 ft_9_5 (xisS W27 ht) <| Y_aload_n dX6_readSticks_33 rfl <| Y_bipush 59 dX6_readSticks_34 bp_59 <| Y_callV0 dX6_readSticks_36 cl_6_129 rfl rfl (xis W27 20 6 s_20 (Nat.le_of_ble_eq_true rfl)) rfl rfl rfl (hk36) <| Y_aload_n dX6_readSticks_39 rfl <| Y_getR dX6_readSticks_40 f_6_40 (by rw [ft_6_3]; rfl) (xis W36 20 6 s_20 (Nat.le_of_ble_eq_true rfl)) (hpi7) <| Y_iconst 1 dX6_readSticks_43 ic_1 <| Y_putZ dX6_readSticks_44 f_6_140 fn_9_4 ft_9_4 (xisS W36 ht) (by decide) <| Y_ret dX6_readSticks_47 rfl k
theorem bX6_readRow_0 {d : Nat} {g : xSt} {r : Option Value × xSt} {t : Nat} (W : xWf g) (ht : xTw t) (hpi0 : xR g 20 3 = some t) (k1 : (xI g t 6) ≤ 0 → xX (d + 1) mX6_readRow 15 [some (.ref 20), none] [] g = some r) (k2 : ¬ ((xI g t 6) ≤ 0) → xX (d + 1) mX6_readRow 10 [some (.ref 20), none] [] g = some r) : xX (d + 1) mX6_readRow 0 [some (.ref 20), none] [] g = some r :=
  Y_aload_n dX6_readRow_0 rfl <| Y_getR dX6_readRow_1 f_6_40 (by rw [ft_6_3]; rfl) (xis W 20 6 s_20 (Nat.le_of_ble_eq_true rfl)) (hpi0) <| Y_getI dX6_readRow_4 f_6_145 ft_9_6 (xisS W ht) <| Y_le0 15 dX6_readRow_7 rfl (fun q => X_le (xle_s (xle_n xle_0)) (k1 q)) (fun q => X_le (xle_s (xle_n xle_0)) (k2 q))
theorem bX6_readRow_10 {d : Nat} {g : xSt} {r : Option Value × xSt} {g12 : xSt} (W : xWf g) (hk12 : xCallM d mX6_fail [.ref 20, .int 2] g = some (none, g12)) (W12 : xWf g12) (k : xX (d + 1) mX6_readRow 15 [some (.ref 20), none] [] g12 = some r) : xX (d + 1) mX6_readRow 10 [some (.ref 20), none] [] g = some r :=
  Y_aload_n dX6_readRow_10 rfl <| Y_iconst 2 dX6_readRow_11 ic_2 <| Y_callV0 dX6_readRow_12 cl_6_103 rfl rfl (xis W 20 6 s_20 (Nat.le_of_ble_eq_true rfl)) rfl rfl rfl (hk12) <| X_le (xle_s (xle_n xle_0)) k
theorem bX6_readRow_15 {d : Nat} {g : xSt} {r : Option Value × xSt} {g16 g20 : xSt} (W : xWf g) (hk16 : xCallM d mX6_advance [.ref 20] g = some (none, g16)) (W16 : xWf g16) (hk20 : xCallM d mX6_takeRowName [.ref 20] g16 = some (none, g20)) (W20 : xWf g20) (k : xX (d + 1) mX6_readRow 25 [some (.ref 20), some (.int 0)] [] g20 = some r) : xX (d + 1) mX6_readRow 15 [some (.ref 20), none] [] g = some r :=
  Y_aload_n dX6_readRow_15 rfl <| Y_callV0 dX6_readRow_16 cl_6_69 rfl rfl (xis W 20 6 s_20 (Nat.le_of_ble_eq_true rfl)) rfl rfl rfl (hk16) <| Y_aload_n dX6_readRow_19 rfl <| Y_callV0 dX6_readRow_20 cl_6_148 rfl rfl (xis W16 20 6 s_20 (Nat.le_of_ble_eq_true rfl)) rfl rfl rfl (hk20) <| Y_iconst 0 dX6_readRow_23 ic_0 <| Y_istore_n dX6_readRow_24 rfl rfl <| X_le (xle_s (xle_s xle_0)) k
theorem bX6_readRow_25 {d : Nat} {g : xSt} {r : Option Value × xSt} {a1 : Int32} (k1 : 5 ≤ a1 → xX (d + 1) mX6_readRow 47 [some (.ref 20), none] [] g = some r) (k2 : ¬ (5 ≤ a1) → xX (d + 1) mX6_readRow 30 [some (.ref 20), some (.int a1)] [] g = some r) : xX (d + 1) mX6_readRow 25 [some (.ref 20), some (.int a1)] [] g = some r :=
  Y_iload_n dX6_readRow_25 rfl <| Y_iconst 5 dX6_readRow_26 ic_5 <| Y_ge 47 dX6_readRow_27 rfl (fun q => X_le (xle_s (xle_n xle_0)) (k1 q)) (fun q => X_le (xle_s (xle_s xle_0)) (k2 q))
theorem bX6_readRow_30 {d : Nat} {g : xSt} {r : Option Value × xSt} {a1 r31 : Int32} {g31 : xSt} (W : xWf g) (hk31 : xCallM d mX6_isName [.ref 20] g = some (some (.int r31), g31)) (W31 : xWf g31) (k1 : r31 = 0 → xX (d + 1) mX6_readRow 47 [some (.ref 20), none] [] g31 = some r) (k2 : ¬ (r31 = 0) → xX (d + 1) mX6_readRow 37 [some (.ref 20), some (.int a1)] [] g31 = some r) : xX (d + 1) mX6_readRow 30 [some (.ref 20), some (.int a1)] [] g = some r :=
  Y_aload_n dX6_readRow_30 rfl <| Y_callV1 dX6_readRow_31 cl_6_151 rfl rfl (xis W 20 6 s_20 (Nat.le_of_ble_eq_true rfl)) rfl rfl rfl (hk31) <| Y_eq0 47 dX6_readRow_34 rfl (fun q => X_le (xle_s (xle_n xle_0)) (k1 q)) (fun q => X_le (xle_s (xle_s xle_0)) (k2 q))
theorem bX6_readRow_37 {d : Nat} {g : xSt} {r : Option Value × xSt} {a1 : Int32} {g38 : xSt} (W : xWf g) (hk38 : xCallM d mX6_takeRowName [.ref 20] g = some (none, g38)) (W38 : xWf g38) (k : xX (d + 1) mX6_readRow 25 [some (.ref 20), some (.int (a1 + 1))] [] g38 = some r) : xX (d + 1) mX6_readRow 37 [some (.ref 20), some (.int a1)] [] g = some r :=
  Y_aload_n dX6_readRow_37 rfl <| Y_callV0 dX6_readRow_38 cl_6_148 rfl rfl (xis W 20 6 s_20 (Nat.le_of_ble_eq_true rfl)) rfl rfl rfl (hk38) <| Y_iinc 1 dX6_readRow_41 rfl ic_1 rfl rfl <| Y_goto 25 dX6_readRow_44 rfl <| X_le (xle_s (xle_s xle_0)) k
theorem bX6_readRow_47 {d : Nat} {g : xSt} {r : Option Value × xSt} {g50 : xSt} (W : xWf g) (hk50 : xCallM d mX6_takeSign [.ref 20, .int 59] g = some (none, g50)) (W50 : xWf g50) (k : r = (none, g50)) : xX (d + 1) mX6_readRow 47 [some (.ref 20), none] [] g = some r :=
  Y_aload_n dX6_readRow_47 rfl <| Y_bipush 59 dX6_readRow_48 bp_59 <| Y_callV0 dX6_readRow_50 cl_6_129 rfl rfl (xis W 20 6 s_20 (Nat.le_of_ble_eq_true rfl)) rfl rfl rfl (hk50) <| Y_ret dX6_readRow_53 rfl k
theorem bX6_takeRowName_0 {d : Nat} {g : xSt} {r : Option Value × xSt} {r5 r8 : Int32} {g5 g8 : xSt} {t : Nat} (W : xWf g) (ht : xTw t) (hpi0 : xR g 20 3 = some t) (hk5 : xCallM d mX10_rowBits [.ref t] g = some (some (.int r5), g5)) (W5 : xWf g5) (hk8 : xCallM d mX6_takeThing [.ref 20, .int r5] g5 = some (some (.int r8), g8)) (W8 : xWf g8) (k1 : (xI g8 20 10) = 0 → xX (d + 1) mX6_takeRowName 19 [some (.ref 20), some (.int r8)] [] g8 = some r) (k2 : ¬ ((xI g8 20 10) = 0) → xX (d + 1) mX6_takeRowName 27 [none, none] [] g8 = some r) : xX (d + 1) mX6_takeRowName 0 [some (.ref 20), none] [] g = some r :=
  Y_aload_n dX6_takeRowName_0 rfl <| Y_aload_n dX6_takeRowName_1 rfl <| Y_getR dX6_takeRowName_2 f_6_40 (by rw [ft_6_3]; rfl) (xis W 20 6 s_20 (Nat.le_of_ble_eq_true rfl)) (hpi0) <| Y_callV1 dX6_takeRowName_5 cl_6_155 rfl rfl (xisS W ht) rfl rfl rfl (hk5) <| Y_callV1 dX6_takeRowName_8 cl_6_158 rfl rfl (xis W5 20 6 s_20 (Nat.le_of_ble_eq_true rfl)) rfl rfl rfl (hk8) <| Y_istore_n dX6_takeRowName_11 rfl rfl <| Y_aload_n dX6_takeRowName_12 rfl <| Y_getI dX6_takeRowName_13 f_6_63 ft_6_10 (xis W8 20 6 s_20 (Nat.le_of_ble_eq_true rfl)) <| Y_ne0 27 dX6_takeRowName_16 rfl (fun q => X_le (xle_s (xle_s xle_0)) (k1 q)) (fun q => X_le (xle_n (xle_n xle_0)) (k2 q))
theorem bX6_takeRowName_19 {d : Nat} {g : xSt} {r : Option Value × xSt} {a1 : Int32} {g24 : xSt} {t : Nat} (W : xWf g) (ht : xTw t) (hpi0 : xR g 20 3 = some t) (hk24 : xCallM d mX10_addToRow [.ref t, .int a1] g = some (none, g24)) (W24 : xWf g24) (k : xX (d + 1) mX6_takeRowName 27 [none, none] [] g24 = some r) : xX (d + 1) mX6_takeRowName 19 [some (.ref 20), some (.int a1)] [] g = some r :=
  Y_aload_n dX6_takeRowName_19 rfl <| Y_getR dX6_takeRowName_20 f_6_40 (by rw [ft_6_3]; rfl) (xis W 20 6 s_20 (Nat.le_of_ble_eq_true rfl)) (hpi0) <| Y_iload_n dX6_takeRowName_23 rfl <| Y_callV0 dX6_takeRowName_24 cl_6_162 rfl rfl (xisS W ht) rfl rfl rfl (hk24) <| X_le (xle_n (xle_n xle_0)) k
theorem bX6_takeRowName_27 {d : Nat} {g : xSt} {r : Option Value × xSt}  (k : r = (none, g)) : xX (d + 1) mX6_takeRowName 27 [none, none] [] g = some r :=
  Y_ret dX6_takeRowName_27 rfl k
theorem bX6_takeThing_0 {d : Nat} {g : xSt} {r : Option Value × xSt} {a1 r1 : Int32} {g1 : xSt} (W : xWf g) (hk1 : xCallM d mX6_isName [.ref 20] g = some (some (.int r1), g1)) (W1 : xWf g1) (k1 : r1 = 0 → xX (d + 1) mX6_takeThing 7 [some (.ref 20), some (.int a1), none] [] g1 = some r) (k2 : ¬ (r1 = 0) → xX (d + 1) mX6_takeThing 12 [some (.ref 20), some (.int a1), none] [] g1 = some r) : xX (d + 1) mX6_takeThing 0 [some (.ref 20), some (.int a1), none] [] g = some r :=
  Y_aload_n dX6_takeThing_0 rfl <| Y_callV1 dX6_takeThing_1 cl_6_151 rfl rfl (xis W 20 6 s_20 (Nat.le_of_ble_eq_true rfl)) rfl rfl rfl (hk1) <| Y_ne0 12 dX6_takeThing_4 rfl (fun q => X_le (xle_s (xle_s (xle_n xle_0))) (k1 q)) (fun q => X_le (xle_s (xle_s (xle_n xle_0))) (k2 q))
theorem bX6_takeThing_7 {d : Nat} {g : xSt} {r : Option Value × xSt} {a1 : Int32} {g9 : xSt} (W : xWf g) (hk9 : xCallM d mX6_fail [.ref 20, .int 2] g = some (none, g9)) (W9 : xWf g9) (k : xX (d + 1) mX6_takeThing 12 [some (.ref 20), some (.int a1), none] [] g9 = some r) : xX (d + 1) mX6_takeThing 7 [some (.ref 20), some (.int a1), none] [] g = some r :=
  Y_aload_n dX6_takeThing_7 rfl <| Y_iconst 2 dX6_takeThing_8 ic_2 <| Y_callV0 dX6_takeThing_9 cl_6_103 rfl rfl (xis W 20 6 s_20 (Nat.le_of_ble_eq_true rfl)) rfl rfl rfl (hk9) <| X_le (xle_s (xle_s (xle_n xle_0))) k
theorem bX6_takeThing_12 {d : Nat} {g : xSt} {r : Option Value × xSt} {a1 r20 : Int32} {g20 : xSt} {t : Nat} (W : xWf g) (ht : xTw t) (hpi0 : xR g 20 3 = some t) (hk20 : xCallM d mX10_thingOf [.ref t, .long (xL g 20 8)] g = some (some (.int r20), g20)) (W20 : xWf g20) (k1 : r20 = (-1) → xX (d + 1) mX6_takeThing 29 [some (.ref 20), some (.int a1), some (.int r20)] [] g20 = some r) (k2 : ¬ (r20 = (-1)) → xX (d + 1) mX6_takeThing 34 [some (.ref 20), some (.int a1), some (.int r20)] [] g20 = some r) : xX (d + 1) mX6_takeThing 12 [some (.ref 20), some (.int a1), none] [] g = some r :=
  Y_aload_n dX6_takeThing_12 rfl <| Y_getR dX6_takeThing_13 f_6_40 (by rw [ft_6_3]; rfl) (xis W 20 6 s_20 (Nat.le_of_ble_eq_true rfl)) (hpi0) <| Y_aload_n dX6_takeThing_16 rfl <| Y_getJ dX6_takeThing_17 f_6_110 ft_6_8 (xis W 20 6 s_20 (Nat.le_of_ble_eq_true rfl)) <| Y_callV1 dX6_takeThing_20 cl_6_114 rfl rfl (xisS W ht) rfl rfl rfl (hk20) <| Y_istore_n dX6_takeThing_23 rfl rfl <| Y_iload_n dX6_takeThing_24 rfl <| Y_iconst (-1) dX6_takeThing_25 ic_m1 <| Y_ne 34 dX6_takeThing_26 rfl (fun q => X_le (xle_s (xle_s (xle_s xle_0))) (k1 q)) (fun q => X_le (xle_s (xle_s (xle_s xle_0))) (k2 q))
theorem bX6_takeThing_29 {d : Nat} {g : xSt} {r : Option Value × xSt} {a1 a2 : Int32} {g31 : xSt} (W : xWf g) (hk31 : xCallM d mX6_fail [.ref 20, .int 5] g = some (none, g31)) (W31 : xWf g31) (k : xX (d + 1) mX6_takeThing 34 [some (.ref 20), some (.int a1), some (.int a2)] [] g31 = some r) : xX (d + 1) mX6_takeThing 29 [some (.ref 20), some (.int a1), some (.int a2)] [] g = some r :=
  Y_aload_n dX6_takeThing_29 rfl <| Y_iconst 5 dX6_takeThing_30 ic_5 <| Y_callV0 dX6_takeThing_31 cl_6_103 rfl rfl (xis W 20 6 s_20 (Nat.le_of_ble_eq_true rfl)) rfl rfl rfl (hk31) <| X_le (xle_s (xle_s (xle_s xle_0))) k
theorem bX6_takeThing_34 {d : Nat} {g : xSt} {r : Option Value × xSt} {a1 a2 : Int32} (k1 : (xbit a1 a2) = 0 → xX (d + 1) mX6_takeThing 47 [some (.ref 20), none, some (.int a2)] [] g = some r) (k2 : ¬ ((xbit a1 a2) = 0) → xX (d + 1) mX6_takeThing 42 [some (.ref 20), none, some (.int a2)] [] g = some r) : xX (d + 1) mX6_takeThing 34 [some (.ref 20), some (.int a1), some (.int a2)] [] g = some r :=
  Y_iload_n dX6_takeThing_34 rfl <| Y_iload_n dX6_takeThing_35 rfl <| Y_callS1 dX6_takeThing_36 cl_6_193 rfl rfl rfl rfl rfl (c_xbit) <| Y_eq0 47 dX6_takeThing_39 rfl (fun q => X_le (xle_s (xle_n (xle_s xle_0))) (k1 q)) (fun q => X_le (xle_s (xle_n (xle_s xle_0))) (k2 q))
theorem bX6_takeThing_42 {d : Nat} {g : xSt} {r : Option Value × xSt} {a2 : Int32} {g44 : xSt} (W : xWf g) (hk44 : xCallM d mX6_fail [.ref 20, .int 3] g = some (none, g44)) (W44 : xWf g44) (k : xX (d + 1) mX6_takeThing 47 [some (.ref 20), none, some (.int a2)] [] g44 = some r) : xX (d + 1) mX6_takeThing 42 [some (.ref 20), none, some (.int a2)] [] g = some r :=
  Y_aload_n dX6_takeThing_42 rfl <| Y_iconst 3 dX6_takeThing_43 ic_3 <| Y_callV0 dX6_takeThing_44 cl_6_103 rfl rfl (xis W 20 6 s_20 (Nat.le_of_ble_eq_true rfl)) rfl rfl rfl (hk44) <| X_le (xle_s (xle_n (xle_s xle_0))) k
theorem bX6_takeThing_47 {d : Nat} {g : xSt} {r : Option Value × xSt} {a2 : Int32} {g48 : xSt} (W : xWf g) (hk48 : xCallM d mX6_advance [.ref 20] g = some (none, g48)) (W48 : xWf g48) (k : r = (some (.int a2), g48)) : xX (d + 1) mX6_takeThing 47 [some (.ref 20), none, some (.int a2)] [] g = some r :=
  Y_aload_n dX6_takeThing_47 rfl <| Y_callV0 dX6_takeThing_48 cl_6_69 rfl rfl (xis W 20 6 s_20 (Nat.le_of_ble_eq_true rfl)) rfl rfl rfl (hk48) <| Y_iload_n dX6_takeThing_51 rfl <| Y_iret dX6_takeThing_52 rfl k
theorem bX6_readPlan_0 {d : Nat} {g : xSt} {r : Option Value × xSt} {t : Nat} (W : xWf g) (ht : xTw t) (hpi0 : xR g 20 3 = some t) (k1 : (xI g t 8) < 3 → xX (d + 1) mX6_readPlan 16 [some (.ref 20), none, none, none] [] g = some r) (k2 : ¬ ((xI g t 8) < 3) → xX (d + 1) mX6_readPlan 11 [some (.ref 20), none, none, none] [] g = some r) : xX (d + 1) mX6_readPlan 0 [some (.ref 20), none, none, none] [] g = some r :=
  Y_aload_n dX6_readPlan_0 rfl <| Y_getR dX6_readPlan_1 f_6_40 (by rw [ft_6_3]; rfl) (xis W 20 6 s_20 (Nat.le_of_ble_eq_true rfl)) (hpi0) <| Y_getI dX6_readPlan_4 f_6_165 ft_9_8 (xisS W ht) <| Y_iconst 3 dX6_readPlan_7 ic_3 <| Y_lt 16 dX6_readPlan_8 rfl (fun q => X_le (xle_s (xle_n (xle_n (xle_n xle_0)))) (k1 q)) (fun q => X_le (xle_s (xle_n (xle_n (xle_n xle_0)))) (k2 q))
theorem bX6_readPlan_11 {d : Nat} {g : xSt} {r : Option Value × xSt} {g13 : xSt} (W : xWf g) (hk13 : xCallM d mX6_fail [.ref 20, .int 2] g = some (none, g13)) (W13 : xWf g13) (k : xX (d + 1) mX6_readPlan 16 [some (.ref 20), none, none, none] [] g13 = some r) : xX (d + 1) mX6_readPlan 11 [some (.ref 20), none, none, none] [] g = some r :=
  Y_aload_n dX6_readPlan_11 rfl <| Y_iconst 2 dX6_readPlan_12 ic_2 <| Y_callV0 dX6_readPlan_13 cl_6_103 rfl rfl (xis W 20 6 s_20 (Nat.le_of_ble_eq_true rfl)) rfl rfl rfl (hk13) <| X_le (xle_s (xle_n (xle_n (xle_n xle_0)))) k
theorem bX6_readPlan_16 {d : Nat} {g : xSt} {r : Option Value × xSt} {g17 g29 g32 g38 g45 : xSt} {r29 r38 : Int32} {r32 : Int64} {t : Nat} (W : xWf g) (ht : xTw t) (hk17 : xCallM d mX6_advance [.ref 20] g = some (none, g17)) (W17 : xWf g17) (hpi2 : xR g17 20 3 = some t) (hk29 : xCallM d mX10_planOf [.ref t, .long (xL g17 20 8)] g17 = some (some (.int r29), g29)) (W29 : xWf g29) (hk32 : xCallM d mX6_takeNewName [.ref 20, .int r29] g29 = some (some (.long r32), g32)) (W32 : xWf g32) (hk38 : xCallM d mX6_readPart [.ref 20, .int 0] g32 = some (some (.int r38), g38)) (W38 : xWf g38) (hk45 : xCallM d mX6_takeSign [.ref 20, .int 59] g38 = some (none, g45)) (W45 : xWf g45) (k1 : (xI g45 20 10) = 0 → xX (d + 1) mX6_readPlan 55 [some (.ref 20), some (.long r32), none, some (.int r38)] [] g45 = some r) (k2 : ¬ ((xI g45 20 10) = 0) → xX (d + 1) mX6_readPlan 64 [none, none, none, none] [] g45 = some r) : xX (d + 1) mX6_readPlan 16 [some (.ref 20), none, none, none] [] g = some r :=
  Y_aload_n dX6_readPlan_16 rfl <| Y_callV0 dX6_readPlan_17 cl_6_69 rfl rfl (xis W 20 6 s_20 (Nat.le_of_ble_eq_true rfl)) rfl rfl rfl (hk17) <| Y_aload_n dX6_readPlan_20 rfl <| Y_aload_n dX6_readPlan_21 rfl <| Y_getR dX6_readPlan_22 f_6_40 (by rw [ft_6_3]; rfl) (xis W17 20 6 s_20 (Nat.le_of_ble_eq_true rfl)) (hpi2) <| Y_aload_n dX6_readPlan_25 rfl <| Y_getJ dX6_readPlan_26 f_6_110 ft_6_8 (xis W17 20 6 s_20 (Nat.le_of_ble_eq_true rfl)) <| Y_callV1 dX6_readPlan_29 cl_6_168 rfl rfl (xisS W17 ht) rfl rfl rfl (hk29) <| Y_callV1 dX6_readPlan_32 cl_6_118 rfl rfl (xis W29 20 6 s_20 (Nat.le_of_ble_eq_true rfl)) rfl rfl rfl (hk32) <| Y_lstore_n dX6_readPlan_35 rfl rfl <| Y_aload_n dX6_readPlan_36 rfl <| Y_iconst 0 dX6_readPlan_37 ic_0 <| Y_callS1 dX6_readPlan_38 cl_6_171 rfl rfl rfl rfl rfl (hk38) <| Y_istore_n dX6_readPlan_41 rfl rfl <| Y_aload_n dX6_readPlan_42 rfl <| Y_bipush 59 dX6_readPlan_43 bp_59 <| Y_callV0 dX6_readPlan_45 cl_6_129 rfl rfl (xis W38 20 6 s_20 (Nat.le_of_ble_eq_true rfl)) rfl rfl rfl (hk45) <| Y_aload_n dX6_readPlan_48 rfl <| Y_getI dX6_readPlan_49 f_6_63 ft_6_10 (xis W45 20 6 s_20 (Nat.le_of_ble_eq_true rfl)) <| Y_ne0 64 dX6_readPlan_52 rfl (fun q => X_le (xle_s (xle_s (xle_n (xle_s xle_0)))) (k1 q)) (fun q => X_le (xle_n (xle_n (xle_n (xle_n xle_0)))) (k2 q))
theorem bX6_readPlan_55 {d : Nat} {g : xSt} {r : Option Value × xSt} {a1 : Int64} {a3 : Int32} {g61 : xSt} {t : Nat} (W : xWf g) (ht : xTw t) (hpi0 : xR g 20 3 = some t) (hk61 : xCallM d mX10_addPlan [.ref t, .long a1, .int a3] g = some (none, g61)) (W61 : xWf g61) (k : xX (d + 1) mX6_readPlan 64 [none, none, none, none] [] g61 = some r) : xX (d + 1) mX6_readPlan 55 [some (.ref 20), some (.long a1), none, some (.int a3)] [] g = some r :=
  Y_aload_n dX6_readPlan_55 rfl <| Y_getR dX6_readPlan_56 f_6_40 (by rw [ft_6_3]; rfl) (xis W 20 6 s_20 (Nat.le_of_ble_eq_true rfl)) (hpi0) <| Y_lload_n dX6_readPlan_59 rfl <| Y_iload_n dX6_readPlan_60 rfl <| Y_callV0 dX6_readPlan_61 cl_6_175 rfl rfl (xisS W ht) rfl rfl rfl (hk61) <| X_le (xle_n (xle_n (xle_n (xle_n xle_0)))) k
theorem bX6_readPlan_64 {d : Nat} {g : xSt} {r : Option Value × xSt}  (k : r = (none, g)) : xX (d + 1) mX6_readPlan 64 [none, none, none, none] [] g = some r :=
  Y_ret dX6_readPlan_64 rfl k
theorem bX6_readPart_0 {d : Nat} {g : xSt} {r : Option Value × xSt} {a1 : Int32} (k1 : a1 ≤ 10 → xX (d + 1) mX6_readPart 11 [some (.ref 20), some (.int a1), none, none, none, none] [] g = some r) (k2 : ¬ (a1 ≤ 10) → xX (d + 1) mX6_readPart 6 [some (.ref 20), some (.int a1), none, none, none, none] [] g = some r) : xX (d + 1) mX6_readPart 0 [some (.ref 20), some (.int a1), none, none, none, none] [] g = some r :=
  Y_iload_n dX6_readPart_0 rfl <| Y_bipush 10 dX6_readPart_1 bp_10 <| Y_le 11 dX6_readPart_3 rfl (fun q => X_le (xle_s (xle_s (xle_n (xle_n (xle_n (xle_n xle_0)))))) (k1 q)) (fun q => X_le (xle_s (xle_s (xle_n (xle_n (xle_n (xle_n xle_0)))))) (k2 q))
theorem bX6_readPart_6 {d : Nat} {g : xSt} {r : Option Value × xSt} {a1 : Int32} {g8 : xSt} (W : xWf g) (hk8 : xCallM d mX6_fail [.ref 20, .int 2] g = some (none, g8)) (W8 : xWf g8) (k : xX (d + 1) mX6_readPart 11 [some (.ref 20), some (.int a1), none, none, none, none] [] g8 = some r) : xX (d + 1) mX6_readPart 6 [some (.ref 20), some (.int a1), none, none, none, none] [] g = some r :=
  Y_aload_n dX6_readPart_6 rfl <| Y_iconst 2 dX6_readPart_7 ic_2 <| Y_callV0 dX6_readPart_8 cl_6_103 rfl rfl (xis W 20 6 s_20 (Nat.le_of_ble_eq_true rfl)) rfl rfl rfl (hk8) <| X_le (xle_s (xle_s (xle_n (xle_n (xle_n (xle_n xle_0)))))) k
theorem bX6_readPart_11 {d : Nat} {g : xSt} {r : Option Value × xSt} {a1 : Int32} (W : xWf g) (k1 : (xI g 20 10) = 0 → xX (d + 1) mX6_readPart 20 [some (.ref 20), some (.int a1), none, none, none, none] [] g = some r) (k2 : ¬ ((xI g 20 10) = 0) → xX (d + 1) mX6_readPart 18 [none, none, none, none, none, none] [] g = some r) : xX (d + 1) mX6_readPart 11 [some (.ref 20), some (.int a1), none, none, none, none] [] g = some r :=
  Y_aload_n dX6_readPart_11 rfl <| Y_getI dX6_readPart_12 f_6_63 ft_6_10 (xis W 20 6 s_20 (Nat.le_of_ble_eq_true rfl)) <| Y_eq0 20 dX6_readPart_15 rfl (fun q => X_le (xle_s (xle_s (xle_n (xle_n (xle_n (xle_n xle_0)))))) (k1 q)) (fun q => X_le (xle_n (xle_n (xle_n (xle_n (xle_n (xle_n xle_0)))))) (k2 q))
theorem bX6_readPart_18 {d : Nat} {g : xSt} {r : Option Value × xSt}  (k : r = (some (.int (-1)), g)) : xX (d + 1) mX6_readPart 18 [none, none, none, none, none, none] [] g = some r :=
  Y_iconst (-1) dX6_readPart_18 ic_m1 <| Y_iret dX6_readPart_19 rfl k
theorem bX6_readPart_20 {d : Nat} {g : xSt} {r : Option Value × xSt} {a1 r23 : Int32} {g23 : xSt} (W : xWf g) (hk23 : xCallM d mX6_isOwn [.ref 20, .int 6] g = some (some (.int r23), g23)) (W23 : xWf g23) (k1 : r23 = 0 → xX (d + 1) mX6_readPart 35 [some (.ref 20), some (.int a1), none, none, none, none] [] g23 = some r) (k2 : ¬ (r23 = 0) → xX (d + 1) mX6_readPart 29 [some (.ref 20), none, none, none, none, none] [] g23 = some r) : xX (d + 1) mX6_readPart 20 [some (.ref 20), some (.int a1), none, none, none, none] [] g = some r :=
  Y_aload_n dX6_readPart_20 rfl <| Y_bipush 6 dX6_readPart_21 bp_6 <| Y_callV1 dX6_readPart_23 cl_6_84 rfl rfl (xis W 20 6 s_20 (Nat.le_of_ble_eq_true rfl)) rfl rfl rfl (hk23) <| Y_eq0 35 dX6_readPart_26 rfl (fun q => X_le (xle_s (xle_s (xle_n (xle_n (xle_n (xle_n xle_0)))))) (k1 q)) (fun q => X_le (xle_s (xle_n (xle_n (xle_n (xle_n (xle_n xle_0)))))) (k2 q))
theorem bX6_readPart_29 {d : Nat} {g : xSt} {r : Option Value × xSt} {g30 : xSt} (W : xWf g) (hk30 : xCallM d mX6_advance [.ref 20] g = some (none, g30)) (W30 : xWf g30) (k : r = (some (.int (-1)), g30)) : xX (d + 1) mX6_readPart 29 [some (.ref 20), none, none, none, none, none] [] g = some r :=
  Y_aload_n dX6_readPart_29 rfl <| Y_callV0 dX6_readPart_30 cl_6_69 rfl rfl (xis W 20 6 s_20 (Nat.le_of_ble_eq_true rfl)) rfl rfl rfl (hk30) <| Y_iconst (-1) dX6_readPart_33 ic_m1 <| Y_iret dX6_readPart_34 rfl k
theorem bX6_readPart_35 {d : Nat} {g : xSt} {r : Option Value × xSt} {a1 : Int32} {t : Nat} (W : xWf g) (ht : xTw t) (hpi0 : xR g 20 3 = some t) (k1 : (xI g t 11) < 60 → xX (d + 1) mX6_readPart 52 [some (.ref 20), some (.int a1), none, none, none, none] [] g = some r) (k2 : ¬ ((xI g t 11) < 60) → xX (d + 1) mX6_readPart 47 [some (.ref 20), some (.int a1), none, none, none, none] [] g = some r) : xX (d + 1) mX6_readPart 35 [some (.ref 20), some (.int a1), none, none, none, none] [] g = some r :=
  Y_aload_n dX6_readPart_35 rfl <| Y_getR dX6_readPart_36 f_6_40 (by rw [ft_6_3]; rfl) (xis W 20 6 s_20 (Nat.le_of_ble_eq_true rfl)) (hpi0) <| Y_getI dX6_readPart_39 f_6_178 ft_9_11 (xisS W ht) <| Y_bipush 60 dX6_readPart_42 bp_60 <| Y_lt 52 dX6_readPart_44 rfl (fun q => X_le (xle_s (xle_s (xle_n (xle_n (xle_n (xle_n xle_0)))))) (k1 q)) (fun q => X_le (xle_s (xle_s (xle_n (xle_n (xle_n (xle_n xle_0)))))) (k2 q))
theorem bX6_readPart_47 {d : Nat} {g : xSt} {r : Option Value × xSt} {a1 : Int32} {g49 : xSt} (W : xWf g) (hk49 : xCallM d mX6_fail [.ref 20, .int 2] g = some (none, g49)) (W49 : xWf g49) (k : xX (d + 1) mX6_readPart 52 [some (.ref 20), some (.int a1), none, none, none, none] [] g49 = some r) : xX (d + 1) mX6_readPart 47 [some (.ref 20), some (.int a1), none, none, none, none] [] g = some r :=
  Y_aload_n dX6_readPart_47 rfl <| Y_iconst 2 dX6_readPart_48 ic_2 <| Y_callV0 dX6_readPart_49 cl_6_103 rfl rfl (xis W 20 6 s_20 (Nat.le_of_ble_eq_true rfl)) rfl rfl rfl (hk49) <| X_le (xle_s (xle_s (xle_n (xle_n (xle_n (xle_n xle_0)))))) k
theorem bX6_readPart_52 {d : Nat} {g : xSt} {r : Option Value × xSt} {a1 r54 r66 : Int32} {g54 g66 : xSt} (W : xWf g) (hk54 : xCallM d mX6_takeThing [.ref 20, .int 0] g = some (some (.int r54), g54)) (W54 : xWf g54) (hk66 : xCallM d mX6_takeThing [.ref 20, .int (1 <<< ((imax r54 0) &&& 31))] g54 = some (some (.int r66), g66)) (W66 : xWf g66) (k1 : (xI g66 20 10) = 0 → xX (d + 1) mX6_readPart 77 [some (.ref 20), some (.int a1), some (.int r54), some (.int r66), none, none] [] g66 = some r) (k2 : ¬ ((xI g66 20 10) = 0) → xX (d + 1) mX6_readPart 89 [some (.ref 20), some (.int a1), none, none, none, none] [] g66 = some r) : xX (d + 1) mX6_readPart 52 [some (.ref 20), some (.int a1), none, none, none, none] [] g = some r :=
  Y_aload_n dX6_readPart_52 rfl <| Y_iconst 0 dX6_readPart_53 ic_0 <| Y_callV1 dX6_readPart_54 cl_6_158 rfl rfl (xis W 20 6 s_20 (Nat.le_of_ble_eq_true rfl)) rfl rfl rfl (hk54) <| Y_istore_n dX6_readPart_57 rfl rfl <| Y_aload_n dX6_readPart_58 rfl <| Y_iconst 1 dX6_readPart_59 ic_1 <| Y_iload_n dX6_readPart_60 rfl <| Y_iconst 0 dX6_readPart_61 ic_0 <| Y_max dX6_readPart_62 km_6_181 kn_6_181 rfl <| Y_ishl dX6_readPart_65 <| Y_callV1 dX6_readPart_66 cl_6_158 rfl rfl (xis W54 20 6 s_20 (Nat.le_of_ble_eq_true rfl)) rfl rfl rfl (hk66) <| Y_istore_n dX6_readPart_69 rfl rfl <| Y_aload_n dX6_readPart_70 rfl <| Y_getI dX6_readPart_71 f_6_63 ft_6_10 (xis W66 20 6 s_20 (Nat.le_of_ble_eq_true rfl)) <| Y_ne0 89 dX6_readPart_74 rfl (fun q => X_le (xle_s (xle_s (xle_s (xle_s (xle_n (xle_n xle_0)))))) (k1 q)) (fun q => X_le (xle_s (xle_s (xle_n (xle_n (xle_n (xle_n xle_0)))))) (k2 q))
theorem bX6_readPart_77 {d : Nat} {g : xSt} {r : Option Value × xSt} {a1 a2 a3 r83 : Int32} {g83 : xSt} {t : Nat} (W : xWf g) (ht : xTw t) (hpi0 : xR g 20 3 = some t) (hk83 : xCallM d mX10_addTwo [.ref t, .int a2, .int a3] g = some (some (.int r83), g83)) (W83 : xWf g83) (k : xX (d + 1) mX6_readPart 90 [some (.ref 20), some (.int a1), none, none, none, none] [.int r83] g83 = some r) : xX (d + 1) mX6_readPart 77 [some (.ref 20), some (.int a1), some (.int a2), some (.int a3), none, none] [] g = some r :=
  Y_aload_n dX6_readPart_77 rfl <| Y_getR dX6_readPart_78 f_6_40 (by rw [ft_6_3]; rfl) (xis W 20 6 s_20 (Nat.le_of_ble_eq_true rfl)) (hpi0) <| Y_iload_n dX6_readPart_81 rfl <| Y_iload_n dX6_readPart_82 rfl <| Y_callV1 dX6_readPart_83 cl_6_186 rfl rfl (xisS W ht) rfl rfl rfl (hk83) <| Y_goto 90 dX6_readPart_86 rfl <| X_le (xle_s (xle_s (xle_n (xle_n (xle_n (xle_n xle_0)))))) k
theorem bX6_readPart_89 {d : Nat} {g : xSt} {r : Option Value × xSt} {a1 : Int32} (k : xX (d + 1) mX6_readPart 90 [some (.ref 20), some (.int a1), none, none, none, none] [.int (-1)] g = some r) : xX (d + 1) mX6_readPart 89 [some (.ref 20), some (.int a1), none, none, none, none] [] g = some r :=
  Y_iconst (-1) dX6_readPart_89 ic_m1 <| X_le (xle_s (xle_s (xle_n (xle_n (xle_n (xle_n xle_0)))))) k
theorem bX6_readPart_90 {d : Nat} {g : xSt} {r : Option Value × xSt} {a1 s0 r109 r132 : Int32} {g95 g109 g112 g118 g132 g135 : xSt} {t : Nat} (W : xWf g) (ht : xTw t) (hk95 : xCallM d mX6_takeSign [.ref 20, .int 40] g = some (none, g95)) (W95 : xWf g95) (hpi2 : xR g95 20 3 = some t) (hk109 : xCallM d mX6_readPart [.ref 20, .int (a1 + 1)] g95 = some (some (.int r109), g109)) (W109 : xWf g109) (hk112 : xCallM d mX10_setWay [.ref t, .int s0, .int 1, .int r109] g109 = some (none, g112)) (W112 : xWf g112) (hk118 : xCallM d mX6_takeSign [.ref 20, .int 47] g112 = some (none, g118)) (W118 : xWf g118) (hpi9 : xR g118 20 3 = some t) (hk132 : xCallM d mX6_readPart [.ref 20, .int (a1 + 1)] g118 = some (some (.int r132), g132)) (W132 : xWf g132) (hk135 : xCallM d mX10_setWay [.ref t, .int s0, .int 2, .int r132] g132 = some (none, g135)) (W135 : xWf g135) (k1 : (xI g135 20 6) = 47 → xX (d + 1) mX6_readPart 150 [some (.ref 20), some (.int a1), none, none, some (.int s0), none] [] g135 = some r) (k2 : ¬ ((xI g135 20 6) = 47) → xX (d + 1) mX6_readPart 163 [some (.ref 20), none, none, none, some (.int s0), some (.int (-1))] [] g135 = some r) : xX (d + 1) mX6_readPart 90 [some (.ref 20), some (.int a1), none, none, none, none] [.int s0] g = some r :=
  Y_istore dX6_readPart_90 rfl rfl <| Y_aload_n dX6_readPart_92 rfl <| Y_bipush 40 dX6_readPart_93 bp_40 <| Y_callV0 dX6_readPart_95 cl_6_129 rfl rfl (xis W 20 6 s_20 (Nat.le_of_ble_eq_true rfl)) rfl rfl rfl (hk95) <| Y_aload_n dX6_readPart_98 rfl <| Y_getR dX6_readPart_99 f_6_40 (by rw [ft_6_3]; rfl) (xis W95 20 6 s_20 (Nat.le_of_ble_eq_true rfl)) (hpi2) <| Y_iload dX6_readPart_102 rfl <| Y_iconst 1 dX6_readPart_104 ic_1 <| Y_aload_n dX6_readPart_105 rfl <| Y_iload_n dX6_readPart_106 rfl <| Y_iconst 1 dX6_readPart_107 ic_1 <| Y_iadd dX6_readPart_108 <| Y_callS1 dX6_readPart_109 cl_6_171 rfl rfl rfl rfl rfl (hk109) <| Y_callV0 dX6_readPart_112 cl_6_189 rfl rfl (xisS W109 ht) rfl rfl rfl (hk112) <| Y_aload_n dX6_readPart_115 rfl <| Y_bipush 47 dX6_readPart_116 bp_47 <| Y_callV0 dX6_readPart_118 cl_6_129 rfl rfl (xis W112 20 6 s_20 (Nat.le_of_ble_eq_true rfl)) rfl rfl rfl (hk118) <| Y_aload_n dX6_readPart_121 rfl <| Y_getR dX6_readPart_122 f_6_40 (by rw [ft_6_3]; rfl) (xis W118 20 6 s_20 (Nat.le_of_ble_eq_true rfl)) (hpi9) <| Y_iload dX6_readPart_125 rfl <| Y_iconst 2 dX6_readPart_127 ic_2 <| Y_aload_n dX6_readPart_128 rfl <| Y_iload_n dX6_readPart_129 rfl <| Y_iconst 1 dX6_readPart_130 ic_1 <| Y_iadd dX6_readPart_131 <| Y_callS1 dX6_readPart_132 cl_6_171 rfl rfl rfl rfl rfl (hk132) <| Y_callV0 dX6_readPart_135 cl_6_189 rfl rfl (xisS W132 ht) rfl rfl rfl (hk135) <| Y_iconst (-1) dX6_readPart_138 ic_m1 <| Y_istore dX6_readPart_139 rfl rfl <| Y_aload_n dX6_readPart_141 rfl <| Y_getI dX6_readPart_142 f_6_72 ft_6_6 (xis W135 20 6 s_20 (Nat.le_of_ble_eq_true rfl)) <| Y_bipush 47 dX6_readPart_145 bp_47 <| Y_ne 163 dX6_readPart_147 rfl (fun q => X_le (xle_s (xle_s (xle_n (xle_n (xle_s (xle_n xle_0)))))) (k1 q)) (fun q => X_le (xle_s (xle_n (xle_n (xle_n (xle_s (xle_s xle_0)))))) (k2 q))
theorem bX6_readPart_150 {d : Nat} {g : xSt} {r : Option Value × xSt} {a1 a4 r158 : Int32} {g151 g158 : xSt} (W : xWf g) (hk151 : xCallM d mX6_advance [.ref 20] g = some (none, g151)) (W151 : xWf g151) (hk158 : xCallM d mX6_readPart [.ref 20, .int (a1 + 1)] g151 = some (some (.int r158), g158)) (W158 : xWf g158) (k : xX (d + 1) mX6_readPart 163 [some (.ref 20), none, none, none, some (.int a4), some (.int r158)] [] g158 = some r) : xX (d + 1) mX6_readPart 150 [some (.ref 20), some (.int a1), none, none, some (.int a4), none] [] g = some r :=
  Y_aload_n dX6_readPart_150 rfl <| Y_callV0 dX6_readPart_151 cl_6_69 rfl rfl (xis W 20 6 s_20 (Nat.le_of_ble_eq_true rfl)) rfl rfl rfl (hk151) <| Y_aload_n dX6_readPart_154 rfl <| Y_iload_n dX6_readPart_155 rfl <| Y_iconst 1 dX6_readPart_156 ic_1 <| Y_iadd dX6_readPart_157 <| Y_callS1 dX6_readPart_158 cl_6_171 rfl rfl rfl rfl rfl (hk158) <| Y_istore dX6_readPart_161 rfl rfl <| X_le (xle_s (xle_n (xle_n (xle_n (xle_s (xle_s xle_0)))))) k
theorem bX6_readPart_163 {d : Nat} {g : xSt} {r : Option Value × xSt} {a4 a5 : Int32} {g172 g178 : xSt} {t : Nat} (W : xWf g) (ht : xTw t) (hpi0 : xR g 20 3 = some t) (hk172 : xCallM d mX10_setWay [.ref t, .int a4, .int 0, .int a5] g = some (none, g172)) (W172 : xWf g172) (hk178 : xCallM d mX6_takeSign [.ref 20, .int 41] g172 = some (none, g178)) (W178 : xWf g178) (k : r = (some (.int a4), g178)) : xX (d + 1) mX6_readPart 163 [some (.ref 20), none, none, none, some (.int a4), some (.int a5)] [] g = some r :=
  Y_aload_n dX6_readPart_163 rfl <| Y_getR dX6_readPart_164 f_6_40 (by rw [ft_6_3]; rfl) (xis W 20 6 s_20 (Nat.le_of_ble_eq_true rfl)) (hpi0) <| Y_iload dX6_readPart_167 rfl <| Y_iconst 0 dX6_readPart_169 ic_0 <| Y_iload dX6_readPart_170 rfl <| Y_callV0 dX6_readPart_172 cl_6_189 rfl rfl (xisS W ht) rfl rfl rfl (hk172) <| Y_aload_n dX6_readPart_175 rfl <| Y_bipush 41 dX6_readPart_176 bp_41 <| Y_callV0 dX6_readPart_178 cl_6_129 rfl rfl (xis W172 20 6 s_20 (Nat.le_of_ble_eq_true rfl)) rfl rfl rfl (hk178) <| Y_iload dX6_readPart_181 rfl <| Y_iret dX6_readPart_183 rfl k
