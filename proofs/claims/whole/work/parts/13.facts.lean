/-! FACTS of the tables that the stretches use, each once -/
theorem f_0_9 : xFld 0 9 = some (0, 5) := by decide +kernel
theorem f_0_15 : xFld 0 15 = some (0, 6) := by decide +kernel
theorem f_0_18 : xFld 0 18 = some (0, 7) := by decide +kernel
theorem f_0_21 : xFld 0 21 = some (0, 8) := by decide +kernel
theorem f_0_24 : xFld 0 24 = some (0, 9) := by decide +kernel
theorem f_0_27 : xFld 0 27 = some (0, 10) := by decide +kernel
theorem f_0_30 : xFld 0 30 = some (0, 11) := by decide +kernel
theorem f_0_35 : xFld 0 35 = some (0, 12) := by decide +kernel
theorem f_0_38 : xFld 0 38 = some (0, 0) := by decide +kernel
theorem f_0_42 : xFld 0 42 = some (0, 1) := by decide +kernel
theorem f_0_45 : xFld 0 45 = some (0, 3) := by decide +kernel
theorem f_0_48 : xFld 0 48 = some (9, 2) := by decide +kernel
theorem f_0_57 : xFld 0 57 = some (0, 2) := by decide +kernel
theorem f_0_64 : xFld 0 64 = some (9, 5) := by decide +kernel
theorem f_1_9 : xFld 1 9 = some (1, 3) := by decide +kernel
theorem f_1_15 : xFld 1 15 = some (1, 4) := by decide +kernel
theorem f_1_18 : xFld 1 18 = some (1, 5) := by decide +kernel
theorem f_1_21 : xFld 1 21 = some (1, 6) := by decide +kernel
theorem f_1_26 : xFld 1 26 = some (1, 7) := by decide +kernel
theorem f_1_29 : xFld 1 29 = some (1, 8) := by decide +kernel
theorem f_1_32 : xFld 1 32 = some (1, 9) := by decide +kernel
theorem f_1_35 : xFld 1 35 = some (1, 10) := by decide +kernel
theorem f_1_38 : xFld 1 38 = some (1, 12) := by decide +kernel
theorem f_1_42 : xFld 1 42 = some (1, 14) := by decide +kernel
theorem f_1_45 : xFld 1 45 = some (1, 15) := by decide +kernel
theorem f_1_48 : xFld 1 48 = some (1, 16) := by decide +kernel
theorem f_1_51 : xFld 1 51 = some (1, 17) := by decide +kernel
theorem f_1_54 : xFld 1 54 = some (1, 0) := by decide +kernel
theorem f_1_57 : xFld 1 57 = some (9, 0) := by decide +kernel
theorem f_1_58 : xFld 1 58 = some (1, 1) := by decide +kernel
theorem f_1_61 : xFld 1 61 = some (9, 5) := by decide +kernel
theorem f_1_62 : xFld 1 62 = some (0, 0) := by decide +kernel
theorem f_1_67 : xFld 1 67 = some (0, 5) := by decide +kernel
theorem f_1_76 : xFld 1 76 = some (0, 6) := by decide +kernel
theorem f_1_79 : xFld 1 79 = some (0, 7) := by decide +kernel
theorem f_1_97 : xFld 1 97 = some (1, 2) := by decide +kernel
theorem f_1_100 : xFld 1 100 = some (1, 13) := by decide +kernel
theorem f_1_110 : xFld 1 110 = some (1, 11) := by decide +kernel
theorem f_2_11 : xFld 2 11 = some (2, 0) := by decide +kernel
theorem f_2_15 : xFld 2 15 = some (2, 1) := by decide +kernel
theorem f_2_18 : xFld 2 18 = some (2, 2) := by decide +kernel
theorem f_2_27 : xFld 2 27 = some (2, 3) := by decide +kernel
theorem f_2_31 : xFld 2 31 = some (2, 4) := by decide +kernel
theorem f_2_34 : xFld 2 34 = some (9, 10) := by decide +kernel
theorem f_2_41 : xFld 2 41 = some (9, 12) := by decide +kernel
theorem f_2_44 : xFld 2 44 = some (9, 13) := by decide +kernel
theorem f_2_53 : xFld 2 53 = some (9, 14) := by decide +kernel
theorem f_3_11 : xFld 3 11 = some (3, 0) := by decide +kernel
theorem f_3_15 : xFld 3 15 = some (3, 1) := by decide +kernel
theorem f_3_20 : xFld 3 20 = some (3, 2) := by decide +kernel
theorem f_3_23 : xFld 3 23 = some (7, 2) := by decide +kernel
theorem f_3_65 : xFld 3 65 = some (7, 0) := by decide +kernel
theorem f_3_76 : xFld 3 76 = some (7, 1) := by decide +kernel
theorem f_4_11 : xFld 4 11 = some (4, 0) := by decide +kernel
theorem f_4_21 : xFld 4 21 = some (7, 2) := by decide +kernel
theorem f_4_27 : xFld 4 27 = some (7, 1) := by decide +kernel
theorem f_4_34 : xFld 4 34 = some (7, 0) := by decide +kernel
theorem f_5_11 : xFld 5 11 = some (5, 2) := by decide +kernel
theorem f_5_15 : xFld 5 15 = some (5, 3) := by decide +kernel
theorem f_5_18 : xFld 5 18 = some (5, 4) := by decide +kernel
theorem f_5_21 : xFld 5 21 = some (5, 9) := by decide +kernel
theorem f_5_24 : xFld 5 24 = some (5, 10) := by decide +kernel
theorem f_5_29 : xFld 5 29 = some (5, 11) := by decide +kernel
theorem f_5_45 : xFld 5 45 = some (9, 0) := by decide +kernel
theorem f_5_49 : xFld 5 49 = some (5, 0) := by decide +kernel
theorem f_5_50 : xFld 5 50 = some (5, 1) := by decide +kernel
theorem f_5_59 : xFld 5 59 = some (9, 3) := by decide +kernel
theorem f_5_89 : xFld 5 89 = some (5, 7) := by decide +kernel
theorem f_5_92 : xFld 5 92 = some (5, 8) := by decide +kernel
theorem f_5_95 : xFld 5 95 = some (0, 0) := by decide +kernel
theorem f_5_108 : xFld 5 108 = some (0, 5) := by decide +kernel
theorem f_5_115 : xFld 5 115 = some (0, 6) := by decide +kernel
theorem f_5_118 : xFld 5 118 = some (0, 7) := by decide +kernel
theorem f_5_124 : xFld 5 124 = some (5, 5) := by decide +kernel
theorem f_5_127 : xFld 5 127 = some (5, 6) := by decide +kernel
theorem f_6_29 : xFld 6 29 = some (6, 0) := by decide +kernel
theorem f_6_33 : xFld 6 33 = some (6, 1) := by decide +kernel
theorem f_6_40 : xFld 6 40 = some (6, 3) := by decide +kernel
theorem f_6_44 : xFld 6 44 = some (6, 11) := by decide +kernel
theorem f_6_58 : xFld 6 58 = some (6, 2) := by decide +kernel
theorem f_6_63 : xFld 6 63 = some (6, 10) := by decide +kernel
theorem f_6_66 : xFld 6 66 = some (6, 5) := by decide +kernel
theorem f_6_72 : xFld 6 72 = some (6, 6) := by decide +kernel
theorem f_6_81 : xFld 6 81 = some (6, 4) := by decide +kernel
theorem f_6_107 : xFld 6 107 = some (9, 0) := by decide +kernel
theorem f_6_110 : xFld 6 110 = some (6, 8) := by decide +kernel
theorem f_6_136 : xFld 6 136 = some (9, 3) := by decide +kernel
theorem f_6_140 : xFld 6 140 = some (9, 4) := by decide +kernel
theorem f_6_143 : xFld 6 143 = some (9, 5) := by decide +kernel
theorem f_6_145 : xFld 6 145 = some (9, 6) := by decide +kernel
theorem f_6_165 : xFld 6 165 = some (9, 8) := by decide +kernel
theorem f_6_178 : xFld 6 178 = some (9, 11) := by decide +kernel
theorem f_6_199 : xFld 6 199 = some (6, 7) := by decide +kernel
theorem f_6_202 : xFld 6 202 = some (6, 9) := by decide +kernel
theorem f_7_11 : xFld 7 11 = some (7, 0) := by decide +kernel
theorem f_7_15 : xFld 7 15 = some (7, 1) := by decide +kernel
theorem f_7_18 : xFld 7 18 = some (7, 10) := by decide +kernel
theorem f_7_21 : xFld 7 21 = some (7, 11) := by decide +kernel
theorem f_7_27 : xFld 7 27 = some (7, 12) := by decide +kernel
theorem f_7_30 : xFld 7 30 = some (7, 13) := by decide +kernel
theorem f_7_33 : xFld 7 33 = some (7, 14) := by decide +kernel
theorem f_7_36 : xFld 7 36 = some (7, 16) := by decide +kernel
theorem f_7_39 : xFld 7 39 = some (7, 17) := by decide +kernel
theorem f_7_42 : xFld 7 42 = some (7, 18) := by decide +kernel
theorem f_7_45 : xFld 7 45 = some (7, 19) := by decide +kernel
theorem f_7_48 : xFld 7 48 = some (7, 6) := by decide +kernel
theorem f_7_52 : xFld 7 52 = some (7, 3) := by decide +kernel
theorem f_7_55 : xFld 7 55 = some (7, 4) := by decide +kernel
theorem f_7_59 : xFld 7 59 = some (7, 5) := by decide +kernel
theorem f_7_62 : xFld 7 62 = some (7, 15) := by decide +kernel
theorem f_7_65 : xFld 7 65 = some (7, 7) := by decide +kernel
theorem f_7_86 : xFld 7 86 = some (7, 2) := by decide +kernel
theorem f_7_89 : xFld 7 89 = some (7, 9) := by decide +kernel
theorem f_7_92 : xFld 7 92 = some (7, 8) := by decide +kernel
theorem f_8_7 : xFld 8 7 = some (8, 0) := by decide +kernel
theorem f_8_13 : xFld 8 13 = some (8, 1) := by decide +kernel
theorem f_9_9 : xFld 9 9 = some (9, 1) := by decide +kernel
theorem f_9_13 : xFld 9 13 = some (9, 2) := by decide +kernel
theorem f_9_17 : xFld 9 17 = some (9, 7) := by decide +kernel
theorem f_9_20 : xFld 9 20 = some (9, 9) := by decide +kernel
theorem f_9_23 : xFld 9 23 = some (9, 10) := by decide +kernel
theorem f_9_26 : xFld 9 26 = some (9, 12) := by decide +kernel
theorem f_9_29 : xFld 9 29 = some (9, 13) := by decide +kernel
theorem f_9_32 : xFld 9 32 = some (9, 14) := by decide +kernel
theorem f_9_35 : xFld 9 35 = some (9, 0) := by decide +kernel
theorem f_9_39 : xFld 9 39 = some (9, 3) := by decide +kernel
theorem f_9_43 : xFld 9 43 = some (9, 4) := by decide +kernel
theorem f_9_46 : xFld 9 46 = some (9, 5) := by decide +kernel
theorem f_9_49 : xFld 9 49 = some (9, 6) := by decide +kernel
theorem f_9_52 : xFld 9 52 = some (9, 8) := by decide +kernel
theorem f_9_55 : xFld 9 55 = some (9, 11) := by decide +kernel
theorem f_10_9 : xFld 10 9 = some (10, 0) := by decide +kernel
theorem f_10_13 : xFld 10 13 = some (10, 3) := by decide +kernel
theorem f_10_20 : xFld 10 20 = some (10, 4) := by decide +kernel
theorem f_10_24 : xFld 10 24 = some (10, 5) := by decide +kernel
theorem f_10_30 : xFld 10 30 = some (10, 6) := by decide +kernel
theorem f_10_37 : xFld 10 37 = some (10, 7) := by decide +kernel
theorem f_10_41 : xFld 10 41 = some (10, 8) := by decide +kernel
theorem f_10_48 : xFld 10 48 = some (10, 9) := by decide +kernel
theorem f_10_55 : xFld 10 55 = some (10, 10) := by decide +kernel
theorem f_10_62 : xFld 10 62 = some (10, 11) := by decide +kernel
theorem f_10_69 : xFld 10 69 = some (10, 12) := by decide +kernel
theorem f_10_76 : xFld 10 76 = some (10, 13) := by decide +kernel
theorem f_10_83 : xFld 10 83 = some (10, 14) := by decide +kernel
theorem f_10_90 : xFld 10 90 = some (10, 15) := by decide +kernel
theorem f_10_98 : xFld 10 98 = some (10, 1) := by decide +kernel
theorem f_10_109 : xFld 10 109 = some (6, 10) := by decide +kernel
theorem f_10_112 : xFld 10 112 = some (10, 2) := by decide +kernel
theorem f_10_115 : xFld 10 115 = some (6, 11) := by decide +kernel
theorem f_10_122 : xFld 10 122 = some (0, 4) := by decide +kernel
theorem f_10_126 : xFld 10 126 = some (9, 0) := by decide +kernel
theorem f_10_167 : xFld 10 167 = some (5, 5) := by decide +kernel
theorem f_10_213 : xFld 10 213 = some (9, 3) := by decide +kernel
theorem f_10_254 : xFld 10 254 = some (9, 8) := by decide +kernel
theorem f_10_266 : xFld 10 266 = some (2, 3) := by decide +kernel
theorem f_10_269 : xFld 10 269 = some (2, 4) := by decide +kernel
theorem f_10_272 : xFld 10 272 = some (7, 2) := by decide +kernel
theorem f_10_287 : xFld 10 287 = some (8, 1) := by decide +kernel
theorem f_10_294 : xFld 10 294 = some (9, 7) := by decide +kernel
theorem f_10_329 : xFld 10 329 = some (1, 11) := by decide +kernel
theorem f_10_346 : xFld 10 346 = some (8, 0) := by decide +kernel
theorem f_10_353 : xFld 10 353 = some (0, 0) := by decide +kernel
theorem f_10_356 : xFld 10 356 = some (9, 5) := by decide +kernel
theorem f_10_359 : xFld 10 359 = some (0, 2) := by decide +kernel
theorem f_10_362 : xFld 10 362 = some (9, 11) := by decide +kernel
theorem f_10_365 : xFld 10 365 = some (0, 1) := by decide +kernel
theorem f_11_7 : xFld 11 7 = some (11, 0) := by decide +kernel
theorem f_11_13 : xFld 11 13 = some (11, 1) := by decide +kernel
theorem f_11_16 : xFld 11 16 = some (11, 5) := by decide +kernel
theorem f_11_20 : xFld 11 20 = some (11, 11) := by decide +kernel
theorem f_11_24 : xFld 11 24 = some (11, 12) := by decide +kernel
theorem f_11_27 : xFld 11 27 = some (11, 13) := by decide +kernel
theorem f_11_30 : xFld 11 30 = some (11, 14) := by decide +kernel
theorem f_11_33 : xFld 11 33 = some (11, 15) := by decide +kernel
theorem f_11_36 : xFld 11 36 = some (11, 16) := by decide +kernel
theorem f_11_40 : xFld 11 40 = some (11, 17) := by decide +kernel
theorem f_11_43 : xFld 11 43 = some (11, 18) := by decide +kernel
theorem f_11_46 : xFld 11 46 = some (11, 19) := by decide +kernel
theorem f_11_50 : xFld 11 50 = some (11, 20) := by decide +kernel
theorem f_11_53 : xFld 11 53 = some (11, 21) := by decide +kernel
theorem f_11_56 : xFld 11 56 = some (11, 22) := by decide +kernel
theorem f_11_59 : xFld 11 59 = some (11, 23) := by decide +kernel
theorem f_11_62 : xFld 11 62 = some (11, 24) := by decide +kernel
theorem f_11_65 : xFld 11 65 = some (11, 25) := by decide +kernel
theorem f_11_68 : xFld 11 68 = some (11, 26) := by decide +kernel
theorem f_11_71 : xFld 11 71 = some (11, 27) := by decide +kernel
theorem f_11_74 : xFld 11 74 = some (11, 28) := by decide +kernel
theorem f_11_77 : xFld 11 77 = some (11, 32) := by decide +kernel
theorem f_11_80 : xFld 11 80 = some (11, 33) := by decide +kernel
theorem f_11_83 : xFld 11 83 = some (11, 35) := by decide +kernel
theorem f_11_86 : xFld 11 86 = some (11, 36) := by decide +kernel
theorem f_11_89 : xFld 11 89 = some (11, 37) := by decide +kernel
theorem f_11_92 : xFld 11 92 = some (11, 38) := by decide +kernel
theorem f_11_95 : xFld 11 95 = some (11, 39) := by decide +kernel
theorem f_11_98 : xFld 11 98 = some (11, 40) := by decide +kernel
theorem f_11_101 : xFld 11 101 = some (11, 41) := by decide +kernel
theorem f_11_104 : xFld 11 104 = some (11, 42) := by decide +kernel
theorem f_11_107 : xFld 11 107 = some (11, 43) := by decide +kernel
theorem f_11_110 : xFld 11 110 = some (11, 48) := by decide +kernel
theorem f_11_113 : xFld 11 113 = some (11, 49) := by decide +kernel
theorem f_11_116 : xFld 11 116 = some (11, 50) := by decide +kernel
theorem f_11_119 : xFld 11 119 = some (11, 51) := by decide +kernel
theorem f_11_122 : xFld 11 122 = some (11, 52) := by decide +kernel
theorem f_11_125 : xFld 11 125 = some (11, 55) := by decide +kernel
theorem f_11_128 : xFld 11 128 = some (11, 56) := by decide +kernel
theorem f_11_131 : xFld 11 131 = some (11, 57) := by decide +kernel
theorem f_11_134 : xFld 11 134 = some (11, 58) := by decide +kernel
theorem f_11_137 : xFld 11 137 = some (11, 60) := by decide +kernel
theorem f_11_140 : xFld 11 140 = some (11, 61) := by decide +kernel
theorem f_11_143 : xFld 11 143 = some (11, 62) := by decide +kernel
theorem f_11_146 : xFld 11 146 = some (11, 63) := by decide +kernel
theorem f_11_149 : xFld 11 149 = some (11, 64) := by decide +kernel
theorem f_11_152 : xFld 11 152 = some (11, 65) := by decide +kernel
theorem f_11_155 : xFld 11 155 = some (11, 66) := by decide +kernel
theorem f_11_158 : xFld 11 158 = some (11, 67) := by decide +kernel
theorem f_11_161 : xFld 11 161 = some (11, 68) := by decide +kernel
theorem f_11_164 : xFld 11 164 = some (11, 69) := by decide +kernel
theorem f_11_167 : xFld 11 167 = some (11, 73) := by decide +kernel
theorem f_11_170 : xFld 11 170 = some (11, 74) := by decide +kernel
theorem f_11_173 : xFld 11 173 = some (11, 75) := by decide +kernel
theorem f_11_176 : xFld 11 176 = some (11, 76) := by decide +kernel
theorem f_11_179 : xFld 11 179 = some (11, 77) := by decide +kernel
theorem f_11_182 : xFld 11 182 = some (11, 78) := by decide +kernel
theorem f_11_185 : xFld 11 185 = some (11, 79) := by decide +kernel
theorem f_11_188 : xFld 11 188 = some (11, 80) := by decide +kernel
theorem f_11_191 : xFld 11 191 = some (11, 81) := by decide +kernel
theorem f_11_194 : xFld 11 194 = some (11, 82) := by decide +kernel
theorem f_11_197 : xFld 11 197 = some (11, 83) := by decide +kernel
theorem f_11_200 : xFld 11 200 = some (11, 84) := by decide +kernel
theorem f_11_203 : xFld 11 203 = some (11, 85) := by decide +kernel
theorem f_11_206 : xFld 11 206 = some (11, 86) := by decide +kernel
theorem f_11_209 : xFld 11 209 = some (11, 87) := by decide +kernel
theorem f_11_212 : xFld 11 212 = some (11, 88) := by decide +kernel
theorem f_11_215 : xFld 11 215 = some (11, 89) := by decide +kernel
theorem f_11_224 : xFld 11 224 = some (11, 3) := by decide +kernel
theorem f_11_227 : xFld 11 227 = some (11, 4) := by decide +kernel
theorem f_11_244 : xFld 11 244 = some (11, 7) := by decide +kernel
theorem f_11_247 : xFld 11 247 = some (11, 6) := by decide +kernel
theorem f_11_254 : xFld 11 254 = some (11, 8) := by decide +kernel
theorem f_11_261 : xFld 11 261 = some (11, 10) := by decide +kernel
theorem f_11_272 : xFld 11 272 = some (11, 9) := by decide +kernel
theorem f_11_289 : xFld 11 289 = some (11, 31) := by decide +kernel
theorem f_11_292 : xFld 11 292 = some (11, 2) := by decide +kernel
theorem f_11_295 : xFld 11 295 = some (11, 30) := by decide +kernel
theorem f_11_304 : xFld 11 304 = some (11, 44) := by decide +kernel
theorem f_11_307 : xFld 11 307 = some (11, 46) := by decide +kernel
theorem f_11_310 : xFld 11 310 = some (11, 47) := by decide +kernel
theorem f_11_313 : xFld 11 313 = some (11, 54) := by decide +kernel
theorem f_11_352 : xFld 11 352 = some (11, 29) := by decide +kernel
theorem f_11_371 : xFld 11 371 = some (11, 34) := by decide +kernel
theorem f_11_377 : xFld 11 377 = some (11, 45) := by decide +kernel
theorem f_11_408 : xFld 11 408 = some (11, 53) := by decide +kernel
theorem f_11_439 : xFld 11 439 = some (11, 59) := by decide +kernel
theorem f_11_460 : xFld 11 460 = some (11, 70) := by decide +kernel
theorem f_11_467 : xFld 11 467 = some (11, 72) := by decide +kernel
theorem f_11_474 : xFld 11 474 = some (11, 71) := by decide +kernel
theorem ft_0_0 : xFt 0 0 = .int := rfl
theorem fn_0_0 : xFin 0 0 = false := rfl
theorem ft_0_1 : xFt 0 1 = .int := rfl
theorem fn_0_1 : xFin 0 1 = false := rfl
theorem ft_0_2 : xFt 0 2 = .int := rfl
theorem fn_0_2 : xFin 0 2 = false := rfl
theorem ft_0_3 : xFt 0 3 = .int := rfl
theorem fn_0_3 : xFin 0 3 = false := rfl
theorem ft_0_4 : xFt 0 4 = .boolean := rfl
theorem fn_0_4 : xFin 0 4 = false := rfl
theorem ft_0_5 : xFt 0 5 = .array .int := rfl
theorem ft_0_6 : xFt 0 6 = .array .int := rfl
theorem ft_0_7 : xFt 0 7 = .array .int := rfl
theorem ft_0_8 : xFt 0 8 = .array .int := rfl
theorem ft_0_9 : xFt 0 9 = .array .int := rfl
theorem ft_0_10 : xFt 0 10 = .array .int := rfl
theorem ft_0_11 : xFt 0 11 = .array .int := rfl
theorem ft_0_12 : xFt 0 12 = .array .int := rfl
theorem ft_1_0 : xFt 1 0 = .int := rfl
theorem fn_1_0 : xFin 1 0 = false := rfl
theorem ft_1_1 : xFt 1 1 = .int := rfl
theorem fn_1_1 : xFin 1 1 = false := rfl
theorem ft_1_2 : xFt 1 2 = .int := rfl
theorem fn_1_2 : xFin 1 2 = false := rfl
theorem ft_1_3 : xFt 1 3 = .array .int := rfl
theorem ft_1_4 : xFt 1 4 = .array .int := rfl
theorem ft_1_5 : xFt 1 5 = .array .int := rfl
theorem ft_1_6 : xFt 1 6 = .array .int := rfl
theorem ft_1_7 : xFt 1 7 = .array .int := rfl
theorem ft_1_8 : xFt 1 8 = .array .int := rfl
theorem ft_1_9 : xFt 1 9 = .array .int := rfl
theorem ft_1_10 : xFt 1 10 = .array .int := rfl
theorem ft_1_11 : xFt 1 11 = .int := rfl
theorem fn_1_11 : xFin 1 11 = false := rfl
theorem ft_1_12 : xFt 1 12 = .int := rfl
theorem fn_1_12 : xFin 1 12 = false := rfl
theorem ft_1_13 : xFt 1 13 = .int := rfl
theorem fn_1_13 : xFin 1 13 = false := rfl
theorem ft_1_14 : xFt 1 14 = .array .int := rfl
theorem ft_1_15 : xFt 1 15 = .array .int := rfl
theorem ft_1_16 : xFt 1 16 = .array .int := rfl
theorem ft_1_17 : xFt 1 17 = .array .int := rfl
theorem ft_2_0 : xFt 2 0 = .array .int := rfl
theorem ft_2_1 : xFt 2 1 = .array .int := rfl
theorem ft_2_2 : xFt 2 2 = .array .int := rfl
theorem ft_2_3 : xFt 2 3 = .int := rfl
theorem fn_2_3 : xFin 2 3 = false := rfl
theorem ft_2_4 : xFt 2 4 = .int := rfl
theorem fn_2_4 : xFin 2 4 = false := rfl
theorem ft_3_0 : xFt 3 0 = .array .int := rfl
theorem ft_3_1 : xFt 3 1 = .array .int := rfl
theorem ft_3_2 : xFt 3 2 = .array .int := rfl
theorem ft_4_0 : xFt 4 0 = .array .int := rfl
theorem ft_5_0 : xFt 5 0 = .int := rfl
theorem fn_5_0 : xFin 5 0 = false := rfl
theorem ft_5_1 : xFt 5 1 = .int := rfl
theorem fn_5_1 : xFin 5 1 = false := rfl
theorem ft_5_2 : xFt 5 2 = .array .int := rfl
theorem ft_5_3 : xFt 5 3 = .array .int := rfl
theorem ft_5_4 : xFt 5 4 = .array .int := rfl
theorem ft_5_5 : xFt 5 5 = .int := rfl
theorem fn_5_5 : xFin 5 5 = false := rfl
theorem ft_5_6 : xFt 5 6 = .int := rfl
theorem fn_5_6 : xFin 5 6 = false := rfl
theorem ft_5_7 : xFt 5 7 = .int := rfl
theorem fn_5_7 : xFin 5 7 = false := rfl
theorem ft_5_8 : xFt 5 8 = .int := rfl
theorem fn_5_8 : xFin 5 8 = false := rfl
theorem ft_5_9 : xFt 5 9 = .array .int := rfl
theorem ft_5_10 : xFt 5 10 = .array .int := rfl
theorem ft_5_11 : xFt 5 11 = .array .int := rfl
theorem ft_6_0 : xFt 6 0 = .array .long := rfl
theorem ft_6_1 : xFt 6 1 = .array .byte := rfl
theorem fn_6_1 : xFin 6 1 = false := rfl
theorem ft_6_2 : xFt 6 2 = .int := rfl
theorem fn_6_2 : xFin 6 2 = false := rfl
theorem ft_6_3 : xFt 6 3 = .object "HeavierRow$Street" := rfl
theorem fn_6_3 : xFin 6 3 = false := rfl
theorem ft_6_4 : xFt 6 4 = .int := rfl
theorem fn_6_4 : xFin 6 4 = false := rfl
theorem ft_6_5 : xFt 6 5 = .int := rfl
theorem fn_6_5 : xFin 6 5 = false := rfl
theorem ft_6_6 : xFt 6 6 = .int := rfl
theorem fn_6_6 : xFin 6 6 = false := rfl
theorem ft_6_7 : xFt 6 7 = .int := rfl
theorem fn_6_7 : xFin 6 7 = false := rfl
theorem ft_6_8 : xFt 6 8 = .long := rfl
theorem fn_6_8 : xFin 6 8 = false := rfl
theorem ft_6_9 : xFt 6 9 = .int := rfl
theorem fn_6_9 : xFin 6 9 = false := rfl
theorem ft_6_10 : xFt 6 10 = .int := rfl
theorem fn_6_10 : xFin 6 10 = false := rfl
theorem ft_6_11 : xFt 6 11 = .int := rfl
theorem fn_6_11 : xFin 6 11 = false := rfl
theorem ft_7_0 : xFt 7 0 = .array .int := rfl
theorem ft_7_1 : xFt 7 1 = .array .int := rfl
theorem ft_7_2 : xFt 7 2 = .int := rfl
theorem fn_7_2 : xFin 7 2 = false := rfl
theorem ft_7_3 : xFt 7 3 = .int := rfl
theorem fn_7_3 : xFin 7 3 = false := rfl
theorem ft_7_4 : xFt 7 4 = .boolean := rfl
theorem fn_7_4 : xFin 7 4 = false := rfl
theorem ft_7_5 : xFt 7 5 = .int := rfl
theorem fn_7_5 : xFin 7 5 = false := rfl
theorem ft_7_6 : xFt 7 6 = .int := rfl
theorem fn_7_6 : xFin 7 6 = false := rfl
theorem ft_7_7 : xFt 7 7 = .boolean := rfl
theorem fn_7_7 : xFin 7 7 = false := rfl
theorem ft_7_8 : xFt 7 8 = .int := rfl
theorem fn_7_8 : xFin 7 8 = false := rfl
theorem ft_7_9 : xFt 7 9 = .int := rfl
theorem fn_7_9 : xFin 7 9 = false := rfl
theorem ft_7_10 : xFt 7 10 = .array .int := rfl
theorem ft_7_11 : xFt 7 11 = .array .long := rfl
theorem ft_7_12 : xFt 7 12 = .array .long := rfl
theorem ft_7_13 : xFt 7 13 = .array .int := rfl
theorem ft_7_14 : xFt 7 14 = .array .int := rfl
theorem ft_7_15 : xFt 7 15 = .int := rfl
theorem fn_7_15 : xFin 7 15 = false := rfl
theorem ft_7_16 : xFt 7 16 = .array .int := rfl
theorem ft_7_17 : xFt 7 17 = .array .long := rfl
theorem ft_7_18 : xFt 7 18 = .array .int := rfl
theorem ft_7_19 : xFt 7 19 = .array .int := rfl
theorem ft_8_0 : xFt 8 0 = .array .int := rfl
theorem ft_8_1 : xFt 8 1 = .int := rfl
theorem fn_8_1 : xFin 8 1 = false := rfl
theorem ft_9_0 : xFt 9 0 = .int := rfl
theorem fn_9_0 : xFin 9 0 = false := rfl
theorem ft_9_1 : xFt 9 1 = .array .long := rfl
theorem ft_9_2 : xFt 9 2 = .array .int := rfl
theorem ft_9_3 : xFt 9 3 = .boolean := rfl
theorem fn_9_3 : xFin 9 3 = false := rfl
theorem ft_9_4 : xFt 9 4 = .boolean := rfl
theorem fn_9_4 : xFin 9 4 = false := rfl
theorem ft_9_5 : xFt 9 5 = .int := rfl
theorem fn_9_5 : xFin 9 5 = false := rfl
theorem ft_9_6 : xFt 9 6 = .int := rfl
theorem fn_9_6 : xFin 9 6 = false := rfl
theorem ft_9_7 : xFt 9 7 = .array .int := rfl
theorem ft_9_8 : xFt 9 8 = .int := rfl
theorem fn_9_8 : xFin 9 8 = false := rfl
theorem ft_9_9 : xFt 9 9 = .array .long := rfl
theorem ft_9_10 : xFt 9 10 = .array .int := rfl
theorem ft_9_11 : xFt 9 11 = .int := rfl
theorem fn_9_11 : xFin 9 11 = false := rfl
theorem ft_9_12 : xFt 9 12 = .array .int := rfl
theorem ft_9_13 : xFt 9 13 = .array .int := rfl
theorem ft_9_14 : xFt 9 14 = .array .int := rfl
theorem ft_10_0 : xFt 10 0 = .array .byte := rfl
theorem ft_10_1 : xFt 10 1 = .int := rfl
theorem fn_10_1 : xFin 10 1 = false := rfl
theorem ft_10_2 : xFt 10 2 = .int := rfl
theorem fn_10_2 : xFin 10 2 = false := rfl
theorem ft_10_3 : xFt 10 3 = .int := rfl
theorem fn_10_3 : xFin 10 3 = false := rfl
theorem ft_10_4 : xFt 10 4 = .object "HeavierRow$Street" := rfl
theorem fn_10_4 : xFin 10 4 = false := rfl
theorem ft_10_5 : xFt 10 5 = .object "HeavierRow$Street" := rfl
theorem fn_10_5 : xFin 10 5 = false := rfl
theorem ft_10_6 : xFt 10 6 = .object "HeavierRow$Reader" := rfl
theorem ft_10_7 : xFt 10 7 = .object "HeavierRow$Book" := rfl
theorem ft_10_8 : xFt 10 8 = .array (.object "HeavierRow$Book") := rfl
theorem ft_10_9 : xFt 10 9 = .object "HeavierRow$Orders" := rfl
theorem ft_10_10 : xFt 10 10 = .object "HeavierRow$Search" := rfl
theorem ft_10_11 : xFt 10 11 = .object "HeavierRow$Once" := rfl
theorem ft_10_12 : xFt 10 12 = .object "HeavierRow$Liar" := rfl
theorem ft_10_13 : xFt 10 13 = .object "HeavierRow$Judge" := rfl
theorem ft_10_14 : xFt 10 14 = .object "HeavierRow$Guesses" := rfl
theorem ft_10_15 : xFt 10 15 = .object "HeavierRow$Shelf" := rfl
theorem ft_11_0 : xFt 11 0 = .array .byte := rfl
theorem ft_11_1 : xFt 11 1 = .array .byte := rfl
theorem ft_11_2 : xFt 11 2 = .int := rfl
theorem fn_11_2 : xFin 11 2 = false := rfl
theorem ft_11_3 : xFt 11 3 = .int := rfl
theorem fn_11_3 : xFin 11 3 = false := rfl
theorem ft_11_4 : xFt 11 4 = .int := rfl
theorem fn_11_4 : xFin 11 4 = false := rfl
theorem ft_11_5 : xFt 11 5 = .int := rfl
theorem fn_11_5 : xFin 11 5 = false := rfl
theorem ft_11_6 : xFt 11 6 = .int := rfl
theorem fn_11_6 : xFin 11 6 = false := rfl
theorem ft_11_7 : xFt 11 7 = .int := rfl
theorem fn_11_7 : xFin 11 7 = false := rfl
theorem ft_11_8 : xFt 11 8 = .int := rfl
theorem fn_11_8 : xFin 11 8 = false := rfl
theorem ft_11_9 : xFt 11 9 = .int := rfl
theorem fn_11_9 : xFin 11 9 = false := rfl
theorem ft_11_10 : xFt 11 10 = .long := rfl
theorem fn_11_10 : xFin 11 10 = false := rfl
theorem ft_11_11 : xFt 11 11 = .array .int := rfl
theorem ft_11_12 : xFt 11 12 = .array .int := rfl
theorem ft_11_13 : xFt 11 13 = .array .int := rfl
theorem ft_11_14 : xFt 11 14 = .array .int := rfl
theorem ft_11_15 : xFt 11 15 = .array .int := rfl
theorem ft_11_16 : xFt 11 16 = .array .boolean := rfl
theorem ft_11_17 : xFt 11 17 = .array .boolean := rfl
theorem ft_11_18 : xFt 11 18 = .array .boolean := rfl
theorem ft_11_19 : xFt 11 19 = .array .long := rfl
theorem ft_11_20 : xFt 11 20 = .array .long := rfl
theorem ft_11_21 : xFt 11 21 = .array .int := rfl
theorem ft_11_22 : xFt 11 22 = .array .int := rfl
theorem ft_11_23 : xFt 11 23 = .array .int := rfl
theorem ft_11_24 : xFt 11 24 = .array .int := rfl
theorem ft_11_25 : xFt 11 25 = .array .int := rfl
theorem ft_11_26 : xFt 11 26 = .array .int := rfl
theorem ft_11_27 : xFt 11 27 = .array .int := rfl
theorem ft_11_28 : xFt 11 28 = .array .int := rfl
theorem ft_11_29 : xFt 11 29 = .int := rfl
theorem fn_11_29 : xFin 11 29 = false := rfl
theorem ft_11_30 : xFt 11 30 = .int := rfl
theorem fn_11_30 : xFin 11 30 = false := rfl
theorem ft_11_31 : xFt 11 31 = .int := rfl
theorem fn_11_31 : xFin 11 31 = false := rfl
theorem ft_11_32 : xFt 11 32 = .array .int := rfl
theorem ft_11_33 : xFt 11 33 = .array .int := rfl
theorem ft_11_34 : xFt 11 34 = .int := rfl
theorem fn_11_34 : xFin 11 34 = false := rfl
theorem ft_11_35 : xFt 11 35 = .array .int := rfl
theorem ft_11_36 : xFt 11 36 = .array .int := rfl
theorem ft_11_37 : xFt 11 37 = .array .int := rfl
theorem ft_11_38 : xFt 11 38 = .array .int := rfl
theorem ft_11_39 : xFt 11 39 = .array .int := rfl
theorem ft_11_40 : xFt 11 40 = .array .int := rfl
theorem ft_11_41 : xFt 11 41 = .array .int := rfl
theorem ft_11_42 : xFt 11 42 = .array .int := rfl
theorem ft_11_43 : xFt 11 43 = .array .int := rfl
theorem ft_11_44 : xFt 11 44 = .int := rfl
theorem fn_11_44 : xFin 11 44 = false := rfl
theorem ft_11_45 : xFt 11 45 = .int := rfl
theorem fn_11_45 : xFin 11 45 = false := rfl
theorem ft_11_46 : xFt 11 46 = .int := rfl
theorem fn_11_46 : xFin 11 46 = false := rfl
theorem ft_11_47 : xFt 11 47 = .int := rfl
theorem fn_11_47 : xFin 11 47 = false := rfl
theorem ft_11_48 : xFt 11 48 = .array .int := rfl
theorem ft_11_49 : xFt 11 49 = .array .int := rfl
theorem ft_11_50 : xFt 11 50 = .array .int := rfl
theorem ft_11_51 : xFt 11 51 = .array .int := rfl
theorem ft_11_52 : xFt 11 52 = .array .int := rfl
theorem ft_11_53 : xFt 11 53 = .int := rfl
theorem fn_11_53 : xFin 11 53 = false := rfl
theorem ft_11_54 : xFt 11 54 = .int := rfl
theorem fn_11_54 : xFin 11 54 = false := rfl
theorem ft_11_55 : xFt 11 55 = .array .int := rfl
theorem ft_11_56 : xFt 11 56 = .array .int := rfl
theorem ft_11_57 : xFt 11 57 = .array .long := rfl
theorem ft_11_58 : xFt 11 58 = .array .long := rfl
theorem ft_11_59 : xFt 11 59 = .int := rfl
theorem fn_11_59 : xFin 11 59 = false := rfl
theorem ft_11_60 : xFt 11 60 = .array .long := rfl
theorem ft_11_61 : xFt 11 61 = .array .long := rfl
theorem ft_11_62 : xFt 11 62 = .array .int := rfl
theorem ft_11_63 : xFt 11 63 = .array .long := rfl
theorem ft_11_64 : xFt 11 64 = .array .long := rfl
theorem ft_11_65 : xFt 11 65 = .array .int := rfl
theorem ft_11_66 : xFt 11 66 = .array .int := rfl
theorem ft_11_67 : xFt 11 67 = .array .int := rfl
theorem ft_11_68 : xFt 11 68 = .array .int := rfl
theorem ft_11_69 : xFt 11 69 = .array .int := rfl
theorem ft_11_70 : xFt 11 70 = .int := rfl
theorem fn_11_70 : xFin 11 70 = false := rfl
theorem ft_11_71 : xFt 11 71 = .int := rfl
theorem fn_11_71 : xFin 11 71 = false := rfl
theorem ft_11_72 : xFt 11 72 = .boolean := rfl
theorem fn_11_72 : xFin 11 72 = false := rfl
theorem ft_11_73 : xFt 11 73 = .array .boolean := rfl
theorem ft_11_74 : xFt 11 74 = .array .int := rfl
theorem ft_11_75 : xFt 11 75 = .array .int := rfl
theorem ft_11_76 : xFt 11 76 = .array .int := rfl
theorem ft_11_77 : xFt 11 77 = .array .int := rfl
theorem ft_11_78 : xFt 11 78 = .array .int := rfl
theorem ft_11_79 : xFt 11 79 = .array .int := rfl
theorem ft_11_80 : xFt 11 80 = .array .int := rfl
theorem ft_11_81 : xFt 11 81 = .array .boolean := rfl
theorem ft_11_82 : xFt 11 82 = .array .int := rfl
theorem ft_11_83 : xFt 11 83 = .array .int := rfl
theorem ft_11_84 : xFt 11 84 = .array .int := rfl
theorem ft_11_85 : xFt 11 85 = .array .int := rfl
theorem ft_11_86 : xFt 11 86 = .array .int := rfl
theorem ft_11_87 : xFt 11 87 = .array .int := rfl
theorem ft_11_88 : xFt 11 88 = .array .int := rfl
theorem ft_11_89 : xFt 11 89 = .array .int := rfl
theorem s_0 : xShp 0 = .inr 10 := rfl
theorem s_1 : xShp 1 = .inl (.byte, 1200) := rfl
theorem s_2 : xShp 2 = .inr 9 := rfl
theorem s_3 : xShp 3 = .inl (.long, 5) := rfl
theorem s_4 : xShp 4 = .inl (.int, 5) := rfl
theorem s_5 : xShp 5 = .inl (.int, 5) := rfl
theorem s_6 : xShp 6 = .inl (.long, 3) := rfl
theorem s_7 : xShp 7 = .inl (.int, 3) := rfl
theorem s_8 : xShp 8 = .inl (.int, 60) := rfl
theorem s_9 : xShp 9 = .inl (.int, 60) := rfl
theorem s_10 : xShp 10 = .inl (.int, 180) := rfl
theorem s_11 : xShp 11 = .inr 9 := rfl
theorem s_12 : xShp 12 = .inl (.long, 5) := rfl
theorem s_13 : xShp 13 = .inl (.int, 5) := rfl
theorem s_14 : xShp 14 = .inl (.int, 5) := rfl
theorem s_15 : xShp 15 = .inl (.long, 3) := rfl
theorem s_16 : xShp 16 = .inl (.int, 3) := rfl
theorem s_17 : xShp 17 = .inl (.int, 60) := rfl
theorem s_18 : xShp 18 = .inl (.int, 60) := rfl
theorem s_19 : xShp 19 = .inl (.int, 180) := rfl
theorem s_20 : xShp 20 = .inr 6 := rfl
theorem s_21 : xShp 21 = .inl (.long, 7) := rfl
theorem s_22 : xShp 22 = .inl (.byte, 0) := rfl
theorem s_23 : xShp 23 = .inr 9 := rfl
theorem s_24 : xShp 24 = .inl (.long, 5) := rfl
theorem s_25 : xShp 25 = .inl (.int, 5) := rfl
theorem s_26 : xShp 26 = .inl (.int, 5) := rfl
theorem s_27 : xShp 27 = .inl (.long, 3) := rfl
theorem s_28 : xShp 28 = .inl (.int, 3) := rfl
theorem s_29 : xShp 29 = .inl (.int, 60) := rfl
theorem s_30 : xShp 30 = .inl (.int, 60) := rfl
theorem s_31 : xShp 31 = .inl (.int, 180) := rfl
theorem s_32 : xShp 32 = .inr 0 := rfl
theorem s_33 : xShp 33 = .inl (.int, 60) := rfl
theorem s_34 : xShp 34 = .inl (.int, 60) := rfl
theorem s_35 : xShp 35 = .inl (.int, 60) := rfl
theorem s_36 : xShp 36 = .inl (.int, 60) := rfl
theorem s_37 : xShp 37 = .inl (.int, 60) := rfl
theorem s_38 : xShp 38 = .inl (.int, 60) := rfl
theorem s_39 : xShp 39 = .inl (.int, 40) := rfl
theorem s_40 : xShp 40 = .inl (.int, 5) := rfl
theorem s_41 : xShp 41 = .inl (.object RX0, 3) := rfl
theorem s_42 : xShp 42 = .inr 0 := rfl
theorem s_43 : xShp 43 = .inl (.int, 60) := rfl
theorem s_44 : xShp 44 = .inl (.int, 60) := rfl
theorem s_45 : xShp 45 = .inl (.int, 60) := rfl
theorem s_46 : xShp 46 = .inl (.int, 60) := rfl
theorem s_47 : xShp 47 = .inl (.int, 60) := rfl
theorem s_48 : xShp 48 = .inl (.int, 60) := rfl
theorem s_49 : xShp 49 = .inl (.int, 40) := rfl
theorem s_50 : xShp 50 = .inl (.int, 5) := rfl
theorem s_51 : xShp 51 = .inr 0 := rfl
theorem s_52 : xShp 52 = .inl (.int, 60) := rfl
theorem s_53 : xShp 53 = .inl (.int, 60) := rfl
theorem s_54 : xShp 54 = .inl (.int, 60) := rfl
theorem s_55 : xShp 55 = .inl (.int, 60) := rfl
theorem s_56 : xShp 56 = .inl (.int, 60) := rfl
theorem s_57 : xShp 57 = .inl (.int, 60) := rfl
theorem s_58 : xShp 58 = .inl (.int, 40) := rfl
theorem s_59 : xShp 59 = .inl (.int, 5) := rfl
theorem s_60 : xShp 60 = .inr 0 := rfl
theorem s_61 : xShp 61 = .inl (.int, 60) := rfl
theorem s_62 : xShp 62 = .inl (.int, 60) := rfl
theorem s_63 : xShp 63 = .inl (.int, 60) := rfl
theorem s_64 : xShp 64 = .inl (.int, 60) := rfl
theorem s_65 : xShp 65 = .inl (.int, 60) := rfl
theorem s_66 : xShp 66 = .inl (.int, 60) := rfl
theorem s_67 : xShp 67 = .inl (.int, 40) := rfl
theorem s_68 : xShp 68 = .inl (.int, 5) := rfl
theorem s_69 : xShp 69 = .inr 5 := rfl
theorem s_70 : xShp 70 = .inl (.int, 541) := rfl
theorem s_71 : xShp 71 = .inl (.int, 541) := rfl
theorem s_72 : xShp 72 = .inl (.int, 541) := rfl
theorem s_73 : xShp 73 = .inl (.int, 30) := rfl
theorem s_74 : xShp 74 = .inl (.int, 32) := rfl
theorem s_75 : xShp 75 = .inl (.int, 5) := rfl
theorem s_76 : xShp 76 = .inr 7 := rfl
theorem s_77 : xShp 77 = .inl (.int, 120) := rfl
theorem s_78 : xShp 78 = .inl (.int, 120) := rfl
theorem s_79 : xShp 79 = .inl (.int, 120) := rfl
theorem s_80 : xShp 80 = .inl (.long, 240) := rfl
theorem s_81 : xShp 81 = .inl (.long, 60) := rfl
theorem s_82 : xShp 82 = .inl (.int, 10) := rfl
theorem s_83 : xShp 83 = .inl (.int, 1024) := rfl
theorem s_84 : xShp 84 = .inl (.int, 4096) := rfl
theorem s_85 : xShp 85 = .inl (.long, 8192) := rfl
theorem s_86 : xShp 86 = .inl (.int, 4096) := rfl
theorem s_87 : xShp 87 = .inl (.int, 4096) := rfl
theorem s_88 : xShp 88 = .inr 4 := rfl
theorem s_89 : xShp 89 = .inl (.int, 1024) := rfl
theorem s_90 : xShp 90 = .inr 3 := rfl
theorem s_91 : xShp 91 = .inl (.int, 4096) := rfl
theorem s_92 : xShp 92 = .inl (.int, 64) := rfl
theorem s_93 : xShp 93 = .inl (.int, 30) := rfl
theorem s_94 : xShp 94 = .inr 2 := rfl
theorem s_95 : xShp 95 = .inl (.int, 181) := rfl
theorem s_96 : xShp 96 = .inl (.int, 181) := rfl
theorem s_97 : xShp 97 = .inl (.int, 181) := rfl
theorem s_98 : xShp 98 = .inr 1 := rfl
theorem s_99 : xShp 99 = .inl (.int, 60) := rfl
theorem s_100 : xShp 100 = .inl (.int, 60) := rfl
theorem s_101 : xShp 101 = .inl (.int, 60) := rfl
theorem s_102 : xShp 102 = .inl (.int, 32) := rfl
theorem s_103 : xShp 103 = .inl (.int, 5) := rfl
theorem s_104 : xShp 104 = .inl (.int, 5) := rfl
theorem s_105 : xShp 105 = .inl (.int, 5) := rfl
theorem s_106 : xShp 106 = .inl (.int, 5) := rfl
theorem s_107 : xShp 107 = .inl (.int, 90) := rfl
theorem s_108 : xShp 108 = .inl (.int, 90) := rfl
theorem s_109 : xShp 109 = .inl (.int, 90) := rfl
theorem s_110 : xShp 110 = .inl (.int, 90) := rfl
theorem s_111 : xShp 111 = .inr 8 := rfl
theorem s_112 : xShp 112 = .inl (.int, 24) := rfl
theorem s_113 : xShp 113 = .inr 11 := rfl
theorem s_114 : xShp 114 = .inl (.byte, 1220) := rfl
theorem s_115 : xShp 115 = .inl (.byte, 1200) := rfl
theorem s_116 : xShp 116 = .inl (.int, 2) := rfl
theorem s_117 : xShp 117 = .inl (.int, 2) := rfl
theorem s_118 : xShp 118 = .inl (.int, 2) := rfl
theorem s_119 : xShp 119 = .inl (.int, 10) := rfl
theorem s_120 : xShp 120 = .inl (.int, 10) := rfl
theorem s_121 : xShp 121 = .inl (.boolean, 2) := rfl
theorem s_122 : xShp 122 = .inl (.boolean, 2) := rfl
theorem s_123 : xShp 123 = .inl (.boolean, 2) := rfl
theorem s_124 : xShp 124 = .inl (.long, 10) := rfl
theorem s_125 : xShp 125 = .inl (.long, 6) := rfl
theorem s_126 : xShp 126 = .inl (.int, 2) := rfl
theorem s_127 : xShp 127 = .inl (.int, 2) := rfl
theorem s_128 : xShp 128 = .inl (.int, 6) := rfl
theorem s_129 : xShp 129 = .inl (.int, 120) := rfl
theorem s_130 : xShp 130 = .inl (.int, 120) := rfl
theorem s_131 : xShp 131 = .inl (.int, 360) := rfl
theorem s_132 : xShp 132 = .inl (.int, 12) := rfl
theorem s_133 : xShp 133 = .inl (.int, 12) := rfl
theorem s_134 : xShp 134 = .inl (.int, 2705) := rfl
theorem s_135 : xShp 135 = .inl (.int, 5) := rfl
theorem s_136 : xShp 136 = .inl (.int, 60) := rfl
theorem s_137 : xShp 137 = .inl (.int, 60) := rfl
theorem s_138 : xShp 138 = .inl (.int, 60) := rfl
theorem s_139 : xShp 139 = .inl (.int, 60) := rfl
theorem s_140 : xShp 140 = .inl (.int, 60) := rfl
theorem s_141 : xShp 141 = .inl (.int, 40) := rfl
theorem s_142 : xShp 142 = .inl (.int, 40) := rfl
theorem s_143 : xShp 143 = .inl (.int, 5) := rfl
theorem s_144 : xShp 144 = .inl (.int, 5) := rfl
theorem s_145 : xShp 145 = .inl (.int, 541) := rfl
theorem s_146 : xShp 146 = .inl (.int, 541) := rfl
theorem s_147 : xShp 147 = .inl (.int, 541) := rfl
theorem s_148 : xShp 148 = .inl (.int, 541) := rfl
theorem s_149 : xShp 149 = .inl (.int, 25) := rfl
theorem s_150 : xShp 150 = .inl (.int, 10) := rfl
theorem s_151 : xShp 151 = .inl (.int, 10) := rfl
theorem s_152 : xShp 152 = .inl (.long, 30) := rfl
theorem s_153 : xShp 153 = .inl (.long, 30) := rfl
theorem s_154 : xShp 154 = .inl (.long, 16384) := rfl
theorem s_155 : xShp 155 = .inl (.long, 16384) := rfl
theorem s_156 : xShp 156 = .inl (.int, 16384) := rfl
theorem s_157 : xShp 157 = .inl (.long, 12) := rfl
theorem s_158 : xShp 158 = .inl (.long, 12) := rfl
theorem s_159 : xShp 159 = .inl (.int, 12) := rfl
theorem s_160 : xShp 160 = .inl (.int, 12) := rfl
theorem s_161 : xShp 161 = .inl (.int, 12) := rfl
theorem s_162 : xShp 162 = .inl (.int, 12) := rfl
theorem s_163 : xShp 163 = .inl (.int, 12) := rfl
theorem s_164 : xShp 164 = .inl (.boolean, 1024) := rfl
theorem s_165 : xShp 165 = .inl (.int, 729) := rfl
theorem s_166 : xShp 166 = .inl (.int, 5) := rfl
theorem s_167 : xShp 167 = .inl (.int, 5) := rfl
theorem s_168 : xShp 168 = .inl (.int, 5) := rfl
theorem s_169 : xShp 169 = .inl (.int, 5) := rfl
theorem s_170 : xShp 170 = .inl (.int, 3) := rfl
theorem s_171 : xShp 171 = .inl (.int, 8) := rfl
theorem s_172 : xShp 172 = .inl (.boolean, 1300) := rfl
theorem s_173 : xShp 173 = .inl (.int, 7776) := rfl
theorem s_174 : xShp 174 = .inl (.int, 3) := rfl
theorem s_175 : xShp 175 = .inl (.int, 3) := rfl
theorem s_176 : xShp 176 = .inl (.int, 900) := rfl
theorem s_177 : xShp 177 = .inl (.int, 3) := rfl
theorem s_178 : xShp 178 = .inl (.int, 3) := rfl
theorem s_179 : xShp 179 = .inl (.int, 15) := rfl
theorem s_180 : xShp 180 = .inl (.int, 240) := rfl
theorem p_0_0 : xPtr 0 0 = some 1 := rfl
theorem p_0_6 : xPtr 0 6 = some 20 := rfl
theorem p_0_7 : xPtr 0 7 = some 32 := rfl
theorem p_0_8 : xPtr 0 8 = some 41 := rfl
theorem p_0_9 : xPtr 0 9 = some 69 := rfl
theorem p_0_10 : xPtr 0 10 = some 76 := rfl
theorem p_0_11 : xPtr 0 11 = some 88 := rfl
theorem p_0_12 : xPtr 0 12 = some 90 := rfl
theorem p_0_13 : xPtr 0 13 = some 94 := rfl
theorem p_0_14 : xPtr 0 14 = some 98 := rfl
theorem p_0_15 : xPtr 0 15 = some 111 := rfl
theorem p_2_1 : xPtr 2 1 = some 3 := rfl
theorem p_2_2 : xPtr 2 2 = some 4 := rfl
theorem p_2_7 : xPtr 2 7 = some 5 := rfl
theorem p_2_9 : xPtr 2 9 = some 6 := rfl
theorem p_2_10 : xPtr 2 10 = some 7 := rfl
theorem p_2_12 : xPtr 2 12 = some 8 := rfl
theorem p_2_13 : xPtr 2 13 = some 9 := rfl
theorem p_2_14 : xPtr 2 14 = some 10 := rfl
theorem p_11_1 : xPtr 11 1 = some 12 := rfl
theorem p_11_2 : xPtr 11 2 = some 13 := rfl
theorem p_11_7 : xPtr 11 7 = some 14 := rfl
theorem p_11_9 : xPtr 11 9 = some 15 := rfl
theorem p_11_10 : xPtr 11 10 = some 16 := rfl
theorem p_11_12 : xPtr 11 12 = some 17 := rfl
theorem p_11_13 : xPtr 11 13 = some 18 := rfl
theorem p_11_14 : xPtr 11 14 = some 19 := rfl
theorem p_20_0 : xPtr 20 0 = some 21 := rfl
theorem p_23_1 : xPtr 23 1 = some 24 := rfl
theorem p_23_2 : xPtr 23 2 = some 25 := rfl
theorem p_23_7 : xPtr 23 7 = some 26 := rfl
theorem p_23_9 : xPtr 23 9 = some 27 := rfl
theorem p_23_10 : xPtr 23 10 = some 28 := rfl
theorem p_23_12 : xPtr 23 12 = some 29 := rfl
theorem p_23_13 : xPtr 23 13 = some 30 := rfl
theorem p_23_14 : xPtr 23 14 = some 31 := rfl
theorem p_32_5 : xPtr 32 5 = some 33 := rfl
theorem p_32_6 : xPtr 32 6 = some 34 := rfl
theorem p_32_7 : xPtr 32 7 = some 35 := rfl
theorem p_32_8 : xPtr 32 8 = some 36 := rfl
theorem p_32_9 : xPtr 32 9 = some 37 := rfl
theorem p_32_10 : xPtr 32 10 = some 38 := rfl
theorem p_32_11 : xPtr 32 11 = some 39 := rfl
theorem p_32_12 : xPtr 32 12 = some 40 := rfl
theorem p_41_0 : xPtr 41 0 = some 42 := rfl
theorem p_41_1 : xPtr 41 1 = some 51 := rfl
theorem p_41_2 : xPtr 41 2 = some 60 := rfl
theorem p_42_5 : xPtr 42 5 = some 43 := rfl
theorem p_42_6 : xPtr 42 6 = some 44 := rfl
theorem p_42_7 : xPtr 42 7 = some 45 := rfl
theorem p_42_8 : xPtr 42 8 = some 46 := rfl
theorem p_42_9 : xPtr 42 9 = some 47 := rfl
theorem p_42_10 : xPtr 42 10 = some 48 := rfl
theorem p_42_11 : xPtr 42 11 = some 49 := rfl
theorem p_42_12 : xPtr 42 12 = some 50 := rfl
theorem p_51_5 : xPtr 51 5 = some 52 := rfl
theorem p_51_6 : xPtr 51 6 = some 53 := rfl
theorem p_51_7 : xPtr 51 7 = some 54 := rfl
theorem p_51_8 : xPtr 51 8 = some 55 := rfl
theorem p_51_9 : xPtr 51 9 = some 56 := rfl
theorem p_51_10 : xPtr 51 10 = some 57 := rfl
theorem p_51_11 : xPtr 51 11 = some 58 := rfl
theorem p_51_12 : xPtr 51 12 = some 59 := rfl
theorem p_60_5 : xPtr 60 5 = some 61 := rfl
theorem p_60_6 : xPtr 60 6 = some 62 := rfl
theorem p_60_7 : xPtr 60 7 = some 63 := rfl
theorem p_60_8 : xPtr 60 8 = some 64 := rfl
theorem p_60_9 : xPtr 60 9 = some 65 := rfl
theorem p_60_10 : xPtr 60 10 = some 66 := rfl
theorem p_60_11 : xPtr 60 11 = some 67 := rfl
theorem p_60_12 : xPtr 60 12 = some 68 := rfl
theorem p_69_2 : xPtr 69 2 = some 70 := rfl
theorem p_69_3 : xPtr 69 3 = some 71 := rfl
theorem p_69_4 : xPtr 69 4 = some 72 := rfl
theorem p_69_9 : xPtr 69 9 = some 73 := rfl
theorem p_69_10 : xPtr 69 10 = some 74 := rfl
theorem p_69_11 : xPtr 69 11 = some 75 := rfl
theorem p_76_0 : xPtr 76 0 = some 77 := rfl
theorem p_76_1 : xPtr 76 1 = some 78 := rfl
theorem p_76_10 : xPtr 76 10 = some 79 := rfl
theorem p_76_11 : xPtr 76 11 = some 80 := rfl
theorem p_76_12 : xPtr 76 12 = some 81 := rfl
theorem p_76_13 : xPtr 76 13 = some 82 := rfl
theorem p_76_14 : xPtr 76 14 = some 83 := rfl
theorem p_76_16 : xPtr 76 16 = some 84 := rfl
theorem p_76_17 : xPtr 76 17 = some 85 := rfl
theorem p_76_18 : xPtr 76 18 = some 86 := rfl
theorem p_76_19 : xPtr 76 19 = some 87 := rfl
theorem p_88_0 : xPtr 88 0 = some 89 := rfl
theorem p_90_0 : xPtr 90 0 = some 91 := rfl
theorem p_90_1 : xPtr 90 1 = some 92 := rfl
theorem p_90_2 : xPtr 90 2 = some 93 := rfl
theorem p_94_0 : xPtr 94 0 = some 95 := rfl
theorem p_94_1 : xPtr 94 1 = some 96 := rfl
theorem p_94_2 : xPtr 94 2 = some 97 := rfl
theorem p_98_3 : xPtr 98 3 = some 99 := rfl
theorem p_98_4 : xPtr 98 4 = some 100 := rfl
theorem p_98_5 : xPtr 98 5 = some 101 := rfl
theorem p_98_6 : xPtr 98 6 = some 102 := rfl
theorem p_98_7 : xPtr 98 7 = some 103 := rfl
theorem p_98_8 : xPtr 98 8 = some 104 := rfl
theorem p_98_9 : xPtr 98 9 = some 105 := rfl
theorem p_98_10 : xPtr 98 10 = some 106 := rfl
theorem p_98_14 : xPtr 98 14 = some 107 := rfl
theorem p_98_15 : xPtr 98 15 = some 108 := rfl
theorem p_98_16 : xPtr 98 16 = some 109 := rfl
theorem p_98_17 : xPtr 98 17 = some 110 := rfl
theorem p_111_0 : xPtr 111 0 = some 112 := rfl
theorem p_113_0 : xPtr 113 0 = some 114 := rfl
theorem p_113_1 : xPtr 113 1 = some 115 := rfl
theorem p_113_11 : xPtr 113 11 = some 116 := rfl
theorem p_113_12 : xPtr 113 12 = some 117 := rfl
theorem p_113_13 : xPtr 113 13 = some 118 := rfl
theorem p_113_14 : xPtr 113 14 = some 119 := rfl
theorem p_113_15 : xPtr 113 15 = some 120 := rfl
theorem p_113_16 : xPtr 113 16 = some 121 := rfl
theorem p_113_17 : xPtr 113 17 = some 122 := rfl
theorem p_113_18 : xPtr 113 18 = some 123 := rfl
theorem p_113_19 : xPtr 113 19 = some 124 := rfl
theorem p_113_20 : xPtr 113 20 = some 125 := rfl
theorem p_113_21 : xPtr 113 21 = some 126 := rfl
theorem p_113_22 : xPtr 113 22 = some 127 := rfl
theorem p_113_23 : xPtr 113 23 = some 128 := rfl
theorem p_113_24 : xPtr 113 24 = some 129 := rfl
theorem p_113_25 : xPtr 113 25 = some 130 := rfl
theorem p_113_26 : xPtr 113 26 = some 131 := rfl
theorem p_113_27 : xPtr 113 27 = some 132 := rfl
theorem p_113_28 : xPtr 113 28 = some 133 := rfl
theorem p_113_32 : xPtr 113 32 = some 134 := rfl
theorem p_113_33 : xPtr 113 33 = some 135 := rfl
theorem p_113_35 : xPtr 113 35 = some 136 := rfl
theorem p_113_36 : xPtr 113 36 = some 137 := rfl
theorem p_113_37 : xPtr 113 37 = some 138 := rfl
theorem p_113_38 : xPtr 113 38 = some 139 := rfl
theorem p_113_39 : xPtr 113 39 = some 140 := rfl
theorem p_113_40 : xPtr 113 40 = some 141 := rfl
theorem p_113_41 : xPtr 113 41 = some 142 := rfl
theorem p_113_42 : xPtr 113 42 = some 143 := rfl
theorem p_113_43 : xPtr 113 43 = some 144 := rfl
theorem p_113_48 : xPtr 113 48 = some 145 := rfl
theorem p_113_49 : xPtr 113 49 = some 146 := rfl
theorem p_113_50 : xPtr 113 50 = some 147 := rfl
theorem p_113_51 : xPtr 113 51 = some 148 := rfl
theorem p_113_52 : xPtr 113 52 = some 149 := rfl
theorem p_113_55 : xPtr 113 55 = some 150 := rfl
theorem p_113_56 : xPtr 113 56 = some 151 := rfl
theorem p_113_57 : xPtr 113 57 = some 152 := rfl
theorem p_113_58 : xPtr 113 58 = some 153 := rfl
theorem p_113_60 : xPtr 113 60 = some 154 := rfl
theorem p_113_61 : xPtr 113 61 = some 155 := rfl
theorem p_113_62 : xPtr 113 62 = some 156 := rfl
theorem p_113_63 : xPtr 113 63 = some 157 := rfl
theorem p_113_64 : xPtr 113 64 = some 158 := rfl
theorem p_113_65 : xPtr 113 65 = some 159 := rfl
theorem p_113_66 : xPtr 113 66 = some 160 := rfl
theorem p_113_67 : xPtr 113 67 = some 161 := rfl
theorem p_113_68 : xPtr 113 68 = some 162 := rfl
theorem p_113_69 : xPtr 113 69 = some 163 := rfl
theorem p_113_73 : xPtr 113 73 = some 164 := rfl
theorem p_113_74 : xPtr 113 74 = some 165 := rfl
theorem p_113_75 : xPtr 113 75 = some 166 := rfl
theorem p_113_76 : xPtr 113 76 = some 167 := rfl
theorem p_113_77 : xPtr 113 77 = some 168 := rfl
theorem p_113_78 : xPtr 113 78 = some 169 := rfl
theorem p_113_79 : xPtr 113 79 = some 170 := rfl
theorem p_113_80 : xPtr 113 80 = some 171 := rfl
theorem p_113_81 : xPtr 113 81 = some 172 := rfl
theorem p_113_82 : xPtr 113 82 = some 173 := rfl
theorem p_113_83 : xPtr 113 83 = some 174 := rfl
theorem p_113_84 : xPtr 113 84 = some 175 := rfl
theorem p_113_85 : xPtr 113 85 = some 176 := rfl
theorem p_113_86 : xPtr 113 86 = some 177 := rfl
theorem p_113_87 : xPtr 113 87 = some 178 := rfl
theorem p_113_88 : xPtr 113 88 = some 179 := rfl
theorem p_113_89 : xPtr 113 89 = some 180 := rfl
theorem cl_0_51 : xCl 0 51 = some (0, mX7_copy, 2) := rfl
theorem cl_0_60 : xCl 0 60 = some (2, mX0_heapOf, 1) := rfl
theorem cl_0_67 : xCl 0 67 = some (0, mX7_hasBit, 2) := rfl
theorem cl_0_71 : xCl 0 71 = some (0, mX7_at, 2) := rfl
theorem cl_0_75 : xCl 0 75 = some (0, mX7_put, 3) := rfl
theorem cl_0_79 : xCl 0 79 = some (2, mX0_has, 1) := rfl
theorem cl_0_83 : xCl 0 83 = some (2, mX0_isUntold, 1) := rfl
theorem cl_0_87 : xCl 0 87 = some (2, mX0_thingAtRank, 2) := rfl
theorem cl_0_91 : xCl 0 91 = some (0, mJ6_bitCount_0f7a4, 1) := rfl
theorem cl_1_70 : xCl 1 70 = some (0, mX7_at, 2) := rfl
theorem cl_1_82 : xCl 1 82 = some (2, mX0_counts, 2) := rfl
theorem cl_1_86 : xCl 1 86 = some (2, mX1_isRule, 4) := rfl
theorem cl_1_90 : xCl 1 90 = some (2, mX1_isRuleAt, 4) := rfl
theorem cl_1_93 : xCl 1 93 = some (0, mX7_put, 3) := rfl
theorem cl_1_103 : xCl 1 103 = some (2, mX1_guess, 0) := rfl
theorem cl_1_106 : xCl 1 106 = some (2, mX1_ask, 2) := rfl
theorem cl_1_113 : xCl 1 113 = some (2, mX1_askAll, 0) := rfl
theorem cl_1_122 : xCl 1 122 = some (0, mX7_fill, 2) := rfl
theorem cl_1_126 : xCl 1 126 = some (0, mX1_layFrom, 2) := rfl
theorem cl_1_130 : xCl 1 130 = some (2, mX1_layLast, 1) := rfl
theorem cl_1_134 : xCl 1 134 = some (2, mX1_lay, 2) := rfl
theorem cl_1_137 : xCl 1 137 = some (2, mX1_holds, 1) := rfl
theorem cl_1_141 : xCl 1 141 = some (2, mX1_fitting, 4) := rfl
theorem cl_1_145 : xCl 1 145 = some (2, mX1_note, 2) := rfl
theorem cl_1_148 : xCl 1 148 = some (2, mX1_fitsOf, 3) := rfl
theorem cl_1_152 : xCl 1 152 = some (0, mJ6_bitCount_0f7a4, 1) := rfl
theorem cl_1_158 : xCl 1 158 = some (0, mX7_add, 3) := rfl
theorem cl_1_161 : xCl 1 161 = some (0, mX7_lowestBit, 1) := rfl
theorem cl_1_165 : xCl 1 165 = some (0, mX7_hasBit, 2) := rfl
theorem cl_1_171 : xCl 1 171 = some (0, mX1_upTo, 1) := rfl
theorem cl_2_21 : xCl 2 21 = some (0, mX7_fill, 2) := rfl
theorem cl_2_37 : xCl 2 37 = some (0, mX7_at, 2) := rfl
theorem cl_2_47 : xCl 2 47 = some (2, mX5_saidBy, 3) := rfl
theorem cl_2_62 : xCl 2 62 = some (2, mX2_comeTo, 2) := rfl
theorem cl_2_66 : xCl 2 66 = some (0, mX7_put, 3) := rfl
theorem cl_2_70 : xCl 2 70 = some (0, mX7_add, 3) := rfl
theorem cl_3_35 : xCl 3 35 = some (2, mX3_loadTruths, 1) := rfl
theorem cl_3_39 : xCl 3 39 = some (0, mX3_isAlike, 2) := rfl
theorem cl_3_43 : xCl 3 43 = some (0, mX7_put, 3) := rfl
theorem cl_3_49 : xCl 3 49 = some (2, mX8_pairs, 0) := rfl
theorem cl_3_53 : xCl 3 53 = some (2, mX3_needOf, 3) := rfl
theorem cl_3_57 : xCl 3 57 = some (0, mX7_at, 2) := rfl
theorem cl_3_61 : xCl 3 61 = some (0, mX7_fill, 2) := rfl
theorem cl_3_68 : xCl 3 68 = some (0, mX7_hasBit, 2) := rfl
theorem cl_3_72 : xCl 3 72 = some (0, mX7_lowestBit, 1) := rfl
theorem cl_3_79 : xCl 3 79 = some (2, mX3_worstBehind, 3) := rfl
theorem cl_4_15 : xCl 4 15 = some (0, mX7_fill, 2) := rfl
theorem cl_4_30 : xCl 4 30 = some (0, mX7_at, 2) := rfl
theorem cl_4_37 : xCl 4 37 = some (0, mX7_put, 3) := rfl
theorem cl_4_41 : xCl 4 41 = some (2, mX8_pairs, 0) := rfl
theorem cl_4_45 : xCl 4 45 = some (0, mX7_hasBit, 2) := rfl
theorem cl_4_49 : xCl 4 49 = some (2, mX4_leastSet, 1) := rfl
theorem cl_4_53 : xCl 4 53 = some (0, mJ6_bitCount_0f7a4, 1) := rfl
theorem cl_5_41 : xCl 5 41 = some (0, mX5_pairOf, 3) := rfl
theorem cl_5_53 : xCl 5 53 = some (0, mX7_put, 3) := rfl
theorem cl_5_63 : xCl 5 63 = some (2, mX5_isOrder, 1) := rfl
theorem cl_5_67 : xCl 5 67 = some (2, mX5_keepOrder, 0) := rfl
theorem cl_5_70 : xCl 5 70 = some (2, mX5_stepDigits, 0) := rfl
theorem cl_5_73 : xCl 5 73 = some (0, mX7_at, 2) := rfl
theorem cl_5_77 : xCl 5 77 = some (2, mX5_markOfDigits, 0) := rfl
theorem cl_5_81 : xCl 5 81 = some (0, mX5_bitOf, 4) := rfl
theorem cl_5_85 : xCl 5 85 = some (0, mX7_fill, 2) := rfl
theorem cl_5_100 : xCl 5 100 = some (2, mX0_counts, 2) := rfl
theorem cl_5_104 : xCl 5 104 = some (2, mX0_isSingle, 1) := rfl
theorem cl_5_111 : xCl 5 111 = some (0, mX7_lowestBit, 1) := rfl
theorem cl_5_121 : xCl 5 121 = some (0, mX7_add, 3) := rfl
theorem cl_5_130 : xCl 5 130 = some (2, mX5_missesBy, 1) := rfl
theorem cl_5_134 : xCl 5 134 = some (2, mX5_heed, 2) := rfl
theorem cl_5_138 : xCl 5 138 = some (2, mX5_sift, 1) := rfl
theorem cl_5_142 : xCl 5 142 = some (0, mX7_hasBit, 2) := rfl
theorem cl_5_145 : xCl 5 145 = some (2, mX5_markOf, 1) := rfl
theorem cl_5_148 : xCl 5 148 = some (2, mX5_missesOf, 1) := rfl
theorem cl_5_151 : xCl 5 151 = some (2, mX5_placeOf, 2) := rfl
theorem cl_5_154 : xCl 5 154 = some (2, mX5_leftAt, 1) := rfl
theorem cl_5_157 : xCl 5 157 = some (2, mX5_goalOf, 3) := rfl
theorem cl_5_160 : xCl 5 160 = some (2, mX5_isSure, 3) := rfl
theorem cl_5_164 : xCl 5 164 = some (2, mX5_heavierIn, 2) := rfl
theorem cl_5_167 : xCl 5 167 = some (0, mJ6_bitCount_0f7a4, 1) := rfl
theorem cl_5_172 : xCl 5 172 = some (2, mX5_isSet, 2) := rfl
theorem cl_5_176 : xCl 5 176 = some (2, mX8_add, 2) := rfl
theorem cl_6_39 : xCl 6 39 = some (3, mX10_init, 0) := rfl
theorem cl_6_60 : xCl 6 60 = some (2, mX10_empty, 0) := rfl
theorem cl_6_69 : xCl 6 69 = some (2, mX6_advance, 0) := rfl
theorem cl_6_75 : xCl 6 75 = some (2, mX6_readLine, 0) := rfl
theorem cl_6_78 : xCl 6 78 = some (2, mX10_completeRow, 0) := rfl
theorem cl_6_84 : xCl 6 84 = some (2, mX6_isOwn, 1) := rfl
theorem cl_6_88 : xCl 6 88 = some (2, mX6_readThing, 0) := rfl
theorem cl_6_91 : xCl 6 91 = some (2, mX6_readTwins, 0) := rfl
theorem cl_6_94 : xCl 6 94 = some (2, mX6_readSticks, 0) := rfl
theorem cl_6_97 : xCl 6 97 = some (2, mX6_readRow, 0) := rfl
theorem cl_6_100 : xCl 6 100 = some (2, mX6_readPlan, 0) := rfl
theorem cl_6_103 : xCl 6 103 = some (2, mX6_fail, 1) := rfl
theorem cl_6_114 : xCl 6 114 = some (2, mX10_thingOf, 1) := rfl
theorem cl_6_118 : xCl 6 118 = some (2, mX6_takeNewName, 1) := rfl
theorem cl_6_122 : xCl 6 122 = some (2, mX6_takeOwn, 1) := rfl
theorem cl_6_125 : xCl 6 125 = some (2, mX6_takeNumber, 2) := rfl
theorem cl_6_129 : xCl 6 129 = some (2, mX6_takeSign, 1) := rfl
theorem cl_6_132 : xCl 6 132 = some (2, mX10_addThing, 2) := rfl
theorem cl_6_148 : xCl 6 148 = some (2, mX6_takeRowName, 0) := rfl
theorem cl_6_151 : xCl 6 151 = some (2, mX6_isName, 0) := rfl
theorem cl_6_155 : xCl 6 155 = some (2, mX10_rowBits, 0) := rfl
theorem cl_6_158 : xCl 6 158 = some (2, mX6_takeThing, 1) := rfl
theorem cl_6_162 : xCl 6 162 = some (2, mX10_addToRow, 1) := rfl
theorem cl_6_168 : xCl 6 168 = some (2, mX10_planOf, 1) := rfl
theorem cl_6_171 : xCl 6 171 = some (0, mX6_readPart, 2) := rfl
theorem cl_6_175 : xCl 6 175 = some (2, mX10_addPlan, 2) := rfl
theorem cl_6_186 : xCl 6 186 = some (2, mX10_addTwo, 2) := rfl
theorem cl_6_189 : xCl 6 189 = some (2, mX10_setWay, 3) := rfl
theorem cl_6_193 : xCl 6 193 = some (0, mX7_hasBit, 2) := rfl
theorem cl_6_205 : xCl 6 205 = some (2, mX6_byteAt, 1) := rfl
theorem cl_6_208 : xCl 6 208 = some (0, mX6_isLetter, 1) := rfl
theorem cl_6_211 : xCl 6 211 = some (0, mX7_find, 3) := rfl
theorem cl_6_215 : xCl 6 215 = some (0, mX6_isDigit, 1) := rfl
theorem cl_6_218 : xCl 6 218 = some (0, mX6_isSign, 1) := rfl
theorem cl_7_68 : xCl 7 68 = some (2, mX8_numberPairs, 1) := rfl
theorem cl_7_72 : xCl 7 72 = some (0, mX7_fill, 2) := rfl
theorem cl_7_78 : xCl 7 78 = some (0, mX5_pairOf, 3) := rfl
theorem cl_7_82 : xCl 7 82 = some (0, mX7_put, 3) := rfl
theorem cl_7_95 : xCl 7 95 = some (0, mX7_put_, 3) := rfl
theorem cl_7_98 : xCl 7 98 = some (2, mX8_sortIn, 1) := rfl
theorem cl_7_101 : xCl 7 101 = some (0, mX7_at, 2) := rfl
theorem cl_7_105 : xCl 7 105 = some (0, mX7_hasBit, 2) := rfl
theorem cl_7_109 : xCl 7 109 = some (0, mX8_putIn, 3) := rfl
theorem cl_7_113 : xCl 7 113 = some (2, mX8_kindLike, 1) := rfl
theorem cl_7_117 : xCl 7 117 = some (0, mX7_at_, 2) := rfl
theorem cl_7_129 : xCl 7 129 = some (2, mX8_pairs, 0) := rfl
theorem cl_7_133 : xCl 7 133 = some (2, mX8_allLow, 0) := rfl
theorem cl_7_137 : xCl 7 137 = some (2, mX8_allHigh, 0) := rfl
theorem cl_7_140 : xCl 7 140 = some (2, mX8_surePairs, 0) := rfl
theorem cl_7_143 : xCl 7 143 = some (0, mX8_worstFrom, 6) := rfl
theorem cl_7_147 : xCl 7 147 = some (0, mX8_sumFrom, 6) := rfl
theorem cl_7_151 : xCl 7 151 = some (2, mX8_fewestOfAll, 0) := rfl
theorem cl_7_154 : xCl 7 154 = some (0, mX8_worstBehind, 7) := rfl
theorem cl_7_158 : xCl 7 158 = some (2, mX8_codeOf, 1) := rfl
theorem cl_7_161 : xCl 7 161 = some (2, mX8_sumOfAll, 0) := rfl
theorem cl_7_164 : xCl 7 164 = some (0, mX8_sumBehind, 7) := rfl
theorem cl_7_167 : xCl 7 167 = some (2, mX8_isAlike, 2) := rfl
theorem cl_7_171 : xCl 7 171 = some (2, mX8_slotOf, 2) := rfl
theorem cl_7_175 : xCl 7 175 = some (2, mX8_joinsFor, 1) := rfl
theorem cl_7_178 : xCl 7 178 = some (2, mX8_leastWorst, 3) := rfl
theorem cl_7_182 : xCl 7 182 = some (2, mX8_freeThings, 1) := rfl
theorem cl_7_185 : xCl 7 185 = some (2, mX8_isFirstLike, 2) := rfl
theorem cl_7_188 : xCl 7 188 = some (2, mX8_leastSum, 3) := rfl
theorem cl_7_191 : xCl 7 191 = some (0, mJ13_bitCount_95d88, 1) := rfl
theorem cl_7_197 : xCl 7 197 = some (0, mX7_lowestBit, 1) := rfl
theorem cl_7_202 : xCl 7 202 = some (2, mX8_kindsIn, 2) := rfl
theorem cl_7_205 : xCl 7 205 = some (0, mX8_depthOf, 2) := rfl
theorem cl_7_208 : xCl 7 208 = some (2, mX8_countGroups, 1) := rfl
theorem cl_8_17 : xCl 8 17 = some (0, mX8_depthOf, 2) := rfl
theorem cl_8_23 : xCl 8 23 = some (0, mX9_powerOf, 2) := rfl
theorem cl_8_26 : xCl 8 26 = some (2, mX9_lay, 1) := rfl
theorem cl_9_58 : xCl 9 58 = some (0, mX7_put_, 3) := rfl
theorem cl_9_64 : xCl 9 64 = some (0, mX7_put, 3) := rfl
theorem cl_9_67 : xCl 9 67 = some (0, mX7_at, 2) := rfl
theorem cl_9_71 : xCl 9 71 = some (2, mX10_rowBits, 0) := rfl
theorem cl_9_75 : xCl 9 75 = some (0, mX7_hasBit, 2) := rfl
theorem cl_9_79 : xCl 9 79 = some (2, mX10_addToRow, 1) := rfl
theorem cl_9_83 : xCl 9 83 = some (0, mX7_find, 3) := rfl
theorem cl_9_87 : xCl 9 87 = some (2, mX10_hasThing, 1) := rfl
theorem cl_9_91 : xCl 9 91 = some (2, mX10_isHeap, 1) := rfl
theorem cl_10_19 : xCl 10 19 = some (3, mX10_init, 0) := rfl
theorem cl_10_29 : xCl 10 29 = some (3, mX6_init, 0) := rfl
theorem cl_10_36 : xCl 10 36 = some (3, mX0_init, 0) := rfl
theorem cl_10_47 : xCl 10 47 = some (3, mX5_init, 0) := rfl
theorem cl_10_54 : xCl 10 54 = some (3, mX8_init, 0) := rfl
theorem cl_10_61 : xCl 10 61 = some (3, mX4_init, 0) := rfl
theorem cl_10_68 : xCl 10 68 = some (3, mX3_init, 0) := rfl
theorem cl_10_75 : xCl 10 75 = some (3, mX2_init, 0) := rfl
theorem cl_10_82 : xCl 10 82 = some (3, mX1_init, 0) := rfl
theorem cl_10_89 : xCl 10 89 = some (3, mX9_init, 0) := rfl
theorem cl_10_94 : xCl 10 94 = some (2, mX5_refill, 1) := rfl
theorem cl_10_101 : xCl 10 101 = some (2, mX11_putBytes, 1) := rfl
theorem cl_10_105 : xCl 10 105 = some (2, mX6_read, 3) := rfl
theorem cl_10_116 : xCl 10 116 = some (2, mX0_begin, 1) := rfl
theorem cl_10_119 : xCl 10 119 = some (2, mX9_empty, 0) := rfl
theorem cl_10_129 : xCl 10 129 = some (2, mX10_hasHeaps, 2) := rfl
theorem cl_10_133 : xCl 10 133 = some (2, mX0_isFull, 0) := rfl
theorem cl_10_137 : xCl 10 137 = some (2, mX0_balance, 3) := rfl
theorem cl_10_141 : xCl 10 141 = some (2, mX0_write, 3) := rfl
theorem cl_10_145 : xCl 10 145 = some (2, mX0_look, 2) := rfl
theorem cl_10_149 : xCl 10 149 = some (2, mX0_rain, 1) := rfl
theorem cl_10_153 : xCl 10 153 = some (2, mX0_strike, 1) := rfl
theorem cl_10_157 : xCl 10 157 = some (2, mX0_pass, 1) := rfl
theorem cl_10_160 : xCl 10 160 = some (2, mX5_heed, 2) := rfl
theorem cl_10_164 : xCl 10 164 = some (2, mX5_sift, 1) := rfl
theorem cl_10_170 : xCl 10 170 = some (2, mX5_leftAt, 1) := rfl
theorem cl_10_173 : xCl 10 173 = some (2, mX11_shelvePlaces, 1) := rfl
theorem cl_10_176 : xCl 10 176 = some (2, mX5_placeOf, 2) := rfl
theorem cl_10_179 : xCl 10 179 = some (2, mX9_lay, 1) := rfl
theorem cl_10_182 : xCl 10 182 = some (2, mX5_firstOfFewestMisses, 0) := rfl
theorem cl_10_186 : xCl 10 186 = some (2, mX5_missesOf, 1) := rfl
theorem cl_10_189 : xCl 10 189 = some (2, mX10_hasThing, 1) := rfl
theorem cl_10_192 : xCl 10 192 = some (2, mX5_know, 2) := rfl
theorem cl_10_196 : xCl 10 196 = some (2, mX5_extremePlace, 2) := rfl
theorem cl_10_200 : xCl 10 200 = some (2, mX5_standing, 2) := rfl
theorem cl_10_203 : xCl 10 203 = some (2, mX10_hasTwo, 2) := rfl
theorem cl_10_206 : xCl 10 206 = some (2, mX5_isSure, 3) := rfl
theorem cl_10_210 : xCl 10 210 = some (2, mX10_hasGoal, 2) := rfl
theorem cl_10_216 : xCl 10 216 = some (2, mX8_begin, 3) := rfl
theorem cl_10_219 : xCl 10 219 = some (2, mX5_markOf, 1) := rfl
theorem cl_10_222 : xCl 10 222 = some (2, mX5_goalOf, 3) := rfl
theorem cl_10_225 : xCl 10 225 = some (2, mX8_add, 2) := rfl
theorem cl_10_229 : xCl 10 229 = some (2, mX8_finish, 0) := rfl
theorem cl_10_232 : xCl 10 232 = some (2, mX11_prepare, 3) := rfl
theorem cl_10_235 : xCl 10 235 = some (2, mX8_fewestOfAll, 0) := rfl
theorem cl_10_238 : xCl 10 238 = some (2, mX8_nextOfFewest, 0) := rfl
theorem cl_10_241 : xCl 10 241 = some (2, mX8_sumOfAll, 0) := rfl
theorem cl_10_244 : xCl 10 244 = some (2, mX8_nextOfSum, 0) := rfl
theorem cl_10_247 : xCl 10 247 = some (2, mX4_fewestPairs, 1) := rfl
theorem cl_10_251 : xCl 10 251 = some (2, mX5_answer, 3) := rfl
theorem cl_10_257 : xCl 10 257 = some (2, mX2_begin, 0) := rfl
theorem cl_10_259 : xCl 10 259 = some (2, mX2_follow, 5) := rfl
theorem cl_10_263 : xCl 10 263 = some (2, mX2_unknown, 0) := rfl
theorem cl_10_275 : xCl 10 275 = some (2, mX3_fewestWithALie, 1) := rfl
theorem cl_10_278 : xCl 10 278 = some (2, mX5_heavierIn, 2) := rfl
theorem cl_10_281 : xCl 10 281 = some (2, mX5_evenestTwo, 0) := rfl
theorem cl_10_284 : xCl 10 284 = some (2, mX5_isCover, 2) := rfl
theorem cl_10_288 : xCl 10 288 = some (2, mX5_surelySaying, 2) := rfl
theorem cl_10_291 : xCl 10 291 = some (2, mX5_weighingsWith, 2) := rfl
theorem cl_10_298 : xCl 10 298 = some (2, mX5_markOfRow, 1) := rfl
theorem cl_10_302 : xCl 10 302 = some (2, mX5_missesBy, 1) := rfl
theorem cl_10_305 : xCl 10 305 = some (2, mX5_largestSet, 1) := rfl
theorem cl_10_309 : xCl 10 309 = some (0, mX8_depthOf, 2) := rfl
theorem cl_10_312 : xCl 10 312 = some (2, mX5_addSwapped, 3) := rfl
theorem cl_10_316 : xCl 10 316 = some (0, mX7_at, 2) := rfl
theorem cl_10_322 : xCl 10 322 = some (2, mX1_load, 3) := rfl
theorem cl_10_326 : xCl 10 326 = some (2, mX1_guessAll, 0) := rfl
theorem cl_10_330 : xCl 10 330 = some (2, mX1_firstOf, 1) := rfl
theorem cl_10_333 : xCl 10 333 = some (2, mX1_extremeOf, 2) := rfl
theorem cl_10_336 : xCl 10 336 = some (2, mX1_sayings, 2) := rfl
theorem cl_10_339 : xCl 10 339 = some (2, mX9_layStones, 2) := rfl
theorem cl_10_343 : xCl 10 343 = some (2, mX1_bestHeaps, 1) := rfl
theorem cl_10_349 : xCl 10 349 = some (2, mX0_copyFrom, 1) := rfl
theorem cl_11_218 : xCl 11 218 = some (2, mX12_clearBank, 0) := rfl
theorem cl_11_221 : xCl 11 221 = some (2, mX12_layOrders, 0) := rfl
theorem cl_11_250 : xCl 11 250 = some (2, mX12_sign, 1) := rfl
theorem cl_11_257 : xCl 11 257 = some (0, mX12_isLetter, 1) := rfl
theorem cl_11_265 : xCl 11 265 = some (0, mX12_isKept, 1) := rfl
theorem cl_11_269 : xCl 11 269 = some (0, mX12_isDigit, 1) := rfl
theorem cl_11_275 : xCl 11 275 = some (2, mX12_fails, 2) := rfl
theorem cl_11_279 : xCl 11 279 = some (2, mX12_isGood, 0) := rfl
theorem cl_11_283 : xCl 11 283 = some (2, mX12_goOn, 0) := rfl
theorem cl_11_286 : xCl 11 286 = some (2, mX12_misplaced, 0) := rfl
theorem cl_11_298 : xCl 11 298 = some (2, mX12_readLine, 0) := rfl
theorem cl_11_301 : xCl 11 301 = some (2, mX12_layClerk, 0) := rfl
theorem cl_11_316 : xCl 11 316 = some (2, mX12_isWord, 1) := rfl
theorem cl_11_319 : xCl 11 319 = some (2, mX12_isFull, 0) := rfl
theorem cl_11_322 : xCl 11 322 = some (2, mX12_numeral, 2) := rfl
theorem cl_11_326 : xCl 11 326 = some (2, mX12_readThing, 0) := rfl
theorem cl_11_329 : xCl 11 329 = some (2, mX12_readRow, 0) := rfl
theorem cl_11_332 : xCl 11 332 = some (2, mX12_readPlan, 0) := rfl
theorem cl_11_335 : xCl 11 335 = some (2, mX12_isSignHere, 1) := rfl
theorem cl_11_338 : xCl 11 338 = some (2, mX12_must, 1) := rfl
theorem cl_11_342 : xCl 11 342 = some (2, mX12_thingHere, 0) := rfl
theorem cl_11_346 : xCl 11 346 = some (2, mX12_isInRow, 1) := rfl
theorem cl_11_349 : xCl 11 349 = some (2, mX12_planHere, 0) := rfl
theorem cl_11_355 : xCl 11 355 = some (2, mX12_readP, 0) := rfl
theorem cl_11_358 : xCl 11 358 = some (2, mX12_closes, 1) := rfl
theorem cl_11_361 : xCl 11 361 = some (2, mX12_readTwo, 0) := rfl
theorem cl_11_364 : xCl 11 364 = some (2, mX12_thingMany, 0) := rfl
theorem cl_11_367 : xCl 11 367 = some (0, mX12_isIn, 3) := rfl
theorem cl_11_374 : xCl 11 374 = some (2, mX12_isOrder, 0) := rfl
theorem cl_11_380 : xCl 11 380 = some (2, mX12_areHeaps, 2) := rfl
theorem cl_11_384 : xCl 11 384 = some (2, mX12_saysBy, 1) := rfl
theorem cl_11_387 : xCl 11 387 = some (2, mX12_add, 3) := rfl
theorem cl_11_392 : xCl 11 392 = some (0, mX12_bitsOf, 1) := rfl
theorem cl_11_395 : xCl 11 395 = some (2, mX12_counts, 2) := rfl
theorem cl_11_398 : xCl 11 398 = some (2, mX12_isSingle, 1) := rfl
theorem cl_11_401 : xCl 11 401 = some (0, mX12_lowest, 1) := rfl
theorem cl_11_404 : xCl 11 404 = some (2, mX12_saidBy, 3) := rfl
theorem cl_11_411 : xCl 11 411 = some (2, mX12_wrongBy, 2) := rfl
theorem cl_11_414 : xCl 11 414 = some (2, mX12_layLeft, 2) := rfl
theorem cl_11_417 : xCl 11 417 = some (2, mX12_layPlaces, 1) := rfl
theorem cl_11_421 : xCl 11 421 = some (2, mX12_isThing, 1) := rfl
theorem cl_11_424 : xCl 11 424 = some (2, mX12_hasLeft, 1) := rfl
theorem cl_11_427 : xCl 11 427 = some (2, mX12_placeLeft, 2) := rfl
theorem cl_11_430 : xCl 11 430 = some (2, mX12_howMany, 3) := rfl
theorem cl_11_433 : xCl 11 433 = some (2, mX12_areTwo, 2) := rfl
theorem cl_11_436 : xCl 11 436 = some (2, mX12_sureOf, 2) := rfl
theorem cl_11_442 : xCl 11 442 = some (0, mX12_has, 3) := rfl
theorem cl_11_452 : xCl 11 452 = some (2, mX12_slot, 2) := rfl
theorem cl_11_456 : xCl 11 456 = some (2, mX12_isCome, 2) := rfl
theorem cl_11_464 : xCl 11 464 = some (2, mX12_beginPair, 0) := rfl
theorem cl_11_471 : xCl 11 471 = some (2, mX12_sizeOf, 2) := rfl
theorem cl_11_479 : xCl 11 479 = some (2, mX12_clearTable, 0) := rfl
theorem cl_11_482 : xCl 11 482 = some (2, mX12_enter, 2) := rfl
theorem cl_11_486 : xCl 11 486 = some (2, mX12_meets, 3) := rfl
theorem cl_11_490 : xCl 11 490 = some (2, mX12_takes, 1) := rfl
theorem cl_11_493 : xCl 11 493 = some (2, mX12_endPair, 0) := rfl
theorem cl_11_496 : xCl 11 496 = some (2, mX12_goesOn, 0) := rfl
theorem cl_11_499 : xCl 11 499 = some (2, mX12_known, 2) := rfl
theorem cl_11_502 : xCl 11 502 = some (2, mX12_layPairs, 0) := rfl
theorem cl_11_505 : xCl 11 505 = some (2, mX12_layGoals, 2) := rfl
theorem cl_11_508 : xCl 11 508 = some (2, mX12_isGoal, 2) := rfl
theorem cl_11_511 : xCl 11 511 = some (2, mX12_layGoal, 3) := rfl
theorem cl_11_514 : xCl 11 514 = some (2, mX12_solves, 1) := rfl
theorem cl_11_518 : xCl 11 518 = some (2, mX12_pairNumber, 0) := rfl
theorem cl_11_521 : xCl 11 521 = some (2, mX12_answerOf, 2) := rfl
theorem cl_11_524 : xCl 11 524 = some (2, mX12_goesThrough, 2) := rfl
theorem cl_11_527 : xCl 11 527 = some (2, mX12_unlikeBy, 2) := rfl
theorem cl_11_530 : xCl 11 530 = some (2, mX12_statusOf, 2) := rfl
theorem cl_11_533 : xCl 11 533 = some (2, mX12_behind, 3) := rfl
theorem cl_11_536 : xCl 11 536 = some (2, mX12_isComeBy, 1) := rfl
theorem cl_11_539 : xCl 11 539 = some (2, mX12_canBy, 2) := rfl
theorem cl_11_542 : xCl 11 542 = some (2, mX12_isHeavier, 2) := rfl
theorem cl_11_545 : xCl 11 545 = some (2, mX12_isDirect, 2) := rfl
theorem cl_11_548 : xCl 11 548 = some (2, mX12_placeInRow, 1) := rfl
theorem cl_11_551 : xCl 11 551 = some (2, mX12_isLadder, 2) := rfl
theorem cl_11_555 : xCl 11 555 = some (2, mX12_orderOf, 0) := rfl
theorem cl_11_558 : xCl 11 558 = some (2, mX12_laySwapped, 1) := rfl
theorem cl_11_561 : xCl 11 561 = some (2, mX12_saysOf, 2) := rfl
theorem cl_11_564 : xCl 11 564 = some (2, mX12_weightRows, 0) := rfl
theorem cl_11_567 : xCl 11 567 = some (2, mX12_layWeights, 1) := rfl
theorem cl_11_570 : xCl 11 570 = some (2, mX12_doFit, 1) := rfl
theorem cl_11_573 : xCl 11 573 = some (2, mX12_countWeights, 1) := rfl
theorem cl_11_576 : xCl 11 576 = some (2, mX12_mostStone, 3) := rfl
theorem cl_11_580 : xCl 11 580 = some (2, mX12_doReach, 3) := rfl
theorem cl_11_584 : xCl 11 584 = some (2, mX12_findStones, 3) := rfl
theorem cl_11_587 : xCl 11 587 = some (2, mX12_worstOf, 3) := rfl
theorem cl_12_9 : xCl 12 9 = some (0, mJ13_bitCount_95d88, 1) := rfl
theorem cl_16_9 : xCl 16 9 = some (1, mX11_init, 0) := rfl
theorem cl_16_12 : xCl 16 12 = some (1, mX12_init, 0) := rfl
theorem cl_16_13 : xCl 16 13 = some (2, mX11_feed, 5) := rfl
theorem cl_16_17 : xCl 16 17 = some (2, mX12_feed, 5) := rfl
theorem cl_16_18 : xCl 16 18 = some (2, mX11_end, 1) := rfl
theorem cl_16_22 : xCl 16 22 = some (2, mX12_end, 1) := rfl
theorem cl_16_23 : xCl 16 23 = some (2, mX11_street, 0) := rfl
theorem cl_16_27 : xCl 16 27 = some (2, mX12_street, 0) := rfl
theorem cl_16_28 : xCl 16 28 = some (2, mX11_fault, 1) := rfl
theorem cl_16_31 : xCl 16 31 = some (2, mX12_fault, 1) := rfl
theorem cl_16_32 : xCl 16 32 = some (2, mX11_weigh, 2) := rfl
theorem cl_16_36 : xCl 16 36 = some (2, mX12_weigh, 2) := rfl
theorem cl_16_37 : xCl 16 37 = some (2, mX11_told, 3) := rfl
theorem cl_16_41 : xCl 16 41 = some (2, mX12_told, 3) := rfl
theorem cl_16_42 : xCl 16 42 = some (2, mX11_weighing, 2) := rfl
theorem cl_16_45 : xCl 16 45 = some (2, mX12_weighing, 2) := rfl
theorem cl_16_46 : xCl 16 46 = some (2, mX11_wet, 0) := rfl
theorem cl_16_49 : xCl 16 49 = some (2, mX12_wet, 0) := rfl
theorem cl_16_50 : xCl 16 50 = some (2, mX11_untell, 1) := rfl
theorem cl_16_54 : xCl 16 54 = some (2, mX12_untell, 1) := rfl
theorem cl_16_55 : xCl 16 55 = some (2, mX11_later, 1) := rfl
theorem cl_16_58 : xCl 16 58 = some (2, mX12_later, 1) := rfl
theorem cl_16_59 : xCl 16 59 = some (2, mX11_left, 2) := rfl
theorem cl_16_62 : xCl 16 62 = some (2, mX12_left, 2) := rfl
theorem cl_16_63 : xCl 16 63 = some (2, mX11_struck, 1) := rfl
theorem cl_16_66 : xCl 16 66 = some (2, mX12_struck, 1) := rfl
theorem cl_16_67 : xCl 16 67 = some (2, mX11_place, 3) := rfl
theorem cl_16_71 : xCl 16 71 = some (2, mX12_place, 3) := rfl
theorem cl_16_72 : xCl 16 72 = some (2, mX11_stand, 3) := rfl
theorem cl_16_75 : xCl 16 75 = some (2, mX12_stand, 3) := rfl
theorem cl_16_76 : xCl 16 76 = some (2, mX11_surely, 3) := rfl
theorem cl_16_79 : xCl 16 79 = some (2, mX12_surely, 3) := rfl
theorem cl_16_80 : xCl 16 80 = some (2, mX11_fewest, 3) := rfl
theorem cl_16_83 : xCl 16 83 = some (2, mX12_fewest, 3) := rfl
theorem cl_16_84 : xCl 16 84 = some (2, mX11_next, 3) := rfl
theorem cl_16_87 : xCl 16 87 = some (2, mX12_next, 3) := rfl
theorem cl_16_88 : xCl 16 88 = some (2, mX11_total, 4) := rfl
theorem cl_16_92 : xCl 16 92 = some (2, mX12_total, 4) := rfl
theorem cl_16_93 : xCl 16 93 = some (2, mX11_atOnce, 3) := rfl
theorem cl_16_96 : xCl 16 96 = some (2, mX12_atOnce, 3) := rfl
theorem cl_16_97 : xCl 16 97 = some (2, mX11_answers, 4) := rfl
theorem cl_16_100 : xCl 16 100 = some (2, mX12_answers, 4) := rfl
theorem cl_16_101 : xCl 16 101 = some (2, mX11_judged, 5) := rfl
theorem cl_16_104 : xCl 16 104 = some (2, mX12_judged, 5) := rfl
theorem cl_16_105 : xCl 16 105 = some (2, mX11_trusty, 3) := rfl
theorem cl_16_108 : xCl 16 108 = some (2, mX12_trusty, 3) := rfl
theorem cl_16_109 : xCl 16 109 = some (2, mX11_odds, 4) := rfl
theorem cl_16_112 : xCl 16 112 = some (2, mX12_odds, 4) := rfl
theorem cl_16_113 : xCl 16 113 = some (2, mX11_evenest, 1) := rfl
theorem cl_16_116 : xCl 16 116 = some (2, mX12_evenest, 1) := rfl
theorem cl_16_117 : xCl 16 117 = some (2, mX11_covers, 1) := rfl
theorem cl_16_120 : xCl 16 120 = some (2, mX12_covers, 1) := rfl
theorem cl_16_121 : xCl 16 121 = some (2, mX11_sits, 3) := rfl
theorem cl_16_124 : xCl 16 124 = some (2, mX12_sits, 3) := rfl
theorem cl_16_125 : xCl 16 125 = some (2, mX11_led, 3) := rfl
theorem cl_16_128 : xCl 16 128 = some (2, mX12_led, 3) := rfl
theorem cl_16_129 : xCl 16 129 = some (2, mX11_doubts, 1) := rfl
theorem cl_16_132 : xCl 16 132 = some (2, mX12_doubts, 1) := rfl
theorem cl_16_133 : xCl 16 133 = some (2, mX11_twins, 2) := rfl
theorem cl_16_136 : xCl 16 136 = some (2, mX12_twins, 2) := rfl
theorem cl_16_137 : xCl 16 137 = some (2, mX11_ladder, 2) := rfl
theorem cl_16_141 : xCl 16 141 = some (2, mX12_ladder, 2) := rfl
theorem cl_16_142 : xCl 16 142 = some (2, mX11_bound, 1) := rfl
theorem cl_16_145 : xCl 16 145 = some (2, mX12_bound, 1) := rfl
theorem cl_16_146 : xCl 16 146 = some (2, mX11_swapped, 2) := rfl
theorem cl_16_149 : xCl 16 149 = some (2, mX12_swapped, 2) := rfl
theorem cl_16_150 : xCl 16 150 = some (2, mX11_clerk, 1) := rfl
theorem cl_16_153 : xCl 16 153 = some (2, mX12_clerk, 1) := rfl
theorem cl_16_154 : xCl 16 154 = some (2, mX11_weights, 1) := rfl
theorem cl_16_157 : xCl 16 157 = some (2, mX12_weights, 1) := rfl
theorem cl_16_158 : xCl 16 158 = some (2, mX11_weight, 3) := rfl
theorem cl_16_161 : xCl 16 161 = some (2, mX12_weight, 3) := rfl
theorem cl_16_162 : xCl 16 162 = some (2, mX11_could, 3) := rfl
theorem cl_16_165 : xCl 16 165 = some (2, mX12_could, 3) := rfl
theorem cl_16_166 : xCl 16 166 = some (2, mX11_stones, 2) := rfl
theorem cl_16_170 : xCl 16 170 = some (2, mX12_stones, 2) := rfl
theorem cl_16_171 : xCl 16 171 = some (2, mX11_heaps, 2) := rfl
theorem cl_16_174 : xCl 16 174 = some (2, mX12_heaps, 2) := rfl
theorem cl_16_175 : xCl 16 175 = some (2, mX11_lies, 1) := rfl
theorem cl_16_178 : xCl 16 178 = some (2, mX12_lies, 1) := rfl
theorem cl_16_179 : xCl 16 179 = some (2, mX11_image, 1) := rfl
theorem cl_16_182 : xCl 16 182 = some (2, mX12_image, 1) := rfl
theorem cl_16_183 : xCl 16 183 = some (2, mX11_back, 1) := rfl
theorem cl_16_186 : xCl 16 186 = some (2, mX12_back, 1) := rfl
theorem cl_16_187 : xCl 16 187 = some (2, mX11_about, 1) := rfl
theorem cl_16_190 : xCl 16 190 = some (2, mX12_about, 1) := rfl
theorem km_1_116 : xMm 1 116 = some true := rfl
theorem kn_1_116 : xCl 1 116 = none := rfl
theorem km_1_168 : xMm 1 168 = some false := rfl
theorem kn_1_168 : xCl 1 168 = none := rfl
theorem km_2_56 : xMm 2 56 = some true := rfl
theorem kn_2_56 : xCl 2 56 = none := rfl
theorem km_3_29 : xMm 3 29 = some false := rfl
theorem kn_3_29 : xCl 3 29 = none := rfl
theorem km_3_82 : xMm 3 82 = some true := rfl
theorem kn_3_82 : xCl 3 82 = none := rfl
theorem km_5_32 : xMm 5 32 = some false := rfl
theorem kn_5_32 : xCl 5 32 = none := rfl
theorem km_5_38 : xMm 5 38 = some true := rfl
theorem kn_5_38 : xCl 5 38 = none := rfl
theorem km_6_181 : xMm 6 181 = some true := rfl
theorem kn_6_181 : xCl 6 181 = none := rfl
theorem km_6_221 : xMm 6 221 = some false := rfl
theorem kn_6_221 : xCl 6 221 = none := rfl
theorem km_7_120 : xMm 7 120 = some false := rfl
theorem kn_7_120 : xCl 7 120 = none := rfl
theorem km_7_126 : xMm 7 126 = some true := rfl
theorem kn_7_126 : xCl 7 126 = none := rfl
theorem ki_0_86 : xKI 0 86 = some 100000 := rfl
theorem ki_7_150 : xKI 7 150 = some 1000000 := rfl
theorem ki_7_211 : xKI 7 211 = some 274960 := rfl
theorem ki_11_391 : xKI 11 391 = some 100000 := rfl
theorem ki_11_463 : xKI 11 463 = some 1000000 := rfl
theorem ki_13_265 : xKI 13 265 = some 1431655765 := rfl
theorem ki_13_266 : xKI 13 266 = some 858993459 := rfl
theorem ki_13_267 : xKI 13 267 = some 252645135 := rfl
theorem kl_7_200 : xKL 7 200 = some (-1) := rfl
theorem kl_7_212 : xKL 7 212 = some 31 := rfl
theorem kl_7_214 : xKL 7 214 = some (-7046029254386353131) := rfl
theorem kl_11_230 : xKL 11 230 = some 499967946343 := rfl
theorem kl_11_232 : xKL 11 232 = some 131277443786867 := rfl
theorem kl_11_234 : xKL 11 234 = some 500219604595 := rfl
theorem kl_11_236 : xKL 11 236 = some 126943821523827 := rfl
theorem kl_11_238 : xKL 11 238 = some 7499639 := rfl
theorem kl_11_240 : xKL 11 240 = some 1886151022 := rfl
theorem kl_11_242 : xKL 11 242 = some 1685024357 := rfl
theorem kl_11_446 : xKL 11 446 = some 31 := rfl
theorem kl_11_448 : xKL 11 448 = some 1000003 := rfl
theorem kl_11_450 : xKL 11 450 = some 16383 := rfl
theorem kl_11_477 : xKL 11 477 = some 1152921504606846975 := rfl
theorem kl_14_314 : xKL 14 314 = some 6148914691236517205 := rfl
theorem kl_14_316 : xKL 14 316 = some 3689348814741910323 := rfl
theorem kl_14_318 : xKL 14 318 = some 1085102592571150095 := rfl
theorem bp_m2 : (Int8.ofInt (-2)).toInt32 = (-2) := by decide +kernel
theorem bp_6 : (Int8.ofInt 6).toInt32 = 6 := by decide +kernel
theorem bp_7 : (Int8.ofInt 7).toInt32 = 7 := by decide +kernel
theorem bp_8 : (Int8.ofInt 8).toInt32 = 8 := by decide +kernel
theorem bp_10 : (Int8.ofInt 10).toInt32 = 10 := by decide +kernel
theorem bp_12 : (Int8.ofInt 12).toInt32 = 12 := by decide +kernel
theorem bp_13 : (Int8.ofInt 13).toInt32 = 13 := by decide +kernel
theorem bp_15 : (Int8.ofInt 15).toInt32 = 15 := by decide +kernel
theorem bp_16 : (Int8.ofInt 16).toInt32 = 16 := by decide +kernel
theorem bp_20 : (Int8.ofInt 20).toInt32 = 20 := by decide +kernel
theorem bp_24 : (Int8.ofInt 24).toInt32 = 24 := by decide +kernel
theorem bp_25 : (Int8.ofInt 25).toInt32 = 25 := by decide +kernel
theorem bp_29 : (Int8.ofInt 29).toInt32 = 29 := by decide +kernel
theorem bp_30 : (Int8.ofInt 30).toInt32 = 30 := by decide +kernel
theorem bp_31 : (Int8.ofInt 31).toInt32 = 31 := by decide +kernel
theorem bp_32 : (Int8.ofInt 32).toInt32 = 32 := by decide +kernel
theorem bp_40 : (Int8.ofInt 40).toInt32 = 40 := by decide +kernel
theorem bp_41 : (Int8.ofInt 41).toInt32 = 41 := by decide +kernel
theorem bp_47 : (Int8.ofInt 47).toInt32 = 47 := by decide +kernel
theorem bp_48 : (Int8.ofInt 48).toInt32 = 48 := by decide +kernel
theorem bp_57 : (Int8.ofInt 57).toInt32 = 57 := by decide +kernel
theorem bp_59 : (Int8.ofInt 59).toInt32 = 59 := by decide +kernel
theorem bp_60 : (Int8.ofInt 60).toInt32 = 60 := by decide +kernel
theorem bp_63 : (Int8.ofInt 63).toInt32 = 63 := by decide +kernel
theorem bp_64 : (Int8.ofInt 64).toInt32 = 64 := by decide +kernel
theorem bp_71 : (Int8.ofInt 71).toInt32 = 71 := by decide +kernel
theorem bp_80 : (Int8.ofInt 80).toInt32 = 80 := by decide +kernel
theorem bp_90 : (Int8.ofInt 90).toInt32 = 90 := by decide +kernel
theorem bp_97 : (Int8.ofInt 97).toInt32 = 97 := by decide +kernel
theorem bp_99 : (Int8.ofInt 99).toInt32 = 99 := by decide +kernel
theorem bp_120 : (Int8.ofInt 120).toInt32 = 120 := by decide +kernel
theorem bp_122 : (Int8.ofInt 122).toInt32 = 122 := by decide +kernel
theorem bp_127 : (Int8.ofInt 127).toInt32 = 127 := by decide +kernel
theorem ic_m8 : Int32.ofInt (-8) = (-8) := by decide +kernel
theorem ic_m1 : Int32.ofInt (-1) = (-1) := by decide +kernel
theorem ic_0 : Int32.ofInt 0 = 0 := by decide +kernel
theorem ic_1 : Int32.ofInt 1 = 1 := by decide +kernel
theorem ic_2 : Int32.ofInt 2 = 2 := by decide +kernel
theorem ic_3 : Int32.ofInt 3 = 3 := by decide +kernel
theorem ic_4 : Int32.ofInt 4 = 4 := by decide +kernel
theorem ic_5 : Int32.ofInt 5 = 5 := by decide +kernel
theorem ic_6 : Int32.ofInt 6 = 6 := by decide +kernel
theorem ic_10 : Int32.ofInt 10 = 10 := by decide +kernel
theorem sp_137 : (Int16.ofInt 137).toInt32 = 137 := by decide +kernel
theorem sp_180 : (Int16.ofInt 180).toInt32 = 180 := by decide +kernel
theorem sp_181 : (Int16.ofInt 181).toInt32 = 181 := by decide +kernel
theorem sp_240 : (Int16.ofInt 240).toInt32 = 240 := by decide +kernel
theorem sp_255 : (Int16.ofInt 255).toInt32 = 255 := by decide +kernel
theorem sp_300 : (Int16.ofInt 300).toInt32 = 300 := by decide +kernel
theorem sp_360 : (Int16.ofInt 360).toInt32 = 360 := by decide +kernel
theorem sp_541 : (Int16.ofInt 541).toInt32 = 541 := by decide +kernel
theorem sp_729 : (Int16.ofInt 729).toInt32 = 729 := by decide +kernel
theorem sp_900 : (Int16.ofInt 900).toInt32 = 900 := by decide +kernel
theorem sp_999 : (Int16.ofInt 999).toInt32 = 999 := by decide +kernel
theorem sp_1000 : (Int16.ofInt 1000).toInt32 = 1000 := by decide +kernel
theorem sp_1023 : (Int16.ofInt 1023).toInt32 = 1023 := by decide +kernel
theorem sp_1024 : (Int16.ofInt 1024).toInt32 = 1024 := by decide +kernel
theorem sp_1200 : (Int16.ofInt 1200).toInt32 = 1200 := by decide +kernel
theorem sp_1220 : (Int16.ofInt 1220).toInt32 = 1220 := by decide +kernel
theorem sp_1300 : (Int16.ofInt 1300).toInt32 = 1300 := by decide +kernel
theorem sp_2705 : (Int16.ofInt 2705).toInt32 = 2705 := by decide +kernel
theorem sp_4095 : (Int16.ofInt 4095).toInt32 = 4095 := by decide +kernel
theorem sp_4096 : (Int16.ofInt 4096).toInt32 = 4096 := by decide +kernel
theorem sp_7776 : (Int16.ofInt 7776).toInt32 = 7776 := by decide +kernel
theorem sp_8192 : (Int16.ofInt 8192).toInt32 = 8192 := by decide +kernel
theorem sp_16383 : (Int16.ofInt 16383).toInt32 = 16383 := by decide +kernel
theorem sp_16384 : (Int16.ofInt 16384).toInt32 = 16384 := by decide +kernel
theorem on_0 : Int32.ofNat 0 = 0 := rfl
theorem on_2 : Int32.ofNat 2 = 2 := rfl
theorem on_3 : Int32.ofNat 3 = 3 := rfl
theorem on_5 : Int32.ofNat 5 = 5 := rfl
theorem on_6 : Int32.ofNat 6 = 6 := rfl
theorem on_7 : Int32.ofNat 7 = 7 := rfl
theorem on_8 : Int32.ofNat 8 = 8 := rfl
theorem on_10 : Int32.ofNat 10 = 10 := rfl
theorem on_12 : Int32.ofNat 12 = 12 := rfl
theorem on_15 : Int32.ofNat 15 = 15 := rfl
theorem on_24 : Int32.ofNat 24 = 24 := rfl
theorem on_25 : Int32.ofNat 25 = 25 := rfl
theorem on_30 : Int32.ofNat 30 = 30 := rfl
theorem on_32 : Int32.ofNat 32 = 32 := rfl
theorem on_40 : Int32.ofNat 40 = 40 := rfl
theorem on_60 : Int32.ofNat 60 = 60 := rfl
theorem on_64 : Int32.ofNat 64 = 64 := rfl
theorem on_90 : Int32.ofNat 90 = 90 := rfl
theorem on_120 : Int32.ofNat 120 = 120 := rfl
theorem on_180 : Int32.ofNat 180 = 180 := rfl
theorem on_181 : Int32.ofNat 181 = 181 := rfl
theorem on_240 : Int32.ofNat 240 = 240 := rfl
theorem on_360 : Int32.ofNat 360 = 360 := rfl
theorem on_541 : Int32.ofNat 541 = 541 := rfl
theorem on_729 : Int32.ofNat 729 = 729 := rfl
theorem on_900 : Int32.ofNat 900 = 900 := rfl
theorem on_1024 : Int32.ofNat 1024 = 1024 := rfl
theorem on_1200 : Int32.ofNat 1200 = 1200 := rfl
theorem on_1220 : Int32.ofNat 1220 = 1220 := rfl
theorem on_1300 : Int32.ofNat 1300 = 1300 := rfl
theorem on_2705 : Int32.ofNat 2705 = 2705 := rfl
theorem on_4096 : Int32.ofNat 4096 = 4096 := rfl
theorem on_7776 : Int32.ofNat 7776 = 7776 := rfl
theorem on_8192 : Int32.ofNat 8192 = 8192 := rfl
theorem on_16384 : Int32.ofNat 16384 = 16384 := rfl
section YC
variable {d : Nat} {y : xMI} {pc : Nat} {al : xAL} {st : List Value} {g : xSt} {r : Option Value × xSt}
theorem Y_callS1 {idx n : Nat} {y' : xMI} {as rest : List Value} {v : Value} {g' : xSt} (hd : decode y.2.1 pc = .ok (.invokestatic idx, 3)) (hcl : xCl y.2.2.2.2 idx = some (0, y', n)) (has : (st.take n).reverse = as) (hr : st.drop n = rest) (hn : Nat.ble n st.length = true) (hs : Nat.ble ((rest.map fun v => v.category).sum) 8 = true) (he : Nat.ble (xEnt as).length y'.2.2.1 = true) (hm : xCallM d y' as g = some (some v, g')) (k : xX (d + 1) y (pc + 3) al (v :: rest) g' = some r) : xX (d + 1) y pc al st g = some r := Y_callS hd hcl has hr hn hs he hm k
theorem Y_callS0 {idx n : Nat} {y' : xMI} {as rest : List Value} {g' : xSt} (hd : decode y.2.1 pc = .ok (.invokestatic idx, 3)) (hcl : xCl y.2.2.2.2 idx = some (0, y', n)) (has : (st.take n).reverse = as) (hr : st.drop n = rest) (hn : Nat.ble n st.length = true) (hs : Nat.ble ((rest.map fun v => v.category).sum) 8 = true) (he : Nat.ble (xEnt as).length y'.2.2.1 = true) (hm : xCallM d y' as g = some (none, g')) (k : xX (d + 1) y (pc + 3) al rest g' = some r) : xX (d + 1) y pc al st g = some r := Y_callS hd hcl has hr hn hs he hm k
theorem Y_callV1 {idx n o : Nat} {y' : xMI} {as rest : List Value} {v : Value} {g' : xSt} (hd : decode y.2.1 pc = .ok (.invokevirtual idx, 3)) (hcl : xCl y.2.2.2.2 idx = some (2, y', n)) (has : (st.take n).reverse = as) (hr : st.drop n = .ref o :: rest) (ho : xIs g o y'.2.2.2.2 = true) (hn : Nat.ble n st.length = true) (hs : Nat.ble ((rest.map fun v => v.category).sum) 8 = true) (he : Nat.ble (xEnt (.ref o :: as)).length y'.2.2.1 = true) (hm : xCallM d y' (.ref o :: as) g = some (some v, g')) (k : xX (d + 1) y (pc + 3) al (v :: rest) g' = some r) : xX (d + 1) y pc al st g = some r := Y_callV hd hcl has hr ho hn hs he hm k
theorem Y_callV0 {idx n o : Nat} {y' : xMI} {as rest : List Value} {g' : xSt} (hd : decode y.2.1 pc = .ok (.invokevirtual idx, 3)) (hcl : xCl y.2.2.2.2 idx = some (2, y', n)) (has : (st.take n).reverse = as) (hr : st.drop n = .ref o :: rest) (ho : xIs g o y'.2.2.2.2 = true) (hn : Nat.ble n st.length = true) (hs : Nat.ble ((rest.map fun v => v.category).sum) 8 = true) (he : Nat.ble (xEnt (.ref o :: as)).length y'.2.2.1 = true) (hm : xCallM d y' (.ref o :: as) g = some (none, g')) (k : xX (d + 1) y (pc + 3) al rest g' = some r) : xX (d + 1) y pc al st g = some r := Y_callV hd hcl has hr ho hn hs he hm k
theorem Y_aald {o n t : Nat} {j : Int32} (hd : decode y.2.1 pc = .ok (.aaload, 1)) (ha : xArr g o (.object RX0) n) (hi : vp_in j n) (hp : xR g o j.toNatClampNeg = some t) (k : xX d y (pc + 1) al (.ref t :: st) g = some r) : xX d y pc al (.int j :: .ref o :: st) g = some r := (X_hp hd rfl rfl rfl rfl rfl rfl (by simp only [xHp, ha.ar hi, if_true, hp, va_rf])).trans k
theorem Y_swc {i : Instr} {len pc' : Nat} {x c : Int32} (hx : x = c) (hd : decode y.2.1 pc = .ok (i, len)) (hj : xRet none i len [.int c] = none ∧ xJp i len pc [.int c] = some (pc', []) ∧ (match i with
    | .tableswitch .. => true
    | _ => false) = true) (k : xX d y pc' al [] g = some r) : xX d y pc al [.int x] g = some r := by
  subst hx
  obtain ⟨-, h2, h3⟩ := hj
  cases i <;> simp at h3
  exact (X_jp hd rfl rfl h2).trans k
theorem Y_swd {dflt hi : Int} {offs : Array Int} {len : Nat} {x : Int32} (pc' : Nat) (hd : decode y.2.1 pc = .ok (.tableswitch dflt 0 hi offs, len)) (h : x.toInt < 0 ∨ hi < x.toInt) (ht : (pc : Int) + dflt = (pc' : Int)) (k : xX d y pc' al [] g = some r) : xX d y pc al [.int x] g = some r := by
  refine (X_jp (pc' := pc') (st' := []) hd rfl rfl ?_).trans k
  have h0 : (0 : Int) ≤ (pc : Int) + dflt := by rw [ht]; exact Int.natCast_nonneg _
  have h1 : (0 : Int) ≤ ((pc' : Nat) : Int) := Int.natCast_nonneg _
  simp only [xJp, if_pos h, ht, Int.toNat_natCast, if_pos h1]
end YC
theorem xsw {x : Int32} (n : Nat) (hn : n < 2 ^ 31) (h : ∀ i, i < n → ¬ x = nI i) : x.toInt < 0 ∨ (n : Int) - 1 < x.toInt := by
  by_cases h0 : x < 0
  · left
    have := Int32.lt_iff_toInt_lt.mp h0
    simpa using this
  · right
    obtain ⟨j, hj, rfl⟩ := nI_of h0
    rw [nI_toInt hj]
    have : ¬ j < n := fun q => h j q rfl
    omega
theorem xsw4 {x : Int32} (q0 : ¬ x = 0) (q1 : ¬ x = 1) (q2 : ¬ x = 2) (q3 : ¬ x = 3) : x.toInt < 0 ∨ (3 : Int) < x.toInt :=
  xsw 4 (by decide) (fun i hi => match i, hi with
    | 0, _ => q0
    | 1, _ => q1
    | 2, _ => q2
    | 3, _ => q3)
theorem xsw10 {x : Int32} (q0 : ¬ x = 0) (q1 : ¬ x = 1) (q2 : ¬ x = 2) (q3 : ¬ x = 3) (q4 : ¬ x = 4) (q5 : ¬ x = 5) (q6 : ¬ x = 6) (q7 : ¬ x = 7) (q8 : ¬ x = 8) (q9 : ¬ x = 9) : x.toInt < 0 ∨ (9 : Int) < x.toInt :=
  xsw 10 (by decide) (fun i hi => match i, hi with
    | 0, _ => q0
    | 1, _ => q1
    | 2, _ => q2
    | 3, _ => q3
    | 4, _ => q4
    | 5, _ => q5
    | 6, _ => q6
    | 7, _ => q7
    | 8, _ => q8
    | 9, _ => q9)
