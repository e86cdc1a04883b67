/-! stretches of HeavierRow$Guesses, by program (wip/whole/genall.py) -/
theorem dX1_load_0 : decode mX1_load.2.1 0 = .ok (.iconst 0, 1) := by decide +kernel
theorem dX1_load_1 : decode mX1_load.2.1 1 = .ok (.istore 4, 2) := by decide +kernel
theorem dX1_load_3 : decode mX1_load.2.1 3 = .ok (.aload_n 0, 1) := by decide +kernel
theorem dX1_load_4 : decode mX1_load.2.1 4 = .ok (.getfield 54, 3) := by decide +kernel
theorem dX1_load_7 : decode mX1_load.2.1 7 = .ok (.aload_n 1, 1) := by decide +kernel
theorem dX1_load_8 : decode mX1_load.2.1 8 = .ok (.getfield 57, 3) := by decide +kernel
theorem dX1_load_11 : decode mX1_load.2.1 11 = .ok (.if_icmp .ne 14, 3) := by decide +kernel
theorem dX1_load_14 : decode mX1_load.2.1 14 = .ok (.aload_n 0, 1) := by decide +kernel
theorem dX1_load_15 : decode mX1_load.2.1 15 = .ok (.getfield 58, 3) := by decide +kernel
theorem dX1_load_18 : decode mX1_load.2.1 18 = .ok (.aload_n 1, 1) := by decide +kernel
theorem dX1_load_19 : decode mX1_load.2.1 19 = .ok (.getfield 61, 3) := by decide +kernel
theorem dX1_load_22 : decode mX1_load.2.1 22 = .ok (.if_icmp .eq 7, 3) := by decide +kernel
theorem dX1_load_25 : decode mX1_load.2.1 25 = .ok (.iconst 1, 1) := by decide +kernel
theorem dX1_load_26 : decode mX1_load.2.1 26 = .ok (.goto 4, 3) := by decide +kernel
theorem dX1_load_29 : decode mX1_load.2.1 29 = .ok (.iconst 0, 1) := by decide +kernel
theorem dX1_load_30 : decode mX1_load.2.1 30 = .ok (.istore 5, 2) := by decide +kernel
theorem dX1_load_32 : decode mX1_load.2.1 32 = .ok (.aload_n 0, 1) := by decide +kernel
theorem dX1_load_33 : decode mX1_load.2.1 33 = .ok (.aload_n 1, 1) := by decide +kernel
theorem dX1_load_34 : decode mX1_load.2.1 34 = .ok (.getfield 57, 3) := by decide +kernel
theorem dX1_load_37 : decode mX1_load.2.1 37 = .ok (.putfield 54, 3) := by decide +kernel
theorem dX1_load_40 : decode mX1_load.2.1 40 = .ok (.aload_n 0, 1) := by decide +kernel
theorem dX1_load_41 : decode mX1_load.2.1 41 = .ok (.aload_n 1, 1) := by decide +kernel
theorem dX1_load_42 : decode mX1_load.2.1 42 = .ok (.getfield 61, 3) := by decide +kernel
theorem dX1_load_45 : decode mX1_load.2.1 45 = .ok (.putfield 58, 3) := by decide +kernel
theorem dX1_load_48 : decode mX1_load.2.1 48 = .ok (.iconst 0, 1) := by decide +kernel
theorem dX1_load_49 : decode mX1_load.2.1 49 = .ok (.istore 6, 2) := by decide +kernel
theorem dX1_load_51 : decode mX1_load.2.1 51 = .ok (.iload 6, 2) := by decide +kernel
theorem dX1_load_53 : decode mX1_load.2.1 53 = .ok (.aload_n 2, 1) := by decide +kernel
theorem dX1_load_54 : decode mX1_load.2.1 54 = .ok (.getfield 62, 3) := by decide +kernel
theorem dX1_load_57 : decode mX1_load.2.1 57 = .ok (.if_icmp .ge 128, 3) := by decide +kernel
theorem dX1_load_60 : decode mX1_load.2.1 60 = .ok (.aload_n 2, 1) := by decide +kernel
theorem dX1_load_61 : decode mX1_load.2.1 61 = .ok (.getfield 67, 3) := by decide +kernel
theorem dX1_load_64 : decode mX1_load.2.1 64 = .ok (.iload 6, 2) := by decide +kernel
theorem dX1_load_66 : decode mX1_load.2.1 66 = .ok (.invokestatic 70, 3) := by decide +kernel
theorem dX1_load_69 : decode mX1_load.2.1 69 = .ok (.istore 7, 2) := by decide +kernel
theorem dX1_load_71 : decode mX1_load.2.1 71 = .ok (.aload_n 2, 1) := by decide +kernel
theorem dX1_load_72 : decode mX1_load.2.1 72 = .ok (.getfield 76, 3) := by decide +kernel
theorem dX1_load_75 : decode mX1_load.2.1 75 = .ok (.iload 6, 2) := by decide +kernel
theorem dX1_load_77 : decode mX1_load.2.1 77 = .ok (.invokestatic 70, 3) := by decide +kernel
theorem dX1_load_80 : decode mX1_load.2.1 80 = .ok (.istore 8, 2) := by decide +kernel
theorem dX1_load_82 : decode mX1_load.2.1 82 = .ok (.aload_n 2, 1) := by decide +kernel
theorem dX1_load_83 : decode mX1_load.2.1 83 = .ok (.getfield 79, 3) := by decide +kernel
theorem dX1_load_86 : decode mX1_load.2.1 86 = .ok (.iload 6, 2) := by decide +kernel
theorem dX1_load_88 : decode mX1_load.2.1 88 = .ok (.invokestatic 70, 3) := by decide +kernel
theorem dX1_load_91 : decode mX1_load.2.1 91 = .ok (.istore 9, 2) := by decide +kernel
theorem dX1_load_93 : decode mX1_load.2.1 93 = .ok (.aload_n 2, 1) := by decide +kernel
theorem dX1_load_94 : decode mX1_load.2.1 94 = .ok (.iload 6, 2) := by decide +kernel
theorem dX1_load_96 : decode mX1_load.2.1 96 = .ok (.iload_n 3, 1) := by decide +kernel
theorem dX1_load_97 : decode mX1_load.2.1 97 = .ok (.invokevirtual 82, 3) := by decide +kernel
theorem dX1_load_100 : decode mX1_load.2.1 100 = .ok (.ifCond .eq 79, 3) := by decide +kernel
theorem dX1_load_103 : decode mX1_load.2.1 103 = .ok (.aload_n 0, 1) := by decide +kernel
theorem dX1_load_104 : decode mX1_load.2.1 104 = .ok (.iload 7, 2) := by decide +kernel
theorem dX1_load_106 : decode mX1_load.2.1 106 = .ok (.iload 8, 2) := by decide +kernel
theorem dX1_load_108 : decode mX1_load.2.1 108 = .ok (.iload 9, 2) := by decide +kernel
theorem dX1_load_110 : decode mX1_load.2.1 110 = .ok (.iload 4, 2) := by decide +kernel
theorem dX1_load_112 : decode mX1_load.2.1 112 = .ok (.invokevirtual 86, 3) := by decide +kernel
theorem dX1_load_115 : decode mX1_load.2.1 115 = .ok (.ifCond .ne 64, 3) := by decide +kernel
theorem dX1_load_118 : decode mX1_load.2.1 118 = .ok (.iload 5, 2) := by decide +kernel
theorem dX1_load_120 : decode mX1_load.2.1 120 = .ok (.aload_n 0, 1) := by decide +kernel
theorem dX1_load_121 : decode mX1_load.2.1 121 = .ok (.iload 4, 2) := by decide +kernel
theorem dX1_load_123 : decode mX1_load.2.1 123 = .ok (.iload 7, 2) := by decide +kernel
theorem dX1_load_125 : decode mX1_load.2.1 125 = .ok (.iload 8, 2) := by decide +kernel
theorem dX1_load_127 : decode mX1_load.2.1 127 = .ok (.iload 9, 2) := by decide +kernel
theorem dX1_load_129 : decode mX1_load.2.1 129 = .ok (.invokevirtual 90, 3) := by decide +kernel
theorem dX1_load_132 : decode mX1_load.2.1 132 = .ok (.ifCond .ne 7, 3) := by decide +kernel
theorem dX1_load_135 : decode mX1_load.2.1 135 = .ok (.iconst 1, 1) := by decide +kernel
theorem dX1_load_136 : decode mX1_load.2.1 136 = .ok (.goto 4, 3) := by decide +kernel
theorem dX1_load_139 : decode mX1_load.2.1 139 = .ok (.iconst 0, 1) := by decide +kernel
theorem dX1_load_140 : decode mX1_load.2.1 140 = .ok (.ior, 1) := by decide +kernel
theorem dX1_load_141 : decode mX1_load.2.1 141 = .ok (.istore 5, 2) := by decide +kernel
theorem dX1_load_143 : decode mX1_load.2.1 143 = .ok (.aload_n 0, 1) := by decide +kernel
theorem dX1_load_144 : decode mX1_load.2.1 144 = .ok (.getfield 9, 3) := by decide +kernel
theorem dX1_load_147 : decode mX1_load.2.1 147 = .ok (.iload 4, 2) := by decide +kernel
theorem dX1_load_149 : decode mX1_load.2.1 149 = .ok (.iload 7, 2) := by decide +kernel
theorem dX1_load_151 : decode mX1_load.2.1 151 = .ok (.invokestatic 93, 3) := by decide +kernel
theorem dX1_load_154 : decode mX1_load.2.1 154 = .ok (.aload_n 0, 1) := by decide +kernel
theorem dX1_load_155 : decode mX1_load.2.1 155 = .ok (.getfield 15, 3) := by decide +kernel
theorem dX1_load_158 : decode mX1_load.2.1 158 = .ok (.iload 4, 2) := by decide +kernel
theorem dX1_load_160 : decode mX1_load.2.1 160 = .ok (.iload 8, 2) := by decide +kernel
theorem dX1_load_162 : decode mX1_load.2.1 162 = .ok (.invokestatic 93, 3) := by decide +kernel
theorem dX1_load_165 : decode mX1_load.2.1 165 = .ok (.aload_n 0, 1) := by decide +kernel
theorem dX1_load_166 : decode mX1_load.2.1 166 = .ok (.getfield 18, 3) := by decide +kernel
theorem dX1_load_169 : decode mX1_load.2.1 169 = .ok (.iload 4, 2) := by decide +kernel
theorem dX1_load_171 : decode mX1_load.2.1 171 = .ok (.iload 9, 2) := by decide +kernel
theorem dX1_load_173 : decode mX1_load.2.1 173 = .ok (.invokestatic 93, 3) := by decide +kernel
theorem dX1_load_176 : decode mX1_load.2.1 176 = .ok (.iinc 4 1, 3) := by decide +kernel
theorem dX1_load_179 : decode mX1_load.2.1 179 = .ok (.iinc 6 1, 3) := by decide +kernel
theorem dX1_load_182 : decode mX1_load.2.1 182 = .ok (.goto (-131), 3) := by decide +kernel
theorem dX1_load_185 : decode mX1_load.2.1 185 = .ok (.iload 5, 2) := by decide +kernel
theorem dX1_load_187 : decode mX1_load.2.1 187 = .ok (.ifCond .ne 12, 3) := by decide +kernel
theorem dX1_load_190 : decode mX1_load.2.1 190 = .ok (.iload 4, 2) := by decide +kernel
theorem dX1_load_192 : decode mX1_load.2.1 192 = .ok (.aload_n 0, 1) := by decide +kernel
theorem dX1_load_193 : decode mX1_load.2.1 193 = .ok (.getfield 97, 3) := by decide +kernel
theorem dX1_load_196 : decode mX1_load.2.1 196 = .ok (.if_icmp .eq 8, 3) := by decide +kernel
theorem dX1_load_199 : decode mX1_load.2.1 199 = .ok (.aload_n 0, 1) := by decide +kernel
theorem dX1_load_200 : decode mX1_load.2.1 200 = .ok (.iconst (-1), 1) := by decide +kernel
theorem dX1_load_201 : decode mX1_load.2.1 201 = .ok (.putfield 38, 3) := by decide +kernel
theorem dX1_load_204 : decode mX1_load.2.1 204 = .ok (.aload_n 0, 1) := by decide +kernel
theorem dX1_load_205 : decode mX1_load.2.1 205 = .ok (.iload 4, 2) := by decide +kernel
theorem dX1_load_207 : decode mX1_load.2.1 207 = .ok (.putfield 97, 3) := by decide +kernel
theorem dX1_load_210 : decode mX1_load.2.1 210 = .ok (.return_, 1) := by decide +kernel
theorem dX1_isRule_0 : decode mX1_isRule.2.1 0 = .ok (.iconst 0, 1) := by decide +kernel
theorem dX1_isRule_1 : decode mX1_isRule.2.1 1 = .ok (.istore 5, 2) := by decide +kernel
theorem dX1_isRule_3 : decode mX1_isRule.2.1 3 = .ok (.iload 5, 2) := by decide +kernel
theorem dX1_isRule_5 : decode mX1_isRule.2.1 5 = .ok (.iload 4, 2) := by decide +kernel
theorem dX1_isRule_7 : decode mX1_isRule.2.1 7 = .ok (.if_icmp .ge 23, 3) := by decide +kernel
theorem dX1_isRule_10 : decode mX1_isRule.2.1 10 = .ok (.aload_n 0, 1) := by decide +kernel
theorem dX1_isRule_11 : decode mX1_isRule.2.1 11 = .ok (.iload 5, 2) := by decide +kernel
theorem dX1_isRule_13 : decode mX1_isRule.2.1 13 = .ok (.iload_n 1, 1) := by decide +kernel
theorem dX1_isRule_14 : decode mX1_isRule.2.1 14 = .ok (.iload_n 2, 1) := by decide +kernel
theorem dX1_isRule_15 : decode mX1_isRule.2.1 15 = .ok (.iload_n 3, 1) := by decide +kernel
theorem dX1_isRule_16 : decode mX1_isRule.2.1 16 = .ok (.invokevirtual 90, 3) := by decide +kernel
theorem dX1_isRule_19 : decode mX1_isRule.2.1 19 = .ok (.ifCond .eq 5, 3) := by decide +kernel
theorem dX1_isRule_22 : decode mX1_isRule.2.1 22 = .ok (.iconst 1, 1) := by decide +kernel
theorem dX1_isRule_23 : decode mX1_isRule.2.1 23 = .ok (.ireturn, 1) := by decide +kernel
theorem dX1_isRule_24 : decode mX1_isRule.2.1 24 = .ok (.iinc 5 1, 3) := by decide +kernel
theorem dX1_isRule_27 : decode mX1_isRule.2.1 27 = .ok (.goto (-24), 3) := by decide +kernel
theorem dX1_isRule_30 : decode mX1_isRule.2.1 30 = .ok (.iconst 0, 1) := by decide +kernel
theorem dX1_isRule_31 : decode mX1_isRule.2.1 31 = .ok (.ireturn, 1) := by decide +kernel
theorem dX1_isRuleAt_0 : decode mX1_isRuleAt.2.1 0 = .ok (.aload_n 0, 1) := by decide +kernel
theorem dX1_isRuleAt_1 : decode mX1_isRuleAt.2.1 1 = .ok (.getfield 9, 3) := by decide +kernel
theorem dX1_isRuleAt_4 : decode mX1_isRuleAt.2.1 4 = .ok (.iload_n 1, 1) := by decide +kernel
theorem dX1_isRuleAt_5 : decode mX1_isRuleAt.2.1 5 = .ok (.invokestatic 70, 3) := by decide +kernel
theorem dX1_isRuleAt_8 : decode mX1_isRuleAt.2.1 8 = .ok (.iload_n 2, 1) := by decide +kernel
theorem dX1_isRuleAt_9 : decode mX1_isRuleAt.2.1 9 = .ok (.if_icmp .ne 32, 3) := by decide +kernel
theorem dX1_isRuleAt_12 : decode mX1_isRuleAt.2.1 12 = .ok (.aload_n 0, 1) := by decide +kernel
theorem dX1_isRuleAt_13 : decode mX1_isRuleAt.2.1 13 = .ok (.getfield 15, 3) := by decide +kernel
theorem dX1_isRuleAt_16 : decode mX1_isRuleAt.2.1 16 = .ok (.iload_n 1, 1) := by decide +kernel
theorem dX1_isRuleAt_17 : decode mX1_isRuleAt.2.1 17 = .ok (.invokestatic 70, 3) := by decide +kernel
theorem dX1_isRuleAt_20 : decode mX1_isRuleAt.2.1 20 = .ok (.iload_n 3, 1) := by decide +kernel
theorem dX1_isRuleAt_21 : decode mX1_isRuleAt.2.1 21 = .ok (.if_icmp .ne 20, 3) := by decide +kernel
theorem dX1_isRuleAt_24 : decode mX1_isRuleAt.2.1 24 = .ok (.aload_n 0, 1) := by decide +kernel
theorem dX1_isRuleAt_25 : decode mX1_isRuleAt.2.1 25 = .ok (.getfield 18, 3) := by decide +kernel
theorem dX1_isRuleAt_28 : decode mX1_isRuleAt.2.1 28 = .ok (.iload_n 1, 1) := by decide +kernel
theorem dX1_isRuleAt_29 : decode mX1_isRuleAt.2.1 29 = .ok (.invokestatic 70, 3) := by decide +kernel
theorem dX1_isRuleAt_32 : decode mX1_isRuleAt.2.1 32 = .ok (.iload 4, 2) := by decide +kernel
theorem dX1_isRuleAt_34 : decode mX1_isRuleAt.2.1 34 = .ok (.if_icmp .ne 7, 3) := by decide +kernel
theorem dX1_isRuleAt_37 : decode mX1_isRuleAt.2.1 37 = .ok (.iconst 1, 1) := by decide +kernel
theorem dX1_isRuleAt_38 : decode mX1_isRuleAt.2.1 38 = .ok (.goto 4, 3) := by decide +kernel
theorem dX1_isRuleAt_41 : decode mX1_isRuleAt.2.1 41 = .ok (.iconst 0, 1) := by decide +kernel
theorem dX1_isRuleAt_42 : decode mX1_isRuleAt.2.1 42 = .ok (.ireturn, 1) := by decide +kernel
theorem dX1_guessAll_0 : decode mX1_guessAll.2.1 0 = .ok (.aload_n 0, 1) := by decide +kernel
theorem dX1_guessAll_1 : decode mX1_guessAll.2.1 1 = .ok (.getfield 38, 3) := by decide +kernel
theorem dX1_guessAll_4 : decode mX1_guessAll.2.1 4 = .ok (.iconst (-1), 1) := by decide +kernel
theorem dX1_guessAll_5 : decode mX1_guessAll.2.1 5 = .ok (.if_icmp .ne 17, 3) := by decide +kernel
theorem dX1_guessAll_8 : decode mX1_guessAll.2.1 8 = .ok (.aload_n 0, 1) := by decide +kernel
theorem dX1_guessAll_9 : decode mX1_guessAll.2.1 9 = .ok (.iconst 0, 1) := by decide +kernel
theorem dX1_guessAll_10 : decode mX1_guessAll.2.1 10 = .ok (.putfield 100, 3) := by decide +kernel
theorem dX1_guessAll_13 : decode mX1_guessAll.2.1 13 = .ok (.aload_n 0, 1) := by decide +kernel
theorem dX1_guessAll_14 : decode mX1_guessAll.2.1 14 = .ok (.invokevirtual 103, 3) := by decide +kernel
theorem dX1_guessAll_17 : decode mX1_guessAll.2.1 17 = .ok (.aload_n 0, 1) := by decide +kernel
theorem dX1_guessAll_18 : decode mX1_guessAll.2.1 18 = .ok (.iconst 0, 1) := by decide +kernel
theorem dX1_guessAll_19 : decode mX1_guessAll.2.1 19 = .ok (.putfield 38, 3) := by decide +kernel
theorem dX1_guessAll_22 : decode mX1_guessAll.2.1 22 = .ok (.return_, 1) := by decide +kernel
theorem dX1_guess_0 : decode mX1_guess.2.1 0 = .ok (.aload_n 0, 1) := by decide +kernel
theorem dX1_guess_1 : decode mX1_guess.2.1 1 = .ok (.iconst 0, 1) := by decide +kernel
theorem dX1_guess_2 : decode mX1_guess.2.1 2 = .ok (.putfield 110, 3) := by decide +kernel
theorem dX1_guess_5 : decode mX1_guess.2.1 5 = .ok (.aload_n 0, 1) := by decide +kernel
theorem dX1_guess_6 : decode mX1_guess.2.1 6 = .ok (.getfield 48, 3) := by decide +kernel
theorem dX1_guess_9 : decode mX1_guess.2.1 9 = .ok (.iconst 0, 1) := by decide +kernel
theorem dX1_guess_10 : decode mX1_guess.2.1 10 = .ok (.invokestatic 122, 3) := by decide +kernel
theorem dX1_guess_13 : decode mX1_guess.2.1 13 = .ok (.aload_n 0, 1) := by decide +kernel
theorem dX1_guess_14 : decode mX1_guess.2.1 14 = .ok (.getfield 51, 3) := by decide +kernel
theorem dX1_guess_17 : decode mX1_guess.2.1 17 = .ok (.iconst 0, 1) := by decide +kernel
theorem dX1_guess_18 : decode mX1_guess.2.1 18 = .ok (.invokestatic 122, 3) := by decide +kernel
theorem dX1_guess_21 : decode mX1_guess.2.1 21 = .ok (.aload_n 0, 1) := by decide +kernel
theorem dX1_guess_22 : decode mX1_guess.2.1 22 = .ok (.getfield 32, 3) := by decide +kernel
theorem dX1_guess_25 : decode mX1_guess.2.1 25 = .ok (.bipush 7, 2) := by decide +kernel
theorem dX1_guess_27 : decode mX1_guess.2.1 27 = .ok (.invokestatic 122, 3) := by decide +kernel
theorem dX1_guess_30 : decode mX1_guess.2.1 30 = .ok (.aload_n 0, 1) := by decide +kernel
theorem dX1_guess_31 : decode mX1_guess.2.1 31 = .ok (.getfield 35, 3) := by decide +kernel
theorem dX1_guess_34 : decode mX1_guess.2.1 34 = .ok (.iconst 0, 1) := by decide +kernel
theorem dX1_guess_35 : decode mX1_guess.2.1 35 = .ok (.invokestatic 122, 3) := by decide +kernel
theorem dX1_guess_38 : decode mX1_guess.2.1 38 = .ok (.aload_n 0, 1) := by decide +kernel
theorem dX1_guess_39 : decode mX1_guess.2.1 39 = .ok (.getfield 54, 3) := by decide +kernel
theorem dX1_guess_42 : decode mX1_guess.2.1 42 = .ok (.ifCond .ne 8, 3) := by decide +kernel
theorem dX1_guess_45 : decode mX1_guess.2.1 45 = .ok (.aload_n 0, 1) := by decide +kernel
theorem dX1_guess_46 : decode mX1_guess.2.1 46 = .ok (.iconst 1, 1) := by decide +kernel
theorem dX1_guess_47 : decode mX1_guess.2.1 47 = .ok (.putfield 110, 3) := by decide +kernel
theorem dX1_guess_50 : decode mX1_guess.2.1 50 = .ok (.aload_n 0, 1) := by decide +kernel
theorem dX1_guess_51 : decode mX1_guess.2.1 51 = .ok (.iconst 0, 1) := by decide +kernel
theorem dX1_guess_52 : decode mX1_guess.2.1 52 = .ok (.invokestatic 126, 3) := by decide +kernel
theorem dX1_guess_55 : decode mX1_guess.2.1 55 = .ok (.return_, 1) := by decide +kernel
theorem dX1_layFrom_0 : decode mX1_layFrom.2.1 0 = .ok (.iload_n 1, 1) := by decide +kernel
theorem dX1_layFrom_1 : decode mX1_layFrom.2.1 1 = .ok (.ifCond .lt 16, 3) := by decide +kernel
theorem dX1_layFrom_4 : decode mX1_layFrom.2.1 4 = .ok (.iload_n 1, 1) := by decide +kernel
theorem dX1_layFrom_5 : decode mX1_layFrom.2.1 5 = .ok (.aload_n 0, 1) := by decide +kernel
theorem dX1_layFrom_6 : decode mX1_layFrom.2.1 6 = .ok (.getfield 54, 3) := by decide +kernel
theorem dX1_layFrom_9 : decode mX1_layFrom.2.1 9 = .ok (.if_icmp .ge 8, 3) := by decide +kernel
theorem dX1_layFrom_12 : decode mX1_layFrom.2.1 12 = .ok (.iload_n 1, 1) := by decide +kernel
theorem dX1_layFrom_13 : decode mX1_layFrom.2.1 13 = .ok (.iconst 5, 1) := by decide +kernel
theorem dX1_layFrom_14 : decode mX1_layFrom.2.1 14 = .ok (.if_icmp .lt 4, 3) := by decide +kernel
theorem dX1_layFrom_17 : decode mX1_layFrom.2.1 17 = .ok (.return_, 1) := by decide +kernel
theorem dX1_layFrom_18 : decode mX1_layFrom.2.1 18 = .ok (.iload_n 1, 1) := by decide +kernel
theorem dX1_layFrom_19 : decode mX1_layFrom.2.1 19 = .ok (.aload_n 0, 1) := by decide +kernel
theorem dX1_layFrom_20 : decode mX1_layFrom.2.1 20 = .ok (.getfield 54, 3) := by decide +kernel
theorem dX1_layFrom_23 : decode mX1_layFrom.2.1 23 = .ok (.iconst 1, 1) := by decide +kernel
theorem dX1_layFrom_24 : decode mX1_layFrom.2.1 24 = .ok (.isub, 1) := by decide +kernel
theorem dX1_layFrom_25 : decode mX1_layFrom.2.1 25 = .ok (.if_icmp .ne 9, 3) := by decide +kernel
theorem dX1_layFrom_28 : decode mX1_layFrom.2.1 28 = .ok (.aload_n 0, 1) := by decide +kernel
theorem dX1_layFrom_29 : decode mX1_layFrom.2.1 29 = .ok (.iload_n 1, 1) := by decide +kernel
theorem dX1_layFrom_30 : decode mX1_layFrom.2.1 30 = .ok (.invokevirtual 130, 3) := by decide +kernel
theorem dX1_layFrom_33 : decode mX1_layFrom.2.1 33 = .ok (.return_, 1) := by decide +kernel
theorem dX1_layFrom_34 : decode mX1_layFrom.2.1 34 = .ok (.iconst 1, 1) := by decide +kernel
theorem dX1_layFrom_35 : decode mX1_layFrom.2.1 35 = .ok (.istore_n 2, 1) := by decide +kernel
theorem dX1_layFrom_36 : decode mX1_layFrom.2.1 36 = .ok (.iload_n 2, 1) := by decide +kernel
theorem dX1_layFrom_37 : decode mX1_layFrom.2.1 37 = .ok (.bipush 6, 2) := by decide +kernel
theorem dX1_layFrom_39 : decode mX1_layFrom.2.1 39 = .ok (.if_icmp .gt 30, 3) := by decide +kernel
theorem dX1_layFrom_42 : decode mX1_layFrom.2.1 42 = .ok (.aload_n 0, 1) := by decide +kernel
theorem dX1_layFrom_43 : decode mX1_layFrom.2.1 43 = .ok (.iload_n 1, 1) := by decide +kernel
theorem dX1_layFrom_44 : decode mX1_layFrom.2.1 44 = .ok (.iload_n 2, 1) := by decide +kernel
theorem dX1_layFrom_45 : decode mX1_layFrom.2.1 45 = .ok (.invokevirtual 134, 3) := by decide +kernel
theorem dX1_layFrom_48 : decode mX1_layFrom.2.1 48 = .ok (.aload_n 0, 1) := by decide +kernel
theorem dX1_layFrom_49 : decode mX1_layFrom.2.1 49 = .ok (.iload_n 1, 1) := by decide +kernel
theorem dX1_layFrom_50 : decode mX1_layFrom.2.1 50 = .ok (.invokevirtual 137, 3) := by decide +kernel
theorem dX1_layFrom_53 : decode mX1_layFrom.2.1 53 = .ok (.ifCond .eq 10, 3) := by decide +kernel
theorem dX1_layFrom_56 : decode mX1_layFrom.2.1 56 = .ok (.aload_n 0, 1) := by decide +kernel
theorem dX1_layFrom_57 : decode mX1_layFrom.2.1 57 = .ok (.iload_n 1, 1) := by decide +kernel
theorem dX1_layFrom_58 : decode mX1_layFrom.2.1 58 = .ok (.iconst 1, 1) := by decide +kernel
theorem dX1_layFrom_59 : decode mX1_layFrom.2.1 59 = .ok (.iadd, 1) := by decide +kernel
theorem dX1_layFrom_60 : decode mX1_layFrom.2.1 60 = .ok (.invokestatic 126, 3) := by decide +kernel
theorem dX1_layFrom_63 : decode mX1_layFrom.2.1 63 = .ok (.iinc 2 1, 3) := by decide +kernel
theorem dX1_layFrom_66 : decode mX1_layFrom.2.1 66 = .ok (.goto (-30), 3) := by decide +kernel
theorem dX1_layFrom_69 : decode mX1_layFrom.2.1 69 = .ok (.return_, 1) := by decide +kernel
theorem dX1_layLast_0 : decode mX1_layLast.2.1 0 = .ok (.bipush 63, 2) := by decide +kernel
theorem dX1_layLast_2 : decode mX1_layLast.2.1 2 = .ok (.istore_n 2, 1) := by decide +kernel
theorem dX1_layLast_3 : decode mX1_layLast.2.1 3 = .ok (.iconst 0, 1) := by decide +kernel
theorem dX1_layLast_4 : decode mX1_layLast.2.1 4 = .ok (.istore_n 3, 1) := by decide +kernel
theorem dX1_layLast_5 : decode mX1_layLast.2.1 5 = .ok (.iload_n 3, 1) := by decide +kernel
theorem dX1_layLast_6 : decode mX1_layLast.2.1 6 = .ok (.aload_n 0, 1) := by decide +kernel
theorem dX1_layLast_7 : decode mX1_layLast.2.1 7 = .ok (.getfield 97, 3) := by decide +kernel
theorem dX1_layLast_10 : decode mX1_layLast.2.1 10 = .ok (.if_icmp .ge 64, 3) := by decide +kernel
theorem dX1_layLast_13 : decode mX1_layLast.2.1 13 = .ok (.iload_n 2, 1) := by decide +kernel
theorem dX1_layLast_14 : decode mX1_layLast.2.1 14 = .ok (.ifCond .eq 60, 3) := by decide +kernel
theorem dX1_layLast_17 : decode mX1_layLast.2.1 17 = .ok (.aload_n 0, 1) := by decide +kernel
theorem dX1_layLast_18 : decode mX1_layLast.2.1 18 = .ok (.getfield 9, 3) := by decide +kernel
theorem dX1_layLast_21 : decode mX1_layLast.2.1 21 = .ok (.iload_n 3, 1) := by decide +kernel
theorem dX1_layLast_22 : decode mX1_layLast.2.1 22 = .ok (.invokestatic 70, 3) := by decide +kernel
theorem dX1_layLast_25 : decode mX1_layLast.2.1 25 = .ok (.istore 4, 2) := by decide +kernel
theorem dX1_layLast_27 : decode mX1_layLast.2.1 27 = .ok (.aload_n 0, 1) := by decide +kernel
theorem dX1_layLast_28 : decode mX1_layLast.2.1 28 = .ok (.getfield 15, 3) := by decide +kernel
theorem dX1_layLast_31 : decode mX1_layLast.2.1 31 = .ok (.iload_n 3, 1) := by decide +kernel
theorem dX1_layLast_32 : decode mX1_layLast.2.1 32 = .ok (.invokestatic 70, 3) := by decide +kernel
theorem dX1_layLast_35 : decode mX1_layLast.2.1 35 = .ok (.istore 5, 2) := by decide +kernel
theorem dX1_layLast_37 : decode mX1_layLast.2.1 37 = .ok (.iload 4, 2) := by decide +kernel
theorem dX1_layLast_39 : decode mX1_layLast.2.1 39 = .ok (.iload 5, 2) := by decide +kernel
theorem dX1_layLast_41 : decode mX1_layLast.2.1 41 = .ok (.ior, 1) := by decide +kernel
theorem dX1_layLast_42 : decode mX1_layLast.2.1 42 = .ok (.iload_n 1, 1) := by decide +kernel
theorem dX1_layLast_43 : decode mX1_layLast.2.1 43 = .ok (.ishr, 1) := by decide +kernel
theorem dX1_layLast_44 : decode mX1_layLast.2.1 44 = .ok (.iconst 1, 1) := by decide +kernel
theorem dX1_layLast_45 : decode mX1_layLast.2.1 45 = .ok (.if_icmp .ne 23, 3) := by decide +kernel
theorem dX1_layLast_48 : decode mX1_layLast.2.1 48 = .ok (.iload_n 2, 1) := by decide +kernel
theorem dX1_layLast_49 : decode mX1_layLast.2.1 49 = .ok (.aload_n 0, 1) := by decide +kernel
theorem dX1_layLast_50 : decode mX1_layLast.2.1 50 = .ok (.iload 4, 2) := by decide +kernel
theorem dX1_layLast_52 : decode mX1_layLast.2.1 52 = .ok (.iload 5, 2) := by decide +kernel
theorem dX1_layLast_54 : decode mX1_layLast.2.1 54 = .ok (.aload_n 0, 1) := by decide +kernel
theorem dX1_layLast_55 : decode mX1_layLast.2.1 55 = .ok (.getfield 18, 3) := by decide +kernel
theorem dX1_layLast_58 : decode mX1_layLast.2.1 58 = .ok (.iload_n 3, 1) := by decide +kernel
theorem dX1_layLast_59 : decode mX1_layLast.2.1 59 = .ok (.invokestatic 70, 3) := by decide +kernel
theorem dX1_layLast_62 : decode mX1_layLast.2.1 62 = .ok (.iload_n 1, 1) := by decide +kernel
theorem dX1_layLast_63 : decode mX1_layLast.2.1 63 = .ok (.invokevirtual 141, 3) := by decide +kernel
theorem dX1_layLast_66 : decode mX1_layLast.2.1 66 = .ok (.iand, 1) := by decide +kernel
theorem dX1_layLast_67 : decode mX1_layLast.2.1 67 = .ok (.istore_n 2, 1) := by decide +kernel
theorem dX1_layLast_68 : decode mX1_layLast.2.1 68 = .ok (.iinc 3 1, 3) := by decide +kernel
theorem dX1_layLast_71 : decode mX1_layLast.2.1 71 = .ok (.goto (-66), 3) := by decide +kernel
theorem dX1_layLast_74 : decode mX1_layLast.2.1 74 = .ok (.iload_n 2, 1) := by decide +kernel
theorem dX1_layLast_75 : decode mX1_layLast.2.1 75 = .ok (.ifCond .ne 4, 3) := by decide +kernel
theorem dX1_layLast_78 : decode mX1_layLast.2.1 78 = .ok (.return_, 1) := by decide +kernel
theorem dX1_layLast_79 : decode mX1_layLast.2.1 79 = .ok (.aload_n 0, 1) := by decide +kernel
theorem dX1_layLast_80 : decode mX1_layLast.2.1 80 = .ok (.iload_n 2, 1) := by decide +kernel
theorem dX1_layLast_81 : decode mX1_layLast.2.1 81 = .ok (.iload_n 1, 1) := by decide +kernel
theorem dX1_layLast_82 : decode mX1_layLast.2.1 82 = .ok (.invokevirtual 145, 3) := by decide +kernel
theorem dX1_layLast_85 : decode mX1_layLast.2.1 85 = .ok (.iconst 0, 1) := by decide +kernel
theorem dX1_layLast_86 : decode mX1_layLast.2.1 86 = .ok (.istore_n 3, 1) := by decide +kernel
theorem dX1_layLast_87 : decode mX1_layLast.2.1 87 = .ok (.iload_n 3, 1) := by decide +kernel
theorem dX1_layLast_88 : decode mX1_layLast.2.1 88 = .ok (.aload_n 0, 1) := by decide +kernel
theorem dX1_layLast_89 : decode mX1_layLast.2.1 89 = .ok (.getfield 100, 3) := by decide +kernel
theorem dX1_layLast_92 : decode mX1_layLast.2.1 92 = .ok (.if_icmp .ge 73, 3) := by decide +kernel
theorem dX1_layLast_95 : decode mX1_layLast.2.1 95 = .ok (.aload_n 0, 1) := by decide +kernel
theorem dX1_layLast_96 : decode mX1_layLast.2.1 96 = .ok (.getfield 42, 3) := by decide +kernel
theorem dX1_layLast_99 : decode mX1_layLast.2.1 99 = .ok (.iload_n 3, 1) := by decide +kernel
theorem dX1_layLast_100 : decode mX1_layLast.2.1 100 = .ok (.invokestatic 70, 3) := by decide +kernel
theorem dX1_layLast_103 : decode mX1_layLast.2.1 103 = .ok (.istore 4, 2) := by decide +kernel
theorem dX1_layLast_105 : decode mX1_layLast.2.1 105 = .ok (.aload_n 0, 1) := by decide +kernel
theorem dX1_layLast_106 : decode mX1_layLast.2.1 106 = .ok (.getfield 45, 3) := by decide +kernel
theorem dX1_layLast_109 : decode mX1_layLast.2.1 109 = .ok (.iload_n 3, 1) := by decide +kernel
theorem dX1_layLast_110 : decode mX1_layLast.2.1 110 = .ok (.invokestatic 70, 3) := by decide +kernel
theorem dX1_layLast_113 : decode mX1_layLast.2.1 113 = .ok (.istore 5, 2) := by decide +kernel
theorem dX1_layLast_115 : decode mX1_layLast.2.1 115 = .ok (.aload_n 0, 1) := by decide +kernel
theorem dX1_layLast_116 : decode mX1_layLast.2.1 116 = .ok (.iload 4, 2) := by decide +kernel
theorem dX1_layLast_118 : decode mX1_layLast.2.1 118 = .ok (.iload 5, 2) := by decide +kernel
theorem dX1_layLast_120 : decode mX1_layLast.2.1 120 = .ok (.iload_n 1, 1) := by decide +kernel
theorem dX1_layLast_121 : decode mX1_layLast.2.1 121 = .ok (.invokevirtual 148, 3) := by decide +kernel
theorem dX1_layLast_124 : decode mX1_layLast.2.1 124 = .ok (.istore 6, 2) := by decide +kernel
theorem dX1_layLast_126 : decode mX1_layLast.2.1 126 = .ok (.aload_n 0, 1) := by decide +kernel
theorem dX1_layLast_127 : decode mX1_layLast.2.1 127 = .ok (.getfield 48, 3) := by decide +kernel
theorem dX1_layLast_130 : decode mX1_layLast.2.1 130 = .ok (.iload_n 3, 1) := by decide +kernel
theorem dX1_layLast_131 : decode mX1_layLast.2.1 131 = .ok (.iload_n 2, 1) := by decide +kernel
theorem dX1_layLast_132 : decode mX1_layLast.2.1 132 = .ok (.iload 6, 2) := by decide +kernel
theorem dX1_layLast_134 : decode mX1_layLast.2.1 134 = .ok (.iand, 1) := by decide +kernel
theorem dX1_layLast_135 : decode mX1_layLast.2.1 135 = .ok (.invokestatic 152, 3) := by decide +kernel
theorem dX1_layLast_138 : decode mX1_layLast.2.1 138 = .ok (.invokestatic 158, 3) := by decide +kernel
theorem dX1_layLast_141 : decode mX1_layLast.2.1 141 = .ok (.aload_n 0, 1) := by decide +kernel
theorem dX1_layLast_142 : decode mX1_layLast.2.1 142 = .ok (.getfield 51, 3) := by decide +kernel
theorem dX1_layLast_145 : decode mX1_layLast.2.1 145 = .ok (.iload_n 3, 1) := by decide +kernel
theorem dX1_layLast_146 : decode mX1_layLast.2.1 146 = .ok (.iload_n 2, 1) := by decide +kernel
theorem dX1_layLast_147 : decode mX1_layLast.2.1 147 = .ok (.iload 6, 2) := by decide +kernel
theorem dX1_layLast_149 : decode mX1_layLast.2.1 149 = .ok (.bipush 6, 2) := by decide +kernel
theorem dX1_layLast_151 : decode mX1_layLast.2.1 151 = .ok (.ishr, 1) := by decide +kernel
theorem dX1_layLast_152 : decode mX1_layLast.2.1 152 = .ok (.iand, 1) := by decide +kernel
theorem dX1_layLast_153 : decode mX1_layLast.2.1 153 = .ok (.invokestatic 152, 3) := by decide +kernel
theorem dX1_layLast_156 : decode mX1_layLast.2.1 156 = .ok (.invokestatic 158, 3) := by decide +kernel
theorem dX1_layLast_159 : decode mX1_layLast.2.1 159 = .ok (.iinc 3 1, 3) := by decide +kernel
theorem dX1_layLast_162 : decode mX1_layLast.2.1 162 = .ok (.goto (-75), 3) := by decide +kernel
theorem dX1_layLast_165 : decode mX1_layLast.2.1 165 = .ok (.return_, 1) := by decide +kernel
theorem dX1_fitting_0 : decode mX1_fitting.2.1 0 = .ok (.aload_n 0, 1) := by decide +kernel
theorem dX1_fitting_1 : decode mX1_fitting.2.1 1 = .ok (.iload_n 1, 1) := by decide +kernel
theorem dX1_fitting_2 : decode mX1_fitting.2.1 2 = .ok (.iload_n 2, 1) := by decide +kernel
theorem dX1_fitting_3 : decode mX1_fitting.2.1 3 = .ok (.iload 4, 2) := by decide +kernel
theorem dX1_fitting_5 : decode mX1_fitting.2.1 5 = .ok (.invokevirtual 148, 3) := by decide +kernel
theorem dX1_fitting_8 : decode mX1_fitting.2.1 8 = .ok (.istore 5, 2) := by decide +kernel
theorem dX1_fitting_10 : decode mX1_fitting.2.1 10 = .ok (.bipush 63, 2) := by decide +kernel
theorem dX1_fitting_12 : decode mX1_fitting.2.1 12 = .ok (.iload 5, 2) := by decide +kernel
theorem dX1_fitting_14 : decode mX1_fitting.2.1 14 = .ok (.iand, 1) := by decide +kernel
theorem dX1_fitting_15 : decode mX1_fitting.2.1 15 = .ok (.istore 6, 2) := by decide +kernel
theorem dX1_fitting_17 : decode mX1_fitting.2.1 17 = .ok (.iload 5, 2) := by decide +kernel
theorem dX1_fitting_19 : decode mX1_fitting.2.1 19 = .ok (.bipush 6, 2) := by decide +kernel
theorem dX1_fitting_21 : decode mX1_fitting.2.1 21 = .ok (.ishr, 1) := by decide +kernel
theorem dX1_fitting_22 : decode mX1_fitting.2.1 22 = .ok (.istore 7, 2) := by decide +kernel
theorem dX1_fitting_24 : decode mX1_fitting.2.1 24 = .ok (.iload_n 3, 1) := by decide +kernel
theorem dX1_fitting_25 : decode mX1_fitting.2.1 25 = .ok (.iconst 1, 1) := by decide +kernel
theorem dX1_fitting_26 : decode mX1_fitting.2.1 26 = .ok (.if_icmp .ne 8, 3) := by decide +kernel
theorem dX1_fitting_29 : decode mX1_fitting.2.1 29 = .ok (.iload 6, 2) := by decide +kernel
theorem dX1_fitting_31 : decode mX1_fitting.2.1 31 = .ok (.goto 25, 3) := by decide +kernel
theorem dX1_fitting_34 : decode mX1_fitting.2.1 34 = .ok (.iload_n 3, 1) := by decide +kernel
theorem dX1_fitting_35 : decode mX1_fitting.2.1 35 = .ok (.iconst 2, 1) := by decide +kernel
theorem dX1_fitting_36 : decode mX1_fitting.2.1 36 = .ok (.if_icmp .ne 8, 3) := by decide +kernel
theorem dX1_fitting_39 : decode mX1_fitting.2.1 39 = .ok (.iload 7, 2) := by decide +kernel
theorem dX1_fitting_41 : decode mX1_fitting.2.1 41 = .ok (.goto 15, 3) := by decide +kernel
theorem dX1_fitting_44 : decode mX1_fitting.2.1 44 = .ok (.bipush 63, 2) := by decide +kernel
theorem dX1_fitting_46 : decode mX1_fitting.2.1 46 = .ok (.iload 6, 2) := by decide +kernel
theorem dX1_fitting_48 : decode mX1_fitting.2.1 48 = .ok (.iconst (-1), 1) := by decide +kernel
theorem dX1_fitting_49 : decode mX1_fitting.2.1 49 = .ok (.ixor, 1) := by decide +kernel
theorem dX1_fitting_50 : decode mX1_fitting.2.1 50 = .ok (.iand, 1) := by decide +kernel
theorem dX1_fitting_51 : decode mX1_fitting.2.1 51 = .ok (.iload 7, 2) := by decide +kernel
theorem dX1_fitting_53 : decode mX1_fitting.2.1 53 = .ok (.iconst (-1), 1) := by decide +kernel
theorem dX1_fitting_54 : decode mX1_fitting.2.1 54 = .ok (.ixor, 1) := by decide +kernel
theorem dX1_fitting_55 : decode mX1_fitting.2.1 55 = .ok (.iand, 1) := by decide +kernel
theorem dX1_fitting_56 : decode mX1_fitting.2.1 56 = .ok (.ireturn, 1) := by decide +kernel
theorem dX1_fitsOf_0 : decode mX1_fitsOf.2.1 0 = .ok (.iconst 1, 1) := by decide +kernel
theorem dX1_fitsOf_1 : decode mX1_fitsOf.2.1 1 = .ok (.iload_n 3, 1) := by decide +kernel
theorem dX1_fitsOf_2 : decode mX1_fitsOf.2.1 2 = .ok (.ishl, 1) := by decide +kernel
theorem dX1_fitsOf_3 : decode mX1_fitsOf.2.1 3 = .ok (.istore 4, 2) := by decide +kernel
theorem dX1_fitsOf_5 : decode mX1_fitsOf.2.1 5 = .ok (.aload_n 0, 1) := by decide +kernel
theorem dX1_fitsOf_6 : decode mX1_fitsOf.2.1 6 = .ok (.getfield 21, 3) := by decide +kernel
theorem dX1_fitsOf_9 : decode mX1_fitsOf.2.1 9 = .ok (.iload_n 1, 1) := by decide +kernel
theorem dX1_fitsOf_10 : decode mX1_fitsOf.2.1 10 = .ok (.iload 4, 2) := by decide +kernel
theorem dX1_fitsOf_12 : decode mX1_fitsOf.2.1 12 = .ok (.iconst (-1), 1) := by decide +kernel
theorem dX1_fitsOf_13 : decode mX1_fitsOf.2.1 13 = .ok (.ixor, 1) := by decide +kernel
theorem dX1_fitsOf_14 : decode mX1_fitsOf.2.1 14 = .ok (.iand, 1) := by decide +kernel
theorem dX1_fitsOf_15 : decode mX1_fitsOf.2.1 15 = .ok (.invokestatic 70, 3) := by decide +kernel
theorem dX1_fitsOf_18 : decode mX1_fitsOf.2.1 18 = .ok (.aload_n 0, 1) := by decide +kernel
theorem dX1_fitsOf_19 : decode mX1_fitsOf.2.1 19 = .ok (.getfield 21, 3) := by decide +kernel
theorem dX1_fitsOf_22 : decode mX1_fitsOf.2.1 22 = .ok (.iload_n 2, 1) := by decide +kernel
theorem dX1_fitsOf_23 : decode mX1_fitsOf.2.1 23 = .ok (.iload 4, 2) := by decide +kernel
theorem dX1_fitsOf_25 : decode mX1_fitsOf.2.1 25 = .ok (.iconst (-1), 1) := by decide +kernel
theorem dX1_fitsOf_26 : decode mX1_fitsOf.2.1 26 = .ok (.ixor, 1) := by decide +kernel
theorem dX1_fitsOf_27 : decode mX1_fitsOf.2.1 27 = .ok (.iand, 1) := by decide +kernel
theorem dX1_fitsOf_28 : decode mX1_fitsOf.2.1 28 = .ok (.invokestatic 70, 3) := by decide +kernel
theorem dX1_fitsOf_31 : decode mX1_fitsOf.2.1 31 = .ok (.isub, 1) := by decide +kernel
theorem dX1_fitsOf_32 : decode mX1_fitsOf.2.1 32 = .ok (.istore 5, 2) := by decide +kernel
theorem dX1_fitsOf_34 : decode mX1_fitsOf.2.1 34 = .ok (.iload 5, 2) := by decide +kernel
theorem dX1_fitsOf_36 : decode mX1_fitsOf.2.1 36 = .ok (.aload_n 0, 1) := by decide +kernel
theorem dX1_fitsOf_37 : decode mX1_fitsOf.2.1 37 = .ok (.getfield 58, 3) := by decide +kernel
theorem dX1_fitsOf_40 : decode mX1_fitsOf.2.1 40 = .ok (.if_icmp .le 8, 3) := by decide +kernel
theorem dX1_fitsOf_43 : decode mX1_fitsOf.2.1 43 = .ok (.bipush 63, 2) := by decide +kernel
theorem dX1_fitsOf_45 : decode mX1_fitsOf.2.1 45 = .ok (.goto 4, 3) := by decide +kernel
theorem dX1_fitsOf_48 : decode mX1_fitsOf.2.1 48 = .ok (.iconst 0, 1) := by decide +kernel
theorem dX1_fitsOf_49 : decode mX1_fitsOf.2.1 49 = .ok (.istore 6, 2) := by decide +kernel
theorem dX1_fitsOf_51 : decode mX1_fitsOf.2.1 51 = .ok (.iload 5, 2) := by decide +kernel
theorem dX1_fitsOf_53 : decode mX1_fitsOf.2.1 53 = .ok (.ineg, 1) := by decide +kernel
theorem dX1_fitsOf_54 : decode mX1_fitsOf.2.1 54 = .ok (.aload_n 0, 1) := by decide +kernel
theorem dX1_fitsOf_55 : decode mX1_fitsOf.2.1 55 = .ok (.getfield 58, 3) := by decide +kernel
theorem dX1_fitsOf_58 : decode mX1_fitsOf.2.1 58 = .ok (.if_icmp .le 8, 3) := by decide +kernel
theorem dX1_fitsOf_61 : decode mX1_fitsOf.2.1 61 = .ok (.bipush 63, 2) := by decide +kernel
theorem dX1_fitsOf_63 : decode mX1_fitsOf.2.1 63 = .ok (.goto 4, 3) := by decide +kernel
theorem dX1_fitsOf_66 : decode mX1_fitsOf.2.1 66 = .ok (.iconst 0, 1) := by decide +kernel
theorem dX1_fitsOf_67 : decode mX1_fitsOf.2.1 67 = .ok (.istore 7, 2) := by decide +kernel
theorem dX1_fitsOf_69 : decode mX1_fitsOf.2.1 69 = .ok (.iload_n 1, 1) := by decide +kernel
theorem dX1_fitsOf_70 : decode mX1_fitsOf.2.1 70 = .ok (.iload 4, 2) := by decide +kernel
theorem dX1_fitsOf_72 : decode mX1_fitsOf.2.1 72 = .ok (.iand, 1) := by decide +kernel
theorem dX1_fitsOf_73 : decode mX1_fitsOf.2.1 73 = .ok (.ifCond .eq 38, 3) := by decide +kernel
theorem dX1_fitsOf_76 : decode mX1_fitsOf.2.1 76 = .ok (.bipush 63, 2) := by decide +kernel
theorem dX1_fitsOf_78 : decode mX1_fitsOf.2.1 78 = .ok (.aload_n 0, 1) := by decide +kernel
theorem dX1_fitsOf_79 : decode mX1_fitsOf.2.1 79 = .ok (.getfield 58, 3) := by decide +kernel
theorem dX1_fitsOf_82 : decode mX1_fitsOf.2.1 82 = .ok (.iload 5, 2) := by decide +kernel
theorem dX1_fitsOf_84 : decode mX1_fitsOf.2.1 84 = .ok (.isub, 1) := by decide +kernel
theorem dX1_fitsOf_85 : decode mX1_fitsOf.2.1 85 = .ok (.invokestatic 171, 3) := by decide +kernel
theorem dX1_fitsOf_88 : decode mX1_fitsOf.2.1 88 = .ok (.iconst (-1), 1) := by decide +kernel
theorem dX1_fitsOf_89 : decode mX1_fitsOf.2.1 89 = .ok (.ixor, 1) := by decide +kernel
theorem dX1_fitsOf_90 : decode mX1_fitsOf.2.1 90 = .ok (.iand, 1) := by decide +kernel
theorem dX1_fitsOf_91 : decode mX1_fitsOf.2.1 91 = .ok (.istore 6, 2) := by decide +kernel
theorem dX1_fitsOf_93 : decode mX1_fitsOf.2.1 93 = .ok (.iload 5, 2) := by decide +kernel
theorem dX1_fitsOf_95 : decode mX1_fitsOf.2.1 95 = .ok (.ineg, 1) := by decide +kernel
theorem dX1_fitsOf_96 : decode mX1_fitsOf.2.1 96 = .ok (.aload_n 0, 1) := by decide +kernel
theorem dX1_fitsOf_97 : decode mX1_fitsOf.2.1 97 = .ok (.getfield 58, 3) := by decide +kernel
theorem dX1_fitsOf_100 : decode mX1_fitsOf.2.1 100 = .ok (.isub, 1) := by decide +kernel
theorem dX1_fitsOf_101 : decode mX1_fitsOf.2.1 101 = .ok (.iconst 1, 1) := by decide +kernel
theorem dX1_fitsOf_102 : decode mX1_fitsOf.2.1 102 = .ok (.isub, 1) := by decide +kernel
theorem dX1_fitsOf_103 : decode mX1_fitsOf.2.1 103 = .ok (.invokestatic 171, 3) := by decide +kernel
theorem dX1_fitsOf_106 : decode mX1_fitsOf.2.1 106 = .ok (.istore 7, 2) := by decide +kernel
theorem dX1_fitsOf_108 : decode mX1_fitsOf.2.1 108 = .ok (.goto 41, 3) := by decide +kernel
theorem dX1_fitsOf_111 : decode mX1_fitsOf.2.1 111 = .ok (.iload_n 2, 1) := by decide +kernel
theorem dX1_fitsOf_112 : decode mX1_fitsOf.2.1 112 = .ok (.iload 4, 2) := by decide +kernel
theorem dX1_fitsOf_114 : decode mX1_fitsOf.2.1 114 = .ok (.iand, 1) := by decide +kernel
theorem dX1_fitsOf_115 : decode mX1_fitsOf.2.1 115 = .ok (.ifCond .eq 34, 3) := by decide +kernel
theorem dX1_fitsOf_118 : decode mX1_fitsOf.2.1 118 = .ok (.iload 5, 2) := by decide +kernel
theorem dX1_fitsOf_120 : decode mX1_fitsOf.2.1 120 = .ok (.aload_n 0, 1) := by decide +kernel
theorem dX1_fitsOf_121 : decode mX1_fitsOf.2.1 121 = .ok (.getfield 58, 3) := by decide +kernel
theorem dX1_fitsOf_124 : decode mX1_fitsOf.2.1 124 = .ok (.isub, 1) := by decide +kernel
theorem dX1_fitsOf_125 : decode mX1_fitsOf.2.1 125 = .ok (.iconst 1, 1) := by decide +kernel
theorem dX1_fitsOf_126 : decode mX1_fitsOf.2.1 126 = .ok (.isub, 1) := by decide +kernel
theorem dX1_fitsOf_127 : decode mX1_fitsOf.2.1 127 = .ok (.invokestatic 171, 3) := by decide +kernel
theorem dX1_fitsOf_130 : decode mX1_fitsOf.2.1 130 = .ok (.istore 6, 2) := by decide +kernel
theorem dX1_fitsOf_132 : decode mX1_fitsOf.2.1 132 = .ok (.bipush 63, 2) := by decide +kernel
theorem dX1_fitsOf_134 : decode mX1_fitsOf.2.1 134 = .ok (.aload_n 0, 1) := by decide +kernel
theorem dX1_fitsOf_135 : decode mX1_fitsOf.2.1 135 = .ok (.getfield 58, 3) := by decide +kernel
theorem dX1_fitsOf_138 : decode mX1_fitsOf.2.1 138 = .ok (.iload 5, 2) := by decide +kernel
theorem dX1_fitsOf_140 : decode mX1_fitsOf.2.1 140 = .ok (.iadd, 1) := by decide +kernel
theorem dX1_fitsOf_141 : decode mX1_fitsOf.2.1 141 = .ok (.invokestatic 171, 3) := by decide +kernel
theorem dX1_fitsOf_144 : decode mX1_fitsOf.2.1 144 = .ok (.iconst (-1), 1) := by decide +kernel
theorem dX1_fitsOf_145 : decode mX1_fitsOf.2.1 145 = .ok (.ixor, 1) := by decide +kernel
theorem dX1_fitsOf_146 : decode mX1_fitsOf.2.1 146 = .ok (.iand, 1) := by decide +kernel
theorem dX1_fitsOf_147 : decode mX1_fitsOf.2.1 147 = .ok (.istore 7, 2) := by decide +kernel
theorem dX1_fitsOf_149 : decode mX1_fitsOf.2.1 149 = .ok (.iload 7, 2) := by decide +kernel
theorem dX1_fitsOf_151 : decode mX1_fitsOf.2.1 151 = .ok (.bipush 6, 2) := by decide +kernel
theorem dX1_fitsOf_153 : decode mX1_fitsOf.2.1 153 = .ok (.ishl, 1) := by decide +kernel
theorem dX1_fitsOf_154 : decode mX1_fitsOf.2.1 154 = .ok (.iload 6, 2) := by decide +kernel
theorem dX1_fitsOf_156 : decode mX1_fitsOf.2.1 156 = .ok (.ior, 1) := by decide +kernel
theorem dX1_fitsOf_157 : decode mX1_fitsOf.2.1 157 = .ok (.ireturn, 1) := by decide +kernel
theorem dX1_upTo_0 : decode mX1_upTo.2.1 0 = .ok (.iload_n 0, 1) := by decide +kernel
theorem dX1_upTo_1 : decode mX1_upTo.2.1 1 = .ok (.ifCond .gt 7, 3) := by decide +kernel
theorem dX1_upTo_4 : decode mX1_upTo.2.1 4 = .ok (.iconst 0, 1) := by decide +kernel
theorem dX1_upTo_5 : decode mX1_upTo.2.1 5 = .ok (.goto 19, 3) := by decide +kernel
theorem dX1_upTo_8 : decode mX1_upTo.2.1 8 = .ok (.iload_n 0, 1) := by decide +kernel
theorem dX1_upTo_9 : decode mX1_upTo.2.1 9 = .ok (.bipush 6, 2) := by decide +kernel
theorem dX1_upTo_11 : decode mX1_upTo.2.1 11 = .ok (.if_icmp .lt 8, 3) := by decide +kernel
theorem dX1_upTo_14 : decode mX1_upTo.2.1 14 = .ok (.bipush 63, 2) := by decide +kernel
theorem dX1_upTo_16 : decode mX1_upTo.2.1 16 = .ok (.goto 8, 3) := by decide +kernel
theorem dX1_upTo_19 : decode mX1_upTo.2.1 19 = .ok (.iconst 1, 1) := by decide +kernel
theorem dX1_upTo_20 : decode mX1_upTo.2.1 20 = .ok (.iload_n 0, 1) := by decide +kernel
theorem dX1_upTo_21 : decode mX1_upTo.2.1 21 = .ok (.ishl, 1) := by decide +kernel
theorem dX1_upTo_22 : decode mX1_upTo.2.1 22 = .ok (.iconst 1, 1) := by decide +kernel
theorem dX1_upTo_23 : decode mX1_upTo.2.1 23 = .ok (.isub, 1) := by decide +kernel
theorem dX1_upTo_24 : decode mX1_upTo.2.1 24 = .ok (.ireturn, 1) := by decide +kernel
theorem dX1_note_0 : decode mX1_note.2.1 0 = .ok (.iload_n 1, 1) := by decide +kernel
theorem dX1_note_1 : decode mX1_note.2.1 1 = .ok (.i2l, 1) := by decide +kernel
theorem dX1_note_2 : decode mX1_note.2.1 2 = .ok (.invokestatic 161, 3) := by decide +kernel
theorem dX1_note_5 : decode mX1_note.2.1 5 = .ok (.iconst 1, 1) := by decide +kernel
theorem dX1_note_6 : decode mX1_note.2.1 6 = .ok (.iadd, 1) := by decide +kernel
theorem dX1_note_7 : decode mX1_note.2.1 7 = .ok (.istore_n 3, 1) := by decide +kernel
theorem dX1_note_8 : decode mX1_note.2.1 8 = .ok (.iload_n 3, 1) := by decide +kernel
theorem dX1_note_9 : decode mX1_note.2.1 9 = .ok (.istore 4, 2) := by decide +kernel
theorem dX1_note_11 : decode mX1_note.2.1 11 = .ok (.iload_n 3, 1) := by decide +kernel
theorem dX1_note_12 : decode mX1_note.2.1 12 = .ok (.istore 5, 2) := by decide +kernel
theorem dX1_note_14 : decode mX1_note.2.1 14 = .ok (.iload 5, 2) := by decide +kernel
theorem dX1_note_16 : decode mX1_note.2.1 16 = .ok (.bipush 6, 2) := by decide +kernel
theorem dX1_note_18 : decode mX1_note.2.1 18 = .ok (.if_icmp .gt 29, 3) := by decide +kernel
theorem dX1_note_21 : decode mX1_note.2.1 21 = .ok (.iload_n 1, 1) := by decide +kernel
theorem dX1_note_22 : decode mX1_note.2.1 22 = .ok (.iload 5, 2) := by decide +kernel
theorem dX1_note_24 : decode mX1_note.2.1 24 = .ok (.iconst 1, 1) := by decide +kernel
theorem dX1_note_25 : decode mX1_note.2.1 25 = .ok (.isub, 1) := by decide +kernel
theorem dX1_note_26 : decode mX1_note.2.1 26 = .ok (.invokestatic 165, 3) := by decide +kernel
theorem dX1_note_29 : decode mX1_note.2.1 29 = .ok (.ifCond .eq 8, 3) := by decide +kernel
theorem dX1_note_32 : decode mX1_note.2.1 32 = .ok (.iload 5, 2) := by decide +kernel
theorem dX1_note_34 : decode mX1_note.2.1 34 = .ok (.goto 5, 3) := by decide +kernel
theorem dX1_note_37 : decode mX1_note.2.1 37 = .ok (.iload 4, 2) := by decide +kernel
theorem dX1_note_39 : decode mX1_note.2.1 39 = .ok (.istore 4, 2) := by decide +kernel
theorem dX1_note_41 : decode mX1_note.2.1 41 = .ok (.iinc 5 1, 3) := by decide +kernel
theorem dX1_note_44 : decode mX1_note.2.1 44 = .ok (.goto (-30), 3) := by decide +kernel
theorem dX1_note_47 : decode mX1_note.2.1 47 = .ok (.iconst 0, 1) := by decide +kernel
theorem dX1_note_48 : decode mX1_note.2.1 48 = .ok (.istore 5, 2) := by decide +kernel
theorem dX1_note_50 : decode mX1_note.2.1 50 = .ok (.iload 5, 2) := by decide +kernel
theorem dX1_note_52 : decode mX1_note.2.1 52 = .ok (.iload_n 2, 1) := by decide +kernel
theorem dX1_note_53 : decode mX1_note.2.1 53 = .ok (.if_icmp .gt 116, 3) := by decide +kernel
theorem dX1_note_56 : decode mX1_note.2.1 56 = .ok (.iload 5, 2) := by decide +kernel
theorem dX1_note_58 : decode mX1_note.2.1 58 = .ok (.iload_n 2, 1) := by decide +kernel
theorem dX1_note_59 : decode mX1_note.2.1 59 = .ok (.if_icmp .ne 7, 3) := by decide +kernel
theorem dX1_note_62 : decode mX1_note.2.1 62 = .ok (.iload_n 3, 1) := by decide +kernel
theorem dX1_note_63 : decode mX1_note.2.1 63 = .ok (.goto 12, 3) := by decide +kernel
theorem dX1_note_66 : decode mX1_note.2.1 66 = .ok (.aload_n 0, 1) := by decide +kernel
theorem dX1_note_67 : decode mX1_note.2.1 67 = .ok (.getfield 26, 3) := by decide +kernel
theorem dX1_note_70 : decode mX1_note.2.1 70 = .ok (.iload 5, 2) := by decide +kernel
theorem dX1_note_72 : decode mX1_note.2.1 72 = .ok (.invokestatic 70, 3) := by decide +kernel
theorem dX1_note_75 : decode mX1_note.2.1 75 = .ok (.istore 6, 2) := by decide +kernel
theorem dX1_note_77 : decode mX1_note.2.1 77 = .ok (.iload 5, 2) := by decide +kernel
theorem dX1_note_79 : decode mX1_note.2.1 79 = .ok (.iload_n 2, 1) := by decide +kernel
theorem dX1_note_80 : decode mX1_note.2.1 80 = .ok (.if_icmp .ne 8, 3) := by decide +kernel
theorem dX1_note_83 : decode mX1_note.2.1 83 = .ok (.iload 4, 2) := by decide +kernel
theorem dX1_note_85 : decode mX1_note.2.1 85 = .ok (.goto 12, 3) := by decide +kernel
theorem dX1_note_88 : decode mX1_note.2.1 88 = .ok (.aload_n 0, 1) := by decide +kernel
theorem dX1_note_89 : decode mX1_note.2.1 89 = .ok (.getfield 26, 3) := by decide +kernel
theorem dX1_note_92 : decode mX1_note.2.1 92 = .ok (.iload 5, 2) := by decide +kernel
theorem dX1_note_94 : decode mX1_note.2.1 94 = .ok (.invokestatic 70, 3) := by decide +kernel
theorem dX1_note_97 : decode mX1_note.2.1 97 = .ok (.istore 7, 2) := by decide +kernel
theorem dX1_note_99 : decode mX1_note.2.1 99 = .ok (.aload_n 0, 1) := by decide +kernel
theorem dX1_note_100 : decode mX1_note.2.1 100 = .ok (.getfield 32, 3) := by decide +kernel
theorem dX1_note_103 : decode mX1_note.2.1 103 = .ok (.iload 5, 2) := by decide +kernel
theorem dX1_note_105 : decode mX1_note.2.1 105 = .ok (.aload_n 0, 1) := by decide +kernel
theorem dX1_note_106 : decode mX1_note.2.1 106 = .ok (.getfield 32, 3) := by decide +kernel
theorem dX1_note_109 : decode mX1_note.2.1 109 = .ok (.iload 5, 2) := by decide +kernel
theorem dX1_note_111 : decode mX1_note.2.1 111 = .ok (.invokestatic 70, 3) := by decide +kernel
theorem dX1_note_114 : decode mX1_note.2.1 114 = .ok (.iload 6, 2) := by decide +kernel
theorem dX1_note_116 : decode mX1_note.2.1 116 = .ok (.invokestatic 168, 3) := by decide +kernel
theorem dX1_note_119 : decode mX1_note.2.1 119 = .ok (.invokestatic 93, 3) := by decide +kernel
theorem dX1_note_122 : decode mX1_note.2.1 122 = .ok (.aload_n 0, 1) := by decide +kernel
theorem dX1_note_123 : decode mX1_note.2.1 123 = .ok (.getfield 35, 3) := by decide +kernel
theorem dX1_note_126 : decode mX1_note.2.1 126 = .ok (.iload 5, 2) := by decide +kernel
theorem dX1_note_128 : decode mX1_note.2.1 128 = .ok (.aload_n 0, 1) := by decide +kernel
theorem dX1_note_129 : decode mX1_note.2.1 129 = .ok (.getfield 35, 3) := by decide +kernel
theorem dX1_note_132 : decode mX1_note.2.1 132 = .ok (.iload 5, 2) := by decide +kernel
theorem dX1_note_134 : decode mX1_note.2.1 134 = .ok (.invokestatic 70, 3) := by decide +kernel
theorem dX1_note_137 : decode mX1_note.2.1 137 = .ok (.iload 7, 2) := by decide +kernel
theorem dX1_note_139 : decode mX1_note.2.1 139 = .ok (.invokestatic 116, 3) := by decide +kernel
theorem dX1_note_142 : decode mX1_note.2.1 142 = .ok (.invokestatic 93, 3) := by decide +kernel
theorem dX1_note_145 : decode mX1_note.2.1 145 = .ok (.aload_n 0, 1) := by decide +kernel
theorem dX1_note_146 : decode mX1_note.2.1 146 = .ok (.getfield 110, 3) := by decide +kernel
theorem dX1_note_149 : decode mX1_note.2.1 149 = .ok (.ifCond .ne 14, 3) := by decide +kernel
theorem dX1_note_152 : decode mX1_note.2.1 152 = .ok (.aload_n 0, 1) := by decide +kernel
theorem dX1_note_153 : decode mX1_note.2.1 153 = .ok (.getfield 29, 3) := by decide +kernel
theorem dX1_note_156 : decode mX1_note.2.1 156 = .ok (.iload 5, 2) := by decide +kernel
theorem dX1_note_158 : decode mX1_note.2.1 158 = .ok (.iload 6, 2) := by decide +kernel
theorem dX1_note_160 : decode mX1_note.2.1 160 = .ok (.invokestatic 93, 3) := by decide +kernel
theorem dX1_note_163 : decode mX1_note.2.1 163 = .ok (.iinc 5 1, 3) := by decide +kernel
theorem dX1_note_166 : decode mX1_note.2.1 166 = .ok (.goto (-116), 3) := by decide +kernel
theorem dX1_note_169 : decode mX1_note.2.1 169 = .ok (.aload_n 0, 1) := by decide +kernel
theorem dX1_note_170 : decode mX1_note.2.1 170 = .ok (.dup, 1) := by decide +kernel
theorem dX1_note_171 : decode mX1_note.2.1 171 = .ok (.getfield 110, 3) := by decide +kernel
theorem dX1_note_174 : decode mX1_note.2.1 174 = .ok (.iload_n 1, 1) := by decide +kernel
theorem dX1_note_175 : decode mX1_note.2.1 175 = .ok (.invokestatic 152, 3) := by decide +kernel
theorem dX1_note_178 : decode mX1_note.2.1 178 = .ok (.iadd, 1) := by decide +kernel
theorem dX1_note_179 : decode mX1_note.2.1 179 = .ok (.putfield 110, 3) := by decide +kernel
theorem dX1_note_182 : decode mX1_note.2.1 182 = .ok (.return_, 1) := by decide +kernel
theorem dX1_lay_0 : decode mX1_lay.2.1 0 = .ok (.aload_n 0, 1) := by decide +kernel
theorem dX1_lay_1 : decode mX1_lay.2.1 1 = .ok (.getfield 26, 3) := by decide +kernel
theorem dX1_lay_4 : decode mX1_lay.2.1 4 = .ok (.iload_n 1, 1) := by decide +kernel
theorem dX1_lay_5 : decode mX1_lay.2.1 5 = .ok (.iload_n 2, 1) := by decide +kernel
theorem dX1_lay_6 : decode mX1_lay.2.1 6 = .ok (.invokestatic 93, 3) := by decide +kernel
theorem dX1_lay_9 : decode mX1_lay.2.1 9 = .ok (.iconst 1, 1) := by decide +kernel
theorem dX1_lay_10 : decode mX1_lay.2.1 10 = .ok (.iload_n 1, 1) := by decide +kernel
theorem dX1_lay_11 : decode mX1_lay.2.1 11 = .ok (.ishl, 1) := by decide +kernel
theorem dX1_lay_12 : decode mX1_lay.2.1 12 = .ok (.istore_n 3, 1) := by decide +kernel
theorem dX1_lay_13 : decode mX1_lay.2.1 13 = .ok (.iconst 0, 1) := by decide +kernel
theorem dX1_lay_14 : decode mX1_lay.2.1 14 = .ok (.istore 4, 2) := by decide +kernel
theorem dX1_lay_16 : decode mX1_lay.2.1 16 = .ok (.iload 4, 2) := by decide +kernel
theorem dX1_lay_18 : decode mX1_lay.2.1 18 = .ok (.iload_n 3, 1) := by decide +kernel
theorem dX1_lay_19 : decode mX1_lay.2.1 19 = .ok (.if_icmp .ge 31, 3) := by decide +kernel
theorem dX1_lay_22 : decode mX1_lay.2.1 22 = .ok (.aload_n 0, 1) := by decide +kernel
theorem dX1_lay_23 : decode mX1_lay.2.1 23 = .ok (.getfield 21, 3) := by decide +kernel
theorem dX1_lay_26 : decode mX1_lay.2.1 26 = .ok (.iload_n 3, 1) := by decide +kernel
theorem dX1_lay_27 : decode mX1_lay.2.1 27 = .ok (.iload 4, 2) := by decide +kernel
theorem dX1_lay_29 : decode mX1_lay.2.1 29 = .ok (.ior, 1) := by decide +kernel
theorem dX1_lay_30 : decode mX1_lay.2.1 30 = .ok (.aload_n 0, 1) := by decide +kernel
theorem dX1_lay_31 : decode mX1_lay.2.1 31 = .ok (.getfield 21, 3) := by decide +kernel
theorem dX1_lay_34 : decode mX1_lay.2.1 34 = .ok (.iload 4, 2) := by decide +kernel
theorem dX1_lay_36 : decode mX1_lay.2.1 36 = .ok (.invokestatic 70, 3) := by decide +kernel
theorem dX1_lay_39 : decode mX1_lay.2.1 39 = .ok (.iload_n 2, 1) := by decide +kernel
theorem dX1_lay_40 : decode mX1_lay.2.1 40 = .ok (.iadd, 1) := by decide +kernel
theorem dX1_lay_41 : decode mX1_lay.2.1 41 = .ok (.invokestatic 93, 3) := by decide +kernel
theorem dX1_lay_44 : decode mX1_lay.2.1 44 = .ok (.iinc 4 1, 3) := by decide +kernel
theorem dX1_lay_47 : decode mX1_lay.2.1 47 = .ok (.goto (-31), 3) := by decide +kernel
theorem dX1_lay_50 : decode mX1_lay.2.1 50 = .ok (.return_, 1) := by decide +kernel
theorem dX1_holds_0 : decode mX1_holds.2.1 0 = .ok (.iconst 0, 1) := by decide +kernel
theorem dX1_holds_1 : decode mX1_holds.2.1 1 = .ok (.istore_n 2, 1) := by decide +kernel
theorem dX1_holds_2 : decode mX1_holds.2.1 2 = .ok (.iload_n 2, 1) := by decide +kernel
theorem dX1_holds_3 : decode mX1_holds.2.1 3 = .ok (.aload_n 0, 1) := by decide +kernel
theorem dX1_holds_4 : decode mX1_holds.2.1 4 = .ok (.getfield 97, 3) := by decide +kernel
theorem dX1_holds_7 : decode mX1_holds.2.1 7 = .ok (.if_icmp .ge 103, 3) := by decide +kernel
theorem dX1_holds_10 : decode mX1_holds.2.1 10 = .ok (.aload_n 0, 1) := by decide +kernel
theorem dX1_holds_11 : decode mX1_holds.2.1 11 = .ok (.getfield 9, 3) := by decide +kernel
theorem dX1_holds_14 : decode mX1_holds.2.1 14 = .ok (.iload_n 2, 1) := by decide +kernel
theorem dX1_holds_15 : decode mX1_holds.2.1 15 = .ok (.invokestatic 70, 3) := by decide +kernel
theorem dX1_holds_18 : decode mX1_holds.2.1 18 = .ok (.istore_n 3, 1) := by decide +kernel
theorem dX1_holds_19 : decode mX1_holds.2.1 19 = .ok (.aload_n 0, 1) := by decide +kernel
theorem dX1_holds_20 : decode mX1_holds.2.1 20 = .ok (.getfield 15, 3) := by decide +kernel
theorem dX1_holds_23 : decode mX1_holds.2.1 23 = .ok (.iload_n 2, 1) := by decide +kernel
theorem dX1_holds_24 : decode mX1_holds.2.1 24 = .ok (.invokestatic 70, 3) := by decide +kernel
theorem dX1_holds_27 : decode mX1_holds.2.1 27 = .ok (.istore 4, 2) := by decide +kernel
theorem dX1_holds_29 : decode mX1_holds.2.1 29 = .ok (.iload_n 3, 1) := by decide +kernel
theorem dX1_holds_30 : decode mX1_holds.2.1 30 = .ok (.iload 4, 2) := by decide +kernel
theorem dX1_holds_32 : decode mX1_holds.2.1 32 = .ok (.ior, 1) := by decide +kernel
theorem dX1_holds_33 : decode mX1_holds.2.1 33 = .ok (.iload_n 1, 1) := by decide +kernel
theorem dX1_holds_34 : decode mX1_holds.2.1 34 = .ok (.ishr, 1) := by decide +kernel
theorem dX1_holds_35 : decode mX1_holds.2.1 35 = .ok (.iconst 1, 1) := by decide +kernel
theorem dX1_holds_36 : decode mX1_holds.2.1 36 = .ok (.if_icmp .ne 68, 3) := by decide +kernel
theorem dX1_holds_39 : decode mX1_holds.2.1 39 = .ok (.aload_n 0, 1) := by decide +kernel
theorem dX1_holds_40 : decode mX1_holds.2.1 40 = .ok (.getfield 21, 3) := by decide +kernel
theorem dX1_holds_43 : decode mX1_holds.2.1 43 = .ok (.iload_n 3, 1) := by decide +kernel
theorem dX1_holds_44 : decode mX1_holds.2.1 44 = .ok (.invokestatic 70, 3) := by decide +kernel
theorem dX1_holds_47 : decode mX1_holds.2.1 47 = .ok (.aload_n 0, 1) := by decide +kernel
theorem dX1_holds_48 : decode mX1_holds.2.1 48 = .ok (.getfield 21, 3) := by decide +kernel
theorem dX1_holds_51 : decode mX1_holds.2.1 51 = .ok (.iload 4, 2) := by decide +kernel
theorem dX1_holds_53 : decode mX1_holds.2.1 53 = .ok (.invokestatic 70, 3) := by decide +kernel
theorem dX1_holds_56 : decode mX1_holds.2.1 56 = .ok (.isub, 1) := by decide +kernel
theorem dX1_holds_57 : decode mX1_holds.2.1 57 = .ok (.istore 5, 2) := by decide +kernel
theorem dX1_holds_59 : decode mX1_holds.2.1 59 = .ok (.iload 5, 2) := by decide +kernel
theorem dX1_holds_61 : decode mX1_holds.2.1 61 = .ok (.aload_n 0, 1) := by decide +kernel
theorem dX1_holds_62 : decode mX1_holds.2.1 62 = .ok (.getfield 58, 3) := by decide +kernel
theorem dX1_holds_65 : decode mX1_holds.2.1 65 = .ok (.if_icmp .le 7, 3) := by decide +kernel
theorem dX1_holds_68 : decode mX1_holds.2.1 68 = .ok (.iconst 1, 1) := by decide +kernel
theorem dX1_holds_69 : decode mX1_holds.2.1 69 = .ok (.goto 18, 3) := by decide +kernel
theorem dX1_holds_72 : decode mX1_holds.2.1 72 = .ok (.iload 5, 2) := by decide +kernel
theorem dX1_holds_74 : decode mX1_holds.2.1 74 = .ok (.ineg, 1) := by decide +kernel
theorem dX1_holds_75 : decode mX1_holds.2.1 75 = .ok (.aload_n 0, 1) := by decide +kernel
theorem dX1_holds_76 : decode mX1_holds.2.1 76 = .ok (.getfield 58, 3) := by decide +kernel
theorem dX1_holds_79 : decode mX1_holds.2.1 79 = .ok (.if_icmp .le 7, 3) := by decide +kernel
theorem dX1_holds_82 : decode mX1_holds.2.1 82 = .ok (.iconst 2, 1) := by decide +kernel
theorem dX1_holds_83 : decode mX1_holds.2.1 83 = .ok (.goto 4, 3) := by decide +kernel
theorem dX1_holds_86 : decode mX1_holds.2.1 86 = .ok (.iconst 0, 1) := by decide +kernel
theorem dX1_holds_87 : decode mX1_holds.2.1 87 = .ok (.istore 6, 2) := by decide +kernel
theorem dX1_holds_89 : decode mX1_holds.2.1 89 = .ok (.iload 6, 2) := by decide +kernel
theorem dX1_holds_91 : decode mX1_holds.2.1 91 = .ok (.aload_n 0, 1) := by decide +kernel
theorem dX1_holds_92 : decode mX1_holds.2.1 92 = .ok (.getfield 18, 3) := by decide +kernel
theorem dX1_holds_95 : decode mX1_holds.2.1 95 = .ok (.iload_n 2, 1) := by decide +kernel
theorem dX1_holds_96 : decode mX1_holds.2.1 96 = .ok (.invokestatic 70, 3) := by decide +kernel
theorem dX1_holds_99 : decode mX1_holds.2.1 99 = .ok (.if_icmp .eq 5, 3) := by decide +kernel
theorem dX1_holds_102 : decode mX1_holds.2.1 102 = .ok (.iconst 0, 1) := by decide +kernel
theorem dX1_holds_103 : decode mX1_holds.2.1 103 = .ok (.ireturn, 1) := by decide +kernel
theorem dX1_holds_104 : decode mX1_holds.2.1 104 = .ok (.iinc 2 1, 3) := by decide +kernel
theorem dX1_holds_107 : decode mX1_holds.2.1 107 = .ok (.goto (-105), 3) := by decide +kernel
theorem dX1_holds_110 : decode mX1_holds.2.1 110 = .ok (.iconst 1, 1) := by decide +kernel
theorem dX1_holds_111 : decode mX1_holds.2.1 111 = .ok (.ireturn, 1) := by decide +kernel
theorem dX1_firstOf_0 : decode mX1_firstOf.2.1 0 = .ok (.aload_n 0, 1) := by decide +kernel
theorem dX1_firstOf_1 : decode mX1_firstOf.2.1 1 = .ok (.getfield 29, 3) := by decide +kernel
theorem dX1_firstOf_4 : decode mX1_firstOf.2.1 4 = .ok (.iload_n 1, 1) := by decide +kernel
theorem dX1_firstOf_5 : decode mX1_firstOf.2.1 5 = .ok (.invokestatic 70, 3) := by decide +kernel
theorem dX1_firstOf_8 : decode mX1_firstOf.2.1 8 = .ok (.ireturn, 1) := by decide +kernel
theorem dX1_extremeOf_0 : decode mX1_extremeOf.2.1 0 = .ok (.iload_n 2, 1) := by decide +kernel
theorem dX1_extremeOf_1 : decode mX1_extremeOf.2.1 1 = .ok (.ifCond .eq 10, 3) := by decide +kernel
theorem dX1_extremeOf_4 : decode mX1_extremeOf.2.1 4 = .ok (.aload_n 0, 1) := by decide +kernel
theorem dX1_extremeOf_5 : decode mX1_extremeOf.2.1 5 = .ok (.getfield 35, 3) := by decide +kernel
theorem dX1_extremeOf_8 : decode mX1_extremeOf.2.1 8 = .ok (.goto 7, 3) := by decide +kernel
theorem dX1_extremeOf_11 : decode mX1_extremeOf.2.1 11 = .ok (.aload_n 0, 1) := by decide +kernel
theorem dX1_extremeOf_12 : decode mX1_extremeOf.2.1 12 = .ok (.getfield 32, 3) := by decide +kernel
theorem dX1_extremeOf_15 : decode mX1_extremeOf.2.1 15 = .ok (.iload_n 1, 1) := by decide +kernel
theorem dX1_extremeOf_16 : decode mX1_extremeOf.2.1 16 = .ok (.invokestatic 70, 3) := by decide +kernel
theorem dX1_extremeOf_19 : decode mX1_extremeOf.2.1 19 = .ok (.ireturn, 1) := by decide +kernel
theorem dX1_sayings_0 : decode mX1_sayings.2.1 0 = .ok (.aload_n 0, 1) := by decide +kernel
theorem dX1_sayings_1 : decode mX1_sayings.2.1 1 = .ok (.iconst 0, 1) := by decide +kernel
theorem dX1_sayings_2 : decode mX1_sayings.2.1 2 = .ok (.putfield 100, 3) := by decide +kernel
theorem dX1_sayings_5 : decode mX1_sayings.2.1 5 = .ok (.aload_n 0, 1) := by decide +kernel
theorem dX1_sayings_6 : decode mX1_sayings.2.1 6 = .ok (.iload_n 1, 1) := by decide +kernel
theorem dX1_sayings_7 : decode mX1_sayings.2.1 7 = .ok (.iload_n 2, 1) := by decide +kernel
theorem dX1_sayings_8 : decode mX1_sayings.2.1 8 = .ok (.invokevirtual 106, 3) := by decide +kernel
theorem dX1_sayings_11 : decode mX1_sayings.2.1 11 = .ok (.aload_n 0, 1) := by decide +kernel
theorem dX1_sayings_12 : decode mX1_sayings.2.1 12 = .ok (.invokevirtual 103, 3) := by decide +kernel
theorem dX1_sayings_15 : decode mX1_sayings.2.1 15 = .ok (.aload_n 0, 1) := by decide +kernel
theorem dX1_sayings_16 : decode mX1_sayings.2.1 16 = .ok (.iconst 1, 1) := by decide +kernel
theorem dX1_sayings_17 : decode mX1_sayings.2.1 17 = .ok (.putfield 38, 3) := by decide +kernel
theorem dX1_sayings_20 : decode mX1_sayings.2.1 20 = .ok (.aload_n 0, 1) := by decide +kernel
theorem dX1_sayings_21 : decode mX1_sayings.2.1 21 = .ok (.getfield 48, 3) := by decide +kernel
theorem dX1_sayings_24 : decode mX1_sayings.2.1 24 = .ok (.iconst 0, 1) := by decide +kernel
theorem dX1_sayings_25 : decode mX1_sayings.2.1 25 = .ok (.invokestatic 70, 3) := by decide +kernel
theorem dX1_sayings_28 : decode mX1_sayings.2.1 28 = .ok (.istore_n 3, 1) := by decide +kernel
theorem dX1_sayings_29 : decode mX1_sayings.2.1 29 = .ok (.aload_n 0, 1) := by decide +kernel
theorem dX1_sayings_30 : decode mX1_sayings.2.1 30 = .ok (.getfield 51, 3) := by decide +kernel
theorem dX1_sayings_33 : decode mX1_sayings.2.1 33 = .ok (.iconst 0, 1) := by decide +kernel
theorem dX1_sayings_34 : decode mX1_sayings.2.1 34 = .ok (.invokestatic 70, 3) := by decide +kernel
theorem dX1_sayings_37 : decode mX1_sayings.2.1 37 = .ok (.istore 4, 2) := by decide +kernel
theorem dX1_sayings_39 : decode mX1_sayings.2.1 39 = .ok (.aload_n 0, 1) := by decide +kernel
theorem dX1_sayings_40 : decode mX1_sayings.2.1 40 = .ok (.getfield 110, 3) := by decide +kernel
theorem dX1_sayings_43 : decode mX1_sayings.2.1 43 = .ok (.iload_n 3, 1) := by decide +kernel
theorem dX1_sayings_44 : decode mX1_sayings.2.1 44 = .ok (.iload 4, 2) := by decide +kernel
theorem dX1_sayings_46 : decode mX1_sayings.2.1 46 = .ok (.iadd, 1) := by decide +kernel
theorem dX1_sayings_47 : decode mX1_sayings.2.1 47 = .ok (.if_icmp .le 7, 3) := by decide +kernel
theorem dX1_sayings_50 : decode mX1_sayings.2.1 50 = .ok (.iconst 1, 1) := by decide +kernel
theorem dX1_sayings_51 : decode mX1_sayings.2.1 51 = .ok (.goto 4, 3) := by decide +kernel
theorem dX1_sayings_54 : decode mX1_sayings.2.1 54 = .ok (.iconst 0, 1) := by decide +kernel
theorem dX1_sayings_55 : decode mX1_sayings.2.1 55 = .ok (.iload_n 3, 1) := by decide +kernel
theorem dX1_sayings_56 : decode mX1_sayings.2.1 56 = .ok (.ifCond .le 7, 3) := by decide +kernel
theorem dX1_sayings_59 : decode mX1_sayings.2.1 59 = .ok (.iconst 2, 1) := by decide +kernel
theorem dX1_sayings_60 : decode mX1_sayings.2.1 60 = .ok (.goto 4, 3) := by decide +kernel
theorem dX1_sayings_63 : decode mX1_sayings.2.1 63 = .ok (.iconst 0, 1) := by decide +kernel
theorem dX1_sayings_64 : decode mX1_sayings.2.1 64 = .ok (.iadd, 1) := by decide +kernel
theorem dX1_sayings_65 : decode mX1_sayings.2.1 65 = .ok (.iload 4, 2) := by decide +kernel
theorem dX1_sayings_67 : decode mX1_sayings.2.1 67 = .ok (.ifCond .le 7, 3) := by decide +kernel
theorem dX1_sayings_70 : decode mX1_sayings.2.1 70 = .ok (.iconst 4, 1) := by decide +kernel
theorem dX1_sayings_71 : decode mX1_sayings.2.1 71 = .ok (.goto 4, 3) := by decide +kernel
theorem dX1_sayings_74 : decode mX1_sayings.2.1 74 = .ok (.iconst 0, 1) := by decide +kernel
theorem dX1_sayings_75 : decode mX1_sayings.2.1 75 = .ok (.iadd, 1) := by decide +kernel
theorem dX1_sayings_76 : decode mX1_sayings.2.1 76 = .ok (.ireturn, 1) := by decide +kernel
theorem dX1_ask_0 : decode mX1_ask.2.1 0 = .ok (.aload_n 0, 1) := by decide +kernel
theorem dX1_ask_1 : decode mX1_ask.2.1 1 = .ok (.getfield 42, 3) := by decide +kernel
theorem dX1_ask_4 : decode mX1_ask.2.1 4 = .ok (.aload_n 0, 1) := by decide +kernel
theorem dX1_ask_5 : decode mX1_ask.2.1 5 = .ok (.getfield 100, 3) := by decide +kernel
theorem dX1_ask_8 : decode mX1_ask.2.1 8 = .ok (.iload_n 1, 1) := by decide +kernel
theorem dX1_ask_9 : decode mX1_ask.2.1 9 = .ok (.invokestatic 93, 3) := by decide +kernel
theorem dX1_ask_12 : decode mX1_ask.2.1 12 = .ok (.aload_n 0, 1) := by decide +kernel
theorem dX1_ask_13 : decode mX1_ask.2.1 13 = .ok (.getfield 45, 3) := by decide +kernel
theorem dX1_ask_16 : decode mX1_ask.2.1 16 = .ok (.aload_n 0, 1) := by decide +kernel
theorem dX1_ask_17 : decode mX1_ask.2.1 17 = .ok (.getfield 100, 3) := by decide +kernel
theorem dX1_ask_20 : decode mX1_ask.2.1 20 = .ok (.iload_n 2, 1) := by decide +kernel
theorem dX1_ask_21 : decode mX1_ask.2.1 21 = .ok (.invokestatic 93, 3) := by decide +kernel
theorem dX1_ask_24 : decode mX1_ask.2.1 24 = .ok (.aload_n 0, 1) := by decide +kernel
theorem dX1_ask_25 : decode mX1_ask.2.1 25 = .ok (.dup, 1) := by decide +kernel
theorem dX1_ask_26 : decode mX1_ask.2.1 26 = .ok (.getfield 100, 3) := by decide +kernel
theorem dX1_ask_29 : decode mX1_ask.2.1 29 = .ok (.iconst 1, 1) := by decide +kernel
theorem dX1_ask_30 : decode mX1_ask.2.1 30 = .ok (.iadd, 1) := by decide +kernel
theorem dX1_ask_31 : decode mX1_ask.2.1 31 = .ok (.putfield 100, 3) := by decide +kernel
theorem dX1_ask_34 : decode mX1_ask.2.1 34 = .ok (.return_, 1) := by decide +kernel
theorem dX1_bestHeaps_0 : decode mX1_bestHeaps.2.1 0 = .ok (.aload_n 0, 1) := by decide +kernel
theorem dX1_bestHeaps_1 : decode mX1_bestHeaps.2.1 1 = .ok (.getfield 38, 3) := by decide +kernel
theorem dX1_bestHeaps_4 : decode mX1_bestHeaps.2.1 4 = .ok (.iconst 2, 1) := by decide +kernel
theorem dX1_bestHeaps_5 : decode mX1_bestHeaps.2.1 5 = .ok (.if_icmp .eq 16, 3) := by decide +kernel
theorem dX1_bestHeaps_8 : decode mX1_bestHeaps.2.1 8 = .ok (.aload_n 0, 1) := by decide +kernel
theorem dX1_bestHeaps_9 : decode mX1_bestHeaps.2.1 9 = .ok (.invokevirtual 113, 3) := by decide +kernel
theorem dX1_bestHeaps_12 : decode mX1_bestHeaps.2.1 12 = .ok (.aload_n 0, 1) := by decide +kernel
theorem dX1_bestHeaps_13 : decode mX1_bestHeaps.2.1 13 = .ok (.invokevirtual 103, 3) := by decide +kernel
theorem dX1_bestHeaps_16 : decode mX1_bestHeaps.2.1 16 = .ok (.aload_n 0, 1) := by decide +kernel
theorem dX1_bestHeaps_17 : decode mX1_bestHeaps.2.1 17 = .ok (.iconst 2, 1) := by decide +kernel
theorem dX1_bestHeaps_18 : decode mX1_bestHeaps.2.1 18 = .ok (.putfield 38, 3) := by decide +kernel
theorem dX1_bestHeaps_21 : decode mX1_bestHeaps.2.1 21 = .ok (.iconst (-1), 1) := by decide +kernel
theorem dX1_bestHeaps_22 : decode mX1_bestHeaps.2.1 22 = .ok (.istore_n 2, 1) := by decide +kernel
theorem dX1_bestHeaps_23 : decode mX1_bestHeaps.2.1 23 = .ok (.iconst 0, 1) := by decide +kernel
theorem dX1_bestHeaps_24 : decode mX1_bestHeaps.2.1 24 = .ok (.istore_n 3, 1) := by decide +kernel
theorem dX1_bestHeaps_25 : decode mX1_bestHeaps.2.1 25 = .ok (.iconst 0, 1) := by decide +kernel
theorem dX1_bestHeaps_26 : decode mX1_bestHeaps.2.1 26 = .ok (.istore 4, 2) := by decide +kernel
theorem dX1_bestHeaps_28 : decode mX1_bestHeaps.2.1 28 = .ok (.iload 4, 2) := by decide +kernel
theorem dX1_bestHeaps_30 : decode mX1_bestHeaps.2.1 30 = .ok (.aload_n 0, 1) := by decide +kernel
theorem dX1_bestHeaps_31 : decode mX1_bestHeaps.2.1 31 = .ok (.getfield 100, 3) := by decide +kernel
theorem dX1_bestHeaps_34 : decode mX1_bestHeaps.2.1 34 = .ok (.if_icmp .ge 77, 3) := by decide +kernel
theorem dX1_bestHeaps_37 : decode mX1_bestHeaps.2.1 37 = .ok (.aload_n 0, 1) := by decide +kernel
theorem dX1_bestHeaps_38 : decode mX1_bestHeaps.2.1 38 = .ok (.getfield 110, 3) := by decide +kernel
theorem dX1_bestHeaps_41 : decode mX1_bestHeaps.2.1 41 = .ok (.ifCond .le 70, 3) := by decide +kernel
theorem dX1_bestHeaps_44 : decode mX1_bestHeaps.2.1 44 = .ok (.aload_n 0, 1) := by decide +kernel
theorem dX1_bestHeaps_45 : decode mX1_bestHeaps.2.1 45 = .ok (.getfield 48, 3) := by decide +kernel
theorem dX1_bestHeaps_48 : decode mX1_bestHeaps.2.1 48 = .ok (.iload 4, 2) := by decide +kernel
theorem dX1_bestHeaps_50 : decode mX1_bestHeaps.2.1 50 = .ok (.invokestatic 70, 3) := by decide +kernel
theorem dX1_bestHeaps_53 : decode mX1_bestHeaps.2.1 53 = .ok (.istore 5, 2) := by decide +kernel
theorem dX1_bestHeaps_55 : decode mX1_bestHeaps.2.1 55 = .ok (.aload_n 0, 1) := by decide +kernel
theorem dX1_bestHeaps_56 : decode mX1_bestHeaps.2.1 56 = .ok (.getfield 51, 3) := by decide +kernel
theorem dX1_bestHeaps_59 : decode mX1_bestHeaps.2.1 59 = .ok (.iload 4, 2) := by decide +kernel
theorem dX1_bestHeaps_61 : decode mX1_bestHeaps.2.1 61 = .ok (.invokestatic 70, 3) := by decide +kernel
theorem dX1_bestHeaps_64 : decode mX1_bestHeaps.2.1 64 = .ok (.istore 6, 2) := by decide +kernel
theorem dX1_bestHeaps_66 : decode mX1_bestHeaps.2.1 66 = .ok (.iload 5, 2) := by decide +kernel
theorem dX1_bestHeaps_68 : decode mX1_bestHeaps.2.1 68 = .ok (.iload 6, 2) := by decide +kernel
theorem dX1_bestHeaps_70 : decode mX1_bestHeaps.2.1 70 = .ok (.invokestatic 116, 3) := by decide +kernel
theorem dX1_bestHeaps_73 : decode mX1_bestHeaps.2.1 73 = .ok (.aload_n 0, 1) := by decide +kernel
theorem dX1_bestHeaps_74 : decode mX1_bestHeaps.2.1 74 = .ok (.getfield 110, 3) := by decide +kernel
theorem dX1_bestHeaps_77 : decode mX1_bestHeaps.2.1 77 = .ok (.iload 5, 2) := by decide +kernel
theorem dX1_bestHeaps_79 : decode mX1_bestHeaps.2.1 79 = .ok (.isub, 1) := by decide +kernel
theorem dX1_bestHeaps_80 : decode mX1_bestHeaps.2.1 80 = .ok (.iload 6, 2) := by decide +kernel
theorem dX1_bestHeaps_82 : decode mX1_bestHeaps.2.1 82 = .ok (.isub, 1) := by decide +kernel
theorem dX1_bestHeaps_83 : decode mX1_bestHeaps.2.1 83 = .ok (.invokestatic 116, 3) := by decide +kernel
theorem dX1_bestHeaps_86 : decode mX1_bestHeaps.2.1 86 = .ok (.istore 7, 2) := by decide +kernel
theorem dX1_bestHeaps_88 : decode mX1_bestHeaps.2.1 88 = .ok (.iload_n 2, 1) := by decide +kernel
theorem dX1_bestHeaps_89 : decode mX1_bestHeaps.2.1 89 = .ok (.iconst (-1), 1) := by decide +kernel
theorem dX1_bestHeaps_90 : decode mX1_bestHeaps.2.1 90 = .ok (.if_icmp .eq 9, 3) := by decide +kernel
theorem dX1_bestHeaps_93 : decode mX1_bestHeaps.2.1 93 = .ok (.iload 7, 2) := by decide +kernel
theorem dX1_bestHeaps_95 : decode mX1_bestHeaps.2.1 95 = .ok (.iload_n 3, 1) := by decide +kernel
theorem dX1_bestHeaps_96 : decode mX1_bestHeaps.2.1 96 = .ok (.if_icmp .ge 9, 3) := by decide +kernel
theorem dX1_bestHeaps_99 : decode mX1_bestHeaps.2.1 99 = .ok (.iload 4, 2) := by decide +kernel
theorem dX1_bestHeaps_101 : decode mX1_bestHeaps.2.1 101 = .ok (.istore_n 2, 1) := by decide +kernel
theorem dX1_bestHeaps_102 : decode mX1_bestHeaps.2.1 102 = .ok (.iload 7, 2) := by decide +kernel
theorem dX1_bestHeaps_104 : decode mX1_bestHeaps.2.1 104 = .ok (.istore_n 3, 1) := by decide +kernel
theorem dX1_bestHeaps_105 : decode mX1_bestHeaps.2.1 105 = .ok (.iinc 4 1, 3) := by decide +kernel
theorem dX1_bestHeaps_108 : decode mX1_bestHeaps.2.1 108 = .ok (.goto (-80), 3) := by decide +kernel
theorem dX1_bestHeaps_111 : decode mX1_bestHeaps.2.1 111 = .ok (.iload_n 2, 1) := by decide +kernel
theorem dX1_bestHeaps_112 : decode mX1_bestHeaps.2.1 112 = .ok (.iconst (-1), 1) := by decide +kernel
theorem dX1_bestHeaps_113 : decode mX1_bestHeaps.2.1 113 = .ok (.if_icmp .ne 5, 3) := by decide +kernel
theorem dX1_bestHeaps_116 : decode mX1_bestHeaps.2.1 116 = .ok (.iconst (-1), 1) := by decide +kernel
theorem dX1_bestHeaps_117 : decode mX1_bestHeaps.2.1 117 = .ok (.ireturn, 1) := by decide +kernel
theorem dX1_bestHeaps_118 : decode mX1_bestHeaps.2.1 118 = .ok (.iload_n 1, 1) := by decide +kernel
theorem dX1_bestHeaps_119 : decode mX1_bestHeaps.2.1 119 = .ok (.ifCond .ne 14, 3) := by decide +kernel
theorem dX1_bestHeaps_122 : decode mX1_bestHeaps.2.1 122 = .ok (.aload_n 0, 1) := by decide +kernel
theorem dX1_bestHeaps_123 : decode mX1_bestHeaps.2.1 123 = .ok (.getfield 42, 3) := by decide +kernel
theorem dX1_bestHeaps_126 : decode mX1_bestHeaps.2.1 126 = .ok (.iload_n 2, 1) := by decide +kernel
theorem dX1_bestHeaps_127 : decode mX1_bestHeaps.2.1 127 = .ok (.invokestatic 70, 3) := by decide +kernel
theorem dX1_bestHeaps_130 : decode mX1_bestHeaps.2.1 130 = .ok (.goto 20, 3) := by decide +kernel
theorem dX1_bestHeaps_133 : decode mX1_bestHeaps.2.1 133 = .ok (.iload_n 1, 1) := by decide +kernel
theorem dX1_bestHeaps_134 : decode mX1_bestHeaps.2.1 134 = .ok (.iconst 1, 1) := by decide +kernel
theorem dX1_bestHeaps_135 : decode mX1_bestHeaps.2.1 135 = .ok (.if_icmp .ne 14, 3) := by decide +kernel
theorem dX1_bestHeaps_138 : decode mX1_bestHeaps.2.1 138 = .ok (.aload_n 0, 1) := by decide +kernel
theorem dX1_bestHeaps_139 : decode mX1_bestHeaps.2.1 139 = .ok (.getfield 45, 3) := by decide +kernel
theorem dX1_bestHeaps_142 : decode mX1_bestHeaps.2.1 142 = .ok (.iload_n 2, 1) := by decide +kernel
theorem dX1_bestHeaps_143 : decode mX1_bestHeaps.2.1 143 = .ok (.invokestatic 70, 3) := by decide +kernel
theorem dX1_bestHeaps_146 : decode mX1_bestHeaps.2.1 146 = .ok (.goto 4, 3) := by decide +kernel
theorem dX1_bestHeaps_149 : decode mX1_bestHeaps.2.1 149 = .ok (.iload_n 3, 1) := by decide +kernel
theorem dX1_bestHeaps_150 : decode mX1_bestHeaps.2.1 150 = .ok (.ireturn, 1) := by decide +kernel
theorem dX1_askAll_0 : decode mX1_askAll.2.1 0 = .ok (.aload_n 0, 1) := by decide +kernel
theorem dX1_askAll_1 : decode mX1_askAll.2.1 1 = .ok (.iconst 0, 1) := by decide +kernel
theorem dX1_askAll_2 : decode mX1_askAll.2.1 2 = .ok (.putfield 100, 3) := by decide +kernel
theorem dX1_askAll_5 : decode mX1_askAll.2.1 5 = .ok (.iconst 1, 1) := by decide +kernel
theorem dX1_askAll_6 : decode mX1_askAll.2.1 6 = .ok (.istore_n 1, 1) := by decide +kernel
theorem dX1_askAll_7 : decode mX1_askAll.2.1 7 = .ok (.iload_n 1, 1) := by decide +kernel
theorem dX1_askAll_8 : decode mX1_askAll.2.1 8 = .ok (.iconst 1, 1) := by decide +kernel
theorem dX1_askAll_9 : decode mX1_askAll.2.1 9 = .ok (.aload_n 0, 1) := by decide +kernel
theorem dX1_askAll_10 : decode mX1_askAll.2.1 10 = .ok (.getfield 54, 3) := by decide +kernel
theorem dX1_askAll_13 : decode mX1_askAll.2.1 13 = .ok (.ishl, 1) := by decide +kernel
theorem dX1_askAll_14 : decode mX1_askAll.2.1 14 = .ok (.if_icmp .ge 41, 3) := by decide +kernel
theorem dX1_askAll_17 : decode mX1_askAll.2.1 17 = .ok (.iload_n 1, 1) := by decide +kernel
theorem dX1_askAll_18 : decode mX1_askAll.2.1 18 = .ok (.iconst 1, 1) := by decide +kernel
theorem dX1_askAll_19 : decode mX1_askAll.2.1 19 = .ok (.iadd, 1) := by decide +kernel
theorem dX1_askAll_20 : decode mX1_askAll.2.1 20 = .ok (.istore_n 2, 1) := by decide +kernel
theorem dX1_askAll_21 : decode mX1_askAll.2.1 21 = .ok (.iload_n 2, 1) := by decide +kernel
theorem dX1_askAll_22 : decode mX1_askAll.2.1 22 = .ok (.iconst 1, 1) := by decide +kernel
theorem dX1_askAll_23 : decode mX1_askAll.2.1 23 = .ok (.aload_n 0, 1) := by decide +kernel
theorem dX1_askAll_24 : decode mX1_askAll.2.1 24 = .ok (.getfield 54, 3) := by decide +kernel
theorem dX1_askAll_27 : decode mX1_askAll.2.1 27 = .ok (.ishl, 1) := by decide +kernel
theorem dX1_askAll_28 : decode mX1_askAll.2.1 28 = .ok (.if_icmp .ge 21, 3) := by decide +kernel
theorem dX1_askAll_31 : decode mX1_askAll.2.1 31 = .ok (.iload_n 1, 1) := by decide +kernel
theorem dX1_askAll_32 : decode mX1_askAll.2.1 32 = .ok (.iload_n 2, 1) := by decide +kernel
theorem dX1_askAll_33 : decode mX1_askAll.2.1 33 = .ok (.iand, 1) := by decide +kernel
theorem dX1_askAll_34 : decode mX1_askAll.2.1 34 = .ok (.ifCond .ne 9, 3) := by decide +kernel
theorem dX1_askAll_37 : decode mX1_askAll.2.1 37 = .ok (.aload_n 0, 1) := by decide +kernel
theorem dX1_askAll_38 : decode mX1_askAll.2.1 38 = .ok (.iload_n 1, 1) := by decide +kernel
theorem dX1_askAll_39 : decode mX1_askAll.2.1 39 = .ok (.iload_n 2, 1) := by decide +kernel
theorem dX1_askAll_40 : decode mX1_askAll.2.1 40 = .ok (.invokevirtual 106, 3) := by decide +kernel
theorem dX1_askAll_43 : decode mX1_askAll.2.1 43 = .ok (.iinc 2 1, 3) := by decide +kernel
theorem dX1_askAll_46 : decode mX1_askAll.2.1 46 = .ok (.goto (-25), 3) := by decide +kernel
theorem dX1_askAll_49 : decode mX1_askAll.2.1 49 = .ok (.iinc 1 1, 3) := by decide +kernel
theorem dX1_askAll_52 : decode mX1_askAll.2.1 52 = .ok (.goto (-45), 3) := by decide +kernel
theorem dX1_askAll_55 : decode mX1_askAll.2.1 55 = .ok (.return_, 1) := by decide +kernel
theorem bX1_load_0 {d : Nat} {g : xSt} {r : Option Value × xSt} {a3 : Int32} {t : Nat} (W : xWf g) (ht : xTw t) (k1 : (xI g 98 0) = (xI g t 0) → xX (d + 1) mX1_load 14 [some (.ref 98), some (.ref t), some (.ref 32), some (.int a3), some (.int 0), none, none, none, none, none] [] g = some r) (k2 : ¬ ((xI g 98 0) = (xI g t 0)) → xX (d + 1) mX1_load 25 [some (.ref 98), some (.ref t), some (.ref 32), some (.int a3), some (.int 0), none, none, none, none, none] [] g = some r) : xX (d + 1) mX1_load 0 [some (.ref 98), some (.ref t), some (.ref 32), some (.int a3), none, none, none, none, none, none] [] g = some r :=
  Y_iconst 0 dX1_load_0 ic_0 <| Y_istore dX1_load_1 rfl rfl <| Y_aload_n dX1_load_3 rfl <| Y_getI dX1_load_4 f_1_54 ft_1_0 (xis W 98 1 s_98 (Nat.le_of_ble_eq_true rfl)) <| Y_aload_n dX1_load_7 rfl <| Y_getI dX1_load_8 f_1_57 ft_9_0 (xisS W ht) <| Y_ne 25 dX1_load_11 rfl (fun q => X_le (xle_s (xle_s (xle_s (xle_s (xle_s (xle_n (xle_n (xle_n (xle_n (xle_n xle_0)))))))))) (k1 q)) (fun q => X_le (xle_s (xle_s (xle_s (xle_s (xle_s (xle_n (xle_n (xle_n (xle_n (xle_n xle_0)))))))))) (k2 q))
theorem bX1_load_14 {d : Nat} {g : xSt} {r : Option Value × xSt} {a3 a4 : Int32} {t : Nat} (W : xWf g) (ht : xTw t) (k1 : (xI g 98 1) = (xI g t 5) → xX (d + 1) mX1_load 29 [some (.ref 98), some (.ref t), some (.ref 32), some (.int a3), some (.int a4), none, none, none, none, none] [] g = some r) (k2 : ¬ ((xI g 98 1) = (xI g t 5)) → xX (d + 1) mX1_load 25 [some (.ref 98), some (.ref t), some (.ref 32), some (.int a3), some (.int a4), none, none, none, none, none] [] g = some r) : xX (d + 1) mX1_load 14 [some (.ref 98), some (.ref t), some (.ref 32), some (.int a3), some (.int a4), none, none, none, none, none] [] g = some r :=
  Y_aload_n dX1_load_14 rfl <| Y_getI dX1_load_15 f_1_58 ft_1_1 (xis W 98 1 s_98 (Nat.le_of_ble_eq_true rfl)) <| Y_aload_n dX1_load_18 rfl <| Y_getI dX1_load_19 f_1_61 ft_9_5 (xisS W ht) <| Y_eq 29 dX1_load_22 rfl (fun q => X_le (xle_s (xle_s (xle_s (xle_s (xle_s (xle_n (xle_n (xle_n (xle_n (xle_n xle_0)))))))))) (k1 q)) (fun q => X_le (xle_s (xle_s (xle_s (xle_s (xle_s (xle_n (xle_n (xle_n (xle_n (xle_n xle_0)))))))))) (k2 q))
theorem bX1_load_25 {d : Nat} {g : xSt} {r : Option Value × xSt} {a3 a4 : Int32} {t : Nat} (ht : xTw t) (k : xX (d + 1) mX1_load 30 [some (.ref 98), some (.ref t), some (.ref 32), some (.int a3), some (.int a4), none, none, none, none, none] [.int 1] g = some r) : xX (d + 1) mX1_load 25 [some (.ref 98), some (.ref t), some (.ref 32), some (.int a3), some (.int a4), none, none, none, none, none] [] g = some r :=
  Y_iconst 1 dX1_load_25 ic_1 <| Y_goto 30 dX1_load_26 rfl <| X_le (xle_s (xle_s (xle_s (xle_s (xle_s (xle_n (xle_n (xle_n (xle_n (xle_n xle_0)))))))))) k
theorem bX1_load_29 {d : Nat} {g : xSt} {r : Option Value × xSt} {a3 a4 : Int32} {t : Nat} (ht : xTw t) (k : xX (d + 1) mX1_load 30 [some (.ref 98), some (.ref t), some (.ref 32), some (.int a3), some (.int a4), none, none, none, none, none] [.int 0] g = some r) : xX (d + 1) mX1_load 29 [some (.ref 98), some (.ref t), some (.ref 32), some (.int a3), some (.int a4), none, none, none, none, none] [] g = some r :=
  Y_iconst 0 dX1_load_29 ic_0 <| X_le (xle_s (xle_s (xle_s (xle_s (xle_s (xle_n (xle_n (xle_n (xle_n (xle_n xle_0)))))))))) k
theorem bX1_load_30 {d : Nat} {g : xSt} {r : Option Value × xSt} {a3 a4 s0 : Int32} {t : Nat} (W : xWf g) (ht : xTw t) (k : xX (d + 1) mX1_load 51 [some (.ref 98), none, some (.ref 32), some (.int a3), some (.int a4), some (.int s0), some (.int 0), none, none, none] [] (xWI (xWI g 98 0 (xI g t 0)) 98 1 (xI (xWI g 98 0 (xI g t 0)) t 5)) = some r) : xX (d + 1) mX1_load 30 [some (.ref 98), some (.ref t), some (.ref 32), some (.int a3), some (.int a4), none, none, none, none, none] [.int s0] g = some r :=
  Y_istore dX1_load_30 rfl rfl <| Y_aload_n dX1_load_32 rfl <| Y_aload_n dX1_load_33 rfl <| Y_getI dX1_load_34 f_1_57 ft_9_0 (xisS W ht) <| Y_putI dX1_load_37 f_1_54 fn_1_0 ft_1_0 (xis W 98 1 s_98 (Nat.le_of_ble_eq_true rfl)) <| Y_aload_n dX1_load_40 rfl <| Y_aload_n dX1_load_41 rfl <| Y_getI dX1_load_42 f_1_61 ft_9_5 (xisS W ht) <| Y_putI dX1_load_45 f_1_58 fn_1_1 ft_1_1 (xis W 98 1 s_98 (Nat.le_of_ble_eq_true rfl)) <| Y_iconst 0 dX1_load_48 ic_0 <| Y_istore dX1_load_49 rfl rfl <| X_le (xle_s (xle_n (xle_s (xle_s (xle_s (xle_s (xle_s (xle_n (xle_n (xle_n xle_0)))))))))) k
theorem bX1_load_51 {d : Nat} {g : xSt} {r : Option Value × xSt} {a3 a4 a5 a6 : Int32} (W : xWf g) (k1 : (xI g 32 0) ≤ a6 → xX (d + 1) mX1_load 185 [some (.ref 98), none, none, none, some (.int a4), some (.int a5), none, none, none, none] [] g = some r) (k2 : ¬ ((xI g 32 0) ≤ a6) → xX (d + 1) mX1_load 60 [some (.ref 98), none, some (.ref 32), some (.int a3), some (.int a4), some (.int a5), some (.int a6), none, none, none] [] g = some r) : xX (d + 1) mX1_load 51 [some (.ref 98), none, some (.ref 32), some (.int a3), some (.int a4), some (.int a5), some (.int a6), none, none, none] [] g = some r :=
  Y_iload dX1_load_51 rfl <| Y_aload_n dX1_load_53 rfl <| Y_getI dX1_load_54 f_1_62 ft_0_0 (xis W 32 0 s_32 (Nat.le_of_ble_eq_true rfl)) <| Y_ge 185 dX1_load_57 rfl (fun q => X_le (xle_s (xle_n (xle_n (xle_n (xle_s (xle_s (xle_n (xle_n (xle_n (xle_n xle_0)))))))))) (k1 q)) (fun q => X_le (xle_s (xle_n (xle_s (xle_s (xle_s (xle_s (xle_s (xle_n (xle_n (xle_n xle_0)))))))))) (k2 q))
theorem bX1_load_60 {d : Nat} {g : xSt} {r : Option Value × xSt} {a3 a4 a5 a6 r97 : Int32} {g97 : xSt} (W : xWf g) (hk97 : xCallM d mX0_counts [.ref 32, .int a6, .int a3] g = some (some (.int r97), g97)) (W97 : xWf g97) (k1 : r97 = 0 → xX (d + 1) mX1_load 179 [some (.ref 98), none, some (.ref 32), some (.int a3), some (.int a4), some (.int a5), some (.int a6), none, none, none] [] g97 = some r) (k2 : ¬ (r97 = 0) → xX (d + 1) mX1_load 103 [some (.ref 98), none, some (.ref 32), some (.int a3), some (.int a4), some (.int a5), some (.int a6), some (.int (xat (xI g 33) 60 a6)), some (.int (xat (xI g 34) 60 a6)), some (.int (xat (xI g 35) 60 a6))] [] g97 = some r) : xX (d + 1) mX1_load 60 [some (.ref 98), none, some (.ref 32), some (.int a3), some (.int a4), some (.int a5), some (.int a6), none, none, none] [] g = some r :=
  Y_aload_n dX1_load_60 rfl <| Y_getR dX1_load_61 f_1_67 (by rw [ft_0_5]; rfl) (xis W 32 0 s_32 (Nat.le_of_ble_eq_true rfl)) (xptr W 32 5 p_32_5) <| Y_iload dX1_load_64 rfl <| Y_callS1 dX1_load_66 cl_1_70 rfl rfl rfl rfl rfl (c_at (xarr W (o := 33) s_33 (Nat.le_of_ble_eq_true rfl))) <| Y_istore dX1_load_69 rfl rfl <| Y_aload_n dX1_load_71 rfl <| Y_getR dX1_load_72 f_1_76 (by rw [ft_0_6]; rfl) (xis W 32 0 s_32 (Nat.le_of_ble_eq_true rfl)) (xptr W 32 6 p_32_6) <| Y_iload dX1_load_75 rfl <| Y_callS1 dX1_load_77 cl_1_70 rfl rfl rfl rfl rfl (c_at (xarr W (o := 34) s_34 (Nat.le_of_ble_eq_true rfl))) <| Y_istore dX1_load_80 rfl rfl <| Y_aload_n dX1_load_82 rfl <| Y_getR dX1_load_83 f_1_79 (by rw [ft_0_7]; rfl) (xis W 32 0 s_32 (Nat.le_of_ble_eq_true rfl)) (xptr W 32 7 p_32_7) <| Y_iload dX1_load_86 rfl <| Y_callS1 dX1_load_88 cl_1_70 rfl rfl rfl rfl rfl (c_at (xarr W (o := 35) s_35 (Nat.le_of_ble_eq_true rfl))) <| Y_istore dX1_load_91 rfl rfl <| Y_aload_n dX1_load_93 rfl <| Y_iload dX1_load_94 rfl <| Y_iload_n dX1_load_96 rfl <| Y_callV1 dX1_load_97 cl_1_82 rfl rfl (xis W 32 0 s_32 (Nat.le_of_ble_eq_true rfl)) rfl rfl rfl (hk97) <| Y_eq0 179 dX1_load_100 rfl (fun q => X_le (xle_s (xle_n (xle_s (xle_s (xle_s (xle_s (xle_s (xle_n (xle_n (xle_n xle_0)))))))))) (k1 q)) (fun q => X_le (xle_s (xle_n (xle_s (xle_s (xle_s (xle_s (xle_s (xle_s (xle_s (xle_s xle_0)))))))))) (k2 q))
theorem bX1_load_103 {d : Nat} {g : xSt} {r : Option Value × xSt} {a3 a4 a5 a6 a7 a8 a9 r112 : Int32} {g112 : xSt} (W : xWf g) (hk112 : xCallM d mX1_isRule [.ref 98, .int a7, .int a8, .int a9, .int a4] g = some (some (.int r112), g112)) (W112 : xWf g112) (k1 : r112 = 0 → xX (d + 1) mX1_load 118 [some (.ref 98), none, some (.ref 32), some (.int a3), some (.int a4), some (.int a5), some (.int a6), some (.int a7), some (.int a8), some (.int a9)] [] g112 = some r) (k2 : ¬ (r112 = 0) → xX (d + 1) mX1_load 179 [some (.ref 98), none, some (.ref 32), some (.int a3), some (.int a4), some (.int a5), some (.int a6), none, none, none] [] g112 = some r) : xX (d + 1) mX1_load 103 [some (.ref 98), none, some (.ref 32), some (.int a3), some (.int a4), some (.int a5), some (.int a6), some (.int a7), some (.int a8), some (.int a9)] [] g = some r :=
  Y_aload_n dX1_load_103 rfl <| Y_iload dX1_load_104 rfl <| Y_iload dX1_load_106 rfl <| Y_iload dX1_load_108 rfl <| Y_iload dX1_load_110 rfl <| Y_callV1 dX1_load_112 cl_1_86 rfl rfl (xis W 98 1 s_98 (Nat.le_of_ble_eq_true rfl)) rfl rfl rfl (hk112) <| Y_ne0 179 dX1_load_115 rfl (fun q => X_le (xle_s (xle_n (xle_s (xle_s (xle_s (xle_s (xle_s (xle_s (xle_s (xle_s xle_0)))))))))) (k1 q)) (fun q => X_le (xle_s (xle_n (xle_s (xle_s (xle_s (xle_s (xle_s (xle_n (xle_n (xle_n xle_0)))))))))) (k2 q))
theorem bX1_load_118 {d : Nat} {g : xSt} {r : Option Value × xSt} {a3 a4 a5 a6 a7 a8 a9 r129 : Int32} {g129 : xSt} (W : xWf g) (hk129 : xCallM d mX1_isRuleAt [.ref 98, .int a4, .int a7, .int a8, .int a9] g = some (some (.int r129), g129)) (W129 : xWf g129) (k1 : r129 = 0 → xX (d + 1) mX1_load 135 [some (.ref 98), none, some (.ref 32), some (.int a3), some (.int a4), none, some (.int a6), some (.int a7), some (.int a8), some (.int a9)] [.int a5] g129 = some r) (k2 : ¬ (r129 = 0) → xX (d + 1) mX1_load 139 [some (.ref 98), none, some (.ref 32), some (.int a3), some (.int a4), none, some (.int a6), some (.int a7), some (.int a8), some (.int a9)] [.int a5] g129 = some r) : xX (d + 1) mX1_load 118 [some (.ref 98), none, some (.ref 32), some (.int a3), some (.int a4), some (.int a5), some (.int a6), some (.int a7), some (.int a8), some (.int a9)] [] g = some r :=
  Y_iload dX1_load_118 rfl <| Y_aload_n dX1_load_120 rfl <| Y_iload dX1_load_121 rfl <| Y_iload dX1_load_123 rfl <| Y_iload dX1_load_125 rfl <| Y_iload dX1_load_127 rfl <| Y_callV1 dX1_load_129 cl_1_90 rfl rfl (xis W 98 1 s_98 (Nat.le_of_ble_eq_true rfl)) rfl rfl rfl (hk129) <| Y_ne0 139 dX1_load_132 rfl (fun q => X_le (xle_s (xle_n (xle_s (xle_s (xle_s (xle_n (xle_s (xle_s (xle_s (xle_s xle_0)))))))))) (k1 q)) (fun q => X_le (xle_s (xle_n (xle_s (xle_s (xle_s (xle_n (xle_s (xle_s (xle_s (xle_s xle_0)))))))))) (k2 q))
theorem bX1_load_135 {d : Nat} {g : xSt} {r : Option Value × xSt} {a3 a4 a6 a7 a8 a9 s0 : Int32} (k : xX (d + 1) mX1_load 140 [some (.ref 98), none, some (.ref 32), some (.int a3), some (.int a4), none, some (.int a6), some (.int a7), some (.int a8), some (.int a9)] [.int 1, .int s0] g = some r) : xX (d + 1) mX1_load 135 [some (.ref 98), none, some (.ref 32), some (.int a3), some (.int a4), none, some (.int a6), some (.int a7), some (.int a8), some (.int a9)] [.int s0] g = some r :=
  Y_iconst 1 dX1_load_135 ic_1 <| Y_goto 140 dX1_load_136 rfl <| X_le (xle_s (xle_n (xle_s (xle_s (xle_s (xle_n (xle_s (xle_s (xle_s (xle_s xle_0)))))))))) k
theorem bX1_load_139 {d : Nat} {g : xSt} {r : Option Value × xSt} {a3 a4 a6 a7 a8 a9 s0 : Int32} (k : xX (d + 1) mX1_load 140 [some (.ref 98), none, some (.ref 32), some (.int a3), some (.int a4), none, some (.int a6), some (.int a7), some (.int a8), some (.int a9)] [.int 0, .int s0] g = some r) : xX (d + 1) mX1_load 139 [some (.ref 98), none, some (.ref 32), some (.int a3), some (.int a4), none, some (.int a6), some (.int a7), some (.int a8), some (.int a9)] [.int s0] g = some r :=
  Y_iconst 0 dX1_load_139 ic_0 <| X_le (xle_s (xle_n (xle_s (xle_s (xle_s (xle_n (xle_s (xle_s (xle_s (xle_s xle_0)))))))))) k
theorem bX1_load_140 {d : Nat} {g : xSt} {r : Option Value × xSt} {a3 a4 a6 a7 a8 a9 s1 s0 : Int32} (W : xWf g) (k : xX (d + 1) mX1_load 179 [some (.ref 98), none, some (.ref 32), some (.int a3), some (.int (a4 + 1)), some (.int (s1 ||| s0)), some (.int a6), none, none, none] [] (xput (xput (xput g 99 60 a4 a7) 100 60 a4 a8) 101 60 a4 a9) = some r) : xX (d + 1) mX1_load 140 [some (.ref 98), none, some (.ref 32), some (.int a3), some (.int a4), none, some (.int a6), some (.int a7), some (.int a8), some (.int a9)] [.int s0, .int s1] g = some r :=
  Y_ior dX1_load_140 <| Y_istore dX1_load_141 rfl rfl <| Y_aload_n dX1_load_143 rfl <| Y_getR dX1_load_144 f_1_9 (by rw [ft_1_3]; rfl) (xis W 98 1 s_98 (Nat.le_of_ble_eq_true rfl)) (xptr W 98 3 p_98_3) <| Y_iload dX1_load_147 rfl <| Y_iload dX1_load_149 rfl <| Y_callS0 dX1_load_151 cl_1_93 rfl rfl rfl rfl rfl (c_put (xarr W (o := 99) s_99 (Nat.le_of_ble_eq_true rfl))) <| Y_aload_n dX1_load_154 rfl <| Y_getR dX1_load_155 f_1_15 (by rw [ft_1_4]; rfl) (xis (xWf_put W) 98 1 s_98 (Nat.le_of_ble_eq_true rfl)) (xptr (xWf_put W) 98 4 p_98_4) <| Y_iload dX1_load_158 rfl <| Y_iload dX1_load_160 rfl <| Y_callS0 dX1_load_162 cl_1_93 rfl rfl rfl rfl rfl (c_put (xarr (xWf_put W) (o := 100) s_100 (Nat.le_of_ble_eq_true rfl))) <| Y_aload_n dX1_load_165 rfl <| Y_getR dX1_load_166 f_1_18 (by rw [ft_1_5]; rfl) (xis (xWf_put (xWf_put W)) 98 1 s_98 (Nat.le_of_ble_eq_true rfl)) (xptr (xWf_put (xWf_put W)) 98 5 p_98_5) <| Y_iload dX1_load_169 rfl <| Y_iload dX1_load_171 rfl <| Y_callS0 dX1_load_173 cl_1_93 rfl rfl rfl rfl rfl (c_put (xarr (xWf_put (xWf_put W)) (o := 101) s_101 (Nat.le_of_ble_eq_true rfl))) <| Y_iinc 1 dX1_load_176 rfl ic_1 rfl rfl <| X_le (xle_s (xle_n (xle_s (xle_s (xle_s (xle_s (xle_s (xle_n (xle_n (xle_n xle_0)))))))))) k
theorem bX1_load_179 {d : Nat} {g : xSt} {r : Option Value × xSt} {a3 a4 a5 a6 : Int32} (k : xX (d + 1) mX1_load 51 [some (.ref 98), none, some (.ref 32), some (.int a3), some (.int a4), some (.int a5), some (.int (a6 + 1)), none, none, none] [] g = some r) : xX (d + 1) mX1_load 179 [some (.ref 98), none, some (.ref 32), some (.int a3), some (.int a4), some (.int a5), some (.int a6), none, none, none] [] g = some r :=
  Y_iinc 1 dX1_load_179 rfl ic_1 rfl rfl <| Y_goto 51 dX1_load_182 rfl <| X_le (xle_s (xle_n (xle_s (xle_s (xle_s (xle_s (xle_s (xle_n (xle_n (xle_n xle_0)))))))))) k
theorem bX1_load_185 {d : Nat} {g : xSt} {r : Option Value × xSt} {a4 a5 : Int32} (k1 : a5 = 0 → xX (d + 1) mX1_load 190 [some (.ref 98), none, none, none, some (.int a4), none, none, none, none, none] [] g = some r) (k2 : ¬ (a5 = 0) → xX (d + 1) mX1_load 199 [some (.ref 98), none, none, none, some (.int a4), none, none, none, none, none] [] g = some r) : xX (d + 1) mX1_load 185 [some (.ref 98), none, none, none, some (.int a4), some (.int a5), none, none, none, none] [] g = some r :=
  Y_iload dX1_load_185 rfl <| Y_ne0 199 dX1_load_187 rfl (fun q => X_le (xle_s (xle_n (xle_n (xle_n (xle_s (xle_n (xle_n (xle_n (xle_n (xle_n xle_0)))))))))) (k1 q)) (fun q => X_le (xle_s (xle_n (xle_n (xle_n (xle_s (xle_n (xle_n (xle_n (xle_n (xle_n xle_0)))))))))) (k2 q))
theorem bX1_load_190 {d : Nat} {g : xSt} {r : Option Value × xSt} {a4 : Int32} (W : xWf g) (k1 : a4 = (xI g 98 2) → xX (d + 1) mX1_load 204 [some (.ref 98), none, none, none, some (.int a4), none, none, none, none, none] [] g = some r) (k2 : ¬ (a4 = (xI g 98 2)) → xX (d + 1) mX1_load 199 [some (.ref 98), none, none, none, some (.int a4), none, none, none, none, none] [] g = some r) : xX (d + 1) mX1_load 190 [some (.ref 98), none, none, none, some (.int a4), none, none, none, none, none] [] g = some r :=
  Y_iload dX1_load_190 rfl <| Y_aload_n dX1_load_192 rfl <| Y_getI dX1_load_193 f_1_97 ft_1_2 (xis W 98 1 s_98 (Nat.le_of_ble_eq_true rfl)) <| Y_eq 204 dX1_load_196 rfl (fun q => X_le (xle_s (xle_n (xle_n (xle_n (xle_s (xle_n (xle_n (xle_n (xle_n (xle_n xle_0)))))))))) (k1 q)) (fun q => X_le (xle_s (xle_n (xle_n (xle_n (xle_s (xle_n (xle_n (xle_n (xle_n (xle_n xle_0)))))))))) (k2 q))
theorem bX1_load_199 {d : Nat} {g : xSt} {r : Option Value × xSt} {a4 : Int32} (W : xWf g) (k : xX (d + 1) mX1_load 204 [some (.ref 98), none, none, none, some (.int a4), none, none, none, none, none] [] (xWI g 98 12 (-1)) = some r) : xX (d + 1) mX1_load 199 [some (.ref 98), none, none, none, some (.int a4), none, none, none, none, none] [] g = some r :=
  Y_aload_n dX1_load_199 rfl <| Y_iconst (-1) dX1_load_200 ic_m1 <| Y_putI dX1_load_201 f_1_38 fn_1_12 ft_1_12 (xis W 98 1 s_98 (Nat.le_of_ble_eq_true rfl)) <| X_le (xle_s (xle_n (xle_n (xle_n (xle_s (xle_n (xle_n (xle_n (xle_n (xle_n xle_0)))))))))) k
theorem bX1_load_204 {d : Nat} {g : xSt} {r : Option Value × xSt} {a4 : Int32} (W : xWf g) (k : r = (none, xWI g 98 2 a4)) : xX (d + 1) mX1_load 204 [some (.ref 98), none, none, none, some (.int a4), none, none, none, none, none] [] g = some r :=
  Y_aload_n dX1_load_204 rfl <| Y_iload dX1_load_205 rfl <| Y_putI dX1_load_207 f_1_97 fn_1_2 ft_1_2 (xis W 98 1 s_98 (Nat.le_of_ble_eq_true rfl)) <| Y_ret dX1_load_210 rfl k
theorem bX1_isRule_0 {d : Nat} {g : xSt} {r : Option Value × xSt} {a1 a2 a3 a4 : Int32} (k : xX (d + 1) mX1_isRule 3 [some (.ref 98), some (.int a1), some (.int a2), some (.int a3), some (.int a4), some (.int 0)] [] g = some r) : xX (d + 1) mX1_isRule 0 [some (.ref 98), some (.int a1), some (.int a2), some (.int a3), some (.int a4), none] [] g = some r :=
  Y_iconst 0 dX1_isRule_0 ic_0 <| Y_istore dX1_isRule_1 rfl rfl <| X_le (xle_s (xle_s (xle_s (xle_s (xle_s (xle_s xle_0)))))) k
theorem bX1_isRule_3 {d : Nat} {g : xSt} {r : Option Value × xSt} {a1 a2 a3 a4 a5 : Int32} (k1 : a4 ≤ a5 → xX (d + 1) mX1_isRule 30 [none, none, none, none, none, none] [] g = some r) (k2 : ¬ (a4 ≤ a5) → xX (d + 1) mX1_isRule 10 [some (.ref 98), some (.int a1), some (.int a2), some (.int a3), some (.int a4), some (.int a5)] [] g = some r) : xX (d + 1) mX1_isRule 3 [some (.ref 98), some (.int a1), some (.int a2), some (.int a3), some (.int a4), some (.int a5)] [] g = some r :=
  Y_iload dX1_isRule_3 rfl <| Y_iload dX1_isRule_5 rfl <| Y_ge 30 dX1_isRule_7 rfl (fun q => X_le (xle_n (xle_n (xle_n (xle_n (xle_n (xle_n xle_0)))))) (k1 q)) (fun q => X_le (xle_s (xle_s (xle_s (xle_s (xle_s (xle_s xle_0)))))) (k2 q))
theorem bX1_isRule_10 {d : Nat} {g : xSt} {r : Option Value × xSt} {a1 a2 a3 a4 a5 r16 : Int32} {g16 : xSt} (W : xWf g) (hk16 : xCallM d mX1_isRuleAt [.ref 98, .int a5, .int a1, .int a2, .int a3] g = some (some (.int r16), g16)) (W16 : xWf g16) (k1 : r16 = 0 → xX (d + 1) mX1_isRule 24 [some (.ref 98), some (.int a1), some (.int a2), some (.int a3), some (.int a4), some (.int a5)] [] g16 = some r) (k2 : ¬ (r16 = 0) → xX (d + 1) mX1_isRule 22 [none, none, none, none, none, none] [] g16 = some r) : xX (d + 1) mX1_isRule 10 [some (.ref 98), some (.int a1), some (.int a2), some (.int a3), some (.int a4), some (.int a5)] [] g = some r :=
  Y_aload_n dX1_isRule_10 rfl <| Y_iload dX1_isRule_11 rfl <| Y_iload_n dX1_isRule_13 rfl <| Y_iload_n dX1_isRule_14 rfl <| Y_iload_n dX1_isRule_15 rfl <| Y_callV1 dX1_isRule_16 cl_1_90 rfl rfl (xis W 98 1 s_98 (Nat.le_of_ble_eq_true rfl)) rfl rfl rfl (hk16) <| Y_eq0 24 dX1_isRule_19 rfl (fun q => X_le (xle_s (xle_s (xle_s (xle_s (xle_s (xle_s xle_0)))))) (k1 q)) (fun q => X_le (xle_n (xle_n (xle_n (xle_n (xle_n (xle_n xle_0)))))) (k2 q))
theorem bX1_isRule_22 {d : Nat} {g : xSt} {r : Option Value × xSt}  (k : r = (some (.int 1), g)) : xX (d + 1) mX1_isRule 22 [none, none, none, none, none, none] [] g = some r :=
  Y_iconst 1 dX1_isRule_22 ic_1 <| Y_zret dX1_isRule_23 rfl (by decide) k
theorem bX1_isRule_24 {d : Nat} {g : xSt} {r : Option Value × xSt} {a1 a2 a3 a4 a5 : Int32} (k : xX (d + 1) mX1_isRule 3 [some (.ref 98), some (.int a1), some (.int a2), some (.int a3), some (.int a4), some (.int (a5 + 1))] [] g = some r) : xX (d + 1) mX1_isRule 24 [some (.ref 98), some (.int a1), some (.int a2), some (.int a3), some (.int a4), some (.int a5)] [] g = some r :=
  Y_iinc 1 dX1_isRule_24 rfl ic_1 rfl rfl <| Y_goto 3 dX1_isRule_27 rfl <| X_le (xle_s (xle_s (xle_s (xle_s (xle_s (xle_s xle_0)))))) k
theorem bX1_isRule_30 {d : Nat} {g : xSt} {r : Option Value × xSt}  (k : r = (some (.int 0), g)) : xX (d + 1) mX1_isRule 30 [none, none, none, none, none, none] [] g = some r :=
  Y_iconst 0 dX1_isRule_30 ic_0 <| Y_zret dX1_isRule_31 rfl (by decide) k
theorem bX1_isRuleAt_0 {d : Nat} {g : xSt} {r : Option Value × xSt} {a1 a2 a3 a4 : Int32} (W : xWf g) (k1 : (xat (xI g 99) 60 a1) = a2 → xX (d + 1) mX1_isRuleAt 12 [some (.ref 98), some (.int a1), none, some (.int a3), some (.int a4)] [] g = some r) (k2 : ¬ ((xat (xI g 99) 60 a1) = a2) → xX (d + 1) mX1_isRuleAt 41 [none, none, none, none, none] [] g = some r) : xX (d + 1) mX1_isRuleAt 0 [some (.ref 98), some (.int a1), some (.int a2), some (.int a3), some (.int a4)] [] g = some r :=
  Y_aload_n dX1_isRuleAt_0 rfl <| Y_getR dX1_isRuleAt_1 f_1_9 (by rw [ft_1_3]; rfl) (xis W 98 1 s_98 (Nat.le_of_ble_eq_true rfl)) (xptr W 98 3 p_98_3) <| Y_iload_n dX1_isRuleAt_4 rfl <| Y_callS1 dX1_isRuleAt_5 cl_1_70 rfl rfl rfl rfl rfl (c_at (xarr W (o := 99) s_99 (Nat.le_of_ble_eq_true rfl))) <| Y_iload_n dX1_isRuleAt_8 rfl <| Y_ne 41 dX1_isRuleAt_9 rfl (fun q => X_le (xle_s (xle_s (xle_n (xle_s (xle_s xle_0))))) (k1 q)) (fun q => X_le (xle_n (xle_n (xle_n (xle_n (xle_n xle_0))))) (k2 q))
theorem bX1_isRuleAt_12 {d : Nat} {g : xSt} {r : Option Value × xSt} {a1 a3 a4 : Int32} (W : xWf g) (k1 : (xat (xI g 100) 60 a1) = a3 → xX (d + 1) mX1_isRuleAt 24 [some (.ref 98), some (.int a1), none, none, some (.int a4)] [] g = some r) (k2 : ¬ ((xat (xI g 100) 60 a1) = a3) → xX (d + 1) mX1_isRuleAt 41 [none, none, none, none, none] [] g = some r) : xX (d + 1) mX1_isRuleAt 12 [some (.ref 98), some (.int a1), none, some (.int a3), some (.int a4)] [] g = some r :=
  Y_aload_n dX1_isRuleAt_12 rfl <| Y_getR dX1_isRuleAt_13 f_1_15 (by rw [ft_1_4]; rfl) (xis W 98 1 s_98 (Nat.le_of_ble_eq_true rfl)) (xptr W 98 4 p_98_4) <| Y_iload_n dX1_isRuleAt_16 rfl <| Y_callS1 dX1_isRuleAt_17 cl_1_70 rfl rfl rfl rfl rfl (c_at (xarr W (o := 100) s_100 (Nat.le_of_ble_eq_true rfl))) <| Y_iload_n dX1_isRuleAt_20 rfl <| Y_ne 41 dX1_isRuleAt_21 rfl (fun q => X_le (xle_s (xle_s (xle_n (xle_n (xle_s xle_0))))) (k1 q)) (fun q => X_le (xle_n (xle_n (xle_n (xle_n (xle_n xle_0))))) (k2 q))
theorem bX1_isRuleAt_24 {d : Nat} {g : xSt} {r : Option Value × xSt} {a1 a4 : Int32} (W : xWf g) (k1 : (xat (xI g 101) 60 a1) = a4 → xX (d + 1) mX1_isRuleAt 37 [none, none, none, none, none] [] g = some r) (k2 : ¬ ((xat (xI g 101) 60 a1) = a4) → xX (d + 1) mX1_isRuleAt 41 [none, none, none, none, none] [] g = some r) : xX (d + 1) mX1_isRuleAt 24 [some (.ref 98), some (.int a1), none, none, some (.int a4)] [] g = some r :=
  Y_aload_n dX1_isRuleAt_24 rfl <| Y_getR dX1_isRuleAt_25 f_1_18 (by rw [ft_1_5]; rfl) (xis W 98 1 s_98 (Nat.le_of_ble_eq_true rfl)) (xptr W 98 5 p_98_5) <| Y_iload_n dX1_isRuleAt_28 rfl <| Y_callS1 dX1_isRuleAt_29 cl_1_70 rfl rfl rfl rfl rfl (c_at (xarr W (o := 101) s_101 (Nat.le_of_ble_eq_true rfl))) <| Y_iload dX1_isRuleAt_32 rfl <| Y_ne 41 dX1_isRuleAt_34 rfl (fun q => X_le (xle_n (xle_n (xle_n (xle_n (xle_n xle_0))))) (k1 q)) (fun q => X_le (xle_n (xle_n (xle_n (xle_n (xle_n xle_0))))) (k2 q))
theorem bX1_isRuleAt_37 {d : Nat} {g : xSt} {r : Option Value × xSt}  (k : xX (d + 1) mX1_isRuleAt 42 [none, none, none, none, none] [.int 1] g = some r) : xX (d + 1) mX1_isRuleAt 37 [none, none, none, none, none] [] g = some r :=
  Y_iconst 1 dX1_isRuleAt_37 ic_1 <| Y_goto 42 dX1_isRuleAt_38 rfl <| X_le (xle_n (xle_n (xle_n (xle_n (xle_n xle_0))))) k
theorem bX1_isRuleAt_41 {d : Nat} {g : xSt} {r : Option Value × xSt}  (k : xX (d + 1) mX1_isRuleAt 42 [none, none, none, none, none] [.int 0] g = some r) : xX (d + 1) mX1_isRuleAt 41 [none, none, none, none, none] [] g = some r :=
  Y_iconst 0 dX1_isRuleAt_41 ic_0 <| X_le (xle_n (xle_n (xle_n (xle_n (xle_n xle_0))))) k
theorem bX1_isRuleAt_42 {d : Nat} {g : xSt} {r : Option Value × xSt} {s0 : Int32} (hz42 : s0 = 0 ∨ s0 = 1) (k : r = (some (.int s0), g)) : xX (d + 1) mX1_isRuleAt 42 [none, none, none, none, none] [.int s0] g = some r :=
  Y_zret dX1_isRuleAt_42 rfl (hz42) k
theorem bX1_guessAll_0 {d : Nat} {g : xSt} {r : Option Value × xSt}  (W : xWf g) (k1 : (xI g 98 12) = (-1) → xX (d + 1) mX1_guessAll 8 [some (.ref 98)] [] g = some r) (k2 : ¬ ((xI g 98 12) = (-1)) → xX (d + 1) mX1_guessAll 22 [none] [] g = some r) : xX (d + 1) mX1_guessAll 0 [some (.ref 98)] [] g = some r :=
  Y_aload_n dX1_guessAll_0 rfl <| Y_getI dX1_guessAll_1 f_1_38 ft_1_12 (xis W 98 1 s_98 (Nat.le_of_ble_eq_true rfl)) <| Y_iconst (-1) dX1_guessAll_4 ic_m1 <| Y_ne 22 dX1_guessAll_5 rfl (fun q => X_le (xle_s xle_0) (k1 q)) (fun q => X_le (xle_n xle_0) (k2 q))
theorem bX1_guessAll_8 {d : Nat} {g : xSt} {r : Option Value × xSt} {g14 : xSt} (W : xWf g) (hk14 : xCallM d mX1_guess [.ref 98] (xWI g 98 13 0) = some (none, g14)) (W14 : xWf g14) (k : xX (d + 1) mX1_guessAll 22 [none] [] (xWI g14 98 12 0) = some r) : xX (d + 1) mX1_guessAll 8 [some (.ref 98)] [] g = some r :=
  Y_aload_n dX1_guessAll_8 rfl <| Y_iconst 0 dX1_guessAll_9 ic_0 <| Y_putI dX1_guessAll_10 f_1_100 fn_1_13 ft_1_13 (xis W 98 1 s_98 (Nat.le_of_ble_eq_true rfl)) <| Y_aload_n dX1_guessAll_13 rfl <| Y_callV0 dX1_guessAll_14 cl_1_103 rfl rfl (xis W 98 1 s_98 (Nat.le_of_ble_eq_true rfl)) rfl rfl rfl (hk14) <| Y_aload_n dX1_guessAll_17 rfl <| Y_iconst 0 dX1_guessAll_18 ic_0 <| Y_putI dX1_guessAll_19 f_1_38 fn_1_12 ft_1_12 (xis W14 98 1 s_98 (Nat.le_of_ble_eq_true rfl)) <| X_le (xle_n xle_0) k
theorem bX1_guessAll_22 {d : Nat} {g : xSt} {r : Option Value × xSt}  (k : r = (none, g)) : xX (d + 1) mX1_guessAll 22 [none] [] g = some r :=
  Y_ret dX1_guessAll_22 rfl k
theorem bX1_guess_0 {d : Nat} {g : xSt} {r : Option Value × xSt} {g10 g18 g27 g35 : xSt} (W : xWf g) (hk10 : xCallM d mX7_fill [.ref 109, .int 0] (xWI g 98 11 0) = some (none, g10)) (W10 : xWf g10) (hk18 : xCallM d mX7_fill [.ref 110, .int 0] g10 = some (none, g18)) (W18 : xWf g18) (hk27 : xCallM d mX7_fill [.ref 105, .int 7] g18 = some (none, g27)) (W27 : xWf g27) (hk35 : xCallM d mX7_fill [.ref 106, .int 0] g27 = some (none, g35)) (W35 : xWf g35) (k1 : (xI g35 98 0) = 0 → xX (d + 1) mX1_guess 45 [some (.ref 98)] [] g35 = some r) (k2 : ¬ ((xI g35 98 0) = 0) → xX (d + 1) mX1_guess 50 [some (.ref 98)] [] g35 = some r) : xX (d + 1) mX1_guess 0 [some (.ref 98)] [] g = some r :=
  Y_aload_n dX1_guess_0 rfl <| Y_iconst 0 dX1_guess_1 ic_0 <| Y_putI dX1_guess_2 f_1_110 fn_1_11 ft_1_11 (xis W 98 1 s_98 (Nat.le_of_ble_eq_true rfl)) <| Y_aload_n dX1_guess_5 rfl <| Y_getR dX1_guess_6 f_1_48 (by rw [ft_1_16]; rfl) (xis W 98 1 s_98 (Nat.le_of_ble_eq_true rfl)) (xptr W 98 16 p_98_16) <| Y_iconst 0 dX1_guess_9 ic_0 <| Y_callS0 dX1_guess_10 cl_1_122 rfl rfl rfl rfl rfl (hk10) <| Y_aload_n dX1_guess_13 rfl <| Y_getR dX1_guess_14 f_1_51 (by rw [ft_1_17]; rfl) (xis W10 98 1 s_98 (Nat.le_of_ble_eq_true rfl)) (xptr W10 98 17 p_98_17) <| Y_iconst 0 dX1_guess_17 ic_0 <| Y_callS0 dX1_guess_18 cl_1_122 rfl rfl rfl rfl rfl (hk18) <| Y_aload_n dX1_guess_21 rfl <| Y_getR dX1_guess_22 f_1_32 (by rw [ft_1_9]; rfl) (xis W18 98 1 s_98 (Nat.le_of_ble_eq_true rfl)) (xptr W18 98 9 p_98_9) <| Y_bipush 7 dX1_guess_25 bp_7 <| Y_callS0 dX1_guess_27 cl_1_122 rfl rfl rfl rfl rfl (hk27) <| Y_aload_n dX1_guess_30 rfl <| Y_getR dX1_guess_31 f_1_35 (by rw [ft_1_10]; rfl) (xis W27 98 1 s_98 (Nat.le_of_ble_eq_true rfl)) (xptr W27 98 10 p_98_10) <| Y_iconst 0 dX1_guess_34 ic_0 <| Y_callS0 dX1_guess_35 cl_1_122 rfl rfl rfl rfl rfl (hk35) <| Y_aload_n dX1_guess_38 rfl <| Y_getI dX1_guess_39 f_1_54 ft_1_0 (xis W35 98 1 s_98 (Nat.le_of_ble_eq_true rfl)) <| Y_ne0 50 dX1_guess_42 rfl (fun q => X_le (xle_s xle_0) (k1 q)) (fun q => X_le (xle_s xle_0) (k2 q))
theorem bX1_guess_45 {d : Nat} {g : xSt} {r : Option Value × xSt}  (W : xWf g) (k : xX (d + 1) mX1_guess 50 [some (.ref 98)] [] (xWI g 98 11 1) = some r) : xX (d + 1) mX1_guess 45 [some (.ref 98)] [] g = some r :=
  Y_aload_n dX1_guess_45 rfl <| Y_iconst 1 dX1_guess_46 ic_1 <| Y_putI dX1_guess_47 f_1_110 fn_1_11 ft_1_11 (xis W 98 1 s_98 (Nat.le_of_ble_eq_true rfl)) <| X_le (xle_s xle_0) k
theorem bX1_guess_50 {d : Nat} {g : xSt} {r : Option Value × xSt} {g52 : xSt} (hk52 : xCallM d mX1_layFrom [.ref 98, .int 0] g = some (none, g52)) (W52 : xWf g52) (k : r = (none, g52)) : xX (d + 1) mX1_guess 50 [some (.ref 98)] [] g = some r :=
  Y_aload_n dX1_guess_50 rfl <| Y_iconst 0 dX1_guess_51 ic_0 <| Y_callS0 dX1_guess_52 cl_1_126 rfl rfl rfl rfl rfl (hk52) <| Y_ret dX1_guess_55 rfl k
theorem bX1_layFrom_0 {d : Nat} {g : xSt} {r : Option Value × xSt} {a1 : Int32} (k1 : a1 < 0 → xX (d + 1) mX1_layFrom 17 [none, none, none] [] g = some r) (k2 : ¬ (a1 < 0) → xX (d + 1) mX1_layFrom 4 [some (.ref 98), some (.int a1), none] [] g = some r) : xX (d + 1) mX1_layFrom 0 [some (.ref 98), some (.int a1), none] [] g = some r :=
  Y_iload_n dX1_layFrom_0 rfl <| Y_lt0 17 dX1_layFrom_1 rfl (fun q => X_le (xle_n (xle_n (xle_n xle_0))) (k1 q)) (fun q => X_le (xle_s (xle_s (xle_n xle_0))) (k2 q))
theorem bX1_layFrom_4 {d : Nat} {g : xSt} {r : Option Value × xSt} {a1 : Int32} (W : xWf g) (k1 : (xI g 98 0) ≤ a1 → xX (d + 1) mX1_layFrom 17 [none, none, none] [] g = some r) (k2 : ¬ ((xI g 98 0) ≤ a1) → xX (d + 1) mX1_layFrom 12 [some (.ref 98), some (.int a1), none] [] g = some r) : xX (d + 1) mX1_layFrom 4 [some (.ref 98), some (.int a1), none] [] g = some r :=
  Y_iload_n dX1_layFrom_4 rfl <| Y_aload_n dX1_layFrom_5 rfl <| Y_getI dX1_layFrom_6 f_1_54 ft_1_0 (xis W 98 1 s_98 (Nat.le_of_ble_eq_true rfl)) <| Y_ge 17 dX1_layFrom_9 rfl (fun q => X_le (xle_n (xle_n (xle_n xle_0))) (k1 q)) (fun q => X_le (xle_s (xle_s (xle_n xle_0))) (k2 q))
theorem bX1_layFrom_12 {d : Nat} {g : xSt} {r : Option Value × xSt} {a1 : Int32} (k1 : a1 < 5 → xX (d + 1) mX1_layFrom 18 [some (.ref 98), some (.int a1), none] [] g = some r) (k2 : ¬ (a1 < 5) → xX (d + 1) mX1_layFrom 17 [none, none, none] [] g = some r) : xX (d + 1) mX1_layFrom 12 [some (.ref 98), some (.int a1), none] [] g = some r :=
  Y_iload_n dX1_layFrom_12 rfl <| Y_iconst 5 dX1_layFrom_13 ic_5 <| Y_lt 18 dX1_layFrom_14 rfl (fun q => X_le (xle_s (xle_s (xle_n xle_0))) (k1 q)) (fun q => X_le (xle_n (xle_n (xle_n xle_0))) (k2 q))
theorem bX1_layFrom_17 {d : Nat} {g : xSt} {r : Option Value × xSt}  (k : r = (none, g)) : xX (d + 1) mX1_layFrom 17 [none, none, none] [] g = some r :=
  Y_ret dX1_layFrom_17 rfl k
theorem bX1_layFrom_18 {d : Nat} {g : xSt} {r : Option Value × xSt} {a1 : Int32} (W : xWf g) (k1 : a1 = ((xI g 98 0) - 1) → xX (d + 1) mX1_layFrom 28 [some (.ref 98), some (.int a1), none] [] g = some r) (k2 : ¬ (a1 = ((xI g 98 0) - 1)) → xX (d + 1) mX1_layFrom 34 [some (.ref 98), some (.int a1), none] [] g = some r) : xX (d + 1) mX1_layFrom 18 [some (.ref 98), some (.int a1), none] [] g = some r :=
  Y_iload_n dX1_layFrom_18 rfl <| Y_aload_n dX1_layFrom_19 rfl <| Y_getI dX1_layFrom_20 f_1_54 ft_1_0 (xis W 98 1 s_98 (Nat.le_of_ble_eq_true rfl)) <| Y_iconst 1 dX1_layFrom_23 ic_1 <| Y_isub dX1_layFrom_24 <| Y_ne 34 dX1_layFrom_25 rfl (fun q => X_le (xle_s (xle_s (xle_n xle_0))) (k1 q)) (fun q => X_le (xle_s (xle_s (xle_n xle_0))) (k2 q))
theorem bX1_layFrom_28 {d : Nat} {g : xSt} {r : Option Value × xSt} {a1 : Int32} {g30 : xSt} (W : xWf g) (hk30 : xCallM d mX1_layLast [.ref 98, .int a1] g = some (none, g30)) (W30 : xWf g30) (k : r = (none, g30)) : xX (d + 1) mX1_layFrom 28 [some (.ref 98), some (.int a1), none] [] g = some r :=
  Y_aload_n dX1_layFrom_28 rfl <| Y_iload_n dX1_layFrom_29 rfl <| Y_callV0 dX1_layFrom_30 cl_1_130 rfl rfl (xis W 98 1 s_98 (Nat.le_of_ble_eq_true rfl)) rfl rfl rfl (hk30) <| Y_ret dX1_layFrom_33 rfl k
theorem bX1_layFrom_34 {d : Nat} {g : xSt} {r : Option Value × xSt} {a1 : Int32} (k : xX (d + 1) mX1_layFrom 36 [some (.ref 98), some (.int a1), some (.int 1)] [] g = some r) : xX (d + 1) mX1_layFrom 34 [some (.ref 98), some (.int a1), none] [] g = some r :=
  Y_iconst 1 dX1_layFrom_34 ic_1 <| Y_istore_n dX1_layFrom_35 rfl rfl <| X_le (xle_s (xle_s (xle_s xle_0))) k
theorem bX1_layFrom_36 {d : Nat} {g : xSt} {r : Option Value × xSt} {a1 a2 : Int32} (k1 : 6 < a2 → xX (d + 1) mX1_layFrom 69 [none, none, none] [] g = some r) (k2 : ¬ (6 < a2) → xX (d + 1) mX1_layFrom 42 [some (.ref 98), some (.int a1), some (.int a2)] [] g = some r) : xX (d + 1) mX1_layFrom 36 [some (.ref 98), some (.int a1), some (.int a2)] [] g = some r :=
  Y_iload_n dX1_layFrom_36 rfl <| Y_bipush 6 dX1_layFrom_37 bp_6 <| Y_gt 69 dX1_layFrom_39 rfl (fun q => X_le (xle_n (xle_n (xle_n xle_0))) (k1 q)) (fun q => X_le (xle_s (xle_s (xle_s xle_0))) (k2 q))
theorem bX1_layFrom_42 {d : Nat} {g : xSt} {r : Option Value × xSt} {a1 a2 r50 : Int32} {g45 g50 : xSt} (W : xWf g) (hk45 : xCallM d mX1_lay [.ref 98, .int a1, .int a2] g = some (none, g45)) (W45 : xWf g45) (hk50 : xCallM d mX1_holds [.ref 98, .int a1] g45 = some (some (.int r50), g50)) (W50 : xWf g50) (k1 : r50 = 0 → xX (d + 1) mX1_layFrom 63 [some (.ref 98), some (.int a1), some (.int a2)] [] g50 = some r) (k2 : ¬ (r50 = 0) → xX (d + 1) mX1_layFrom 56 [some (.ref 98), some (.int a1), some (.int a2)] [] g50 = some r) : xX (d + 1) mX1_layFrom 42 [some (.ref 98), some (.int a1), some (.int a2)] [] g = some r :=
  Y_aload_n dX1_layFrom_42 rfl <| Y_iload_n dX1_layFrom_43 rfl <| Y_iload_n dX1_layFrom_44 rfl <| Y_callV0 dX1_layFrom_45 cl_1_134 rfl rfl (xis W 98 1 s_98 (Nat.le_of_ble_eq_true rfl)) rfl rfl rfl (hk45) <| Y_aload_n dX1_layFrom_48 rfl <| Y_iload_n dX1_layFrom_49 rfl <| Y_callV1 dX1_layFrom_50 cl_1_137 rfl rfl (xis W45 98 1 s_98 (Nat.le_of_ble_eq_true rfl)) rfl rfl rfl (hk50) <| Y_eq0 63 dX1_layFrom_53 rfl (fun q => X_le (xle_s (xle_s (xle_s xle_0))) (k1 q)) (fun q => X_le (xle_s (xle_s (xle_s xle_0))) (k2 q))
theorem bX1_layFrom_56 {d : Nat} {g : xSt} {r : Option Value × xSt} {a1 a2 : Int32} {g60 : xSt} (hk60 : xCallM d mX1_layFrom [.ref 98, .int (a1 + 1)] g = some (none, g60)) (W60 : xWf g60) (k : xX (d + 1) mX1_layFrom 63 [some (.ref 98), some (.int a1), some (.int a2)] [] g60 = some r) : xX (d + 1) mX1_layFrom 56 [some (.ref 98), some (.int a1), some (.int a2)] [] g = some r :=
  Y_aload_n dX1_layFrom_56 rfl <| Y_iload_n dX1_layFrom_57 rfl <| Y_iconst 1 dX1_layFrom_58 ic_1 <| Y_iadd dX1_layFrom_59 <| Y_callS0 dX1_layFrom_60 cl_1_126 rfl rfl rfl rfl rfl (hk60) <| X_le (xle_s (xle_s (xle_s xle_0))) k
theorem bX1_layFrom_63 {d : Nat} {g : xSt} {r : Option Value × xSt} {a1 a2 : Int32} (k : xX (d + 1) mX1_layFrom 36 [some (.ref 98), some (.int a1), some (.int (a2 + 1))] [] g = some r) : xX (d + 1) mX1_layFrom 63 [some (.ref 98), some (.int a1), some (.int a2)] [] g = some r :=
  Y_iinc 1 dX1_layFrom_63 rfl ic_1 rfl rfl <| Y_goto 36 dX1_layFrom_66 rfl <| X_le (xle_s (xle_s (xle_s xle_0))) k
theorem bX1_layFrom_69 {d : Nat} {g : xSt} {r : Option Value × xSt}  (k : r = (none, g)) : xX (d + 1) mX1_layFrom 69 [none, none, none] [] g = some r :=
  Y_ret dX1_layFrom_69 rfl k
theorem bX1_layLast_0 {d : Nat} {g : xSt} {r : Option Value × xSt} {a1 : Int32} (k : xX (d + 1) mX1_layLast 5 [some (.ref 98), some (.int a1), some (.int 63), some (.int 0), none, none, none] [] g = some r) : xX (d + 1) mX1_layLast 0 [some (.ref 98), some (.int a1), none, none, none, none, none] [] g = some r :=
  Y_bipush 63 dX1_layLast_0 bp_63 <| Y_istore_n dX1_layLast_2 rfl rfl <| Y_iconst 0 dX1_layLast_3 ic_0 <| Y_istore_n dX1_layLast_4 rfl rfl <| X_le (xle_s (xle_s (xle_s (xle_s (xle_n (xle_n (xle_n xle_0))))))) k
theorem bX1_layLast_5 {d : Nat} {g : xSt} {r : Option Value × xSt} {a1 a2 a3 : Int32} (W : xWf g) (k1 : (xI g 98 2) ≤ a3 → xX (d + 1) mX1_layLast 74 [some (.ref 98), some (.int a1), some (.int a2), none, none, none, none] [] g = some r) (k2 : ¬ ((xI g 98 2) ≤ a3) → xX (d + 1) mX1_layLast 13 [some (.ref 98), some (.int a1), some (.int a2), some (.int a3), none, none, none] [] g = some r) : xX (d + 1) mX1_layLast 5 [some (.ref 98), some (.int a1), some (.int a2), some (.int a3), none, none, none] [] g = some r :=
  Y_iload_n dX1_layLast_5 rfl <| Y_aload_n dX1_layLast_6 rfl <| Y_getI dX1_layLast_7 f_1_97 ft_1_2 (xis W 98 1 s_98 (Nat.le_of_ble_eq_true rfl)) <| Y_ge 74 dX1_layLast_10 rfl (fun q => X_le (xle_s (xle_s (xle_s (xle_n (xle_n (xle_n (xle_n xle_0))))))) (k1 q)) (fun q => X_le (xle_s (xle_s (xle_s (xle_s (xle_n (xle_n (xle_n xle_0))))))) (k2 q))
theorem bX1_layLast_13 {d : Nat} {g : xSt} {r : Option Value × xSt} {a1 a2 a3 : Int32} (k1 : a2 = 0 → xX (d + 1) mX1_layLast 74 [some (.ref 98), some (.int a1), some (.int a2), none, none, none, none] [] g = some r) (k2 : ¬ (a2 = 0) → xX (d + 1) mX1_layLast 17 [some (.ref 98), some (.int a1), some (.int a2), some (.int a3), none, none, none] [] g = some r) : xX (d + 1) mX1_layLast 13 [some (.ref 98), some (.int a1), some (.int a2), some (.int a3), none, none, none] [] g = some r :=
  Y_iload_n dX1_layLast_13 rfl <| Y_eq0 74 dX1_layLast_14 rfl (fun q => X_le (xle_s (xle_s (xle_s (xle_n (xle_n (xle_n (xle_n xle_0))))))) (k1 q)) (fun q => X_le (xle_s (xle_s (xle_s (xle_s (xle_n (xle_n (xle_n xle_0))))))) (k2 q))
theorem bX1_layLast_17 {d : Nat} {g : xSt} {r : Option Value × xSt} {a1 a2 a3 : Int32} (W : xWf g) (k1 : (((xat (xI g 99) 60 a3) ||| (xat (xI g 100) 60 a3)) >>> (a1 &&& 31)) = 1 → xX (d + 1) mX1_layLast 48 [some (.ref 98), some (.int a1), some (.int a2), some (.int a3), some (.int (xat (xI g 99) 60 a3)), some (.int (xat (xI g 100) 60 a3)), none] [] g = some r) (k2 : ¬ ((((xat (xI g 99) 60 a3) ||| (xat (xI g 100) 60 a3)) >>> (a1 &&& 31)) = 1) → xX (d + 1) mX1_layLast 68 [some (.ref 98), some (.int a1), some (.int a2), some (.int a3), none, none, none] [] g = some r) : xX (d + 1) mX1_layLast 17 [some (.ref 98), some (.int a1), some (.int a2), some (.int a3), none, none, none] [] g = some r :=
  Y_aload_n dX1_layLast_17 rfl <| Y_getR dX1_layLast_18 f_1_9 (by rw [ft_1_3]; rfl) (xis W 98 1 s_98 (Nat.le_of_ble_eq_true rfl)) (xptr W 98 3 p_98_3) <| Y_iload_n dX1_layLast_21 rfl <| Y_callS1 dX1_layLast_22 cl_1_70 rfl rfl rfl rfl rfl (c_at (xarr W (o := 99) s_99 (Nat.le_of_ble_eq_true rfl))) <| Y_istore dX1_layLast_25 rfl rfl <| Y_aload_n dX1_layLast_27 rfl <| Y_getR dX1_layLast_28 f_1_15 (by rw [ft_1_4]; rfl) (xis W 98 1 s_98 (Nat.le_of_ble_eq_true rfl)) (xptr W 98 4 p_98_4) <| Y_iload_n dX1_layLast_31 rfl <| Y_callS1 dX1_layLast_32 cl_1_70 rfl rfl rfl rfl rfl (c_at (xarr W (o := 100) s_100 (Nat.le_of_ble_eq_true rfl))) <| Y_istore dX1_layLast_35 rfl rfl <| Y_iload dX1_layLast_37 rfl <| Y_iload dX1_layLast_39 rfl <| Y_ior dX1_layLast_41 <| Y_iload_n dX1_layLast_42 rfl <| Y_ishr dX1_layLast_43 <| Y_iconst 1 dX1_layLast_44 ic_1 <| Y_ne 68 dX1_layLast_45 rfl (fun q => X_le (xle_s (xle_s (xle_s (xle_s (xle_s (xle_s (xle_n xle_0))))))) (k1 q)) (fun q => X_le (xle_s (xle_s (xle_s (xle_s (xle_n (xle_n (xle_n xle_0))))))) (k2 q))
theorem bX1_layLast_48 {d : Nat} {g : xSt} {r : Option Value × xSt} {a1 a2 a3 a4 a5 r63 : Int32} {g63 : xSt} (W : xWf g) (hk63 : xCallM d mX1_fitting [.ref 98, .int a4, .int a5, .int (xat (xI g 101) 60 a3), .int a1] g = some (some (.int r63), g63)) (W63 : xWf g63) (k : xX (d + 1) mX1_layLast 68 [some (.ref 98), some (.int a1), some (.int (a2 &&& r63)), some (.int a3), none, none, none] [] g63 = some r) : xX (d + 1) mX1_layLast 48 [some (.ref 98), some (.int a1), some (.int a2), some (.int a3), some (.int a4), some (.int a5), none] [] g = some r :=
  Y_iload_n dX1_layLast_48 rfl <| Y_aload_n dX1_layLast_49 rfl <| Y_iload dX1_layLast_50 rfl <| Y_iload dX1_layLast_52 rfl <| Y_aload_n dX1_layLast_54 rfl <| Y_getR dX1_layLast_55 f_1_18 (by rw [ft_1_5]; rfl) (xis W 98 1 s_98 (Nat.le_of_ble_eq_true rfl)) (xptr W 98 5 p_98_5) <| Y_iload_n dX1_layLast_58 rfl <| Y_callS1 dX1_layLast_59 cl_1_70 rfl rfl rfl rfl rfl (c_at (xarr W (o := 101) s_101 (Nat.le_of_ble_eq_true rfl))) <| Y_iload_n dX1_layLast_62 rfl <| Y_callV1 dX1_layLast_63 cl_1_141 rfl rfl (xis W 98 1 s_98 (Nat.le_of_ble_eq_true rfl)) rfl rfl rfl (hk63) <| Y_iand dX1_layLast_66 <| Y_istore_n dX1_layLast_67 rfl rfl <| X_le (xle_s (xle_s (xle_s (xle_s (xle_n (xle_n (xle_n xle_0))))))) k
theorem bX1_layLast_68 {d : Nat} {g : xSt} {r : Option Value × xSt} {a1 a2 a3 : Int32} (k : xX (d + 1) mX1_layLast 5 [some (.ref 98), some (.int a1), some (.int a2), some (.int (a3 + 1)), none, none, none] [] g = some r) : xX (d + 1) mX1_layLast 68 [some (.ref 98), some (.int a1), some (.int a2), some (.int a3), none, none, none] [] g = some r :=
  Y_iinc 1 dX1_layLast_68 rfl ic_1 rfl rfl <| Y_goto 5 dX1_layLast_71 rfl <| X_le (xle_s (xle_s (xle_s (xle_s (xle_n (xle_n (xle_n xle_0))))))) k
theorem bX1_layLast_74 {d : Nat} {g : xSt} {r : Option Value × xSt} {a1 a2 : Int32} (k1 : a2 = 0 → xX (d + 1) mX1_layLast 78 [none, none, none, none, none, none, none] [] g = some r) (k2 : ¬ (a2 = 0) → xX (d + 1) mX1_layLast 79 [some (.ref 98), some (.int a1), some (.int a2), none, none, none, none] [] g = some r) : xX (d + 1) mX1_layLast 74 [some (.ref 98), some (.int a1), some (.int a2), none, none, none, none] [] g = some r :=
  Y_iload_n dX1_layLast_74 rfl <| Y_ne0 79 dX1_layLast_75 rfl (fun q => X_le (xle_n (xle_n (xle_n (xle_n (xle_n (xle_n (xle_n xle_0))))))) (k1 q)) (fun q => X_le (xle_s (xle_s (xle_s (xle_n (xle_n (xle_n (xle_n xle_0))))))) (k2 q))
theorem bX1_layLast_78 {d : Nat} {g : xSt} {r : Option Value × xSt}  (k : r = (none, g)) : xX (d + 1) mX1_layLast 78 [none, none, none, none, none, none, none] [] g = some r :=
  Y_ret dX1_layLast_78 rfl k
theorem bX1_layLast_79 {d : Nat} {g : xSt} {r : Option Value × xSt} {a1 a2 : Int32} {g82 : xSt} (W : xWf g) (hk82 : xCallM d mX1_note [.ref 98, .int a2, .int a1] g = some (none, g82)) (W82 : xWf g82) (k : xX (d + 1) mX1_layLast 87 [some (.ref 98), some (.int a1), some (.int a2), some (.int 0), none, none, none] [] g82 = some r) : xX (d + 1) mX1_layLast 79 [some (.ref 98), some (.int a1), some (.int a2), none, none, none, none] [] g = some r :=
  Y_aload_n dX1_layLast_79 rfl <| Y_iload_n dX1_layLast_80 rfl <| Y_iload_n dX1_layLast_81 rfl <| Y_callV0 dX1_layLast_82 cl_1_145 rfl rfl (xis W 98 1 s_98 (Nat.le_of_ble_eq_true rfl)) rfl rfl rfl (hk82) <| Y_iconst 0 dX1_layLast_85 ic_0 <| Y_istore_n dX1_layLast_86 rfl rfl <| X_le (xle_s (xle_s (xle_s (xle_s (xle_n (xle_n (xle_n xle_0))))))) k
theorem bX1_layLast_87 {d : Nat} {g : xSt} {r : Option Value × xSt} {a1 a2 a3 : Int32} (W : xWf g) (k1 : (xI g 98 13) ≤ a3 → xX (d + 1) mX1_layLast 165 [none, none, none, none, none, none, none] [] g = some r) (k2 : ¬ ((xI g 98 13) ≤ a3) → xX (d + 1) mX1_layLast 95 [some (.ref 98), some (.int a1), some (.int a2), some (.int a3), none, none, none] [] g = some r) : xX (d + 1) mX1_layLast 87 [some (.ref 98), some (.int a1), some (.int a2), some (.int a3), none, none, none] [] g = some r :=
  Y_iload_n dX1_layLast_87 rfl <| Y_aload_n dX1_layLast_88 rfl <| Y_getI dX1_layLast_89 f_1_100 ft_1_13 (xis W 98 1 s_98 (Nat.le_of_ble_eq_true rfl)) <| Y_ge 165 dX1_layLast_92 rfl (fun q => X_le (xle_n (xle_n (xle_n (xle_n (xle_n (xle_n (xle_n xle_0))))))) (k1 q)) (fun q => X_le (xle_s (xle_s (xle_s (xle_s (xle_n (xle_n (xle_n xle_0))))))) (k2 q))
theorem bX1_layLast_95 {d : Nat} {g : xSt} {r : Option Value × xSt} {a1 a2 a3 r121 : Int32} {g121 : xSt} (W : xWf g) (hk121 : xCallM d mX1_fitsOf [.ref 98, .int (xat (xI g 107) 90 a3), .int (xat (xI g 108) 90 a3), .int a1] g = some (some (.int r121), g121)) (W121 : xWf g121) (k : xX (d + 1) mX1_layLast 87 [some (.ref 98), some (.int a1), some (.int a2), some (.int (a3 + 1)), none, none, none] [] (xadd (xadd g121 109 90 a3 (xbci (a2 &&& r121))) 110 90 a3 (xbci (a2 &&& (r121 >>> (6 &&& 31))))) = some r) : xX (d + 1) mX1_layLast 95 [some (.ref 98), some (.int a1), some (.int a2), some (.int a3), none, none, none] [] g = some r :=
  Y_aload_n dX1_layLast_95 rfl <| Y_getR dX1_layLast_96 f_1_42 (by rw [ft_1_14]; rfl) (xis W 98 1 s_98 (Nat.le_of_ble_eq_true rfl)) (xptr W 98 14 p_98_14) <| Y_iload_n dX1_layLast_99 rfl <| Y_callS1 dX1_layLast_100 cl_1_70 rfl rfl rfl rfl rfl (c_at (xarr W (o := 107) s_107 (Nat.le_of_ble_eq_true rfl))) <| Y_istore dX1_layLast_103 rfl rfl <| Y_aload_n dX1_layLast_105 rfl <| Y_getR dX1_layLast_106 f_1_45 (by rw [ft_1_15]; rfl) (xis W 98 1 s_98 (Nat.le_of_ble_eq_true rfl)) (xptr W 98 15 p_98_15) <| Y_iload_n dX1_layLast_109 rfl <| Y_callS1 dX1_layLast_110 cl_1_70 rfl rfl rfl rfl rfl (c_at (xarr W (o := 108) s_108 (Nat.le_of_ble_eq_true rfl))) <| Y_istore dX1_layLast_113 rfl rfl <| Y_aload_n dX1_layLast_115 rfl <| Y_iload dX1_layLast_116 rfl <| Y_iload dX1_layLast_118 rfl <| Y_iload_n dX1_layLast_120 rfl <| Y_callV1 dX1_layLast_121 cl_1_148 rfl rfl (xis W 98 1 s_98 (Nat.le_of_ble_eq_true rfl)) rfl rfl rfl (hk121) <| Y_istore dX1_layLast_124 rfl rfl <| Y_aload_n dX1_layLast_126 rfl <| Y_getR dX1_layLast_127 f_1_48 (by rw [ft_1_16]; rfl) (xis W121 98 1 s_98 (Nat.le_of_ble_eq_true rfl)) (xptr W121 98 16 p_98_16) <| Y_iload_n dX1_layLast_130 rfl <| Y_iload_n dX1_layLast_131 rfl <| Y_iload dX1_layLast_132 rfl <| Y_iand dX1_layLast_134 <| Y_callS1 dX1_layLast_135 cl_1_152 rfl rfl rfl rfl rfl (c_xbci) <| Y_callS0 dX1_layLast_138 cl_1_158 rfl rfl rfl rfl rfl (c_add (xarr W121 (o := 109) s_109 (Nat.le_of_ble_eq_true rfl))) <| Y_aload_n dX1_layLast_141 rfl <| Y_getR dX1_layLast_142 f_1_51 (by rw [ft_1_17]; rfl) (xis (xWf_add W121) 98 1 s_98 (Nat.le_of_ble_eq_true rfl)) (xptr (xWf_add W121) 98 17 p_98_17) <| Y_iload_n dX1_layLast_145 rfl <| Y_iload_n dX1_layLast_146 rfl <| Y_iload dX1_layLast_147 rfl <| Y_bipush 6 dX1_layLast_149 bp_6 <| Y_ishr dX1_layLast_151 <| Y_iand dX1_layLast_152 <| Y_callS1 dX1_layLast_153 cl_1_152 rfl rfl rfl rfl rfl (c_xbci) <| Y_callS0 dX1_layLast_156 cl_1_158 rfl rfl rfl rfl rfl (c_add (xarr (xWf_add W121) (o := 110) s_110 (Nat.le_of_ble_eq_true rfl))) <| Y_iinc 1 dX1_layLast_159 rfl ic_1 rfl rfl <| Y_goto 87 dX1_layLast_162 rfl <| X_le (xle_s (xle_s (xle_s (xle_s (xle_n (xle_n (xle_n xle_0))))))) k
theorem bX1_layLast_165 {d : Nat} {g : xSt} {r : Option Value × xSt}  (k : r = (none, g)) : xX (d + 1) mX1_layLast 165 [none, none, none, none, none, none, none] [] g = some r :=
  Y_ret dX1_layLast_165 rfl k
theorem bX1_fitting_0 {d : Nat} {g : xSt} {r : Option Value × xSt} {a1 a2 a3 a4 r5 : Int32} {g5 : xSt} (W : xWf g) (hk5 : xCallM d mX1_fitsOf [.ref 98, .int a1, .int a2, .int a4] g = some (some (.int r5), g5)) (W5 : xWf g5) (k1 : a3 = 1 → xX (d + 1) mX1_fitting 29 [none, none, none, none, none, none, some (.int (63 &&& r5)), none] [] g5 = some r) (k2 : ¬ (a3 = 1) → xX (d + 1) mX1_fitting 34 [none, none, none, some (.int a3), none, none, some (.int (63 &&& r5)), some (.int (r5 >>> (6 &&& 31)))] [] g5 = some r) : xX (d + 1) mX1_fitting 0 [some (.ref 98), some (.int a1), some (.int a2), some (.int a3), some (.int a4), none, none, none] [] g = some r :=
  Y_aload_n dX1_fitting_0 rfl <| Y_iload_n dX1_fitting_1 rfl <| Y_iload_n dX1_fitting_2 rfl <| Y_iload dX1_fitting_3 rfl <| Y_callV1 dX1_fitting_5 cl_1_148 rfl rfl (xis W 98 1 s_98 (Nat.le_of_ble_eq_true rfl)) rfl rfl rfl (hk5) <| Y_istore dX1_fitting_8 rfl rfl <| Y_bipush 63 dX1_fitting_10 bp_63 <| Y_iload dX1_fitting_12 rfl <| Y_iand dX1_fitting_14 <| Y_istore dX1_fitting_15 rfl rfl <| Y_iload dX1_fitting_17 rfl <| Y_bipush 6 dX1_fitting_19 bp_6 <| Y_ishr dX1_fitting_21 <| Y_istore dX1_fitting_22 rfl rfl <| Y_iload_n dX1_fitting_24 rfl <| Y_iconst 1 dX1_fitting_25 ic_1 <| Y_ne 34 dX1_fitting_26 rfl (fun q => X_le (xle_n (xle_n (xle_n (xle_n (xle_n (xle_n (xle_s (xle_n xle_0)))))))) (k1 q)) (fun q => X_le (xle_n (xle_n (xle_n (xle_s (xle_n (xle_n (xle_s (xle_s xle_0)))))))) (k2 q))
theorem bX1_fitting_29 {d : Nat} {g : xSt} {r : Option Value × xSt} {a6 : Int32} (k : xX (d + 1) mX1_fitting 56 [none, none, none, none, none, none, none, none] [.int a6] g = some r) : xX (d + 1) mX1_fitting 29 [none, none, none, none, none, none, some (.int a6), none] [] g = some r :=
  Y_iload dX1_fitting_29 rfl <| Y_goto 56 dX1_fitting_31 rfl <| X_le (xle_n (xle_n (xle_n (xle_n (xle_n (xle_n (xle_n (xle_n xle_0)))))))) k
theorem bX1_fitting_34 {d : Nat} {g : xSt} {r : Option Value × xSt} {a3 a6 a7 : Int32} (k1 : a3 = 2 → xX (d + 1) mX1_fitting 39 [none, none, none, none, none, none, none, some (.int a7)] [] g = some r) (k2 : ¬ (a3 = 2) → xX (d + 1) mX1_fitting 44 [none, none, none, none, none, none, some (.int a6), some (.int a7)] [] g = some r) : xX (d + 1) mX1_fitting 34 [none, none, none, some (.int a3), none, none, some (.int a6), some (.int a7)] [] g = some r :=
  Y_iload_n dX1_fitting_34 rfl <| Y_iconst 2 dX1_fitting_35 ic_2 <| Y_ne 44 dX1_fitting_36 rfl (fun q => X_le (xle_n (xle_n (xle_n (xle_n (xle_n (xle_n (xle_n (xle_s xle_0)))))))) (k1 q)) (fun q => X_le (xle_n (xle_n (xle_n (xle_n (xle_n (xle_n (xle_s (xle_s xle_0)))))))) (k2 q))
theorem bX1_fitting_39 {d : Nat} {g : xSt} {r : Option Value × xSt} {a7 : Int32} (k : xX (d + 1) mX1_fitting 56 [none, none, none, none, none, none, none, none] [.int a7] g = some r) : xX (d + 1) mX1_fitting 39 [none, none, none, none, none, none, none, some (.int a7)] [] g = some r :=
  Y_iload dX1_fitting_39 rfl <| Y_goto 56 dX1_fitting_41 rfl <| X_le (xle_n (xle_n (xle_n (xle_n (xle_n (xle_n (xle_n (xle_n xle_0)))))))) k
theorem bX1_fitting_44 {d : Nat} {g : xSt} {r : Option Value × xSt} {a6 a7 : Int32} (k : xX (d + 1) mX1_fitting 56 [none, none, none, none, none, none, none, none] [.int ((63 &&& (a6 ^^^ (-1))) &&& (a7 ^^^ (-1)))] g = some r) : xX (d + 1) mX1_fitting 44 [none, none, none, none, none, none, some (.int a6), some (.int a7)] [] g = some r :=
  Y_bipush 63 dX1_fitting_44 bp_63 <| Y_iload dX1_fitting_46 rfl <| Y_iconst (-1) dX1_fitting_48 ic_m1 <| Y_ixor dX1_fitting_49 <| Y_iand dX1_fitting_50 <| Y_iload dX1_fitting_51 rfl <| Y_iconst (-1) dX1_fitting_53 ic_m1 <| Y_ixor dX1_fitting_54 <| Y_iand dX1_fitting_55 <| X_le (xle_n (xle_n (xle_n (xle_n (xle_n (xle_n (xle_n (xle_n xle_0)))))))) k
theorem bX1_fitting_56 {d : Nat} {g : xSt} {r : Option Value × xSt} {s0 : Int32} (k : r = (some (.int s0), g)) : xX (d + 1) mX1_fitting 56 [none, none, none, none, none, none, none, none] [.int s0] g = some r :=
  Y_iret dX1_fitting_56 rfl k
theorem bX1_fitsOf_0 {d : Nat} {g : xSt} {r : Option Value × xSt} {a1 a2 a3 : Int32} (W : xWf g) (k1 : ((xat (xI g 102) 32 (a1 &&& ((1 <<< (a3 &&& 31)) ^^^ (-1)))) - (xat (xI g 102) 32 (a2 &&& ((1 <<< (a3 &&& 31)) ^^^ (-1))))) ≤ (xI g 98 1) → xX (d + 1) mX1_fitsOf 48 [some (.ref 98), some (.int a1), some (.int a2), none, some (.int (1 <<< (a3 &&& 31))), some (.int ((xat (xI g 102) 32 (a1 &&& ((1 <<< (a3 &&& 31)) ^^^ (-1)))) - (xat (xI g 102) 32 (a2 &&& ((1 <<< (a3 &&& 31)) ^^^ (-1)))))), none, none] [] g = some r) (k2 : ¬ (((xat (xI g 102) 32 (a1 &&& ((1 <<< (a3 &&& 31)) ^^^ (-1)))) - (xat (xI g 102) 32 (a2 &&& ((1 <<< (a3 &&& 31)) ^^^ (-1))))) ≤ (xI g 98 1)) → xX (d + 1) mX1_fitsOf 43 [some (.ref 98), some (.int a1), some (.int a2), none, some (.int (1 <<< (a3 &&& 31))), some (.int ((xat (xI g 102) 32 (a1 &&& ((1 <<< (a3 &&& 31)) ^^^ (-1)))) - (xat (xI g 102) 32 (a2 &&& ((1 <<< (a3 &&& 31)) ^^^ (-1)))))), none, none] [] g = some r) : xX (d + 1) mX1_fitsOf 0 [some (.ref 98), some (.int a1), some (.int a2), some (.int a3), none, none, none, none] [] g = some r :=
  Y_iconst 1 dX1_fitsOf_0 ic_1 <| Y_iload_n dX1_fitsOf_1 rfl <| Y_ishl dX1_fitsOf_2 <| Y_istore dX1_fitsOf_3 rfl rfl <| Y_aload_n dX1_fitsOf_5 rfl <| Y_getR dX1_fitsOf_6 f_1_21 (by rw [ft_1_6]; rfl) (xis W 98 1 s_98 (Nat.le_of_ble_eq_true rfl)) (xptr W 98 6 p_98_6) <| Y_iload_n dX1_fitsOf_9 rfl <| Y_iload dX1_fitsOf_10 rfl <| Y_iconst (-1) dX1_fitsOf_12 ic_m1 <| Y_ixor dX1_fitsOf_13 <| Y_iand dX1_fitsOf_14 <| Y_callS1 dX1_fitsOf_15 cl_1_70 rfl rfl rfl rfl rfl (c_at (xarr W (o := 102) s_102 (Nat.le_of_ble_eq_true rfl))) <| Y_aload_n dX1_fitsOf_18 rfl <| Y_getR dX1_fitsOf_19 f_1_21 (by rw [ft_1_6]; rfl) (xis W 98 1 s_98 (Nat.le_of_ble_eq_true rfl)) (xptr W 98 6 p_98_6) <| Y_iload_n dX1_fitsOf_22 rfl <| Y_iload dX1_fitsOf_23 rfl <| Y_iconst (-1) dX1_fitsOf_25 ic_m1 <| Y_ixor dX1_fitsOf_26 <| Y_iand dX1_fitsOf_27 <| Y_callS1 dX1_fitsOf_28 cl_1_70 rfl rfl rfl rfl rfl (c_at (xarr W (o := 102) s_102 (Nat.le_of_ble_eq_true rfl))) <| Y_isub dX1_fitsOf_31 <| Y_istore dX1_fitsOf_32 rfl rfl <| Y_iload dX1_fitsOf_34 rfl <| Y_aload_n dX1_fitsOf_36 rfl <| Y_getI dX1_fitsOf_37 f_1_58 ft_1_1 (xis W 98 1 s_98 (Nat.le_of_ble_eq_true rfl)) <| Y_le 48 dX1_fitsOf_40 rfl (fun q => X_le (xle_s (xle_s (xle_s (xle_n (xle_s (xle_s (xle_n (xle_n xle_0)))))))) (k1 q)) (fun q => X_le (xle_s (xle_s (xle_s (xle_n (xle_s (xle_s (xle_n (xle_n xle_0)))))))) (k2 q))
theorem bX1_fitsOf_43 {d : Nat} {g : xSt} {r : Option Value × xSt} {a1 a2 a4 a5 : Int32} (k : xX (d + 1) mX1_fitsOf 49 [some (.ref 98), some (.int a1), some (.int a2), none, some (.int a4), some (.int a5), none, none] [.int 63] g = some r) : xX (d + 1) mX1_fitsOf 43 [some (.ref 98), some (.int a1), some (.int a2), none, some (.int a4), some (.int a5), none, none] [] g = some r :=
  Y_bipush 63 dX1_fitsOf_43 bp_63 <| Y_goto 49 dX1_fitsOf_45 rfl <| X_le (xle_s (xle_s (xle_s (xle_n (xle_s (xle_s (xle_n (xle_n xle_0)))))))) k
theorem bX1_fitsOf_48 {d : Nat} {g : xSt} {r : Option Value × xSt} {a1 a2 a4 a5 : Int32} (k : xX (d + 1) mX1_fitsOf 49 [some (.ref 98), some (.int a1), some (.int a2), none, some (.int a4), some (.int a5), none, none] [.int 0] g = some r) : xX (d + 1) mX1_fitsOf 48 [some (.ref 98), some (.int a1), some (.int a2), none, some (.int a4), some (.int a5), none, none] [] g = some r :=
  Y_iconst 0 dX1_fitsOf_48 ic_0 <| X_le (xle_s (xle_s (xle_s (xle_n (xle_s (xle_s (xle_n (xle_n xle_0)))))))) k
theorem bX1_fitsOf_49 {d : Nat} {g : xSt} {r : Option Value × xSt} {a1 a2 a4 a5 s0 : Int32} (W : xWf g) (k1 : (-a5) ≤ (xI g 98 1) → xX (d + 1) mX1_fitsOf 66 [some (.ref 98), some (.int a1), some (.int a2), none, some (.int a4), some (.int a5), some (.int s0), none] [] g = some r) (k2 : ¬ ((-a5) ≤ (xI g 98 1)) → xX (d + 1) mX1_fitsOf 61 [some (.ref 98), some (.int a1), some (.int a2), none, some (.int a4), some (.int a5), some (.int s0), none] [] g = some r) : xX (d + 1) mX1_fitsOf 49 [some (.ref 98), some (.int a1), some (.int a2), none, some (.int a4), some (.int a5), none, none] [.int s0] g = some r :=
  Y_istore dX1_fitsOf_49 rfl rfl <| Y_iload dX1_fitsOf_51 rfl <| Y_ineg dX1_fitsOf_53 <| Y_aload_n dX1_fitsOf_54 rfl <| Y_getI dX1_fitsOf_55 f_1_58 ft_1_1 (xis W 98 1 s_98 (Nat.le_of_ble_eq_true rfl)) <| Y_le 66 dX1_fitsOf_58 rfl (fun q => X_le (xle_s (xle_s (xle_s (xle_n (xle_s (xle_s (xle_s (xle_n xle_0)))))))) (k1 q)) (fun q => X_le (xle_s (xle_s (xle_s (xle_n (xle_s (xle_s (xle_s (xle_n xle_0)))))))) (k2 q))
theorem bX1_fitsOf_61 {d : Nat} {g : xSt} {r : Option Value × xSt} {a1 a2 a4 a5 a6 : Int32} (k : xX (d + 1) mX1_fitsOf 67 [some (.ref 98), some (.int a1), some (.int a2), none, some (.int a4), some (.int a5), some (.int a6), none] [.int 63] g = some r) : xX (d + 1) mX1_fitsOf 61 [some (.ref 98), some (.int a1), some (.int a2), none, some (.int a4), some (.int a5), some (.int a6), none] [] g = some r :=
  Y_bipush 63 dX1_fitsOf_61 bp_63 <| Y_goto 67 dX1_fitsOf_63 rfl <| X_le (xle_s (xle_s (xle_s (xle_n (xle_s (xle_s (xle_s (xle_n xle_0)))))))) k
theorem bX1_fitsOf_66 {d : Nat} {g : xSt} {r : Option Value × xSt} {a1 a2 a4 a5 a6 : Int32} (k : xX (d + 1) mX1_fitsOf 67 [some (.ref 98), some (.int a1), some (.int a2), none, some (.int a4), some (.int a5), some (.int a6), none] [.int 0] g = some r) : xX (d + 1) mX1_fitsOf 66 [some (.ref 98), some (.int a1), some (.int a2), none, some (.int a4), some (.int a5), some (.int a6), none] [] g = some r :=
  Y_iconst 0 dX1_fitsOf_66 ic_0 <| X_le (xle_s (xle_s (xle_s (xle_n (xle_s (xle_s (xle_s (xle_n xle_0)))))))) k
theorem bX1_fitsOf_67 {d : Nat} {g : xSt} {r : Option Value × xSt} {a1 a2 a4 a5 a6 s0 : Int32} (k1 : (a1 &&& a4) = 0 → xX (d + 1) mX1_fitsOf 111 [some (.ref 98), none, some (.int a2), none, some (.int a4), some (.int a5), some (.int a6), some (.int s0)] [] g = some r) (k2 : ¬ ((a1 &&& a4) = 0) → xX (d + 1) mX1_fitsOf 76 [some (.ref 98), none, none, none, none, some (.int a5), none, none] [] g = some r) : xX (d + 1) mX1_fitsOf 67 [some (.ref 98), some (.int a1), some (.int a2), none, some (.int a4), some (.int a5), some (.int a6), none] [.int s0] g = some r :=
  Y_istore dX1_fitsOf_67 rfl rfl <| Y_iload_n dX1_fitsOf_69 rfl <| Y_iload dX1_fitsOf_70 rfl <| Y_iand dX1_fitsOf_72 <| Y_eq0 111 dX1_fitsOf_73 rfl (fun q => X_le (xle_s (xle_n (xle_s (xle_n (xle_s (xle_s (xle_s (xle_s xle_0)))))))) (k1 q)) (fun q => X_le (xle_s (xle_n (xle_n (xle_n (xle_n (xle_s (xle_n (xle_n xle_0)))))))) (k2 q))
theorem bX1_fitsOf_76 {d : Nat} {g : xSt} {r : Option Value × xSt} {a5 r85 r103 : Int32} {g85 g103 : xSt} (W : xWf g) (hk85 : xCallM d mX1_upTo [.int ((xI g 98 1) - a5)] g = some (some (.int r85), g85)) (W85 : xWf g85) (hk103 : xCallM d mX1_upTo [.int (((-a5) - (xI g85 98 1)) - 1)] g85 = some (some (.int r103), g103)) (W103 : xWf g103) (k : xX (d + 1) mX1_fitsOf 149 [none, none, none, none, none, none, some (.int (63 &&& (r85 ^^^ (-1)))), some (.int r103)] [] g103 = some r) : xX (d + 1) mX1_fitsOf 76 [some (.ref 98), none, none, none, none, some (.int a5), none, none] [] g = some r :=
  Y_bipush 63 dX1_fitsOf_76 bp_63 <| Y_aload_n dX1_fitsOf_78 rfl <| Y_getI dX1_fitsOf_79 f_1_58 ft_1_1 (xis W 98 1 s_98 (Nat.le_of_ble_eq_true rfl)) <| Y_iload dX1_fitsOf_82 rfl <| Y_isub dX1_fitsOf_84 <| Y_callS1 dX1_fitsOf_85 cl_1_171 rfl rfl rfl rfl rfl (hk85) <| Y_iconst (-1) dX1_fitsOf_88 ic_m1 <| Y_ixor dX1_fitsOf_89 <| Y_iand dX1_fitsOf_90 <| Y_istore dX1_fitsOf_91 rfl rfl <| Y_iload dX1_fitsOf_93 rfl <| Y_ineg dX1_fitsOf_95 <| Y_aload_n dX1_fitsOf_96 rfl <| Y_getI dX1_fitsOf_97 f_1_58 ft_1_1 (xis W85 98 1 s_98 (Nat.le_of_ble_eq_true rfl)) <| Y_isub dX1_fitsOf_100 <| Y_iconst 1 dX1_fitsOf_101 ic_1 <| Y_isub dX1_fitsOf_102 <| Y_callS1 dX1_fitsOf_103 cl_1_171 rfl rfl rfl rfl rfl (hk103) <| Y_istore dX1_fitsOf_106 rfl rfl <| Y_goto 149 dX1_fitsOf_108 rfl <| X_le (xle_n (xle_n (xle_n (xle_n (xle_n (xle_n (xle_s (xle_s xle_0)))))))) k
theorem bX1_fitsOf_111 {d : Nat} {g : xSt} {r : Option Value × xSt} {a2 a4 a5 a6 a7 : Int32} (k1 : (a2 &&& a4) = 0 → xX (d + 1) mX1_fitsOf 149 [none, none, none, none, none, none, some (.int a6), some (.int a7)] [] g = some r) (k2 : ¬ ((a2 &&& a4) = 0) → xX (d + 1) mX1_fitsOf 118 [some (.ref 98), none, none, none, none, some (.int a5), none, none] [] g = some r) : xX (d + 1) mX1_fitsOf 111 [some (.ref 98), none, some (.int a2), none, some (.int a4), some (.int a5), some (.int a6), some (.int a7)] [] g = some r :=
  Y_iload_n dX1_fitsOf_111 rfl <| Y_iload dX1_fitsOf_112 rfl <| Y_iand dX1_fitsOf_114 <| Y_eq0 149 dX1_fitsOf_115 rfl (fun q => X_le (xle_n (xle_n (xle_n (xle_n (xle_n (xle_n (xle_s (xle_s xle_0)))))))) (k1 q)) (fun q => X_le (xle_s (xle_n (xle_n (xle_n (xle_n (xle_s (xle_n (xle_n xle_0)))))))) (k2 q))
theorem bX1_fitsOf_118 {d : Nat} {g : xSt} {r : Option Value × xSt} {a5 r127 r141 : Int32} {g127 g141 : xSt} (W : xWf g) (hk127 : xCallM d mX1_upTo [.int ((a5 - (xI g 98 1)) - 1)] g = some (some (.int r127), g127)) (W127 : xWf g127) (hk141 : xCallM d mX1_upTo [.int ((xI g127 98 1) + a5)] g127 = some (some (.int r141), g141)) (W141 : xWf g141) (k : xX (d + 1) mX1_fitsOf 149 [none, none, none, none, none, none, some (.int r127), some (.int (63 &&& (r141 ^^^ (-1))))] [] g141 = some r) : xX (d + 1) mX1_fitsOf 118 [some (.ref 98), none, none, none, none, some (.int a5), none, none] [] g = some r :=
  Y_iload dX1_fitsOf_118 rfl <| Y_aload_n dX1_fitsOf_120 rfl <| Y_getI dX1_fitsOf_121 f_1_58 ft_1_1 (xis W 98 1 s_98 (Nat.le_of_ble_eq_true rfl)) <| Y_isub dX1_fitsOf_124 <| Y_iconst 1 dX1_fitsOf_125 ic_1 <| Y_isub dX1_fitsOf_126 <| Y_callS1 dX1_fitsOf_127 cl_1_171 rfl rfl rfl rfl rfl (hk127) <| Y_istore dX1_fitsOf_130 rfl rfl <| Y_bipush 63 dX1_fitsOf_132 bp_63 <| Y_aload_n dX1_fitsOf_134 rfl <| Y_getI dX1_fitsOf_135 f_1_58 ft_1_1 (xis W127 98 1 s_98 (Nat.le_of_ble_eq_true rfl)) <| Y_iload dX1_fitsOf_138 rfl <| Y_iadd dX1_fitsOf_140 <| Y_callS1 dX1_fitsOf_141 cl_1_171 rfl rfl rfl rfl rfl (hk141) <| Y_iconst (-1) dX1_fitsOf_144 ic_m1 <| Y_ixor dX1_fitsOf_145 <| Y_iand dX1_fitsOf_146 <| Y_istore dX1_fitsOf_147 rfl rfl <| X_le (xle_n (xle_n (xle_n (xle_n (xle_n (xle_n (xle_s (xle_s xle_0)))))))) k
theorem bX1_fitsOf_149 {d : Nat} {g : xSt} {r : Option Value × xSt} {a6 a7 : Int32} (k : r = (some (.int ((a7 <<< (6 &&& 31)) ||| a6)), g)) : xX (d + 1) mX1_fitsOf 149 [none, none, none, none, none, none, some (.int a6), some (.int a7)] [] g = some r :=
  Y_iload dX1_fitsOf_149 rfl <| Y_bipush 6 dX1_fitsOf_151 bp_6 <| Y_ishl dX1_fitsOf_153 <| Y_iload dX1_fitsOf_154 rfl <| Y_ior dX1_fitsOf_156 <| Y_iret dX1_fitsOf_157 rfl k
theorem bX1_upTo_0 {d : Nat} {g : xSt} {r : Option Value × xSt} {a0 : Int32} (k1 : 0 < a0 → xX d mX1_upTo 8 [some (.int a0)] [] g = some r) (k2 : ¬ (0 < a0) → xX d mX1_upTo 4 [none] [] g = some r) : xX d mX1_upTo 0 [some (.int a0)] [] g = some r :=
  Y_iload_n dX1_upTo_0 rfl <| Y_gt0 8 dX1_upTo_1 rfl (fun q => X_le (xle_s xle_0) (k1 q)) (fun q => X_le (xle_n xle_0) (k2 q))
theorem bX1_upTo_4 {d : Nat} {g : xSt} {r : Option Value × xSt}  (k : xX d mX1_upTo 24 [none] [.int 0] g = some r) : xX d mX1_upTo 4 [none] [] g = some r :=
  Y_iconst 0 dX1_upTo_4 ic_0 <| Y_goto 24 dX1_upTo_5 rfl <| X_le (xle_n xle_0) k
theorem bX1_upTo_8 {d : Nat} {g : xSt} {r : Option Value × xSt} {a0 : Int32} (k1 : a0 < 6 → xX d mX1_upTo 19 [some (.int a0)] [] g = some r) (k2 : ¬ (a0 < 6) → xX d mX1_upTo 14 [none] [] g = some r) : xX d mX1_upTo 8 [some (.int a0)] [] g = some r :=
  Y_iload_n dX1_upTo_8 rfl <| Y_bipush 6 dX1_upTo_9 bp_6 <| Y_lt 19 dX1_upTo_11 rfl (fun q => X_le (xle_s xle_0) (k1 q)) (fun q => X_le (xle_n xle_0) (k2 q))
theorem bX1_upTo_14 {d : Nat} {g : xSt} {r : Option Value × xSt}  (k : xX d mX1_upTo 24 [none] [.int 63] g = some r) : xX d mX1_upTo 14 [none] [] g = some r :=
  Y_bipush 63 dX1_upTo_14 bp_63 <| Y_goto 24 dX1_upTo_16 rfl <| X_le (xle_n xle_0) k
theorem bX1_upTo_19 {d : Nat} {g : xSt} {r : Option Value × xSt} {a0 : Int32} (k : xX d mX1_upTo 24 [none] [.int ((1 <<< (a0 &&& 31)) - 1)] g = some r) : xX d mX1_upTo 19 [some (.int a0)] [] g = some r :=
  Y_iconst 1 dX1_upTo_19 ic_1 <| Y_iload_n dX1_upTo_20 rfl <| Y_ishl dX1_upTo_21 <| Y_iconst 1 dX1_upTo_22 ic_1 <| Y_isub dX1_upTo_23 <| X_le (xle_n xle_0) k
theorem bX1_upTo_24 {d : Nat} {g : xSt} {r : Option Value × xSt} {s0 : Int32} (k : r = (some (.int s0), g)) : xX d mX1_upTo 24 [none] [.int s0] g = some r :=
  Y_iret dX1_upTo_24 rfl k
theorem bX1_note_0 {d : Nat} {g : xSt} {r : Option Value × xSt} {a1 a2 : Int32} (k : xX (d + 2) mX1_note 14 [some (.ref 98), some (.int a1), some (.int a2), some (.int ((xlow (Int32.toInt64 a1)) + 1)), some (.int ((xlow (Int32.toInt64 a1)) + 1)), some (.int ((xlow (Int32.toInt64 a1)) + 1)), none, none] [] g = some r) : xX (d + 2) mX1_note 0 [some (.ref 98), some (.int a1), some (.int a2), none, none, none, none, none] [] g = some r :=
  Y_iload_n dX1_note_0 rfl <| Y_i2l dX1_note_1 <| Y_callS1 dX1_note_2 cl_1_161 rfl rfl rfl rfl rfl (c_xlow) <| Y_iconst 1 dX1_note_5 ic_1 <| Y_iadd dX1_note_6 <| Y_istore_n dX1_note_7 rfl rfl <| Y_iload_n dX1_note_8 rfl <| Y_istore dX1_note_9 rfl rfl <| Y_iload_n dX1_note_11 rfl <| Y_istore dX1_note_12 rfl rfl <| X_le (xle_s (xle_s (xle_s (xle_s (xle_s (xle_s (xle_n (xle_n xle_0)))))))) k
theorem bX1_note_14 {d : Nat} {g : xSt} {r : Option Value × xSt} {a1 a2 a3 a4 a5 : Int32} (k1 : 6 < a5 → xX (d + 2) mX1_note 47 [some (.ref 98), some (.int a1), some (.int a2), some (.int a3), some (.int a4), none, none, none] [] g = some r) (k2 : ¬ (6 < a5) → xX (d + 2) mX1_note 21 [some (.ref 98), some (.int a1), some (.int a2), some (.int a3), some (.int a4), some (.int a5), none, none] [] g = some r) : xX (d + 2) mX1_note 14 [some (.ref 98), some (.int a1), some (.int a2), some (.int a3), some (.int a4), some (.int a5), none, none] [] g = some r :=
  Y_iload dX1_note_14 rfl <| Y_bipush 6 dX1_note_16 bp_6 <| Y_gt 47 dX1_note_18 rfl (fun q => X_le (xle_s (xle_s (xle_s (xle_s (xle_s (xle_n (xle_n (xle_n xle_0)))))))) (k1 q)) (fun q => X_le (xle_s (xle_s (xle_s (xle_s (xle_s (xle_s (xle_n (xle_n xle_0)))))))) (k2 q))
theorem bX1_note_21 {d : Nat} {g : xSt} {r : Option Value × xSt} {a1 a2 a3 a4 a5 : Int32} (k1 : (xbit a1 (a5 - 1)) = 0 → xX (d + 2) mX1_note 37 [some (.ref 98), some (.int a1), some (.int a2), some (.int a3), some (.int a4), some (.int a5), none, none] [] g = some r) (k2 : ¬ ((xbit a1 (a5 - 1)) = 0) → xX (d + 2) mX1_note 32 [some (.ref 98), some (.int a1), some (.int a2), some (.int a3), none, some (.int a5), none, none] [] g = some r) : xX (d + 2) mX1_note 21 [some (.ref 98), some (.int a1), some (.int a2), some (.int a3), some (.int a4), some (.int a5), none, none] [] g = some r :=
  Y_iload_n dX1_note_21 rfl <| Y_iload dX1_note_22 rfl <| Y_iconst 1 dX1_note_24 ic_1 <| Y_isub dX1_note_25 <| Y_callS1 dX1_note_26 cl_1_165 rfl rfl rfl rfl rfl (c_xbit) <| Y_eq0 37 dX1_note_29 rfl (fun q => X_le (xle_s (xle_s (xle_s (xle_s (xle_s (xle_s (xle_n (xle_n xle_0)))))))) (k1 q)) (fun q => X_le (xle_s (xle_s (xle_s (xle_s (xle_n (xle_s (xle_n (xle_n xle_0)))))))) (k2 q))
theorem bX1_note_32 {d : Nat} {g : xSt} {r : Option Value × xSt} {a1 a2 a3 a5 : Int32} (k : xX (d + 2) mX1_note 39 [some (.ref 98), some (.int a1), some (.int a2), some (.int a3), none, some (.int a5), none, none] [.int a5] g = some r) : xX (d + 2) mX1_note 32 [some (.ref 98), some (.int a1), some (.int a2), some (.int a3), none, some (.int a5), none, none] [] g = some r :=
  Y_iload dX1_note_32 rfl <| Y_goto 39 dX1_note_34 rfl <| X_le (xle_s (xle_s (xle_s (xle_s (xle_n (xle_s (xle_n (xle_n xle_0)))))))) k
theorem bX1_note_37 {d : Nat} {g : xSt} {r : Option Value × xSt} {a1 a2 a3 a4 a5 : Int32} (k : xX (d + 2) mX1_note 39 [some (.ref 98), some (.int a1), some (.int a2), some (.int a3), none, some (.int a5), none, none] [.int a4] g = some r) : xX (d + 2) mX1_note 37 [some (.ref 98), some (.int a1), some (.int a2), some (.int a3), some (.int a4), some (.int a5), none, none] [] g = some r :=
  Y_iload dX1_note_37 rfl <| X_le (xle_s (xle_s (xle_s (xle_s (xle_n (xle_s (xle_n (xle_n xle_0)))))))) k
theorem bX1_note_39 {d : Nat} {g : xSt} {r : Option Value × xSt} {a1 a2 a3 a5 s0 : Int32} (k : xX (d + 2) mX1_note 14 [some (.ref 98), some (.int a1), some (.int a2), some (.int a3), some (.int s0), some (.int (a5 + 1)), none, none] [] g = some r) : xX (d + 2) mX1_note 39 [some (.ref 98), some (.int a1), some (.int a2), some (.int a3), none, some (.int a5), none, none] [.int s0] g = some r :=
  Y_istore dX1_note_39 rfl rfl <| Y_iinc 1 dX1_note_41 rfl ic_1 rfl rfl <| Y_goto 14 dX1_note_44 rfl <| X_le (xle_s (xle_s (xle_s (xle_s (xle_s (xle_s (xle_n (xle_n xle_0)))))))) k
theorem bX1_note_47 {d : Nat} {g : xSt} {r : Option Value × xSt} {a1 a2 a3 a4 : Int32} (k : xX (d + 2) mX1_note 50 [some (.ref 98), some (.int a1), some (.int a2), some (.int a3), some (.int a4), some (.int 0), none, none] [] g = some r) : xX (d + 2) mX1_note 47 [some (.ref 98), some (.int a1), some (.int a2), some (.int a3), some (.int a4), none, none, none] [] g = some r :=
  Y_iconst 0 dX1_note_47 ic_0 <| Y_istore dX1_note_48 rfl rfl <| X_le (xle_s (xle_s (xle_s (xle_s (xle_s (xle_s (xle_n (xle_n xle_0)))))))) k
theorem bX1_note_50 {d : Nat} {g : xSt} {r : Option Value × xSt} {a1 a2 a3 a4 a5 : Int32} (k1 : a2 < a5 → xX (d + 2) mX1_note 169 [some (.ref 98), some (.int a1), none, none, none, none, none, none] [] g = some r) (k2 : ¬ (a2 < a5) → xX (d + 2) mX1_note 56 [some (.ref 98), some (.int a1), some (.int a2), some (.int a3), some (.int a4), some (.int a5), none, none] [] g = some r) : xX (d + 2) mX1_note 50 [some (.ref 98), some (.int a1), some (.int a2), some (.int a3), some (.int a4), some (.int a5), none, none] [] g = some r :=
  Y_iload dX1_note_50 rfl <| Y_iload_n dX1_note_52 rfl <| Y_gt 169 dX1_note_53 rfl (fun q => X_le (xle_s (xle_s (xle_n (xle_n (xle_n (xle_n (xle_n (xle_n xle_0)))))))) (k1 q)) (fun q => X_le (xle_s (xle_s (xle_s (xle_s (xle_s (xle_s (xle_n (xle_n xle_0)))))))) (k2 q))
theorem bX1_note_56 {d : Nat} {g : xSt} {r : Option Value × xSt} {a1 a2 a3 a4 a5 : Int32} (k1 : a5 = a2 → xX (d + 2) mX1_note 62 [some (.ref 98), some (.int a1), some (.int a2), some (.int a3), some (.int a4), some (.int a5), none, none] [] g = some r) (k2 : ¬ (a5 = a2) → xX (d + 2) mX1_note 66 [some (.ref 98), some (.int a1), some (.int a2), some (.int a3), some (.int a4), some (.int a5), none, none] [] g = some r) : xX (d + 2) mX1_note 56 [some (.ref 98), some (.int a1), some (.int a2), some (.int a3), some (.int a4), some (.int a5), none, none] [] g = some r :=
  Y_iload dX1_note_56 rfl <| Y_iload_n dX1_note_58 rfl <| Y_ne 66 dX1_note_59 rfl (fun q => X_le (xle_s (xle_s (xle_s (xle_s (xle_s (xle_s (xle_n (xle_n xle_0)))))))) (k1 q)) (fun q => X_le (xle_s (xle_s (xle_s (xle_s (xle_s (xle_s (xle_n (xle_n xle_0)))))))) (k2 q))
theorem bX1_note_62 {d : Nat} {g : xSt} {r : Option Value × xSt} {a1 a2 a3 a4 a5 : Int32} (k : xX (d + 2) mX1_note 75 [some (.ref 98), some (.int a1), some (.int a2), some (.int a3), some (.int a4), some (.int a5), none, none] [.int a3] g = some r) : xX (d + 2) mX1_note 62 [some (.ref 98), some (.int a1), some (.int a2), some (.int a3), some (.int a4), some (.int a5), none, none] [] g = some r :=
  Y_iload_n dX1_note_62 rfl <| Y_goto 75 dX1_note_63 rfl <| X_le (xle_s (xle_s (xle_s (xle_s (xle_s (xle_s (xle_n (xle_n xle_0)))))))) k
theorem bX1_note_66 {d : Nat} {g : xSt} {r : Option Value × xSt} {a1 a2 a3 a4 a5 : Int32} (W : xWf g) (k : xX (d + 2) mX1_note 75 [some (.ref 98), some (.int a1), some (.int a2), some (.int a3), some (.int a4), some (.int a5), none, none] [.int (xat (xI g 103) 5 a5)] g = some r) : xX (d + 2) mX1_note 66 [some (.ref 98), some (.int a1), some (.int a2), some (.int a3), some (.int a4), some (.int a5), none, none] [] g = some r :=
  Y_aload_n dX1_note_66 rfl <| Y_getR dX1_note_67 f_1_26 (by rw [ft_1_7]; rfl) (xis W 98 1 s_98 (Nat.le_of_ble_eq_true rfl)) (xptr W 98 7 p_98_7) <| Y_iload dX1_note_70 rfl <| Y_callS1 dX1_note_72 cl_1_70 rfl rfl rfl rfl rfl (c_at (xarr W (o := 103) s_103 (Nat.le_of_ble_eq_true rfl))) <| X_le (xle_s (xle_s (xle_s (xle_s (xle_s (xle_s (xle_n (xle_n xle_0)))))))) k
theorem bX1_note_75 {d : Nat} {g : xSt} {r : Option Value × xSt} {a1 a2 a3 a4 a5 s0 : Int32} (k1 : a5 = a2 → xX (d + 2) mX1_note 83 [some (.ref 98), some (.int a1), some (.int a2), some (.int a3), some (.int a4), some (.int a5), some (.int s0), none] [] g = some r) (k2 : ¬ (a5 = a2) → xX (d + 2) mX1_note 88 [some (.ref 98), some (.int a1), some (.int a2), some (.int a3), some (.int a4), some (.int a5), some (.int s0), none] [] g = some r) : xX (d + 2) mX1_note 75 [some (.ref 98), some (.int a1), some (.int a2), some (.int a3), some (.int a4), some (.int a5), none, none] [.int s0] g = some r :=
  Y_istore dX1_note_75 rfl rfl <| Y_iload dX1_note_77 rfl <| Y_iload_n dX1_note_79 rfl <| Y_ne 88 dX1_note_80 rfl (fun q => X_le (xle_s (xle_s (xle_s (xle_s (xle_s (xle_s (xle_s (xle_n xle_0)))))))) (k1 q)) (fun q => X_le (xle_s (xle_s (xle_s (xle_s (xle_s (xle_s (xle_s (xle_n xle_0)))))))) (k2 q))
theorem bX1_note_83 {d : Nat} {g : xSt} {r : Option Value × xSt} {a1 a2 a3 a4 a5 a6 : Int32} (k : xX (d + 2) mX1_note 97 [some (.ref 98), some (.int a1), some (.int a2), some (.int a3), some (.int a4), some (.int a5), some (.int a6), none] [.int a4] g = some r) : xX (d + 2) mX1_note 83 [some (.ref 98), some (.int a1), some (.int a2), some (.int a3), some (.int a4), some (.int a5), some (.int a6), none] [] g = some r :=
  Y_iload dX1_note_83 rfl <| Y_goto 97 dX1_note_85 rfl <| X_le (xle_s (xle_s (xle_s (xle_s (xle_s (xle_s (xle_s (xle_n xle_0)))))))) k
theorem bX1_note_88 {d : Nat} {g : xSt} {r : Option Value × xSt} {a1 a2 a3 a4 a5 a6 : Int32} (W : xWf g) (k : xX (d + 2) mX1_note 97 [some (.ref 98), some (.int a1), some (.int a2), some (.int a3), some (.int a4), some (.int a5), some (.int a6), none] [.int (xat (xI g 103) 5 a5)] g = some r) : xX (d + 2) mX1_note 88 [some (.ref 98), some (.int a1), some (.int a2), some (.int a3), some (.int a4), some (.int a5), some (.int a6), none] [] g = some r :=
  Y_aload_n dX1_note_88 rfl <| Y_getR dX1_note_89 f_1_26 (by rw [ft_1_7]; rfl) (xis W 98 1 s_98 (Nat.le_of_ble_eq_true rfl)) (xptr W 98 7 p_98_7) <| Y_iload dX1_note_92 rfl <| Y_callS1 dX1_note_94 cl_1_70 rfl rfl rfl rfl rfl (c_at (xarr W (o := 103) s_103 (Nat.le_of_ble_eq_true rfl))) <| X_le (xle_s (xle_s (xle_s (xle_s (xle_s (xle_s (xle_s (xle_n xle_0)))))))) k
theorem bX1_note_97 {d : Nat} {g : xSt} {r : Option Value × xSt} {a1 a2 a3 a4 a5 a6 s0 : Int32} (W : xWf g) (k1 : (xI (xput (xput g 105 5 a5 (imin (xat (xI g 105) 5 a5) a6)) 106 5 a5 (imax (xat (xI (xput g 105 5 a5 (imin (xat (xI g 105) 5 a5) a6)) 106) 5 a5) s0)) 98 11) = 0 → xX (d + 2) mX1_note 152 [some (.ref 98), some (.int a1), some (.int a2), some (.int a3), some (.int a4), some (.int a5), some (.int a6), none] [] (xput (xput g 105 5 a5 (imin (xat (xI g 105) 5 a5) a6)) 106 5 a5 (imax (xat (xI (xput g 105 5 a5 (imin (xat (xI g 105) 5 a5) a6)) 106) 5 a5) s0)) = some r) (k2 : ¬ ((xI (xput (xput g 105 5 a5 (imin (xat (xI g 105) 5 a5) a6)) 106 5 a5 (imax (xat (xI (xput g 105 5 a5 (imin (xat (xI g 105) 5 a5) a6)) 106) 5 a5) s0)) 98 11) = 0) → xX (d + 2) mX1_note 163 [some (.ref 98), some (.int a1), some (.int a2), some (.int a3), some (.int a4), some (.int a5), none, none] [] (xput (xput g 105 5 a5 (imin (xat (xI g 105) 5 a5) a6)) 106 5 a5 (imax (xat (xI (xput g 105 5 a5 (imin (xat (xI g 105) 5 a5) a6)) 106) 5 a5) s0)) = some r) : xX (d + 2) mX1_note 97 [some (.ref 98), some (.int a1), some (.int a2), some (.int a3), some (.int a4), some (.int a5), some (.int a6), none] [.int s0] g = some r :=
  Y_istore dX1_note_97 rfl rfl <| Y_aload_n dX1_note_99 rfl <| Y_getR dX1_note_100 f_1_32 (by rw [ft_1_9]; rfl) (xis W 98 1 s_98 (Nat.le_of_ble_eq_true rfl)) (xptr W 98 9 p_98_9) <| Y_iload dX1_note_103 rfl <| Y_aload_n dX1_note_105 rfl <| Y_getR dX1_note_106 f_1_32 (by rw [ft_1_9]; rfl) (xis W 98 1 s_98 (Nat.le_of_ble_eq_true rfl)) (xptr W 98 9 p_98_9) <| Y_iload dX1_note_109 rfl <| Y_callS1 dX1_note_111 cl_1_70 rfl rfl rfl rfl rfl (c_at (xarr W (o := 105) s_105 (Nat.le_of_ble_eq_true rfl))) <| Y_iload dX1_note_114 rfl <| Y_min dX1_note_116 km_1_168 kn_1_168 rfl <| Y_callS0 dX1_note_119 cl_1_93 rfl rfl rfl rfl rfl (c_put (xarr W (o := 105) s_105 (Nat.le_of_ble_eq_true rfl))) <| Y_aload_n dX1_note_122 rfl <| Y_getR dX1_note_123 f_1_35 (by rw [ft_1_10]; rfl) (xis (xWf_put W) 98 1 s_98 (Nat.le_of_ble_eq_true rfl)) (xptr (xWf_put W) 98 10 p_98_10) <| Y_iload dX1_note_126 rfl <| Y_aload_n dX1_note_128 rfl <| Y_getR dX1_note_129 f_1_35 (by rw [ft_1_10]; rfl) (xis (xWf_put W) 98 1 s_98 (Nat.le_of_ble_eq_true rfl)) (xptr (xWf_put W) 98 10 p_98_10) <| Y_iload dX1_note_132 rfl <| Y_callS1 dX1_note_134 cl_1_70 rfl rfl rfl rfl rfl (c_at (xarr (xWf_put W) (o := 106) s_106 (Nat.le_of_ble_eq_true rfl))) <| Y_iload dX1_note_137 rfl <| Y_max dX1_note_139 km_1_116 kn_1_116 rfl <| Y_callS0 dX1_note_142 cl_1_93 rfl rfl rfl rfl rfl (c_put (xarr (xWf_put W) (o := 106) s_106 (Nat.le_of_ble_eq_true rfl))) <| Y_aload_n dX1_note_145 rfl <| Y_getI dX1_note_146 f_1_110 ft_1_11 (xis (xWf_put (xWf_put W)) 98 1 s_98 (Nat.le_of_ble_eq_true rfl)) <| Y_ne0 163 dX1_note_149 rfl (fun q => X_le (xle_s (xle_s (xle_s (xle_s (xle_s (xle_s (xle_s (xle_n xle_0)))))))) (k1 q)) (fun q => X_le (xle_s (xle_s (xle_s (xle_s (xle_s (xle_s (xle_n (xle_n xle_0)))))))) (k2 q))
theorem bX1_note_152 {d : Nat} {g : xSt} {r : Option Value × xSt} {a1 a2 a3 a4 a5 a6 : Int32} (W : xWf g) (k : xX (d + 2) mX1_note 163 [some (.ref 98), some (.int a1), some (.int a2), some (.int a3), some (.int a4), some (.int a5), none, none] [] (xput g 104 5 a5 a6) = some r) : xX (d + 2) mX1_note 152 [some (.ref 98), some (.int a1), some (.int a2), some (.int a3), some (.int a4), some (.int a5), some (.int a6), none] [] g = some r :=
  Y_aload_n dX1_note_152 rfl <| Y_getR dX1_note_153 f_1_29 (by rw [ft_1_8]; rfl) (xis W 98 1 s_98 (Nat.le_of_ble_eq_true rfl)) (xptr W 98 8 p_98_8) <| Y_iload dX1_note_156 rfl <| Y_iload dX1_note_158 rfl <| Y_callS0 dX1_note_160 cl_1_93 rfl rfl rfl rfl rfl (c_put (xarr W (o := 104) s_104 (Nat.le_of_ble_eq_true rfl))) <| X_le (xle_s (xle_s (xle_s (xle_s (xle_s (xle_s (xle_n (xle_n xle_0)))))))) k
theorem bX1_note_163 {d : Nat} {g : xSt} {r : Option Value × xSt} {a1 a2 a3 a4 a5 : Int32} (k : xX (d + 2) mX1_note 50 [some (.ref 98), some (.int a1), some (.int a2), some (.int a3), some (.int a4), some (.int (a5 + 1)), none, none] [] g = some r) : xX (d + 2) mX1_note 163 [some (.ref 98), some (.int a1), some (.int a2), some (.int a3), some (.int a4), some (.int a5), none, none] [] g = some r :=
  Y_iinc 1 dX1_note_163 rfl ic_1 rfl rfl <| Y_goto 50 dX1_note_166 rfl <| X_le (xle_s (xle_s (xle_s (xle_s (xle_s (xle_s (xle_n (xle_n xle_0)))))))) k
theorem bX1_note_169 {d : Nat} {g : xSt} {r : Option Value × xSt} {a1 : Int32} (W : xWf g) (k : r = (none, xWI g 98 11 ((xI g 98 11) + (xbci a1)))) : xX (d + 2) mX1_note 169 [some (.ref 98), some (.int a1), none, none, none, none, none, none] [] g = some r :=
  Y_aload_n dX1_note_169 rfl <| Y_dup dX1_note_170 rfl <| Y_getI dX1_note_171 f_1_110 ft_1_11 (xis W 98 1 s_98 (Nat.le_of_ble_eq_true rfl)) <| Y_iload_n dX1_note_174 rfl <| Y_callS1 dX1_note_175 cl_1_152 rfl rfl rfl rfl rfl (c_xbci) <| Y_iadd dX1_note_178 <| Y_putI dX1_note_179 f_1_110 fn_1_11 ft_1_11 (xis W 98 1 s_98 (Nat.le_of_ble_eq_true rfl)) <| Y_ret dX1_note_182 rfl k
theorem bX1_lay_0 {d : Nat} {g : xSt} {r : Option Value × xSt} {a1 a2 : Int32} (W : xWf g) (k : xX (d + 1) mX1_lay 16 [some (.ref 98), none, some (.int a2), some (.int (1 <<< (a1 &&& 31))), some (.int 0)] [] (xput g 103 5 a1 a2) = some r) : xX (d + 1) mX1_lay 0 [some (.ref 98), some (.int a1), some (.int a2), none, none] [] g = some r :=
  Y_aload_n dX1_lay_0 rfl <| Y_getR dX1_lay_1 f_1_26 (by rw [ft_1_7]; rfl) (xis W 98 1 s_98 (Nat.le_of_ble_eq_true rfl)) (xptr W 98 7 p_98_7) <| Y_iload_n dX1_lay_4 rfl <| Y_iload_n dX1_lay_5 rfl <| Y_callS0 dX1_lay_6 cl_1_93 rfl rfl rfl rfl rfl (c_put (xarr W (o := 103) s_103 (Nat.le_of_ble_eq_true rfl))) <| Y_iconst 1 dX1_lay_9 ic_1 <| Y_iload_n dX1_lay_10 rfl <| Y_ishl dX1_lay_11 <| Y_istore_n dX1_lay_12 rfl rfl <| Y_iconst 0 dX1_lay_13 ic_0 <| Y_istore dX1_lay_14 rfl rfl <| X_le (xle_s (xle_n (xle_s (xle_s (xle_s xle_0))))) k
theorem bX1_lay_16 {d : Nat} {g : xSt} {r : Option Value × xSt} {a2 a3 a4 : Int32} (k1 : a3 ≤ a4 → xX (d + 1) mX1_lay 50 [none, none, none, none, none] [] g = some r) (k2 : ¬ (a3 ≤ a4) → xX (d + 1) mX1_lay 22 [some (.ref 98), none, some (.int a2), some (.int a3), some (.int a4)] [] g = some r) : xX (d + 1) mX1_lay 16 [some (.ref 98), none, some (.int a2), some (.int a3), some (.int a4)] [] g = some r :=
  Y_iload dX1_lay_16 rfl <| Y_iload_n dX1_lay_18 rfl <| Y_ge 50 dX1_lay_19 rfl (fun q => X_le (xle_n (xle_n (xle_n (xle_n (xle_n xle_0))))) (k1 q)) (fun q => X_le (xle_s (xle_n (xle_s (xle_s (xle_s xle_0))))) (k2 q))
theorem bX1_lay_22 {d : Nat} {g : xSt} {r : Option Value × xSt} {a2 a3 a4 : Int32} (W : xWf g) (k : xX (d + 1) mX1_lay 16 [some (.ref 98), none, some (.int a2), some (.int a3), some (.int (a4 + 1))] [] (xput g 102 32 (a3 ||| a4) ((xat (xI g 102) 32 a4) + a2)) = some r) : xX (d + 1) mX1_lay 22 [some (.ref 98), none, some (.int a2), some (.int a3), some (.int a4)] [] g = some r :=
  Y_aload_n dX1_lay_22 rfl <| Y_getR dX1_lay_23 f_1_21 (by rw [ft_1_6]; rfl) (xis W 98 1 s_98 (Nat.le_of_ble_eq_true rfl)) (xptr W 98 6 p_98_6) <| Y_iload_n dX1_lay_26 rfl <| Y_iload dX1_lay_27 rfl <| Y_ior dX1_lay_29 <| Y_aload_n dX1_lay_30 rfl <| Y_getR dX1_lay_31 f_1_21 (by rw [ft_1_6]; rfl) (xis W 98 1 s_98 (Nat.le_of_ble_eq_true rfl)) (xptr W 98 6 p_98_6) <| Y_iload dX1_lay_34 rfl <| Y_callS1 dX1_lay_36 cl_1_70 rfl rfl rfl rfl rfl (c_at (xarr W (o := 102) s_102 (Nat.le_of_ble_eq_true rfl))) <| Y_iload_n dX1_lay_39 rfl <| Y_iadd dX1_lay_40 <| Y_callS0 dX1_lay_41 cl_1_93 rfl rfl rfl rfl rfl (c_put (xarr W (o := 102) s_102 (Nat.le_of_ble_eq_true rfl))) <| Y_iinc 1 dX1_lay_44 rfl ic_1 rfl rfl <| Y_goto 16 dX1_lay_47 rfl <| X_le (xle_s (xle_n (xle_s (xle_s (xle_s xle_0))))) k
theorem bX1_lay_50 {d : Nat} {g : xSt} {r : Option Value × xSt}  (k : r = (none, g)) : xX (d + 1) mX1_lay 50 [none, none, none, none, none] [] g = some r :=
  Y_ret dX1_lay_50 rfl k
theorem bX1_holds_0 {d : Nat} {g : xSt} {r : Option Value × xSt} {a1 : Int32} (k : xX (d + 1) mX1_holds 2 [some (.ref 98), some (.int a1), some (.int 0), none, none, none, none] [] g = some r) : xX (d + 1) mX1_holds 0 [some (.ref 98), some (.int a1), none, none, none, none, none] [] g = some r :=
  Y_iconst 0 dX1_holds_0 ic_0 <| Y_istore_n dX1_holds_1 rfl rfl <| X_le (xle_s (xle_s (xle_s (xle_n (xle_n (xle_n (xle_n xle_0))))))) k
theorem bX1_holds_2 {d : Nat} {g : xSt} {r : Option Value × xSt} {a1 a2 : Int32} (W : xWf g) (k1 : (xI g 98 2) ≤ a2 → xX (d + 1) mX1_holds 110 [none, none, none, none, none, none, none] [] g = some r) (k2 : ¬ ((xI g 98 2) ≤ a2) → xX (d + 1) mX1_holds 10 [some (.ref 98), some (.int a1), some (.int a2), none, none, none, none] [] g = some r) : xX (d + 1) mX1_holds 2 [some (.ref 98), some (.int a1), some (.int a2), none, none, none, none] [] g = some r :=
  Y_iload_n dX1_holds_2 rfl <| Y_aload_n dX1_holds_3 rfl <| Y_getI dX1_holds_4 f_1_97 ft_1_2 (xis W 98 1 s_98 (Nat.le_of_ble_eq_true rfl)) <| Y_ge 110 dX1_holds_7 rfl (fun q => X_le (xle_n (xle_n (xle_n (xle_n (xle_n (xle_n (xle_n xle_0))))))) (k1 q)) (fun q => X_le (xle_s (xle_s (xle_s (xle_n (xle_n (xle_n (xle_n xle_0))))))) (k2 q))
theorem bX1_holds_10 {d : Nat} {g : xSt} {r : Option Value × xSt} {a1 a2 : Int32} (W : xWf g) (k1 : (((xat (xI g 99) 60 a2) ||| (xat (xI g 100) 60 a2)) >>> (a1 &&& 31)) = 1 → xX (d + 1) mX1_holds 39 [some (.ref 98), some (.int a1), some (.int a2), some (.int (xat (xI g 99) 60 a2)), some (.int (xat (xI g 100) 60 a2)), none, none] [] g = some r) (k2 : ¬ ((((xat (xI g 99) 60 a2) ||| (xat (xI g 100) 60 a2)) >>> (a1 &&& 31)) = 1) → xX (d + 1) mX1_holds 104 [some (.ref 98), some (.int a1), some (.int a2), none, none, none, none] [] g = some r) : xX (d + 1) mX1_holds 10 [some (.ref 98), some (.int a1), some (.int a2), none, none, none, none] [] g = some r :=
  Y_aload_n dX1_holds_10 rfl <| Y_getR dX1_holds_11 f_1_9 (by rw [ft_1_3]; rfl) (xis W 98 1 s_98 (Nat.le_of_ble_eq_true rfl)) (xptr W 98 3 p_98_3) <| Y_iload_n dX1_holds_14 rfl <| Y_callS1 dX1_holds_15 cl_1_70 rfl rfl rfl rfl rfl (c_at (xarr W (o := 99) s_99 (Nat.le_of_ble_eq_true rfl))) <| Y_istore_n dX1_holds_18 rfl rfl <| Y_aload_n dX1_holds_19 rfl <| Y_getR dX1_holds_20 f_1_15 (by rw [ft_1_4]; rfl) (xis W 98 1 s_98 (Nat.le_of_ble_eq_true rfl)) (xptr W 98 4 p_98_4) <| Y_iload_n dX1_holds_23 rfl <| Y_callS1 dX1_holds_24 cl_1_70 rfl rfl rfl rfl rfl (c_at (xarr W (o := 100) s_100 (Nat.le_of_ble_eq_true rfl))) <| Y_istore dX1_holds_27 rfl rfl <| Y_iload_n dX1_holds_29 rfl <| Y_iload dX1_holds_30 rfl <| Y_ior dX1_holds_32 <| Y_iload_n dX1_holds_33 rfl <| Y_ishr dX1_holds_34 <| Y_iconst 1 dX1_holds_35 ic_1 <| Y_ne 104 dX1_holds_36 rfl (fun q => X_le (xle_s (xle_s (xle_s (xle_s (xle_s (xle_n (xle_n xle_0))))))) (k1 q)) (fun q => X_le (xle_s (xle_s (xle_s (xle_n (xle_n (xle_n (xle_n xle_0))))))) (k2 q))
theorem bX1_holds_39 {d : Nat} {g : xSt} {r : Option Value × xSt} {a1 a2 a3 a4 : Int32} (W : xWf g) (k1 : ((xat (xI g 102) 32 a3) - (xat (xI g 102) 32 a4)) ≤ (xI g 98 1) → xX (d + 1) mX1_holds 72 [some (.ref 98), some (.int a1), some (.int a2), none, none, some (.int ((xat (xI g 102) 32 a3) - (xat (xI g 102) 32 a4))), none] [] g = some r) (k2 : ¬ (((xat (xI g 102) 32 a3) - (xat (xI g 102) 32 a4)) ≤ (xI g 98 1)) → xX (d + 1) mX1_holds 68 [some (.ref 98), some (.int a1), some (.int a2), none, none, none, none] [] g = some r) : xX (d + 1) mX1_holds 39 [some (.ref 98), some (.int a1), some (.int a2), some (.int a3), some (.int a4), none, none] [] g = some r :=
  Y_aload_n dX1_holds_39 rfl <| Y_getR dX1_holds_40 f_1_21 (by rw [ft_1_6]; rfl) (xis W 98 1 s_98 (Nat.le_of_ble_eq_true rfl)) (xptr W 98 6 p_98_6) <| Y_iload_n dX1_holds_43 rfl <| Y_callS1 dX1_holds_44 cl_1_70 rfl rfl rfl rfl rfl (c_at (xarr W (o := 102) s_102 (Nat.le_of_ble_eq_true rfl))) <| Y_aload_n dX1_holds_47 rfl <| Y_getR dX1_holds_48 f_1_21 (by rw [ft_1_6]; rfl) (xis W 98 1 s_98 (Nat.le_of_ble_eq_true rfl)) (xptr W 98 6 p_98_6) <| Y_iload dX1_holds_51 rfl <| Y_callS1 dX1_holds_53 cl_1_70 rfl rfl rfl rfl rfl (c_at (xarr W (o := 102) s_102 (Nat.le_of_ble_eq_true rfl))) <| Y_isub dX1_holds_56 <| Y_istore dX1_holds_57 rfl rfl <| Y_iload dX1_holds_59 rfl <| Y_aload_n dX1_holds_61 rfl <| Y_getI dX1_holds_62 f_1_58 ft_1_1 (xis W 98 1 s_98 (Nat.le_of_ble_eq_true rfl)) <| Y_le 72 dX1_holds_65 rfl (fun q => X_le (xle_s (xle_s (xle_s (xle_n (xle_n (xle_s (xle_n xle_0))))))) (k1 q)) (fun q => X_le (xle_s (xle_s (xle_s (xle_n (xle_n (xle_n (xle_n xle_0))))))) (k2 q))
theorem bX1_holds_68 {d : Nat} {g : xSt} {r : Option Value × xSt} {a1 a2 : Int32} (k : xX (d + 1) mX1_holds 87 [some (.ref 98), some (.int a1), some (.int a2), none, none, none, none] [.int 1] g = some r) : xX (d + 1) mX1_holds 68 [some (.ref 98), some (.int a1), some (.int a2), none, none, none, none] [] g = some r :=
  Y_iconst 1 dX1_holds_68 ic_1 <| Y_goto 87 dX1_holds_69 rfl <| X_le (xle_s (xle_s (xle_s (xle_n (xle_n (xle_n (xle_n xle_0))))))) k
theorem bX1_holds_72 {d : Nat} {g : xSt} {r : Option Value × xSt} {a1 a2 a5 : Int32} (W : xWf g) (k1 : (-a5) ≤ (xI g 98 1) → xX (d + 1) mX1_holds 86 [some (.ref 98), some (.int a1), some (.int a2), none, none, none, none] [] g = some r) (k2 : ¬ ((-a5) ≤ (xI g 98 1)) → xX (d + 1) mX1_holds 82 [some (.ref 98), some (.int a1), some (.int a2), none, none, none, none] [] g = some r) : xX (d + 1) mX1_holds 72 [some (.ref 98), some (.int a1), some (.int a2), none, none, some (.int a5), none] [] g = some r :=
  Y_iload dX1_holds_72 rfl <| Y_ineg dX1_holds_74 <| Y_aload_n dX1_holds_75 rfl <| Y_getI dX1_holds_76 f_1_58 ft_1_1 (xis W 98 1 s_98 (Nat.le_of_ble_eq_true rfl)) <| Y_le 86 dX1_holds_79 rfl (fun q => X_le (xle_s (xle_s (xle_s (xle_n (xle_n (xle_n (xle_n xle_0))))))) (k1 q)) (fun q => X_le (xle_s (xle_s (xle_s (xle_n (xle_n (xle_n (xle_n xle_0))))))) (k2 q))
theorem bX1_holds_82 {d : Nat} {g : xSt} {r : Option Value × xSt} {a1 a2 : Int32} (k : xX (d + 1) mX1_holds 87 [some (.ref 98), some (.int a1), some (.int a2), none, none, none, none] [.int 2] g = some r) : xX (d + 1) mX1_holds 82 [some (.ref 98), some (.int a1), some (.int a2), none, none, none, none] [] g = some r :=
  Y_iconst 2 dX1_holds_82 ic_2 <| Y_goto 87 dX1_holds_83 rfl <| X_le (xle_s (xle_s (xle_s (xle_n (xle_n (xle_n (xle_n xle_0))))))) k
theorem bX1_holds_86 {d : Nat} {g : xSt} {r : Option Value × xSt} {a1 a2 : Int32} (k : xX (d + 1) mX1_holds 87 [some (.ref 98), some (.int a1), some (.int a2), none, none, none, none] [.int 0] g = some r) : xX (d + 1) mX1_holds 86 [some (.ref 98), some (.int a1), some (.int a2), none, none, none, none] [] g = some r :=
  Y_iconst 0 dX1_holds_86 ic_0 <| X_le (xle_s (xle_s (xle_s (xle_n (xle_n (xle_n (xle_n xle_0))))))) k
theorem bX1_holds_87 {d : Nat} {g : xSt} {r : Option Value × xSt} {a1 a2 s0 : Int32} (W : xWf g) (k1 : s0 = (xat (xI g 101) 60 a2) → xX (d + 1) mX1_holds 104 [some (.ref 98), some (.int a1), some (.int a2), none, none, none, none] [] g = some r) (k2 : ¬ (s0 = (xat (xI g 101) 60 a2)) → xX (d + 1) mX1_holds 102 [none, none, none, none, none, none, none] [] g = some r) : xX (d + 1) mX1_holds 87 [some (.ref 98), some (.int a1), some (.int a2), none, none, none, none] [.int s0] g = some r :=
  Y_istore dX1_holds_87 rfl rfl <| Y_iload dX1_holds_89 rfl <| Y_aload_n dX1_holds_91 rfl <| Y_getR dX1_holds_92 f_1_18 (by rw [ft_1_5]; rfl) (xis W 98 1 s_98 (Nat.le_of_ble_eq_true rfl)) (xptr W 98 5 p_98_5) <| Y_iload_n dX1_holds_95 rfl <| Y_callS1 dX1_holds_96 cl_1_70 rfl rfl rfl rfl rfl (c_at (xarr W (o := 101) s_101 (Nat.le_of_ble_eq_true rfl))) <| Y_eq 104 dX1_holds_99 rfl (fun q => X_le (xle_s (xle_s (xle_s (xle_n (xle_n (xle_n (xle_n xle_0))))))) (k1 q)) (fun q => X_le (xle_n (xle_n (xle_n (xle_n (xle_n (xle_n (xle_n xle_0))))))) (k2 q))
theorem bX1_holds_102 {d : Nat} {g : xSt} {r : Option Value × xSt}  (k : r = (some (.int 0), g)) : xX (d + 1) mX1_holds 102 [none, none, none, none, none, none, none] [] g = some r :=
  Y_iconst 0 dX1_holds_102 ic_0 <| Y_zret dX1_holds_103 rfl (by decide) k
theorem bX1_holds_104 {d : Nat} {g : xSt} {r : Option Value × xSt} {a1 a2 : Int32} (k : xX (d + 1) mX1_holds 2 [some (.ref 98), some (.int a1), some (.int (a2 + 1)), none, none, none, none] [] g = some r) : xX (d + 1) mX1_holds 104 [some (.ref 98), some (.int a1), some (.int a2), none, none, none, none] [] g = some r :=
  Y_iinc 1 dX1_holds_104 rfl ic_1 rfl rfl <| Y_goto 2 dX1_holds_107 rfl <| X_le (xle_s (xle_s (xle_s (xle_n (xle_n (xle_n (xle_n xle_0))))))) k
theorem bX1_holds_110 {d : Nat} {g : xSt} {r : Option Value × xSt}  (k : r = (some (.int 1), g)) : xX (d + 1) mX1_holds 110 [none, none, none, none, none, none, none] [] g = some r :=
  Y_iconst 1 dX1_holds_110 ic_1 <| Y_zret dX1_holds_111 rfl (by decide) k
theorem bX1_firstOf_0 {d : Nat} {g : xSt} {r : Option Value × xSt} {a1 : Int32} (W : xWf g) (k : r = (some (.int (xat (xI g 104) 5 a1)), g)) : xX (d + 1) mX1_firstOf 0 [some (.ref 98), some (.int a1)] [] g = some r :=
  Y_aload_n dX1_firstOf_0 rfl <| Y_getR dX1_firstOf_1 f_1_29 (by rw [ft_1_8]; rfl) (xis W 98 1 s_98 (Nat.le_of_ble_eq_true rfl)) (xptr W 98 8 p_98_8) <| Y_iload_n dX1_firstOf_4 rfl <| Y_callS1 dX1_firstOf_5 cl_1_70 rfl rfl rfl rfl rfl (c_at (xarr W (o := 104) s_104 (Nat.le_of_ble_eq_true rfl))) <| Y_iret dX1_firstOf_8 rfl k
theorem bX1_extremeOf_0 {d : Nat} {g : xSt} {r : Option Value × xSt} {a1 a2 : Int32} (k1 : a2 = 0 → xX (d + 1) mX1_extremeOf 11 [some (.ref 98), some (.int a1), none] [] g = some r) (k2 : ¬ (a2 = 0) → xX (d + 1) mX1_extremeOf 4 [some (.ref 98), some (.int a1), none] [] g = some r) : xX (d + 1) mX1_extremeOf 0 [some (.ref 98), some (.int a1), some (.int a2)] [] g = some r :=
  Y_iload_n dX1_extremeOf_0 rfl <| Y_eq0 11 dX1_extremeOf_1 rfl (fun q => X_le (xle_s (xle_s (xle_n xle_0))) (k1 q)) (fun q => X_le (xle_s (xle_s (xle_n xle_0))) (k2 q))
theorem bX1_extremeOf_4 {d : Nat} {g : xSt} {r : Option Value × xSt} {a1 : Int32} (W : xWf g) (k : xX (d + 1) mX1_extremeOf 15 [none, some (.int a1), none] [.ref 106] g = some r) : xX (d + 1) mX1_extremeOf 4 [some (.ref 98), some (.int a1), none] [] g = some r :=
  Y_aload_n dX1_extremeOf_4 rfl <| Y_getR dX1_extremeOf_5 f_1_35 (by rw [ft_1_10]; rfl) (xis W 98 1 s_98 (Nat.le_of_ble_eq_true rfl)) (xptr W 98 10 p_98_10) <| Y_goto 15 dX1_extremeOf_8 rfl <| X_le (xle_n (xle_s (xle_n xle_0))) k
theorem bX1_extremeOf_11 {d : Nat} {g : xSt} {r : Option Value × xSt} {a1 : Int32} (W : xWf g) (k : xX (d + 1) mX1_extremeOf 15 [none, some (.int a1), none] [.ref 105] g = some r) : xX (d + 1) mX1_extremeOf 11 [some (.ref 98), some (.int a1), none] [] g = some r :=
  Y_aload_n dX1_extremeOf_11 rfl <| Y_getR dX1_extremeOf_12 f_1_32 (by rw [ft_1_9]; rfl) (xis W 98 1 s_98 (Nat.le_of_ble_eq_true rfl)) (xptr W 98 9 p_98_9) <| X_le (xle_n (xle_s (xle_n xle_0))) k
theorem bX1_extremeOf_15 {d : Nat} {g : xSt} {r : Option Value × xSt} {a1 : Int32} (W : xWf g) (k : r = (some (.int (xat (xI g 106) 5 a1)), g)) : xX (d + 1) mX1_extremeOf 15 [none, some (.int a1), none] [.ref 106] g = some r :=
  Y_iload_n dX1_extremeOf_15 rfl <| Y_callS1 dX1_extremeOf_16 cl_1_70 rfl rfl rfl rfl rfl (c_at (xarr W (o := 106) s_106 (Nat.le_of_ble_eq_true rfl))) <| Y_iret dX1_extremeOf_19 rfl k
theorem bX1_sayings_0 {d : Nat} {g : xSt} {r : Option Value × xSt} {a1 a2 : Int32} {g8 g12 : xSt} (W : xWf g) (hk8 : xCallM d mX1_ask [.ref 98, .int a1, .int a2] (xWI g 98 13 0) = some (none, g8)) (W8 : xWf g8) (hk12 : xCallM d mX1_guess [.ref 98] g8 = some (none, g12)) (W12 : xWf g12) (k1 : (xI g12 98 11) ≤ ((xat (xI g12 109) 90 0) + (xat (xI g12 110) 90 0)) → xX (d + 1) mX1_sayings 54 [none, none, none, some (.int (xat (xI g12 109) 90 0)), some (.int (xat (xI g12 110) 90 0))] [] (xWI g12 98 12 1) = some r) (k2 : ¬ ((xI g12 98 11) ≤ ((xat (xI g12 109) 90 0) + (xat (xI g12 110) 90 0))) → xX (d + 1) mX1_sayings 50 [none, none, none, some (.int (xat (xI g12 109) 90 0)), some (.int (xat (xI g12 110) 90 0))] [] (xWI g12 98 12 1) = some r) : xX (d + 1) mX1_sayings 0 [some (.ref 98), some (.int a1), some (.int a2), none, none] [] g = some r :=
  Y_aload_n dX1_sayings_0 rfl <| Y_iconst 0 dX1_sayings_1 ic_0 <| Y_putI dX1_sayings_2 f_1_100 fn_1_13 ft_1_13 (xis W 98 1 s_98 (Nat.le_of_ble_eq_true rfl)) <| Y_aload_n dX1_sayings_5 rfl <| Y_iload_n dX1_sayings_6 rfl <| Y_iload_n dX1_sayings_7 rfl <| Y_callV0 dX1_sayings_8 cl_1_106 rfl rfl (xis W 98 1 s_98 (Nat.le_of_ble_eq_true rfl)) rfl rfl rfl (hk8) <| Y_aload_n dX1_sayings_11 rfl <| Y_callV0 dX1_sayings_12 cl_1_103 rfl rfl (xis W8 98 1 s_98 (Nat.le_of_ble_eq_true rfl)) rfl rfl rfl (hk12) <| Y_aload_n dX1_sayings_15 rfl <| Y_iconst 1 dX1_sayings_16 ic_1 <| Y_putI dX1_sayings_17 f_1_38 fn_1_12 ft_1_12 (xis W12 98 1 s_98 (Nat.le_of_ble_eq_true rfl)) <| Y_aload_n dX1_sayings_20 rfl <| Y_getR dX1_sayings_21 f_1_48 (by rw [ft_1_16]; rfl) (xis W12 98 1 s_98 (Nat.le_of_ble_eq_true rfl)) (xptr W12 98 16 p_98_16) <| Y_iconst 0 dX1_sayings_24 ic_0 <| Y_callS1 dX1_sayings_25 cl_1_70 rfl rfl rfl rfl rfl (c_at (xarr W12 (o := 109) s_109 (Nat.le_of_ble_eq_true rfl))) <| Y_istore_n dX1_sayings_28 rfl rfl <| Y_aload_n dX1_sayings_29 rfl <| Y_getR dX1_sayings_30 f_1_51 (by rw [ft_1_17]; rfl) (xis W12 98 1 s_98 (Nat.le_of_ble_eq_true rfl)) (xptr W12 98 17 p_98_17) <| Y_iconst 0 dX1_sayings_33 ic_0 <| Y_callS1 dX1_sayings_34 cl_1_70 rfl rfl rfl rfl rfl (c_at (xarr W12 (o := 110) s_110 (Nat.le_of_ble_eq_true rfl))) <| Y_istore dX1_sayings_37 rfl rfl <| Y_aload_n dX1_sayings_39 rfl <| Y_getI dX1_sayings_40 f_1_110 ft_1_11 (xis W12 98 1 s_98 (Nat.le_of_ble_eq_true rfl)) <| Y_iload_n dX1_sayings_43 rfl <| Y_iload dX1_sayings_44 rfl <| Y_iadd dX1_sayings_46 <| Y_le 54 dX1_sayings_47 rfl (fun q => X_le (xle_n (xle_n (xle_n (xle_s (xle_s xle_0))))) (k1 q)) (fun q => X_le (xle_n (xle_n (xle_n (xle_s (xle_s xle_0))))) (k2 q))
theorem bX1_sayings_50 {d : Nat} {g : xSt} {r : Option Value × xSt} {a3 a4 : Int32} (k : xX (d + 1) mX1_sayings 55 [none, none, none, some (.int a3), some (.int a4)] [.int 1] g = some r) : xX (d + 1) mX1_sayings 50 [none, none, none, some (.int a3), some (.int a4)] [] g = some r :=
  Y_iconst 1 dX1_sayings_50 ic_1 <| Y_goto 55 dX1_sayings_51 rfl <| X_le (xle_n (xle_n (xle_n (xle_s (xle_s xle_0))))) k
theorem bX1_sayings_54 {d : Nat} {g : xSt} {r : Option Value × xSt} {a3 a4 : Int32} (k : xX (d + 1) mX1_sayings 55 [none, none, none, some (.int a3), some (.int a4)] [.int 0] g = some r) : xX (d + 1) mX1_sayings 54 [none, none, none, some (.int a3), some (.int a4)] [] g = some r :=
  Y_iconst 0 dX1_sayings_54 ic_0 <| X_le (xle_n (xle_n (xle_n (xle_s (xle_s xle_0))))) k
theorem bX1_sayings_55 {d : Nat} {g : xSt} {r : Option Value × xSt} {a3 a4 s0 : Int32} (k1 : a3 ≤ 0 → xX (d + 1) mX1_sayings 63 [none, none, none, none, some (.int a4)] [.int s0] g = some r) (k2 : ¬ (a3 ≤ 0) → xX (d + 1) mX1_sayings 59 [none, none, none, none, some (.int a4)] [.int s0] g = some r) : xX (d + 1) mX1_sayings 55 [none, none, none, some (.int a3), some (.int a4)] [.int s0] g = some r :=
  Y_iload_n dX1_sayings_55 rfl <| Y_le0 63 dX1_sayings_56 rfl (fun q => X_le (xle_n (xle_n (xle_n (xle_n (xle_s xle_0))))) (k1 q)) (fun q => X_le (xle_n (xle_n (xle_n (xle_n (xle_s xle_0))))) (k2 q))
theorem bX1_sayings_59 {d : Nat} {g : xSt} {r : Option Value × xSt} {a4 s0 : Int32} (k : xX (d + 1) mX1_sayings 64 [none, none, none, none, some (.int a4)] [.int 2, .int s0] g = some r) : xX (d + 1) mX1_sayings 59 [none, none, none, none, some (.int a4)] [.int s0] g = some r :=
  Y_iconst 2 dX1_sayings_59 ic_2 <| Y_goto 64 dX1_sayings_60 rfl <| X_le (xle_n (xle_n (xle_n (xle_n (xle_s xle_0))))) k
theorem bX1_sayings_63 {d : Nat} {g : xSt} {r : Option Value × xSt} {a4 s0 : Int32} (k : xX (d + 1) mX1_sayings 64 [none, none, none, none, some (.int a4)] [.int 0, .int s0] g = some r) : xX (d + 1) mX1_sayings 63 [none, none, none, none, some (.int a4)] [.int s0] g = some r :=
  Y_iconst 0 dX1_sayings_63 ic_0 <| X_le (xle_n (xle_n (xle_n (xle_n (xle_s xle_0))))) k
theorem bX1_sayings_64 {d : Nat} {g : xSt} {r : Option Value × xSt} {a4 s1 s0 : Int32} (k1 : a4 ≤ 0 → xX (d + 1) mX1_sayings 74 [none, none, none, none, none] [.int (s1 + s0)] g = some r) (k2 : ¬ (a4 ≤ 0) → xX (d + 1) mX1_sayings 70 [none, none, none, none, none] [.int (s1 + s0)] g = some r) : xX (d + 1) mX1_sayings 64 [none, none, none, none, some (.int a4)] [.int s0, .int s1] g = some r :=
  Y_iadd dX1_sayings_64 <| Y_iload dX1_sayings_65 rfl <| Y_le0 74 dX1_sayings_67 rfl (fun q => X_le (xle_n (xle_n (xle_n (xle_n (xle_n xle_0))))) (k1 q)) (fun q => X_le (xle_n (xle_n (xle_n (xle_n (xle_n xle_0))))) (k2 q))
theorem bX1_sayings_70 {d : Nat} {g : xSt} {r : Option Value × xSt} {s0 : Int32} (k : xX (d + 1) mX1_sayings 75 [none, none, none, none, none] [.int 4, .int s0] g = some r) : xX (d + 1) mX1_sayings 70 [none, none, none, none, none] [.int s0] g = some r :=
  Y_iconst 4 dX1_sayings_70 ic_4 <| Y_goto 75 dX1_sayings_71 rfl <| X_le (xle_n (xle_n (xle_n (xle_n (xle_n xle_0))))) k
theorem bX1_sayings_74 {d : Nat} {g : xSt} {r : Option Value × xSt} {s0 : Int32} (k : xX (d + 1) mX1_sayings 75 [none, none, none, none, none] [.int 0, .int s0] g = some r) : xX (d + 1) mX1_sayings 74 [none, none, none, none, none] [.int s0] g = some r :=
  Y_iconst 0 dX1_sayings_74 ic_0 <| X_le (xle_n (xle_n (xle_n (xle_n (xle_n xle_0))))) k
theorem bX1_sayings_75 {d : Nat} {g : xSt} {r : Option Value × xSt} {s1 s0 : Int32} (k : r = (some (.int (s1 + s0)), g)) : xX (d + 1) mX1_sayings 75 [none, none, none, none, none] [.int s0, .int s1] g = some r :=
  Y_iadd dX1_sayings_75 <| Y_iret dX1_sayings_76 rfl k
theorem bX1_ask_0 {d : Nat} {g : xSt} {r : Option Value × xSt} {a1 a2 : Int32} (W : xWf g) (k : r = (none, xWI (xput (xput g 107 90 (xI g 98 13) a1) 108 90 (xI (xput g 107 90 (xI g 98 13) a1) 98 13) a2) 98 13 ((xI (xput (xput g 107 90 (xI g 98 13) a1) 108 90 (xI (xput g 107 90 (xI g 98 13) a1) 98 13) a2) 98 13) + 1))) : xX (d + 1) mX1_ask 0 [some (.ref 98), some (.int a1), some (.int a2)] [] g = some r :=
  Y_aload_n dX1_ask_0 rfl <| Y_getR dX1_ask_1 f_1_42 (by rw [ft_1_14]; rfl) (xis W 98 1 s_98 (Nat.le_of_ble_eq_true rfl)) (xptr W 98 14 p_98_14) <| Y_aload_n dX1_ask_4 rfl <| Y_getI dX1_ask_5 f_1_100 ft_1_13 (xis W 98 1 s_98 (Nat.le_of_ble_eq_true rfl)) <| Y_iload_n dX1_ask_8 rfl <| Y_callS0 dX1_ask_9 cl_1_93 rfl rfl rfl rfl rfl (c_put (xarr W (o := 107) s_107 (Nat.le_of_ble_eq_true rfl))) <| Y_aload_n dX1_ask_12 rfl <| Y_getR dX1_ask_13 f_1_45 (by rw [ft_1_15]; rfl) (xis (xWf_put W) 98 1 s_98 (Nat.le_of_ble_eq_true rfl)) (xptr (xWf_put W) 98 15 p_98_15) <| Y_aload_n dX1_ask_16 rfl <| Y_getI dX1_ask_17 f_1_100 ft_1_13 (xis (xWf_put W) 98 1 s_98 (Nat.le_of_ble_eq_true rfl)) <| Y_iload_n dX1_ask_20 rfl <| Y_callS0 dX1_ask_21 cl_1_93 rfl rfl rfl rfl rfl (c_put (xarr (xWf_put W) (o := 108) s_108 (Nat.le_of_ble_eq_true rfl))) <| Y_aload_n dX1_ask_24 rfl <| Y_dup dX1_ask_25 rfl <| Y_getI dX1_ask_26 f_1_100 ft_1_13 (xis (xWf_put (xWf_put W)) 98 1 s_98 (Nat.le_of_ble_eq_true rfl)) <| Y_iconst 1 dX1_ask_29 ic_1 <| Y_iadd dX1_ask_30 <| Y_putI dX1_ask_31 f_1_100 fn_1_13 ft_1_13 (xis (xWf_put (xWf_put W)) 98 1 s_98 (Nat.le_of_ble_eq_true rfl)) <| Y_ret dX1_ask_34 rfl k
theorem bX1_bestHeaps_0 {d : Nat} {g : xSt} {r : Option Value × xSt} {a1 : Int32} (W : xWf g) (k1 : (xI g 98 12) = 2 → xX (d + 1) mX1_bestHeaps 21 [some (.ref 98), some (.int a1), none, none, none, none, none, none] [] g = some r) (k2 : ¬ ((xI g 98 12) = 2) → xX (d + 1) mX1_bestHeaps 8 [some (.ref 98), some (.int a1), none, none, none, none, none, none] [] g = some r) : xX (d + 1) mX1_bestHeaps 0 [some (.ref 98), some (.int a1), none, none, none, none, none, none] [] g = some r :=
  Y_aload_n dX1_bestHeaps_0 rfl <| Y_getI dX1_bestHeaps_1 f_1_38 ft_1_12 (xis W 98 1 s_98 (Nat.le_of_ble_eq_true rfl)) <| Y_iconst 2 dX1_bestHeaps_4 ic_2 <| Y_eq 21 dX1_bestHeaps_5 rfl (fun q => X_le (xle_s (xle_s (xle_n (xle_n (xle_n (xle_n (xle_n (xle_n xle_0)))))))) (k1 q)) (fun q => X_le (xle_s (xle_s (xle_n (xle_n (xle_n (xle_n (xle_n (xle_n xle_0)))))))) (k2 q))
theorem bX1_bestHeaps_8 {d : Nat} {g : xSt} {r : Option Value × xSt} {a1 : Int32} {g9 g13 : xSt} (W : xWf g) (hk9 : xCallM d mX1_askAll [.ref 98] g = some (none, g9)) (W9 : xWf g9) (hk13 : xCallM d mX1_guess [.ref 98] g9 = some (none, g13)) (W13 : xWf g13) (k : xX (d + 1) mX1_bestHeaps 21 [some (.ref 98), some (.int a1), none, none, none, none, none, none] [] (xWI g13 98 12 2) = some r) : xX (d + 1) mX1_bestHeaps 8 [some (.ref 98), some (.int a1), none, none, none, none, none, none] [] g = some r :=
  Y_aload_n dX1_bestHeaps_8 rfl <| Y_callV0 dX1_bestHeaps_9 cl_1_113 rfl rfl (xis W 98 1 s_98 (Nat.le_of_ble_eq_true rfl)) rfl rfl rfl (hk9) <| Y_aload_n dX1_bestHeaps_12 rfl <| Y_callV0 dX1_bestHeaps_13 cl_1_103 rfl rfl (xis W9 98 1 s_98 (Nat.le_of_ble_eq_true rfl)) rfl rfl rfl (hk13) <| Y_aload_n dX1_bestHeaps_16 rfl <| Y_iconst 2 dX1_bestHeaps_17 ic_2 <| Y_putI dX1_bestHeaps_18 f_1_38 fn_1_12 ft_1_12 (xis W13 98 1 s_98 (Nat.le_of_ble_eq_true rfl)) <| X_le (xle_s (xle_s (xle_n (xle_n (xle_n (xle_n (xle_n (xle_n xle_0)))))))) k
theorem bX1_bestHeaps_21 {d : Nat} {g : xSt} {r : Option Value × xSt} {a1 : Int32} (k : xX (d + 1) mX1_bestHeaps 28 [some (.ref 98), some (.int a1), some (.int (-1)), some (.int 0), some (.int 0), none, none, none] [] g = some r) : xX (d + 1) mX1_bestHeaps 21 [some (.ref 98), some (.int a1), none, none, none, none, none, none] [] g = some r :=
  Y_iconst (-1) dX1_bestHeaps_21 ic_m1 <| Y_istore_n dX1_bestHeaps_22 rfl rfl <| Y_iconst 0 dX1_bestHeaps_23 ic_0 <| Y_istore_n dX1_bestHeaps_24 rfl rfl <| Y_iconst 0 dX1_bestHeaps_25 ic_0 <| Y_istore dX1_bestHeaps_26 rfl rfl <| X_le (xle_s (xle_s (xle_s (xle_s (xle_s (xle_n (xle_n (xle_n xle_0)))))))) k
theorem bX1_bestHeaps_28 {d : Nat} {g : xSt} {r : Option Value × xSt} {a1 a2 a3 a4 : Int32} (W : xWf g) (k1 : (xI g 98 13) ≤ a4 → xX (d + 1) mX1_bestHeaps 111 [some (.ref 98), some (.int a1), some (.int a2), some (.int a3), none, none, none, none] [] g = some r) (k2 : ¬ ((xI g 98 13) ≤ a4) → xX (d + 1) mX1_bestHeaps 37 [some (.ref 98), some (.int a1), some (.int a2), some (.int a3), some (.int a4), none, none, none] [] g = some r) : xX (d + 1) mX1_bestHeaps 28 [some (.ref 98), some (.int a1), some (.int a2), some (.int a3), some (.int a4), none, none, none] [] g = some r :=
  Y_iload dX1_bestHeaps_28 rfl <| Y_aload_n dX1_bestHeaps_30 rfl <| Y_getI dX1_bestHeaps_31 f_1_100 ft_1_13 (xis W 98 1 s_98 (Nat.le_of_ble_eq_true rfl)) <| Y_ge 111 dX1_bestHeaps_34 rfl (fun q => X_le (xle_s (xle_s (xle_s (xle_s (xle_n (xle_n (xle_n (xle_n xle_0)))))))) (k1 q)) (fun q => X_le (xle_s (xle_s (xle_s (xle_s (xle_s (xle_n (xle_n (xle_n xle_0)))))))) (k2 q))
theorem bX1_bestHeaps_37 {d : Nat} {g : xSt} {r : Option Value × xSt} {a1 a2 a3 a4 : Int32} (W : xWf g) (k1 : (xI g 98 11) ≤ 0 → xX (d + 1) mX1_bestHeaps 111 [some (.ref 98), some (.int a1), some (.int a2), some (.int a3), none, none, none, none] [] g = some r) (k2 : ¬ ((xI g 98 11) ≤ 0) → xX (d + 1) mX1_bestHeaps 44 [some (.ref 98), some (.int a1), some (.int a2), some (.int a3), some (.int a4), none, none, none] [] g = some r) : xX (d + 1) mX1_bestHeaps 37 [some (.ref 98), some (.int a1), some (.int a2), some (.int a3), some (.int a4), none, none, none] [] g = some r :=
  Y_aload_n dX1_bestHeaps_37 rfl <| Y_getI dX1_bestHeaps_38 f_1_110 ft_1_11 (xis W 98 1 s_98 (Nat.le_of_ble_eq_true rfl)) <| Y_le0 111 dX1_bestHeaps_41 rfl (fun q => X_le (xle_s (xle_s (xle_s (xle_s (xle_n (xle_n (xle_n (xle_n xle_0)))))))) (k1 q)) (fun q => X_le (xle_s (xle_s (xle_s (xle_s (xle_s (xle_n (xle_n (xle_n xle_0)))))))) (k2 q))
theorem bX1_bestHeaps_44 {d : Nat} {g : xSt} {r : Option Value × xSt} {a1 a2 a3 a4 : Int32} (W : xWf g) (k1 : a2 = (-1) → xX (d + 1) mX1_bestHeaps 99 [some (.ref 98), some (.int a1), none, none, some (.int a4), none, none, some (.int (imax (imax (xat (xI g 109) 90 a4) (xat (xI g 110) 90 a4)) (((xI g 98 11) - (xat (xI g 109) 90 a4)) - (xat (xI g 110) 90 a4))))] [] g = some r) (k2 : ¬ (a2 = (-1)) → xX (d + 1) mX1_bestHeaps 93 [some (.ref 98), some (.int a1), some (.int a2), some (.int a3), some (.int a4), none, none, some (.int (imax (imax (xat (xI g 109) 90 a4) (xat (xI g 110) 90 a4)) (((xI g 98 11) - (xat (xI g 109) 90 a4)) - (xat (xI g 110) 90 a4))))] [] g = some r) : xX (d + 1) mX1_bestHeaps 44 [some (.ref 98), some (.int a1), some (.int a2), some (.int a3), some (.int a4), none, none, none] [] g = some r :=
  Y_aload_n dX1_bestHeaps_44 rfl <| Y_getR dX1_bestHeaps_45 f_1_48 (by rw [ft_1_16]; rfl) (xis W 98 1 s_98 (Nat.le_of_ble_eq_true rfl)) (xptr W 98 16 p_98_16) <| Y_iload dX1_bestHeaps_48 rfl <| Y_callS1 dX1_bestHeaps_50 cl_1_70 rfl rfl rfl rfl rfl (c_at (xarr W (o := 109) s_109 (Nat.le_of_ble_eq_true rfl))) <| Y_istore dX1_bestHeaps_53 rfl rfl <| Y_aload_n dX1_bestHeaps_55 rfl <| Y_getR dX1_bestHeaps_56 f_1_51 (by rw [ft_1_17]; rfl) (xis W 98 1 s_98 (Nat.le_of_ble_eq_true rfl)) (xptr W 98 17 p_98_17) <| Y_iload dX1_bestHeaps_59 rfl <| Y_callS1 dX1_bestHeaps_61 cl_1_70 rfl rfl rfl rfl rfl (c_at (xarr W (o := 110) s_110 (Nat.le_of_ble_eq_true rfl))) <| Y_istore dX1_bestHeaps_64 rfl rfl <| Y_iload dX1_bestHeaps_66 rfl <| Y_iload dX1_bestHeaps_68 rfl <| Y_max dX1_bestHeaps_70 km_1_116 kn_1_116 rfl <| Y_aload_n dX1_bestHeaps_73 rfl <| Y_getI dX1_bestHeaps_74 f_1_110 ft_1_11 (xis W 98 1 s_98 (Nat.le_of_ble_eq_true rfl)) <| Y_iload dX1_bestHeaps_77 rfl <| Y_isub dX1_bestHeaps_79 <| Y_iload dX1_bestHeaps_80 rfl <| Y_isub dX1_bestHeaps_82 <| Y_max dX1_bestHeaps_83 km_1_116 kn_1_116 rfl <| Y_istore dX1_bestHeaps_86 rfl rfl <| Y_iload_n dX1_bestHeaps_88 rfl <| Y_iconst (-1) dX1_bestHeaps_89 ic_m1 <| Y_eq 99 dX1_bestHeaps_90 rfl (fun q => X_le (xle_s (xle_s (xle_n (xle_n (xle_s (xle_n (xle_n (xle_s xle_0)))))))) (k1 q)) (fun q => X_le (xle_s (xle_s (xle_s (xle_s (xle_s (xle_n (xle_n (xle_s xle_0)))))))) (k2 q))
theorem bX1_bestHeaps_93 {d : Nat} {g : xSt} {r : Option Value × xSt} {a1 a2 a3 a4 a7 : Int32} (k1 : a3 ≤ a7 → xX (d + 1) mX1_bestHeaps 105 [some (.ref 98), some (.int a1), some (.int a2), some (.int a3), some (.int a4), none, none, none] [] g = some r) (k2 : ¬ (a3 ≤ a7) → xX (d + 1) mX1_bestHeaps 99 [some (.ref 98), some (.int a1), none, none, some (.int a4), none, none, some (.int a7)] [] g = some r) : xX (d + 1) mX1_bestHeaps 93 [some (.ref 98), some (.int a1), some (.int a2), some (.int a3), some (.int a4), none, none, some (.int a7)] [] g = some r :=
  Y_iload dX1_bestHeaps_93 rfl <| Y_iload_n dX1_bestHeaps_95 rfl <| Y_ge 105 dX1_bestHeaps_96 rfl (fun q => X_le (xle_s (xle_s (xle_s (xle_s (xle_s (xle_n (xle_n (xle_n xle_0)))))))) (k1 q)) (fun q => X_le (xle_s (xle_s (xle_n (xle_n (xle_s (xle_n (xle_n (xle_s xle_0)))))))) (k2 q))
theorem bX1_bestHeaps_99 {d : Nat} {g : xSt} {r : Option Value × xSt} {a1 a4 a7 : Int32} (k : xX (d + 1) mX1_bestHeaps 105 [some (.ref 98), some (.int a1), some (.int a4), some (.int a7), some (.int a4), none, none, none] [] g = some r) : xX (d + 1) mX1_bestHeaps 99 [some (.ref 98), some (.int a1), none, none, some (.int a4), none, none, some (.int a7)] [] g = some r :=
  Y_iload dX1_bestHeaps_99 rfl <| Y_istore_n dX1_bestHeaps_101 rfl rfl <| Y_iload dX1_bestHeaps_102 rfl <| Y_istore_n dX1_bestHeaps_104 rfl rfl <| X_le (xle_s (xle_s (xle_s (xle_s (xle_s (xle_n (xle_n (xle_n xle_0)))))))) k
theorem bX1_bestHeaps_105 {d : Nat} {g : xSt} {r : Option Value × xSt} {a1 a2 a3 a4 : Int32} (k : xX (d + 1) mX1_bestHeaps 28 [some (.ref 98), some (.int a1), some (.int a2), some (.int a3), some (.int (a4 + 1)), none, none, none] [] g = some r) : xX (d + 1) mX1_bestHeaps 105 [some (.ref 98), some (.int a1), some (.int a2), some (.int a3), some (.int a4), none, none, none] [] g = some r :=
  Y_iinc 1 dX1_bestHeaps_105 rfl ic_1 rfl rfl <| Y_goto 28 dX1_bestHeaps_108 rfl <| X_le (xle_s (xle_s (xle_s (xle_s (xle_s (xle_n (xle_n (xle_n xle_0)))))))) k
theorem bX1_bestHeaps_111 {d : Nat} {g : xSt} {r : Option Value × xSt} {a1 a2 a3 : Int32} (k1 : a2 = (-1) → xX (d + 1) mX1_bestHeaps 116 [none, none, none, none, none, none, none, none] [] g = some r) (k2 : ¬ (a2 = (-1)) → xX (d + 1) mX1_bestHeaps 118 [some (.ref 98), some (.int a1), some (.int a2), some (.int a3), none, none, none, none] [] g = some r) : xX (d + 1) mX1_bestHeaps 111 [some (.ref 98), some (.int a1), some (.int a2), some (.int a3), none, none, none, none] [] g = some r :=
  Y_iload_n dX1_bestHeaps_111 rfl <| Y_iconst (-1) dX1_bestHeaps_112 ic_m1 <| Y_ne 118 dX1_bestHeaps_113 rfl (fun q => X_le (xle_n (xle_n (xle_n (xle_n (xle_n (xle_n (xle_n (xle_n xle_0)))))))) (k1 q)) (fun q => X_le (xle_s (xle_s (xle_s (xle_s (xle_n (xle_n (xle_n (xle_n xle_0)))))))) (k2 q))
theorem bX1_bestHeaps_116 {d : Nat} {g : xSt} {r : Option Value × xSt}  (k : r = (some (.int (-1)), g)) : xX (d + 1) mX1_bestHeaps 116 [none, none, none, none, none, none, none, none] [] g = some r :=
  Y_iconst (-1) dX1_bestHeaps_116 ic_m1 <| Y_iret dX1_bestHeaps_117 rfl k
theorem bX1_bestHeaps_118 {d : Nat} {g : xSt} {r : Option Value × xSt} {a1 a2 a3 : Int32} (k1 : a1 = 0 → xX (d + 1) mX1_bestHeaps 122 [some (.ref 98), none, some (.int a2), none, none, none, none, none] [] g = some r) (k2 : ¬ (a1 = 0) → xX (d + 1) mX1_bestHeaps 133 [some (.ref 98), some (.int a1), some (.int a2), some (.int a3), none, none, none, none] [] g = some r) : xX (d + 1) mX1_bestHeaps 118 [some (.ref 98), some (.int a1), some (.int a2), some (.int a3), none, none, none, none] [] g = some r :=
  Y_iload_n dX1_bestHeaps_118 rfl <| Y_ne0 133 dX1_bestHeaps_119 rfl (fun q => X_le (xle_s (xle_n (xle_s (xle_n (xle_n (xle_n (xle_n (xle_n xle_0)))))))) (k1 q)) (fun q => X_le (xle_s (xle_s (xle_s (xle_s (xle_n (xle_n (xle_n (xle_n xle_0)))))))) (k2 q))
theorem bX1_bestHeaps_122 {d : Nat} {g : xSt} {r : Option Value × xSt} {a2 : Int32} (W : xWf g) (k : xX (d + 1) mX1_bestHeaps 150 [none, none, none, none, none, none, none, none] [.int (xat (xI g 107) 90 a2)] g = some r) : xX (d + 1) mX1_bestHeaps 122 [some (.ref 98), none, some (.int a2), none, none, none, none, none] [] g = some r :=
  Y_aload_n dX1_bestHeaps_122 rfl <| Y_getR dX1_bestHeaps_123 f_1_42 (by rw [ft_1_14]; rfl) (xis W 98 1 s_98 (Nat.le_of_ble_eq_true rfl)) (xptr W 98 14 p_98_14) <| Y_iload_n dX1_bestHeaps_126 rfl <| Y_callS1 dX1_bestHeaps_127 cl_1_70 rfl rfl rfl rfl rfl (c_at (xarr W (o := 107) s_107 (Nat.le_of_ble_eq_true rfl))) <| Y_goto 150 dX1_bestHeaps_130 rfl <| X_le (xle_n (xle_n (xle_n (xle_n (xle_n (xle_n (xle_n (xle_n xle_0)))))))) k
theorem bX1_bestHeaps_133 {d : Nat} {g : xSt} {r : Option Value × xSt} {a1 a2 a3 : Int32} (k1 : a1 = 1 → xX (d + 1) mX1_bestHeaps 138 [some (.ref 98), none, some (.int a2), none, none, none, none, none] [] g = some r) (k2 : ¬ (a1 = 1) → xX (d + 1) mX1_bestHeaps 149 [none, none, none, some (.int a3), none, none, none, none] [] g = some r) : xX (d + 1) mX1_bestHeaps 133 [some (.ref 98), some (.int a1), some (.int a2), some (.int a3), none, none, none, none] [] g = some r :=
  Y_iload_n dX1_bestHeaps_133 rfl <| Y_iconst 1 dX1_bestHeaps_134 ic_1 <| Y_ne 149 dX1_bestHeaps_135 rfl (fun q => X_le (xle_s (xle_n (xle_s (xle_n (xle_n (xle_n (xle_n (xle_n xle_0)))))))) (k1 q)) (fun q => X_le (xle_n (xle_n (xle_n (xle_s (xle_n (xle_n (xle_n (xle_n xle_0)))))))) (k2 q))
theorem bX1_bestHeaps_138 {d : Nat} {g : xSt} {r : Option Value × xSt} {a2 : Int32} (W : xWf g) (k : xX (d + 1) mX1_bestHeaps 150 [none, none, none, none, none, none, none, none] [.int (xat (xI g 108) 90 a2)] g = some r) : xX (d + 1) mX1_bestHeaps 138 [some (.ref 98), none, some (.int a2), none, none, none, none, none] [] g = some r :=
  Y_aload_n dX1_bestHeaps_138 rfl <| Y_getR dX1_bestHeaps_139 f_1_45 (by rw [ft_1_15]; rfl) (xis W 98 1 s_98 (Nat.le_of_ble_eq_true rfl)) (xptr W 98 15 p_98_15) <| Y_iload_n dX1_bestHeaps_142 rfl <| Y_callS1 dX1_bestHeaps_143 cl_1_70 rfl rfl rfl rfl rfl (c_at (xarr W (o := 108) s_108 (Nat.le_of_ble_eq_true rfl))) <| Y_goto 150 dX1_bestHeaps_146 rfl <| X_le (xle_n (xle_n (xle_n (xle_n (xle_n (xle_n (xle_n (xle_n xle_0)))))))) k
theorem bX1_bestHeaps_149 {d : Nat} {g : xSt} {r : Option Value × xSt} {a3 : Int32} (k : xX (d + 1) mX1_bestHeaps 150 [none, none, none, none, none, none, none, none] [.int a3] g = some r) : xX (d + 1) mX1_bestHeaps 149 [none, none, none, some (.int a3), none, none, none, none] [] g = some r :=
  Y_iload_n dX1_bestHeaps_149 rfl <| X_le (xle_n (xle_n (xle_n (xle_n (xle_n (xle_n (xle_n (xle_n xle_0)))))))) k
theorem bX1_bestHeaps_150 {d : Nat} {g : xSt} {r : Option Value × xSt} {s0 : Int32} (k : r = (some (.int s0), g)) : xX (d + 1) mX1_bestHeaps 150 [none, none, none, none, none, none, none, none] [.int s0] g = some r :=
  Y_iret dX1_bestHeaps_150 rfl k
theorem bX1_askAll_0 {d : Nat} {g : xSt} {r : Option Value × xSt}  (W : xWf g) (k : xX (d + 1) mX1_askAll 7 [some (.ref 98), some (.int 1), none] [] (xWI g 98 13 0) = some r) : xX (d + 1) mX1_askAll 0 [some (.ref 98), none, none] [] g = some r :=
  Y_aload_n dX1_askAll_0 rfl <| Y_iconst 0 dX1_askAll_1 ic_0 <| Y_putI dX1_askAll_2 f_1_100 fn_1_13 ft_1_13 (xis W 98 1 s_98 (Nat.le_of_ble_eq_true rfl)) <| Y_iconst 1 dX1_askAll_5 ic_1 <| Y_istore_n dX1_askAll_6 rfl rfl <| X_le (xle_s (xle_s (xle_n xle_0))) k
theorem bX1_askAll_7 {d : Nat} {g : xSt} {r : Option Value × xSt} {a1 : Int32} (W : xWf g) (k1 : (1 <<< ((xI g 98 0) &&& 31)) ≤ a1 → xX (d + 1) mX1_askAll 55 [none, none, none] [] g = some r) (k2 : ¬ ((1 <<< ((xI g 98 0) &&& 31)) ≤ a1) → xX (d + 1) mX1_askAll 17 [some (.ref 98), some (.int a1), none] [] g = some r) : xX (d + 1) mX1_askAll 7 [some (.ref 98), some (.int a1), none] [] g = some r :=
  Y_iload_n dX1_askAll_7 rfl <| Y_iconst 1 dX1_askAll_8 ic_1 <| Y_aload_n dX1_askAll_9 rfl <| Y_getI dX1_askAll_10 f_1_54 ft_1_0 (xis W 98 1 s_98 (Nat.le_of_ble_eq_true rfl)) <| Y_ishl dX1_askAll_13 <| Y_ge 55 dX1_askAll_14 rfl (fun q => X_le (xle_n (xle_n (xle_n xle_0))) (k1 q)) (fun q => X_le (xle_s (xle_s (xle_n xle_0))) (k2 q))
theorem bX1_askAll_17 {d : Nat} {g : xSt} {r : Option Value × xSt} {a1 : Int32} (k : xX (d + 1) mX1_askAll 21 [some (.ref 98), some (.int a1), some (.int (a1 + 1))] [] g = some r) : xX (d + 1) mX1_askAll 17 [some (.ref 98), some (.int a1), none] [] g = some r :=
  Y_iload_n dX1_askAll_17 rfl <| Y_iconst 1 dX1_askAll_18 ic_1 <| Y_iadd dX1_askAll_19 <| Y_istore_n dX1_askAll_20 rfl rfl <| X_le (xle_s (xle_s (xle_s xle_0))) k
theorem bX1_askAll_21 {d : Nat} {g : xSt} {r : Option Value × xSt} {a1 a2 : Int32} (W : xWf g) (k1 : (1 <<< ((xI g 98 0) &&& 31)) ≤ a2 → xX (d + 1) mX1_askAll 49 [some (.ref 98), some (.int a1), none] [] g = some r) (k2 : ¬ ((1 <<< ((xI g 98 0) &&& 31)) ≤ a2) → xX (d + 1) mX1_askAll 31 [some (.ref 98), some (.int a1), some (.int a2)] [] g = some r) : xX (d + 1) mX1_askAll 21 [some (.ref 98), some (.int a1), some (.int a2)] [] g = some r :=
  Y_iload_n dX1_askAll_21 rfl <| Y_iconst 1 dX1_askAll_22 ic_1 <| Y_aload_n dX1_askAll_23 rfl <| Y_getI dX1_askAll_24 f_1_54 ft_1_0 (xis W 98 1 s_98 (Nat.le_of_ble_eq_true rfl)) <| Y_ishl dX1_askAll_27 <| Y_ge 49 dX1_askAll_28 rfl (fun q => X_le (xle_s (xle_s (xle_n xle_0))) (k1 q)) (fun q => X_le (xle_s (xle_s (xle_s xle_0))) (k2 q))
theorem bX1_askAll_31 {d : Nat} {g : xSt} {r : Option Value × xSt} {a1 a2 : Int32} (k1 : (a1 &&& a2) = 0 → xX (d + 1) mX1_askAll 37 [some (.ref 98), some (.int a1), some (.int a2)] [] g = some r) (k2 : ¬ ((a1 &&& a2) = 0) → xX (d + 1) mX1_askAll 43 [some (.ref 98), some (.int a1), some (.int a2)] [] g = some r) : xX (d + 1) mX1_askAll 31 [some (.ref 98), some (.int a1), some (.int a2)] [] g = some r :=
  Y_iload_n dX1_askAll_31 rfl <| Y_iload_n dX1_askAll_32 rfl <| Y_iand dX1_askAll_33 <| Y_ne0 43 dX1_askAll_34 rfl (fun q => X_le (xle_s (xle_s (xle_s xle_0))) (k1 q)) (fun q => X_le (xle_s (xle_s (xle_s xle_0))) (k2 q))
theorem bX1_askAll_37 {d : Nat} {g : xSt} {r : Option Value × xSt} {a1 a2 : Int32} {g40 : xSt} (W : xWf g) (hk40 : xCallM d mX1_ask [.ref 98, .int a1, .int a2] g = some (none, g40)) (W40 : xWf g40) (k : xX (d + 1) mX1_askAll 43 [some (.ref 98), some (.int a1), some (.int a2)] [] g40 = some r) : xX (d + 1) mX1_askAll 37 [some (.ref 98), some (.int a1), some (.int a2)] [] g = some r :=
  Y_aload_n dX1_askAll_37 rfl <| Y_iload_n dX1_askAll_38 rfl <| Y_iload_n dX1_askAll_39 rfl <| Y_callV0 dX1_askAll_40 cl_1_106 rfl rfl (xis W 98 1 s_98 (Nat.le_of_ble_eq_true rfl)) rfl rfl rfl (hk40) <| X_le (xle_s (xle_s (xle_s xle_0))) k
theorem bX1_askAll_43 {d : Nat} {g : xSt} {r : Option Value × xSt} {a1 a2 : Int32} (k : xX (d + 1) mX1_askAll 21 [some (.ref 98), some (.int a1), some (.int (a2 + 1))] [] g = some r) : xX (d + 1) mX1_askAll 43 [some (.ref 98), some (.int a1), some (.int a2)] [] g = some r :=
  Y_iinc 1 dX1_askAll_43 rfl ic_1 rfl rfl <| Y_goto 21 dX1_askAll_46 rfl <| X_le (xle_s (xle_s (xle_s xle_0))) k
theorem bX1_askAll_49 {d : Nat} {g : xSt} {r : Option Value × xSt} {a1 : Int32} (k : xX (d + 1) mX1_askAll 7 [some (.ref 98), some (.int (a1 + 1)), none] [] g = some r) : xX (d + 1) mX1_askAll 49 [some (.ref 98), some (.int a1), none] [] g = some r :=
  Y_iinc 1 dX1_askAll_49 rfl ic_1 rfl rfl <| Y_goto 7 dX1_askAll_52 rfl <| X_le (xle_s (xle_s (xle_n xle_0))) k
theorem bX1_askAll_55 {d : Nat} {g : xSt} {r : Option Value × xSt}  (k : r = (none, g)) : xX (d + 1) mX1_askAll 55 [none, none, none] [] g = some r :=
  Y_ret dX1_askAll_55 rfl k
