/-! stretches of HeavierRow$Search, by program (wip/whole/genall.py) -/
theorem dX8_sumBehind_0 : decode mX8_sumBehind.2.1 0 = .ok (.iload 6, 2) := by decide +kernel
theorem dX8_sumBehind_2 : decode mX8_sumBehind.2.1 2 = .ok (.iconst 1, 1) := by decide +kernel
theorem dX8_sumBehind_3 : decode mX8_sumBehind.2.1 3 = .ok (.iload_n 1, 1) := by decide +kernel
theorem dX8_sumBehind_4 : decode mX8_sumBehind.2.1 4 = .ok (.ishl, 1) := by decide +kernel
theorem dX8_sumBehind_5 : decode mX8_sumBehind.2.1 5 = .ok (.ior, 1) := by decide +kernel
theorem dX8_sumBehind_6 : decode mX8_sumBehind.2.1 6 = .ok (.istore 9, 2) := by decide +kernel
theorem dX8_sumBehind_8 : decode mX8_sumBehind.2.1 8 = .ok (.aload_n 0, 1) := by decide +kernel
theorem dX8_sumBehind_9 : decode mX8_sumBehind.2.1 9 = .ok (.iload 9, 2) := by decide +kernel
theorem dX8_sumBehind_11 : decode mX8_sumBehind.2.1 11 = .ok (.invokevirtual 175, 3) := by decide +kernel
theorem dX8_sumBehind_14 : decode mX8_sumBehind.2.1 14 = .ok (.istore 10, 2) := by decide +kernel
theorem dX8_sumBehind_16 : decode mX8_sumBehind.2.1 16 = .ok (.lload_n 2, 1) := by decide +kernel
theorem dX8_sumBehind_17 : decode mX8_sumBehind.2.1 17 = .ok (.invokestatic 191, 3) := by decide +kernel
theorem dX8_sumBehind_20 : decode mX8_sumBehind.2.1 20 = .ok (.lload 4, 2) := by decide +kernel
theorem dX8_sumBehind_22 : decode mX8_sumBehind.2.1 22 = .ok (.invokestatic 191, 3) := by decide +kernel
theorem dX8_sumBehind_25 : decode mX8_sumBehind.2.1 25 = .ok (.iadd, 1) := by decide +kernel
theorem dX8_sumBehind_26 : decode mX8_sumBehind.2.1 26 = .ok (.istore 11, 2) := by decide +kernel
theorem dX8_sumBehind_28 : decode mX8_sumBehind.2.1 28 = .ok (.iload_n 1, 1) := by decide +kernel
theorem dX8_sumBehind_29 : decode mX8_sumBehind.2.1 29 = .ok (.istore 12, 2) := by decide +kernel
theorem dX8_sumBehind_31 : decode mX8_sumBehind.2.1 31 = .ok (.iload 12, 2) := by decide +kernel
theorem dX8_sumBehind_33 : decode mX8_sumBehind.2.1 33 = .ok (.bipush 30, 2) := by decide +kernel
theorem dX8_sumBehind_35 : decode mX8_sumBehind.2.1 35 = .ok (.if_icmp .ge 75, 3) := by decide +kernel
theorem dX8_sumBehind_38 : decode mX8_sumBehind.2.1 38 = .ok (.lload_n 2, 1) := by decide +kernel
theorem dX8_sumBehind_39 : decode mX8_sumBehind.2.1 39 = .ok (.aload_n 0, 1) := by decide +kernel
theorem dX8_sumBehind_40 : decode mX8_sumBehind.2.1 40 = .ok (.getfield 27, 3) := by decide +kernel
theorem dX8_sumBehind_43 : decode mX8_sumBehind.2.1 43 = .ok (.iconst 2, 1) := by decide +kernel
theorem dX8_sumBehind_44 : decode mX8_sumBehind.2.1 44 = .ok (.iload 12, 2) := by decide +kernel
theorem dX8_sumBehind_46 : decode mX8_sumBehind.2.1 46 = .ok (.imul, 1) := by decide +kernel
theorem dX8_sumBehind_47 : decode mX8_sumBehind.2.1 47 = .ok (.invokestatic 117, 3) := by decide +kernel
theorem dX8_sumBehind_50 : decode mX8_sumBehind.2.1 50 = .ok (.land, 1) := by decide +kernel
theorem dX8_sumBehind_51 : decode mX8_sumBehind.2.1 51 = .ok (.lstore 13, 2) := by decide +kernel
theorem dX8_sumBehind_53 : decode mX8_sumBehind.2.1 53 = .ok (.lload 4, 2) := by decide +kernel
theorem dX8_sumBehind_55 : decode mX8_sumBehind.2.1 55 = .ok (.aload_n 0, 1) := by decide +kernel
theorem dX8_sumBehind_56 : decode mX8_sumBehind.2.1 56 = .ok (.getfield 27, 3) := by decide +kernel
theorem dX8_sumBehind_59 : decode mX8_sumBehind.2.1 59 = .ok (.iconst 2, 1) := by decide +kernel
theorem dX8_sumBehind_60 : decode mX8_sumBehind.2.1 60 = .ok (.iload 12, 2) := by decide +kernel
theorem dX8_sumBehind_62 : decode mX8_sumBehind.2.1 62 = .ok (.imul, 1) := by decide +kernel
theorem dX8_sumBehind_63 : decode mX8_sumBehind.2.1 63 = .ok (.iconst 1, 1) := by decide +kernel
theorem dX8_sumBehind_64 : decode mX8_sumBehind.2.1 64 = .ok (.iadd, 1) := by decide +kernel
theorem dX8_sumBehind_65 : decode mX8_sumBehind.2.1 65 = .ok (.invokestatic 117, 3) := by decide +kernel
theorem dX8_sumBehind_68 : decode mX8_sumBehind.2.1 68 = .ok (.land, 1) := by decide +kernel
theorem dX8_sumBehind_69 : decode mX8_sumBehind.2.1 69 = .ok (.lstore 15, 2) := by decide +kernel
theorem dX8_sumBehind_71 : decode mX8_sumBehind.2.1 71 = .ok (.lload 13, 2) := by decide +kernel
theorem dX8_sumBehind_73 : decode mX8_sumBehind.2.1 73 = .ok (.lload_n 2, 1) := by decide +kernel
theorem dX8_sumBehind_74 : decode mX8_sumBehind.2.1 74 = .ok (.lcmp, 1) := by decide +kernel
theorem dX8_sumBehind_75 : decode mX8_sumBehind.2.1 75 = .ok (.ifCond .ne 14, 3) := by decide +kernel
theorem dX8_sumBehind_78 : decode mX8_sumBehind.2.1 78 = .ok (.lload 15, 2) := by decide +kernel
theorem dX8_sumBehind_80 : decode mX8_sumBehind.2.1 80 = .ok (.lload 4, 2) := by decide +kernel
theorem dX8_sumBehind_82 : decode mX8_sumBehind.2.1 82 = .ok (.lcmp, 1) := by decide +kernel
theorem dX8_sumBehind_83 : decode mX8_sumBehind.2.1 83 = .ok (.ifCond .ne 6, 3) := by decide +kernel
theorem dX8_sumBehind_86 : decode mX8_sumBehind.2.1 86 = .ok (.ldc 150, 2) := by decide +kernel
theorem dX8_sumBehind_88 : decode mX8_sumBehind.2.1 88 = .ok (.ireturn, 1) := by decide +kernel
theorem dX8_sumBehind_89 : decode mX8_sumBehind.2.1 89 = .ok (.iload 11, 2) := by decide +kernel
theorem dX8_sumBehind_91 : decode mX8_sumBehind.2.1 91 = .ok (.aload_n 0, 1) := by decide +kernel
theorem dX8_sumBehind_92 : decode mX8_sumBehind.2.1 92 = .ok (.lload 13, 2) := by decide +kernel
theorem dX8_sumBehind_94 : decode mX8_sumBehind.2.1 94 = .ok (.lload 15, 2) := by decide +kernel
theorem dX8_sumBehind_96 : decode mX8_sumBehind.2.1 96 = .ok (.iload 10, 2) := by decide +kernel
theorem dX8_sumBehind_98 : decode mX8_sumBehind.2.1 98 = .ok (.invokevirtual 188, 3) := by decide +kernel
theorem dX8_sumBehind_101 : decode mX8_sumBehind.2.1 101 = .ok (.iadd, 1) := by decide +kernel
theorem dX8_sumBehind_102 : decode mX8_sumBehind.2.1 102 = .ok (.istore 11, 2) := by decide +kernel
theorem dX8_sumBehind_104 : decode mX8_sumBehind.2.1 104 = .ok (.iinc 12 10, 3) := by decide +kernel
theorem dX8_sumBehind_107 : decode mX8_sumBehind.2.1 107 = .ok (.goto (-76), 3) := by decide +kernel
theorem dX8_sumBehind_110 : decode mX8_sumBehind.2.1 110 = .ok (.iload_n 1, 1) := by decide +kernel
theorem dX8_sumBehind_111 : decode mX8_sumBehind.2.1 111 = .ok (.istore 12, 2) := by decide +kernel
theorem dX8_sumBehind_113 : decode mX8_sumBehind.2.1 113 = .ok (.iload 12, 2) := by decide +kernel
theorem dX8_sumBehind_115 : decode mX8_sumBehind.2.1 115 = .ok (.bipush 30, 2) := by decide +kernel
theorem dX8_sumBehind_117 : decode mX8_sumBehind.2.1 117 = .ok (.if_icmp .ge 88, 3) := by decide +kernel
theorem dX8_sumBehind_120 : decode mX8_sumBehind.2.1 120 = .ok (.iload 11, 2) := by decide +kernel
theorem dX8_sumBehind_122 : decode mX8_sumBehind.2.1 122 = .ok (.iload 7, 2) := by decide +kernel
theorem dX8_sumBehind_124 : decode mX8_sumBehind.2.1 124 = .ok (.if_icmp .gt 81, 3) := by decide +kernel
theorem dX8_sumBehind_127 : decode mX8_sumBehind.2.1 127 = .ok (.lload_n 2, 1) := by decide +kernel
theorem dX8_sumBehind_128 : decode mX8_sumBehind.2.1 128 = .ok (.aload_n 0, 1) := by decide +kernel
theorem dX8_sumBehind_129 : decode mX8_sumBehind.2.1 129 = .ok (.getfield 27, 3) := by decide +kernel
theorem dX8_sumBehind_132 : decode mX8_sumBehind.2.1 132 = .ok (.iconst 2, 1) := by decide +kernel
theorem dX8_sumBehind_133 : decode mX8_sumBehind.2.1 133 = .ok (.iload 12, 2) := by decide +kernel
theorem dX8_sumBehind_135 : decode mX8_sumBehind.2.1 135 = .ok (.imul, 1) := by decide +kernel
theorem dX8_sumBehind_136 : decode mX8_sumBehind.2.1 136 = .ok (.invokestatic 117, 3) := by decide +kernel
theorem dX8_sumBehind_139 : decode mX8_sumBehind.2.1 139 = .ok (.land, 1) := by decide +kernel
theorem dX8_sumBehind_140 : decode mX8_sumBehind.2.1 140 = .ok (.lstore 13, 2) := by decide +kernel
theorem dX8_sumBehind_142 : decode mX8_sumBehind.2.1 142 = .ok (.lload 4, 2) := by decide +kernel
theorem dX8_sumBehind_144 : decode mX8_sumBehind.2.1 144 = .ok (.aload_n 0, 1) := by decide +kernel
theorem dX8_sumBehind_145 : decode mX8_sumBehind.2.1 145 = .ok (.getfield 27, 3) := by decide +kernel
theorem dX8_sumBehind_148 : decode mX8_sumBehind.2.1 148 = .ok (.iconst 2, 1) := by decide +kernel
theorem dX8_sumBehind_149 : decode mX8_sumBehind.2.1 149 = .ok (.iload 12, 2) := by decide +kernel
theorem dX8_sumBehind_151 : decode mX8_sumBehind.2.1 151 = .ok (.imul, 1) := by decide +kernel
theorem dX8_sumBehind_152 : decode mX8_sumBehind.2.1 152 = .ok (.iconst 1, 1) := by decide +kernel
theorem dX8_sumBehind_153 : decode mX8_sumBehind.2.1 153 = .ok (.iadd, 1) := by decide +kernel
theorem dX8_sumBehind_154 : decode mX8_sumBehind.2.1 154 = .ok (.invokestatic 117, 3) := by decide +kernel
theorem dX8_sumBehind_157 : decode mX8_sumBehind.2.1 157 = .ok (.land, 1) := by decide +kernel
theorem dX8_sumBehind_158 : decode mX8_sumBehind.2.1 158 = .ok (.lstore 15, 2) := by decide +kernel
theorem dX8_sumBehind_160 : decode mX8_sumBehind.2.1 160 = .ok (.iload 11, 2) := by decide +kernel
theorem dX8_sumBehind_162 : decode mX8_sumBehind.2.1 162 = .ok (.aload_n 0, 1) := by decide +kernel
theorem dX8_sumBehind_163 : decode mX8_sumBehind.2.1 163 = .ok (.lload 13, 2) := by decide +kernel
theorem dX8_sumBehind_165 : decode mX8_sumBehind.2.1 165 = .ok (.lload 15, 2) := by decide +kernel
theorem dX8_sumBehind_167 : decode mX8_sumBehind.2.1 167 = .ok (.iload 10, 2) := by decide +kernel
theorem dX8_sumBehind_169 : decode mX8_sumBehind.2.1 169 = .ok (.invokevirtual 188, 3) := by decide +kernel
theorem dX8_sumBehind_172 : decode mX8_sumBehind.2.1 172 = .ok (.isub, 1) := by decide +kernel
theorem dX8_sumBehind_173 : decode mX8_sumBehind.2.1 173 = .ok (.istore 11, 2) := by decide +kernel
theorem dX8_sumBehind_175 : decode mX8_sumBehind.2.1 175 = .ok (.iload 11, 2) := by decide +kernel
theorem dX8_sumBehind_177 : decode mX8_sumBehind.2.1 177 = .ok (.aload_n 0, 1) := by decide +kernel
theorem dX8_sumBehind_178 : decode mX8_sumBehind.2.1 178 = .ok (.lload 13, 2) := by decide +kernel
theorem dX8_sumBehind_180 : decode mX8_sumBehind.2.1 180 = .ok (.lload 15, 2) := by decide +kernel
theorem dX8_sumBehind_182 : decode mX8_sumBehind.2.1 182 = .ok (.iload 9, 2) := by decide +kernel
theorem dX8_sumBehind_184 : decode mX8_sumBehind.2.1 184 = .ok (.iload 7, 2) := by decide +kernel
theorem dX8_sumBehind_186 : decode mX8_sumBehind.2.1 186 = .ok (.iload 11, 2) := by decide +kernel
theorem dX8_sumBehind_188 : decode mX8_sumBehind.2.1 188 = .ok (.isub, 1) := by decide +kernel
theorem dX8_sumBehind_189 : decode mX8_sumBehind.2.1 189 = .ok (.iload 8, 2) := by decide +kernel
theorem dX8_sumBehind_191 : decode mX8_sumBehind.2.1 191 = .ok (.iconst 1, 1) := by decide +kernel
theorem dX8_sumBehind_192 : decode mX8_sumBehind.2.1 192 = .ok (.iadd, 1) := by decide +kernel
theorem dX8_sumBehind_193 : decode mX8_sumBehind.2.1 193 = .ok (.invokestatic 147, 3) := by decide +kernel
theorem dX8_sumBehind_196 : decode mX8_sumBehind.2.1 196 = .ok (.iadd, 1) := by decide +kernel
theorem dX8_sumBehind_197 : decode mX8_sumBehind.2.1 197 = .ok (.istore 11, 2) := by decide +kernel
theorem dX8_sumBehind_199 : decode mX8_sumBehind.2.1 199 = .ok (.iinc 12 10, 3) := by decide +kernel
theorem dX8_sumBehind_202 : decode mX8_sumBehind.2.1 202 = .ok (.goto (-89), 3) := by decide +kernel
theorem dX8_sumBehind_205 : decode mX8_sumBehind.2.1 205 = .ok (.iload 11, 2) := by decide +kernel
theorem dX8_sumBehind_207 : decode mX8_sumBehind.2.1 207 = .ok (.ireturn, 1) := by decide +kernel
theorem dX8_nextOfSum_0 : decode mX8_nextOfSum.2.1 0 = .ok (.aload_n 0, 1) := by decide +kernel
theorem dX8_nextOfSum_1 : decode mX8_nextOfSum.2.1 1 = .ok (.invokevirtual 161, 3) := by decide +kernel
theorem dX8_nextOfSum_4 : decode mX8_nextOfSum.2.1 4 = .ok (.istore_n 1, 1) := by decide +kernel
theorem dX8_nextOfSum_5 : decode mX8_nextOfSum.2.1 5 = .ok (.iconst 0, 1) := by decide +kernel
theorem dX8_nextOfSum_6 : decode mX8_nextOfSum.2.1 6 = .ok (.istore_n 2, 1) := by decide +kernel
theorem dX8_nextOfSum_7 : decode mX8_nextOfSum.2.1 7 = .ok (.iload_n 2, 1) := by decide +kernel
theorem dX8_nextOfSum_8 : decode mX8_nextOfSum.2.1 8 = .ok (.aload_n 0, 1) := by decide +kernel
theorem dX8_nextOfSum_9 : decode mX8_nextOfSum.2.1 9 = .ok (.invokevirtual 129, 3) := by decide +kernel
theorem dX8_nextOfSum_12 : decode mX8_nextOfSum.2.1 12 = .ok (.if_icmp .ge 42, 3) := by decide +kernel
theorem dX8_nextOfSum_15 : decode mX8_nextOfSum.2.1 15 = .ok (.iload_n 1, 1) := by decide +kernel
theorem dX8_nextOfSum_16 : decode mX8_nextOfSum.2.1 16 = .ok (.ifCond .le 38, 3) := by decide +kernel
theorem dX8_nextOfSum_19 : decode mX8_nextOfSum.2.1 19 = .ok (.aload_n 0, 1) := by decide +kernel
theorem dX8_nextOfSum_20 : decode mX8_nextOfSum.2.1 20 = .ok (.iload_n 2, 1) := by decide +kernel
theorem dX8_nextOfSum_21 : decode mX8_nextOfSum.2.1 21 = .ok (.aload_n 0, 1) := by decide +kernel
theorem dX8_nextOfSum_22 : decode mX8_nextOfSum.2.1 22 = .ok (.invokevirtual 133, 3) := by decide +kernel
theorem dX8_nextOfSum_25 : decode mX8_nextOfSum.2.1 25 = .ok (.aload_n 0, 1) := by decide +kernel
theorem dX8_nextOfSum_26 : decode mX8_nextOfSum.2.1 26 = .ok (.invokevirtual 137, 3) := by decide +kernel
theorem dX8_nextOfSum_29 : decode mX8_nextOfSum.2.1 29 = .ok (.aload_n 0, 1) := by decide +kernel
theorem dX8_nextOfSum_30 : decode mX8_nextOfSum.2.1 30 = .ok (.invokevirtual 140, 3) := by decide +kernel
theorem dX8_nextOfSum_33 : decode mX8_nextOfSum.2.1 33 = .ok (.iload_n 1, 1) := by decide +kernel
theorem dX8_nextOfSum_34 : decode mX8_nextOfSum.2.1 34 = .ok (.iconst 0, 1) := by decide +kernel
theorem dX8_nextOfSum_35 : decode mX8_nextOfSum.2.1 35 = .ok (.invokestatic 164, 3) := by decide +kernel
theorem dX8_nextOfSum_38 : decode mX8_nextOfSum.2.1 38 = .ok (.iload_n 1, 1) := by decide +kernel
theorem dX8_nextOfSum_39 : decode mX8_nextOfSum.2.1 39 = .ok (.if_icmp .gt 9, 3) := by decide +kernel
theorem dX8_nextOfSum_42 : decode mX8_nextOfSum.2.1 42 = .ok (.aload_n 0, 1) := by decide +kernel
theorem dX8_nextOfSum_43 : decode mX8_nextOfSum.2.1 43 = .ok (.iload_n 2, 1) := by decide +kernel
theorem dX8_nextOfSum_44 : decode mX8_nextOfSum.2.1 44 = .ok (.invokevirtual 158, 3) := by decide +kernel
theorem dX8_nextOfSum_47 : decode mX8_nextOfSum.2.1 47 = .ok (.ireturn, 1) := by decide +kernel
theorem dX8_nextOfSum_48 : decode mX8_nextOfSum.2.1 48 = .ok (.iinc 2 1, 3) := by decide +kernel
theorem dX8_nextOfSum_51 : decode mX8_nextOfSum.2.1 51 = .ok (.goto (-44), 3) := by decide +kernel
theorem dX8_nextOfSum_54 : decode mX8_nextOfSum.2.1 54 = .ok (.iconst (-1), 1) := by decide +kernel
theorem dX8_nextOfSum_55 : decode mX8_nextOfSum.2.1 55 = .ok (.ireturn, 1) := by decide +kernel
theorem bX8_sumBehind_0 {d : Nat} {g : xSt} {r : Option Value × xSt} {a1 a6 a7 a8 r11 : Int32} {a2 a4 : Int64} {g11 : xSt} (W : xWf g) (hk11 : xCallM d mX8_joinsFor [.ref 76, .int (a6 ||| (1 <<< (a1 &&& 31)))] g = some (some (.int r11), g11)) (W11 : xWf g11) (k : xX (d + 1) mX8_sumBehind 31 [some (.ref 76), some (.int a1), some (.long a2), none, some (.long a4), none, none, some (.int a7), some (.int a8), some (.int (a6 ||| (1 <<< (a1 &&& 31)))), some (.int r11), some (.int ((xbcl a2) + (xbcl a4))), some (.int a1), none, none, none, none] [] g11 = some r) : xX (d + 1) mX8_sumBehind 0 [some (.ref 76), some (.int a1), some (.long a2), none, some (.long a4), none, some (.int a6), some (.int a7), some (.int a8), none, none, none, none, none, none, none, none] [] g = some r :=
  Y_iload dX8_sumBehind_0 rfl <| Y_iconst 1 dX8_sumBehind_2 ic_1 <| Y_iload_n dX8_sumBehind_3 rfl <| Y_ishl dX8_sumBehind_4 <| Y_ior dX8_sumBehind_5 <| Y_istore dX8_sumBehind_6 rfl rfl <| Y_aload_n dX8_sumBehind_8 rfl <| Y_iload dX8_sumBehind_9 rfl <| Y_callV1 dX8_sumBehind_11 cl_7_175 rfl rfl (xis W 76 7 s_76 (Nat.le_of_ble_eq_true rfl)) rfl rfl rfl (hk11) <| Y_istore dX8_sumBehind_14 rfl rfl <| Y_lload_n dX8_sumBehind_16 rfl <| Y_callS1 dX8_sumBehind_17 cl_7_191 rfl rfl rfl rfl rfl (c_xbcl) <| Y_lload dX8_sumBehind_20 rfl <| Y_callS1 dX8_sumBehind_22 cl_7_191 rfl rfl rfl rfl rfl (c_xbcl) <| Y_iadd dX8_sumBehind_25 <| Y_istore dX8_sumBehind_26 rfl rfl <| Y_iload_n dX8_sumBehind_28 rfl <| Y_istore dX8_sumBehind_29 rfl rfl <| X_le (xle_s (xle_s (xle_s (xle_n (xle_s (xle_n (xle_n (xle_s (xle_s (xle_s (xle_s (xle_s (xle_s (xle_n (xle_n (xle_n (xle_n xle_0))))))))))))))))) k
theorem bX8_sumBehind_31 {d : Nat} {g : xSt} {r : Option Value × xSt} {a1 a7 a8 a9 a10 a11 a12 : Int32} {a2 a4 : Int64} (k1 : 30 ≤ a12 → xX (d + 1) mX8_sumBehind 110 [some (.ref 76), some (.int a1), some (.long a2), none, some (.long a4), none, none, some (.int a7), some (.int a8), some (.int a9), some (.int a10), some (.int a11), none, none, none, none, none] [] g = some r) (k2 : ¬ (30 ≤ a12) → xX (d + 1) mX8_sumBehind 38 [some (.ref 76), some (.int a1), some (.long a2), none, some (.long a4), none, none, some (.int a7), some (.int a8), some (.int a9), some (.int a10), some (.int a11), some (.int a12), none, none, none, none] [] g = some r) : xX (d + 1) mX8_sumBehind 31 [some (.ref 76), some (.int a1), some (.long a2), none, some (.long a4), none, none, some (.int a7), some (.int a8), some (.int a9), some (.int a10), some (.int a11), some (.int a12), none, none, none, none] [] g = some r :=
  Y_iload dX8_sumBehind_31 rfl <| Y_bipush 30 dX8_sumBehind_33 bp_30 <| Y_ge 110 dX8_sumBehind_35 rfl (fun q => X_le (xle_s (xle_s (xle_s (xle_n (xle_s (xle_n (xle_n (xle_s (xle_s (xle_s (xle_s (xle_s (xle_n (xle_n (xle_n (xle_n (xle_n xle_0))))))))))))))))) (k1 q)) (fun q => X_le (xle_s (xle_s (xle_s (xle_n (xle_s (xle_n (xle_n (xle_s (xle_s (xle_s (xle_s (xle_s (xle_s (xle_n (xle_n (xle_n (xle_n xle_0))))))))))))))))) (k2 q))
theorem bX8_sumBehind_38 {d : Nat} {g : xSt} {r : Option Value × xSt} {a1 a7 a8 a9 a10 a11 a12 : Int32} {a2 a4 : Int64} (W : xWf g) (k1 : (lg_cmp (a2 &&& (xatL (xL g 81) 60 (2 * a12))) a2) = 0 → xX (d + 1) mX8_sumBehind 78 [some (.ref 76), some (.int a1), some (.long a2), none, some (.long a4), none, none, some (.int a7), some (.int a8), some (.int a9), some (.int a10), some (.int a11), some (.int a12), some (.long (a2 &&& (xatL (xL g 81) 60 (2 * a12)))), none, some (.long (a4 &&& (xatL (xL g 81) 60 ((2 * a12) + 1)))), none] [] g = some r) (k2 : ¬ ((lg_cmp (a2 &&& (xatL (xL g 81) 60 (2 * a12))) a2) = 0) → xX (d + 1) mX8_sumBehind 89 [some (.ref 76), some (.int a1), some (.long a2), none, some (.long a4), none, none, some (.int a7), some (.int a8), some (.int a9), some (.int a10), some (.int a11), some (.int a12), some (.long (a2 &&& (xatL (xL g 81) 60 (2 * a12)))), none, some (.long (a4 &&& (xatL (xL g 81) 60 ((2 * a12) + 1)))), none] [] g = some r) : xX (d + 1) mX8_sumBehind 38 [some (.ref 76), some (.int a1), some (.long a2), none, some (.long a4), none, none, some (.int a7), some (.int a8), some (.int a9), some (.int a10), some (.int a11), some (.int a12), none, none, none, none] [] g = some r :=
  Y_lload_n dX8_sumBehind_38 rfl <| Y_aload_n dX8_sumBehind_39 rfl <| Y_getR dX8_sumBehind_40 f_7_27 (by rw [ft_7_12]; rfl) (xis W 76 7 s_76 (Nat.le_of_ble_eq_true rfl)) (xptr W 76 12 p_76_12) <| Y_iconst 2 dX8_sumBehind_43 ic_2 <| Y_iload dX8_sumBehind_44 rfl <| Y_imul dX8_sumBehind_46 <| Y_callS1 dX8_sumBehind_47 cl_7_117 rfl rfl rfl rfl rfl (c_atL (xarr W (o := 81) s_81 (Nat.le_of_ble_eq_true rfl))) <| Y_land dX8_sumBehind_50 <| Y_lstore dX8_sumBehind_51 rfl rfl <| Y_lload dX8_sumBehind_53 rfl <| Y_aload_n dX8_sumBehind_55 rfl <| Y_getR dX8_sumBehind_56 f_7_27 (by rw [ft_7_12]; rfl) (xis W 76 7 s_76 (Nat.le_of_ble_eq_true rfl)) (xptr W 76 12 p_76_12) <| Y_iconst 2 dX8_sumBehind_59 ic_2 <| Y_iload dX8_sumBehind_60 rfl <| Y_imul dX8_sumBehind_62 <| Y_iconst 1 dX8_sumBehind_63 ic_1 <| Y_iadd dX8_sumBehind_64 <| Y_callS1 dX8_sumBehind_65 cl_7_117 rfl rfl rfl rfl rfl (c_atL (xarr W (o := 81) s_81 (Nat.le_of_ble_eq_true rfl))) <| Y_land dX8_sumBehind_68 <| Y_lstore dX8_sumBehind_69 rfl rfl <| Y_lload dX8_sumBehind_71 rfl <| Y_lload_n dX8_sumBehind_73 rfl <| Y_lcmp dX8_sumBehind_74 <| Y_ne0 89 dX8_sumBehind_75 rfl (fun q => X_le (xle_s (xle_s (xle_s (xle_n (xle_s (xle_n (xle_n (xle_s (xle_s (xle_s (xle_s (xle_s (xle_s (xle_s (xle_n (xle_s (xle_n xle_0))))))))))))))))) (k1 q)) (fun q => X_le (xle_s (xle_s (xle_s (xle_n (xle_s (xle_n (xle_n (xle_s (xle_s (xle_s (xle_s (xle_s (xle_s (xle_s (xle_n (xle_s (xle_n xle_0))))))))))))))))) (k2 q))
theorem bX8_sumBehind_78 {d : Nat} {g : xSt} {r : Option Value × xSt} {a1 a7 a8 a9 a10 a11 a12 : Int32} {a2 a4 a13 a15 : Int64} (k1 : (lg_cmp a15 a4) = 0 → xX (d + 1) mX8_sumBehind 86 [none, none, none, none, none, none, none, none, none, none, none, none, none, none, none, none, none] [] g = some r) (k2 : ¬ ((lg_cmp a15 a4) = 0) → xX (d + 1) mX8_sumBehind 89 [some (.ref 76), some (.int a1), some (.long a2), none, some (.long a4), none, none, some (.int a7), some (.int a8), some (.int a9), some (.int a10), some (.int a11), some (.int a12), some (.long a13), none, some (.long a15), none] [] g = some r) : xX (d + 1) mX8_sumBehind 78 [some (.ref 76), some (.int a1), some (.long a2), none, some (.long a4), none, none, some (.int a7), some (.int a8), some (.int a9), some (.int a10), some (.int a11), some (.int a12), some (.long a13), none, some (.long a15), none] [] g = some r :=
  Y_lload dX8_sumBehind_78 rfl <| Y_lload dX8_sumBehind_80 rfl <| Y_lcmp dX8_sumBehind_82 <| Y_ne0 89 dX8_sumBehind_83 rfl (fun q => X_le (xle_n (xle_n (xle_n (xle_n (xle_n (xle_n (xle_n (xle_n (xle_n (xle_n (xle_n (xle_n (xle_n (xle_n (xle_n (xle_n (xle_n xle_0))))))))))))))))) (k1 q)) (fun q => X_le (xle_s (xle_s (xle_s (xle_n (xle_s (xle_n (xle_n (xle_s (xle_s (xle_s (xle_s (xle_s (xle_s (xle_s (xle_n (xle_s (xle_n xle_0))))))))))))))))) (k2 q))
theorem bX8_sumBehind_86 {d : Nat} {g : xSt} {r : Option Value × xSt}  (k : r = (some (.int 1000000), g)) : xX (d + 1) mX8_sumBehind 86 [none, none, none, none, none, none, none, none, none, none, none, none, none, none, none, none, none] [] g = some r :=
  Y_ldc dX8_sumBehind_86 ki_7_150 <| Y_iret dX8_sumBehind_88 rfl k
theorem bX8_sumBehind_89 {d : Nat} {g : xSt} {r : Option Value × xSt} {a1 a7 a8 a9 a10 a11 a12 r98 : Int32} {a2 a4 a13 a15 : Int64} {g98 : xSt} (W : xWf g) (hk98 : xCallM d mX8_leastSum [.ref 76, .long a13, .long a15, .int a10] g = some (some (.int r98), g98)) (W98 : xWf g98) (k : xX (d + 1) mX8_sumBehind 31 [some (.ref 76), some (.int a1), some (.long a2), none, some (.long a4), none, none, some (.int a7), some (.int a8), some (.int a9), some (.int a10), some (.int (a11 + r98)), some (.int (a12 + 10)), none, none, none, none] [] g98 = some r) : xX (d + 1) mX8_sumBehind 89 [some (.ref 76), some (.int a1), some (.long a2), none, some (.long a4), none, none, some (.int a7), some (.int a8), some (.int a9), some (.int a10), some (.int a11), some (.int a12), some (.long a13), none, some (.long a15), none] [] g = some r :=
  Y_iload dX8_sumBehind_89 rfl <| Y_aload_n dX8_sumBehind_91 rfl <| Y_lload dX8_sumBehind_92 rfl <| Y_lload dX8_sumBehind_94 rfl <| Y_iload dX8_sumBehind_96 rfl <| Y_callV1 dX8_sumBehind_98 cl_7_188 rfl rfl (xis W 76 7 s_76 (Nat.le_of_ble_eq_true rfl)) rfl rfl rfl (hk98) <| Y_iadd dX8_sumBehind_101 <| Y_istore dX8_sumBehind_102 rfl rfl <| Y_iinc 10 dX8_sumBehind_104 rfl ic_10 rfl rfl <| Y_goto 31 dX8_sumBehind_107 rfl <| X_le (xle_s (xle_s (xle_s (xle_n (xle_s (xle_n (xle_n (xle_s (xle_s (xle_s (xle_s (xle_s (xle_s (xle_n (xle_n (xle_n (xle_n xle_0))))))))))))))))) k
theorem bX8_sumBehind_110 {d : Nat} {g : xSt} {r : Option Value × xSt} {a1 a7 a8 a9 a10 a11 : Int32} {a2 a4 : Int64} (k : xX (d + 1) mX8_sumBehind 113 [some (.ref 76), none, some (.long a2), none, some (.long a4), none, none, some (.int a7), some (.int a8), some (.int a9), some (.int a10), some (.int a11), some (.int a1), none, none, none, none] [] g = some r) : xX (d + 1) mX8_sumBehind 110 [some (.ref 76), some (.int a1), some (.long a2), none, some (.long a4), none, none, some (.int a7), some (.int a8), some (.int a9), some (.int a10), some (.int a11), none, none, none, none, none] [] g = some r :=
  Y_iload_n dX8_sumBehind_110 rfl <| Y_istore dX8_sumBehind_111 rfl rfl <| X_le (xle_s (xle_n (xle_s (xle_n (xle_s (xle_n (xle_n (xle_s (xle_s (xle_s (xle_s (xle_s (xle_s (xle_n (xle_n (xle_n (xle_n xle_0))))))))))))))))) k
theorem bX8_sumBehind_113 {d : Nat} {g : xSt} {r : Option Value × xSt} {a2 a4 : Int64} {a7 a8 a9 a10 a11 a12 : Int32} (k1 : 30 ≤ a12 → xX (d + 1) mX8_sumBehind 205 [none, none, none, none, none, none, none, none, none, none, none, some (.int a11), none, none, none, none, none] [] g = some r) (k2 : ¬ (30 ≤ a12) → xX (d + 1) mX8_sumBehind 120 [some (.ref 76), none, some (.long a2), none, some (.long a4), none, none, some (.int a7), some (.int a8), some (.int a9), some (.int a10), some (.int a11), some (.int a12), none, none, none, none] [] g = some r) : xX (d + 1) mX8_sumBehind 113 [some (.ref 76), none, some (.long a2), none, some (.long a4), none, none, some (.int a7), some (.int a8), some (.int a9), some (.int a10), some (.int a11), some (.int a12), none, none, none, none] [] g = some r :=
  Y_iload dX8_sumBehind_113 rfl <| Y_bipush 30 dX8_sumBehind_115 bp_30 <| Y_ge 205 dX8_sumBehind_117 rfl (fun q => X_le (xle_n (xle_n (xle_n (xle_n (xle_n (xle_n (xle_n (xle_n (xle_n (xle_n (xle_n (xle_s (xle_n (xle_n (xle_n (xle_n (xle_n xle_0))))))))))))))))) (k1 q)) (fun q => X_le (xle_s (xle_n (xle_s (xle_n (xle_s (xle_n (xle_n (xle_s (xle_s (xle_s (xle_s (xle_s (xle_s (xle_n (xle_n (xle_n (xle_n xle_0))))))))))))))))) (k2 q))
theorem bX8_sumBehind_120 {d : Nat} {g : xSt} {r : Option Value × xSt} {a2 a4 : Int64} {a7 a8 a9 a10 a11 a12 : Int32} (k1 : a7 < a11 → xX (d + 1) mX8_sumBehind 205 [none, none, none, none, none, none, none, none, none, none, none, some (.int a11), none, none, none, none, none] [] g = some r) (k2 : ¬ (a7 < a11) → xX (d + 1) mX8_sumBehind 127 [some (.ref 76), none, some (.long a2), none, some (.long a4), none, none, some (.int a7), some (.int a8), some (.int a9), some (.int a10), some (.int a11), some (.int a12), none, none, none, none] [] g = some r) : xX (d + 1) mX8_sumBehind 120 [some (.ref 76), none, some (.long a2), none, some (.long a4), none, none, some (.int a7), some (.int a8), some (.int a9), some (.int a10), some (.int a11), some (.int a12), none, none, none, none] [] g = some r :=
  Y_iload dX8_sumBehind_120 rfl <| Y_iload dX8_sumBehind_122 rfl <| Y_gt 205 dX8_sumBehind_124 rfl (fun q => X_le (xle_n (xle_n (xle_n (xle_n (xle_n (xle_n (xle_n (xle_n (xle_n (xle_n (xle_n (xle_s (xle_n (xle_n (xle_n (xle_n (xle_n xle_0))))))))))))))))) (k1 q)) (fun q => X_le (xle_s (xle_n (xle_s (xle_n (xle_s (xle_n (xle_n (xle_s (xle_s (xle_s (xle_s (xle_s (xle_s (xle_n (xle_n (xle_n (xle_n xle_0))))))))))))))))) (k2 q))
theorem bX8_sumBehind_127 {d : Nat} {g : xSt} {r : Option Value × xSt} {a2 a4 : Int64} {a7 a8 a9 a10 a11 a12 r169 r193 : Int32} {g169 g193 : xSt} (W : xWf g) (hk169 : xCallM d mX8_leastSum [.ref 76, .long (a2 &&& (xatL (xL g 81) 60 (2 * a12))), .long (a4 &&& (xatL (xL g 81) 60 ((2 * a12) + 1))), .int a10] g = some (some (.int r169), g169)) (W169 : xWf g169) (hk193 : xCallM d mX8_sumFrom [.ref 76, .long (a2 &&& (xatL (xL g 81) 60 (2 * a12))), .long (a4 &&& (xatL (xL g 81) 60 ((2 * a12) + 1))), .int a9, .int (a7 - (a11 - r169)), .int (a8 + 1)] g169 = some (some (.int r193), g193)) (W193 : xWf g193) (k : xX (d + 1) mX8_sumBehind 113 [some (.ref 76), none, some (.long a2), none, some (.long a4), none, none, some (.int a7), some (.int a8), some (.int a9), some (.int a10), some (.int ((a11 - r169) + r193)), some (.int (a12 + 10)), none, none, none, none] [] g193 = some r) : xX (d + 1) mX8_sumBehind 127 [some (.ref 76), none, some (.long a2), none, some (.long a4), none, none, some (.int a7), some (.int a8), some (.int a9), some (.int a10), some (.int a11), some (.int a12), none, none, none, none] [] g = some r :=
  Y_lload_n dX8_sumBehind_127 rfl <| Y_aload_n dX8_sumBehind_128 rfl <| Y_getR dX8_sumBehind_129 f_7_27 (by rw [ft_7_12]; rfl) (xis W 76 7 s_76 (Nat.le_of_ble_eq_true rfl)) (xptr W 76 12 p_76_12) <| Y_iconst 2 dX8_sumBehind_132 ic_2 <| Y_iload dX8_sumBehind_133 rfl <| Y_imul dX8_sumBehind_135 <| Y_callS1 dX8_sumBehind_136 cl_7_117 rfl rfl rfl rfl rfl (c_atL (xarr W (o := 81) s_81 (Nat.le_of_ble_eq_true rfl))) <| Y_land dX8_sumBehind_139 <| Y_lstore dX8_sumBehind_140 rfl rfl <| Y_lload dX8_sumBehind_142 rfl <| Y_aload_n dX8_sumBehind_144 rfl <| Y_getR dX8_sumBehind_145 f_7_27 (by rw [ft_7_12]; rfl) (xis W 76 7 s_76 (Nat.le_of_ble_eq_true rfl)) (xptr W 76 12 p_76_12) <| Y_iconst 2 dX8_sumBehind_148 ic_2 <| Y_iload dX8_sumBehind_149 rfl <| Y_imul dX8_sumBehind_151 <| Y_iconst 1 dX8_sumBehind_152 ic_1 <| Y_iadd dX8_sumBehind_153 <| Y_callS1 dX8_sumBehind_154 cl_7_117 rfl rfl rfl rfl rfl (c_atL (xarr W (o := 81) s_81 (Nat.le_of_ble_eq_true rfl))) <| Y_land dX8_sumBehind_157 <| Y_lstore dX8_sumBehind_158 rfl rfl <| Y_iload dX8_sumBehind_160 rfl <| Y_aload_n dX8_sumBehind_162 rfl <| Y_lload dX8_sumBehind_163 rfl <| Y_lload dX8_sumBehind_165 rfl <| Y_iload dX8_sumBehind_167 rfl <| Y_callV1 dX8_sumBehind_169 cl_7_188 rfl rfl (xis W 76 7 s_76 (Nat.le_of_ble_eq_true rfl)) rfl rfl rfl (hk169) <| Y_isub dX8_sumBehind_172 <| Y_istore dX8_sumBehind_173 rfl rfl <| Y_iload dX8_sumBehind_175 rfl <| Y_aload_n dX8_sumBehind_177 rfl <| Y_lload dX8_sumBehind_178 rfl <| Y_lload dX8_sumBehind_180 rfl <| Y_iload dX8_sumBehind_182 rfl <| Y_iload dX8_sumBehind_184 rfl <| Y_iload dX8_sumBehind_186 rfl <| Y_isub dX8_sumBehind_188 <| Y_iload dX8_sumBehind_189 rfl <| Y_iconst 1 dX8_sumBehind_191 ic_1 <| Y_iadd dX8_sumBehind_192 <| Y_callS1 dX8_sumBehind_193 cl_7_147 rfl rfl rfl rfl rfl (hk193) <| Y_iadd dX8_sumBehind_196 <| Y_istore dX8_sumBehind_197 rfl rfl <| Y_iinc 10 dX8_sumBehind_199 rfl ic_10 rfl rfl <| Y_goto 113 dX8_sumBehind_202 rfl <| X_le (xle_s (xle_n (xle_s (xle_n (xle_s (xle_n (xle_n (xle_s (xle_s (xle_s (xle_s (xle_s (xle_s (xle_n (xle_n (xle_n (xle_n xle_0))))))))))))))))) k
theorem bX8_sumBehind_205 {d : Nat} {g : xSt} {r : Option Value × xSt} {a11 : Int32} (k : r = (some (.int a11), g)) : xX (d + 1) mX8_sumBehind 205 [none, none, none, none, none, none, none, none, none, none, none, some (.int a11), none, none, none, none, none] [] g = some r :=
  Y_iload dX8_sumBehind_205 rfl <| Y_iret dX8_sumBehind_207 rfl k
theorem bX8_nextOfSum_0 {d : Nat} {g : xSt} {r : Option Value × xSt} {r1 : Int32} {g1 : xSt} (W : xWf g) (hk1 : xCallM d mX8_sumOfAll [.ref 76] g = some (some (.int r1), g1)) (W1 : xWf g1) (k : xX (d + 1) mX8_nextOfSum 7 [some (.ref 76), some (.int r1), some (.int 0)] [] g1 = some r) : xX (d + 1) mX8_nextOfSum 0 [some (.ref 76), none, none] [] g = some r :=
  Y_aload_n dX8_nextOfSum_0 rfl <| Y_callV1 dX8_nextOfSum_1 cl_7_161 rfl rfl (xis W 76 7 s_76 (Nat.le_of_ble_eq_true rfl)) rfl rfl rfl (hk1) <| Y_istore_n dX8_nextOfSum_4 rfl rfl <| Y_iconst 0 dX8_nextOfSum_5 ic_0 <| Y_istore_n dX8_nextOfSum_6 rfl rfl <| X_le (xle_s (xle_s (xle_s xle_0))) k
theorem bX8_nextOfSum_7 {d : Nat} {g : xSt} {r : Option Value × xSt} {a1 a2 r9 : Int32} {g9 : xSt} (W : xWf g) (hk9 : xCallM d mX8_pairs [.ref 76] g = some (some (.int r9), g9)) (W9 : xWf g9) (k1 : r9 ≤ a2 → xX (d + 1) mX8_nextOfSum 54 [none, none, none] [] g9 = some r) (k2 : ¬ (r9 ≤ a2) → xX (d + 1) mX8_nextOfSum 15 [some (.ref 76), some (.int a1), some (.int a2)] [] g9 = some r) : xX (d + 1) mX8_nextOfSum 7 [some (.ref 76), some (.int a1), some (.int a2)] [] g = some r :=
  Y_iload_n dX8_nextOfSum_7 rfl <| Y_aload_n dX8_nextOfSum_8 rfl <| Y_callV1 dX8_nextOfSum_9 cl_7_129 rfl rfl (xis W 76 7 s_76 (Nat.le_of_ble_eq_true rfl)) rfl rfl rfl (hk9) <| Y_ge 54 dX8_nextOfSum_12 rfl (fun q => X_le (xle_n (xle_n (xle_n xle_0))) (k1 q)) (fun q => X_le (xle_s (xle_s (xle_s xle_0))) (k2 q))
theorem bX8_nextOfSum_15 {d : Nat} {g : xSt} {r : Option Value × xSt} {a1 a2 : Int32} (k1 : a1 ≤ 0 → xX (d + 1) mX8_nextOfSum 54 [none, none, none] [] g = some r) (k2 : ¬ (a1 ≤ 0) → xX (d + 1) mX8_nextOfSum 19 [some (.ref 76), some (.int a1), some (.int a2)] [] g = some r) : xX (d + 1) mX8_nextOfSum 15 [some (.ref 76), some (.int a1), some (.int a2)] [] g = some r :=
  Y_iload_n dX8_nextOfSum_15 rfl <| Y_le0 54 dX8_nextOfSum_16 rfl (fun q => X_le (xle_n (xle_n (xle_n xle_0))) (k1 q)) (fun q => X_le (xle_s (xle_s (xle_s xle_0))) (k2 q))
theorem bX8_nextOfSum_19 {d : Nat} {g : xSt} {r : Option Value × xSt} {a1 a2 r30 r35 : Int32} {r22 r26 : Int64} {g22 g26 g30 g35 : xSt} (W : xWf g) (hk22 : xCallM d mX8_allLow [.ref 76] g = some (some (.long r22), g22)) (W22 : xWf g22) (hk26 : xCallM d mX8_allHigh [.ref 76] g22 = some (some (.long r26), g26)) (W26 : xWf g26) (hk30 : xCallM d mX8_surePairs [.ref 76] g26 = some (some (.int r30), g30)) (W30 : xWf g30) (hk35 : xCallM d mX8_sumBehind [.ref 76, .int a2, .long r22, .long r26, .int r30, .int a1, .int 0] g30 = some (some (.int r35), g35)) (W35 : xWf g35) (k1 : a1 < r35 → xX (d + 1) mX8_nextOfSum 48 [some (.ref 76), some (.int a1), some (.int a2)] [] g35 = some r) (k2 : ¬ (a1 < r35) → xX (d + 1) mX8_nextOfSum 42 [some (.ref 76), none, some (.int a2)] [] g35 = some r) : xX (d + 1) mX8_nextOfSum 19 [some (.ref 76), some (.int a1), some (.int a2)] [] g = some r :=
  Y_aload_n dX8_nextOfSum_19 rfl <| Y_iload_n dX8_nextOfSum_20 rfl <| Y_aload_n dX8_nextOfSum_21 rfl <| Y_callV1 dX8_nextOfSum_22 cl_7_133 rfl rfl (xis W 76 7 s_76 (Nat.le_of_ble_eq_true rfl)) rfl rfl rfl (hk22) <| Y_aload_n dX8_nextOfSum_25 rfl <| Y_callV1 dX8_nextOfSum_26 cl_7_137 rfl rfl (xis W22 76 7 s_76 (Nat.le_of_ble_eq_true rfl)) rfl rfl rfl (hk26) <| Y_aload_n dX8_nextOfSum_29 rfl <| Y_callV1 dX8_nextOfSum_30 cl_7_140 rfl rfl (xis W26 76 7 s_76 (Nat.le_of_ble_eq_true rfl)) rfl rfl rfl (hk30) <| Y_iload_n dX8_nextOfSum_33 rfl <| Y_iconst 0 dX8_nextOfSum_34 ic_0 <| Y_callS1 dX8_nextOfSum_35 cl_7_164 rfl rfl rfl rfl rfl (hk35) <| Y_iload_n dX8_nextOfSum_38 rfl <| Y_gt 48 dX8_nextOfSum_39 rfl (fun q => X_le (xle_s (xle_s (xle_s xle_0))) (k1 q)) (fun q => X_le (xle_s (xle_n (xle_s xle_0))) (k2 q))
theorem bX8_nextOfSum_42 {d : Nat} {g : xSt} {r : Option Value × xSt} {a2 r44 : Int32} {g44 : xSt} (W : xWf g) (hk44 : xCallM d mX8_codeOf [.ref 76, .int a2] g = some (some (.int r44), g44)) (W44 : xWf g44) (k : r = (some (.int r44), g44)) : xX (d + 1) mX8_nextOfSum 42 [some (.ref 76), none, some (.int a2)] [] g = some r :=
  Y_aload_n dX8_nextOfSum_42 rfl <| Y_iload_n dX8_nextOfSum_43 rfl <| Y_callV1 dX8_nextOfSum_44 cl_7_158 rfl rfl (xis W 76 7 s_76 (Nat.le_of_ble_eq_true rfl)) rfl rfl rfl (hk44) <| Y_iret dX8_nextOfSum_47 rfl k
theorem bX8_nextOfSum_48 {d : Nat} {g : xSt} {r : Option Value × xSt} {a1 a2 : Int32} (k : xX (d + 1) mX8_nextOfSum 7 [some (.ref 76), some (.int a1), some (.int (a2 + 1))] [] g = some r) : xX (d + 1) mX8_nextOfSum 48 [some (.ref 76), some (.int a1), some (.int a2)] [] g = some r :=
  Y_iinc 1 dX8_nextOfSum_48 rfl ic_1 rfl rfl <| Y_goto 7 dX8_nextOfSum_51 rfl <| X_le (xle_s (xle_s (xle_s xle_0))) k
theorem bX8_nextOfSum_54 {d : Nat} {g : xSt} {r : Option Value × xSt}  (k : r = (some (.int (-1)), g)) : xX (d + 1) mX8_nextOfSum 54 [none, none, none] [] g = some r :=
  Y_iconst (-1) dX8_nextOfSum_54 ic_m1 <| Y_iret dX8_nextOfSum_55 rfl k
