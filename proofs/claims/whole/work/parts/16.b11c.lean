/-! stretches of HeavierRowModel, by program (wip/whole/genall.py) -/
theorem dX12_solves_0 : decode mX12_solves.2.1 0 = .ok (.aload_n 0, 1) := by decide +kernel
theorem dX12_solves_1 : decode mX12_solves.2.1 1 = .ok (.getfield 408, 3) := by decide +kernel
theorem dX12_solves_4 : decode mX12_solves.2.1 4 = .ok (.bipush 60, 2) := by decide +kernel
theorem dX12_solves_6 : decode mX12_solves.2.1 6 = .ok (.if_icmp .lt 9, 3) := by decide +kernel
theorem dX12_solves_9 : decode mX12_solves.2.1 9 = .ok (.ldc2_w 477, 3) := by decide +kernel
theorem dX12_solves_12 : decode mX12_solves.2.1 12 = .ok (.goto 11, 3) := by decide +kernel
theorem dX12_solves_15 : decode mX12_solves.2.1 15 = .ok (.lconst 1, 1) := by decide +kernel
theorem dX12_solves_16 : decode mX12_solves.2.1 16 = .ok (.aload_n 0, 1) := by decide +kernel
theorem dX12_solves_17 : decode mX12_solves.2.1 17 = .ok (.getfield 408, 3) := by decide +kernel
theorem dX12_solves_20 : decode mX12_solves.2.1 20 = .ok (.lshl, 1) := by decide +kernel
theorem dX12_solves_21 : decode mX12_solves.2.1 21 = .ok (.lconst 1, 1) := by decide +kernel
theorem dX12_solves_22 : decode mX12_solves.2.1 22 = .ok (.lsub, 1) := by decide +kernel
theorem dX12_solves_23 : decode mX12_solves.2.1 23 = .ok (.lstore_n 2, 1) := by decide +kernel
theorem dX12_solves_24 : decode mX12_solves.2.1 24 = .ok (.aload_n 0, 1) := by decide +kernel
theorem dX12_solves_25 : decode mX12_solves.2.1 25 = .ok (.getfield 408, 3) := by decide +kernel
theorem dX12_solves_28 : decode mX12_solves.2.1 28 = .ok (.bipush 60, 2) := by decide +kernel
theorem dX12_solves_30 : decode mX12_solves.2.1 30 = .ok (.if_icmp .le 17, 3) := by decide +kernel
theorem dX12_solves_33 : decode mX12_solves.2.1 33 = .ok (.lconst 1, 1) := by decide +kernel
theorem dX12_solves_34 : decode mX12_solves.2.1 34 = .ok (.aload_n 0, 1) := by decide +kernel
theorem dX12_solves_35 : decode mX12_solves.2.1 35 = .ok (.getfield 408, 3) := by decide +kernel
theorem dX12_solves_38 : decode mX12_solves.2.1 38 = .ok (.bipush 60, 2) := by decide +kernel
theorem dX12_solves_40 : decode mX12_solves.2.1 40 = .ok (.isub, 1) := by decide +kernel
theorem dX12_solves_41 : decode mX12_solves.2.1 41 = .ok (.lshl, 1) := by decide +kernel
theorem dX12_solves_42 : decode mX12_solves.2.1 42 = .ok (.lconst 1, 1) := by decide +kernel
theorem dX12_solves_43 : decode mX12_solves.2.1 43 = .ok (.lsub, 1) := by decide +kernel
theorem dX12_solves_44 : decode mX12_solves.2.1 44 = .ok (.goto 4, 3) := by decide +kernel
theorem dX12_solves_47 : decode mX12_solves.2.1 47 = .ok (.lconst 0, 1) := by decide +kernel
theorem dX12_solves_48 : decode mX12_solves.2.1 48 = .ok (.lstore 4, 2) := by decide +kernel
theorem dX12_solves_50 : decode mX12_solves.2.1 50 = .ok (.aload_n 0, 1) := by decide +kernel
theorem dX12_solves_51 : decode mX12_solves.2.1 51 = .ok (.iload_n 1, 1) := by decide +kernel
theorem dX12_solves_52 : decode mX12_solves.2.1 52 = .ok (.putfield 467, 3) := by decide +kernel
theorem dX12_solves_55 : decode mX12_solves.2.1 55 = .ok (.aload_n 0, 1) := by decide +kernel
theorem dX12_solves_56 : decode mX12_solves.2.1 56 = .ok (.iconst (-1), 1) := by decide +kernel
theorem dX12_solves_57 : decode mX12_solves.2.1 57 = .ok (.putfield 474, 3) := by decide +kernel
theorem dX12_solves_60 : decode mX12_solves.2.1 60 = .ok (.aload_n 0, 1) := by decide +kernel
theorem dX12_solves_61 : decode mX12_solves.2.1 61 = .ok (.invokevirtual 479, 3) := by decide +kernel
theorem dX12_solves_64 : decode mX12_solves.2.1 64 = .ok (.aload_n 0, 1) := by decide +kernel
theorem dX12_solves_65 : decode mX12_solves.2.1 65 = .ok (.lload_n 2, 1) := by decide +kernel
theorem dX12_solves_66 : decode mX12_solves.2.1 66 = .ok (.lload 4, 2) := by decide +kernel
theorem dX12_solves_68 : decode mX12_solves.2.1 68 = .ok (.invokevirtual 456, 3) := by decide +kernel
theorem dX12_solves_71 : decode mX12_solves.2.1 71 = .ok (.ifCond .eq 5, 3) := by decide +kernel
theorem dX12_solves_74 : decode mX12_solves.2.1 74 = .ok (.iconst 0, 1) := by decide +kernel
theorem dX12_solves_75 : decode mX12_solves.2.1 75 = .ok (.ireturn, 1) := by decide +kernel
theorem dX12_solves_76 : decode mX12_solves.2.1 76 = .ok (.aload_n 0, 1) := by decide +kernel
theorem dX12_solves_77 : decode mX12_solves.2.1 77 = .ok (.iconst 0, 1) := by decide +kernel
theorem dX12_solves_78 : decode mX12_solves.2.1 78 = .ok (.putfield 460, 3) := by decide +kernel
theorem dX12_solves_81 : decode mX12_solves.2.1 81 = .ok (.aload_n 0, 1) := by decide +kernel
theorem dX12_solves_82 : decode mX12_solves.2.1 82 = .ok (.lload_n 2, 1) := by decide +kernel
theorem dX12_solves_83 : decode mX12_solves.2.1 83 = .ok (.lload 4, 2) := by decide +kernel
theorem dX12_solves_85 : decode mX12_solves.2.1 85 = .ok (.invokevirtual 482, 3) := by decide +kernel
theorem dX12_solves_88 : decode mX12_solves.2.1 88 = .ok (.iconst 0, 1) := by decide +kernel
theorem dX12_solves_89 : decode mX12_solves.2.1 89 = .ok (.istore 6, 2) := by decide +kernel
theorem dX12_solves_91 : decode mX12_solves.2.1 91 = .ok (.aload_n 0, 1) := by decide +kernel
theorem dX12_solves_92 : decode mX12_solves.2.1 92 = .ok (.getfield 460, 3) := by decide +kernel
theorem dX12_solves_95 : decode mX12_solves.2.1 95 = .ok (.ifCond .lt 107, 3) := by decide +kernel
theorem dX12_solves_98 : decode mX12_solves.2.1 98 = .ok (.aload_n 0, 1) := by decide +kernel
theorem dX12_solves_99 : decode mX12_solves.2.1 99 = .ok (.getfield 152, 3) := by decide +kernel
theorem dX12_solves_102 : decode mX12_solves.2.1 102 = .ok (.aload_n 0, 1) := by decide +kernel
theorem dX12_solves_103 : decode mX12_solves.2.1 103 = .ok (.getfield 460, 3) := by decide +kernel
theorem dX12_solves_106 : decode mX12_solves.2.1 106 = .ok (.iaload, 1) := by decide +kernel
theorem dX12_solves_107 : decode mX12_solves.2.1 107 = .ok (.aload_n 0, 1) := by decide +kernel
theorem dX12_solves_108 : decode mX12_solves.2.1 108 = .ok (.getfield 439, 3) := by decide +kernel
theorem dX12_solves_111 : decode mX12_solves.2.1 111 = .ok (.if_icmp .ne 64, 3) := by decide +kernel
theorem dX12_solves_114 : decode mX12_solves.2.1 114 = .ok (.aload_n 0, 1) := by decide +kernel
theorem dX12_solves_115 : decode mX12_solves.2.1 115 = .ok (.getfield 164, 3) := by decide +kernel
theorem dX12_solves_118 : decode mX12_solves.2.1 118 = .ok (.aload_n 0, 1) := by decide +kernel
theorem dX12_solves_119 : decode mX12_solves.2.1 119 = .ok (.getfield 460, 3) := by decide +kernel
theorem dX12_solves_122 : decode mX12_solves.2.1 122 = .ok (.iaload, 1) := by decide +kernel
theorem dX12_solves_123 : decode mX12_solves.2.1 123 = .ok (.istore 6, 2) := by decide +kernel
theorem dX12_solves_125 : decode mX12_solves.2.1 125 = .ok (.aload_n 0, 1) := by decide +kernel
theorem dX12_solves_126 : decode mX12_solves.2.1 126 = .ok (.aload_n 0, 1) := by decide +kernel
theorem dX12_solves_127 : decode mX12_solves.2.1 127 = .ok (.getfield 146, 3) := by decide +kernel
theorem dX12_solves_130 : decode mX12_solves.2.1 130 = .ok (.aload_n 0, 1) := by decide +kernel
theorem dX12_solves_131 : decode mX12_solves.2.1 131 = .ok (.getfield 460, 3) := by decide +kernel
theorem dX12_solves_134 : decode mX12_solves.2.1 134 = .ok (.laload, 1) := by decide +kernel
theorem dX12_solves_135 : decode mX12_solves.2.1 135 = .ok (.aload_n 0, 1) := by decide +kernel
theorem dX12_solves_136 : decode mX12_solves.2.1 136 = .ok (.getfield 149, 3) := by decide +kernel
theorem dX12_solves_139 : decode mX12_solves.2.1 139 = .ok (.aload_n 0, 1) := by decide +kernel
theorem dX12_solves_140 : decode mX12_solves.2.1 140 = .ok (.getfield 460, 3) := by decide +kernel
theorem dX12_solves_143 : decode mX12_solves.2.1 143 = .ok (.laload, 1) := by decide +kernel
theorem dX12_solves_144 : decode mX12_solves.2.1 144 = .ok (.iload 6, 2) := by decide +kernel
theorem dX12_solves_146 : decode mX12_solves.2.1 146 = .ok (.invokevirtual 486, 3) := by decide +kernel
theorem dX12_solves_149 : decode mX12_solves.2.1 149 = .ok (.aload_n 0, 1) := by decide +kernel
theorem dX12_solves_150 : decode mX12_solves.2.1 150 = .ok (.dup, 1) := by decide +kernel
theorem dX12_solves_151 : decode mX12_solves.2.1 151 = .ok (.getfield 460, 3) := by decide +kernel
theorem dX12_solves_154 : decode mX12_solves.2.1 154 = .ok (.iconst 1, 1) := by decide +kernel
theorem dX12_solves_155 : decode mX12_solves.2.1 155 = .ok (.isub, 1) := by decide +kernel
theorem dX12_solves_156 : decode mX12_solves.2.1 156 = .ok (.putfield 460, 3) := by decide +kernel
theorem dX12_solves_159 : decode mX12_solves.2.1 159 = .ok (.aload_n 0, 1) := by decide +kernel
theorem dX12_solves_160 : decode mX12_solves.2.1 160 = .ok (.getfield 460, 3) := by decide +kernel
theorem dX12_solves_163 : decode mX12_solves.2.1 163 = .ok (.ifCond .lt (-72), 3) := by decide +kernel
theorem dX12_solves_166 : decode mX12_solves.2.1 166 = .ok (.aload_n 0, 1) := by decide +kernel
theorem dX12_solves_167 : decode mX12_solves.2.1 167 = .ok (.iload 6, 2) := by decide +kernel
theorem dX12_solves_169 : decode mX12_solves.2.1 169 = .ok (.invokevirtual 490, 3) := by decide +kernel
theorem dX12_solves_172 : decode mX12_solves.2.1 172 = .ok (.goto (-81), 3) := by decide +kernel
theorem dX12_solves_175 : decode mX12_solves.2.1 175 = .ok (.aload_n 0, 1) := by decide +kernel
theorem dX12_solves_176 : decode mX12_solves.2.1 176 = .ok (.getfield 155, 3) := by decide +kernel
theorem dX12_solves_179 : decode mX12_solves.2.1 179 = .ok (.aload_n 0, 1) := by decide +kernel
theorem dX12_solves_180 : decode mX12_solves.2.1 180 = .ok (.getfield 460, 3) := by decide +kernel
theorem dX12_solves_183 : decode mX12_solves.2.1 183 = .ok (.iaload, 1) := by decide +kernel
theorem dX12_solves_184 : decode mX12_solves.2.1 184 = .ok (.iconst 3, 1) := by decide +kernel
theorem dX12_solves_185 : decode mX12_solves.2.1 185 = .ok (.if_icmp .ne 10, 3) := by decide +kernel
theorem dX12_solves_188 : decode mX12_solves.2.1 188 = .ok (.aload_n 0, 1) := by decide +kernel
theorem dX12_solves_189 : decode mX12_solves.2.1 189 = .ok (.invokevirtual 493, 3) := by decide +kernel
theorem dX12_solves_192 : decode mX12_solves.2.1 192 = .ok (.goto (-101), 3) := by decide +kernel
theorem dX12_solves_195 : decode mX12_solves.2.1 195 = .ok (.aload_n 0, 1) := by decide +kernel
theorem dX12_solves_196 : decode mX12_solves.2.1 196 = .ok (.invokevirtual 496, 3) := by decide +kernel
theorem dX12_solves_199 : decode mX12_solves.2.1 199 = .ok (.goto (-108), 3) := by decide +kernel
theorem dX12_solves_202 : decode mX12_solves.2.1 202 = .ok (.iload 6, 2) := by decide +kernel
theorem dX12_solves_204 : decode mX12_solves.2.1 204 = .ok (.ireturn, 1) := by decide +kernel
theorem dX12_clearTable_0 : decode mX12_clearTable.2.1 0 = .ok (.iconst 0, 1) := by decide +kernel
theorem dX12_clearTable_1 : decode mX12_clearTable.2.1 1 = .ok (.istore_n 1, 1) := by decide +kernel
theorem dX12_clearTable_2 : decode mX12_clearTable.2.1 2 = .ok (.iload_n 1, 1) := by decide +kernel
theorem dX12_clearTable_3 : decode mX12_clearTable.2.1 3 = .ok (.sipush 16384, 3) := by decide +kernel
theorem dX12_clearTable_6 : decode mX12_clearTable.2.1 6 = .ok (.if_icmp .ge 16, 3) := by decide +kernel
theorem dX12_clearTable_9 : decode mX12_clearTable.2.1 9 = .ok (.aload_n 0, 1) := by decide +kernel
theorem dX12_clearTable_10 : decode mX12_clearTable.2.1 10 = .ok (.getfield 143, 3) := by decide +kernel
theorem dX12_clearTable_13 : decode mX12_clearTable.2.1 13 = .ok (.iload_n 1, 1) := by decide +kernel
theorem dX12_clearTable_14 : decode mX12_clearTable.2.1 14 = .ok (.iconst (-1), 1) := by decide +kernel
theorem dX12_clearTable_15 : decode mX12_clearTable.2.1 15 = .ok (.iastore, 1) := by decide +kernel
theorem dX12_clearTable_16 : decode mX12_clearTable.2.1 16 = .ok (.iinc 1 1, 3) := by decide +kernel
theorem dX12_clearTable_19 : decode mX12_clearTable.2.1 19 = .ok (.goto (-17), 3) := by decide +kernel
theorem dX12_clearTable_22 : decode mX12_clearTable.2.1 22 = .ok (.return_, 1) := by decide +kernel
theorem dX12_isCome_0 : decode mX12_isCome.2.1 0 = .ok (.iconst (-1), 1) := by decide +kernel
theorem dX12_isCome_1 : decode mX12_isCome.2.1 1 = .ok (.istore 5, 2) := by decide +kernel
theorem dX12_isCome_3 : decode mX12_isCome.2.1 3 = .ok (.iconst 0, 1) := by decide +kernel
theorem dX12_isCome_4 : decode mX12_isCome.2.1 4 = .ok (.istore 6, 2) := by decide +kernel
theorem dX12_isCome_6 : decode mX12_isCome.2.1 6 = .ok (.iload 6, 2) := by decide +kernel
theorem dX12_isCome_8 : decode mX12_isCome.2.1 8 = .ok (.aload_n 0, 1) := by decide +kernel
theorem dX12_isCome_9 : decode mX12_isCome.2.1 9 = .ok (.getfield 408, 3) := by decide +kernel
theorem dX12_isCome_12 : decode mX12_isCome.2.1 12 = .ok (.if_icmp .ge 60, 3) := by decide +kernel
theorem dX12_isCome_15 : decode mX12_isCome.2.1 15 = .ok (.lload_n 1, 1) := by decide +kernel
theorem dX12_isCome_16 : decode mX12_isCome.2.1 16 = .ok (.lload_n 3, 1) := by decide +kernel
theorem dX12_isCome_17 : decode mX12_isCome.2.1 17 = .ok (.iload 6, 2) := by decide +kernel
theorem dX12_isCome_19 : decode mX12_isCome.2.1 19 = .ok (.invokestatic 442, 3) := by decide +kernel
theorem dX12_isCome_22 : decode mX12_isCome.2.1 22 = .ok (.ifCond .ne 6, 3) := by decide +kernel
theorem dX12_isCome_25 : decode mX12_isCome.2.1 25 = .ok (.goto 41, 3) := by decide +kernel
theorem dX12_isCome_28 : decode mX12_isCome.2.1 28 = .ok (.iload 5, 2) := by decide +kernel
theorem dX12_isCome_30 : decode mX12_isCome.2.1 30 = .ok (.ifCond .lt 22, 3) := by decide +kernel
theorem dX12_isCome_33 : decode mX12_isCome.2.1 33 = .ok (.aload_n 0, 1) := by decide +kernel
theorem dX12_isCome_34 : decode mX12_isCome.2.1 34 = .ok (.getfield 113, 3) := by decide +kernel
theorem dX12_isCome_37 : decode mX12_isCome.2.1 37 = .ok (.iload 6, 2) := by decide +kernel
theorem dX12_isCome_39 : decode mX12_isCome.2.1 39 = .ok (.iaload, 1) := by decide +kernel
theorem dX12_isCome_40 : decode mX12_isCome.2.1 40 = .ok (.aload_n 0, 1) := by decide +kernel
theorem dX12_isCome_41 : decode mX12_isCome.2.1 41 = .ok (.getfield 113, 3) := by decide +kernel
theorem dX12_isCome_44 : decode mX12_isCome.2.1 44 = .ok (.iload 5, 2) := by decide +kernel
theorem dX12_isCome_46 : decode mX12_isCome.2.1 46 = .ok (.iaload, 1) := by decide +kernel
theorem dX12_isCome_47 : decode mX12_isCome.2.1 47 = .ok (.if_icmp .eq 5, 3) := by decide +kernel
theorem dX12_isCome_50 : decode mX12_isCome.2.1 50 = .ok (.iconst 0, 1) := by decide +kernel
theorem dX12_isCome_51 : decode mX12_isCome.2.1 51 = .ok (.ireturn, 1) := by decide +kernel
theorem dX12_isCome_52 : decode mX12_isCome.2.1 52 = .ok (.iload 5, 2) := by decide +kernel
theorem dX12_isCome_54 : decode mX12_isCome.2.1 54 = .ok (.ifCond .ge 8, 3) := by decide +kernel
theorem dX12_isCome_57 : decode mX12_isCome.2.1 57 = .ok (.iload 6, 2) := by decide +kernel
theorem dX12_isCome_59 : decode mX12_isCome.2.1 59 = .ok (.goto 5, 3) := by decide +kernel
theorem dX12_isCome_62 : decode mX12_isCome.2.1 62 = .ok (.iload 5, 2) := by decide +kernel
theorem dX12_isCome_64 : decode mX12_isCome.2.1 64 = .ok (.istore 5, 2) := by decide +kernel
theorem dX12_isCome_66 : decode mX12_isCome.2.1 66 = .ok (.iinc 6 1, 3) := by decide +kernel
theorem dX12_isCome_69 : decode mX12_isCome.2.1 69 = .ok (.goto (-63), 3) := by decide +kernel
theorem dX12_isCome_72 : decode mX12_isCome.2.1 72 = .ok (.iconst 1, 1) := by decide +kernel
theorem dX12_isCome_73 : decode mX12_isCome.2.1 73 = .ok (.ireturn, 1) := by decide +kernel
theorem dX12_has_0 : decode mX12_has.2.1 0 = .ok (.iload 4, 2) := by decide +kernel
theorem dX12_has_2 : decode mX12_has.2.1 2 = .ok (.bipush 60, 2) := by decide +kernel
theorem dX12_has_4 : decode mX12_has.2.1 4 = .ok (.if_icmp .ge 22, 3) := by decide +kernel
theorem dX12_has_7 : decode mX12_has.2.1 7 = .ok (.lload_n 0, 1) := by decide +kernel
theorem dX12_has_8 : decode mX12_has.2.1 8 = .ok (.iload 4, 2) := by decide +kernel
theorem dX12_has_10 : decode mX12_has.2.1 10 = .ok (.lshr, 1) := by decide +kernel
theorem dX12_has_11 : decode mX12_has.2.1 11 = .ok (.lconst 1, 1) := by decide +kernel
theorem dX12_has_12 : decode mX12_has.2.1 12 = .ok (.land, 1) := by decide +kernel
theorem dX12_has_13 : decode mX12_has.2.1 13 = .ok (.lconst 1, 1) := by decide +kernel
theorem dX12_has_14 : decode mX12_has.2.1 14 = .ok (.lcmp, 1) := by decide +kernel
theorem dX12_has_15 : decode mX12_has.2.1 15 = .ok (.ifCond .ne 7, 3) := by decide +kernel
theorem dX12_has_18 : decode mX12_has.2.1 18 = .ok (.iconst 1, 1) := by decide +kernel
theorem dX12_has_19 : decode mX12_has.2.1 19 = .ok (.goto 26, 3) := by decide +kernel
theorem dX12_has_22 : decode mX12_has.2.1 22 = .ok (.iconst 0, 1) := by decide +kernel
theorem dX12_has_23 : decode mX12_has.2.1 23 = .ok (.goto 22, 3) := by decide +kernel
theorem dX12_has_26 : decode mX12_has.2.1 26 = .ok (.lload_n 2, 1) := by decide +kernel
theorem dX12_has_27 : decode mX12_has.2.1 27 = .ok (.iload 4, 2) := by decide +kernel
theorem dX12_has_29 : decode mX12_has.2.1 29 = .ok (.bipush 60, 2) := by decide +kernel
theorem dX12_has_31 : decode mX12_has.2.1 31 = .ok (.isub, 1) := by decide +kernel
theorem dX12_has_32 : decode mX12_has.2.1 32 = .ok (.lshr, 1) := by decide +kernel
theorem dX12_has_33 : decode mX12_has.2.1 33 = .ok (.lconst 1, 1) := by decide +kernel
theorem dX12_has_34 : decode mX12_has.2.1 34 = .ok (.land, 1) := by decide +kernel
theorem dX12_has_35 : decode mX12_has.2.1 35 = .ok (.lconst 1, 1) := by decide +kernel
theorem dX12_has_36 : decode mX12_has.2.1 36 = .ok (.lcmp, 1) := by decide +kernel
theorem dX12_has_37 : decode mX12_has.2.1 37 = .ok (.ifCond .ne 7, 3) := by decide +kernel
theorem dX12_has_40 : decode mX12_has.2.1 40 = .ok (.iconst 1, 1) := by decide +kernel
theorem dX12_has_41 : decode mX12_has.2.1 41 = .ok (.goto 4, 3) := by decide +kernel
theorem dX12_has_44 : decode mX12_has.2.1 44 = .ok (.iconst 0, 1) := by decide +kernel
theorem dX12_has_45 : decode mX12_has.2.1 45 = .ok (.ireturn, 1) := by decide +kernel
theorem dX12_enter_0 : decode mX12_enter.2.1 0 = .ok (.aload_n 0, 1) := by decide +kernel
theorem dX12_enter_1 : decode mX12_enter.2.1 1 = .ok (.getfield 146, 3) := by decide +kernel
theorem dX12_enter_4 : decode mX12_enter.2.1 4 = .ok (.aload_n 0, 1) := by decide +kernel
theorem dX12_enter_5 : decode mX12_enter.2.1 5 = .ok (.getfield 460, 3) := by decide +kernel
theorem dX12_enter_8 : decode mX12_enter.2.1 8 = .ok (.lload_n 1, 1) := by decide +kernel
theorem dX12_enter_9 : decode mX12_enter.2.1 9 = .ok (.lastore, 1) := by decide +kernel
theorem dX12_enter_10 : decode mX12_enter.2.1 10 = .ok (.aload_n 0, 1) := by decide +kernel
theorem dX12_enter_11 : decode mX12_enter.2.1 11 = .ok (.getfield 149, 3) := by decide +kernel
theorem dX12_enter_14 : decode mX12_enter.2.1 14 = .ok (.aload_n 0, 1) := by decide +kernel
theorem dX12_enter_15 : decode mX12_enter.2.1 15 = .ok (.getfield 460, 3) := by decide +kernel
theorem dX12_enter_18 : decode mX12_enter.2.1 18 = .ok (.lload_n 3, 1) := by decide +kernel
theorem dX12_enter_19 : decode mX12_enter.2.1 19 = .ok (.lastore, 1) := by decide +kernel
theorem dX12_enter_20 : decode mX12_enter.2.1 20 = .ok (.aload_n 0, 1) := by decide +kernel
theorem dX12_enter_21 : decode mX12_enter.2.1 21 = .ok (.getfield 152, 3) := by decide +kernel
theorem dX12_enter_24 : decode mX12_enter.2.1 24 = .ok (.aload_n 0, 1) := by decide +kernel
theorem dX12_enter_25 : decode mX12_enter.2.1 25 = .ok (.getfield 460, 3) := by decide +kernel
theorem dX12_enter_28 : decode mX12_enter.2.1 28 = .ok (.iconst 0, 1) := by decide +kernel
theorem dX12_enter_29 : decode mX12_enter.2.1 29 = .ok (.iastore, 1) := by decide +kernel
theorem dX12_enter_30 : decode mX12_enter.2.1 30 = .ok (.aload_n 0, 1) := by decide +kernel
theorem dX12_enter_31 : decode mX12_enter.2.1 31 = .ok (.getfield 164, 3) := by decide +kernel
theorem dX12_enter_34 : decode mX12_enter.2.1 34 = .ok (.aload_n 0, 1) := by decide +kernel
theorem dX12_enter_35 : decode mX12_enter.2.1 35 = .ok (.getfield 460, 3) := by decide +kernel
theorem dX12_enter_38 : decode mX12_enter.2.1 38 = .ok (.ldc_w 463, 3) := by decide +kernel
theorem dX12_enter_41 : decode mX12_enter.2.1 41 = .ok (.iastore, 1) := by decide +kernel
theorem dX12_enter_42 : decode mX12_enter.2.1 42 = .ok (.aload_n 0, 1) := by decide +kernel
theorem dX12_enter_43 : decode mX12_enter.2.1 43 = .ok (.invokevirtual 464, 3) := by decide +kernel
theorem dX12_enter_46 : decode mX12_enter.2.1 46 = .ok (.return_, 1) := by decide +kernel
theorem dX12_beginPair_0 : decode mX12_beginPair.2.1 0 = .ok (.aload_n 0, 1) := by decide +kernel
theorem dX12_beginPair_1 : decode mX12_beginPair.2.1 1 = .ok (.getfield 155, 3) := by decide +kernel
theorem dX12_beginPair_4 : decode mX12_beginPair.2.1 4 = .ok (.aload_n 0, 1) := by decide +kernel
theorem dX12_beginPair_5 : decode mX12_beginPair.2.1 5 = .ok (.getfield 460, 3) := by decide +kernel
theorem dX12_beginPair_8 : decode mX12_beginPair.2.1 8 = .ok (.iconst 0, 1) := by decide +kernel
theorem dX12_beginPair_9 : decode mX12_beginPair.2.1 9 = .ok (.iastore, 1) := by decide +kernel
theorem dX12_beginPair_10 : decode mX12_beginPair.2.1 10 = .ok (.aload_n 0, 1) := by decide +kernel
theorem dX12_beginPair_11 : decode mX12_beginPair.2.1 11 = .ok (.getfield 158, 3) := by decide +kernel
theorem dX12_beginPair_14 : decode mX12_beginPair.2.1 14 = .ok (.aload_n 0, 1) := by decide +kernel
theorem dX12_beginPair_15 : decode mX12_beginPair.2.1 15 = .ok (.getfield 460, 3) := by decide +kernel
theorem dX12_beginPair_18 : decode mX12_beginPair.2.1 18 = .ok (.iconst 0, 1) := by decide +kernel
theorem dX12_beginPair_19 : decode mX12_beginPair.2.1 19 = .ok (.iastore, 1) := by decide +kernel
theorem dX12_beginPair_20 : decode mX12_beginPair.2.1 20 = .ok (.aload_n 0, 1) := by decide +kernel
theorem dX12_beginPair_21 : decode mX12_beginPair.2.1 21 = .ok (.getfield 161, 3) := by decide +kernel
theorem dX12_beginPair_24 : decode mX12_beginPair.2.1 24 = .ok (.aload_n 0, 1) := by decide +kernel
theorem dX12_beginPair_25 : decode mX12_beginPair.2.1 25 = .ok (.getfield 460, 3) := by decide +kernel
theorem dX12_beginPair_28 : decode mX12_beginPair.2.1 28 = .ok (.iconst 0, 1) := by decide +kernel
theorem dX12_beginPair_29 : decode mX12_beginPair.2.1 29 = .ok (.iastore, 1) := by decide +kernel
theorem dX12_beginPair_30 : decode mX12_beginPair.2.1 30 = .ok (.return_, 1) := by decide +kernel
theorem dX12_meets_0 : decode mX12_meets.2.1 0 = .ok (.aload_n 0, 1) := by decide +kernel
theorem dX12_meets_1 : decode mX12_meets.2.1 1 = .ok (.lload_n 1, 1) := by decide +kernel
theorem dX12_meets_2 : decode mX12_meets.2.1 2 = .ok (.lload_n 3, 1) := by decide +kernel
theorem dX12_meets_3 : decode mX12_meets.2.1 3 = .ok (.invokevirtual 452, 3) := by decide +kernel
theorem dX12_meets_6 : decode mX12_meets.2.1 6 = .ok (.istore 6, 2) := by decide +kernel
theorem dX12_meets_8 : decode mX12_meets.2.1 8 = .ok (.aload_n 0, 1) := by decide +kernel
theorem dX12_meets_9 : decode mX12_meets.2.1 9 = .ok (.getfield 137, 3) := by decide +kernel
theorem dX12_meets_12 : decode mX12_meets.2.1 12 = .ok (.iload 6, 2) := by decide +kernel
theorem dX12_meets_14 : decode mX12_meets.2.1 14 = .ok (.lload_n 1, 1) := by decide +kernel
theorem dX12_meets_15 : decode mX12_meets.2.1 15 = .ok (.lastore, 1) := by decide +kernel
theorem dX12_meets_16 : decode mX12_meets.2.1 16 = .ok (.aload_n 0, 1) := by decide +kernel
theorem dX12_meets_17 : decode mX12_meets.2.1 17 = .ok (.getfield 140, 3) := by decide +kernel
theorem dX12_meets_20 : decode mX12_meets.2.1 20 = .ok (.iload 6, 2) := by decide +kernel
theorem dX12_meets_22 : decode mX12_meets.2.1 22 = .ok (.lload_n 3, 1) := by decide +kernel
theorem dX12_meets_23 : decode mX12_meets.2.1 23 = .ok (.lastore, 1) := by decide +kernel
theorem dX12_meets_24 : decode mX12_meets.2.1 24 = .ok (.aload_n 0, 1) := by decide +kernel
theorem dX12_meets_25 : decode mX12_meets.2.1 25 = .ok (.getfield 143, 3) := by decide +kernel
theorem dX12_meets_28 : decode mX12_meets.2.1 28 = .ok (.iload 6, 2) := by decide +kernel
theorem dX12_meets_30 : decode mX12_meets.2.1 30 = .ok (.iload 5, 2) := by decide +kernel
theorem dX12_meets_32 : decode mX12_meets.2.1 32 = .ok (.iastore, 1) := by decide +kernel
theorem dX12_meets_33 : decode mX12_meets.2.1 33 = .ok (.return_, 1) := by decide +kernel
theorem dX12_slot_0 : decode mX12_slot.2.1 0 = .ok (.lload_n 1, 1) := by decide +kernel
theorem dX12_slot_1 : decode mX12_slot.2.1 1 = .ok (.ldc2_w 446, 3) := by decide +kernel
theorem dX12_slot_4 : decode mX12_slot.2.1 4 = .ok (.lmul, 1) := by decide +kernel
theorem dX12_slot_5 : decode mX12_slot.2.1 5 = .ok (.lload_n 3, 1) := by decide +kernel
theorem dX12_slot_6 : decode mX12_slot.2.1 6 = .ok (.ldc2_w 448, 3) := by decide +kernel
theorem dX12_slot_9 : decode mX12_slot.2.1 9 = .ok (.lmul, 1) := by decide +kernel
theorem dX12_slot_10 : decode mX12_slot.2.1 10 = .ok (.ladd, 1) := by decide +kernel
theorem dX12_slot_11 : decode mX12_slot.2.1 11 = .ok (.lstore 5, 2) := by decide +kernel
theorem dX12_slot_13 : decode mX12_slot.2.1 13 = .ok (.lload 5, 2) := by decide +kernel
theorem dX12_slot_15 : decode mX12_slot.2.1 15 = .ok (.lload 5, 2) := by decide +kernel
theorem dX12_slot_17 : decode mX12_slot.2.1 17 = .ok (.bipush 29, 2) := by decide +kernel
theorem dX12_slot_19 : decode mX12_slot.2.1 19 = .ok (.lshr, 1) := by decide +kernel
theorem dX12_slot_20 : decode mX12_slot.2.1 20 = .ok (.lxor, 1) := by decide +kernel
theorem dX12_slot_21 : decode mX12_slot.2.1 21 = .ok (.lload 5, 2) := by decide +kernel
theorem dX12_slot_23 : decode mX12_slot.2.1 23 = .ok (.bipush 47, 2) := by decide +kernel
theorem dX12_slot_25 : decode mX12_slot.2.1 25 = .ok (.lshr, 1) := by decide +kernel
theorem dX12_slot_26 : decode mX12_slot.2.1 26 = .ok (.lxor, 1) := by decide +kernel
theorem dX12_slot_27 : decode mX12_slot.2.1 27 = .ok (.ldc2_w 450, 3) := by decide +kernel
theorem dX12_slot_30 : decode mX12_slot.2.1 30 = .ok (.land, 1) := by decide +kernel
theorem dX12_slot_31 : decode mX12_slot.2.1 31 = .ok (.l2i, 1) := by decide +kernel
theorem dX12_slot_32 : decode mX12_slot.2.1 32 = .ok (.istore 7, 2) := by decide +kernel
theorem dX12_slot_34 : decode mX12_slot.2.1 34 = .ok (.aload_n 0, 1) := by decide +kernel
theorem dX12_slot_35 : decode mX12_slot.2.1 35 = .ok (.getfield 143, 3) := by decide +kernel
theorem dX12_slot_38 : decode mX12_slot.2.1 38 = .ok (.iload 7, 2) := by decide +kernel
theorem dX12_slot_40 : decode mX12_slot.2.1 40 = .ok (.iaload, 1) := by decide +kernel
theorem dX12_slot_41 : decode mX12_slot.2.1 41 = .ok (.ifCond .lt 40, 3) := by decide +kernel
theorem dX12_slot_44 : decode mX12_slot.2.1 44 = .ok (.aload_n 0, 1) := by decide +kernel
theorem dX12_slot_45 : decode mX12_slot.2.1 45 = .ok (.getfield 137, 3) := by decide +kernel
theorem dX12_slot_48 : decode mX12_slot.2.1 48 = .ok (.iload 7, 2) := by decide +kernel
theorem dX12_slot_50 : decode mX12_slot.2.1 50 = .ok (.laload, 1) := by decide +kernel
theorem dX12_slot_51 : decode mX12_slot.2.1 51 = .ok (.lload_n 1, 1) := by decide +kernel
theorem dX12_slot_52 : decode mX12_slot.2.1 52 = .ok (.lcmp, 1) := by decide +kernel
theorem dX12_slot_53 : decode mX12_slot.2.1 53 = .ok (.ifCond .ne 15, 3) := by decide +kernel
theorem dX12_slot_56 : decode mX12_slot.2.1 56 = .ok (.aload_n 0, 1) := by decide +kernel
theorem dX12_slot_57 : decode mX12_slot.2.1 57 = .ok (.getfield 140, 3) := by decide +kernel
theorem dX12_slot_60 : decode mX12_slot.2.1 60 = .ok (.iload 7, 2) := by decide +kernel
theorem dX12_slot_62 : decode mX12_slot.2.1 62 = .ok (.laload, 1) := by decide +kernel
theorem dX12_slot_63 : decode mX12_slot.2.1 63 = .ok (.lload_n 3, 1) := by decide +kernel
theorem dX12_slot_64 : decode mX12_slot.2.1 64 = .ok (.lcmp, 1) := by decide +kernel
theorem dX12_slot_65 : decode mX12_slot.2.1 65 = .ok (.ifCond .eq 16, 3) := by decide +kernel
theorem dX12_slot_68 : decode mX12_slot.2.1 68 = .ok (.iload 7, 2) := by decide +kernel
theorem dX12_slot_70 : decode mX12_slot.2.1 70 = .ok (.iconst 1, 1) := by decide +kernel
theorem dX12_slot_71 : decode mX12_slot.2.1 71 = .ok (.iadd, 1) := by decide +kernel
theorem dX12_slot_72 : decode mX12_slot.2.1 72 = .ok (.sipush 16383, 3) := by decide +kernel
theorem dX12_slot_75 : decode mX12_slot.2.1 75 = .ok (.iand, 1) := by decide +kernel
theorem dX12_slot_76 : decode mX12_slot.2.1 76 = .ok (.istore 7, 2) := by decide +kernel
theorem dX12_slot_78 : decode mX12_slot.2.1 78 = .ok (.goto (-44), 3) := by decide +kernel
theorem dX12_slot_81 : decode mX12_slot.2.1 81 = .ok (.iload 7, 2) := by decide +kernel
theorem dX12_slot_83 : decode mX12_slot.2.1 83 = .ok (.ireturn, 1) := by decide +kernel
theorem dX12_takes_0 : decode mX12_takes.2.1 0 = .ok (.aload_n 0, 1) := by decide +kernel
theorem dX12_takes_1 : decode mX12_takes.2.1 1 = .ok (.getfield 158, 3) := by decide +kernel
theorem dX12_takes_4 : decode mX12_takes.2.1 4 = .ok (.aload_n 0, 1) := by decide +kernel
theorem dX12_takes_5 : decode mX12_takes.2.1 5 = .ok (.getfield 460, 3) := by decide +kernel
theorem dX12_takes_8 : decode mX12_takes.2.1 8 = .ok (.aload_n 0, 1) := by decide +kernel
theorem dX12_takes_9 : decode mX12_takes.2.1 9 = .ok (.getfield 467, 3) := by decide +kernel
theorem dX12_takes_12 : decode mX12_takes.2.1 12 = .ok (.ifCond .eq 17, 3) := by decide +kernel
theorem dX12_takes_15 : decode mX12_takes.2.1 15 = .ok (.aload_n 0, 1) := by decide +kernel
theorem dX12_takes_16 : decode mX12_takes.2.1 16 = .ok (.getfield 158, 3) := by decide +kernel
theorem dX12_takes_19 : decode mX12_takes.2.1 19 = .ok (.aload_n 0, 1) := by decide +kernel
theorem dX12_takes_20 : decode mX12_takes.2.1 20 = .ok (.getfield 460, 3) := by decide +kernel
theorem dX12_takes_23 : decode mX12_takes.2.1 23 = .ok (.iaload, 1) := by decide +kernel
theorem dX12_takes_24 : decode mX12_takes.2.1 24 = .ok (.iload_n 1, 1) := by decide +kernel
theorem dX12_takes_25 : decode mX12_takes.2.1 25 = .ok (.iadd, 1) := by decide +kernel
theorem dX12_takes_26 : decode mX12_takes.2.1 26 = .ok (.goto 29, 3) := by decide +kernel
theorem dX12_takes_29 : decode mX12_takes.2.1 29 = .ok (.iload_n 1, 1) := by decide +kernel
theorem dX12_takes_30 : decode mX12_takes.2.1 30 = .ok (.aload_n 0, 1) := by decide +kernel
theorem dX12_takes_31 : decode mX12_takes.2.1 31 = .ok (.getfield 158, 3) := by decide +kernel
theorem dX12_takes_34 : decode mX12_takes.2.1 34 = .ok (.aload_n 0, 1) := by decide +kernel
theorem dX12_takes_35 : decode mX12_takes.2.1 35 = .ok (.getfield 460, 3) := by decide +kernel
theorem dX12_takes_38 : decode mX12_takes.2.1 38 = .ok (.iaload, 1) := by decide +kernel
theorem dX12_takes_39 : decode mX12_takes.2.1 39 = .ok (.if_icmp .le 7, 3) := by decide +kernel
theorem dX12_takes_42 : decode mX12_takes.2.1 42 = .ok (.iload_n 1, 1) := by decide +kernel
theorem dX12_takes_43 : decode mX12_takes.2.1 43 = .ok (.goto 12, 3) := by decide +kernel
theorem dX12_takes_46 : decode mX12_takes.2.1 46 = .ok (.aload_n 0, 1) := by decide +kernel
theorem dX12_takes_47 : decode mX12_takes.2.1 47 = .ok (.getfield 158, 3) := by decide +kernel
theorem dX12_takes_50 : decode mX12_takes.2.1 50 = .ok (.aload_n 0, 1) := by decide +kernel
theorem dX12_takes_51 : decode mX12_takes.2.1 51 = .ok (.getfield 460, 3) := by decide +kernel
theorem dX12_takes_54 : decode mX12_takes.2.1 54 = .ok (.iaload, 1) := by decide +kernel
theorem dX12_takes_55 : decode mX12_takes.2.1 55 = .ok (.iastore, 1) := by decide +kernel
theorem dX12_takes_56 : decode mX12_takes.2.1 56 = .ok (.aload_n 0, 1) := by decide +kernel
theorem dX12_takes_57 : decode mX12_takes.2.1 57 = .ok (.getfield 161, 3) := by decide +kernel
theorem dX12_takes_60 : decode mX12_takes.2.1 60 = .ok (.aload_n 0, 1) := by decide +kernel
theorem dX12_takes_61 : decode mX12_takes.2.1 61 = .ok (.getfield 460, 3) := by decide +kernel
theorem dX12_takes_64 : decode mX12_takes.2.1 64 = .ok (.dup2, 1) := by decide +kernel
theorem dX12_takes_65 : decode mX12_takes.2.1 65 = .ok (.iaload, 1) := by decide +kernel
theorem dX12_takes_66 : decode mX12_takes.2.1 66 = .ok (.iconst 1, 1) := by decide +kernel
theorem dX12_takes_67 : decode mX12_takes.2.1 67 = .ok (.iadd, 1) := by decide +kernel
theorem dX12_takes_68 : decode mX12_takes.2.1 68 = .ok (.iastore, 1) := by decide +kernel
theorem dX12_takes_69 : decode mX12_takes.2.1 69 = .ok (.aload_n 0, 1) := by decide +kernel
theorem dX12_takes_70 : decode mX12_takes.2.1 70 = .ok (.getfield 155, 3) := by decide +kernel
theorem dX12_takes_73 : decode mX12_takes.2.1 73 = .ok (.aload_n 0, 1) := by decide +kernel
theorem dX12_takes_74 : decode mX12_takes.2.1 74 = .ok (.getfield 460, 3) := by decide +kernel
theorem dX12_takes_77 : decode mX12_takes.2.1 77 = .ok (.dup2, 1) := by decide +kernel
theorem dX12_takes_78 : decode mX12_takes.2.1 78 = .ok (.iaload, 1) := by decide +kernel
theorem dX12_takes_79 : decode mX12_takes.2.1 79 = .ok (.iconst 1, 1) := by decide +kernel
theorem dX12_takes_80 : decode mX12_takes.2.1 80 = .ok (.iadd, 1) := by decide +kernel
theorem dX12_takes_81 : decode mX12_takes.2.1 81 = .ok (.iastore, 1) := by decide +kernel
theorem dX12_takes_82 : decode mX12_takes.2.1 82 = .ok (.return_, 1) := by decide +kernel
theorem dX12_endPair_0 : decode mX12_endPair.2.1 0 = .ok (.aload_n 0, 1) := by decide +kernel
theorem dX12_endPair_1 : decode mX12_endPair.2.1 1 = .ok (.getfield 158, 3) := by decide +kernel
theorem dX12_endPair_4 : decode mX12_endPair.2.1 4 = .ok (.aload_n 0, 1) := by decide +kernel
theorem dX12_endPair_5 : decode mX12_endPair.2.1 5 = .ok (.getfield 460, 3) := by decide +kernel
theorem dX12_endPair_8 : decode mX12_endPair.2.1 8 = .ok (.iaload, 1) := by decide +kernel
theorem dX12_endPair_9 : decode mX12_endPair.2.1 9 = .ok (.aload_n 0, 1) := by decide +kernel
theorem dX12_endPair_10 : decode mX12_endPair.2.1 10 = .ok (.getfield 467, 3) := by decide +kernel
theorem dX12_endPair_13 : decode mX12_endPair.2.1 13 = .ok (.ifCond .eq 28, 3) := by decide +kernel
theorem dX12_endPair_16 : decode mX12_endPair.2.1 16 = .ok (.aload_n 0, 1) := by decide +kernel
theorem dX12_endPair_17 : decode mX12_endPair.2.1 17 = .ok (.aload_n 0, 1) := by decide +kernel
theorem dX12_endPair_18 : decode mX12_endPair.2.1 18 = .ok (.getfield 146, 3) := by decide +kernel
theorem dX12_endPair_21 : decode mX12_endPair.2.1 21 = .ok (.aload_n 0, 1) := by decide +kernel
theorem dX12_endPair_22 : decode mX12_endPair.2.1 22 = .ok (.getfield 460, 3) := by decide +kernel
theorem dX12_endPair_25 : decode mX12_endPair.2.1 25 = .ok (.laload, 1) := by decide +kernel
theorem dX12_endPair_26 : decode mX12_endPair.2.1 26 = .ok (.aload_n 0, 1) := by decide +kernel
theorem dX12_endPair_27 : decode mX12_endPair.2.1 27 = .ok (.getfield 149, 3) := by decide +kernel
theorem dX12_endPair_30 : decode mX12_endPair.2.1 30 = .ok (.aload_n 0, 1) := by decide +kernel
theorem dX12_endPair_31 : decode mX12_endPair.2.1 31 = .ok (.getfield 460, 3) := by decide +kernel
theorem dX12_endPair_34 : decode mX12_endPair.2.1 34 = .ok (.laload, 1) := by decide +kernel
theorem dX12_endPair_35 : decode mX12_endPair.2.1 35 = .ok (.invokevirtual 471, 3) := by decide +kernel
theorem dX12_endPair_38 : decode mX12_endPair.2.1 38 = .ok (.goto 4, 3) := by decide +kernel
theorem dX12_endPair_41 : decode mX12_endPair.2.1 41 = .ok (.iconst 1, 1) := by decide +kernel
theorem dX12_endPair_42 : decode mX12_endPair.2.1 42 = .ok (.iadd, 1) := by decide +kernel
theorem dX12_endPair_43 : decode mX12_endPair.2.1 43 = .ok (.istore_n 1, 1) := by decide +kernel
theorem dX12_endPair_44 : decode mX12_endPair.2.1 44 = .ok (.aload_n 0, 1) := by decide +kernel
theorem dX12_endPair_45 : decode mX12_endPair.2.1 45 = .ok (.getfield 161, 3) := by decide +kernel
theorem dX12_endPair_48 : decode mX12_endPair.2.1 48 = .ok (.aload_n 0, 1) := by decide +kernel
theorem dX12_endPair_49 : decode mX12_endPair.2.1 49 = .ok (.getfield 460, 3) := by decide +kernel
theorem dX12_endPair_52 : decode mX12_endPair.2.1 52 = .ok (.iaload, 1) := by decide +kernel
theorem dX12_endPair_53 : decode mX12_endPair.2.1 53 = .ok (.iconst 1, 1) := by decide +kernel
theorem dX12_endPair_54 : decode mX12_endPair.2.1 54 = .ok (.if_icmp .le 43, 3) := by decide +kernel
theorem dX12_endPair_57 : decode mX12_endPair.2.1 57 = .ok (.iload_n 1, 1) := by decide +kernel
theorem dX12_endPair_58 : decode mX12_endPair.2.1 58 = .ok (.aload_n 0, 1) := by decide +kernel
theorem dX12_endPair_59 : decode mX12_endPair.2.1 59 = .ok (.getfield 164, 3) := by decide +kernel
theorem dX12_endPair_62 : decode mX12_endPair.2.1 62 = .ok (.aload_n 0, 1) := by decide +kernel
theorem dX12_endPair_63 : decode mX12_endPair.2.1 63 = .ok (.getfield 460, 3) := by decide +kernel
theorem dX12_endPair_66 : decode mX12_endPair.2.1 66 = .ok (.iaload, 1) := by decide +kernel
theorem dX12_endPair_67 : decode mX12_endPair.2.1 67 = .ok (.if_icmp .ge 30, 3) := by decide +kernel
theorem dX12_endPair_70 : decode mX12_endPair.2.1 70 = .ok (.aload_n 0, 1) := by decide +kernel
theorem dX12_endPair_71 : decode mX12_endPair.2.1 71 = .ok (.getfield 164, 3) := by decide +kernel
theorem dX12_endPair_74 : decode mX12_endPair.2.1 74 = .ok (.aload_n 0, 1) := by decide +kernel
theorem dX12_endPair_75 : decode mX12_endPair.2.1 75 = .ok (.getfield 460, 3) := by decide +kernel
theorem dX12_endPair_78 : decode mX12_endPair.2.1 78 = .ok (.iload_n 1, 1) := by decide +kernel
theorem dX12_endPair_79 : decode mX12_endPair.2.1 79 = .ok (.iastore, 1) := by decide +kernel
theorem dX12_endPair_80 : decode mX12_endPair.2.1 80 = .ok (.aload_n 0, 1) := by decide +kernel
theorem dX12_endPair_81 : decode mX12_endPair.2.1 81 = .ok (.getfield 460, 3) := by decide +kernel
theorem dX12_endPair_84 : decode mX12_endPair.2.1 84 = .ok (.ifCond .ne 13, 3) := by decide +kernel
theorem dX12_endPair_87 : decode mX12_endPair.2.1 87 = .ok (.aload_n 0, 1) := by decide +kernel
theorem dX12_endPair_88 : decode mX12_endPair.2.1 88 = .ok (.aload_n 0, 1) := by decide +kernel
theorem dX12_endPair_89 : decode mX12_endPair.2.1 89 = .ok (.getfield 152, 3) := by decide +kernel
theorem dX12_endPair_92 : decode mX12_endPair.2.1 92 = .ok (.iconst 0, 1) := by decide +kernel
theorem dX12_endPair_93 : decode mX12_endPair.2.1 93 = .ok (.iaload, 1) := by decide +kernel
theorem dX12_endPair_94 : decode mX12_endPair.2.1 94 = .ok (.putfield 474, 3) := by decide +kernel
theorem dX12_endPair_97 : decode mX12_endPair.2.1 97 = .ok (.aload_n 0, 1) := by decide +kernel
theorem dX12_endPair_98 : decode mX12_endPair.2.1 98 = .ok (.getfield 152, 3) := by decide +kernel
theorem dX12_endPair_101 : decode mX12_endPair.2.1 101 = .ok (.aload_n 0, 1) := by decide +kernel
theorem dX12_endPair_102 : decode mX12_endPair.2.1 102 = .ok (.getfield 460, 3) := by decide +kernel
theorem dX12_endPair_105 : decode mX12_endPair.2.1 105 = .ok (.dup2, 1) := by decide +kernel
theorem dX12_endPair_106 : decode mX12_endPair.2.1 106 = .ok (.iaload, 1) := by decide +kernel
theorem dX12_endPair_107 : decode mX12_endPair.2.1 107 = .ok (.iconst 1, 1) := by decide +kernel
theorem dX12_endPair_108 : decode mX12_endPair.2.1 108 = .ok (.iadd, 1) := by decide +kernel
theorem dX12_endPair_109 : decode mX12_endPair.2.1 109 = .ok (.iastore, 1) := by decide +kernel
theorem dX12_endPair_110 : decode mX12_endPair.2.1 110 = .ok (.aload_n 0, 1) := by decide +kernel
theorem dX12_endPair_111 : decode mX12_endPair.2.1 111 = .ok (.invokevirtual 464, 3) := by decide +kernel
theorem dX12_endPair_114 : decode mX12_endPair.2.1 114 = .ok (.return_, 1) := by decide +kernel
theorem dX12_sizeOf_0 : decode mX12_sizeOf.2.1 0 = .ok (.iconst 0, 1) := by decide +kernel
theorem dX12_sizeOf_1 : decode mX12_sizeOf.2.1 1 = .ok (.istore 5, 2) := by decide +kernel
theorem dX12_sizeOf_3 : decode mX12_sizeOf.2.1 3 = .ok (.iconst 0, 1) := by decide +kernel
theorem dX12_sizeOf_4 : decode mX12_sizeOf.2.1 4 = .ok (.istore 6, 2) := by decide +kernel
theorem dX12_sizeOf_6 : decode mX12_sizeOf.2.1 6 = .ok (.iload 6, 2) := by decide +kernel
theorem dX12_sizeOf_8 : decode mX12_sizeOf.2.1 8 = .ok (.aload_n 0, 1) := by decide +kernel
theorem dX12_sizeOf_9 : decode mX12_sizeOf.2.1 9 = .ok (.getfield 408, 3) := by decide +kernel
theorem dX12_sizeOf_12 : decode mX12_sizeOf.2.1 12 = .ok (.if_icmp .ge 29, 3) := by decide +kernel
theorem dX12_sizeOf_15 : decode mX12_sizeOf.2.1 15 = .ok (.iload 5, 2) := by decide +kernel
theorem dX12_sizeOf_17 : decode mX12_sizeOf.2.1 17 = .ok (.lload_n 1, 1) := by decide +kernel
theorem dX12_sizeOf_18 : decode mX12_sizeOf.2.1 18 = .ok (.lload_n 3, 1) := by decide +kernel
theorem dX12_sizeOf_19 : decode mX12_sizeOf.2.1 19 = .ok (.iload 6, 2) := by decide +kernel
theorem dX12_sizeOf_21 : decode mX12_sizeOf.2.1 21 = .ok (.invokestatic 442, 3) := by decide +kernel
theorem dX12_sizeOf_24 : decode mX12_sizeOf.2.1 24 = .ok (.ifCond .eq 7, 3) := by decide +kernel
theorem dX12_sizeOf_27 : decode mX12_sizeOf.2.1 27 = .ok (.iconst 1, 1) := by decide +kernel
theorem dX12_sizeOf_28 : decode mX12_sizeOf.2.1 28 = .ok (.goto 4, 3) := by decide +kernel
theorem dX12_sizeOf_31 : decode mX12_sizeOf.2.1 31 = .ok (.iconst 0, 1) := by decide +kernel
theorem dX12_sizeOf_32 : decode mX12_sizeOf.2.1 32 = .ok (.iadd, 1) := by decide +kernel
theorem dX12_sizeOf_33 : decode mX12_sizeOf.2.1 33 = .ok (.istore 5, 2) := by decide +kernel
theorem dX12_sizeOf_35 : decode mX12_sizeOf.2.1 35 = .ok (.iinc 6 1, 3) := by decide +kernel
theorem dX12_sizeOf_38 : decode mX12_sizeOf.2.1 38 = .ok (.goto (-32), 3) := by decide +kernel
theorem dX12_sizeOf_41 : decode mX12_sizeOf.2.1 41 = .ok (.iload 5, 2) := by decide +kernel
theorem dX12_sizeOf_43 : decode mX12_sizeOf.2.1 43 = .ok (.ireturn, 1) := by decide +kernel
theorem dX12_goesOn_0 : decode mX12_goesOn.2.1 0 = .ok (.iconst 3, 1) := by decide +kernel
theorem dX12_goesOn_1 : decode mX12_goesOn.2.1 1 = .ok (.aload_n 0, 1) := by decide +kernel
theorem dX12_goesOn_2 : decode mX12_goesOn.2.1 2 = .ok (.getfield 152, 3) := by decide +kernel
theorem dX12_goesOn_5 : decode mX12_goesOn.2.1 5 = .ok (.aload_n 0, 1) := by decide +kernel
theorem dX12_goesOn_6 : decode mX12_goesOn.2.1 6 = .ok (.getfield 460, 3) := by decide +kernel
theorem dX12_goesOn_9 : decode mX12_goesOn.2.1 9 = .ok (.iaload, 1) := by decide +kernel
theorem dX12_goesOn_10 : decode mX12_goesOn.2.1 10 = .ok (.imul, 1) := by decide +kernel
theorem dX12_goesOn_11 : decode mX12_goesOn.2.1 11 = .ok (.aload_n 0, 1) := by decide +kernel
theorem dX12_goesOn_12 : decode mX12_goesOn.2.1 12 = .ok (.getfield 155, 3) := by decide +kernel
theorem dX12_goesOn_15 : decode mX12_goesOn.2.1 15 = .ok (.aload_n 0, 1) := by decide +kernel
theorem dX12_goesOn_16 : decode mX12_goesOn.2.1 16 = .ok (.getfield 460, 3) := by decide +kernel
theorem dX12_goesOn_19 : decode mX12_goesOn.2.1 19 = .ok (.iaload, 1) := by decide +kernel
theorem dX12_goesOn_20 : decode mX12_goesOn.2.1 20 = .ok (.iadd, 1) := by decide +kernel
theorem dX12_goesOn_21 : decode mX12_goesOn.2.1 21 = .ok (.istore_n 1, 1) := by decide +kernel
theorem dX12_goesOn_22 : decode mX12_goesOn.2.1 22 = .ok (.aload_n 0, 1) := by decide +kernel
theorem dX12_goesOn_23 : decode mX12_goesOn.2.1 23 = .ok (.getfield 146, 3) := by decide +kernel
theorem dX12_goesOn_26 : decode mX12_goesOn.2.1 26 = .ok (.aload_n 0, 1) := by decide +kernel
theorem dX12_goesOn_27 : decode mX12_goesOn.2.1 27 = .ok (.getfield 460, 3) := by decide +kernel
theorem dX12_goesOn_30 : decode mX12_goesOn.2.1 30 = .ok (.laload, 1) := by decide +kernel
theorem dX12_goesOn_31 : decode mX12_goesOn.2.1 31 = .ok (.aload_n 0, 1) := by decide +kernel
theorem dX12_goesOn_32 : decode mX12_goesOn.2.1 32 = .ok (.getfield 131, 3) := by decide +kernel
theorem dX12_goesOn_35 : decode mX12_goesOn.2.1 35 = .ok (.iload_n 1, 1) := by decide +kernel
theorem dX12_goesOn_36 : decode mX12_goesOn.2.1 36 = .ok (.laload, 1) := by decide +kernel
theorem dX12_goesOn_37 : decode mX12_goesOn.2.1 37 = .ok (.land, 1) := by decide +kernel
theorem dX12_goesOn_38 : decode mX12_goesOn.2.1 38 = .ok (.lstore_n 2, 1) := by decide +kernel
theorem dX12_goesOn_39 : decode mX12_goesOn.2.1 39 = .ok (.aload_n 0, 1) := by decide +kernel
theorem dX12_goesOn_40 : decode mX12_goesOn.2.1 40 = .ok (.getfield 149, 3) := by decide +kernel
theorem dX12_goesOn_43 : decode mX12_goesOn.2.1 43 = .ok (.aload_n 0, 1) := by decide +kernel
theorem dX12_goesOn_44 : decode mX12_goesOn.2.1 44 = .ok (.getfield 460, 3) := by decide +kernel
theorem dX12_goesOn_47 : decode mX12_goesOn.2.1 47 = .ok (.laload, 1) := by decide +kernel
theorem dX12_goesOn_48 : decode mX12_goesOn.2.1 48 = .ok (.aload_n 0, 1) := by decide +kernel
theorem dX12_goesOn_49 : decode mX12_goesOn.2.1 49 = .ok (.getfield 134, 3) := by decide +kernel
theorem dX12_goesOn_52 : decode mX12_goesOn.2.1 52 = .ok (.iload_n 1, 1) := by decide +kernel
theorem dX12_goesOn_53 : decode mX12_goesOn.2.1 53 = .ok (.laload, 1) := by decide +kernel
theorem dX12_goesOn_54 : decode mX12_goesOn.2.1 54 = .ok (.land, 1) := by decide +kernel
theorem dX12_goesOn_55 : decode mX12_goesOn.2.1 55 = .ok (.lstore 4, 2) := by decide +kernel
theorem dX12_goesOn_57 : decode mX12_goesOn.2.1 57 = .ok (.lload_n 2, 1) := by decide +kernel
theorem dX12_goesOn_58 : decode mX12_goesOn.2.1 58 = .ok (.lconst 0, 1) := by decide +kernel
theorem dX12_goesOn_59 : decode mX12_goesOn.2.1 59 = .ok (.lcmp, 1) := by decide +kernel
theorem dX12_goesOn_60 : decode mX12_goesOn.2.1 60 = .ok (.ifCond .ne 24, 3) := by decide +kernel
theorem dX12_goesOn_63 : decode mX12_goesOn.2.1 63 = .ok (.lload 4, 2) := by decide +kernel
theorem dX12_goesOn_65 : decode mX12_goesOn.2.1 65 = .ok (.lconst 0, 1) := by decide +kernel
theorem dX12_goesOn_66 : decode mX12_goesOn.2.1 66 = .ok (.lcmp, 1) := by decide +kernel
theorem dX12_goesOn_67 : decode mX12_goesOn.2.1 67 = .ok (.ifCond .ne 17, 3) := by decide +kernel
theorem dX12_goesOn_70 : decode mX12_goesOn.2.1 70 = .ok (.aload_n 0, 1) := by decide +kernel
theorem dX12_goesOn_71 : decode mX12_goesOn.2.1 71 = .ok (.getfield 155, 3) := by decide +kernel
theorem dX12_goesOn_74 : decode mX12_goesOn.2.1 74 = .ok (.aload_n 0, 1) := by decide +kernel
theorem dX12_goesOn_75 : decode mX12_goesOn.2.1 75 = .ok (.getfield 460, 3) := by decide +kernel
theorem dX12_goesOn_78 : decode mX12_goesOn.2.1 78 = .ok (.dup2, 1) := by decide +kernel
theorem dX12_goesOn_79 : decode mX12_goesOn.2.1 79 = .ok (.iaload, 1) := by decide +kernel
theorem dX12_goesOn_80 : decode mX12_goesOn.2.1 80 = .ok (.iconst 1, 1) := by decide +kernel
theorem dX12_goesOn_81 : decode mX12_goesOn.2.1 81 = .ok (.iadd, 1) := by decide +kernel
theorem dX12_goesOn_82 : decode mX12_goesOn.2.1 82 = .ok (.iastore, 1) := by decide +kernel
theorem dX12_goesOn_83 : decode mX12_goesOn.2.1 83 = .ok (.return_, 1) := by decide +kernel
theorem dX12_goesOn_84 : decode mX12_goesOn.2.1 84 = .ok (.lload_n 2, 1) := by decide +kernel
theorem dX12_goesOn_85 : decode mX12_goesOn.2.1 85 = .ok (.aload_n 0, 1) := by decide +kernel
theorem dX12_goesOn_86 : decode mX12_goesOn.2.1 86 = .ok (.getfield 146, 3) := by decide +kernel
theorem dX12_goesOn_89 : decode mX12_goesOn.2.1 89 = .ok (.aload_n 0, 1) := by decide +kernel
theorem dX12_goesOn_90 : decode mX12_goesOn.2.1 90 = .ok (.getfield 460, 3) := by decide +kernel
theorem dX12_goesOn_93 : decode mX12_goesOn.2.1 93 = .ok (.laload, 1) := by decide +kernel
theorem dX12_goesOn_94 : decode mX12_goesOn.2.1 94 = .ok (.lcmp, 1) := by decide +kernel
theorem dX12_goesOn_95 : decode mX12_goesOn.2.1 95 = .ok (.ifCond .ne 36, 3) := by decide +kernel
theorem dX12_goesOn_98 : decode mX12_goesOn.2.1 98 = .ok (.lload 4, 2) := by decide +kernel
theorem dX12_goesOn_100 : decode mX12_goesOn.2.1 100 = .ok (.aload_n 0, 1) := by decide +kernel
theorem dX12_goesOn_101 : decode mX12_goesOn.2.1 101 = .ok (.getfield 149, 3) := by decide +kernel
theorem dX12_goesOn_104 : decode mX12_goesOn.2.1 104 = .ok (.aload_n 0, 1) := by decide +kernel
theorem dX12_goesOn_105 : decode mX12_goesOn.2.1 105 = .ok (.getfield 460, 3) := by decide +kernel
theorem dX12_goesOn_108 : decode mX12_goesOn.2.1 108 = .ok (.laload, 1) := by decide +kernel
theorem dX12_goesOn_109 : decode mX12_goesOn.2.1 109 = .ok (.lcmp, 1) := by decide +kernel
theorem dX12_goesOn_110 : decode mX12_goesOn.2.1 110 = .ok (.ifCond .ne 21, 3) := by decide +kernel
theorem dX12_goesOn_113 : decode mX12_goesOn.2.1 113 = .ok (.aload_n 0, 1) := by decide +kernel
theorem dX12_goesOn_114 : decode mX12_goesOn.2.1 114 = .ok (.getfield 152, 3) := by decide +kernel
theorem dX12_goesOn_117 : decode mX12_goesOn.2.1 117 = .ok (.aload_n 0, 1) := by decide +kernel
theorem dX12_goesOn_118 : decode mX12_goesOn.2.1 118 = .ok (.getfield 460, 3) := by decide +kernel
theorem dX12_goesOn_121 : decode mX12_goesOn.2.1 121 = .ok (.dup2, 1) := by decide +kernel
theorem dX12_goesOn_122 : decode mX12_goesOn.2.1 122 = .ok (.iaload, 1) := by decide +kernel
theorem dX12_goesOn_123 : decode mX12_goesOn.2.1 123 = .ok (.iconst 1, 1) := by decide +kernel
theorem dX12_goesOn_124 : decode mX12_goesOn.2.1 124 = .ok (.iadd, 1) := by decide +kernel
theorem dX12_goesOn_125 : decode mX12_goesOn.2.1 125 = .ok (.iastore, 1) := by decide +kernel
theorem dX12_goesOn_126 : decode mX12_goesOn.2.1 126 = .ok (.aload_n 0, 1) := by decide +kernel
theorem dX12_goesOn_127 : decode mX12_goesOn.2.1 127 = .ok (.invokevirtual 464, 3) := by decide +kernel
theorem dX12_goesOn_130 : decode mX12_goesOn.2.1 130 = .ok (.return_, 1) := by decide +kernel
theorem dX12_goesOn_131 : decode mX12_goesOn.2.1 131 = .ok (.aload_n 0, 1) := by decide +kernel
theorem dX12_goesOn_132 : decode mX12_goesOn.2.1 132 = .ok (.lload_n 2, 1) := by decide +kernel
theorem dX12_goesOn_133 : decode mX12_goesOn.2.1 133 = .ok (.lload 4, 2) := by decide +kernel
theorem dX12_goesOn_135 : decode mX12_goesOn.2.1 135 = .ok (.invokevirtual 499, 3) := by decide +kernel
theorem dX12_goesOn_138 : decode mX12_goesOn.2.1 138 = .ok (.istore 6, 2) := by decide +kernel
theorem dX12_goesOn_140 : decode mX12_goesOn.2.1 140 = .ok (.iload 6, 2) := by decide +kernel
theorem dX12_goesOn_142 : decode mX12_goesOn.2.1 142 = .ok (.ifCond .lt 10, 3) := by decide +kernel
theorem dX12_goesOn_145 : decode mX12_goesOn.2.1 145 = .ok (.aload_n 0, 1) := by decide +kernel
theorem dX12_goesOn_146 : decode mX12_goesOn.2.1 146 = .ok (.iload 6, 2) := by decide +kernel
theorem dX12_goesOn_148 : decode mX12_goesOn.2.1 148 = .ok (.invokevirtual 490, 3) := by decide +kernel
theorem dX12_goesOn_151 : decode mX12_goesOn.2.1 151 = .ok (.return_, 1) := by decide +kernel
theorem dX12_goesOn_152 : decode mX12_goesOn.2.1 152 = .ok (.aload_n 0, 1) := by decide +kernel
theorem dX12_goesOn_153 : decode mX12_goesOn.2.1 153 = .ok (.dup, 1) := by decide +kernel
theorem dX12_goesOn_154 : decode mX12_goesOn.2.1 154 = .ok (.getfield 460, 3) := by decide +kernel
theorem dX12_goesOn_157 : decode mX12_goesOn.2.1 157 = .ok (.iconst 1, 1) := by decide +kernel
theorem dX12_goesOn_158 : decode mX12_goesOn.2.1 158 = .ok (.iadd, 1) := by decide +kernel
theorem dX12_goesOn_159 : decode mX12_goesOn.2.1 159 = .ok (.putfield 460, 3) := by decide +kernel
theorem dX12_goesOn_162 : decode mX12_goesOn.2.1 162 = .ok (.aload_n 0, 1) := by decide +kernel
theorem dX12_goesOn_163 : decode mX12_goesOn.2.1 163 = .ok (.lload_n 2, 1) := by decide +kernel
theorem dX12_goesOn_164 : decode mX12_goesOn.2.1 164 = .ok (.lload 4, 2) := by decide +kernel
theorem dX12_goesOn_166 : decode mX12_goesOn.2.1 166 = .ok (.invokevirtual 482, 3) := by decide +kernel
theorem dX12_goesOn_169 : decode mX12_goesOn.2.1 169 = .ok (.return_, 1) := by decide +kernel
theorem dX12_known_0 : decode mX12_known.2.1 0 = .ok (.aload_n 0, 1) := by decide +kernel
theorem dX12_known_1 : decode mX12_known.2.1 1 = .ok (.lload_n 1, 1) := by decide +kernel
theorem dX12_known_2 : decode mX12_known.2.1 2 = .ok (.lload_n 3, 1) := by decide +kernel
theorem dX12_known_3 : decode mX12_known.2.1 3 = .ok (.invokevirtual 456, 3) := by decide +kernel
theorem dX12_known_6 : decode mX12_known.2.1 6 = .ok (.ifCond .eq 5, 3) := by decide +kernel
theorem dX12_known_9 : decode mX12_known.2.1 9 = .ok (.iconst 0, 1) := by decide +kernel
theorem dX12_known_10 : decode mX12_known.2.1 10 = .ok (.ireturn, 1) := by decide +kernel
theorem dX12_known_11 : decode mX12_known.2.1 11 = .ok (.aload_n 0, 1) := by decide +kernel
theorem dX12_known_12 : decode mX12_known.2.1 12 = .ok (.getfield 143, 3) := by decide +kernel
theorem dX12_known_15 : decode mX12_known.2.1 15 = .ok (.aload_n 0, 1) := by decide +kernel
theorem dX12_known_16 : decode mX12_known.2.1 16 = .ok (.lload_n 1, 1) := by decide +kernel
theorem dX12_known_17 : decode mX12_known.2.1 17 = .ok (.lload_n 3, 1) := by decide +kernel
theorem dX12_known_18 : decode mX12_known.2.1 18 = .ok (.invokevirtual 452, 3) := by decide +kernel
theorem dX12_known_21 : decode mX12_known.2.1 21 = .ok (.iaload, 1) := by decide +kernel
theorem dX12_known_22 : decode mX12_known.2.1 22 = .ok (.ireturn, 1) := by decide +kernel
theorem dX12_next_0 : decode mX12_next.2.1 0 = .ok (.aload_n 0, 1) := by decide +kernel
theorem dX12_next_1 : decode mX12_next.2.1 1 = .ok (.iload_n 1, 1) := by decide +kernel
theorem dX12_next_2 : decode mX12_next.2.1 2 = .ok (.iload_n 2, 1) := by decide +kernel
theorem dX12_next_3 : decode mX12_next.2.1 3 = .ok (.invokevirtual 508, 3) := by decide +kernel
theorem dX12_next_6 : decode mX12_next.2.1 6 = .ok (.ifCond .ne 5, 3) := by decide +kernel
theorem dX12_next_9 : decode mX12_next.2.1 9 = .ok (.iconst (-1), 1) := by decide +kernel
theorem dX12_next_10 : decode mX12_next.2.1 10 = .ok (.ireturn, 1) := by decide +kernel
theorem dX12_next_11 : decode mX12_next.2.1 11 = .ok (.aload_n 0, 1) := by decide +kernel
theorem dX12_next_12 : decode mX12_next.2.1 12 = .ok (.iload_n 1, 1) := by decide +kernel
theorem dX12_next_13 : decode mX12_next.2.1 13 = .ok (.iload_n 2, 1) := by decide +kernel
theorem dX12_next_14 : decode mX12_next.2.1 14 = .ok (.iload_n 3, 1) := by decide +kernel
theorem dX12_next_15 : decode mX12_next.2.1 15 = .ok (.invokevirtual 511, 3) := by decide +kernel
theorem dX12_next_18 : decode mX12_next.2.1 18 = .ok (.ifCond .ne 6, 3) := by decide +kernel
theorem dX12_next_21 : decode mX12_next.2.1 21 = .ok (.bipush (-2), 2) := by decide +kernel
theorem dX12_next_23 : decode mX12_next.2.1 23 = .ok (.ireturn, 1) := by decide +kernel
theorem dX12_next_24 : decode mX12_next.2.1 24 = .ok (.aload_n 0, 1) := by decide +kernel
theorem dX12_next_25 : decode mX12_next.2.1 25 = .ok (.iconst 0, 1) := by decide +kernel
theorem dX12_next_26 : decode mX12_next.2.1 26 = .ok (.invokevirtual 514, 3) := by decide +kernel
theorem dX12_next_29 : decode mX12_next.2.1 29 = .ok (.pop, 1) := by decide +kernel
theorem dX12_next_30 : decode mX12_next.2.1 30 = .ok (.aload_n 0, 1) := by decide +kernel
theorem dX12_next_31 : decode mX12_next.2.1 31 = .ok (.invokevirtual 518, 3) := by decide +kernel
theorem dX12_next_34 : decode mX12_next.2.1 34 = .ok (.ireturn, 1) := by decide +kernel
theorem dX12_pairNumber_0 : decode mX12_pairNumber.2.1 0 = .ok (.aload_n 0, 1) := by decide +kernel
theorem dX12_pairNumber_1 : decode mX12_pairNumber.2.1 1 = .ok (.getfield 474, 3) := by decide +kernel
theorem dX12_pairNumber_4 : decode mX12_pairNumber.2.1 4 = .ok (.ifCond .ge 7, 3) := by decide +kernel
theorem dX12_pairNumber_7 : decode mX12_pairNumber.2.1 7 = .ok (.iconst (-1), 1) := by decide +kernel
theorem dX12_pairNumber_8 : decode mX12_pairNumber.2.1 8 = .ok (.goto 25, 3) := by decide +kernel
theorem dX12_pairNumber_11 : decode mX12_pairNumber.2.1 11 = .ok (.bipush 10, 2) := by decide +kernel
theorem dX12_pairNumber_13 : decode mX12_pairNumber.2.1 13 = .ok (.aload_n 0, 1) := by decide +kernel
theorem dX12_pairNumber_14 : decode mX12_pairNumber.2.1 14 = .ok (.getfield 125, 3) := by decide +kernel
theorem dX12_pairNumber_17 : decode mX12_pairNumber.2.1 17 = .ok (.aload_n 0, 1) := by decide +kernel
theorem dX12_pairNumber_18 : decode mX12_pairNumber.2.1 18 = .ok (.getfield 474, 3) := by decide +kernel
theorem dX12_pairNumber_21 : decode mX12_pairNumber.2.1 21 = .ok (.iaload, 1) := by decide +kernel
theorem dX12_pairNumber_22 : decode mX12_pairNumber.2.1 22 = .ok (.imul, 1) := by decide +kernel
theorem dX12_pairNumber_23 : decode mX12_pairNumber.2.1 23 = .ok (.aload_n 0, 1) := by decide +kernel
theorem dX12_pairNumber_24 : decode mX12_pairNumber.2.1 24 = .ok (.getfield 128, 3) := by decide +kernel
theorem dX12_pairNumber_27 : decode mX12_pairNumber.2.1 27 = .ok (.aload_n 0, 1) := by decide +kernel
theorem dX12_pairNumber_28 : decode mX12_pairNumber.2.1 28 = .ok (.getfield 474, 3) := by decide +kernel
theorem dX12_pairNumber_31 : decode mX12_pairNumber.2.1 31 = .ok (.iaload, 1) := by decide +kernel
theorem dX12_pairNumber_32 : decode mX12_pairNumber.2.1 32 = .ok (.iadd, 1) := by decide +kernel
theorem dX12_pairNumber_33 : decode mX12_pairNumber.2.1 33 = .ok (.ireturn, 1) := by decide +kernel
theorem dX12_total_0 : decode mX12_total.2.1 0 = .ok (.aload_n 0, 1) := by decide +kernel
theorem dX12_total_1 : decode mX12_total.2.1 1 = .ok (.iload_n 1, 1) := by decide +kernel
theorem dX12_total_2 : decode mX12_total.2.1 2 = .ok (.iload_n 2, 1) := by decide +kernel
theorem dX12_total_3 : decode mX12_total.2.1 3 = .ok (.invokevirtual 508, 3) := by decide +kernel
theorem dX12_total_6 : decode mX12_total.2.1 6 = .ok (.ifCond .eq 12, 3) := by decide +kernel
theorem dX12_total_9 : decode mX12_total.2.1 9 = .ok (.iload_n 3, 1) := by decide +kernel
theorem dX12_total_10 : decode mX12_total.2.1 10 = .ok (.iconst 0, 1) := by decide +kernel
theorem dX12_total_11 : decode mX12_total.2.1 11 = .ok (.iconst 1, 1) := by decide +kernel
theorem dX12_total_12 : decode mX12_total.2.1 12 = .ok (.invokestatic 367, 3) := by decide +kernel
theorem dX12_total_15 : decode mX12_total.2.1 15 = .ok (.ifCond .ne 5, 3) := by decide +kernel
theorem dX12_total_18 : decode mX12_total.2.1 18 = .ok (.iconst (-1), 1) := by decide +kernel
theorem dX12_total_19 : decode mX12_total.2.1 19 = .ok (.ireturn, 1) := by decide +kernel
theorem dX12_total_20 : decode mX12_total.2.1 20 = .ok (.aload_n 0, 1) := by decide +kernel
theorem dX12_total_21 : decode mX12_total.2.1 21 = .ok (.iload_n 1, 1) := by decide +kernel
theorem dX12_total_22 : decode mX12_total.2.1 22 = .ok (.iload_n 2, 1) := by decide +kernel
theorem dX12_total_23 : decode mX12_total.2.1 23 = .ok (.iload 4, 2) := by decide +kernel
theorem dX12_total_25 : decode mX12_total.2.1 25 = .ok (.invokevirtual 511, 3) := by decide +kernel
theorem dX12_total_28 : decode mX12_total.2.1 28 = .ok (.ifCond .ne 6, 3) := by decide +kernel
theorem dX12_total_31 : decode mX12_total.2.1 31 = .ok (.bipush (-2), 2) := by decide +kernel
theorem dX12_total_33 : decode mX12_total.2.1 33 = .ok (.ireturn, 1) := by decide +kernel
theorem dX12_total_34 : decode mX12_total.2.1 34 = .ok (.aload_n 0, 1) := by decide +kernel
theorem dX12_total_35 : decode mX12_total.2.1 35 = .ok (.iconst 1, 1) := by decide +kernel
theorem dX12_total_36 : decode mX12_total.2.1 36 = .ok (.invokevirtual 514, 3) := by decide +kernel
theorem dX12_total_39 : decode mX12_total.2.1 39 = .ok (.istore 5, 2) := by decide +kernel
theorem dX12_total_41 : decode mX12_total.2.1 41 = .ok (.iload_n 3, 1) := by decide +kernel
theorem dX12_total_42 : decode mX12_total.2.1 42 = .ok (.ifCond .ne 8, 3) := by decide +kernel
theorem dX12_total_45 : decode mX12_total.2.1 45 = .ok (.iload 5, 2) := by decide +kernel
theorem dX12_total_47 : decode mX12_total.2.1 47 = .ok (.goto 7, 3) := by decide +kernel
theorem dX12_total_50 : decode mX12_total.2.1 50 = .ok (.aload_n 0, 1) := by decide +kernel
theorem dX12_total_51 : decode mX12_total.2.1 51 = .ok (.invokevirtual 518, 3) := by decide +kernel
theorem dX12_total_54 : decode mX12_total.2.1 54 = .ok (.ireturn, 1) := by decide +kernel
theorem dX12_answers_0 : decode mX12_answers.2.1 0 = .ok (.aload_n 0, 1) := by decide +kernel
theorem dX12_answers_1 : decode mX12_answers.2.1 1 = .ok (.iload_n 1, 1) := by decide +kernel
theorem dX12_answers_2 : decode mX12_answers.2.1 2 = .ok (.iload_n 2, 1) := by decide +kernel
theorem dX12_answers_3 : decode mX12_answers.2.1 3 = .ok (.invokevirtual 508, 3) := by decide +kernel
theorem dX12_answers_6 : decode mX12_answers.2.1 6 = .ok (.ifCond .eq 21, 3) := by decide +kernel
theorem dX12_answers_9 : decode mX12_answers.2.1 9 = .ok (.iload_n 3, 1) := by decide +kernel
theorem dX12_answers_10 : decode mX12_answers.2.1 10 = .ok (.iconst 0, 1) := by decide +kernel
theorem dX12_answers_11 : decode mX12_answers.2.1 11 = .ok (.iconst 2, 1) := by decide +kernel
theorem dX12_answers_12 : decode mX12_answers.2.1 12 = .ok (.invokestatic 367, 3) := by decide +kernel
theorem dX12_answers_15 : decode mX12_answers.2.1 15 = .ok (.ifCond .eq 12, 3) := by decide +kernel
theorem dX12_answers_18 : decode mX12_answers.2.1 18 = .ok (.aload_n 0, 1) := by decide +kernel
theorem dX12_answers_19 : decode mX12_answers.2.1 19 = .ok (.iload 4, 2) := by decide +kernel
theorem dX12_answers_21 : decode mX12_answers.2.1 21 = .ok (.invokevirtual 424, 3) := by decide +kernel
theorem dX12_answers_24 : decode mX12_answers.2.1 24 = .ok (.ifCond .ne 5, 3) := by decide +kernel
theorem dX12_answers_27 : decode mX12_answers.2.1 27 = .ok (.iconst (-1), 1) := by decide +kernel
theorem dX12_answers_28 : decode mX12_answers.2.1 28 = .ok (.ireturn, 1) := by decide +kernel
theorem dX12_answers_29 : decode mX12_answers.2.1 29 = .ok (.aload_n 0, 1) := by decide +kernel
theorem dX12_answers_30 : decode mX12_answers.2.1 30 = .ok (.iload_n 1, 1) := by decide +kernel
theorem dX12_answers_31 : decode mX12_answers.2.1 31 = .ok (.iload_n 2, 1) := by decide +kernel
theorem dX12_answers_32 : decode mX12_answers.2.1 32 = .ok (.invokevirtual 505, 3) := by decide +kernel
theorem dX12_answers_35 : decode mX12_answers.2.1 35 = .ok (.iconst 0, 1) := by decide +kernel
theorem dX12_answers_36 : decode mX12_answers.2.1 36 = .ok (.istore 5, 2) := by decide +kernel
theorem dX12_answers_38 : decode mX12_answers.2.1 38 = .ok (.iconst (-1), 1) := by decide +kernel
theorem dX12_answers_39 : decode mX12_answers.2.1 39 = .ok (.istore 6, 2) := by decide +kernel
theorem dX12_answers_41 : decode mX12_answers.2.1 41 = .ok (.iconst 0, 1) := by decide +kernel
theorem dX12_answers_42 : decode mX12_answers.2.1 42 = .ok (.istore 7, 2) := by decide +kernel
theorem dX12_answers_44 : decode mX12_answers.2.1 44 = .ok (.iconst 0, 1) := by decide +kernel
theorem dX12_answers_45 : decode mX12_answers.2.1 45 = .ok (.istore 8, 2) := by decide +kernel
theorem dX12_answers_47 : decode mX12_answers.2.1 47 = .ok (.iload 8, 2) := by decide +kernel
theorem dX12_answers_49 : decode mX12_answers.2.1 49 = .ok (.aload_n 0, 1) := by decide +kernel
theorem dX12_answers_50 : decode mX12_answers.2.1 50 = .ok (.getfield 408, 3) := by decide +kernel
theorem dX12_answers_53 : decode mX12_answers.2.1 53 = .ok (.if_icmp .ge 127, 3) := by decide +kernel
theorem dX12_answers_56 : decode mX12_answers.2.1 56 = .ok (.iconst 0, 1) := by decide +kernel
theorem dX12_answers_57 : decode mX12_answers.2.1 57 = .ok (.istore 9, 2) := by decide +kernel
theorem dX12_answers_59 : decode mX12_answers.2.1 59 = .ok (.iconst 1, 1) := by decide +kernel
theorem dX12_answers_60 : decode mX12_answers.2.1 60 = .ok (.istore 10, 2) := by decide +kernel
theorem dX12_answers_62 : decode mX12_answers.2.1 62 = .ok (.iconst 0, 1) := by decide +kernel
theorem dX12_answers_63 : decode mX12_answers.2.1 63 = .ok (.istore 11, 2) := by decide +kernel
theorem dX12_answers_65 : decode mX12_answers.2.1 65 = .ok (.iload 11, 2) := by decide +kernel
theorem dX12_answers_67 : decode mX12_answers.2.1 67 = .ok (.aload_n 0, 1) := by decide +kernel
theorem dX12_answers_68 : decode mX12_answers.2.1 68 = .ok (.getfield 408, 3) := by decide +kernel
theorem dX12_answers_71 : decode mX12_answers.2.1 71 = .ok (.if_icmp .ge 51, 3) := by decide +kernel
theorem dX12_answers_74 : decode mX12_answers.2.1 74 = .ok (.aload_n 0, 1) := by decide +kernel
theorem dX12_answers_75 : decode mX12_answers.2.1 75 = .ok (.getfield 113, 3) := by decide +kernel
theorem dX12_answers_78 : decode mX12_answers.2.1 78 = .ok (.iload 11, 2) := by decide +kernel
theorem dX12_answers_80 : decode mX12_answers.2.1 80 = .ok (.iaload, 1) := by decide +kernel
theorem dX12_answers_81 : decode mX12_answers.2.1 81 = .ok (.aload_n 0, 1) := by decide +kernel
theorem dX12_answers_82 : decode mX12_answers.2.1 82 = .ok (.getfield 113, 3) := by decide +kernel
theorem dX12_answers_85 : decode mX12_answers.2.1 85 = .ok (.iload 8, 2) := by decide +kernel
theorem dX12_answers_87 : decode mX12_answers.2.1 87 = .ok (.iaload, 1) := by decide +kernel
theorem dX12_answers_88 : decode mX12_answers.2.1 88 = .ok (.if_icmp .eq 6, 3) := by decide +kernel
theorem dX12_answers_91 : decode mX12_answers.2.1 91 = .ok (.goto 25, 3) := by decide +kernel
theorem dX12_answers_94 : decode mX12_answers.2.1 94 = .ok (.iinc 9 1, 3) := by decide +kernel
theorem dX12_answers_97 : decode mX12_answers.2.1 97 = .ok (.iload 10, 2) := by decide +kernel
theorem dX12_answers_99 : decode mX12_answers.2.1 99 = .ok (.ifCond .eq 14, 3) := by decide +kernel
theorem dX12_answers_102 : decode mX12_answers.2.1 102 = .ok (.iload 11, 2) := by decide +kernel
theorem dX12_answers_104 : decode mX12_answers.2.1 104 = .ok (.iload 8, 2) := by decide +kernel
theorem dX12_answers_106 : decode mX12_answers.2.1 106 = .ok (.if_icmp .lt 7, 3) := by decide +kernel
theorem dX12_answers_109 : decode mX12_answers.2.1 109 = .ok (.iconst 1, 1) := by decide +kernel
theorem dX12_answers_110 : decode mX12_answers.2.1 110 = .ok (.goto 4, 3) := by decide +kernel
theorem dX12_answers_113 : decode mX12_answers.2.1 113 = .ok (.iconst 0, 1) := by decide +kernel
theorem dX12_answers_114 : decode mX12_answers.2.1 114 = .ok (.istore 10, 2) := by decide +kernel
theorem dX12_answers_116 : decode mX12_answers.2.1 116 = .ok (.iinc 11 1, 3) := by decide +kernel
theorem dX12_answers_119 : decode mX12_answers.2.1 119 = .ok (.goto (-54), 3) := by decide +kernel
theorem dX12_answers_122 : decode mX12_answers.2.1 122 = .ok (.iload 10, 2) := by decide +kernel
theorem dX12_answers_124 : decode mX12_answers.2.1 124 = .ok (.ifCond .ne 6, 3) := by decide +kernel
theorem dX12_answers_127 : decode mX12_answers.2.1 127 = .ok (.goto 47, 3) := by decide +kernel
theorem dX12_answers_130 : decode mX12_answers.2.1 130 = .ok (.iinc 5 1, 3) := by decide +kernel
theorem dX12_answers_133 : decode mX12_answers.2.1 133 = .ok (.aload_n 0, 1) := by decide +kernel
theorem dX12_answers_134 : decode mX12_answers.2.1 134 = .ok (.iload 8, 2) := by decide +kernel
theorem dX12_answers_136 : decode mX12_answers.2.1 136 = .ok (.iload_n 1, 1) := by decide +kernel
theorem dX12_answers_137 : decode mX12_answers.2.1 137 = .ok (.invokevirtual 521, 3) := by decide +kernel
theorem dX12_answers_140 : decode mX12_answers.2.1 140 = .ok (.istore 11, 2) := by decide +kernel
theorem dX12_answers_142 : decode mX12_answers.2.1 142 = .ok (.iload 9, 2) := by decide +kernel
theorem dX12_answers_144 : decode mX12_answers.2.1 144 = .ok (.iload 7, 2) := by decide +kernel
theorem dX12_answers_146 : decode mX12_answers.2.1 146 = .ok (.if_icmp .lt 28, 3) := by decide +kernel
theorem dX12_answers_149 : decode mX12_answers.2.1 149 = .ok (.iload 9, 2) := by decide +kernel
theorem dX12_answers_151 : decode mX12_answers.2.1 151 = .ok (.iload 7, 2) := by decide +kernel
theorem dX12_answers_153 : decode mX12_answers.2.1 153 = .ok (.if_icmp .ne 13, 3) := by decide +kernel
theorem dX12_answers_156 : decode mX12_answers.2.1 156 = .ok (.iload 11, 2) := by decide +kernel
theorem dX12_answers_158 : decode mX12_answers.2.1 158 = .ok (.iload 6, 2) := by decide +kernel
theorem dX12_answers_160 : decode mX12_answers.2.1 160 = .ok (.if_icmp .lt 6, 3) := by decide +kernel
theorem dX12_answers_163 : decode mX12_answers.2.1 163 = .ok (.goto 11, 3) := by decide +kernel
theorem dX12_answers_166 : decode mX12_answers.2.1 166 = .ok (.iload 9, 2) := by decide +kernel
theorem dX12_answers_168 : decode mX12_answers.2.1 168 = .ok (.istore 7, 2) := by decide +kernel
theorem dX12_answers_170 : decode mX12_answers.2.1 170 = .ok (.iload 11, 2) := by decide +kernel
theorem dX12_answers_172 : decode mX12_answers.2.1 172 = .ok (.istore 6, 2) := by decide +kernel
theorem dX12_answers_174 : decode mX12_answers.2.1 174 = .ok (.iinc 8 1, 3) := by decide +kernel
theorem dX12_answers_177 : decode mX12_answers.2.1 177 = .ok (.goto (-130), 3) := by decide +kernel
theorem dX12_answers_180 : decode mX12_answers.2.1 180 = .ok (.iload_n 3, 1) := by decide +kernel
theorem dX12_answers_181 : decode mX12_answers.2.1 181 = .ok (.ifCond .ne 8, 3) := by decide +kernel
theorem dX12_answers_184 : decode mX12_answers.2.1 184 = .ok (.iload 5, 2) := by decide +kernel
theorem dX12_answers_186 : decode mX12_answers.2.1 186 = .ok (.goto 15, 3) := by decide +kernel
theorem dX12_answers_189 : decode mX12_answers.2.1 189 = .ok (.iload_n 3, 1) := by decide +kernel
theorem dX12_answers_190 : decode mX12_answers.2.1 190 = .ok (.iconst 1, 1) := by decide +kernel
theorem dX12_answers_191 : decode mX12_answers.2.1 191 = .ok (.if_icmp .ne 8, 3) := by decide +kernel
theorem dX12_answers_194 : decode mX12_answers.2.1 194 = .ok (.iload 7, 2) := by decide +kernel
theorem dX12_answers_196 : decode mX12_answers.2.1 196 = .ok (.goto 5, 3) := by decide +kernel
theorem dX12_answers_199 : decode mX12_answers.2.1 199 = .ok (.iload 6, 2) := by decide +kernel
theorem dX12_answers_201 : decode mX12_answers.2.1 201 = .ok (.ireturn, 1) := by decide +kernel
theorem dX12_answerOf_0 : decode mX12_answerOf.2.1 0 = .ok (.iload_n 2, 1) := by decide +kernel
theorem dX12_answerOf_1 : decode mX12_answerOf.2.1 1 = .ok (.ifCond .le 10, 3) := by decide +kernel
theorem dX12_answerOf_4 : decode mX12_answerOf.2.1 4 = .ok (.aload_n 0, 1) := by decide +kernel
theorem dX12_answerOf_5 : decode mX12_answerOf.2.1 5 = .ok (.getfield 113, 3) := by decide +kernel
theorem dX12_answerOf_8 : decode mX12_answerOf.2.1 8 = .ok (.iload_n 1, 1) := by decide +kernel
theorem dX12_answerOf_9 : decode mX12_answerOf.2.1 9 = .ok (.iaload, 1) := by decide +kernel
theorem dX12_answerOf_10 : decode mX12_answerOf.2.1 10 = .ok (.ireturn, 1) := by decide +kernel
theorem dX12_answerOf_11 : decode mX12_answerOf.2.1 11 = .ok (.iconst 0, 1) := by decide +kernel
theorem dX12_answerOf_12 : decode mX12_answerOf.2.1 12 = .ok (.istore_n 3, 1) := by decide +kernel
theorem dX12_answerOf_13 : decode mX12_answerOf.2.1 13 = .ok (.iconst 0, 1) := by decide +kernel
theorem dX12_answerOf_14 : decode mX12_answerOf.2.1 14 = .ok (.istore 4, 2) := by decide +kernel
theorem dX12_answerOf_16 : decode mX12_answerOf.2.1 16 = .ok (.iload 4, 2) := by decide +kernel
theorem dX12_answerOf_18 : decode mX12_answerOf.2.1 18 = .ok (.aload_n 0, 1) := by decide +kernel
theorem dX12_answerOf_19 : decode mX12_answerOf.2.1 19 = .ok (.invokevirtual 364, 3) := by decide +kernel
theorem dX12_answerOf_22 : decode mX12_answerOf.2.1 22 = .ok (.if_icmp .ge 22, 3) := by decide +kernel
theorem dX12_answerOf_25 : decode mX12_answerOf.2.1 25 = .ok (.bipush 10, 2) := by decide +kernel
theorem dX12_answerOf_27 : decode mX12_answerOf.2.1 27 = .ok (.iload_n 3, 1) := by decide +kernel
theorem dX12_answerOf_28 : decode mX12_answerOf.2.1 28 = .ok (.imul, 1) := by decide +kernel
theorem dX12_answerOf_29 : decode mX12_answerOf.2.1 29 = .ok (.aload_n 0, 1) := by decide +kernel
theorem dX12_answerOf_30 : decode mX12_answerOf.2.1 30 = .ok (.iload_n 1, 1) := by decide +kernel
theorem dX12_answerOf_31 : decode mX12_answerOf.2.1 31 = .ok (.iload 4, 2) := by decide +kernel
theorem dX12_answerOf_33 : decode mX12_answerOf.2.1 33 = .ok (.invokevirtual 427, 3) := by decide +kernel
theorem dX12_answerOf_36 : decode mX12_answerOf.2.1 36 = .ok (.iadd, 1) := by decide +kernel
theorem dX12_answerOf_37 : decode mX12_answerOf.2.1 37 = .ok (.istore_n 3, 1) := by decide +kernel
theorem dX12_answerOf_38 : decode mX12_answerOf.2.1 38 = .ok (.iinc 4 1, 3) := by decide +kernel
theorem dX12_answerOf_41 : decode mX12_answerOf.2.1 41 = .ok (.goto (-25), 3) := by decide +kernel
theorem dX12_answerOf_44 : decode mX12_answerOf.2.1 44 = .ok (.iload_n 3, 1) := by decide +kernel
theorem dX12_answerOf_45 : decode mX12_answerOf.2.1 45 = .ok (.ireturn, 1) := by decide +kernel
theorem dX12_judged_0 : decode mX12_judged.2.1 0 = .ok (.iload_n 1, 1) := by decide +kernel
theorem dX12_judged_1 : decode mX12_judged.2.1 1 = .ok (.iconst 0, 1) := by decide +kernel
theorem dX12_judged_2 : decode mX12_judged.2.1 2 = .ok (.aload_n 0, 1) := by decide +kernel
theorem dX12_judged_3 : decode mX12_judged.2.1 3 = .ok (.getfield 53, 3) := by decide +kernel
theorem dX12_judged_6 : decode mX12_judged.2.1 6 = .ok (.aload_n 0, 1) := by decide +kernel
theorem dX12_judged_7 : decode mX12_judged.2.1 7 = .ok (.getfield 295, 3) := by decide +kernel
theorem dX12_judged_10 : decode mX12_judged.2.1 10 = .ok (.iaload, 1) := by decide +kernel
theorem dX12_judged_11 : decode mX12_judged.2.1 11 = .ok (.iconst 1, 1) := by decide +kernel
theorem dX12_judged_12 : decode mX12_judged.2.1 12 = .ok (.isub, 1) := by decide +kernel
theorem dX12_judged_13 : decode mX12_judged.2.1 13 = .ok (.invokestatic 367, 3) := by decide +kernel
theorem dX12_judged_16 : decode mX12_judged.2.1 16 = .ok (.ifCond .eq 22, 3) := by decide +kernel
theorem dX12_judged_19 : decode mX12_judged.2.1 19 = .ok (.aload_n 0, 1) := by decide +kernel
theorem dX12_judged_20 : decode mX12_judged.2.1 20 = .ok (.iload_n 2, 1) := by decide +kernel
theorem dX12_judged_21 : decode mX12_judged.2.1 21 = .ok (.iload_n 3, 1) := by decide +kernel
theorem dX12_judged_22 : decode mX12_judged.2.1 22 = .ok (.invokevirtual 508, 3) := by decide +kernel
theorem dX12_judged_25 : decode mX12_judged.2.1 25 = .ok (.ifCond .eq 13, 3) := by decide +kernel
theorem dX12_judged_28 : decode mX12_judged.2.1 28 = .ok (.iload 4, 2) := by decide +kernel
theorem dX12_judged_30 : decode mX12_judged.2.1 30 = .ok (.iconst 0, 1) := by decide +kernel
theorem dX12_judged_31 : decode mX12_judged.2.1 31 = .ok (.iconst 2, 1) := by decide +kernel
theorem dX12_judged_32 : decode mX12_judged.2.1 32 = .ok (.invokestatic 367, 3) := by decide +kernel
theorem dX12_judged_35 : decode mX12_judged.2.1 35 = .ok (.ifCond .ne 5, 3) := by decide +kernel
theorem dX12_judged_38 : decode mX12_judged.2.1 38 = .ok (.iconst (-1), 1) := by decide +kernel
theorem dX12_judged_39 : decode mX12_judged.2.1 39 = .ok (.ireturn, 1) := by decide +kernel
theorem dX12_judged_40 : decode mX12_judged.2.1 40 = .ok (.aload_n 0, 1) := by decide +kernel
theorem dX12_judged_41 : decode mX12_judged.2.1 41 = .ok (.iconst 0, 1) := by decide +kernel
theorem dX12_judged_42 : decode mX12_judged.2.1 42 = .ok (.iload 5, 2) := by decide +kernel
theorem dX12_judged_44 : decode mX12_judged.2.1 44 = .ok (.invokevirtual 414, 3) := by decide +kernel
theorem dX12_judged_47 : decode mX12_judged.2.1 47 = .ok (.aload_n 0, 1) := by decide +kernel
theorem dX12_judged_48 : decode mX12_judged.2.1 48 = .ok (.iload_n 2, 1) := by decide +kernel
theorem dX12_judged_49 : decode mX12_judged.2.1 49 = .ok (.iload_n 3, 1) := by decide +kernel
theorem dX12_judged_50 : decode mX12_judged.2.1 50 = .ok (.invokevirtual 505, 3) := by decide +kernel
theorem dX12_judged_53 : decode mX12_judged.2.1 53 = .ok (.iconst 0, 1) := by decide +kernel
theorem dX12_judged_54 : decode mX12_judged.2.1 54 = .ok (.istore 6, 2) := by decide +kernel
theorem dX12_judged_56 : decode mX12_judged.2.1 56 = .ok (.iconst 0, 1) := by decide +kernel
theorem dX12_judged_57 : decode mX12_judged.2.1 57 = .ok (.istore 7, 2) := by decide +kernel
theorem dX12_judged_59 : decode mX12_judged.2.1 59 = .ok (.iconst 0, 1) := by decide +kernel
theorem dX12_judged_60 : decode mX12_judged.2.1 60 = .ok (.istore 8, 2) := by decide +kernel
theorem dX12_judged_62 : decode mX12_judged.2.1 62 = .ok (.iconst 0, 1) := by decide +kernel
theorem dX12_judged_63 : decode mX12_judged.2.1 63 = .ok (.istore 9, 2) := by decide +kernel
theorem dX12_judged_65 : decode mX12_judged.2.1 65 = .ok (.iload 9, 2) := by decide +kernel
theorem dX12_judged_67 : decode mX12_judged.2.1 67 = .ok (.aload_n 0, 1) := by decide +kernel
theorem dX12_judged_68 : decode mX12_judged.2.1 68 = .ok (.getfield 408, 3) := by decide +kernel
theorem dX12_judged_71 : decode mX12_judged.2.1 71 = .ok (.if_icmp .ge 28, 3) := by decide +kernel
theorem dX12_judged_74 : decode mX12_judged.2.1 74 = .ok (.aload_n 0, 1) := by decide +kernel
theorem dX12_judged_75 : decode mX12_judged.2.1 75 = .ok (.iload 9, 2) := by decide +kernel
theorem dX12_judged_77 : decode mX12_judged.2.1 77 = .ok (.aload_n 0, 1) := by decide +kernel
theorem dX12_judged_78 : decode mX12_judged.2.1 78 = .ok (.getfield 59, 3) := by decide +kernel
theorem dX12_judged_81 : decode mX12_judged.2.1 81 = .ok (.iconst 3, 1) := by decide +kernel
theorem dX12_judged_82 : decode mX12_judged.2.1 82 = .ok (.aload_n 0, 1) := by decide +kernel
theorem dX12_judged_83 : decode mX12_judged.2.1 83 = .ok (.getfield 295, 3) := by decide +kernel
theorem dX12_judged_86 : decode mX12_judged.2.1 86 = .ok (.imul, 1) := by decide +kernel
theorem dX12_judged_87 : decode mX12_judged.2.1 87 = .ok (.iload_n 1, 1) := by decide +kernel
theorem dX12_judged_88 : decode mX12_judged.2.1 88 = .ok (.iadd, 1) := by decide +kernel
theorem dX12_judged_89 : decode mX12_judged.2.1 89 = .ok (.iaload, 1) := by decide +kernel
theorem dX12_judged_90 : decode mX12_judged.2.1 90 = .ok (.invokevirtual 524, 3) := by decide +kernel
theorem dX12_judged_93 : decode mX12_judged.2.1 93 = .ok (.iinc 9 1, 3) := by decide +kernel
theorem dX12_judged_96 : decode mX12_judged.2.1 96 = .ok (.goto (-31), 3) := by decide +kernel
theorem dX12_judged_99 : decode mX12_judged.2.1 99 = .ok (.iconst 0, 1) := by decide +kernel
theorem dX12_judged_100 : decode mX12_judged.2.1 100 = .ok (.istore 9, 2) := by decide +kernel
theorem dX12_judged_102 : decode mX12_judged.2.1 102 = .ok (.iload 9, 2) := by decide +kernel
theorem dX12_judged_104 : decode mX12_judged.2.1 104 = .ok (.aload_n 0, 1) := by decide +kernel
theorem dX12_judged_105 : decode mX12_judged.2.1 105 = .ok (.getfield 408, 3) := by decide +kernel
theorem dX12_judged_108 : decode mX12_judged.2.1 108 = .ok (.if_icmp .ge 129, 3) := by decide +kernel
theorem dX12_judged_111 : decode mX12_judged.2.1 111 = .ok (.iconst 1, 1) := by decide +kernel
theorem dX12_judged_112 : decode mX12_judged.2.1 112 = .ok (.istore 10, 2) := by decide +kernel
theorem dX12_judged_114 : decode mX12_judged.2.1 114 = .ok (.iconst 0, 1) := by decide +kernel
theorem dX12_judged_115 : decode mX12_judged.2.1 115 = .ok (.istore 11, 2) := by decide +kernel
theorem dX12_judged_117 : decode mX12_judged.2.1 117 = .ok (.iload 11, 2) := by decide +kernel
theorem dX12_judged_119 : decode mX12_judged.2.1 119 = .ok (.aload_n 0, 1) := by decide +kernel
theorem dX12_judged_120 : decode mX12_judged.2.1 120 = .ok (.getfield 408, 3) := by decide +kernel
theorem dX12_judged_123 : decode mX12_judged.2.1 123 = .ok (.if_icmp .ge 55, 3) := by decide +kernel
theorem dX12_judged_126 : decode mX12_judged.2.1 126 = .ok (.iload 10, 2) := by decide +kernel
theorem dX12_judged_128 : decode mX12_judged.2.1 128 = .ok (.ifCond .eq 41, 3) := by decide +kernel
theorem dX12_judged_131 : decode mX12_judged.2.1 131 = .ok (.aload_n 0, 1) := by decide +kernel
theorem dX12_judged_132 : decode mX12_judged.2.1 132 = .ok (.getfield 116, 3) := by decide +kernel
theorem dX12_judged_135 : decode mX12_judged.2.1 135 = .ok (.iload 11, 2) := by decide +kernel
theorem dX12_judged_137 : decode mX12_judged.2.1 137 = .ok (.iaload, 1) := by decide +kernel
theorem dX12_judged_138 : decode mX12_judged.2.1 138 = .ok (.aload_n 0, 1) := by decide +kernel
theorem dX12_judged_139 : decode mX12_judged.2.1 139 = .ok (.getfield 116, 3) := by decide +kernel
theorem dX12_judged_142 : decode mX12_judged.2.1 142 = .ok (.iload 9, 2) := by decide +kernel
theorem dX12_judged_144 : decode mX12_judged.2.1 144 = .ok (.iaload, 1) := by decide +kernel
theorem dX12_judged_145 : decode mX12_judged.2.1 145 = .ok (.if_icmp .ne 20, 3) := by decide +kernel
theorem dX12_judged_148 : decode mX12_judged.2.1 148 = .ok (.aload_n 0, 1) := by decide +kernel
theorem dX12_judged_149 : decode mX12_judged.2.1 149 = .ok (.getfield 113, 3) := by decide +kernel
theorem dX12_judged_152 : decode mX12_judged.2.1 152 = .ok (.iload 11, 2) := by decide +kernel
theorem dX12_judged_154 : decode mX12_judged.2.1 154 = .ok (.iaload, 1) := by decide +kernel
theorem dX12_judged_155 : decode mX12_judged.2.1 155 = .ok (.aload_n 0, 1) := by decide +kernel
theorem dX12_judged_156 : decode mX12_judged.2.1 156 = .ok (.getfield 113, 3) := by decide +kernel
theorem dX12_judged_159 : decode mX12_judged.2.1 159 = .ok (.iload 9, 2) := by decide +kernel
theorem dX12_judged_161 : decode mX12_judged.2.1 161 = .ok (.iaload, 1) := by decide +kernel
theorem dX12_judged_162 : decode mX12_judged.2.1 162 = .ok (.if_icmp .ne 7, 3) := by decide +kernel
theorem dX12_judged_165 : decode mX12_judged.2.1 165 = .ok (.iconst 1, 1) := by decide +kernel
theorem dX12_judged_166 : decode mX12_judged.2.1 166 = .ok (.goto 4, 3) := by decide +kernel
theorem dX12_judged_169 : decode mX12_judged.2.1 169 = .ok (.iconst 0, 1) := by decide +kernel
theorem dX12_judged_170 : decode mX12_judged.2.1 170 = .ok (.istore 10, 2) := by decide +kernel
theorem dX12_judged_172 : decode mX12_judged.2.1 172 = .ok (.iinc 11 1, 3) := by decide +kernel
theorem dX12_judged_175 : decode mX12_judged.2.1 175 = .ok (.goto (-58), 3) := by decide +kernel
theorem dX12_judged_178 : decode mX12_judged.2.1 178 = .ok (.iload 6, 2) := by decide +kernel
theorem dX12_judged_180 : decode mX12_judged.2.1 180 = .ok (.iload 10, 2) := by decide +kernel
theorem dX12_judged_182 : decode mX12_judged.2.1 182 = .ok (.ifCond .eq 7, 3) := by decide +kernel
theorem dX12_judged_185 : decode mX12_judged.2.1 185 = .ok (.iconst 0, 1) := by decide +kernel
theorem dX12_judged_186 : decode mX12_judged.2.1 186 = .ok (.goto 4, 3) := by decide +kernel
theorem dX12_judged_189 : decode mX12_judged.2.1 189 = .ok (.iconst 1, 1) := by decide +kernel
theorem dX12_judged_190 : decode mX12_judged.2.1 190 = .ok (.iadd, 1) := by decide +kernel
theorem dX12_judged_191 : decode mX12_judged.2.1 191 = .ok (.istore 6, 2) := by decide +kernel
theorem dX12_judged_193 : decode mX12_judged.2.1 193 = .ok (.aload_n 0, 1) := by decide +kernel
theorem dX12_judged_194 : decode mX12_judged.2.1 194 = .ok (.getfield 119, 3) := by decide +kernel
theorem dX12_judged_197 : decode mX12_judged.2.1 197 = .ok (.iload 9, 2) := by decide +kernel
theorem dX12_judged_199 : decode mX12_judged.2.1 199 = .ok (.iaload, 1) := by decide +kernel
theorem dX12_judged_200 : decode mX12_judged.2.1 200 = .ok (.iload 7, 2) := by decide +kernel
theorem dX12_judged_202 : decode mX12_judged.2.1 202 = .ok (.if_icmp .le 13, 3) := by decide +kernel
theorem dX12_judged_205 : decode mX12_judged.2.1 205 = .ok (.aload_n 0, 1) := by decide +kernel
theorem dX12_judged_206 : decode mX12_judged.2.1 206 = .ok (.getfield 119, 3) := by decide +kernel
theorem dX12_judged_209 : decode mX12_judged.2.1 209 = .ok (.iload 9, 2) := by decide +kernel
theorem dX12_judged_211 : decode mX12_judged.2.1 211 = .ok (.iaload, 1) := by decide +kernel
theorem dX12_judged_212 : decode mX12_judged.2.1 212 = .ok (.goto 5, 3) := by decide +kernel
theorem dX12_judged_215 : decode mX12_judged.2.1 215 = .ok (.iload 7, 2) := by decide +kernel
theorem dX12_judged_217 : decode mX12_judged.2.1 217 = .ok (.istore 7, 2) := by decide +kernel
theorem dX12_judged_219 : decode mX12_judged.2.1 219 = .ok (.iload 8, 2) := by decide +kernel
theorem dX12_judged_221 : decode mX12_judged.2.1 221 = .ok (.aload_n 0, 1) := by decide +kernel
theorem dX12_judged_222 : decode mX12_judged.2.1 222 = .ok (.getfield 119, 3) := by decide +kernel
theorem dX12_judged_225 : decode mX12_judged.2.1 225 = .ok (.iload 9, 2) := by decide +kernel
theorem dX12_judged_227 : decode mX12_judged.2.1 227 = .ok (.iaload, 1) := by decide +kernel
theorem dX12_judged_228 : decode mX12_judged.2.1 228 = .ok (.iadd, 1) := by decide +kernel
theorem dX12_judged_229 : decode mX12_judged.2.1 229 = .ok (.istore 8, 2) := by decide +kernel
theorem dX12_judged_231 : decode mX12_judged.2.1 231 = .ok (.iinc 9 1, 3) := by decide +kernel
theorem dX12_judged_234 : decode mX12_judged.2.1 234 = .ok (.goto (-132), 3) := by decide +kernel
theorem dX12_judged_237 : decode mX12_judged.2.1 237 = .ok (.iload 4, 2) := by decide +kernel
theorem dX12_judged_239 : decode mX12_judged.2.1 239 = .ok (.ifCond .ne 8, 3) := by decide +kernel
theorem dX12_judged_242 : decode mX12_judged.2.1 242 = .ok (.iload 6, 2) := by decide +kernel
theorem dX12_judged_244 : decode mX12_judged.2.1 244 = .ok (.goto 16, 3) := by decide +kernel
theorem dX12_judged_247 : decode mX12_judged.2.1 247 = .ok (.iload 4, 2) := by decide +kernel
theorem dX12_judged_249 : decode mX12_judged.2.1 249 = .ok (.iconst 1, 1) := by decide +kernel
theorem dX12_judged_250 : decode mX12_judged.2.1 250 = .ok (.if_icmp .ne 8, 3) := by decide +kernel
theorem dX12_judged_253 : decode mX12_judged.2.1 253 = .ok (.iload 7, 2) := by decide +kernel
theorem dX12_judged_255 : decode mX12_judged.2.1 255 = .ok (.goto 5, 3) := by decide +kernel
theorem dX12_judged_258 : decode mX12_judged.2.1 258 = .ok (.iload 8, 2) := by decide +kernel
theorem dX12_judged_260 : decode mX12_judged.2.1 260 = .ok (.ireturn, 1) := by decide +kernel
theorem dX12_goesThrough_0 : decode mX12_goesThrough.2.1 0 = .ok (.iload_n 2, 1) := by decide +kernel
theorem dX12_goesThrough_1 : decode mX12_goesThrough.2.1 1 = .ok (.istore_n 3, 1) := by decide +kernel
theorem dX12_goesThrough_2 : decode mX12_goesThrough.2.1 2 = .ok (.aload_n 0, 1) := by decide +kernel
theorem dX12_goesThrough_3 : decode mX12_goesThrough.2.1 3 = .ok (.getfield 116, 3) := by decide +kernel
theorem dX12_goesThrough_6 : decode mX12_goesThrough.2.1 6 = .ok (.iload_n 1, 1) := by decide +kernel
theorem dX12_goesThrough_7 : decode mX12_goesThrough.2.1 7 = .ok (.iconst 0, 1) := by decide +kernel
theorem dX12_goesThrough_8 : decode mX12_goesThrough.2.1 8 = .ok (.iastore, 1) := by decide +kernel
theorem dX12_goesThrough_9 : decode mX12_goesThrough.2.1 9 = .ok (.aload_n 0, 1) := by decide +kernel
theorem dX12_goesThrough_10 : decode mX12_goesThrough.2.1 10 = .ok (.getfield 119, 3) := by decide +kernel
theorem dX12_goesThrough_13 : decode mX12_goesThrough.2.1 13 = .ok (.iload_n 1, 1) := by decide +kernel
theorem dX12_goesThrough_14 : decode mX12_goesThrough.2.1 14 = .ok (.iconst 0, 1) := by decide +kernel
theorem dX12_goesThrough_15 : decode mX12_goesThrough.2.1 15 = .ok (.iastore, 1) := by decide +kernel
theorem dX12_goesThrough_16 : decode mX12_goesThrough.2.1 16 = .ok (.iload_n 3, 1) := by decide +kernel
theorem dX12_goesThrough_17 : decode mX12_goesThrough.2.1 17 = .ok (.ifCond .lt 81, 3) := by decide +kernel
theorem dX12_goesThrough_20 : decode mX12_goesThrough.2.1 20 = .ok (.aload_n 0, 1) := by decide +kernel
theorem dX12_goesThrough_21 : decode mX12_goesThrough.2.1 21 = .ok (.aload_n 0, 1) := by decide +kernel
theorem dX12_goesThrough_22 : decode mX12_goesThrough.2.1 22 = .ok (.getfield 110, 3) := by decide +kernel
theorem dX12_goesThrough_25 : decode mX12_goesThrough.2.1 25 = .ok (.iload_n 1, 1) := by decide +kernel
theorem dX12_goesThrough_26 : decode mX12_goesThrough.2.1 26 = .ok (.iaload, 1) := by decide +kernel
theorem dX12_goesThrough_27 : decode mX12_goesThrough.2.1 27 = .ok (.aload_n 0, 1) := by decide +kernel
theorem dX12_goesThrough_28 : decode mX12_goesThrough.2.1 28 = .ok (.getfield 62, 3) := by decide +kernel
theorem dX12_goesThrough_31 : decode mX12_goesThrough.2.1 31 = .ok (.iload_n 3, 1) := by decide +kernel
theorem dX12_goesThrough_32 : decode mX12_goesThrough.2.1 32 = .ok (.iaload, 1) := by decide +kernel
theorem dX12_goesThrough_33 : decode mX12_goesThrough.2.1 33 = .ok (.aload_n 0, 1) := by decide +kernel
theorem dX12_goesThrough_34 : decode mX12_goesThrough.2.1 34 = .ok (.getfield 65, 3) := by decide +kernel
theorem dX12_goesThrough_37 : decode mX12_goesThrough.2.1 37 = .ok (.iload_n 3, 1) := by decide +kernel
theorem dX12_goesThrough_38 : decode mX12_goesThrough.2.1 38 = .ok (.iaload, 1) := by decide +kernel
theorem dX12_goesThrough_39 : decode mX12_goesThrough.2.1 39 = .ok (.invokevirtual 404, 3) := by decide +kernel
theorem dX12_goesThrough_42 : decode mX12_goesThrough.2.1 42 = .ok (.istore 4, 2) := by decide +kernel
theorem dX12_goesThrough_44 : decode mX12_goesThrough.2.1 44 = .ok (.iload 4, 2) := by decide +kernel
theorem dX12_goesThrough_46 : decode mX12_goesThrough.2.1 46 = .ok (.ifCond .ne 7, 3) := by decide +kernel
theorem dX12_goesThrough_49 : decode mX12_goesThrough.2.1 49 = .ok (.iconst 2, 1) := by decide +kernel
theorem dX12_goesThrough_50 : decode mX12_goesThrough.2.1 50 = .ok (.goto 7, 3) := by decide +kernel
theorem dX12_goesThrough_53 : decode mX12_goesThrough.2.1 53 = .ok (.iload 4, 2) := by decide +kernel
theorem dX12_goesThrough_55 : decode mX12_goesThrough.2.1 55 = .ok (.iconst 1, 1) := by decide +kernel
theorem dX12_goesThrough_56 : decode mX12_goesThrough.2.1 56 = .ok (.isub, 1) := by decide +kernel
theorem dX12_goesThrough_57 : decode mX12_goesThrough.2.1 57 = .ok (.istore 5, 2) := by decide +kernel
theorem dX12_goesThrough_59 : decode mX12_goesThrough.2.1 59 = .ok (.aload_n 0, 1) := by decide +kernel
theorem dX12_goesThrough_60 : decode mX12_goesThrough.2.1 60 = .ok (.getfield 116, 3) := by decide +kernel
theorem dX12_goesThrough_63 : decode mX12_goesThrough.2.1 63 = .ok (.iload_n 1, 1) := by decide +kernel
theorem dX12_goesThrough_64 : decode mX12_goesThrough.2.1 64 = .ok (.iconst 3, 1) := by decide +kernel
theorem dX12_goesThrough_65 : decode mX12_goesThrough.2.1 65 = .ok (.iload_n 3, 1) := by decide +kernel
theorem dX12_goesThrough_66 : decode mX12_goesThrough.2.1 66 = .ok (.imul, 1) := by decide +kernel
theorem dX12_goesThrough_67 : decode mX12_goesThrough.2.1 67 = .ok (.iload 5, 2) := by decide +kernel
theorem dX12_goesThrough_69 : decode mX12_goesThrough.2.1 69 = .ok (.iadd, 1) := by decide +kernel
theorem dX12_goesThrough_70 : decode mX12_goesThrough.2.1 70 = .ok (.iconst 1, 1) := by decide +kernel
theorem dX12_goesThrough_71 : decode mX12_goesThrough.2.1 71 = .ok (.iadd, 1) := by decide +kernel
theorem dX12_goesThrough_72 : decode mX12_goesThrough.2.1 72 = .ok (.iastore, 1) := by decide +kernel
theorem dX12_goesThrough_73 : decode mX12_goesThrough.2.1 73 = .ok (.aload_n 0, 1) := by decide +kernel
theorem dX12_goesThrough_74 : decode mX12_goesThrough.2.1 74 = .ok (.getfield 68, 3) := by decide +kernel
theorem dX12_goesThrough_77 : decode mX12_goesThrough.2.1 77 = .ok (.iconst 3, 1) := by decide +kernel
theorem dX12_goesThrough_78 : decode mX12_goesThrough.2.1 78 = .ok (.iload_n 3, 1) := by decide +kernel
theorem dX12_goesThrough_79 : decode mX12_goesThrough.2.1 79 = .ok (.imul, 1) := by decide +kernel
theorem dX12_goesThrough_80 : decode mX12_goesThrough.2.1 80 = .ok (.iload 5, 2) := by decide +kernel
theorem dX12_goesThrough_82 : decode mX12_goesThrough.2.1 82 = .ok (.iadd, 1) := by decide +kernel
theorem dX12_goesThrough_83 : decode mX12_goesThrough.2.1 83 = .ok (.iaload, 1) := by decide +kernel
theorem dX12_goesThrough_84 : decode mX12_goesThrough.2.1 84 = .ok (.istore_n 3, 1) := by decide +kernel
theorem dX12_goesThrough_85 : decode mX12_goesThrough.2.1 85 = .ok (.aload_n 0, 1) := by decide +kernel
theorem dX12_goesThrough_86 : decode mX12_goesThrough.2.1 86 = .ok (.getfield 119, 3) := by decide +kernel
theorem dX12_goesThrough_89 : decode mX12_goesThrough.2.1 89 = .ok (.iload_n 1, 1) := by decide +kernel
theorem dX12_goesThrough_90 : decode mX12_goesThrough.2.1 90 = .ok (.dup2, 1) := by decide +kernel
theorem dX12_goesThrough_91 : decode mX12_goesThrough.2.1 91 = .ok (.iaload, 1) := by decide +kernel
theorem dX12_goesThrough_92 : decode mX12_goesThrough.2.1 92 = .ok (.iconst 1, 1) := by decide +kernel
theorem dX12_goesThrough_93 : decode mX12_goesThrough.2.1 93 = .ok (.iadd, 1) := by decide +kernel
theorem dX12_goesThrough_94 : decode mX12_goesThrough.2.1 94 = .ok (.iastore, 1) := by decide +kernel
theorem dX12_goesThrough_95 : decode mX12_goesThrough.2.1 95 = .ok (.goto (-79), 3) := by decide +kernel
theorem dX12_goesThrough_98 : decode mX12_goesThrough.2.1 98 = .ok (.return_, 1) := by decide +kernel
theorem dX12_atOnce_0 : decode mX12_atOnce.2.1 0 = .ok (.aload_n 0, 1) := by decide +kernel
theorem dX12_atOnce_1 : decode mX12_atOnce.2.1 1 = .ok (.iload_n 1, 1) := by decide +kernel
theorem dX12_atOnce_2 : decode mX12_atOnce.2.1 2 = .ok (.iload_n 2, 1) := by decide +kernel
theorem dX12_atOnce_3 : decode mX12_atOnce.2.1 3 = .ok (.invokevirtual 508, 3) := by decide +kernel
theorem dX12_atOnce_6 : decode mX12_atOnce.2.1 6 = .ok (.ifCond .ne 5, 3) := by decide +kernel
theorem dX12_atOnce_9 : decode mX12_atOnce.2.1 9 = .ok (.iconst (-1), 1) := by decide +kernel
theorem dX12_atOnce_10 : decode mX12_atOnce.2.1 10 = .ok (.ireturn, 1) := by decide +kernel
theorem dX12_atOnce_11 : decode mX12_atOnce.2.1 11 = .ok (.aload_n 0, 1) := by decide +kernel
theorem dX12_atOnce_12 : decode mX12_atOnce.2.1 12 = .ok (.iload_n 1, 1) := by decide +kernel
theorem dX12_atOnce_13 : decode mX12_atOnce.2.1 13 = .ok (.iload_n 2, 1) := by decide +kernel
theorem dX12_atOnce_14 : decode mX12_atOnce.2.1 14 = .ok (.iload_n 3, 1) := by decide +kernel
theorem dX12_atOnce_15 : decode mX12_atOnce.2.1 15 = .ok (.invokevirtual 511, 3) := by decide +kernel
theorem dX12_atOnce_18 : decode mX12_atOnce.2.1 18 = .ok (.ifCond .ne 6, 3) := by decide +kernel
theorem dX12_atOnce_21 : decode mX12_atOnce.2.1 21 = .ok (.bipush (-2), 2) := by decide +kernel
theorem dX12_atOnce_23 : decode mX12_atOnce.2.1 23 = .ok (.ireturn, 1) := by decide +kernel
theorem dX12_atOnce_24 : decode mX12_atOnce.2.1 24 = .ok (.iconst 1, 1) := by decide +kernel
theorem dX12_atOnce_25 : decode mX12_atOnce.2.1 25 = .ok (.aload_n 0, 1) := by decide +kernel
theorem dX12_atOnce_26 : decode mX12_atOnce.2.1 26 = .ok (.getfield 439, 3) := by decide +kernel
theorem dX12_atOnce_29 : decode mX12_atOnce.2.1 29 = .ok (.ishl, 1) := by decide +kernel
theorem dX12_atOnce_30 : decode mX12_atOnce.2.1 30 = .ok (.iconst 1, 1) := by decide +kernel
theorem dX12_atOnce_31 : decode mX12_atOnce.2.1 31 = .ok (.isub, 1) := by decide +kernel
theorem dX12_atOnce_32 : decode mX12_atOnce.2.1 32 = .ok (.istore 4, 2) := by decide +kernel
theorem dX12_atOnce_34 : decode mX12_atOnce.2.1 34 = .ok (.iconst 0, 1) := by decide +kernel
theorem dX12_atOnce_35 : decode mX12_atOnce.2.1 35 = .ok (.istore 5, 2) := by decide +kernel
theorem dX12_atOnce_37 : decode mX12_atOnce.2.1 37 = .ok (.iload 5, 2) := by decide +kernel
theorem dX12_atOnce_39 : decode mX12_atOnce.2.1 39 = .ok (.iload 4, 2) := by decide +kernel
theorem dX12_atOnce_41 : decode mX12_atOnce.2.1 41 = .ok (.if_icmp .gt 17, 3) := by decide +kernel
theorem dX12_atOnce_44 : decode mX12_atOnce.2.1 44 = .ok (.aload_n 0, 1) := by decide +kernel
theorem dX12_atOnce_45 : decode mX12_atOnce.2.1 45 = .ok (.getfield 167, 3) := by decide +kernel
theorem dX12_atOnce_48 : decode mX12_atOnce.2.1 48 = .ok (.iload 5, 2) := by decide +kernel
theorem dX12_atOnce_50 : decode mX12_atOnce.2.1 50 = .ok (.iconst 0, 1) := by decide +kernel
theorem dX12_atOnce_51 : decode mX12_atOnce.2.1 51 = .ok (.bastore, 1) := by decide +kernel
theorem dX12_atOnce_52 : decode mX12_atOnce.2.1 52 = .ok (.iinc 5 1, 3) := by decide +kernel
theorem dX12_atOnce_55 : decode mX12_atOnce.2.1 55 = .ok (.goto (-18), 3) := by decide +kernel
theorem dX12_atOnce_58 : decode mX12_atOnce.2.1 58 = .ok (.iconst 0, 1) := by decide +kernel
theorem dX12_atOnce_59 : decode mX12_atOnce.2.1 59 = .ok (.istore 5, 2) := by decide +kernel
theorem dX12_atOnce_61 : decode mX12_atOnce.2.1 61 = .ok (.iload 5, 2) := by decide +kernel
theorem dX12_atOnce_63 : decode mX12_atOnce.2.1 63 = .ok (.aload_n 0, 1) := by decide +kernel
theorem dX12_atOnce_64 : decode mX12_atOnce.2.1 64 = .ok (.getfield 408, 3) := by decide +kernel
theorem dX12_atOnce_67 : decode mX12_atOnce.2.1 67 = .ok (.if_icmp .ge 61, 3) := by decide +kernel
theorem dX12_atOnce_70 : decode mX12_atOnce.2.1 70 = .ok (.iconst 0, 1) := by decide +kernel
theorem dX12_atOnce_71 : decode mX12_atOnce.2.1 71 = .ok (.istore 6, 2) := by decide +kernel
theorem dX12_atOnce_73 : decode mX12_atOnce.2.1 73 = .ok (.iload 6, 2) := by decide +kernel
theorem dX12_atOnce_75 : decode mX12_atOnce.2.1 75 = .ok (.iload 5, 2) := by decide +kernel
theorem dX12_atOnce_77 : decode mX12_atOnce.2.1 77 = .ok (.if_icmp .ge 45, 3) := by decide +kernel
theorem dX12_atOnce_80 : decode mX12_atOnce.2.1 80 = .ok (.aload_n 0, 1) := by decide +kernel
theorem dX12_atOnce_81 : decode mX12_atOnce.2.1 81 = .ok (.getfield 113, 3) := by decide +kernel
theorem dX12_atOnce_84 : decode mX12_atOnce.2.1 84 = .ok (.iload 5, 2) := by decide +kernel
theorem dX12_atOnce_86 : decode mX12_atOnce.2.1 86 = .ok (.iaload, 1) := by decide +kernel
theorem dX12_atOnce_87 : decode mX12_atOnce.2.1 87 = .ok (.aload_n 0, 1) := by decide +kernel
theorem dX12_atOnce_88 : decode mX12_atOnce.2.1 88 = .ok (.getfield 113, 3) := by decide +kernel
theorem dX12_atOnce_91 : decode mX12_atOnce.2.1 91 = .ok (.iload 6, 2) := by decide +kernel
theorem dX12_atOnce_93 : decode mX12_atOnce.2.1 93 = .ok (.iaload, 1) := by decide +kernel
theorem dX12_atOnce_94 : decode mX12_atOnce.2.1 94 = .ok (.if_icmp .eq 22, 3) := by decide +kernel
theorem dX12_atOnce_97 : decode mX12_atOnce.2.1 97 = .ok (.aload_n 0, 1) := by decide +kernel
theorem dX12_atOnce_98 : decode mX12_atOnce.2.1 98 = .ok (.getfield 167, 3) := by decide +kernel
theorem dX12_atOnce_101 : decode mX12_atOnce.2.1 101 = .ok (.iload 4, 2) := by decide +kernel
theorem dX12_atOnce_103 : decode mX12_atOnce.2.1 103 = .ok (.aload_n 0, 1) := by decide +kernel
theorem dX12_atOnce_104 : decode mX12_atOnce.2.1 104 = .ok (.iload 5, 2) := by decide +kernel
theorem dX12_atOnce_106 : decode mX12_atOnce.2.1 106 = .ok (.iload 6, 2) := by decide +kernel
theorem dX12_atOnce_108 : decode mX12_atOnce.2.1 108 = .ok (.invokevirtual 527, 3) := by decide +kernel
theorem dX12_atOnce_111 : decode mX12_atOnce.2.1 111 = .ok (.iconst (-1), 1) := by decide +kernel
theorem dX12_atOnce_112 : decode mX12_atOnce.2.1 112 = .ok (.ixor, 1) := by decide +kernel
theorem dX12_atOnce_113 : decode mX12_atOnce.2.1 113 = .ok (.iand, 1) := by decide +kernel
theorem dX12_atOnce_114 : decode mX12_atOnce.2.1 114 = .ok (.iconst 1, 1) := by decide +kernel
theorem dX12_atOnce_115 : decode mX12_atOnce.2.1 115 = .ok (.bastore, 1) := by decide +kernel
theorem dX12_atOnce_116 : decode mX12_atOnce.2.1 116 = .ok (.iinc 6 1, 3) := by decide +kernel
theorem dX12_atOnce_119 : decode mX12_atOnce.2.1 119 = .ok (.goto (-46), 3) := by decide +kernel
theorem dX12_atOnce_122 : decode mX12_atOnce.2.1 122 = .ok (.iinc 5 1, 3) := by decide +kernel
theorem dX12_atOnce_125 : decode mX12_atOnce.2.1 125 = .ok (.goto (-64), 3) := by decide +kernel
theorem dX12_atOnce_128 : decode mX12_atOnce.2.1 128 = .ok (.iload 4, 2) := by decide +kernel
theorem dX12_atOnce_130 : decode mX12_atOnce.2.1 130 = .ok (.istore 5, 2) := by decide +kernel
theorem dX12_atOnce_132 : decode mX12_atOnce.2.1 132 = .ok (.iload 5, 2) := by decide +kernel
theorem dX12_atOnce_134 : decode mX12_atOnce.2.1 134 = .ok (.ifCond .lt 63, 3) := by decide +kernel
theorem dX12_atOnce_137 : decode mX12_atOnce.2.1 137 = .ok (.iconst 0, 1) := by decide +kernel
theorem dX12_atOnce_138 : decode mX12_atOnce.2.1 138 = .ok (.istore 6, 2) := by decide +kernel
theorem dX12_atOnce_140 : decode mX12_atOnce.2.1 140 = .ok (.iload 6, 2) := by decide +kernel
theorem dX12_atOnce_142 : decode mX12_atOnce.2.1 142 = .ok (.aload_n 0, 1) := by decide +kernel
theorem dX12_atOnce_143 : decode mX12_atOnce.2.1 143 = .ok (.getfield 439, 3) := by decide +kernel
theorem dX12_atOnce_146 : decode mX12_atOnce.2.1 146 = .ok (.if_icmp .ge 45, 3) := by decide +kernel
theorem dX12_atOnce_149 : decode mX12_atOnce.2.1 149 = .ok (.aload_n 0, 1) := by decide +kernel
theorem dX12_atOnce_150 : decode mX12_atOnce.2.1 150 = .ok (.getfield 167, 3) := by decide +kernel
theorem dX12_atOnce_153 : decode mX12_atOnce.2.1 153 = .ok (.iload 5, 2) := by decide +kernel
theorem dX12_atOnce_155 : decode mX12_atOnce.2.1 155 = .ok (.baload, 1) := by decide +kernel
theorem dX12_atOnce_156 : decode mX12_atOnce.2.1 156 = .ok (.ifCond .eq 29, 3) := by decide +kernel
theorem dX12_atOnce_159 : decode mX12_atOnce.2.1 159 = .ok (.iload 5, 2) := by decide +kernel
theorem dX12_atOnce_161 : decode mX12_atOnce.2.1 161 = .ok (.iload 6, 2) := by decide +kernel
theorem dX12_atOnce_163 : decode mX12_atOnce.2.1 163 = .ok (.ishr, 1) := by decide +kernel
theorem dX12_atOnce_164 : decode mX12_atOnce.2.1 164 = .ok (.iconst 1, 1) := by decide +kernel
theorem dX12_atOnce_165 : decode mX12_atOnce.2.1 165 = .ok (.iand, 1) := by decide +kernel
theorem dX12_atOnce_166 : decode mX12_atOnce.2.1 166 = .ok (.iconst 1, 1) := by decide +kernel
theorem dX12_atOnce_167 : decode mX12_atOnce.2.1 167 = .ok (.if_icmp .ne 18, 3) := by decide +kernel
theorem dX12_atOnce_170 : decode mX12_atOnce.2.1 170 = .ok (.aload_n 0, 1) := by decide +kernel
theorem dX12_atOnce_171 : decode mX12_atOnce.2.1 171 = .ok (.getfield 167, 3) := by decide +kernel
theorem dX12_atOnce_174 : decode mX12_atOnce.2.1 174 = .ok (.iload 5, 2) := by decide +kernel
theorem dX12_atOnce_176 : decode mX12_atOnce.2.1 176 = .ok (.iconst 1, 1) := by decide +kernel
theorem dX12_atOnce_177 : decode mX12_atOnce.2.1 177 = .ok (.iload 6, 2) := by decide +kernel
theorem dX12_atOnce_179 : decode mX12_atOnce.2.1 179 = .ok (.ishl, 1) := by decide +kernel
theorem dX12_atOnce_180 : decode mX12_atOnce.2.1 180 = .ok (.iconst (-1), 1) := by decide +kernel
theorem dX12_atOnce_181 : decode mX12_atOnce.2.1 181 = .ok (.ixor, 1) := by decide +kernel
theorem dX12_atOnce_182 : decode mX12_atOnce.2.1 182 = .ok (.iand, 1) := by decide +kernel
theorem dX12_atOnce_183 : decode mX12_atOnce.2.1 183 = .ok (.iconst 1, 1) := by decide +kernel
theorem dX12_atOnce_184 : decode mX12_atOnce.2.1 184 = .ok (.bastore, 1) := by decide +kernel
theorem dX12_atOnce_185 : decode mX12_atOnce.2.1 185 = .ok (.iinc 6 1, 3) := by decide +kernel
theorem dX12_atOnce_188 : decode mX12_atOnce.2.1 188 = .ok (.goto (-48), 3) := by decide +kernel
theorem dX12_atOnce_191 : decode mX12_atOnce.2.1 191 = .ok (.iinc 5 (-1), 3) := by decide +kernel
theorem dX12_atOnce_194 : decode mX12_atOnce.2.1 194 = .ok (.goto (-62), 3) := by decide +kernel
theorem dX12_atOnce_197 : decode mX12_atOnce.2.1 197 = .ok (.iconst (-1), 1) := by decide +kernel
theorem dX12_atOnce_198 : decode mX12_atOnce.2.1 198 = .ok (.istore 5, 2) := by decide +kernel
theorem dX12_atOnce_200 : decode mX12_atOnce.2.1 200 = .ok (.iconst 0, 1) := by decide +kernel
theorem dX12_atOnce_201 : decode mX12_atOnce.2.1 201 = .ok (.istore 6, 2) := by decide +kernel
theorem dX12_atOnce_203 : decode mX12_atOnce.2.1 203 = .ok (.iload 6, 2) := by decide +kernel
theorem dX12_atOnce_205 : decode mX12_atOnce.2.1 205 = .ok (.iload 4, 2) := by decide +kernel
theorem dX12_atOnce_207 : decode mX12_atOnce.2.1 207 = .ok (.if_icmp .gt 41, 3) := by decide +kernel
theorem dX12_atOnce_210 : decode mX12_atOnce.2.1 210 = .ok (.aload_n 0, 1) := by decide +kernel
theorem dX12_atOnce_211 : decode mX12_atOnce.2.1 211 = .ok (.getfield 167, 3) := by decide +kernel
theorem dX12_atOnce_214 : decode mX12_atOnce.2.1 214 = .ok (.iload 6, 2) := by decide +kernel
theorem dX12_atOnce_216 : decode mX12_atOnce.2.1 216 = .ok (.baload, 1) := by decide +kernel
theorem dX12_atOnce_217 : decode mX12_atOnce.2.1 217 = .ok (.ifCond .ne 25, 3) := by decide +kernel
theorem dX12_atOnce_220 : decode mX12_atOnce.2.1 220 = .ok (.iload 5, 2) := by decide +kernel
theorem dX12_atOnce_222 : decode mX12_atOnce.2.1 222 = .ok (.ifCond .lt 16, 3) := by decide +kernel
theorem dX12_atOnce_225 : decode mX12_atOnce.2.1 225 = .ok (.iload 6, 2) := by decide +kernel
theorem dX12_atOnce_227 : decode mX12_atOnce.2.1 227 = .ok (.invokestatic 392, 3) := by decide +kernel
theorem dX12_atOnce_230 : decode mX12_atOnce.2.1 230 = .ok (.iload 5, 2) := by decide +kernel
theorem dX12_atOnce_232 : decode mX12_atOnce.2.1 232 = .ok (.invokestatic 392, 3) := by decide +kernel
theorem dX12_atOnce_235 : decode mX12_atOnce.2.1 235 = .ok (.if_icmp .ge 7, 3) := by decide +kernel
theorem dX12_atOnce_238 : decode mX12_atOnce.2.1 238 = .ok (.iload 6, 2) := by decide +kernel
theorem dX12_atOnce_240 : decode mX12_atOnce.2.1 240 = .ok (.istore 5, 2) := by decide +kernel
theorem dX12_atOnce_242 : decode mX12_atOnce.2.1 242 = .ok (.iinc 6 1, 3) := by decide +kernel
theorem dX12_atOnce_245 : decode mX12_atOnce.2.1 245 = .ok (.goto (-42), 3) := by decide +kernel
theorem dX12_atOnce_248 : decode mX12_atOnce.2.1 248 = .ok (.iload 5, 2) := by decide +kernel
theorem dX12_atOnce_250 : decode mX12_atOnce.2.1 250 = .ok (.ireturn, 1) := by decide +kernel
theorem dX12_unlikeBy_0 : decode mX12_unlikeBy.2.1 0 = .ok (.iconst 0, 1) := by decide +kernel
theorem dX12_unlikeBy_1 : decode mX12_unlikeBy.2.1 1 = .ok (.istore_n 3, 1) := by decide +kernel
theorem dX12_unlikeBy_2 : decode mX12_unlikeBy.2.1 2 = .ok (.iconst 0, 1) := by decide +kernel
theorem dX12_unlikeBy_3 : decode mX12_unlikeBy.2.1 3 = .ok (.istore 4, 2) := by decide +kernel
theorem dX12_unlikeBy_5 : decode mX12_unlikeBy.2.1 5 = .ok (.iload 4, 2) := by decide +kernel
theorem dX12_unlikeBy_7 : decode mX12_unlikeBy.2.1 7 = .ok (.aload_n 0, 1) := by decide +kernel
theorem dX12_unlikeBy_8 : decode mX12_unlikeBy.2.1 8 = .ok (.getfield 439, 3) := by decide +kernel
theorem dX12_unlikeBy_11 : decode mX12_unlikeBy.2.1 11 = .ok (.if_icmp .ge 67, 3) := by decide +kernel
theorem dX12_unlikeBy_14 : decode mX12_unlikeBy.2.1 14 = .ok (.aload_n 0, 1) := by decide +kernel
theorem dX12_unlikeBy_15 : decode mX12_unlikeBy.2.1 15 = .ok (.aload_n 0, 1) := by decide +kernel
theorem dX12_unlikeBy_16 : decode mX12_unlikeBy.2.1 16 = .ok (.getfield 110, 3) := by decide +kernel
theorem dX12_unlikeBy_19 : decode mX12_unlikeBy.2.1 19 = .ok (.iload_n 1, 1) := by decide +kernel
theorem dX12_unlikeBy_20 : decode mX12_unlikeBy.2.1 20 = .ok (.iaload, 1) := by decide +kernel
theorem dX12_unlikeBy_21 : decode mX12_unlikeBy.2.1 21 = .ok (.aload_n 0, 1) := by decide +kernel
theorem dX12_unlikeBy_22 : decode mX12_unlikeBy.2.1 22 = .ok (.getfield 125, 3) := by decide +kernel
theorem dX12_unlikeBy_25 : decode mX12_unlikeBy.2.1 25 = .ok (.iload 4, 2) := by decide +kernel
theorem dX12_unlikeBy_27 : decode mX12_unlikeBy.2.1 27 = .ok (.iaload, 1) := by decide +kernel
theorem dX12_unlikeBy_28 : decode mX12_unlikeBy.2.1 28 = .ok (.aload_n 0, 1) := by decide +kernel
theorem dX12_unlikeBy_29 : decode mX12_unlikeBy.2.1 29 = .ok (.getfield 128, 3) := by decide +kernel
theorem dX12_unlikeBy_32 : decode mX12_unlikeBy.2.1 32 = .ok (.iload 4, 2) := by decide +kernel
theorem dX12_unlikeBy_34 : decode mX12_unlikeBy.2.1 34 = .ok (.iaload, 1) := by decide +kernel
theorem dX12_unlikeBy_35 : decode mX12_unlikeBy.2.1 35 = .ok (.invokevirtual 404, 3) := by decide +kernel
theorem dX12_unlikeBy_38 : decode mX12_unlikeBy.2.1 38 = .ok (.aload_n 0, 1) := by decide +kernel
theorem dX12_unlikeBy_39 : decode mX12_unlikeBy.2.1 39 = .ok (.aload_n 0, 1) := by decide +kernel
theorem dX12_unlikeBy_40 : decode mX12_unlikeBy.2.1 40 = .ok (.getfield 110, 3) := by decide +kernel
theorem dX12_unlikeBy_43 : decode mX12_unlikeBy.2.1 43 = .ok (.iload_n 2, 1) := by decide +kernel
theorem dX12_unlikeBy_44 : decode mX12_unlikeBy.2.1 44 = .ok (.iaload, 1) := by decide +kernel
theorem dX12_unlikeBy_45 : decode mX12_unlikeBy.2.1 45 = .ok (.aload_n 0, 1) := by decide +kernel
theorem dX12_unlikeBy_46 : decode mX12_unlikeBy.2.1 46 = .ok (.getfield 125, 3) := by decide +kernel
theorem dX12_unlikeBy_49 : decode mX12_unlikeBy.2.1 49 = .ok (.iload 4, 2) := by decide +kernel
theorem dX12_unlikeBy_51 : decode mX12_unlikeBy.2.1 51 = .ok (.iaload, 1) := by decide +kernel
theorem dX12_unlikeBy_52 : decode mX12_unlikeBy.2.1 52 = .ok (.aload_n 0, 1) := by decide +kernel
theorem dX12_unlikeBy_53 : decode mX12_unlikeBy.2.1 53 = .ok (.getfield 128, 3) := by decide +kernel
theorem dX12_unlikeBy_56 : decode mX12_unlikeBy.2.1 56 = .ok (.iload 4, 2) := by decide +kernel
theorem dX12_unlikeBy_58 : decode mX12_unlikeBy.2.1 58 = .ok (.iaload, 1) := by decide +kernel
theorem dX12_unlikeBy_59 : decode mX12_unlikeBy.2.1 59 = .ok (.invokevirtual 404, 3) := by decide +kernel
theorem dX12_unlikeBy_62 : decode mX12_unlikeBy.2.1 62 = .ok (.if_icmp .eq 10, 3) := by decide +kernel
theorem dX12_unlikeBy_65 : decode mX12_unlikeBy.2.1 65 = .ok (.iload_n 3, 1) := by decide +kernel
theorem dX12_unlikeBy_66 : decode mX12_unlikeBy.2.1 66 = .ok (.iconst 1, 1) := by decide +kernel
theorem dX12_unlikeBy_67 : decode mX12_unlikeBy.2.1 67 = .ok (.iload 4, 2) := by decide +kernel
theorem dX12_unlikeBy_69 : decode mX12_unlikeBy.2.1 69 = .ok (.ishl, 1) := by decide +kernel
theorem dX12_unlikeBy_70 : decode mX12_unlikeBy.2.1 70 = .ok (.ior, 1) := by decide +kernel
theorem dX12_unlikeBy_71 : decode mX12_unlikeBy.2.1 71 = .ok (.istore_n 3, 1) := by decide +kernel
theorem dX12_unlikeBy_72 : decode mX12_unlikeBy.2.1 72 = .ok (.iinc 4 1, 3) := by decide +kernel
theorem dX12_unlikeBy_75 : decode mX12_unlikeBy.2.1 75 = .ok (.goto (-70), 3) := by decide +kernel
theorem dX12_unlikeBy_78 : decode mX12_unlikeBy.2.1 78 = .ok (.iload_n 3, 1) := by decide +kernel
theorem dX12_unlikeBy_79 : decode mX12_unlikeBy.2.1 79 = .ok (.ireturn, 1) := by decide +kernel
theorem dX12_trusty_0 : decode mX12_trusty.2.1 0 = .ok (.aload_n 0, 1) := by decide +kernel
theorem dX12_trusty_1 : decode mX12_trusty.2.1 1 = .ok (.iload_n 1, 1) := by decide +kernel
theorem dX12_trusty_2 : decode mX12_trusty.2.1 2 = .ok (.iload_n 2, 1) := by decide +kernel
theorem dX12_trusty_3 : decode mX12_trusty.2.1 3 = .ok (.invokevirtual 508, 3) := by decide +kernel
theorem dX12_trusty_6 : decode mX12_trusty.2.1 6 = .ok (.ifCond .ne 5, 3) := by decide +kernel
theorem dX12_trusty_9 : decode mX12_trusty.2.1 9 = .ok (.iconst (-1), 1) := by decide +kernel
theorem dX12_trusty_10 : decode mX12_trusty.2.1 10 = .ok (.ireturn, 1) := by decide +kernel
theorem dX12_trusty_11 : decode mX12_trusty.2.1 11 = .ok (.aload_n 0, 1) := by decide +kernel
theorem dX12_trusty_12 : decode mX12_trusty.2.1 12 = .ok (.iconst 0, 1) := by decide +kernel
theorem dX12_trusty_13 : decode mX12_trusty.2.1 13 = .ok (.iload_n 3, 1) := by decide +kernel
theorem dX12_trusty_14 : decode mX12_trusty.2.1 14 = .ok (.invokevirtual 414, 3) := by decide +kernel
theorem dX12_trusty_17 : decode mX12_trusty.2.1 17 = .ok (.aload_n 0, 1) := by decide +kernel
theorem dX12_trusty_18 : decode mX12_trusty.2.1 18 = .ok (.getfield 408, 3) := by decide +kernel
theorem dX12_trusty_21 : decode mX12_trusty.2.1 21 = .ok (.bipush 6, 2) := by decide +kernel
theorem dX12_trusty_23 : decode mX12_trusty.2.1 23 = .ok (.if_icmp .le 6, 3) := by decide +kernel
theorem dX12_trusty_26 : decode mX12_trusty.2.1 26 = .ok (.bipush (-2), 2) := by decide +kernel
theorem dX12_trusty_28 : decode mX12_trusty.2.1 28 = .ok (.ireturn, 1) := by decide +kernel
theorem dX12_trusty_29 : decode mX12_trusty.2.1 29 = .ok (.aload_n 0, 1) := by decide +kernel
theorem dX12_trusty_30 : decode mX12_trusty.2.1 30 = .ok (.invokevirtual 502, 3) := by decide +kernel
theorem dX12_trusty_33 : decode mX12_trusty.2.1 33 = .ok (.aload_n 0, 1) := by decide +kernel
theorem dX12_trusty_34 : decode mX12_trusty.2.1 34 = .ok (.iload_n 1, 1) := by decide +kernel
theorem dX12_trusty_35 : decode mX12_trusty.2.1 35 = .ok (.iload_n 2, 1) := by decide +kernel
theorem dX12_trusty_36 : decode mX12_trusty.2.1 36 = .ok (.invokevirtual 505, 3) := by decide +kernel
theorem dX12_trusty_39 : decode mX12_trusty.2.1 39 = .ok (.iconst 1, 1) := by decide +kernel
theorem dX12_trusty_40 : decode mX12_trusty.2.1 40 = .ok (.istore 4, 2) := by decide +kernel
theorem dX12_trusty_42 : decode mX12_trusty.2.1 42 = .ok (.iconst 0, 1) := by decide +kernel
theorem dX12_trusty_43 : decode mX12_trusty.2.1 43 = .ok (.istore 5, 2) := by decide +kernel
theorem dX12_trusty_45 : decode mX12_trusty.2.1 45 = .ok (.iconst 0, 1) := by decide +kernel
theorem dX12_trusty_46 : decode mX12_trusty.2.1 46 = .ok (.istore 6, 2) := by decide +kernel
theorem dX12_trusty_48 : decode mX12_trusty.2.1 48 = .ok (.iload 6, 2) := by decide +kernel
theorem dX12_trusty_50 : decode mX12_trusty.2.1 50 = .ok (.aload_n 0, 1) := by decide +kernel
theorem dX12_trusty_51 : decode mX12_trusty.2.1 51 = .ok (.getfield 408, 3) := by decide +kernel
theorem dX12_trusty_54 : decode mX12_trusty.2.1 54 = .ok (.if_icmp .ge 22, 3) := by decide +kernel
theorem dX12_trusty_57 : decode mX12_trusty.2.1 57 = .ok (.iload 5, 2) := by decide +kernel
theorem dX12_trusty_59 : decode mX12_trusty.2.1 59 = .ok (.iload 4, 2) := by decide +kernel
theorem dX12_trusty_61 : decode mX12_trusty.2.1 61 = .ok (.iadd, 1) := by decide +kernel
theorem dX12_trusty_62 : decode mX12_trusty.2.1 62 = .ok (.istore 5, 2) := by decide +kernel
theorem dX12_trusty_64 : decode mX12_trusty.2.1 64 = .ok (.iload 4, 2) := by decide +kernel
theorem dX12_trusty_66 : decode mX12_trusty.2.1 66 = .ok (.iconst 3, 1) := by decide +kernel
theorem dX12_trusty_67 : decode mX12_trusty.2.1 67 = .ok (.imul, 1) := by decide +kernel
theorem dX12_trusty_68 : decode mX12_trusty.2.1 68 = .ok (.istore 4, 2) := by decide +kernel
theorem dX12_trusty_70 : decode mX12_trusty.2.1 70 = .ok (.iinc 6 1, 3) := by decide +kernel
theorem dX12_trusty_73 : decode mX12_trusty.2.1 73 = .ok (.goto (-25), 3) := by decide +kernel
theorem dX12_trusty_76 : decode mX12_trusty.2.1 76 = .ok (.iconst 0, 1) := by decide +kernel
theorem dX12_trusty_77 : decode mX12_trusty.2.1 77 = .ok (.istore 6, 2) := by decide +kernel
theorem dX12_trusty_79 : decode mX12_trusty.2.1 79 = .ok (.iload 6, 2) := by decide +kernel
theorem dX12_trusty_81 : decode mX12_trusty.2.1 81 = .ok (.iload 4, 2) := by decide +kernel
theorem dX12_trusty_83 : decode mX12_trusty.2.1 83 = .ok (.if_icmp .ge 30, 3) := by decide +kernel
theorem dX12_trusty_86 : decode mX12_trusty.2.1 86 = .ok (.aload_n 0, 1) := by decide +kernel
theorem dX12_trusty_87 : decode mX12_trusty.2.1 87 = .ok (.getfield 170, 3) := by decide +kernel
theorem dX12_trusty_90 : decode mX12_trusty.2.1 90 = .ok (.iload 6, 2) := by decide +kernel
theorem dX12_trusty_92 : decode mX12_trusty.2.1 92 = .ok (.aload_n 0, 1) := by decide +kernel
theorem dX12_trusty_93 : decode mX12_trusty.2.1 93 = .ok (.iload 6, 2) := by decide +kernel
theorem dX12_trusty_95 : decode mX12_trusty.2.1 95 = .ok (.invokevirtual 536, 3) := by decide +kernel
theorem dX12_trusty_98 : decode mX12_trusty.2.1 98 = .ok (.ifCond .eq 7, 3) := by decide +kernel
theorem dX12_trusty_101 : decode mX12_trusty.2.1 101 = .ok (.iconst 0, 1) := by decide +kernel
theorem dX12_trusty_102 : decode mX12_trusty.2.1 102 = .ok (.goto 4, 3) := by decide +kernel
theorem dX12_trusty_105 : decode mX12_trusty.2.1 105 = .ok (.iconst (-1), 1) := by decide +kernel
theorem dX12_trusty_106 : decode mX12_trusty.2.1 106 = .ok (.iastore, 1) := by decide +kernel
theorem dX12_trusty_107 : decode mX12_trusty.2.1 107 = .ok (.iinc 6 1, 3) := by decide +kernel
theorem dX12_trusty_110 : decode mX12_trusty.2.1 110 = .ok (.goto (-31), 3) := by decide +kernel
theorem dX12_trusty_113 : decode mX12_trusty.2.1 113 = .ok (.iconst 1, 1) := by decide +kernel
theorem dX12_trusty_114 : decode mX12_trusty.2.1 114 = .ok (.istore 6, 2) := by decide +kernel
theorem dX12_trusty_116 : decode mX12_trusty.2.1 116 = .ok (.iload 6, 2) := by decide +kernel
theorem dX12_trusty_118 : decode mX12_trusty.2.1 118 = .ok (.bipush 12, 2) := by decide +kernel
theorem dX12_trusty_120 : decode mX12_trusty.2.1 120 = .ok (.if_icmp .gt 65, 3) := by decide +kernel
theorem dX12_trusty_123 : decode mX12_trusty.2.1 123 = .ok (.aload_n 0, 1) := by decide +kernel
theorem dX12_trusty_124 : decode mX12_trusty.2.1 124 = .ok (.getfield 170, 3) := by decide +kernel
theorem dX12_trusty_127 : decode mX12_trusty.2.1 127 = .ok (.iload 5, 2) := by decide +kernel
theorem dX12_trusty_129 : decode mX12_trusty.2.1 129 = .ok (.iaload, 1) := by decide +kernel
theorem dX12_trusty_130 : decode mX12_trusty.2.1 130 = .ok (.ifCond .ge 55, 3) := by decide +kernel
theorem dX12_trusty_133 : decode mX12_trusty.2.1 133 = .ok (.iconst 0, 1) := by decide +kernel
theorem dX12_trusty_134 : decode mX12_trusty.2.1 134 = .ok (.istore 7, 2) := by decide +kernel
theorem dX12_trusty_136 : decode mX12_trusty.2.1 136 = .ok (.iload 7, 2) := by decide +kernel
theorem dX12_trusty_138 : decode mX12_trusty.2.1 138 = .ok (.iload 4, 2) := by decide +kernel
theorem dX12_trusty_140 : decode mX12_trusty.2.1 140 = .ok (.if_icmp .ge 39, 3) := by decide +kernel
theorem dX12_trusty_143 : decode mX12_trusty.2.1 143 = .ok (.aload_n 0, 1) := by decide +kernel
theorem dX12_trusty_144 : decode mX12_trusty.2.1 144 = .ok (.getfield 170, 3) := by decide +kernel
theorem dX12_trusty_147 : decode mX12_trusty.2.1 147 = .ok (.iload 7, 2) := by decide +kernel
theorem dX12_trusty_149 : decode mX12_trusty.2.1 149 = .ok (.iaload, 1) := by decide +kernel
theorem dX12_trusty_150 : decode mX12_trusty.2.1 150 = .ok (.ifCond .ge 23, 3) := by decide +kernel
theorem dX12_trusty_153 : decode mX12_trusty.2.1 153 = .ok (.aload_n 0, 1) := by decide +kernel
theorem dX12_trusty_154 : decode mX12_trusty.2.1 154 = .ok (.iload 7, 2) := by decide +kernel
theorem dX12_trusty_156 : decode mX12_trusty.2.1 156 = .ok (.iload 6, 2) := by decide +kernel
theorem dX12_trusty_158 : decode mX12_trusty.2.1 158 = .ok (.invokevirtual 539, 3) := by decide +kernel
theorem dX12_trusty_161 : decode mX12_trusty.2.1 161 = .ok (.ifCond .eq 12, 3) := by decide +kernel
theorem dX12_trusty_164 : decode mX12_trusty.2.1 164 = .ok (.aload_n 0, 1) := by decide +kernel
theorem dX12_trusty_165 : decode mX12_trusty.2.1 165 = .ok (.getfield 170, 3) := by decide +kernel
theorem dX12_trusty_168 : decode mX12_trusty.2.1 168 = .ok (.iload 7, 2) := by decide +kernel
theorem dX12_trusty_170 : decode mX12_trusty.2.1 170 = .ok (.iload 6, 2) := by decide +kernel
theorem dX12_trusty_172 : decode mX12_trusty.2.1 172 = .ok (.iastore, 1) := by decide +kernel
theorem dX12_trusty_173 : decode mX12_trusty.2.1 173 = .ok (.iinc 7 1, 3) := by decide +kernel
theorem dX12_trusty_176 : decode mX12_trusty.2.1 176 = .ok (.goto (-40), 3) := by decide +kernel
theorem dX12_trusty_179 : decode mX12_trusty.2.1 179 = .ok (.iinc 6 1, 3) := by decide +kernel
theorem dX12_trusty_182 : decode mX12_trusty.2.1 182 = .ok (.goto (-66), 3) := by decide +kernel
theorem dX12_trusty_185 : decode mX12_trusty.2.1 185 = .ok (.aload_n 0, 1) := by decide +kernel
theorem dX12_trusty_186 : decode mX12_trusty.2.1 186 = .ok (.getfield 170, 3) := by decide +kernel
theorem dX12_trusty_189 : decode mX12_trusty.2.1 189 = .ok (.iload 5, 2) := by decide +kernel
theorem dX12_trusty_191 : decode mX12_trusty.2.1 191 = .ok (.iaload, 1) := by decide +kernel
theorem dX12_trusty_192 : decode mX12_trusty.2.1 192 = .ok (.ifCond .ge 8, 3) := by decide +kernel
theorem dX12_trusty_195 : decode mX12_trusty.2.1 195 = .ok (.bipush (-2), 2) := by decide +kernel
theorem dX12_trusty_197 : decode mX12_trusty.2.1 197 = .ok (.goto 10, 3) := by decide +kernel
theorem dX12_trusty_200 : decode mX12_trusty.2.1 200 = .ok (.aload_n 0, 1) := by decide +kernel
theorem dX12_trusty_201 : decode mX12_trusty.2.1 201 = .ok (.getfield 170, 3) := by decide +kernel
theorem dX12_trusty_204 : decode mX12_trusty.2.1 204 = .ok (.iload 5, 2) := by decide +kernel
theorem dX12_trusty_206 : decode mX12_trusty.2.1 206 = .ok (.iaload, 1) := by decide +kernel
theorem dX12_trusty_207 : decode mX12_trusty.2.1 207 = .ok (.ireturn, 1) := by decide +kernel
theorem dX12_isComeBy_0 : decode mX12_isComeBy.2.1 0 = .ok (.iconst (-1), 1) := by decide +kernel
theorem dX12_isComeBy_1 : decode mX12_isComeBy.2.1 1 = .ok (.istore_n 2, 1) := by decide +kernel
theorem dX12_isComeBy_2 : decode mX12_isComeBy.2.1 2 = .ok (.iconst 0, 1) := by decide +kernel
theorem dX12_isComeBy_3 : decode mX12_isComeBy.2.1 3 = .ok (.istore_n 3, 1) := by decide +kernel
theorem dX12_isComeBy_4 : decode mX12_isComeBy.2.1 4 = .ok (.iload_n 3, 1) := by decide +kernel
theorem dX12_isComeBy_5 : decode mX12_isComeBy.2.1 5 = .ok (.aload_n 0, 1) := by decide +kernel
theorem dX12_isComeBy_6 : decode mX12_isComeBy.2.1 6 = .ok (.getfield 408, 3) := by decide +kernel
theorem dX12_isComeBy_9 : decode mX12_isComeBy.2.1 9 = .ok (.if_icmp .ge 44, 3) := by decide +kernel
theorem dX12_isComeBy_12 : decode mX12_isComeBy.2.1 12 = .ok (.aload_n 0, 1) := by decide +kernel
theorem dX12_isComeBy_13 : decode mX12_isComeBy.2.1 13 = .ok (.iload_n 1, 1) := by decide +kernel
theorem dX12_isComeBy_14 : decode mX12_isComeBy.2.1 14 = .ok (.iload_n 3, 1) := by decide +kernel
theorem dX12_isComeBy_15 : decode mX12_isComeBy.2.1 15 = .ok (.invokevirtual 530, 3) := by decide +kernel
theorem dX12_isComeBy_18 : decode mX12_isComeBy.2.1 18 = .ok (.ifCond .ne 6, 3) := by decide +kernel
theorem dX12_isComeBy_21 : decode mX12_isComeBy.2.1 21 = .ok (.goto 26, 3) := by decide +kernel
theorem dX12_isComeBy_24 : decode mX12_isComeBy.2.1 24 = .ok (.iload_n 2, 1) := by decide +kernel
theorem dX12_isComeBy_25 : decode mX12_isComeBy.2.1 25 = .ok (.ifCond .lt 20, 3) := by decide +kernel
theorem dX12_isComeBy_28 : decode mX12_isComeBy.2.1 28 = .ok (.aload_n 0, 1) := by decide +kernel
theorem dX12_isComeBy_29 : decode mX12_isComeBy.2.1 29 = .ok (.getfield 113, 3) := by decide +kernel
theorem dX12_isComeBy_32 : decode mX12_isComeBy.2.1 32 = .ok (.iload_n 3, 1) := by decide +kernel
theorem dX12_isComeBy_33 : decode mX12_isComeBy.2.1 33 = .ok (.iaload, 1) := by decide +kernel
theorem dX12_isComeBy_34 : decode mX12_isComeBy.2.1 34 = .ok (.aload_n 0, 1) := by decide +kernel
theorem dX12_isComeBy_35 : decode mX12_isComeBy.2.1 35 = .ok (.getfield 113, 3) := by decide +kernel
theorem dX12_isComeBy_38 : decode mX12_isComeBy.2.1 38 = .ok (.iload_n 2, 1) := by decide +kernel
theorem dX12_isComeBy_39 : decode mX12_isComeBy.2.1 39 = .ok (.iaload, 1) := by decide +kernel
theorem dX12_isComeBy_40 : decode mX12_isComeBy.2.1 40 = .ok (.if_icmp .eq 5, 3) := by decide +kernel
theorem dX12_isComeBy_43 : decode mX12_isComeBy.2.1 43 = .ok (.iconst 0, 1) := by decide +kernel
theorem dX12_isComeBy_44 : decode mX12_isComeBy.2.1 44 = .ok (.ireturn, 1) := by decide +kernel
theorem dX12_isComeBy_45 : decode mX12_isComeBy.2.1 45 = .ok (.iload_n 3, 1) := by decide +kernel
theorem dX12_isComeBy_46 : decode mX12_isComeBy.2.1 46 = .ok (.istore_n 2, 1) := by decide +kernel
theorem dX12_isComeBy_47 : decode mX12_isComeBy.2.1 47 = .ok (.iinc 3 1, 3) := by decide +kernel
theorem dX12_isComeBy_50 : decode mX12_isComeBy.2.1 50 = .ok (.goto (-46), 3) := by decide +kernel
theorem dX12_isComeBy_53 : decode mX12_isComeBy.2.1 53 = .ok (.iconst 1, 1) := by decide +kernel
theorem dX12_isComeBy_54 : decode mX12_isComeBy.2.1 54 = .ok (.ireturn, 1) := by decide +kernel
theorem bX12_solves_0 {d : Nat} {g : xSt} {r : Option Value × xSt} {a1 : Int32} (W : xWf g) (k1 : (xI g 113 53) < 60 → xX (d + 1) mX12_solves 15 [some (.ref 113), some (.int a1), none, none, none, none, none] [] g = some r) (k2 : ¬ ((xI g 113 53) < 60) → xX (d + 1) mX12_solves 9 [some (.ref 113), some (.int a1), none, none, none, none, none] [] g = some r) : xX (d + 1) mX12_solves 0 [some (.ref 113), some (.int a1), none, none, none, none, none] [] g = some r :=
  Y_aload_n dX12_solves_0 rfl <| Y_getI dX12_solves_1 f_11_408 ft_11_53 (xis W 113 11 s_113 (Nat.le_of_ble_eq_true rfl)) <| Y_bipush 60 dX12_solves_4 bp_60 <| Y_lt 15 dX12_solves_6 rfl (fun q => X_le (xle_s (xle_s (xle_n (xle_n (xle_n (xle_n (xle_n xle_0))))))) (k1 q)) (fun q => X_le (xle_s (xle_s (xle_n (xle_n (xle_n (xle_n (xle_n xle_0))))))) (k2 q))
theorem bX12_solves_9 {d : Nat} {g : xSt} {r : Option Value × xSt} {a1 : Int32} (k : xX (d + 1) mX12_solves 23 [some (.ref 113), some (.int a1), none, none, none, none, none] [.long 1152921504606846975] g = some r) : xX (d + 1) mX12_solves 9 [some (.ref 113), some (.int a1), none, none, none, none, none] [] g = some r :=
  Y_ldc2 dX12_solves_9 kl_11_477 <| Y_goto 23 dX12_solves_12 rfl <| X_le (xle_s (xle_s (xle_n (xle_n (xle_n (xle_n (xle_n xle_0))))))) k
theorem bX12_solves_15 {d : Nat} {g : xSt} {r : Option Value × xSt} {a1 : Int32} (W : xWf g) (k : xX (d + 1) mX12_solves 23 [some (.ref 113), some (.int a1), none, none, none, none, none] [.long ((1 <<< (Int32.toInt64 (xI g 113 53) &&& 63)) - 1)] g = some r) : xX (d + 1) mX12_solves 15 [some (.ref 113), some (.int a1), none, none, none, none, none] [] g = some r :=
  Y_lconst 1 dX12_solves_15 rfl <| Y_aload_n dX12_solves_16 rfl <| Y_getI dX12_solves_17 f_11_408 ft_11_53 (xis W 113 11 s_113 (Nat.le_of_ble_eq_true rfl)) <| Y_lshl dX12_solves_20 <| Y_lconst 1 dX12_solves_21 rfl <| Y_lsub dX12_solves_22 <| X_le (xle_s (xle_s (xle_n (xle_n (xle_n (xle_n (xle_n xle_0))))))) k
theorem bX12_solves_23 {d : Nat} {g : xSt} {r : Option Value × xSt} {a1 : Int32} {s0 : Int64} (W : xWf g) (k1 : (xI g 113 53) ≤ 60 → xX (d + 1) mX12_solves 47 [some (.ref 113), some (.int a1), some (.long s0), none, none, none, none] [] g = some r) (k2 : ¬ ((xI g 113 53) ≤ 60) → xX (d + 1) mX12_solves 33 [some (.ref 113), some (.int a1), some (.long s0), none, none, none, none] [] g = some r) : xX (d + 1) mX12_solves 23 [some (.ref 113), some (.int a1), none, none, none, none, none] [.long s0] g = some r :=
  Y_lstore_n dX12_solves_23 rfl rfl <| Y_aload_n dX12_solves_24 rfl <| Y_getI dX12_solves_25 f_11_408 ft_11_53 (xis W 113 11 s_113 (Nat.le_of_ble_eq_true rfl)) <| Y_bipush 60 dX12_solves_28 bp_60 <| Y_le 47 dX12_solves_30 rfl (fun q => X_le (xle_s (xle_s (xle_s (xle_n (xle_n (xle_n (xle_n xle_0))))))) (k1 q)) (fun q => X_le (xle_s (xle_s (xle_s (xle_n (xle_n (xle_n (xle_n xle_0))))))) (k2 q))
theorem bX12_solves_33 {d : Nat} {g : xSt} {r : Option Value × xSt} {a1 : Int32} {a2 : Int64} (W : xWf g) (k : xX (d + 1) mX12_solves 48 [some (.ref 113), some (.int a1), some (.long a2), none, none, none, none] [.long ((1 <<< (Int32.toInt64 ((xI g 113 53) - 60) &&& 63)) - 1)] g = some r) : xX (d + 1) mX12_solves 33 [some (.ref 113), some (.int a1), some (.long a2), none, none, none, none] [] g = some r :=
  Y_lconst 1 dX12_solves_33 rfl <| Y_aload_n dX12_solves_34 rfl <| Y_getI dX12_solves_35 f_11_408 ft_11_53 (xis W 113 11 s_113 (Nat.le_of_ble_eq_true rfl)) <| Y_bipush 60 dX12_solves_38 bp_60 <| Y_isub dX12_solves_40 <| Y_lshl dX12_solves_41 <| Y_lconst 1 dX12_solves_42 rfl <| Y_lsub dX12_solves_43 <| Y_goto 48 dX12_solves_44 rfl <| X_le (xle_s (xle_s (xle_s (xle_n (xle_n (xle_n (xle_n xle_0))))))) k
theorem bX12_solves_47 {d : Nat} {g : xSt} {r : Option Value × xSt} {a1 : Int32} {a2 : Int64} (k : xX (d + 1) mX12_solves 48 [some (.ref 113), some (.int a1), some (.long a2), none, none, none, none] [.long 0] g = some r) : xX (d + 1) mX12_solves 47 [some (.ref 113), some (.int a1), some (.long a2), none, none, none, none] [] g = some r :=
  Y_lconst 0 dX12_solves_47 rfl <| X_le (xle_s (xle_s (xle_s (xle_n (xle_n (xle_n (xle_n xle_0))))))) k
theorem bX12_solves_48 {d : Nat} {g : xSt} {r : Option Value × xSt} {a1 r68 : Int32} {a2 s0 : Int64} {g61 g68 : xSt} (W : xWf g) (hz52 : a1 = 0 ∨ a1 = 1) (hk61 : xCallM d mX12_clearTable [.ref 113] (xWI (xWI g 113 72 a1) 113 71 (-1)) = some (none, g61)) (W61 : xWf g61) (hk68 : xCallM d mX12_isCome [.ref 113, .long a2, .long s0] g61 = some (some (.int r68), g68)) (W68 : xWf g68) (k1 : r68 = 0 → xX (d + 1) mX12_solves 76 [some (.ref 113), none, some (.long a2), none, some (.long s0), none, none] [] g68 = some r) (k2 : ¬ (r68 = 0) → xX (d + 1) mX12_solves 74 [none, none, none, none, none, none, none] [] g68 = some r) : xX (d + 1) mX12_solves 48 [some (.ref 113), some (.int a1), some (.long a2), none, none, none, none] [.long s0] g = some r :=
  Y_lstore dX12_solves_48 rfl rfl <| Y_aload_n dX12_solves_50 rfl <| Y_iload_n dX12_solves_51 rfl <| Y_putZ dX12_solves_52 f_11_467 fn_11_72 ft_11_72 (xis W 113 11 s_113 (Nat.le_of_ble_eq_true rfl)) (hz52) <| Y_aload_n dX12_solves_55 rfl <| Y_iconst (-1) dX12_solves_56 ic_m1 <| Y_putI dX12_solves_57 f_11_474 fn_11_71 ft_11_71 (xis W 113 11 s_113 (Nat.le_of_ble_eq_true rfl)) <| Y_aload_n dX12_solves_60 rfl <| Y_callV0 dX12_solves_61 cl_11_479 rfl rfl (xis W 113 11 s_113 (Nat.le_of_ble_eq_true rfl)) rfl rfl rfl (hk61) <| Y_aload_n dX12_solves_64 rfl <| Y_lload_n dX12_solves_65 rfl <| Y_lload dX12_solves_66 rfl <| Y_callV1 dX12_solves_68 cl_11_456 rfl rfl (xis W61 113 11 s_113 (Nat.le_of_ble_eq_true rfl)) rfl rfl rfl (hk68) <| Y_eq0 76 dX12_solves_71 rfl (fun q => X_le (xle_s (xle_n (xle_s (xle_n (xle_s (xle_n (xle_n xle_0))))))) (k1 q)) (fun q => X_le (xle_n (xle_n (xle_n (xle_n (xle_n (xle_n (xle_n xle_0))))))) (k2 q))
theorem bX12_solves_74 {d : Nat} {g : xSt} {r : Option Value × xSt}  (k : r = (some (.int 0), g)) : xX (d + 1) mX12_solves 74 [none, none, none, none, none, none, none] [] g = some r :=
  Y_iconst 0 dX12_solves_74 ic_0 <| Y_iret dX12_solves_75 rfl k
theorem bX12_solves_76 {d : Nat} {g : xSt} {r : Option Value × xSt} {a2 a4 : Int64} {g85 : xSt} (W : xWf g) (hk85 : xCallM d mX12_enter [.ref 113, .long a2, .long a4] (xWI g 113 70 0) = some (none, g85)) (W85 : xWf g85) (k : xX (d + 1) mX12_solves 91 [some (.ref 113), none, none, none, none, none, some (.int 0)] [] g85 = some r) : xX (d + 1) mX12_solves 76 [some (.ref 113), none, some (.long a2), none, some (.long a4), none, none] [] g = some r :=
  Y_aload_n dX12_solves_76 rfl <| Y_iconst 0 dX12_solves_77 ic_0 <| Y_putI dX12_solves_78 f_11_460 fn_11_70 ft_11_70 (xis W 113 11 s_113 (Nat.le_of_ble_eq_true rfl)) <| Y_aload_n dX12_solves_81 rfl <| Y_lload_n dX12_solves_82 rfl <| Y_lload dX12_solves_83 rfl <| Y_callV0 dX12_solves_85 cl_11_482 rfl rfl (xis W 113 11 s_113 (Nat.le_of_ble_eq_true rfl)) rfl rfl rfl (hk85) <| Y_iconst 0 dX12_solves_88 ic_0 <| Y_istore dX12_solves_89 rfl rfl <| X_le (xle_s (xle_n (xle_n (xle_n (xle_n (xle_n (xle_s xle_0))))))) k
theorem bX12_solves_91 {d : Nat} {g : xSt} {r : Option Value × xSt} {a6 : Int32} (W : xWf g) (k1 : (xI g 113 70) < 0 → xX (d + 1) mX12_solves 202 [none, none, none, none, none, none, some (.int a6)] [] g = some r) (k2 : ¬ ((xI g 113 70) < 0) → xX (d + 1) mX12_solves 98 [some (.ref 113), none, none, none, none, none, some (.int a6)] [] g = some r) : xX (d + 1) mX12_solves 91 [some (.ref 113), none, none, none, none, none, some (.int a6)] [] g = some r :=
  Y_aload_n dX12_solves_91 rfl <| Y_getI dX12_solves_92 f_11_460 ft_11_70 (xis W 113 11 s_113 (Nat.le_of_ble_eq_true rfl)) <| Y_lt0 202 dX12_solves_95 rfl (fun q => X_le (xle_n (xle_n (xle_n (xle_n (xle_n (xle_n (xle_s xle_0))))))) (k1 q)) (fun q => X_le (xle_s (xle_n (xle_n (xle_n (xle_n (xle_n (xle_s xle_0))))))) (k2 q))
theorem bX12_solves_98 {d : Nat} {g : xSt} {r : Option Value × xSt} {a6 : Int32} (W : xWf g) (hi106 : vp_in (xI g 113 70) 12) (k1 : (xI g 159 (xI g 113 70).toNatClampNeg) = (xI g 113 59) → xX (d + 1) mX12_solves 114 [some (.ref 113), none, none, none, none, none, none] [] g = some r) (k2 : ¬ ((xI g 159 (xI g 113 70).toNatClampNeg) = (xI g 113 59)) → xX (d + 1) mX12_solves 175 [some (.ref 113), none, none, none, none, none, some (.int a6)] [] g = some r) : xX (d + 1) mX12_solves 98 [some (.ref 113), none, none, none, none, none, some (.int a6)] [] g = some r :=
  Y_aload_n dX12_solves_98 rfl <| Y_getR dX12_solves_99 f_11_152 (by rw [ft_11_65]; rfl) (xis W 113 11 s_113 (Nat.le_of_ble_eq_true rfl)) (xptr W 113 65 p_113_65) <| Y_aload_n dX12_solves_102 rfl <| Y_getI dX12_solves_103 f_11_460 ft_11_70 (xis W 113 11 s_113 (Nat.le_of_ble_eq_true rfl)) <| Y_iald dX12_solves_106 (xarr W (o := 159) s_159 (Nat.le_of_ble_eq_true rfl)) hi106 <| Y_aload_n dX12_solves_107 rfl <| Y_getI dX12_solves_108 f_11_439 ft_11_59 (xis W 113 11 s_113 (Nat.le_of_ble_eq_true rfl)) <| Y_ne 175 dX12_solves_111 rfl (fun q => X_le (xle_s (xle_n (xle_n (xle_n (xle_n (xle_n (xle_n xle_0))))))) (k1 q)) (fun q => X_le (xle_s (xle_n (xle_n (xle_n (xle_n (xle_n (xle_s xle_0))))))) (k2 q))
theorem bX12_solves_114 {d : Nat} {g : xSt} {r : Option Value × xSt} {g146 : xSt} (W : xWf g) (hi122 : vp_in (xI g 113 70) 12) (hi134 : vp_in (xI g 113 70) 12) (hi143 : vp_in (xI g 113 70) 12) (hk146 : xCallM d mX12_meets [.ref 113, .long (xL g 157 (xI g 113 70).toNatClampNeg), .long (xL g 158 (xI g 113 70).toNatClampNeg), .int (xI g 163 (xI g 113 70).toNatClampNeg)] g = some (none, g146)) (W146 : xWf g146) (k1 : ((xI g146 113 70) - 1) < 0 → xX (d + 1) mX12_solves 91 [some (.ref 113), none, none, none, none, none, some (.int (xI g 163 (xI g 113 70).toNatClampNeg))] [] (xWI g146 113 70 ((xI g146 113 70) - 1)) = some r) (k2 : ¬ (((xI g146 113 70) - 1) < 0) → xX (d + 1) mX12_solves 166 [some (.ref 113), none, none, none, none, none, some (.int (xI g 163 (xI g 113 70).toNatClampNeg))] [] (xWI g146 113 70 ((xI g146 113 70) - 1)) = some r) : xX (d + 1) mX12_solves 114 [some (.ref 113), none, none, none, none, none, none] [] g = some r :=
  Y_aload_n dX12_solves_114 rfl <| Y_getR dX12_solves_115 f_11_164 (by rw [ft_11_69]; rfl) (xis W 113 11 s_113 (Nat.le_of_ble_eq_true rfl)) (xptr W 113 69 p_113_69) <| Y_aload_n dX12_solves_118 rfl <| Y_getI dX12_solves_119 f_11_460 ft_11_70 (xis W 113 11 s_113 (Nat.le_of_ble_eq_true rfl)) <| Y_iald dX12_solves_122 (xarr W (o := 163) s_163 (Nat.le_of_ble_eq_true rfl)) hi122 <| Y_istore dX12_solves_123 rfl rfl <| Y_aload_n dX12_solves_125 rfl <| Y_aload_n dX12_solves_126 rfl <| Y_getR dX12_solves_127 f_11_146 (by rw [ft_11_63]; rfl) (xis W 113 11 s_113 (Nat.le_of_ble_eq_true rfl)) (xptr W 113 63 p_113_63) <| Y_aload_n dX12_solves_130 rfl <| Y_getI dX12_solves_131 f_11_460 ft_11_70 (xis W 113 11 s_113 (Nat.le_of_ble_eq_true rfl)) <| Y_lald dX12_solves_134 (xarr W (o := 157) s_157 (Nat.le_of_ble_eq_true rfl)) hi134 <| Y_aload_n dX12_solves_135 rfl <| Y_getR dX12_solves_136 f_11_149 (by rw [ft_11_64]; rfl) (xis W 113 11 s_113 (Nat.le_of_ble_eq_true rfl)) (xptr W 113 64 p_113_64) <| Y_aload_n dX12_solves_139 rfl <| Y_getI dX12_solves_140 f_11_460 ft_11_70 (xis W 113 11 s_113 (Nat.le_of_ble_eq_true rfl)) <| Y_lald dX12_solves_143 (xarr W (o := 158) s_158 (Nat.le_of_ble_eq_true rfl)) hi143 <| Y_iload dX12_solves_144 rfl <| Y_callV0 dX12_solves_146 cl_11_486 rfl rfl (xis W 113 11 s_113 (Nat.le_of_ble_eq_true rfl)) rfl rfl rfl (hk146) <| Y_aload_n dX12_solves_149 rfl <| Y_dup dX12_solves_150 rfl <| Y_getI dX12_solves_151 f_11_460 ft_11_70 (xis W146 113 11 s_113 (Nat.le_of_ble_eq_true rfl)) <| Y_iconst 1 dX12_solves_154 ic_1 <| Y_isub dX12_solves_155 <| Y_putI dX12_solves_156 f_11_460 fn_11_70 ft_11_70 (xis W146 113 11 s_113 (Nat.le_of_ble_eq_true rfl)) <| Y_aload_n dX12_solves_159 rfl <| Y_getI dX12_solves_160 f_11_460 ft_11_70 (xis W146 113 11 s_113 (Nat.le_of_ble_eq_true rfl)) <| Y_lt0 91 dX12_solves_163 rfl (fun q => X_le (xle_s (xle_n (xle_n (xle_n (xle_n (xle_n (xle_s xle_0))))))) (k1 q)) (fun q => X_le (xle_s (xle_n (xle_n (xle_n (xle_n (xle_n (xle_s xle_0))))))) (k2 q))
theorem bX12_solves_166 {d : Nat} {g : xSt} {r : Option Value × xSt} {a6 : Int32} {g169 : xSt} (W : xWf g) (hk169 : xCallM d mX12_takes [.ref 113, .int a6] g = some (none, g169)) (W169 : xWf g169) (k : xX (d + 1) mX12_solves 91 [some (.ref 113), none, none, none, none, none, some (.int a6)] [] g169 = some r) : xX (d + 1) mX12_solves 166 [some (.ref 113), none, none, none, none, none, some (.int a6)] [] g = some r :=
  Y_aload_n dX12_solves_166 rfl <| Y_iload dX12_solves_167 rfl <| Y_callV0 dX12_solves_169 cl_11_490 rfl rfl (xis W 113 11 s_113 (Nat.le_of_ble_eq_true rfl)) rfl rfl rfl (hk169) <| Y_goto 91 dX12_solves_172 rfl <| X_le (xle_s (xle_n (xle_n (xle_n (xle_n (xle_n (xle_s xle_0))))))) k
theorem bX12_solves_175 {d : Nat} {g : xSt} {r : Option Value × xSt} {a6 : Int32} (W : xWf g) (hi183 : vp_in (xI g 113 70) 12) (k1 : (xI g 160 (xI g 113 70).toNatClampNeg) = 3 → xX (d + 1) mX12_solves 188 [some (.ref 113), none, none, none, none, none, some (.int a6)] [] g = some r) (k2 : ¬ ((xI g 160 (xI g 113 70).toNatClampNeg) = 3) → xX (d + 1) mX12_solves 195 [some (.ref 113), none, none, none, none, none, some (.int a6)] [] g = some r) : xX (d + 1) mX12_solves 175 [some (.ref 113), none, none, none, none, none, some (.int a6)] [] g = some r :=
  Y_aload_n dX12_solves_175 rfl <| Y_getR dX12_solves_176 f_11_155 (by rw [ft_11_66]; rfl) (xis W 113 11 s_113 (Nat.le_of_ble_eq_true rfl)) (xptr W 113 66 p_113_66) <| Y_aload_n dX12_solves_179 rfl <| Y_getI dX12_solves_180 f_11_460 ft_11_70 (xis W 113 11 s_113 (Nat.le_of_ble_eq_true rfl)) <| Y_iald dX12_solves_183 (xarr W (o := 160) s_160 (Nat.le_of_ble_eq_true rfl)) hi183 <| Y_iconst 3 dX12_solves_184 ic_3 <| Y_ne 195 dX12_solves_185 rfl (fun q => X_le (xle_s (xle_n (xle_n (xle_n (xle_n (xle_n (xle_s xle_0))))))) (k1 q)) (fun q => X_le (xle_s (xle_n (xle_n (xle_n (xle_n (xle_n (xle_s xle_0))))))) (k2 q))
theorem bX12_solves_188 {d : Nat} {g : xSt} {r : Option Value × xSt} {a6 : Int32} {g189 : xSt} (W : xWf g) (hk189 : xCallM d mX12_endPair [.ref 113] g = some (none, g189)) (W189 : xWf g189) (k : xX (d + 1) mX12_solves 91 [some (.ref 113), none, none, none, none, none, some (.int a6)] [] g189 = some r) : xX (d + 1) mX12_solves 188 [some (.ref 113), none, none, none, none, none, some (.int a6)] [] g = some r :=
  Y_aload_n dX12_solves_188 rfl <| Y_callV0 dX12_solves_189 cl_11_493 rfl rfl (xis W 113 11 s_113 (Nat.le_of_ble_eq_true rfl)) rfl rfl rfl (hk189) <| Y_goto 91 dX12_solves_192 rfl <| X_le (xle_s (xle_n (xle_n (xle_n (xle_n (xle_n (xle_s xle_0))))))) k
theorem bX12_solves_195 {d : Nat} {g : xSt} {r : Option Value × xSt} {a6 : Int32} {g196 : xSt} (W : xWf g) (hk196 : xCallM d mX12_goesOn [.ref 113] g = some (none, g196)) (W196 : xWf g196) (k : xX (d + 1) mX12_solves 91 [some (.ref 113), none, none, none, none, none, some (.int a6)] [] g196 = some r) : xX (d + 1) mX12_solves 195 [some (.ref 113), none, none, none, none, none, some (.int a6)] [] g = some r :=
  Y_aload_n dX12_solves_195 rfl <| Y_callV0 dX12_solves_196 cl_11_496 rfl rfl (xis W 113 11 s_113 (Nat.le_of_ble_eq_true rfl)) rfl rfl rfl (hk196) <| Y_goto 91 dX12_solves_199 rfl <| X_le (xle_s (xle_n (xle_n (xle_n (xle_n (xle_n (xle_s xle_0))))))) k
theorem bX12_solves_202 {d : Nat} {g : xSt} {r : Option Value × xSt} {a6 : Int32} (k : r = (some (.int a6), g)) : xX (d + 1) mX12_solves 202 [none, none, none, none, none, none, some (.int a6)] [] g = some r :=
  Y_iload dX12_solves_202 rfl <| Y_iret dX12_solves_204 rfl k
theorem bX12_clearTable_0 {d : Nat} {g : xSt} {r : Option Value × xSt}  (k : xX d mX12_clearTable 2 [some (.ref 113), some (.int 0)] [] g = some r) : xX d mX12_clearTable 0 [some (.ref 113), none] [] g = some r :=
  Y_iconst 0 dX12_clearTable_0 ic_0 <| Y_istore_n dX12_clearTable_1 rfl rfl <| X_le (xle_s (xle_s xle_0)) k
theorem bX12_clearTable_2 {d : Nat} {g : xSt} {r : Option Value × xSt} {a1 : Int32} (k1 : 16384 ≤ a1 → xX d mX12_clearTable 22 [none, none] [] g = some r) (k2 : ¬ (16384 ≤ a1) → xX d mX12_clearTable 9 [some (.ref 113), some (.int a1)] [] g = some r) : xX d mX12_clearTable 2 [some (.ref 113), some (.int a1)] [] g = some r :=
  Y_iload_n dX12_clearTable_2 rfl <| Y_sipush 16384 dX12_clearTable_3 sp_16384 <| Y_ge 22 dX12_clearTable_6 rfl (fun q => X_le (xle_n (xle_n xle_0)) (k1 q)) (fun q => X_le (xle_s (xle_s xle_0)) (k2 q))
theorem bX12_clearTable_9 {d : Nat} {g : xSt} {r : Option Value × xSt} {a1 : Int32} (W : xWf g) (hi15 : vp_in a1 16384) (k : xX d mX12_clearTable 2 [some (.ref 113), some (.int (a1 + 1))] [] (xWI g 156 a1.toNatClampNeg (-1)) = some r) : xX d mX12_clearTable 9 [some (.ref 113), some (.int a1)] [] g = some r :=
  Y_aload_n dX12_clearTable_9 rfl <| Y_getR dX12_clearTable_10 f_11_143 (by rw [ft_11_62]; rfl) (xis W 113 11 s_113 (Nat.le_of_ble_eq_true rfl)) (xptr W 113 62 p_113_62) <| Y_iload_n dX12_clearTable_13 rfl <| Y_iconst (-1) dX12_clearTable_14 ic_m1 <| Y_iast dX12_clearTable_15 (xarr W (o := 156) s_156 (Nat.le_of_ble_eq_true rfl)) hi15 <| Y_iinc 1 dX12_clearTable_16 rfl ic_1 rfl rfl <| Y_goto 2 dX12_clearTable_19 rfl <| X_le (xle_s (xle_s xle_0)) k
theorem bX12_clearTable_22 {d : Nat} {g : xSt} {r : Option Value × xSt}  (k : r = (none, g)) : xX d mX12_clearTable 22 [none, none] [] g = some r :=
  Y_ret dX12_clearTable_22 rfl k
theorem bX12_isCome_0 {d : Nat} {g : xSt} {r : Option Value × xSt} {a1 a3 : Int64} (k : xX (d + 1) mX12_isCome 6 [some (.ref 113), some (.long a1), none, some (.long a3), none, some (.int (-1)), some (.int 0)] [] g = some r) : xX (d + 1) mX12_isCome 0 [some (.ref 113), some (.long a1), none, some (.long a3), none, none, none] [] g = some r :=
  Y_iconst (-1) dX12_isCome_0 ic_m1 <| Y_istore dX12_isCome_1 rfl rfl <| Y_iconst 0 dX12_isCome_3 ic_0 <| Y_istore dX12_isCome_4 rfl rfl <| X_le (xle_s (xle_s (xle_n (xle_s (xle_n (xle_s (xle_s xle_0))))))) k
theorem bX12_isCome_6 {d : Nat} {g : xSt} {r : Option Value × xSt} {a1 a3 : Int64} {a5 a6 : Int32} (W : xWf g) (k1 : (xI g 113 53) ≤ a6 → xX (d + 1) mX12_isCome 72 [none, none, none, none, none, none, none] [] g = some r) (k2 : ¬ ((xI g 113 53) ≤ a6) → xX (d + 1) mX12_isCome 15 [some (.ref 113), some (.long a1), none, some (.long a3), none, some (.int a5), some (.int a6)] [] g = some r) : xX (d + 1) mX12_isCome 6 [some (.ref 113), some (.long a1), none, some (.long a3), none, some (.int a5), some (.int a6)] [] g = some r :=
  Y_iload dX12_isCome_6 rfl <| Y_aload_n dX12_isCome_8 rfl <| Y_getI dX12_isCome_9 f_11_408 ft_11_53 (xis W 113 11 s_113 (Nat.le_of_ble_eq_true rfl)) <| Y_ge 72 dX12_isCome_12 rfl (fun q => X_le (xle_n (xle_n (xle_n (xle_n (xle_n (xle_n (xle_n xle_0))))))) (k1 q)) (fun q => X_le (xle_s (xle_s (xle_n (xle_s (xle_n (xle_s (xle_s xle_0))))))) (k2 q))
theorem bX12_isCome_15 {d : Nat} {g : xSt} {r : Option Value × xSt} {a1 a3 : Int64} {a5 a6 r19 : Int32} {g19 : xSt} (hk19 : xCallM d mX12_has [.long a1, .long a3, .int a6] g = some (some (.int r19), g19)) (W19 : xWf g19) (k1 : r19 = 0 → xX (d + 1) mX12_isCome 25 [some (.ref 113), some (.long a1), none, some (.long a3), none, some (.int a5), some (.int a6)] [] g19 = some r) (k2 : ¬ (r19 = 0) → xX (d + 1) mX12_isCome 28 [some (.ref 113), some (.long a1), none, some (.long a3), none, some (.int a5), some (.int a6)] [] g19 = some r) : xX (d + 1) mX12_isCome 15 [some (.ref 113), some (.long a1), none, some (.long a3), none, some (.int a5), some (.int a6)] [] g = some r :=
  Y_lload_n dX12_isCome_15 rfl <| Y_lload_n dX12_isCome_16 rfl <| Y_iload dX12_isCome_17 rfl <| Y_callS1 dX12_isCome_19 cl_11_442 rfl rfl rfl rfl rfl (hk19) <| Y_ne0 28 dX12_isCome_22 rfl (fun q => X_le (xle_s (xle_s (xle_n (xle_s (xle_n (xle_s (xle_s xle_0))))))) (k1 q)) (fun q => X_le (xle_s (xle_s (xle_n (xle_s (xle_n (xle_s (xle_s xle_0))))))) (k2 q))
theorem bX12_isCome_25 {d : Nat} {g : xSt} {r : Option Value × xSt} {a1 a3 : Int64} {a5 a6 : Int32} (k : xX (d + 1) mX12_isCome 66 [some (.ref 113), some (.long a1), none, some (.long a3), none, some (.int a5), some (.int a6)] [] g = some r) : xX (d + 1) mX12_isCome 25 [some (.ref 113), some (.long a1), none, some (.long a3), none, some (.int a5), some (.int a6)] [] g = some r :=
  Y_goto 66 dX12_isCome_25 rfl <| X_le (xle_s (xle_s (xle_n (xle_s (xle_n (xle_s (xle_s xle_0))))))) k
theorem bX12_isCome_28 {d : Nat} {g : xSt} {r : Option Value × xSt} {a1 a3 : Int64} {a5 a6 : Int32} (k1 : a5 < 0 → xX (d + 1) mX12_isCome 52 [some (.ref 113), some (.long a1), none, some (.long a3), none, some (.int a5), some (.int a6)] [] g = some r) (k2 : ¬ (a5 < 0) → xX (d + 1) mX12_isCome 33 [some (.ref 113), some (.long a1), none, some (.long a3), none, some (.int a5), some (.int a6)] [] g = some r) : xX (d + 1) mX12_isCome 28 [some (.ref 113), some (.long a1), none, some (.long a3), none, some (.int a5), some (.int a6)] [] g = some r :=
  Y_iload dX12_isCome_28 rfl <| Y_lt0 52 dX12_isCome_30 rfl (fun q => X_le (xle_s (xle_s (xle_n (xle_s (xle_n (xle_s (xle_s xle_0))))))) (k1 q)) (fun q => X_le (xle_s (xle_s (xle_n (xle_s (xle_n (xle_s (xle_s xle_0))))))) (k2 q))
theorem bX12_isCome_33 {d : Nat} {g : xSt} {r : Option Value × xSt} {a1 a3 : Int64} {a5 a6 : Int32} (W : xWf g) (hi39 : vp_in a6 541) (hi46 : vp_in a5 541) (k1 : (xI g 146 a6.toNatClampNeg) = (xI g 146 a5.toNatClampNeg) → xX (d + 1) mX12_isCome 52 [some (.ref 113), some (.long a1), none, some (.long a3), none, some (.int a5), some (.int a6)] [] g = some r) (k2 : ¬ ((xI g 146 a6.toNatClampNeg) = (xI g 146 a5.toNatClampNeg)) → xX (d + 1) mX12_isCome 50 [none, none, none, none, none, none, none] [] g = some r) : xX (d + 1) mX12_isCome 33 [some (.ref 113), some (.long a1), none, some (.long a3), none, some (.int a5), some (.int a6)] [] g = some r :=
  Y_aload_n dX12_isCome_33 rfl <| Y_getR dX12_isCome_34 f_11_113 (by rw [ft_11_49]; rfl) (xis W 113 11 s_113 (Nat.le_of_ble_eq_true rfl)) (xptr W 113 49 p_113_49) <| Y_iload dX12_isCome_37 rfl <| Y_iald dX12_isCome_39 (xarr W (o := 146) s_146 (Nat.le_of_ble_eq_true rfl)) hi39 <| Y_aload_n dX12_isCome_40 rfl <| Y_getR dX12_isCome_41 f_11_113 (by rw [ft_11_49]; rfl) (xis W 113 11 s_113 (Nat.le_of_ble_eq_true rfl)) (xptr W 113 49 p_113_49) <| Y_iload dX12_isCome_44 rfl <| Y_iald dX12_isCome_46 (xarr W (o := 146) s_146 (Nat.le_of_ble_eq_true rfl)) hi46 <| Y_eq 52 dX12_isCome_47 rfl (fun q => X_le (xle_s (xle_s (xle_n (xle_s (xle_n (xle_s (xle_s xle_0))))))) (k1 q)) (fun q => X_le (xle_n (xle_n (xle_n (xle_n (xle_n (xle_n (xle_n xle_0))))))) (k2 q))
theorem bX12_isCome_50 {d : Nat} {g : xSt} {r : Option Value × xSt}  (k : r = (some (.int 0), g)) : xX (d + 1) mX12_isCome 50 [none, none, none, none, none, none, none] [] g = some r :=
  Y_iconst 0 dX12_isCome_50 ic_0 <| Y_zret dX12_isCome_51 rfl (by decide) k
theorem bX12_isCome_52 {d : Nat} {g : xSt} {r : Option Value × xSt} {a1 a3 : Int64} {a5 a6 : Int32} (k1 : 0 ≤ a5 → xX (d + 1) mX12_isCome 62 [some (.ref 113), some (.long a1), none, some (.long a3), none, some (.int a5), some (.int a6)] [] g = some r) (k2 : ¬ (0 ≤ a5) → xX (d + 1) mX12_isCome 57 [some (.ref 113), some (.long a1), none, some (.long a3), none, none, some (.int a6)] [] g = some r) : xX (d + 1) mX12_isCome 52 [some (.ref 113), some (.long a1), none, some (.long a3), none, some (.int a5), some (.int a6)] [] g = some r :=
  Y_iload dX12_isCome_52 rfl <| Y_ge0 62 dX12_isCome_54 rfl (fun q => X_le (xle_s (xle_s (xle_n (xle_s (xle_n (xle_s (xle_s xle_0))))))) (k1 q)) (fun q => X_le (xle_s (xle_s (xle_n (xle_s (xle_n (xle_n (xle_s xle_0))))))) (k2 q))
theorem bX12_isCome_57 {d : Nat} {g : xSt} {r : Option Value × xSt} {a1 a3 : Int64} {a6 : Int32} (k : xX (d + 1) mX12_isCome 64 [some (.ref 113), some (.long a1), none, some (.long a3), none, none, some (.int a6)] [.int a6] g = some r) : xX (d + 1) mX12_isCome 57 [some (.ref 113), some (.long a1), none, some (.long a3), none, none, some (.int a6)] [] g = some r :=
  Y_iload dX12_isCome_57 rfl <| Y_goto 64 dX12_isCome_59 rfl <| X_le (xle_s (xle_s (xle_n (xle_s (xle_n (xle_n (xle_s xle_0))))))) k
theorem bX12_isCome_62 {d : Nat} {g : xSt} {r : Option Value × xSt} {a1 a3 : Int64} {a5 a6 : Int32} (k : xX (d + 1) mX12_isCome 64 [some (.ref 113), some (.long a1), none, some (.long a3), none, none, some (.int a6)] [.int a5] g = some r) : xX (d + 1) mX12_isCome 62 [some (.ref 113), some (.long a1), none, some (.long a3), none, some (.int a5), some (.int a6)] [] g = some r :=
  Y_iload dX12_isCome_62 rfl <| X_le (xle_s (xle_s (xle_n (xle_s (xle_n (xle_n (xle_s xle_0))))))) k
theorem bX12_isCome_64 {d : Nat} {g : xSt} {r : Option Value × xSt} {a1 a3 : Int64} {a6 s0 : Int32} (k : xX (d + 1) mX12_isCome 66 [some (.ref 113), some (.long a1), none, some (.long a3), none, some (.int s0), some (.int a6)] [] g = some r) : xX (d + 1) mX12_isCome 64 [some (.ref 113), some (.long a1), none, some (.long a3), none, none, some (.int a6)] [.int s0] g = some r :=
  Y_istore dX12_isCome_64 rfl rfl <| X_le (xle_s (xle_s (xle_n (xle_s (xle_n (xle_s (xle_s xle_0))))))) k
theorem bX12_isCome_66 {d : Nat} {g : xSt} {r : Option Value × xSt} {a1 a3 : Int64} {a5 a6 : Int32} (k : xX (d + 1) mX12_isCome 6 [some (.ref 113), some (.long a1), none, some (.long a3), none, some (.int a5), some (.int (a6 + 1))] [] g = some r) : xX (d + 1) mX12_isCome 66 [some (.ref 113), some (.long a1), none, some (.long a3), none, some (.int a5), some (.int a6)] [] g = some r :=
  Y_iinc 1 dX12_isCome_66 rfl ic_1 rfl rfl <| Y_goto 6 dX12_isCome_69 rfl <| X_le (xle_s (xle_s (xle_n (xle_s (xle_n (xle_s (xle_s xle_0))))))) k
theorem bX12_isCome_72 {d : Nat} {g : xSt} {r : Option Value × xSt}  (k : r = (some (.int 1), g)) : xX (d + 1) mX12_isCome 72 [none, none, none, none, none, none, none] [] g = some r :=
  Y_iconst 1 dX12_isCome_72 ic_1 <| Y_zret dX12_isCome_73 rfl (by decide) k
theorem bX12_has_0 {d : Nat} {g : xSt} {r : Option Value × xSt} {a0 a2 : Int64} {a4 : Int32} (k1 : 60 ≤ a4 → xX d mX12_has 26 [none, none, some (.long a2), none, some (.int a4)] [] g = some r) (k2 : ¬ (60 ≤ a4) → xX d mX12_has 7 [some (.long a0), none, none, none, some (.int a4)] [] g = some r) : xX d mX12_has 0 [some (.long a0), none, some (.long a2), none, some (.int a4)] [] g = some r :=
  Y_iload dX12_has_0 rfl <| Y_bipush 60 dX12_has_2 bp_60 <| Y_ge 26 dX12_has_4 rfl (fun q => X_le (xle_n (xle_n (xle_s (xle_n (xle_s xle_0))))) (k1 q)) (fun q => X_le (xle_s (xle_n (xle_n (xle_n (xle_s xle_0))))) (k2 q))
theorem bX12_has_7 {d : Nat} {g : xSt} {r : Option Value × xSt} {a0 : Int64} {a4 : Int32} (k1 : (lg_cmp ((a0 >>> (Int32.toInt64 a4 &&& 63)) &&& 1) 1) = 0 → xX d mX12_has 18 [none, none, none, none, none] [] g = some r) (k2 : ¬ ((lg_cmp ((a0 >>> (Int32.toInt64 a4 &&& 63)) &&& 1) 1) = 0) → xX d mX12_has 22 [none, none, none, none, none] [] g = some r) : xX d mX12_has 7 [some (.long a0), none, none, none, some (.int a4)] [] g = some r :=
  Y_lload_n dX12_has_7 rfl <| Y_iload dX12_has_8 rfl <| Y_lshr dX12_has_10 <| Y_lconst 1 dX12_has_11 rfl <| Y_land dX12_has_12 <| Y_lconst 1 dX12_has_13 rfl <| Y_lcmp dX12_has_14 <| Y_ne0 22 dX12_has_15 rfl (fun q => X_le (xle_n (xle_n (xle_n (xle_n (xle_n xle_0))))) (k1 q)) (fun q => X_le (xle_n (xle_n (xle_n (xle_n (xle_n xle_0))))) (k2 q))
theorem bX12_has_18 {d : Nat} {g : xSt} {r : Option Value × xSt}  (k : xX d mX12_has 45 [none, none, none, none, none] [.int 1] g = some r) : xX d mX12_has 18 [none, none, none, none, none] [] g = some r :=
  Y_iconst 1 dX12_has_18 ic_1 <| Y_goto 45 dX12_has_19 rfl <| X_le (xle_n (xle_n (xle_n (xle_n (xle_n xle_0))))) k
theorem bX12_has_22 {d : Nat} {g : xSt} {r : Option Value × xSt}  (k : xX d mX12_has 45 [none, none, none, none, none] [.int 0] g = some r) : xX d mX12_has 22 [none, none, none, none, none] [] g = some r :=
  Y_iconst 0 dX12_has_22 ic_0 <| Y_goto 45 dX12_has_23 rfl <| X_le (xle_n (xle_n (xle_n (xle_n (xle_n xle_0))))) k
theorem bX12_has_26 {d : Nat} {g : xSt} {r : Option Value × xSt} {a2 : Int64} {a4 : Int32} (k1 : (lg_cmp ((a2 >>> (Int32.toInt64 (a4 - 60) &&& 63)) &&& 1) 1) = 0 → xX d mX12_has 40 [none, none, none, none, none] [] g = some r) (k2 : ¬ ((lg_cmp ((a2 >>> (Int32.toInt64 (a4 - 60) &&& 63)) &&& 1) 1) = 0) → xX d mX12_has 44 [none, none, none, none, none] [] g = some r) : xX d mX12_has 26 [none, none, some (.long a2), none, some (.int a4)] [] g = some r :=
  Y_lload_n dX12_has_26 rfl <| Y_iload dX12_has_27 rfl <| Y_bipush 60 dX12_has_29 bp_60 <| Y_isub dX12_has_31 <| Y_lshr dX12_has_32 <| Y_lconst 1 dX12_has_33 rfl <| Y_land dX12_has_34 <| Y_lconst 1 dX12_has_35 rfl <| Y_lcmp dX12_has_36 <| Y_ne0 44 dX12_has_37 rfl (fun q => X_le (xle_n (xle_n (xle_n (xle_n (xle_n xle_0))))) (k1 q)) (fun q => X_le (xle_n (xle_n (xle_n (xle_n (xle_n xle_0))))) (k2 q))
theorem bX12_has_40 {d : Nat} {g : xSt} {r : Option Value × xSt}  (k : xX d mX12_has 45 [none, none, none, none, none] [.int 1] g = some r) : xX d mX12_has 40 [none, none, none, none, none] [] g = some r :=
  Y_iconst 1 dX12_has_40 ic_1 <| Y_goto 45 dX12_has_41 rfl <| X_le (xle_n (xle_n (xle_n (xle_n (xle_n xle_0))))) k
theorem bX12_has_44 {d : Nat} {g : xSt} {r : Option Value × xSt}  (k : xX d mX12_has 45 [none, none, none, none, none] [.int 0] g = some r) : xX d mX12_has 44 [none, none, none, none, none] [] g = some r :=
  Y_iconst 0 dX12_has_44 ic_0 <| X_le (xle_n (xle_n (xle_n (xle_n (xle_n xle_0))))) k
theorem bX12_has_45 {d : Nat} {g : xSt} {r : Option Value × xSt} {s0 : Int32} (hz45 : s0 = 0 ∨ s0 = 1) (k : r = (some (.int s0), g)) : xX d mX12_has 45 [none, none, none, none, none] [.int s0] g = some r :=
  Y_zret dX12_has_45 rfl (hz45) k
theorem bX12_enter_0 {d : Nat} {g : xSt} {r : Option Value × xSt} {a1 a3 : Int64} {g43 : xSt} (W : xWf g) (hi9 : vp_in (xI g 113 70) 12) (hi19 : vp_in (xI g 113 70) 12) (hi29 : vp_in (xI g 113 70) 12) (hi41 : vp_in (xI g 113 70) 12) (hk43 : xCallM d mX12_beginPair [.ref 113] (xWI (xWI (xWL (xWL g 157 (xI g 113 70).toNatClampNeg a1) 158 (xI g 113 70).toNatClampNeg a3) 159 (xI g 113 70).toNatClampNeg 0) 163 (xI g 113 70).toNatClampNeg 1000000) = some (none, g43)) (W43 : xWf g43) (k : r = (none, g43)) : xX (d + 1) mX12_enter 0 [some (.ref 113), some (.long a1), none, some (.long a3), none] [] g = some r :=
  Y_aload_n dX12_enter_0 rfl <| Y_getR dX12_enter_1 f_11_146 (by rw [ft_11_63]; rfl) (xis W 113 11 s_113 (Nat.le_of_ble_eq_true rfl)) (xptr W 113 63 p_113_63) <| Y_aload_n dX12_enter_4 rfl <| Y_getI dX12_enter_5 f_11_460 ft_11_70 (xis W 113 11 s_113 (Nat.le_of_ble_eq_true rfl)) <| Y_lload_n dX12_enter_8 rfl <| Y_last dX12_enter_9 (xarr W (o := 157) s_157 (Nat.le_of_ble_eq_true rfl)) hi9 <| Y_aload_n dX12_enter_10 rfl <| Y_getR dX12_enter_11 f_11_149 (by rw [ft_11_64]; rfl) (xis W 113 11 s_113 (Nat.le_of_ble_eq_true rfl)) (xptr W 113 64 p_113_64) <| Y_aload_n dX12_enter_14 rfl <| Y_getI dX12_enter_15 f_11_460 ft_11_70 (xis W 113 11 s_113 (Nat.le_of_ble_eq_true rfl)) <| Y_lload_n dX12_enter_18 rfl <| Y_last dX12_enter_19 (xarr W (o := 158) s_158 (Nat.le_of_ble_eq_true rfl)) hi19 <| Y_aload_n dX12_enter_20 rfl <| Y_getR dX12_enter_21 f_11_152 (by rw [ft_11_65]; rfl) (xis W 113 11 s_113 (Nat.le_of_ble_eq_true rfl)) (xptr W 113 65 p_113_65) <| Y_aload_n dX12_enter_24 rfl <| Y_getI dX12_enter_25 f_11_460 ft_11_70 (xis W 113 11 s_113 (Nat.le_of_ble_eq_true rfl)) <| Y_iconst 0 dX12_enter_28 ic_0 <| Y_iast dX12_enter_29 (xarr W (o := 159) s_159 (Nat.le_of_ble_eq_true rfl)) hi29 <| Y_aload_n dX12_enter_30 rfl <| Y_getR dX12_enter_31 f_11_164 (by rw [ft_11_69]; rfl) (xis W 113 11 s_113 (Nat.le_of_ble_eq_true rfl)) (xptr W 113 69 p_113_69) <| Y_aload_n dX12_enter_34 rfl <| Y_getI dX12_enter_35 f_11_460 ft_11_70 (xis W 113 11 s_113 (Nat.le_of_ble_eq_true rfl)) <| Y_ldc_w dX12_enter_38 ki_11_463 <| Y_iast dX12_enter_41 (xarr W (o := 163) s_163 (Nat.le_of_ble_eq_true rfl)) hi41 <| Y_aload_n dX12_enter_42 rfl <| Y_callV0 dX12_enter_43 cl_11_464 rfl rfl (xis W 113 11 s_113 (Nat.le_of_ble_eq_true rfl)) rfl rfl rfl (hk43) <| Y_ret dX12_enter_46 rfl k
theorem bX12_beginPair_0 {d : Nat} {g : xSt} {r : Option Value × xSt}  (W : xWf g) (hi9 : vp_in (xI g 113 70) 12) (hi19 : vp_in (xI g 113 70) 12) (hi29 : vp_in (xI g 113 70) 12) (k : r = (none, xWI (xWI (xWI g 160 (xI g 113 70).toNatClampNeg 0) 161 (xI g 113 70).toNatClampNeg 0) 162 (xI g 113 70).toNatClampNeg 0)) : xX d mX12_beginPair 0 [some (.ref 113)] [] g = some r :=
  Y_aload_n dX12_beginPair_0 rfl <| Y_getR dX12_beginPair_1 f_11_155 (by rw [ft_11_66]; rfl) (xis W 113 11 s_113 (Nat.le_of_ble_eq_true rfl)) (xptr W 113 66 p_113_66) <| Y_aload_n dX12_beginPair_4 rfl <| Y_getI dX12_beginPair_5 f_11_460 ft_11_70 (xis W 113 11 s_113 (Nat.le_of_ble_eq_true rfl)) <| Y_iconst 0 dX12_beginPair_8 ic_0 <| Y_iast dX12_beginPair_9 (xarr W (o := 160) s_160 (Nat.le_of_ble_eq_true rfl)) hi9 <| Y_aload_n dX12_beginPair_10 rfl <| Y_getR dX12_beginPair_11 f_11_158 (by rw [ft_11_67]; rfl) (xis W 113 11 s_113 (Nat.le_of_ble_eq_true rfl)) (xptr W 113 67 p_113_67) <| Y_aload_n dX12_beginPair_14 rfl <| Y_getI dX12_beginPair_15 f_11_460 ft_11_70 (xis W 113 11 s_113 (Nat.le_of_ble_eq_true rfl)) <| Y_iconst 0 dX12_beginPair_18 ic_0 <| Y_iast dX12_beginPair_19 (xarr W (o := 161) s_161 (Nat.le_of_ble_eq_true rfl)) hi19 <| Y_aload_n dX12_beginPair_20 rfl <| Y_getR dX12_beginPair_21 f_11_161 (by rw [ft_11_68]; rfl) (xis W 113 11 s_113 (Nat.le_of_ble_eq_true rfl)) (xptr W 113 68 p_113_68) <| Y_aload_n dX12_beginPair_24 rfl <| Y_getI dX12_beginPair_25 f_11_460 ft_11_70 (xis W 113 11 s_113 (Nat.le_of_ble_eq_true rfl)) <| Y_iconst 0 dX12_beginPair_28 ic_0 <| Y_iast dX12_beginPair_29 (xarr W (o := 162) s_162 (Nat.le_of_ble_eq_true rfl)) hi29 <| Y_ret dX12_beginPair_30 rfl k
theorem bX12_meets_0 {d : Nat} {g : xSt} {r : Option Value × xSt} {a1 a3 : Int64} {a5 r3 : Int32} {g3 : xSt} (W : xWf g) (hk3 : xCallM d mX12_slot [.ref 113, .long a1, .long a3] g = some (some (.int r3), g3)) (W3 : xWf g3) (hi15 : vp_in r3 16384) (hi23 : vp_in r3 16384) (hi32 : vp_in r3 16384) (k : r = (none, xWI (xWL (xWL g3 154 r3.toNatClampNeg a1) 155 r3.toNatClampNeg a3) 156 r3.toNatClampNeg a5)) : xX (d + 1) mX12_meets 0 [some (.ref 113), some (.long a1), none, some (.long a3), none, some (.int a5), none] [] g = some r :=
  Y_aload_n dX12_meets_0 rfl <| Y_lload_n dX12_meets_1 rfl <| Y_lload_n dX12_meets_2 rfl <| Y_callV1 dX12_meets_3 cl_11_452 rfl rfl (xis W 113 11 s_113 (Nat.le_of_ble_eq_true rfl)) rfl rfl rfl (hk3) <| Y_istore dX12_meets_6 rfl rfl <| Y_aload_n dX12_meets_8 rfl <| Y_getR dX12_meets_9 f_11_137 (by rw [ft_11_60]; rfl) (xis W3 113 11 s_113 (Nat.le_of_ble_eq_true rfl)) (xptr W3 113 60 p_113_60) <| Y_iload dX12_meets_12 rfl <| Y_lload_n dX12_meets_14 rfl <| Y_last dX12_meets_15 (xarr W3 (o := 154) s_154 (Nat.le_of_ble_eq_true rfl)) hi15 <| Y_aload_n dX12_meets_16 rfl <| Y_getR dX12_meets_17 f_11_140 (by rw [ft_11_61]; rfl) (xis W3 113 11 s_113 (Nat.le_of_ble_eq_true rfl)) (xptr W3 113 61 p_113_61) <| Y_iload dX12_meets_20 rfl <| Y_lload_n dX12_meets_22 rfl <| Y_last dX12_meets_23 (xarr W3 (o := 155) s_155 (Nat.le_of_ble_eq_true rfl)) hi23 <| Y_aload_n dX12_meets_24 rfl <| Y_getR dX12_meets_25 f_11_143 (by rw [ft_11_62]; rfl) (xis W3 113 11 s_113 (Nat.le_of_ble_eq_true rfl)) (xptr W3 113 62 p_113_62) <| Y_iload dX12_meets_28 rfl <| Y_iload dX12_meets_30 rfl <| Y_iast dX12_meets_32 (xarr W3 (o := 156) s_156 (Nat.le_of_ble_eq_true rfl)) hi32 <| Y_ret dX12_meets_33 rfl k
theorem bX12_slot_0 {d : Nat} {g : xSt} {r : Option Value × xSt} {a1 a3 : Int64} (k : xX d mX12_slot 34 [some (.ref 113), some (.long a1), none, some (.long a3), none, none, none, some (.int (Int64.toInt32 (((((a1 * 31) + (a3 * 1000003)) ^^^ (((a1 * 31) + (a3 * 1000003)) >>> (Int32.toInt64 29 &&& 63))) ^^^ (((a1 * 31) + (a3 * 1000003)) >>> (Int32.toInt64 47 &&& 63))) &&& 16383)))] [] g = some r) : xX d mX12_slot 0 [some (.ref 113), some (.long a1), none, some (.long a3), none, none, none, none] [] g = some r :=
  Y_lload_n dX12_slot_0 rfl <| Y_ldc2 dX12_slot_1 kl_11_446 <| Y_lmul dX12_slot_4 <| Y_lload_n dX12_slot_5 rfl <| Y_ldc2 dX12_slot_6 kl_11_448 <| Y_lmul dX12_slot_9 <| Y_ladd dX12_slot_10 <| Y_lstore dX12_slot_11 rfl rfl <| Y_lload dX12_slot_13 rfl <| Y_lload dX12_slot_15 rfl <| Y_bipush 29 dX12_slot_17 bp_29 <| Y_lshr dX12_slot_19 <| Y_lxor dX12_slot_20 <| Y_lload dX12_slot_21 rfl <| Y_bipush 47 dX12_slot_23 bp_47 <| Y_lshr dX12_slot_25 <| Y_lxor dX12_slot_26 <| Y_ldc2 dX12_slot_27 kl_11_450 <| Y_land dX12_slot_30 <| Y_l2i dX12_slot_31 <| Y_istore dX12_slot_32 rfl rfl <| X_le (xle_s (xle_s (xle_n (xle_s (xle_n (xle_n (xle_n (xle_s xle_0)))))))) k
theorem bX12_slot_34 {d : Nat} {g : xSt} {r : Option Value × xSt} {a1 a3 : Int64} {a7 : Int32} (W : xWf g) (hi40 : vp_in a7 16384) (k1 : (xI g 156 a7.toNatClampNeg) < 0 → xX d mX12_slot 81 [none, none, none, none, none, none, none, some (.int a7)] [] g = some r) (k2 : ¬ ((xI g 156 a7.toNatClampNeg) < 0) → xX d mX12_slot 44 [some (.ref 113), some (.long a1), none, some (.long a3), none, none, none, some (.int a7)] [] g = some r) : xX d mX12_slot 34 [some (.ref 113), some (.long a1), none, some (.long a3), none, none, none, some (.int a7)] [] g = some r :=
  Y_aload_n dX12_slot_34 rfl <| Y_getR dX12_slot_35 f_11_143 (by rw [ft_11_62]; rfl) (xis W 113 11 s_113 (Nat.le_of_ble_eq_true rfl)) (xptr W 113 62 p_113_62) <| Y_iload dX12_slot_38 rfl <| Y_iald dX12_slot_40 (xarr W (o := 156) s_156 (Nat.le_of_ble_eq_true rfl)) hi40 <| Y_lt0 81 dX12_slot_41 rfl (fun q => X_le (xle_n (xle_n (xle_n (xle_n (xle_n (xle_n (xle_n (xle_s xle_0)))))))) (k1 q)) (fun q => X_le (xle_s (xle_s (xle_n (xle_s (xle_n (xle_n (xle_n (xle_s xle_0)))))))) (k2 q))
theorem bX12_slot_44 {d : Nat} {g : xSt} {r : Option Value × xSt} {a1 a3 : Int64} {a7 : Int32} (W : xWf g) (hi50 : vp_in a7 16384) (k1 : (lg_cmp (xL g 154 a7.toNatClampNeg) a1) = 0 → xX d mX12_slot 56 [some (.ref 113), some (.long a1), none, some (.long a3), none, none, none, some (.int a7)] [] g = some r) (k2 : ¬ ((lg_cmp (xL g 154 a7.toNatClampNeg) a1) = 0) → xX d mX12_slot 68 [some (.ref 113), some (.long a1), none, some (.long a3), none, none, none, some (.int a7)] [] g = some r) : xX d mX12_slot 44 [some (.ref 113), some (.long a1), none, some (.long a3), none, none, none, some (.int a7)] [] g = some r :=
  Y_aload_n dX12_slot_44 rfl <| Y_getR dX12_slot_45 f_11_137 (by rw [ft_11_60]; rfl) (xis W 113 11 s_113 (Nat.le_of_ble_eq_true rfl)) (xptr W 113 60 p_113_60) <| Y_iload dX12_slot_48 rfl <| Y_lald dX12_slot_50 (xarr W (o := 154) s_154 (Nat.le_of_ble_eq_true rfl)) hi50 <| Y_lload_n dX12_slot_51 rfl <| Y_lcmp dX12_slot_52 <| Y_ne0 68 dX12_slot_53 rfl (fun q => X_le (xle_s (xle_s (xle_n (xle_s (xle_n (xle_n (xle_n (xle_s xle_0)))))))) (k1 q)) (fun q => X_le (xle_s (xle_s (xle_n (xle_s (xle_n (xle_n (xle_n (xle_s xle_0)))))))) (k2 q))
theorem bX12_slot_56 {d : Nat} {g : xSt} {r : Option Value × xSt} {a1 a3 : Int64} {a7 : Int32} (W : xWf g) (hi62 : vp_in a7 16384) (k1 : (lg_cmp (xL g 155 a7.toNatClampNeg) a3) = 0 → xX d mX12_slot 81 [none, none, none, none, none, none, none, some (.int a7)] [] g = some r) (k2 : ¬ ((lg_cmp (xL g 155 a7.toNatClampNeg) a3) = 0) → xX d mX12_slot 68 [some (.ref 113), some (.long a1), none, some (.long a3), none, none, none, some (.int a7)] [] g = some r) : xX d mX12_slot 56 [some (.ref 113), some (.long a1), none, some (.long a3), none, none, none, some (.int a7)] [] g = some r :=
  Y_aload_n dX12_slot_56 rfl <| Y_getR dX12_slot_57 f_11_140 (by rw [ft_11_61]; rfl) (xis W 113 11 s_113 (Nat.le_of_ble_eq_true rfl)) (xptr W 113 61 p_113_61) <| Y_iload dX12_slot_60 rfl <| Y_lald dX12_slot_62 (xarr W (o := 155) s_155 (Nat.le_of_ble_eq_true rfl)) hi62 <| Y_lload_n dX12_slot_63 rfl <| Y_lcmp dX12_slot_64 <| Y_eq0 81 dX12_slot_65 rfl (fun q => X_le (xle_n (xle_n (xle_n (xle_n (xle_n (xle_n (xle_n (xle_s xle_0)))))))) (k1 q)) (fun q => X_le (xle_s (xle_s (xle_n (xle_s (xle_n (xle_n (xle_n (xle_s xle_0)))))))) (k2 q))
theorem bX12_slot_68 {d : Nat} {g : xSt} {r : Option Value × xSt} {a1 a3 : Int64} {a7 : Int32} (k : xX d mX12_slot 34 [some (.ref 113), some (.long a1), none, some (.long a3), none, none, none, some (.int ((a7 + 1) &&& 16383))] [] g = some r) : xX d mX12_slot 68 [some (.ref 113), some (.long a1), none, some (.long a3), none, none, none, some (.int a7)] [] g = some r :=
  Y_iload dX12_slot_68 rfl <| Y_iconst 1 dX12_slot_70 ic_1 <| Y_iadd dX12_slot_71 <| Y_sipush 16383 dX12_slot_72 sp_16383 <| Y_iand dX12_slot_75 <| Y_istore dX12_slot_76 rfl rfl <| Y_goto 34 dX12_slot_78 rfl <| X_le (xle_s (xle_s (xle_n (xle_s (xle_n (xle_n (xle_n (xle_s xle_0)))))))) k
theorem bX12_slot_81 {d : Nat} {g : xSt} {r : Option Value × xSt} {a7 : Int32} (k : r = (some (.int a7), g)) : xX d mX12_slot 81 [none, none, none, none, none, none, none, some (.int a7)] [] g = some r :=
  Y_iload dX12_slot_81 rfl <| Y_iret dX12_slot_83 rfl k
theorem bX12_takes_0 {d : Nat} {g : xSt} {r : Option Value × xSt} {a1 : Int32} (W : xWf g) (k1 : (xI g 113 72) = 0 → xX d mX12_takes 29 [some (.ref 113), some (.int a1)] [.int (xI g 113 70), .ref 161] g = some r) (k2 : ¬ ((xI g 113 72) = 0) → xX d mX12_takes 15 [some (.ref 113), some (.int a1)] [.int (xI g 113 70), .ref 161] g = some r) : xX d mX12_takes 0 [some (.ref 113), some (.int a1)] [] g = some r :=
  Y_aload_n dX12_takes_0 rfl <| Y_getR dX12_takes_1 f_11_158 (by rw [ft_11_67]; rfl) (xis W 113 11 s_113 (Nat.le_of_ble_eq_true rfl)) (xptr W 113 67 p_113_67) <| Y_aload_n dX12_takes_4 rfl <| Y_getI dX12_takes_5 f_11_460 ft_11_70 (xis W 113 11 s_113 (Nat.le_of_ble_eq_true rfl)) <| Y_aload_n dX12_takes_8 rfl <| Y_getZ dX12_takes_9 f_11_467 ft_11_72 (xis W 113 11 s_113 (Nat.le_of_ble_eq_true rfl)) <| Y_eq0 29 dX12_takes_12 rfl (fun q => X_le (xle_s (xle_s xle_0)) (k1 q)) (fun q => X_le (xle_s (xle_s xle_0)) (k2 q))
theorem bX12_takes_15 {d : Nat} {g : xSt} {r : Option Value × xSt} {a1 s0 : Int32} (W : xWf g) (hi23 : vp_in (xI g 113 70) 12) (k : xX d mX12_takes 55 [some (.ref 113), none] [.int ((xI g 161 (xI g 113 70).toNatClampNeg) + a1), .int s0, .ref 161] g = some r) : xX d mX12_takes 15 [some (.ref 113), some (.int a1)] [.int s0, .ref 161] g = some r :=
  Y_aload_n dX12_takes_15 rfl <| Y_getR dX12_takes_16 f_11_158 (by rw [ft_11_67]; rfl) (xis W 113 11 s_113 (Nat.le_of_ble_eq_true rfl)) (xptr W 113 67 p_113_67) <| Y_aload_n dX12_takes_19 rfl <| Y_getI dX12_takes_20 f_11_460 ft_11_70 (xis W 113 11 s_113 (Nat.le_of_ble_eq_true rfl)) <| Y_iald dX12_takes_23 (xarr W (o := 161) s_161 (Nat.le_of_ble_eq_true rfl)) hi23 <| Y_iload_n dX12_takes_24 rfl <| Y_iadd dX12_takes_25 <| Y_goto 55 dX12_takes_26 rfl <| X_le (xle_s (xle_n xle_0)) k
theorem bX12_takes_29 {d : Nat} {g : xSt} {r : Option Value × xSt} {a1 s0 : Int32} (W : xWf g) (hi38 : vp_in (xI g 113 70) 12) (k1 : a1 ≤ (xI g 161 (xI g 113 70).toNatClampNeg) → xX d mX12_takes 46 [some (.ref 113), none] [.int s0, .ref 161] g = some r) (k2 : ¬ (a1 ≤ (xI g 161 (xI g 113 70).toNatClampNeg)) → xX d mX12_takes 42 [some (.ref 113), some (.int a1)] [.int s0, .ref 161] g = some r) : xX d mX12_takes 29 [some (.ref 113), some (.int a1)] [.int s0, .ref 161] g = some r :=
  Y_iload_n dX12_takes_29 rfl <| Y_aload_n dX12_takes_30 rfl <| Y_getR dX12_takes_31 f_11_158 (by rw [ft_11_67]; rfl) (xis W 113 11 s_113 (Nat.le_of_ble_eq_true rfl)) (xptr W 113 67 p_113_67) <| Y_aload_n dX12_takes_34 rfl <| Y_getI dX12_takes_35 f_11_460 ft_11_70 (xis W 113 11 s_113 (Nat.le_of_ble_eq_true rfl)) <| Y_iald dX12_takes_38 (xarr W (o := 161) s_161 (Nat.le_of_ble_eq_true rfl)) hi38 <| Y_le 46 dX12_takes_39 rfl (fun q => X_le (xle_s (xle_n xle_0)) (k1 q)) (fun q => X_le (xle_s (xle_s xle_0)) (k2 q))
theorem bX12_takes_42 {d : Nat} {g : xSt} {r : Option Value × xSt} {a1 s0 : Int32} (k : xX d mX12_takes 55 [some (.ref 113), none] [.int a1, .int s0, .ref 161] g = some r) : xX d mX12_takes 42 [some (.ref 113), some (.int a1)] [.int s0, .ref 161] g = some r :=
  Y_iload_n dX12_takes_42 rfl <| Y_goto 55 dX12_takes_43 rfl <| X_le (xle_s (xle_n xle_0)) k
theorem bX12_takes_46 {d : Nat} {g : xSt} {r : Option Value × xSt} {s0 : Int32} (W : xWf g) (hi54 : vp_in (xI g 113 70) 12) (k : xX d mX12_takes 55 [some (.ref 113), none] [.int (xI g 161 (xI g 113 70).toNatClampNeg), .int s0, .ref 161] g = some r) : xX d mX12_takes 46 [some (.ref 113), none] [.int s0, .ref 161] g = some r :=
  Y_aload_n dX12_takes_46 rfl <| Y_getR dX12_takes_47 f_11_158 (by rw [ft_11_67]; rfl) (xis W 113 11 s_113 (Nat.le_of_ble_eq_true rfl)) (xptr W 113 67 p_113_67) <| Y_aload_n dX12_takes_50 rfl <| Y_getI dX12_takes_51 f_11_460 ft_11_70 (xis W 113 11 s_113 (Nat.le_of_ble_eq_true rfl)) <| Y_iald dX12_takes_54 (xarr W (o := 161) s_161 (Nat.le_of_ble_eq_true rfl)) hi54 <| X_le (xle_s (xle_n xle_0)) k
theorem bX12_takes_55 {d : Nat} {g : xSt} {r : Option Value × xSt} {s1 s0 : Int32} (W : xWf g) (hi55 : vp_in s1 12) (hi65 : vp_in (xI g 113 70) 12) (hi68 : vp_in (xI g 113 70) 12) (hi78 : vp_in (xI g 113 70) 12) (hi81 : vp_in (xI g 113 70) 12) (k : r = (none, xWI (xWI (xWI g 161 s1.toNatClampNeg s0) 162 (xI g 113 70).toNatClampNeg ((xI g 162 (xI g 113 70).toNatClampNeg) + 1)) 160 (xI g 113 70).toNatClampNeg ((xI g 160 (xI g 113 70).toNatClampNeg) + 1))) : xX d mX12_takes 55 [some (.ref 113), none] [.int s0, .int s1, .ref 161] g = some r :=
  Y_iast dX12_takes_55 (xarr W (o := 161) s_161 (Nat.le_of_ble_eq_true rfl)) hi55 <| Y_aload_n dX12_takes_56 rfl <| Y_getR dX12_takes_57 f_11_161 (by rw [ft_11_68]; rfl) (xis W 113 11 s_113 (Nat.le_of_ble_eq_true rfl)) (xptr W 113 68 p_113_68) <| Y_aload_n dX12_takes_60 rfl <| Y_getI dX12_takes_61 f_11_460 ft_11_70 (xis W 113 11 s_113 (Nat.le_of_ble_eq_true rfl)) <| Y_dup2 dX12_takes_64 rfl rfl <| Y_iald dX12_takes_65 (xarr W (o := 162) s_162 (Nat.le_of_ble_eq_true rfl)) hi65 <| Y_iconst 1 dX12_takes_66 ic_1 <| Y_iadd dX12_takes_67 <| Y_iast dX12_takes_68 (xarr W (o := 162) s_162 (Nat.le_of_ble_eq_true rfl)) hi68 <| Y_aload_n dX12_takes_69 rfl <| Y_getR dX12_takes_70 f_11_155 (by rw [ft_11_66]; rfl) (xis W 113 11 s_113 (Nat.le_of_ble_eq_true rfl)) (xptr W 113 66 p_113_66) <| Y_aload_n dX12_takes_73 rfl <| Y_getI dX12_takes_74 f_11_460 ft_11_70 (xis W 113 11 s_113 (Nat.le_of_ble_eq_true rfl)) <| Y_dup2 dX12_takes_77 rfl rfl <| Y_iald dX12_takes_78 (xarr W (o := 160) s_160 (Nat.le_of_ble_eq_true rfl)) hi78 <| Y_iconst 1 dX12_takes_79 ic_1 <| Y_iadd dX12_takes_80 <| Y_iast dX12_takes_81 (xarr W (o := 160) s_160 (Nat.le_of_ble_eq_true rfl)) hi81 <| Y_ret dX12_takes_82 rfl k
theorem bX12_endPair_0 {d : Nat} {g : xSt} {r : Option Value × xSt}  (W : xWf g) (hi8 : vp_in (xI g 113 70) 12) (k1 : (xI g 113 72) = 0 → xX (d + 1) mX12_endPair 41 [some (.ref 113), none] [.int (xI g 161 (xI g 113 70).toNatClampNeg)] g = some r) (k2 : ¬ ((xI g 113 72) = 0) → xX (d + 1) mX12_endPair 16 [some (.ref 113), none] [.int (xI g 161 (xI g 113 70).toNatClampNeg)] g = some r) : xX (d + 1) mX12_endPair 0 [some (.ref 113), none] [] g = some r :=
  Y_aload_n dX12_endPair_0 rfl <| Y_getR dX12_endPair_1 f_11_158 (by rw [ft_11_67]; rfl) (xis W 113 11 s_113 (Nat.le_of_ble_eq_true rfl)) (xptr W 113 67 p_113_67) <| Y_aload_n dX12_endPair_4 rfl <| Y_getI dX12_endPair_5 f_11_460 ft_11_70 (xis W 113 11 s_113 (Nat.le_of_ble_eq_true rfl)) <| Y_iald dX12_endPair_8 (xarr W (o := 161) s_161 (Nat.le_of_ble_eq_true rfl)) hi8 <| Y_aload_n dX12_endPair_9 rfl <| Y_getZ dX12_endPair_10 f_11_467 ft_11_72 (xis W 113 11 s_113 (Nat.le_of_ble_eq_true rfl)) <| Y_eq0 41 dX12_endPair_13 rfl (fun q => X_le (xle_s (xle_n xle_0)) (k1 q)) (fun q => X_le (xle_s (xle_n xle_0)) (k2 q))
theorem bX12_endPair_16 {d : Nat} {g : xSt} {r : Option Value × xSt} {s0 r35 : Int32} {g35 : xSt} (W : xWf g) (hi25 : vp_in (xI g 113 70) 12) (hi34 : vp_in (xI g 113 70) 12) (hk35 : xCallM d mX12_sizeOf [.ref 113, .long (xL g 157 (xI g 113 70).toNatClampNeg), .long (xL g 158 (xI g 113 70).toNatClampNeg)] g = some (some (.int r35), g35)) (W35 : xWf g35) (k : xX (d + 1) mX12_endPair 42 [some (.ref 113), none] [.int r35, .int s0] g35 = some r) : xX (d + 1) mX12_endPair 16 [some (.ref 113), none] [.int s0] g = some r :=
  Y_aload_n dX12_endPair_16 rfl <| Y_aload_n dX12_endPair_17 rfl <| Y_getR dX12_endPair_18 f_11_146 (by rw [ft_11_63]; rfl) (xis W 113 11 s_113 (Nat.le_of_ble_eq_true rfl)) (xptr W 113 63 p_113_63) <| Y_aload_n dX12_endPair_21 rfl <| Y_getI dX12_endPair_22 f_11_460 ft_11_70 (xis W 113 11 s_113 (Nat.le_of_ble_eq_true rfl)) <| Y_lald dX12_endPair_25 (xarr W (o := 157) s_157 (Nat.le_of_ble_eq_true rfl)) hi25 <| Y_aload_n dX12_endPair_26 rfl <| Y_getR dX12_endPair_27 f_11_149 (by rw [ft_11_64]; rfl) (xis W 113 11 s_113 (Nat.le_of_ble_eq_true rfl)) (xptr W 113 64 p_113_64) <| Y_aload_n dX12_endPair_30 rfl <| Y_getI dX12_endPair_31 f_11_460 ft_11_70 (xis W 113 11 s_113 (Nat.le_of_ble_eq_true rfl)) <| Y_lald dX12_endPair_34 (xarr W (o := 158) s_158 (Nat.le_of_ble_eq_true rfl)) hi34 <| Y_callV1 dX12_endPair_35 cl_11_471 rfl rfl (xis W 113 11 s_113 (Nat.le_of_ble_eq_true rfl)) rfl rfl rfl (hk35) <| Y_goto 42 dX12_endPair_38 rfl <| X_le (xle_s (xle_n xle_0)) k
theorem bX12_endPair_41 {d : Nat} {g : xSt} {r : Option Value × xSt} {s0 : Int32} (k : xX (d + 1) mX12_endPair 42 [some (.ref 113), none] [.int 1, .int s0] g = some r) : xX (d + 1) mX12_endPair 41 [some (.ref 113), none] [.int s0] g = some r :=
  Y_iconst 1 dX12_endPair_41 ic_1 <| X_le (xle_s (xle_n xle_0)) k
theorem bX12_endPair_42 {d : Nat} {g : xSt} {r : Option Value × xSt} {s1 s0 : Int32} (W : xWf g) (hi52 : vp_in (xI g 113 70) 12) (k1 : (xI g 162 (xI g 113 70).toNatClampNeg) ≤ 1 → xX (d + 1) mX12_endPair 97 [some (.ref 113), none] [] g = some r) (k2 : ¬ ((xI g 162 (xI g 113 70).toNatClampNeg) ≤ 1) → xX (d + 1) mX12_endPair 57 [some (.ref 113), some (.int (s1 + s0))] [] g = some r) : xX (d + 1) mX12_endPair 42 [some (.ref 113), none] [.int s0, .int s1] g = some r :=
  Y_iadd dX12_endPair_42 <| Y_istore_n dX12_endPair_43 rfl rfl <| Y_aload_n dX12_endPair_44 rfl <| Y_getR dX12_endPair_45 f_11_161 (by rw [ft_11_68]; rfl) (xis W 113 11 s_113 (Nat.le_of_ble_eq_true rfl)) (xptr W 113 68 p_113_68) <| Y_aload_n dX12_endPair_48 rfl <| Y_getI dX12_endPair_49 f_11_460 ft_11_70 (xis W 113 11 s_113 (Nat.le_of_ble_eq_true rfl)) <| Y_iald dX12_endPair_52 (xarr W (o := 162) s_162 (Nat.le_of_ble_eq_true rfl)) hi52 <| Y_iconst 1 dX12_endPair_53 ic_1 <| Y_le 97 dX12_endPair_54 rfl (fun q => X_le (xle_s (xle_n xle_0)) (k1 q)) (fun q => X_le (xle_s (xle_s xle_0)) (k2 q))
theorem bX12_endPair_57 {d : Nat} {g : xSt} {r : Option Value × xSt} {a1 : Int32} (W : xWf g) (hi66 : vp_in (xI g 113 70) 12) (k1 : (xI g 163 (xI g 113 70).toNatClampNeg) ≤ a1 → xX (d + 1) mX12_endPair 97 [some (.ref 113), none] [] g = some r) (k2 : ¬ ((xI g 163 (xI g 113 70).toNatClampNeg) ≤ a1) → xX (d + 1) mX12_endPair 70 [some (.ref 113), some (.int a1)] [] g = some r) : xX (d + 1) mX12_endPair 57 [some (.ref 113), some (.int a1)] [] g = some r :=
  Y_iload_n dX12_endPair_57 rfl <| Y_aload_n dX12_endPair_58 rfl <| Y_getR dX12_endPair_59 f_11_164 (by rw [ft_11_69]; rfl) (xis W 113 11 s_113 (Nat.le_of_ble_eq_true rfl)) (xptr W 113 69 p_113_69) <| Y_aload_n dX12_endPair_62 rfl <| Y_getI dX12_endPair_63 f_11_460 ft_11_70 (xis W 113 11 s_113 (Nat.le_of_ble_eq_true rfl)) <| Y_iald dX12_endPair_66 (xarr W (o := 163) s_163 (Nat.le_of_ble_eq_true rfl)) hi66 <| Y_ge 97 dX12_endPair_67 rfl (fun q => X_le (xle_s (xle_n xle_0)) (k1 q)) (fun q => X_le (xle_s (xle_s xle_0)) (k2 q))
theorem bX12_endPair_70 {d : Nat} {g : xSt} {r : Option Value × xSt} {a1 : Int32} (W : xWf g) (hi79 : vp_in (xI g 113 70) 12) (k1 : (xI g 113 70) = 0 → xX (d + 1) mX12_endPair 87 [some (.ref 113), none] [] (xWI g 163 (xI g 113 70).toNatClampNeg a1) = some r) (k2 : ¬ ((xI g 113 70) = 0) → xX (d + 1) mX12_endPair 97 [some (.ref 113), none] [] (xWI g 163 (xI g 113 70).toNatClampNeg a1) = some r) : xX (d + 1) mX12_endPair 70 [some (.ref 113), some (.int a1)] [] g = some r :=
  Y_aload_n dX12_endPair_70 rfl <| Y_getR dX12_endPair_71 f_11_164 (by rw [ft_11_69]; rfl) (xis W 113 11 s_113 (Nat.le_of_ble_eq_true rfl)) (xptr W 113 69 p_113_69) <| Y_aload_n dX12_endPair_74 rfl <| Y_getI dX12_endPair_75 f_11_460 ft_11_70 (xis W 113 11 s_113 (Nat.le_of_ble_eq_true rfl)) <| Y_iload_n dX12_endPair_78 rfl <| Y_iast dX12_endPair_79 (xarr W (o := 163) s_163 (Nat.le_of_ble_eq_true rfl)) hi79 <| Y_aload_n dX12_endPair_80 rfl <| Y_getI dX12_endPair_81 f_11_460 ft_11_70 (xis W 113 11 s_113 (Nat.le_of_ble_eq_true rfl)) <| Y_ne0 97 dX12_endPair_84 rfl (fun q => X_le (xle_s (xle_n xle_0)) (k1 q)) (fun q => X_le (xle_s (xle_n xle_0)) (k2 q))
theorem bX12_endPair_87 {d : Nat} {g : xSt} {r : Option Value × xSt}  (W : xWf g) (hi93 : vp_in 0 12) (k : xX (d + 1) mX12_endPair 97 [some (.ref 113), none] [] (xWI g 113 71 (xI g 159 (0 : Int32).toNatClampNeg)) = some r) : xX (d + 1) mX12_endPair 87 [some (.ref 113), none] [] g = some r :=
  Y_aload_n dX12_endPair_87 rfl <| Y_aload_n dX12_endPair_88 rfl <| Y_getR dX12_endPair_89 f_11_152 (by rw [ft_11_65]; rfl) (xis W 113 11 s_113 (Nat.le_of_ble_eq_true rfl)) (xptr W 113 65 p_113_65) <| Y_iconst 0 dX12_endPair_92 ic_0 <| Y_iald dX12_endPair_93 (xarr W (o := 159) s_159 (Nat.le_of_ble_eq_true rfl)) hi93 <| Y_putI dX12_endPair_94 f_11_474 fn_11_71 ft_11_71 (xis W 113 11 s_113 (Nat.le_of_ble_eq_true rfl)) <| X_le (xle_s (xle_n xle_0)) k
theorem bX12_endPair_97 {d : Nat} {g : xSt} {r : Option Value × xSt} {g111 : xSt} (W : xWf g) (hi106 : vp_in (xI g 113 70) 12) (hi109 : vp_in (xI g 113 70) 12) (hk111 : xCallM d mX12_beginPair [.ref 113] (xWI g 159 (xI g 113 70).toNatClampNeg ((xI g 159 (xI g 113 70).toNatClampNeg) + 1)) = some (none, g111)) (W111 : xWf g111) (k : r = (none, g111)) : xX (d + 1) mX12_endPair 97 [some (.ref 113), none] [] g = some r :=
  Y_aload_n dX12_endPair_97 rfl <| Y_getR dX12_endPair_98 f_11_152 (by rw [ft_11_65]; rfl) (xis W 113 11 s_113 (Nat.le_of_ble_eq_true rfl)) (xptr W 113 65 p_113_65) <| Y_aload_n dX12_endPair_101 rfl <| Y_getI dX12_endPair_102 f_11_460 ft_11_70 (xis W 113 11 s_113 (Nat.le_of_ble_eq_true rfl)) <| Y_dup2 dX12_endPair_105 rfl rfl <| Y_iald dX12_endPair_106 (xarr W (o := 159) s_159 (Nat.le_of_ble_eq_true rfl)) hi106 <| Y_iconst 1 dX12_endPair_107 ic_1 <| Y_iadd dX12_endPair_108 <| Y_iast dX12_endPair_109 (xarr W (o := 159) s_159 (Nat.le_of_ble_eq_true rfl)) hi109 <| Y_aload_n dX12_endPair_110 rfl <| Y_callV0 dX12_endPair_111 cl_11_464 rfl rfl (xis W 113 11 s_113 (Nat.le_of_ble_eq_true rfl)) rfl rfl rfl (hk111) <| Y_ret dX12_endPair_114 rfl k
theorem bX12_sizeOf_0 {d : Nat} {g : xSt} {r : Option Value × xSt} {a1 a3 : Int64} (k : xX (d + 1) mX12_sizeOf 6 [some (.ref 113), some (.long a1), none, some (.long a3), none, some (.int 0), some (.int 0)] [] g = some r) : xX (d + 1) mX12_sizeOf 0 [some (.ref 113), some (.long a1), none, some (.long a3), none, none, none] [] g = some r :=
  Y_iconst 0 dX12_sizeOf_0 ic_0 <| Y_istore dX12_sizeOf_1 rfl rfl <| Y_iconst 0 dX12_sizeOf_3 ic_0 <| Y_istore dX12_sizeOf_4 rfl rfl <| X_le (xle_s (xle_s (xle_n (xle_s (xle_n (xle_s (xle_s xle_0))))))) k
theorem bX12_sizeOf_6 {d : Nat} {g : xSt} {r : Option Value × xSt} {a1 a3 : Int64} {a5 a6 : Int32} (W : xWf g) (k1 : (xI g 113 53) ≤ a6 → xX (d + 1) mX12_sizeOf 41 [none, none, none, none, none, some (.int a5), none] [] g = some r) (k2 : ¬ ((xI g 113 53) ≤ a6) → xX (d + 1) mX12_sizeOf 15 [some (.ref 113), some (.long a1), none, some (.long a3), none, some (.int a5), some (.int a6)] [] g = some r) : xX (d + 1) mX12_sizeOf 6 [some (.ref 113), some (.long a1), none, some (.long a3), none, some (.int a5), some (.int a6)] [] g = some r :=
  Y_iload dX12_sizeOf_6 rfl <| Y_aload_n dX12_sizeOf_8 rfl <| Y_getI dX12_sizeOf_9 f_11_408 ft_11_53 (xis W 113 11 s_113 (Nat.le_of_ble_eq_true rfl)) <| Y_ge 41 dX12_sizeOf_12 rfl (fun q => X_le (xle_n (xle_n (xle_n (xle_n (xle_n (xle_s (xle_n xle_0))))))) (k1 q)) (fun q => X_le (xle_s (xle_s (xle_n (xle_s (xle_n (xle_s (xle_s xle_0))))))) (k2 q))
theorem bX12_sizeOf_15 {d : Nat} {g : xSt} {r : Option Value × xSt} {a1 a3 : Int64} {a5 a6 r21 : Int32} {g21 : xSt} (hk21 : xCallM d mX12_has [.long a1, .long a3, .int a6] g = some (some (.int r21), g21)) (W21 : xWf g21) (k1 : r21 = 0 → xX (d + 1) mX12_sizeOf 31 [some (.ref 113), some (.long a1), none, some (.long a3), none, none, some (.int a6)] [.int a5] g21 = some r) (k2 : ¬ (r21 = 0) → xX (d + 1) mX12_sizeOf 27 [some (.ref 113), some (.long a1), none, some (.long a3), none, none, some (.int a6)] [.int a5] g21 = some r) : xX (d + 1) mX12_sizeOf 15 [some (.ref 113), some (.long a1), none, some (.long a3), none, some (.int a5), some (.int a6)] [] g = some r :=
  Y_iload dX12_sizeOf_15 rfl <| Y_lload_n dX12_sizeOf_17 rfl <| Y_lload_n dX12_sizeOf_18 rfl <| Y_iload dX12_sizeOf_19 rfl <| Y_callS1 dX12_sizeOf_21 cl_11_442 rfl rfl rfl rfl rfl (hk21) <| Y_eq0 31 dX12_sizeOf_24 rfl (fun q => X_le (xle_s (xle_s (xle_n (xle_s (xle_n (xle_n (xle_s xle_0))))))) (k1 q)) (fun q => X_le (xle_s (xle_s (xle_n (xle_s (xle_n (xle_n (xle_s xle_0))))))) (k2 q))
theorem bX12_sizeOf_27 {d : Nat} {g : xSt} {r : Option Value × xSt} {a1 a3 : Int64} {a6 s0 : Int32} (k : xX (d + 1) mX12_sizeOf 32 [some (.ref 113), some (.long a1), none, some (.long a3), none, none, some (.int a6)] [.int 1, .int s0] g = some r) : xX (d + 1) mX12_sizeOf 27 [some (.ref 113), some (.long a1), none, some (.long a3), none, none, some (.int a6)] [.int s0] g = some r :=
  Y_iconst 1 dX12_sizeOf_27 ic_1 <| Y_goto 32 dX12_sizeOf_28 rfl <| X_le (xle_s (xle_s (xle_n (xle_s (xle_n (xle_n (xle_s xle_0))))))) k
theorem bX12_sizeOf_31 {d : Nat} {g : xSt} {r : Option Value × xSt} {a1 a3 : Int64} {a6 s0 : Int32} (k : xX (d + 1) mX12_sizeOf 32 [some (.ref 113), some (.long a1), none, some (.long a3), none, none, some (.int a6)] [.int 0, .int s0] g = some r) : xX (d + 1) mX12_sizeOf 31 [some (.ref 113), some (.long a1), none, some (.long a3), none, none, some (.int a6)] [.int s0] g = some r :=
  Y_iconst 0 dX12_sizeOf_31 ic_0 <| X_le (xle_s (xle_s (xle_n (xle_s (xle_n (xle_n (xle_s xle_0))))))) k
theorem bX12_sizeOf_32 {d : Nat} {g : xSt} {r : Option Value × xSt} {a1 a3 : Int64} {a6 s1 s0 : Int32} (k : xX (d + 1) mX12_sizeOf 6 [some (.ref 113), some (.long a1), none, some (.long a3), none, some (.int (s1 + s0)), some (.int (a6 + 1))] [] g = some r) : xX (d + 1) mX12_sizeOf 32 [some (.ref 113), some (.long a1), none, some (.long a3), none, none, some (.int a6)] [.int s0, .int s1] g = some r :=
  Y_iadd dX12_sizeOf_32 <| Y_istore dX12_sizeOf_33 rfl rfl <| Y_iinc 1 dX12_sizeOf_35 rfl ic_1 rfl rfl <| Y_goto 6 dX12_sizeOf_38 rfl <| X_le (xle_s (xle_s (xle_n (xle_s (xle_n (xle_s (xle_s xle_0))))))) k
theorem bX12_sizeOf_41 {d : Nat} {g : xSt} {r : Option Value × xSt} {a5 : Int32} (k : r = (some (.int a5), g)) : xX (d + 1) mX12_sizeOf 41 [none, none, none, none, none, some (.int a5), none] [] g = some r :=
  Y_iload dX12_sizeOf_41 rfl <| Y_iret dX12_sizeOf_43 rfl k
theorem bX12_goesOn_0 {d : Nat} {g : xSt} {r : Option Value × xSt}  (W : xWf g) (hi9 : vp_in (xI g 113 70) 12) (hi19 : vp_in (xI g 113 70) 12) (hi30 : vp_in (xI g 113 70) 12) (hi36 : vp_in ((3 * (xI g 159 (xI g 113 70).toNatClampNeg)) + (xI g 160 (xI g 113 70).toNatClampNeg)) 30) (hi47 : vp_in (xI g 113 70) 12) (hi53 : vp_in ((3 * (xI g 159 (xI g 113 70).toNatClampNeg)) + (xI g 160 (xI g 113 70).toNatClampNeg)) 30) (k1 : (lg_cmp ((xL g 157 (xI g 113 70).toNatClampNeg) &&& (xL g 152 ((3 * (xI g 159 (xI g 113 70).toNatClampNeg)) + (xI g 160 (xI g 113 70).toNatClampNeg)).toNatClampNeg)) 0) = 0 → xX (d + 1) mX12_goesOn 63 [some (.ref 113), none, some (.long ((xL g 157 (xI g 113 70).toNatClampNeg) &&& (xL g 152 ((3 * (xI g 159 (xI g 113 70).toNatClampNeg)) + (xI g 160 (xI g 113 70).toNatClampNeg)).toNatClampNeg))), none, some (.long ((xL g 158 (xI g 113 70).toNatClampNeg) &&& (xL g 153 ((3 * (xI g 159 (xI g 113 70).toNatClampNeg)) + (xI g 160 (xI g 113 70).toNatClampNeg)).toNatClampNeg))), none, none] [] g = some r) (k2 : ¬ ((lg_cmp ((xL g 157 (xI g 113 70).toNatClampNeg) &&& (xL g 152 ((3 * (xI g 159 (xI g 113 70).toNatClampNeg)) + (xI g 160 (xI g 113 70).toNatClampNeg)).toNatClampNeg)) 0) = 0) → xX (d + 1) mX12_goesOn 84 [some (.ref 113), none, some (.long ((xL g 157 (xI g 113 70).toNatClampNeg) &&& (xL g 152 ((3 * (xI g 159 (xI g 113 70).toNatClampNeg)) + (xI g 160 (xI g 113 70).toNatClampNeg)).toNatClampNeg))), none, some (.long ((xL g 158 (xI g 113 70).toNatClampNeg) &&& (xL g 153 ((3 * (xI g 159 (xI g 113 70).toNatClampNeg)) + (xI g 160 (xI g 113 70).toNatClampNeg)).toNatClampNeg))), none, none] [] g = some r) : xX (d + 1) mX12_goesOn 0 [some (.ref 113), none, none, none, none, none, none] [] g = some r :=
  Y_iconst 3 dX12_goesOn_0 ic_3 <| Y_aload_n dX12_goesOn_1 rfl <| Y_getR dX12_goesOn_2 f_11_152 (by rw [ft_11_65]; rfl) (xis W 113 11 s_113 (Nat.le_of_ble_eq_true rfl)) (xptr W 113 65 p_113_65) <| Y_aload_n dX12_goesOn_5 rfl <| Y_getI dX12_goesOn_6 f_11_460 ft_11_70 (xis W 113 11 s_113 (Nat.le_of_ble_eq_true rfl)) <| Y_iald dX12_goesOn_9 (xarr W (o := 159) s_159 (Nat.le_of_ble_eq_true rfl)) hi9 <| Y_imul dX12_goesOn_10 <| Y_aload_n dX12_goesOn_11 rfl <| Y_getR dX12_goesOn_12 f_11_155 (by rw [ft_11_66]; rfl) (xis W 113 11 s_113 (Nat.le_of_ble_eq_true rfl)) (xptr W 113 66 p_113_66) <| Y_aload_n dX12_goesOn_15 rfl <| Y_getI dX12_goesOn_16 f_11_460 ft_11_70 (xis W 113 11 s_113 (Nat.le_of_ble_eq_true rfl)) <| Y_iald dX12_goesOn_19 (xarr W (o := 160) s_160 (Nat.le_of_ble_eq_true rfl)) hi19 <| Y_iadd dX12_goesOn_20 <| Y_istore_n dX12_goesOn_21 rfl rfl <| Y_aload_n dX12_goesOn_22 rfl <| Y_getR dX12_goesOn_23 f_11_146 (by rw [ft_11_63]; rfl) (xis W 113 11 s_113 (Nat.le_of_ble_eq_true rfl)) (xptr W 113 63 p_113_63) <| Y_aload_n dX12_goesOn_26 rfl <| Y_getI dX12_goesOn_27 f_11_460 ft_11_70 (xis W 113 11 s_113 (Nat.le_of_ble_eq_true rfl)) <| Y_lald dX12_goesOn_30 (xarr W (o := 157) s_157 (Nat.le_of_ble_eq_true rfl)) hi30 <| Y_aload_n dX12_goesOn_31 rfl <| Y_getR dX12_goesOn_32 f_11_131 (by rw [ft_11_57]; rfl) (xis W 113 11 s_113 (Nat.le_of_ble_eq_true rfl)) (xptr W 113 57 p_113_57) <| Y_iload_n dX12_goesOn_35 rfl <| Y_lald dX12_goesOn_36 (xarr W (o := 152) s_152 (Nat.le_of_ble_eq_true rfl)) hi36 <| Y_land dX12_goesOn_37 <| Y_lstore_n dX12_goesOn_38 rfl rfl <| Y_aload_n dX12_goesOn_39 rfl <| Y_getR dX12_goesOn_40 f_11_149 (by rw [ft_11_64]; rfl) (xis W 113 11 s_113 (Nat.le_of_ble_eq_true rfl)) (xptr W 113 64 p_113_64) <| Y_aload_n dX12_goesOn_43 rfl <| Y_getI dX12_goesOn_44 f_11_460 ft_11_70 (xis W 113 11 s_113 (Nat.le_of_ble_eq_true rfl)) <| Y_lald dX12_goesOn_47 (xarr W (o := 158) s_158 (Nat.le_of_ble_eq_true rfl)) hi47 <| Y_aload_n dX12_goesOn_48 rfl <| Y_getR dX12_goesOn_49 f_11_134 (by rw [ft_11_58]; rfl) (xis W 113 11 s_113 (Nat.le_of_ble_eq_true rfl)) (xptr W 113 58 p_113_58) <| Y_iload_n dX12_goesOn_52 rfl <| Y_lald dX12_goesOn_53 (xarr W (o := 153) s_153 (Nat.le_of_ble_eq_true rfl)) hi53 <| Y_land dX12_goesOn_54 <| Y_lstore dX12_goesOn_55 rfl rfl <| Y_lload_n dX12_goesOn_57 rfl <| Y_lconst 0 dX12_goesOn_58 rfl <| Y_lcmp dX12_goesOn_59 <| Y_ne0 84 dX12_goesOn_60 rfl (fun q => X_le (xle_s (xle_n (xle_s (xle_n (xle_s (xle_n (xle_n xle_0))))))) (k1 q)) (fun q => X_le (xle_s (xle_n (xle_s (xle_n (xle_s (xle_n (xle_n xle_0))))))) (k2 q))
theorem bX12_goesOn_63 {d : Nat} {g : xSt} {r : Option Value × xSt} {a2 a4 : Int64} (k1 : (lg_cmp a4 0) = 0 → xX (d + 1) mX12_goesOn 70 [some (.ref 113), none, none, none, none, none, none] [] g = some r) (k2 : ¬ ((lg_cmp a4 0) = 0) → xX (d + 1) mX12_goesOn 84 [some (.ref 113), none, some (.long a2), none, some (.long a4), none, none] [] g = some r) : xX (d + 1) mX12_goesOn 63 [some (.ref 113), none, some (.long a2), none, some (.long a4), none, none] [] g = some r :=
  Y_lload dX12_goesOn_63 rfl <| Y_lconst 0 dX12_goesOn_65 rfl <| Y_lcmp dX12_goesOn_66 <| Y_ne0 84 dX12_goesOn_67 rfl (fun q => X_le (xle_s (xle_n (xle_n (xle_n (xle_n (xle_n (xle_n xle_0))))))) (k1 q)) (fun q => X_le (xle_s (xle_n (xle_s (xle_n (xle_s (xle_n (xle_n xle_0))))))) (k2 q))
theorem bX12_goesOn_70 {d : Nat} {g : xSt} {r : Option Value × xSt}  (W : xWf g) (hi79 : vp_in (xI g 113 70) 12) (hi82 : vp_in (xI g 113 70) 12) (k : r = (none, xWI g 160 (xI g 113 70).toNatClampNeg ((xI g 160 (xI g 113 70).toNatClampNeg) + 1))) : xX (d + 1) mX12_goesOn 70 [some (.ref 113), none, none, none, none, none, none] [] g = some r :=
  Y_aload_n dX12_goesOn_70 rfl <| Y_getR dX12_goesOn_71 f_11_155 (by rw [ft_11_66]; rfl) (xis W 113 11 s_113 (Nat.le_of_ble_eq_true rfl)) (xptr W 113 66 p_113_66) <| Y_aload_n dX12_goesOn_74 rfl <| Y_getI dX12_goesOn_75 f_11_460 ft_11_70 (xis W 113 11 s_113 (Nat.le_of_ble_eq_true rfl)) <| Y_dup2 dX12_goesOn_78 rfl rfl <| Y_iald dX12_goesOn_79 (xarr W (o := 160) s_160 (Nat.le_of_ble_eq_true rfl)) hi79 <| Y_iconst 1 dX12_goesOn_80 ic_1 <| Y_iadd dX12_goesOn_81 <| Y_iast dX12_goesOn_82 (xarr W (o := 160) s_160 (Nat.le_of_ble_eq_true rfl)) hi82 <| Y_ret dX12_goesOn_83 rfl k
theorem bX12_goesOn_84 {d : Nat} {g : xSt} {r : Option Value × xSt} {a2 a4 : Int64} (W : xWf g) (hi93 : vp_in (xI g 113 70) 12) (k1 : (lg_cmp a2 (xL g 157 (xI g 113 70).toNatClampNeg)) = 0 → xX (d + 1) mX12_goesOn 98 [some (.ref 113), none, some (.long a2), none, some (.long a4), none, none] [] g = some r) (k2 : ¬ ((lg_cmp a2 (xL g 157 (xI g 113 70).toNatClampNeg)) = 0) → xX (d + 1) mX12_goesOn 131 [some (.ref 113), none, some (.long a2), none, some (.long a4), none, none] [] g = some r) : xX (d + 1) mX12_goesOn 84 [some (.ref 113), none, some (.long a2), none, some (.long a4), none, none] [] g = some r :=
  Y_lload_n dX12_goesOn_84 rfl <| Y_aload_n dX12_goesOn_85 rfl <| Y_getR dX12_goesOn_86 f_11_146 (by rw [ft_11_63]; rfl) (xis W 113 11 s_113 (Nat.le_of_ble_eq_true rfl)) (xptr W 113 63 p_113_63) <| Y_aload_n dX12_goesOn_89 rfl <| Y_getI dX12_goesOn_90 f_11_460 ft_11_70 (xis W 113 11 s_113 (Nat.le_of_ble_eq_true rfl)) <| Y_lald dX12_goesOn_93 (xarr W (o := 157) s_157 (Nat.le_of_ble_eq_true rfl)) hi93 <| Y_lcmp dX12_goesOn_94 <| Y_ne0 131 dX12_goesOn_95 rfl (fun q => X_le (xle_s (xle_n (xle_s (xle_n (xle_s (xle_n (xle_n xle_0))))))) (k1 q)) (fun q => X_le (xle_s (xle_n (xle_s (xle_n (xle_s (xle_n (xle_n xle_0))))))) (k2 q))
theorem bX12_goesOn_98 {d : Nat} {g : xSt} {r : Option Value × xSt} {a2 a4 : Int64} (W : xWf g) (hi108 : vp_in (xI g 113 70) 12) (k1 : (lg_cmp a4 (xL g 158 (xI g 113 70).toNatClampNeg)) = 0 → xX (d + 1) mX12_goesOn 113 [some (.ref 113), none, none, none, none, none, none] [] g = some r) (k2 : ¬ ((lg_cmp a4 (xL g 158 (xI g 113 70).toNatClampNeg)) = 0) → xX (d + 1) mX12_goesOn 131 [some (.ref 113), none, some (.long a2), none, some (.long a4), none, none] [] g = some r) : xX (d + 1) mX12_goesOn 98 [some (.ref 113), none, some (.long a2), none, some (.long a4), none, none] [] g = some r :=
  Y_lload dX12_goesOn_98 rfl <| Y_aload_n dX12_goesOn_100 rfl <| Y_getR dX12_goesOn_101 f_11_149 (by rw [ft_11_64]; rfl) (xis W 113 11 s_113 (Nat.le_of_ble_eq_true rfl)) (xptr W 113 64 p_113_64) <| Y_aload_n dX12_goesOn_104 rfl <| Y_getI dX12_goesOn_105 f_11_460 ft_11_70 (xis W 113 11 s_113 (Nat.le_of_ble_eq_true rfl)) <| Y_lald dX12_goesOn_108 (xarr W (o := 158) s_158 (Nat.le_of_ble_eq_true rfl)) hi108 <| Y_lcmp dX12_goesOn_109 <| Y_ne0 131 dX12_goesOn_110 rfl (fun q => X_le (xle_s (xle_n (xle_n (xle_n (xle_n (xle_n (xle_n xle_0))))))) (k1 q)) (fun q => X_le (xle_s (xle_n (xle_s (xle_n (xle_s (xle_n (xle_n xle_0))))))) (k2 q))
theorem bX12_goesOn_113 {d : Nat} {g : xSt} {r : Option Value × xSt} {g127 : xSt} (W : xWf g) (hi122 : vp_in (xI g 113 70) 12) (hi125 : vp_in (xI g 113 70) 12) (hk127 : xCallM d mX12_beginPair [.ref 113] (xWI g 159 (xI g 113 70).toNatClampNeg ((xI g 159 (xI g 113 70).toNatClampNeg) + 1)) = some (none, g127)) (W127 : xWf g127) (k : r = (none, g127)) : xX (d + 1) mX12_goesOn 113 [some (.ref 113), none, none, none, none, none, none] [] g = some r :=
  Y_aload_n dX12_goesOn_113 rfl <| Y_getR dX12_goesOn_114 f_11_152 (by rw [ft_11_65]; rfl) (xis W 113 11 s_113 (Nat.le_of_ble_eq_true rfl)) (xptr W 113 65 p_113_65) <| Y_aload_n dX12_goesOn_117 rfl <| Y_getI dX12_goesOn_118 f_11_460 ft_11_70 (xis W 113 11 s_113 (Nat.le_of_ble_eq_true rfl)) <| Y_dup2 dX12_goesOn_121 rfl rfl <| Y_iald dX12_goesOn_122 (xarr W (o := 159) s_159 (Nat.le_of_ble_eq_true rfl)) hi122 <| Y_iconst 1 dX12_goesOn_123 ic_1 <| Y_iadd dX12_goesOn_124 <| Y_iast dX12_goesOn_125 (xarr W (o := 159) s_159 (Nat.le_of_ble_eq_true rfl)) hi125 <| Y_aload_n dX12_goesOn_126 rfl <| Y_callV0 dX12_goesOn_127 cl_11_464 rfl rfl (xis W 113 11 s_113 (Nat.le_of_ble_eq_true rfl)) rfl rfl rfl (hk127) <| Y_ret dX12_goesOn_130 rfl k
theorem bX12_goesOn_131 {d : Nat} {g : xSt} {r : Option Value × xSt} {a2 a4 : Int64} {r135 : Int32} {g135 : xSt} (W : xWf g) (hk135 : xCallM d mX12_known [.ref 113, .long a2, .long a4] g = some (some (.int r135), g135)) (W135 : xWf g135) (k1 : r135 < 0 → xX (d + 1) mX12_goesOn 152 [some (.ref 113), none, some (.long a2), none, some (.long a4), none, none] [] g135 = some r) (k2 : ¬ (r135 < 0) → xX (d + 1) mX12_goesOn 145 [some (.ref 113), none, none, none, none, none, some (.int r135)] [] g135 = some r) : xX (d + 1) mX12_goesOn 131 [some (.ref 113), none, some (.long a2), none, some (.long a4), none, none] [] g = some r :=
  Y_aload_n dX12_goesOn_131 rfl <| Y_lload_n dX12_goesOn_132 rfl <| Y_lload dX12_goesOn_133 rfl <| Y_callV1 dX12_goesOn_135 cl_11_499 rfl rfl (xis W 113 11 s_113 (Nat.le_of_ble_eq_true rfl)) rfl rfl rfl (hk135) <| Y_istore dX12_goesOn_138 rfl rfl <| Y_iload dX12_goesOn_140 rfl <| Y_lt0 152 dX12_goesOn_142 rfl (fun q => X_le (xle_s (xle_n (xle_s (xle_n (xle_s (xle_n (xle_n xle_0))))))) (k1 q)) (fun q => X_le (xle_s (xle_n (xle_n (xle_n (xle_n (xle_n (xle_s xle_0))))))) (k2 q))
theorem bX12_goesOn_145 {d : Nat} {g : xSt} {r : Option Value × xSt} {a6 : Int32} {g148 : xSt} (W : xWf g) (hk148 : xCallM d mX12_takes [.ref 113, .int a6] g = some (none, g148)) (W148 : xWf g148) (k : r = (none, g148)) : xX (d + 1) mX12_goesOn 145 [some (.ref 113), none, none, none, none, none, some (.int a6)] [] g = some r :=
  Y_aload_n dX12_goesOn_145 rfl <| Y_iload dX12_goesOn_146 rfl <| Y_callV0 dX12_goesOn_148 cl_11_490 rfl rfl (xis W 113 11 s_113 (Nat.le_of_ble_eq_true rfl)) rfl rfl rfl (hk148) <| Y_ret dX12_goesOn_151 rfl k
theorem bX12_goesOn_152 {d : Nat} {g : xSt} {r : Option Value × xSt} {a2 a4 : Int64} {g166 : xSt} (W : xWf g) (hk166 : xCallM d mX12_enter [.ref 113, .long a2, .long a4] (xWI g 113 70 ((xI g 113 70) + 1)) = some (none, g166)) (W166 : xWf g166) (k : r = (none, g166)) : xX (d + 1) mX12_goesOn 152 [some (.ref 113), none, some (.long a2), none, some (.long a4), none, none] [] g = some r :=
  Y_aload_n dX12_goesOn_152 rfl <| Y_dup dX12_goesOn_153 rfl <| Y_getI dX12_goesOn_154 f_11_460 ft_11_70 (xis W 113 11 s_113 (Nat.le_of_ble_eq_true rfl)) <| Y_iconst 1 dX12_goesOn_157 ic_1 <| Y_iadd dX12_goesOn_158 <| Y_putI dX12_goesOn_159 f_11_460 fn_11_70 ft_11_70 (xis W 113 11 s_113 (Nat.le_of_ble_eq_true rfl)) <| Y_aload_n dX12_goesOn_162 rfl <| Y_lload_n dX12_goesOn_163 rfl <| Y_lload dX12_goesOn_164 rfl <| Y_callV0 dX12_goesOn_166 cl_11_482 rfl rfl (xis W 113 11 s_113 (Nat.le_of_ble_eq_true rfl)) rfl rfl rfl (hk166) <| Y_ret dX12_goesOn_169 rfl k
theorem bX12_known_0 {d : Nat} {g : xSt} {r : Option Value × xSt} {a1 a3 : Int64} {r3 : Int32} {g3 : xSt} (W : xWf g) (hk3 : xCallM d mX12_isCome [.ref 113, .long a1, .long a3] g = some (some (.int r3), g3)) (W3 : xWf g3) (k1 : r3 = 0 → xX (d + 1) mX12_known 11 [some (.ref 113), some (.long a1), none, some (.long a3), none] [] g3 = some r) (k2 : ¬ (r3 = 0) → xX (d + 1) mX12_known 9 [none, none, none, none, none] [] g3 = some r) : xX (d + 1) mX12_known 0 [some (.ref 113), some (.long a1), none, some (.long a3), none] [] g = some r :=
  Y_aload_n dX12_known_0 rfl <| Y_lload_n dX12_known_1 rfl <| Y_lload_n dX12_known_2 rfl <| Y_callV1 dX12_known_3 cl_11_456 rfl rfl (xis W 113 11 s_113 (Nat.le_of_ble_eq_true rfl)) rfl rfl rfl (hk3) <| Y_eq0 11 dX12_known_6 rfl (fun q => X_le (xle_s (xle_s (xle_n (xle_s (xle_n xle_0))))) (k1 q)) (fun q => X_le (xle_n (xle_n (xle_n (xle_n (xle_n xle_0))))) (k2 q))
theorem bX12_known_9 {d : Nat} {g : xSt} {r : Option Value × xSt}  (k : r = (some (.int 0), g)) : xX (d + 1) mX12_known 9 [none, none, none, none, none] [] g = some r :=
  Y_iconst 0 dX12_known_9 ic_0 <| Y_iret dX12_known_10 rfl k
theorem bX12_known_11 {d : Nat} {g : xSt} {r : Option Value × xSt} {a1 a3 : Int64} {r18 : Int32} {g18 : xSt} (W : xWf g) (hk18 : xCallM d mX12_slot [.ref 113, .long a1, .long a3] g = some (some (.int r18), g18)) (W18 : xWf g18) (hi21 : vp_in r18 16384) (k : r = (some (.int (xI g18 156 r18.toNatClampNeg)), g18)) : xX (d + 1) mX12_known 11 [some (.ref 113), some (.long a1), none, some (.long a3), none] [] g = some r :=
  Y_aload_n dX12_known_11 rfl <| Y_getR dX12_known_12 f_11_143 (by rw [ft_11_62]; rfl) (xis W 113 11 s_113 (Nat.le_of_ble_eq_true rfl)) (xptr W 113 62 p_113_62) <| Y_aload_n dX12_known_15 rfl <| Y_lload_n dX12_known_16 rfl <| Y_lload_n dX12_known_17 rfl <| Y_callV1 dX12_known_18 cl_11_452 rfl rfl (xis W 113 11 s_113 (Nat.le_of_ble_eq_true rfl)) rfl rfl rfl (hk18) <| Y_iald dX12_known_21 (xarr W18 (o := 156) s_156 (Nat.le_of_ble_eq_true rfl)) hi21 <| Y_iret dX12_known_22 rfl k
theorem bX12_next_0 {d : Nat} {g : xSt} {r : Option Value × xSt} {a1 a2 a3 r3 : Int32} {g3 : xSt} (W : xWf g) (hk3 : xCallM d mX12_isGoal [.ref 113, .int a1, .int a2] g = some (some (.int r3), g3)) (W3 : xWf g3) (k1 : r3 = 0 → xX (d + 1) mX12_next 9 [none, none, none, none] [] g3 = some r) (k2 : ¬ (r3 = 0) → xX (d + 1) mX12_next 11 [some (.ref 113), some (.int a1), some (.int a2), some (.int a3)] [] g3 = some r) : xX (d + 1) mX12_next 0 [some (.ref 113), some (.int a1), some (.int a2), some (.int a3)] [] g = some r :=
  Y_aload_n dX12_next_0 rfl <| Y_iload_n dX12_next_1 rfl <| Y_iload_n dX12_next_2 rfl <| Y_callV1 dX12_next_3 cl_11_508 rfl rfl (xis W 113 11 s_113 (Nat.le_of_ble_eq_true rfl)) rfl rfl rfl (hk3) <| Y_ne0 11 dX12_next_6 rfl (fun q => X_le (xle_n (xle_n (xle_n (xle_n xle_0)))) (k1 q)) (fun q => X_le (xle_s (xle_s (xle_s (xle_s xle_0)))) (k2 q))
theorem bX12_next_9 {d : Nat} {g : xSt} {r : Option Value × xSt}  (k : r = (some (.int (-1)), g)) : xX (d + 1) mX12_next 9 [none, none, none, none] [] g = some r :=
  Y_iconst (-1) dX12_next_9 ic_m1 <| Y_iret dX12_next_10 rfl k
theorem bX12_next_11 {d : Nat} {g : xSt} {r : Option Value × xSt} {a1 a2 a3 r15 : Int32} {g15 : xSt} (W : xWf g) (hk15 : xCallM d mX12_layGoal [.ref 113, .int a1, .int a2, .int a3] g = some (some (.int r15), g15)) (W15 : xWf g15) (k1 : r15 = 0 → xX (d + 1) mX12_next 21 [none, none, none, none] [] g15 = some r) (k2 : ¬ (r15 = 0) → xX (d + 1) mX12_next 24 [some (.ref 113), none, none, none] [] g15 = some r) : xX (d + 1) mX12_next 11 [some (.ref 113), some (.int a1), some (.int a2), some (.int a3)] [] g = some r :=
  Y_aload_n dX12_next_11 rfl <| Y_iload_n dX12_next_12 rfl <| Y_iload_n dX12_next_13 rfl <| Y_iload_n dX12_next_14 rfl <| Y_callV1 dX12_next_15 cl_11_511 rfl rfl (xis W 113 11 s_113 (Nat.le_of_ble_eq_true rfl)) rfl rfl rfl (hk15) <| Y_ne0 24 dX12_next_18 rfl (fun q => X_le (xle_n (xle_n (xle_n (xle_n xle_0)))) (k1 q)) (fun q => X_le (xle_s (xle_n (xle_n (xle_n xle_0)))) (k2 q))
theorem bX12_next_21 {d : Nat} {g : xSt} {r : Option Value × xSt}  (k : r = (some (.int (-2)), g)) : xX (d + 1) mX12_next 21 [none, none, none, none] [] g = some r :=
  Y_bipush (-2) dX12_next_21 bp_m2 <| Y_iret dX12_next_23 rfl k
theorem bX12_next_24 {d : Nat} {g : xSt} {r : Option Value × xSt} {r26 r31 : Int32} {g26 g31 : xSt} (W : xWf g) (hk26 : xCallM d mX12_solves [.ref 113, .int 0] g = some (some (.int r26), g26)) (W26 : xWf g26) (hk31 : xCallM d mX12_pairNumber [.ref 113] g26 = some (some (.int r31), g31)) (W31 : xWf g31) (k : r = (some (.int r31), g31)) : xX (d + 1) mX12_next 24 [some (.ref 113), none, none, none] [] g = some r :=
  Y_aload_n dX12_next_24 rfl <| Y_iconst 0 dX12_next_25 ic_0 <| Y_callV1 dX12_next_26 cl_11_514 rfl rfl (xis W 113 11 s_113 (Nat.le_of_ble_eq_true rfl)) rfl rfl rfl (hk26) <| Y_pop dX12_next_29 rfl <| Y_aload_n dX12_next_30 rfl <| Y_callV1 dX12_next_31 cl_11_518 rfl rfl (xis W26 113 11 s_113 (Nat.le_of_ble_eq_true rfl)) rfl rfl rfl (hk31) <| Y_iret dX12_next_34 rfl k
theorem bX12_pairNumber_0 {d : Nat} {g : xSt} {r : Option Value × xSt}  (W : xWf g) (k1 : 0 ≤ (xI g 113 71) → xX d mX12_pairNumber 11 [some (.ref 113)] [] g = some r) (k2 : ¬ (0 ≤ (xI g 113 71)) → xX d mX12_pairNumber 7 [none] [] g = some r) : xX d mX12_pairNumber 0 [some (.ref 113)] [] g = some r :=
  Y_aload_n dX12_pairNumber_0 rfl <| Y_getI dX12_pairNumber_1 f_11_474 ft_11_71 (xis W 113 11 s_113 (Nat.le_of_ble_eq_true rfl)) <| Y_ge0 11 dX12_pairNumber_4 rfl (fun q => X_le (xle_s xle_0) (k1 q)) (fun q => X_le (xle_n xle_0) (k2 q))
theorem bX12_pairNumber_7 {d : Nat} {g : xSt} {r : Option Value × xSt}  (k : xX d mX12_pairNumber 33 [none] [.int (-1)] g = some r) : xX d mX12_pairNumber 7 [none] [] g = some r :=
  Y_iconst (-1) dX12_pairNumber_7 ic_m1 <| Y_goto 33 dX12_pairNumber_8 rfl <| X_le (xle_n xle_0) k
theorem bX12_pairNumber_11 {d : Nat} {g : xSt} {r : Option Value × xSt}  (W : xWf g) (hi21 : vp_in (xI g 113 71) 10) (hi31 : vp_in (xI g 113 71) 10) (k : xX d mX12_pairNumber 33 [none] [.int ((10 * (xI g 150 (xI g 113 71).toNatClampNeg)) + (xI g 151 (xI g 113 71).toNatClampNeg))] g = some r) : xX d mX12_pairNumber 11 [some (.ref 113)] [] g = some r :=
  Y_bipush 10 dX12_pairNumber_11 bp_10 <| Y_aload_n dX12_pairNumber_13 rfl <| Y_getR dX12_pairNumber_14 f_11_125 (by rw [ft_11_55]; rfl) (xis W 113 11 s_113 (Nat.le_of_ble_eq_true rfl)) (xptr W 113 55 p_113_55) <| Y_aload_n dX12_pairNumber_17 rfl <| Y_getI dX12_pairNumber_18 f_11_474 ft_11_71 (xis W 113 11 s_113 (Nat.le_of_ble_eq_true rfl)) <| Y_iald dX12_pairNumber_21 (xarr W (o := 150) s_150 (Nat.le_of_ble_eq_true rfl)) hi21 <| Y_imul dX12_pairNumber_22 <| Y_aload_n dX12_pairNumber_23 rfl <| Y_getR dX12_pairNumber_24 f_11_128 (by rw [ft_11_56]; rfl) (xis W 113 11 s_113 (Nat.le_of_ble_eq_true rfl)) (xptr W 113 56 p_113_56) <| Y_aload_n dX12_pairNumber_27 rfl <| Y_getI dX12_pairNumber_28 f_11_474 ft_11_71 (xis W 113 11 s_113 (Nat.le_of_ble_eq_true rfl)) <| Y_iald dX12_pairNumber_31 (xarr W (o := 151) s_151 (Nat.le_of_ble_eq_true rfl)) hi31 <| Y_iadd dX12_pairNumber_32 <| X_le (xle_n xle_0) k
theorem bX12_pairNumber_33 {d : Nat} {g : xSt} {r : Option Value × xSt} {s0 : Int32} (k : r = (some (.int s0), g)) : xX d mX12_pairNumber 33 [none] [.int s0] g = some r :=
  Y_iret dX12_pairNumber_33 rfl k
theorem bX12_total_0 {d : Nat} {g : xSt} {r : Option Value × xSt} {a1 a2 a3 a4 r3 : Int32} {g3 : xSt} (W : xWf g) (hk3 : xCallM d mX12_isGoal [.ref 113, .int a1, .int a2] g = some (some (.int r3), g3)) (W3 : xWf g3) (k1 : r3 = 0 → xX (d + 1) mX12_total 18 [none, none, none, none, none, none] [] g3 = some r) (k2 : ¬ (r3 = 0) → xX (d + 1) mX12_total 9 [some (.ref 113), some (.int a1), some (.int a2), some (.int a3), some (.int a4), none] [] g3 = some r) : xX (d + 1) mX12_total 0 [some (.ref 113), some (.int a1), some (.int a2), some (.int a3), some (.int a4), none] [] g = some r :=
  Y_aload_n dX12_total_0 rfl <| Y_iload_n dX12_total_1 rfl <| Y_iload_n dX12_total_2 rfl <| Y_callV1 dX12_total_3 cl_11_508 rfl rfl (xis W 113 11 s_113 (Nat.le_of_ble_eq_true rfl)) rfl rfl rfl (hk3) <| Y_eq0 18 dX12_total_6 rfl (fun q => X_le (xle_n (xle_n (xle_n (xle_n (xle_n (xle_n xle_0)))))) (k1 q)) (fun q => X_le (xle_s (xle_s (xle_s (xle_s (xle_s (xle_n xle_0)))))) (k2 q))
theorem bX12_total_9 {d : Nat} {g : xSt} {r : Option Value × xSt} {a1 a2 a3 a4 r12 : Int32} {g12 : xSt} (hk12 : xCallM d mX12_isIn [.int a3, .int 0, .int 1] g = some (some (.int r12), g12)) (W12 : xWf g12) (k1 : r12 = 0 → xX (d + 1) mX12_total 18 [none, none, none, none, none, none] [] g12 = some r) (k2 : ¬ (r12 = 0) → xX (d + 1) mX12_total 20 [some (.ref 113), some (.int a1), some (.int a2), some (.int a3), some (.int a4), none] [] g12 = some r) : xX (d + 1) mX12_total 9 [some (.ref 113), some (.int a1), some (.int a2), some (.int a3), some (.int a4), none] [] g = some r :=
  Y_iload_n dX12_total_9 rfl <| Y_iconst 0 dX12_total_10 ic_0 <| Y_iconst 1 dX12_total_11 ic_1 <| Y_callS1 dX12_total_12 cl_11_367 rfl rfl rfl rfl rfl (hk12) <| Y_ne0 20 dX12_total_15 rfl (fun q => X_le (xle_n (xle_n (xle_n (xle_n (xle_n (xle_n xle_0)))))) (k1 q)) (fun q => X_le (xle_s (xle_s (xle_s (xle_s (xle_s (xle_n xle_0)))))) (k2 q))
theorem bX12_total_18 {d : Nat} {g : xSt} {r : Option Value × xSt}  (k : r = (some (.int (-1)), g)) : xX (d + 1) mX12_total 18 [none, none, none, none, none, none] [] g = some r :=
  Y_iconst (-1) dX12_total_18 ic_m1 <| Y_iret dX12_total_19 rfl k
theorem bX12_total_20 {d : Nat} {g : xSt} {r : Option Value × xSt} {a1 a2 a3 a4 r25 : Int32} {g25 : xSt} (W : xWf g) (hk25 : xCallM d mX12_layGoal [.ref 113, .int a1, .int a2, .int a4] g = some (some (.int r25), g25)) (W25 : xWf g25) (k1 : r25 = 0 → xX (d + 1) mX12_total 31 [none, none, none, none, none, none] [] g25 = some r) (k2 : ¬ (r25 = 0) → xX (d + 1) mX12_total 34 [some (.ref 113), none, none, some (.int a3), none, none] [] g25 = some r) : xX (d + 1) mX12_total 20 [some (.ref 113), some (.int a1), some (.int a2), some (.int a3), some (.int a4), none] [] g = some r :=
  Y_aload_n dX12_total_20 rfl <| Y_iload_n dX12_total_21 rfl <| Y_iload_n dX12_total_22 rfl <| Y_iload dX12_total_23 rfl <| Y_callV1 dX12_total_25 cl_11_511 rfl rfl (xis W 113 11 s_113 (Nat.le_of_ble_eq_true rfl)) rfl rfl rfl (hk25) <| Y_ne0 34 dX12_total_28 rfl (fun q => X_le (xle_n (xle_n (xle_n (xle_n (xle_n (xle_n xle_0)))))) (k1 q)) (fun q => X_le (xle_s (xle_n (xle_n (xle_s (xle_n (xle_n xle_0)))))) (k2 q))
theorem bX12_total_31 {d : Nat} {g : xSt} {r : Option Value × xSt}  (k : r = (some (.int (-2)), g)) : xX (d + 1) mX12_total 31 [none, none, none, none, none, none] [] g = some r :=
  Y_bipush (-2) dX12_total_31 bp_m2 <| Y_iret dX12_total_33 rfl k
theorem bX12_total_34 {d : Nat} {g : xSt} {r : Option Value × xSt} {a3 r36 : Int32} {g36 : xSt} (W : xWf g) (hk36 : xCallM d mX12_solves [.ref 113, .int 1] g = some (some (.int r36), g36)) (W36 : xWf g36) (k1 : a3 = 0 → xX (d + 1) mX12_total 45 [none, none, none, none, none, some (.int r36)] [] g36 = some r) (k2 : ¬ (a3 = 0) → xX (d + 1) mX12_total 50 [some (.ref 113), none, none, none, none, none] [] g36 = some r) : xX (d + 1) mX12_total 34 [some (.ref 113), none, none, some (.int a3), none, none] [] g = some r :=
  Y_aload_n dX12_total_34 rfl <| Y_iconst 1 dX12_total_35 ic_1 <| Y_callV1 dX12_total_36 cl_11_514 rfl rfl (xis W 113 11 s_113 (Nat.le_of_ble_eq_true rfl)) rfl rfl rfl (hk36) <| Y_istore dX12_total_39 rfl rfl <| Y_iload_n dX12_total_41 rfl <| Y_ne0 50 dX12_total_42 rfl (fun q => X_le (xle_n (xle_n (xle_n (xle_n (xle_n (xle_s xle_0)))))) (k1 q)) (fun q => X_le (xle_s (xle_n (xle_n (xle_n (xle_n (xle_n xle_0)))))) (k2 q))
theorem bX12_total_45 {d : Nat} {g : xSt} {r : Option Value × xSt} {a5 : Int32} (k : xX (d + 1) mX12_total 54 [none, none, none, none, none, none] [.int a5] g = some r) : xX (d + 1) mX12_total 45 [none, none, none, none, none, some (.int a5)] [] g = some r :=
  Y_iload dX12_total_45 rfl <| Y_goto 54 dX12_total_47 rfl <| X_le (xle_n (xle_n (xle_n (xle_n (xle_n (xle_n xle_0)))))) k
theorem bX12_total_50 {d : Nat} {g : xSt} {r : Option Value × xSt} {r51 : Int32} {g51 : xSt} (W : xWf g) (hk51 : xCallM d mX12_pairNumber [.ref 113] g = some (some (.int r51), g51)) (W51 : xWf g51) (k : xX (d + 1) mX12_total 54 [none, none, none, none, none, none] [.int r51] g51 = some r) : xX (d + 1) mX12_total 50 [some (.ref 113), none, none, none, none, none] [] g = some r :=
  Y_aload_n dX12_total_50 rfl <| Y_callV1 dX12_total_51 cl_11_518 rfl rfl (xis W 113 11 s_113 (Nat.le_of_ble_eq_true rfl)) rfl rfl rfl (hk51) <| X_le (xle_n (xle_n (xle_n (xle_n (xle_n (xle_n xle_0)))))) k
theorem bX12_total_54 {d : Nat} {g : xSt} {r : Option Value × xSt} {s0 : Int32} (k : r = (some (.int s0), g)) : xX (d + 1) mX12_total 54 [none, none, none, none, none, none] [.int s0] g = some r :=
  Y_iret dX12_total_54 rfl k
theorem bX12_answers_0 {d : Nat} {g : xSt} {r : Option Value × xSt} {a1 a2 a3 a4 r3 : Int32} {g3 : xSt} (W : xWf g) (hk3 : xCallM d mX12_isGoal [.ref 113, .int a1, .int a2] g = some (some (.int r3), g3)) (W3 : xWf g3) (k1 : r3 = 0 → xX (d + 1) mX12_answers 27 [none, none, none, none, none, none, none, none, none, none, none, none] [] g3 = some r) (k2 : ¬ (r3 = 0) → xX (d + 1) mX12_answers 9 [some (.ref 113), some (.int a1), some (.int a2), some (.int a3), some (.int a4), none, none, none, none, none, none, none] [] g3 = some r) : xX (d + 1) mX12_answers 0 [some (.ref 113), some (.int a1), some (.int a2), some (.int a3), some (.int a4), none, none, none, none, none, none, none] [] g = some r :=
  Y_aload_n dX12_answers_0 rfl <| Y_iload_n dX12_answers_1 rfl <| Y_iload_n dX12_answers_2 rfl <| Y_callV1 dX12_answers_3 cl_11_508 rfl rfl (xis W 113 11 s_113 (Nat.le_of_ble_eq_true rfl)) rfl rfl rfl (hk3) <| Y_eq0 27 dX12_answers_6 rfl (fun q => X_le (xle_n (xle_n (xle_n (xle_n (xle_n (xle_n (xle_n (xle_n (xle_n (xle_n (xle_n (xle_n xle_0)))))))))))) (k1 q)) (fun q => X_le (xle_s (xle_s (xle_s (xle_s (xle_s (xle_n (xle_n (xle_n (xle_n (xle_n (xle_n (xle_n xle_0)))))))))))) (k2 q))
theorem bX12_answers_9 {d : Nat} {g : xSt} {r : Option Value × xSt} {a1 a2 a3 a4 r12 : Int32} {g12 : xSt} (hk12 : xCallM d mX12_isIn [.int a3, .int 0, .int 2] g = some (some (.int r12), g12)) (W12 : xWf g12) (k1 : r12 = 0 → xX (d + 1) mX12_answers 27 [none, none, none, none, none, none, none, none, none, none, none, none] [] g12 = some r) (k2 : ¬ (r12 = 0) → xX (d + 1) mX12_answers 18 [some (.ref 113), some (.int a1), some (.int a2), some (.int a3), some (.int a4), none, none, none, none, none, none, none] [] g12 = some r) : xX (d + 1) mX12_answers 9 [some (.ref 113), some (.int a1), some (.int a2), some (.int a3), some (.int a4), none, none, none, none, none, none, none] [] g = some r :=
  Y_iload_n dX12_answers_9 rfl <| Y_iconst 0 dX12_answers_10 ic_0 <| Y_iconst 2 dX12_answers_11 ic_2 <| Y_callS1 dX12_answers_12 cl_11_367 rfl rfl rfl rfl rfl (hk12) <| Y_eq0 27 dX12_answers_15 rfl (fun q => X_le (xle_n (xle_n (xle_n (xle_n (xle_n (xle_n (xle_n (xle_n (xle_n (xle_n (xle_n (xle_n xle_0)))))))))))) (k1 q)) (fun q => X_le (xle_s (xle_s (xle_s (xle_s (xle_s (xle_n (xle_n (xle_n (xle_n (xle_n (xle_n (xle_n xle_0)))))))))))) (k2 q))
theorem bX12_answers_18 {d : Nat} {g : xSt} {r : Option Value × xSt} {a1 a2 a3 a4 r21 : Int32} {g21 : xSt} (W : xWf g) (hk21 : xCallM d mX12_hasLeft [.ref 113, .int a4] g = some (some (.int r21), g21)) (W21 : xWf g21) (k1 : r21 = 0 → xX (d + 1) mX12_answers 27 [none, none, none, none, none, none, none, none, none, none, none, none] [] g21 = some r) (k2 : ¬ (r21 = 0) → xX (d + 1) mX12_answers 29 [some (.ref 113), some (.int a1), some (.int a2), some (.int a3), none, none, none, none, none, none, none, none] [] g21 = some r) : xX (d + 1) mX12_answers 18 [some (.ref 113), some (.int a1), some (.int a2), some (.int a3), some (.int a4), none, none, none, none, none, none, none] [] g = some r :=
  Y_aload_n dX12_answers_18 rfl <| Y_iload dX12_answers_19 rfl <| Y_callV1 dX12_answers_21 cl_11_424 rfl rfl (xis W 113 11 s_113 (Nat.le_of_ble_eq_true rfl)) rfl rfl rfl (hk21) <| Y_ne0 29 dX12_answers_24 rfl (fun q => X_le (xle_n (xle_n (xle_n (xle_n (xle_n (xle_n (xle_n (xle_n (xle_n (xle_n (xle_n (xle_n xle_0)))))))))))) (k1 q)) (fun q => X_le (xle_s (xle_s (xle_s (xle_s (xle_n (xle_n (xle_n (xle_n (xle_n (xle_n (xle_n (xle_n xle_0)))))))))))) (k2 q))
theorem bX12_answers_27 {d : Nat} {g : xSt} {r : Option Value × xSt}  (k : r = (some (.int (-1)), g)) : xX (d + 1) mX12_answers 27 [none, none, none, none, none, none, none, none, none, none, none, none] [] g = some r :=
  Y_iconst (-1) dX12_answers_27 ic_m1 <| Y_iret dX12_answers_28 rfl k
theorem bX12_answers_29 {d : Nat} {g : xSt} {r : Option Value × xSt} {a1 a2 a3 : Int32} {g32 : xSt} (W : xWf g) (hk32 : xCallM d mX12_layGoals [.ref 113, .int a1, .int a2] g = some (none, g32)) (W32 : xWf g32) (k : xX (d + 1) mX12_answers 47 [some (.ref 113), some (.int a1), none, some (.int a3), none, some (.int 0), some (.int (-1)), some (.int 0), some (.int 0), none, none, none] [] g32 = some r) : xX (d + 1) mX12_answers 29 [some (.ref 113), some (.int a1), some (.int a2), some (.int a3), none, none, none, none, none, none, none, none] [] g = some r :=
  Y_aload_n dX12_answers_29 rfl <| Y_iload_n dX12_answers_30 rfl <| Y_iload_n dX12_answers_31 rfl <| Y_callV0 dX12_answers_32 cl_11_505 rfl rfl (xis W 113 11 s_113 (Nat.le_of_ble_eq_true rfl)) rfl rfl rfl (hk32) <| Y_iconst 0 dX12_answers_35 ic_0 <| Y_istore dX12_answers_36 rfl rfl <| Y_iconst (-1) dX12_answers_38 ic_m1 <| Y_istore dX12_answers_39 rfl rfl <| Y_iconst 0 dX12_answers_41 ic_0 <| Y_istore dX12_answers_42 rfl rfl <| Y_iconst 0 dX12_answers_44 ic_0 <| Y_istore dX12_answers_45 rfl rfl <| X_le (xle_s (xle_s (xle_n (xle_s (xle_n (xle_s (xle_s (xle_s (xle_s (xle_n (xle_n (xle_n xle_0)))))))))))) k
theorem bX12_answers_47 {d : Nat} {g : xSt} {r : Option Value × xSt} {a1 a3 a5 a6 a7 a8 : Int32} (W : xWf g) (k1 : (xI g 113 53) ≤ a8 → xX (d + 1) mX12_answers 180 [none, none, none, some (.int a3), none, some (.int a5), some (.int a6), some (.int a7), none, none, none, none] [] g = some r) (k2 : ¬ ((xI g 113 53) ≤ a8) → xX (d + 1) mX12_answers 56 [some (.ref 113), some (.int a1), none, some (.int a3), none, some (.int a5), some (.int a6), some (.int a7), some (.int a8), none, none, none] [] g = some r) : xX (d + 1) mX12_answers 47 [some (.ref 113), some (.int a1), none, some (.int a3), none, some (.int a5), some (.int a6), some (.int a7), some (.int a8), none, none, none] [] g = some r :=
  Y_iload dX12_answers_47 rfl <| Y_aload_n dX12_answers_49 rfl <| Y_getI dX12_answers_50 f_11_408 ft_11_53 (xis W 113 11 s_113 (Nat.le_of_ble_eq_true rfl)) <| Y_ge 180 dX12_answers_53 rfl (fun q => X_le (xle_n (xle_n (xle_n (xle_s (xle_n (xle_s (xle_s (xle_s (xle_n (xle_n (xle_n (xle_n xle_0)))))))))))) (k1 q)) (fun q => X_le (xle_s (xle_s (xle_n (xle_s (xle_n (xle_s (xle_s (xle_s (xle_s (xle_n (xle_n (xle_n xle_0)))))))))))) (k2 q))
theorem bX12_answers_56 {d : Nat} {g : xSt} {r : Option Value × xSt} {a1 a3 a5 a6 a7 a8 : Int32} (k : xX (d + 1) mX12_answers 65 [some (.ref 113), some (.int a1), none, some (.int a3), none, some (.int a5), some (.int a6), some (.int a7), some (.int a8), some (.int 0), some (.int 1), some (.int 0)] [] g = some r) : xX (d + 1) mX12_answers 56 [some (.ref 113), some (.int a1), none, some (.int a3), none, some (.int a5), some (.int a6), some (.int a7), some (.int a8), none, none, none] [] g = some r :=
  Y_iconst 0 dX12_answers_56 ic_0 <| Y_istore dX12_answers_57 rfl rfl <| Y_iconst 1 dX12_answers_59 ic_1 <| Y_istore dX12_answers_60 rfl rfl <| Y_iconst 0 dX12_answers_62 ic_0 <| Y_istore dX12_answers_63 rfl rfl <| X_le (xle_s (xle_s (xle_n (xle_s (xle_n (xle_s (xle_s (xle_s (xle_s (xle_s (xle_s (xle_s xle_0)))))))))))) k
theorem bX12_answers_65 {d : Nat} {g : xSt} {r : Option Value × xSt} {a1 a3 a5 a6 a7 a8 a9 a10 a11 : Int32} (W : xWf g) (k1 : (xI g 113 53) ≤ a11 → xX (d + 1) mX12_answers 122 [some (.ref 113), some (.int a1), none, some (.int a3), none, some (.int a5), some (.int a6), some (.int a7), some (.int a8), some (.int a9), some (.int a10), none] [] g = some r) (k2 : ¬ ((xI g 113 53) ≤ a11) → xX (d + 1) mX12_answers 74 [some (.ref 113), some (.int a1), none, some (.int a3), none, some (.int a5), some (.int a6), some (.int a7), some (.int a8), some (.int a9), some (.int a10), some (.int a11)] [] g = some r) : xX (d + 1) mX12_answers 65 [some (.ref 113), some (.int a1), none, some (.int a3), none, some (.int a5), some (.int a6), some (.int a7), some (.int a8), some (.int a9), some (.int a10), some (.int a11)] [] g = some r :=
  Y_iload dX12_answers_65 rfl <| Y_aload_n dX12_answers_67 rfl <| Y_getI dX12_answers_68 f_11_408 ft_11_53 (xis W 113 11 s_113 (Nat.le_of_ble_eq_true rfl)) <| Y_ge 122 dX12_answers_71 rfl (fun q => X_le (xle_s (xle_s (xle_n (xle_s (xle_n (xle_s (xle_s (xle_s (xle_s (xle_s (xle_s (xle_n xle_0)))))))))))) (k1 q)) (fun q => X_le (xle_s (xle_s (xle_n (xle_s (xle_n (xle_s (xle_s (xle_s (xle_s (xle_s (xle_s (xle_s xle_0)))))))))))) (k2 q))
theorem bX12_answers_74 {d : Nat} {g : xSt} {r : Option Value × xSt} {a1 a3 a5 a6 a7 a8 a9 a10 a11 : Int32} (W : xWf g) (hi80 : vp_in a11 541) (hi87 : vp_in a8 541) (k1 : (xI g 146 a11.toNatClampNeg) = (xI g 146 a8.toNatClampNeg) → xX (d + 1) mX12_answers 94 [some (.ref 113), some (.int a1), none, some (.int a3), none, some (.int a5), some (.int a6), some (.int a7), some (.int a8), some (.int a9), some (.int a10), some (.int a11)] [] g = some r) (k2 : ¬ ((xI g 146 a11.toNatClampNeg) = (xI g 146 a8.toNatClampNeg)) → xX (d + 1) mX12_answers 91 [some (.ref 113), some (.int a1), none, some (.int a3), none, some (.int a5), some (.int a6), some (.int a7), some (.int a8), some (.int a9), some (.int a10), some (.int a11)] [] g = some r) : xX (d + 1) mX12_answers 74 [some (.ref 113), some (.int a1), none, some (.int a3), none, some (.int a5), some (.int a6), some (.int a7), some (.int a8), some (.int a9), some (.int a10), some (.int a11)] [] g = some r :=
  Y_aload_n dX12_answers_74 rfl <| Y_getR dX12_answers_75 f_11_113 (by rw [ft_11_49]; rfl) (xis W 113 11 s_113 (Nat.le_of_ble_eq_true rfl)) (xptr W 113 49 p_113_49) <| Y_iload dX12_answers_78 rfl <| Y_iald dX12_answers_80 (xarr W (o := 146) s_146 (Nat.le_of_ble_eq_true rfl)) hi80 <| Y_aload_n dX12_answers_81 rfl <| Y_getR dX12_answers_82 f_11_113 (by rw [ft_11_49]; rfl) (xis W 113 11 s_113 (Nat.le_of_ble_eq_true rfl)) (xptr W 113 49 p_113_49) <| Y_iload dX12_answers_85 rfl <| Y_iald dX12_answers_87 (xarr W (o := 146) s_146 (Nat.le_of_ble_eq_true rfl)) hi87 <| Y_eq 94 dX12_answers_88 rfl (fun q => X_le (xle_s (xle_s (xle_n (xle_s (xle_n (xle_s (xle_s (xle_s (xle_s (xle_s (xle_s (xle_s xle_0)))))))))))) (k1 q)) (fun q => X_le (xle_s (xle_s (xle_n (xle_s (xle_n (xle_s (xle_s (xle_s (xle_s (xle_s (xle_s (xle_s xle_0)))))))))))) (k2 q))
theorem bX12_answers_91 {d : Nat} {g : xSt} {r : Option Value × xSt} {a1 a3 a5 a6 a7 a8 a9 a10 a11 : Int32} (k : xX (d + 1) mX12_answers 116 [some (.ref 113), some (.int a1), none, some (.int a3), none, some (.int a5), some (.int a6), some (.int a7), some (.int a8), some (.int a9), some (.int a10), some (.int a11)] [] g = some r) : xX (d + 1) mX12_answers 91 [some (.ref 113), some (.int a1), none, some (.int a3), none, some (.int a5), some (.int a6), some (.int a7), some (.int a8), some (.int a9), some (.int a10), some (.int a11)] [] g = some r :=
  Y_goto 116 dX12_answers_91 rfl <| X_le (xle_s (xle_s (xle_n (xle_s (xle_n (xle_s (xle_s (xle_s (xle_s (xle_s (xle_s (xle_s xle_0)))))))))))) k
theorem bX12_answers_94 {d : Nat} {g : xSt} {r : Option Value × xSt} {a1 a3 a5 a6 a7 a8 a9 a10 a11 : Int32} (k1 : a10 = 0 → xX (d + 1) mX12_answers 113 [some (.ref 113), some (.int a1), none, some (.int a3), none, some (.int a5), some (.int a6), some (.int a7), some (.int a8), some (.int (a9 + 1)), none, some (.int a11)] [] g = some r) (k2 : ¬ (a10 = 0) → xX (d + 1) mX12_answers 102 [some (.ref 113), some (.int a1), none, some (.int a3), none, some (.int a5), some (.int a6), some (.int a7), some (.int a8), some (.int (a9 + 1)), none, some (.int a11)] [] g = some r) : xX (d + 1) mX12_answers 94 [some (.ref 113), some (.int a1), none, some (.int a3), none, some (.int a5), some (.int a6), some (.int a7), some (.int a8), some (.int a9), some (.int a10), some (.int a11)] [] g = some r :=
  Y_iinc 1 dX12_answers_94 rfl ic_1 rfl rfl <| Y_iload dX12_answers_97 rfl <| Y_eq0 113 dX12_answers_99 rfl (fun q => X_le (xle_s (xle_s (xle_n (xle_s (xle_n (xle_s (xle_s (xle_s (xle_s (xle_s (xle_n (xle_s xle_0)))))))))))) (k1 q)) (fun q => X_le (xle_s (xle_s (xle_n (xle_s (xle_n (xle_s (xle_s (xle_s (xle_s (xle_s (xle_n (xle_s xle_0)))))))))))) (k2 q))
theorem bX12_answers_102 {d : Nat} {g : xSt} {r : Option Value × xSt} {a1 a3 a5 a6 a7 a8 a9 a11 : Int32} (k1 : a11 < a8 → xX (d + 1) mX12_answers 113 [some (.ref 113), some (.int a1), none, some (.int a3), none, some (.int a5), some (.int a6), some (.int a7), some (.int a8), some (.int a9), none, some (.int a11)] [] g = some r) (k2 : ¬ (a11 < a8) → xX (d + 1) mX12_answers 109 [some (.ref 113), some (.int a1), none, some (.int a3), none, some (.int a5), some (.int a6), some (.int a7), some (.int a8), some (.int a9), none, some (.int a11)] [] g = some r) : xX (d + 1) mX12_answers 102 [some (.ref 113), some (.int a1), none, some (.int a3), none, some (.int a5), some (.int a6), some (.int a7), some (.int a8), some (.int a9), none, some (.int a11)] [] g = some r :=
  Y_iload dX12_answers_102 rfl <| Y_iload dX12_answers_104 rfl <| Y_lt 113 dX12_answers_106 rfl (fun q => X_le (xle_s (xle_s (xle_n (xle_s (xle_n (xle_s (xle_s (xle_s (xle_s (xle_s (xle_n (xle_s xle_0)))))))))))) (k1 q)) (fun q => X_le (xle_s (xle_s (xle_n (xle_s (xle_n (xle_s (xle_s (xle_s (xle_s (xle_s (xle_n (xle_s xle_0)))))))))))) (k2 q))
theorem bX12_answers_109 {d : Nat} {g : xSt} {r : Option Value × xSt} {a1 a3 a5 a6 a7 a8 a9 a11 : Int32} (k : xX (d + 1) mX12_answers 114 [some (.ref 113), some (.int a1), none, some (.int a3), none, some (.int a5), some (.int a6), some (.int a7), some (.int a8), some (.int a9), none, some (.int a11)] [.int 1] g = some r) : xX (d + 1) mX12_answers 109 [some (.ref 113), some (.int a1), none, some (.int a3), none, some (.int a5), some (.int a6), some (.int a7), some (.int a8), some (.int a9), none, some (.int a11)] [] g = some r :=
  Y_iconst 1 dX12_answers_109 ic_1 <| Y_goto 114 dX12_answers_110 rfl <| X_le (xle_s (xle_s (xle_n (xle_s (xle_n (xle_s (xle_s (xle_s (xle_s (xle_s (xle_n (xle_s xle_0)))))))))))) k
theorem bX12_answers_113 {d : Nat} {g : xSt} {r : Option Value × xSt} {a1 a3 a5 a6 a7 a8 a9 a11 : Int32} (k : xX (d + 1) mX12_answers 114 [some (.ref 113), some (.int a1), none, some (.int a3), none, some (.int a5), some (.int a6), some (.int a7), some (.int a8), some (.int a9), none, some (.int a11)] [.int 0] g = some r) : xX (d + 1) mX12_answers 113 [some (.ref 113), some (.int a1), none, some (.int a3), none, some (.int a5), some (.int a6), some (.int a7), some (.int a8), some (.int a9), none, some (.int a11)] [] g = some r :=
  Y_iconst 0 dX12_answers_113 ic_0 <| X_le (xle_s (xle_s (xle_n (xle_s (xle_n (xle_s (xle_s (xle_s (xle_s (xle_s (xle_n (xle_s xle_0)))))))))))) k
theorem bX12_answers_114 {d : Nat} {g : xSt} {r : Option Value × xSt} {a1 a3 a5 a6 a7 a8 a9 a11 s0 : Int32} (k : xX (d + 1) mX12_answers 116 [some (.ref 113), some (.int a1), none, some (.int a3), none, some (.int a5), some (.int a6), some (.int a7), some (.int a8), some (.int a9), some (.int s0), some (.int a11)] [] g = some r) : xX (d + 1) mX12_answers 114 [some (.ref 113), some (.int a1), none, some (.int a3), none, some (.int a5), some (.int a6), some (.int a7), some (.int a8), some (.int a9), none, some (.int a11)] [.int s0] g = some r :=
  Y_istore dX12_answers_114 rfl rfl <| X_le (xle_s (xle_s (xle_n (xle_s (xle_n (xle_s (xle_s (xle_s (xle_s (xle_s (xle_s (xle_s xle_0)))))))))))) k
theorem bX12_answers_116 {d : Nat} {g : xSt} {r : Option Value × xSt} {a1 a3 a5 a6 a7 a8 a9 a10 a11 : Int32} (k : xX (d + 1) mX12_answers 65 [some (.ref 113), some (.int a1), none, some (.int a3), none, some (.int a5), some (.int a6), some (.int a7), some (.int a8), some (.int a9), some (.int a10), some (.int (a11 + 1))] [] g = some r) : xX (d + 1) mX12_answers 116 [some (.ref 113), some (.int a1), none, some (.int a3), none, some (.int a5), some (.int a6), some (.int a7), some (.int a8), some (.int a9), some (.int a10), some (.int a11)] [] g = some r :=
  Y_iinc 1 dX12_answers_116 rfl ic_1 rfl rfl <| Y_goto 65 dX12_answers_119 rfl <| X_le (xle_s (xle_s (xle_n (xle_s (xle_n (xle_s (xle_s (xle_s (xle_s (xle_s (xle_s (xle_s xle_0)))))))))))) k
theorem bX12_answers_122 {d : Nat} {g : xSt} {r : Option Value × xSt} {a1 a3 a5 a6 a7 a8 a9 a10 : Int32} (k1 : a10 = 0 → xX (d + 1) mX12_answers 127 [some (.ref 113), some (.int a1), none, some (.int a3), none, some (.int a5), some (.int a6), some (.int a7), some (.int a8), none, none, none] [] g = some r) (k2 : ¬ (a10 = 0) → xX (d + 1) mX12_answers 130 [some (.ref 113), some (.int a1), none, some (.int a3), none, some (.int a5), some (.int a6), some (.int a7), some (.int a8), some (.int a9), none, none] [] g = some r) : xX (d + 1) mX12_answers 122 [some (.ref 113), some (.int a1), none, some (.int a3), none, some (.int a5), some (.int a6), some (.int a7), some (.int a8), some (.int a9), some (.int a10), none] [] g = some r :=
  Y_iload dX12_answers_122 rfl <| Y_ne0 130 dX12_answers_124 rfl (fun q => X_le (xle_s (xle_s (xle_n (xle_s (xle_n (xle_s (xle_s (xle_s (xle_s (xle_n (xle_n (xle_n xle_0)))))))))))) (k1 q)) (fun q => X_le (xle_s (xle_s (xle_n (xle_s (xle_n (xle_s (xle_s (xle_s (xle_s (xle_s (xle_n (xle_n xle_0)))))))))))) (k2 q))
theorem bX12_answers_127 {d : Nat} {g : xSt} {r : Option Value × xSt} {a1 a3 a5 a6 a7 a8 : Int32} (k : xX (d + 1) mX12_answers 174 [some (.ref 113), some (.int a1), none, some (.int a3), none, some (.int a5), some (.int a6), some (.int a7), some (.int a8), none, none, none] [] g = some r) : xX (d + 1) mX12_answers 127 [some (.ref 113), some (.int a1), none, some (.int a3), none, some (.int a5), some (.int a6), some (.int a7), some (.int a8), none, none, none] [] g = some r :=
  Y_goto 174 dX12_answers_127 rfl <| X_le (xle_s (xle_s (xle_n (xle_s (xle_n (xle_s (xle_s (xle_s (xle_s (xle_n (xle_n (xle_n xle_0)))))))))))) k
theorem bX12_answers_130 {d : Nat} {g : xSt} {r : Option Value × xSt} {a1 a3 a5 a6 a7 a8 a9 r137 : Int32} {g137 : xSt} (W : xWf g) (hk137 : xCallM d mX12_answerOf [.ref 113, .int a8, .int a1] g = some (some (.int r137), g137)) (W137 : xWf g137) (k1 : a9 < a7 → xX (d + 1) mX12_answers 174 [some (.ref 113), some (.int a1), none, some (.int a3), none, some (.int (a5 + 1)), some (.int a6), some (.int a7), some (.int a8), none, none, none] [] g137 = some r) (k2 : ¬ (a9 < a7) → xX (d + 1) mX12_answers 149 [some (.ref 113), some (.int a1), none, some (.int a3), none, some (.int (a5 + 1)), some (.int a6), some (.int a7), some (.int a8), some (.int a9), none, some (.int r137)] [] g137 = some r) : xX (d + 1) mX12_answers 130 [some (.ref 113), some (.int a1), none, some (.int a3), none, some (.int a5), some (.int a6), some (.int a7), some (.int a8), some (.int a9), none, none] [] g = some r :=
  Y_iinc 1 dX12_answers_130 rfl ic_1 rfl rfl <| Y_aload_n dX12_answers_133 rfl <| Y_iload dX12_answers_134 rfl <| Y_iload_n dX12_answers_136 rfl <| Y_callV1 dX12_answers_137 cl_11_521 rfl rfl (xis W 113 11 s_113 (Nat.le_of_ble_eq_true rfl)) rfl rfl rfl (hk137) <| Y_istore dX12_answers_140 rfl rfl <| Y_iload dX12_answers_142 rfl <| Y_iload dX12_answers_144 rfl <| Y_lt 174 dX12_answers_146 rfl (fun q => X_le (xle_s (xle_s (xle_n (xle_s (xle_n (xle_s (xle_s (xle_s (xle_s (xle_n (xle_n (xle_n xle_0)))))))))))) (k1 q)) (fun q => X_le (xle_s (xle_s (xle_n (xle_s (xle_n (xle_s (xle_s (xle_s (xle_s (xle_s (xle_n (xle_s xle_0)))))))))))) (k2 q))
theorem bX12_answers_149 {d : Nat} {g : xSt} {r : Option Value × xSt} {a1 a3 a5 a6 a7 a8 a9 a11 : Int32} (k1 : a9 = a7 → xX (d + 1) mX12_answers 156 [some (.ref 113), some (.int a1), none, some (.int a3), none, some (.int a5), some (.int a6), some (.int a7), some (.int a8), some (.int a9), none, some (.int a11)] [] g = some r) (k2 : ¬ (a9 = a7) → xX (d + 1) mX12_answers 166 [some (.ref 113), some (.int a1), none, some (.int a3), none, some (.int a5), none, none, some (.int a8), some (.int a9), none, some (.int a11)] [] g = some r) : xX (d + 1) mX12_answers 149 [some (.ref 113), some (.int a1), none, some (.int a3), none, some (.int a5), some (.int a6), some (.int a7), some (.int a8), some (.int a9), none, some (.int a11)] [] g = some r :=
  Y_iload dX12_answers_149 rfl <| Y_iload dX12_answers_151 rfl <| Y_ne 166 dX12_answers_153 rfl (fun q => X_le (xle_s (xle_s (xle_n (xle_s (xle_n (xle_s (xle_s (xle_s (xle_s (xle_s (xle_n (xle_s xle_0)))))))))))) (k1 q)) (fun q => X_le (xle_s (xle_s (xle_n (xle_s (xle_n (xle_s (xle_n (xle_n (xle_s (xle_s (xle_n (xle_s xle_0)))))))))))) (k2 q))
theorem bX12_answers_156 {d : Nat} {g : xSt} {r : Option Value × xSt} {a1 a3 a5 a6 a7 a8 a9 a11 : Int32} (k1 : a11 < a6 → xX (d + 1) mX12_answers 166 [some (.ref 113), some (.int a1), none, some (.int a3), none, some (.int a5), none, none, some (.int a8), some (.int a9), none, some (.int a11)] [] g = some r) (k2 : ¬ (a11 < a6) → xX (d + 1) mX12_answers 163 [some (.ref 113), some (.int a1), none, some (.int a3), none, some (.int a5), some (.int a6), some (.int a7), some (.int a8), none, none, none] [] g = some r) : xX (d + 1) mX12_answers 156 [some (.ref 113), some (.int a1), none, some (.int a3), none, some (.int a5), some (.int a6), some (.int a7), some (.int a8), some (.int a9), none, some (.int a11)] [] g = some r :=
  Y_iload dX12_answers_156 rfl <| Y_iload dX12_answers_158 rfl <| Y_lt 166 dX12_answers_160 rfl (fun q => X_le (xle_s (xle_s (xle_n (xle_s (xle_n (xle_s (xle_n (xle_n (xle_s (xle_s (xle_n (xle_s xle_0)))))))))))) (k1 q)) (fun q => X_le (xle_s (xle_s (xle_n (xle_s (xle_n (xle_s (xle_s (xle_s (xle_s (xle_n (xle_n (xle_n xle_0)))))))))))) (k2 q))
theorem bX12_answers_163 {d : Nat} {g : xSt} {r : Option Value × xSt} {a1 a3 a5 a6 a7 a8 : Int32} (k : xX (d + 1) mX12_answers 174 [some (.ref 113), some (.int a1), none, some (.int a3), none, some (.int a5), some (.int a6), some (.int a7), some (.int a8), none, none, none] [] g = some r) : xX (d + 1) mX12_answers 163 [some (.ref 113), some (.int a1), none, some (.int a3), none, some (.int a5), some (.int a6), some (.int a7), some (.int a8), none, none, none] [] g = some r :=
  Y_goto 174 dX12_answers_163 rfl <| X_le (xle_s (xle_s (xle_n (xle_s (xle_n (xle_s (xle_s (xle_s (xle_s (xle_n (xle_n (xle_n xle_0)))))))))))) k
theorem bX12_answers_166 {d : Nat} {g : xSt} {r : Option Value × xSt} {a1 a3 a5 a8 a9 a11 : Int32} (k : xX (d + 1) mX12_answers 174 [some (.ref 113), some (.int a1), none, some (.int a3), none, some (.int a5), some (.int a11), some (.int a9), some (.int a8), none, none, none] [] g = some r) : xX (d + 1) mX12_answers 166 [some (.ref 113), some (.int a1), none, some (.int a3), none, some (.int a5), none, none, some (.int a8), some (.int a9), none, some (.int a11)] [] g = some r :=
  Y_iload dX12_answers_166 rfl <| Y_istore dX12_answers_168 rfl rfl <| Y_iload dX12_answers_170 rfl <| Y_istore dX12_answers_172 rfl rfl <| X_le (xle_s (xle_s (xle_n (xle_s (xle_n (xle_s (xle_s (xle_s (xle_s (xle_n (xle_n (xle_n xle_0)))))))))))) k
theorem bX12_answers_174 {d : Nat} {g : xSt} {r : Option Value × xSt} {a1 a3 a5 a6 a7 a8 : Int32} (k : xX (d + 1) mX12_answers 47 [some (.ref 113), some (.int a1), none, some (.int a3), none, some (.int a5), some (.int a6), some (.int a7), some (.int (a8 + 1)), none, none, none] [] g = some r) : xX (d + 1) mX12_answers 174 [some (.ref 113), some (.int a1), none, some (.int a3), none, some (.int a5), some (.int a6), some (.int a7), some (.int a8), none, none, none] [] g = some r :=
  Y_iinc 1 dX12_answers_174 rfl ic_1 rfl rfl <| Y_goto 47 dX12_answers_177 rfl <| X_le (xle_s (xle_s (xle_n (xle_s (xle_n (xle_s (xle_s (xle_s (xle_s (xle_n (xle_n (xle_n xle_0)))))))))))) k
theorem bX12_answers_180 {d : Nat} {g : xSt} {r : Option Value × xSt} {a3 a5 a6 a7 : Int32} (k1 : a3 = 0 → xX (d + 1) mX12_answers 184 [none, none, none, none, none, some (.int a5), none, none, none, none, none, none] [] g = some r) (k2 : ¬ (a3 = 0) → xX (d + 1) mX12_answers 189 [none, none, none, some (.int a3), none, none, some (.int a6), some (.int a7), none, none, none, none] [] g = some r) : xX (d + 1) mX12_answers 180 [none, none, none, some (.int a3), none, some (.int a5), some (.int a6), some (.int a7), none, none, none, none] [] g = some r :=
  Y_iload_n dX12_answers_180 rfl <| Y_ne0 189 dX12_answers_181 rfl (fun q => X_le (xle_n (xle_n (xle_n (xle_n (xle_n (xle_s (xle_n (xle_n (xle_n (xle_n (xle_n (xle_n xle_0)))))))))))) (k1 q)) (fun q => X_le (xle_n (xle_n (xle_n (xle_s (xle_n (xle_n (xle_s (xle_s (xle_n (xle_n (xle_n (xle_n xle_0)))))))))))) (k2 q))
theorem bX12_answers_184 {d : Nat} {g : xSt} {r : Option Value × xSt} {a5 : Int32} (k : xX (d + 1) mX12_answers 201 [none, none, none, none, none, none, none, none, none, none, none, none] [.int a5] g = some r) : xX (d + 1) mX12_answers 184 [none, none, none, none, none, some (.int a5), none, none, none, none, none, none] [] g = some r :=
  Y_iload dX12_answers_184 rfl <| Y_goto 201 dX12_answers_186 rfl <| X_le (xle_n (xle_n (xle_n (xle_n (xle_n (xle_n (xle_n (xle_n (xle_n (xle_n (xle_n (xle_n xle_0)))))))))))) k
theorem bX12_answers_189 {d : Nat} {g : xSt} {r : Option Value × xSt} {a3 a6 a7 : Int32} (k1 : a3 = 1 → xX (d + 1) mX12_answers 194 [none, none, none, none, none, none, none, some (.int a7), none, none, none, none] [] g = some r) (k2 : ¬ (a3 = 1) → xX (d + 1) mX12_answers 199 [none, none, none, none, none, none, some (.int a6), none, none, none, none, none] [] g = some r) : xX (d + 1) mX12_answers 189 [none, none, none, some (.int a3), none, none, some (.int a6), some (.int a7), none, none, none, none] [] g = some r :=
  Y_iload_n dX12_answers_189 rfl <| Y_iconst 1 dX12_answers_190 ic_1 <| Y_ne 199 dX12_answers_191 rfl (fun q => X_le (xle_n (xle_n (xle_n (xle_n (xle_n (xle_n (xle_n (xle_s (xle_n (xle_n (xle_n (xle_n xle_0)))))))))))) (k1 q)) (fun q => X_le (xle_n (xle_n (xle_n (xle_n (xle_n (xle_n (xle_s (xle_n (xle_n (xle_n (xle_n (xle_n xle_0)))))))))))) (k2 q))
theorem bX12_answers_194 {d : Nat} {g : xSt} {r : Option Value × xSt} {a7 : Int32} (k : xX (d + 1) mX12_answers 201 [none, none, none, none, none, none, none, none, none, none, none, none] [.int a7] g = some r) : xX (d + 1) mX12_answers 194 [none, none, none, none, none, none, none, some (.int a7), none, none, none, none] [] g = some r :=
  Y_iload dX12_answers_194 rfl <| Y_goto 201 dX12_answers_196 rfl <| X_le (xle_n (xle_n (xle_n (xle_n (xle_n (xle_n (xle_n (xle_n (xle_n (xle_n (xle_n (xle_n xle_0)))))))))))) k
theorem bX12_answers_199 {d : Nat} {g : xSt} {r : Option Value × xSt} {a6 : Int32} (k : xX (d + 1) mX12_answers 201 [none, none, none, none, none, none, none, none, none, none, none, none] [.int a6] g = some r) : xX (d + 1) mX12_answers 199 [none, none, none, none, none, none, some (.int a6), none, none, none, none, none] [] g = some r :=
  Y_iload dX12_answers_199 rfl <| X_le (xle_n (xle_n (xle_n (xle_n (xle_n (xle_n (xle_n (xle_n (xle_n (xle_n (xle_n (xle_n xle_0)))))))))))) k
theorem bX12_answers_201 {d : Nat} {g : xSt} {r : Option Value × xSt} {s0 : Int32} (k : r = (some (.int s0), g)) : xX (d + 1) mX12_answers 201 [none, none, none, none, none, none, none, none, none, none, none, none] [.int s0] g = some r :=
  Y_iret dX12_answers_201 rfl k
theorem bX12_answerOf_0 {d : Nat} {g : xSt} {r : Option Value × xSt} {a1 a2 : Int32} (k1 : a2 ≤ 0 → xX (d + 1) mX12_answerOf 11 [some (.ref 113), some (.int a1), none, none, none] [] g = some r) (k2 : ¬ (a2 ≤ 0) → xX (d + 1) mX12_answerOf 4 [some (.ref 113), some (.int a1), none, none, none] [] g = some r) : xX (d + 1) mX12_answerOf 0 [some (.ref 113), some (.int a1), some (.int a2), none, none] [] g = some r :=
  Y_iload_n dX12_answerOf_0 rfl <| Y_le0 11 dX12_answerOf_1 rfl (fun q => X_le (xle_s (xle_s (xle_n (xle_n (xle_n xle_0))))) (k1 q)) (fun q => X_le (xle_s (xle_s (xle_n (xle_n (xle_n xle_0))))) (k2 q))
theorem bX12_answerOf_4 {d : Nat} {g : xSt} {r : Option Value × xSt} {a1 : Int32} (W : xWf g) (hi9 : vp_in a1 541) (k : r = (some (.int (xI g 146 a1.toNatClampNeg)), g)) : xX (d + 1) mX12_answerOf 4 [some (.ref 113), some (.int a1), none, none, none] [] g = some r :=
  Y_aload_n dX12_answerOf_4 rfl <| Y_getR dX12_answerOf_5 f_11_113 (by rw [ft_11_49]; rfl) (xis W 113 11 s_113 (Nat.le_of_ble_eq_true rfl)) (xptr W 113 49 p_113_49) <| Y_iload_n dX12_answerOf_8 rfl <| Y_iald dX12_answerOf_9 (xarr W (o := 146) s_146 (Nat.le_of_ble_eq_true rfl)) hi9 <| Y_iret dX12_answerOf_10 rfl k
theorem bX12_answerOf_11 {d : Nat} {g : xSt} {r : Option Value × xSt} {a1 : Int32} (k : xX (d + 1) mX12_answerOf 16 [some (.ref 113), some (.int a1), none, some (.int 0), some (.int 0)] [] g = some r) : xX (d + 1) mX12_answerOf 11 [some (.ref 113), some (.int a1), none, none, none] [] g = some r :=
  Y_iconst 0 dX12_answerOf_11 ic_0 <| Y_istore_n dX12_answerOf_12 rfl rfl <| Y_iconst 0 dX12_answerOf_13 ic_0 <| Y_istore dX12_answerOf_14 rfl rfl <| X_le (xle_s (xle_s (xle_n (xle_s (xle_s xle_0))))) k
theorem bX12_answerOf_16 {d : Nat} {g : xSt} {r : Option Value × xSt} {a1 a3 a4 r19 : Int32} {g19 : xSt} (W : xWf g) (hk19 : xCallM d mX12_thingMany [.ref 113] g = some (some (.int r19), g19)) (W19 : xWf g19) (k1 : r19 ≤ a4 → xX (d + 1) mX12_answerOf 44 [none, none, none, some (.int a3), none] [] g19 = some r) (k2 : ¬ (r19 ≤ a4) → xX (d + 1) mX12_answerOf 25 [some (.ref 113), some (.int a1), none, some (.int a3), some (.int a4)] [] g19 = some r) : xX (d + 1) mX12_answerOf 16 [some (.ref 113), some (.int a1), none, some (.int a3), some (.int a4)] [] g = some r :=
  Y_iload dX12_answerOf_16 rfl <| Y_aload_n dX12_answerOf_18 rfl <| Y_callV1 dX12_answerOf_19 cl_11_364 rfl rfl (xis W 113 11 s_113 (Nat.le_of_ble_eq_true rfl)) rfl rfl rfl (hk19) <| Y_ge 44 dX12_answerOf_22 rfl (fun q => X_le (xle_n (xle_n (xle_n (xle_s (xle_n xle_0))))) (k1 q)) (fun q => X_le (xle_s (xle_s (xle_n (xle_s (xle_s xle_0))))) (k2 q))
theorem bX12_answerOf_25 {d : Nat} {g : xSt} {r : Option Value × xSt} {a1 a3 a4 r33 : Int32} {g33 : xSt} (W : xWf g) (hk33 : xCallM d mX12_placeLeft [.ref 113, .int a1, .int a4] g = some (some (.int r33), g33)) (W33 : xWf g33) (k : xX (d + 1) mX12_answerOf 16 [some (.ref 113), some (.int a1), none, some (.int ((10 * a3) + r33)), some (.int (a4 + 1))] [] g33 = some r) : xX (d + 1) mX12_answerOf 25 [some (.ref 113), some (.int a1), none, some (.int a3), some (.int a4)] [] g = some r :=
  Y_bipush 10 dX12_answerOf_25 bp_10 <| Y_iload_n dX12_answerOf_27 rfl <| Y_imul dX12_answerOf_28 <| Y_aload_n dX12_answerOf_29 rfl <| Y_iload_n dX12_answerOf_30 rfl <| Y_iload dX12_answerOf_31 rfl <| Y_callV1 dX12_answerOf_33 cl_11_427 rfl rfl (xis W 113 11 s_113 (Nat.le_of_ble_eq_true rfl)) rfl rfl rfl (hk33) <| Y_iadd dX12_answerOf_36 <| Y_istore_n dX12_answerOf_37 rfl rfl <| Y_iinc 1 dX12_answerOf_38 rfl ic_1 rfl rfl <| Y_goto 16 dX12_answerOf_41 rfl <| X_le (xle_s (xle_s (xle_n (xle_s (xle_s xle_0))))) k
theorem bX12_answerOf_44 {d : Nat} {g : xSt} {r : Option Value × xSt} {a3 : Int32} (k : r = (some (.int a3), g)) : xX (d + 1) mX12_answerOf 44 [none, none, none, some (.int a3), none] [] g = some r :=
  Y_iload_n dX12_answerOf_44 rfl <| Y_iret dX12_answerOf_45 rfl k
theorem bX12_judged_0 {d : Nat} {g : xSt} {r : Option Value × xSt} {a1 a2 a3 a4 a5 r13 : Int32} {g13 : xSt} (W : xWf g) (hi10 : vp_in (xI g 113 30) 2) (hk13 : xCallM d mX12_isIn [.int a1, .int 0, .int ((xI g 126 (xI g 113 30).toNatClampNeg) - 1)] g = some (some (.int r13), g13)) (W13 : xWf g13) (k1 : r13 = 0 → xX (d + 1) mX12_judged 38 [none, none, none, none, none, none, none, none, none, none, none, none] [] g13 = some r) (k2 : ¬ (r13 = 0) → xX (d + 1) mX12_judged 19 [some (.ref 113), some (.int a1), some (.int a2), some (.int a3), some (.int a4), some (.int a5), none, none, none, none, none, none] [] g13 = some r) : xX (d + 1) mX12_judged 0 [some (.ref 113), some (.int a1), some (.int a2), some (.int a3), some (.int a4), some (.int a5), none, none, none, none, none, none] [] g = some r :=
  Y_iload_n dX12_judged_0 rfl <| Y_iconst 0 dX12_judged_1 ic_0 <| Y_aload_n dX12_judged_2 rfl <| Y_getR dX12_judged_3 f_11_53 (by rw [ft_11_21]; rfl) (xis W 113 11 s_113 (Nat.le_of_ble_eq_true rfl)) (xptr W 113 21 p_113_21) <| Y_aload_n dX12_judged_6 rfl <| Y_getI dX12_judged_7 f_11_295 ft_11_30 (xis W 113 11 s_113 (Nat.le_of_ble_eq_true rfl)) <| Y_iald dX12_judged_10 (xarr W (o := 126) s_126 (Nat.le_of_ble_eq_true rfl)) hi10 <| Y_iconst 1 dX12_judged_11 ic_1 <| Y_isub dX12_judged_12 <| Y_callS1 dX12_judged_13 cl_11_367 rfl rfl rfl rfl rfl (hk13) <| Y_eq0 38 dX12_judged_16 rfl (fun q => X_le (xle_n (xle_n (xle_n (xle_n (xle_n (xle_n (xle_n (xle_n (xle_n (xle_n (xle_n (xle_n xle_0)))))))))))) (k1 q)) (fun q => X_le (xle_s (xle_s (xle_s (xle_s (xle_s (xle_s (xle_n (xle_n (xle_n (xle_n (xle_n (xle_n xle_0)))))))))))) (k2 q))
theorem bX12_judged_19 {d : Nat} {g : xSt} {r : Option Value × xSt} {a1 a2 a3 a4 a5 r22 : Int32} {g22 : xSt} (W : xWf g) (hk22 : xCallM d mX12_isGoal [.ref 113, .int a2, .int a3] g = some (some (.int r22), g22)) (W22 : xWf g22) (k1 : r22 = 0 → xX (d + 1) mX12_judged 38 [none, none, none, none, none, none, none, none, none, none, none, none] [] g22 = some r) (k2 : ¬ (r22 = 0) → xX (d + 1) mX12_judged 28 [some (.ref 113), some (.int a1), some (.int a2), some (.int a3), some (.int a4), some (.int a5), none, none, none, none, none, none] [] g22 = some r) : xX (d + 1) mX12_judged 19 [some (.ref 113), some (.int a1), some (.int a2), some (.int a3), some (.int a4), some (.int a5), none, none, none, none, none, none] [] g = some r :=
  Y_aload_n dX12_judged_19 rfl <| Y_iload_n dX12_judged_20 rfl <| Y_iload_n dX12_judged_21 rfl <| Y_callV1 dX12_judged_22 cl_11_508 rfl rfl (xis W 113 11 s_113 (Nat.le_of_ble_eq_true rfl)) rfl rfl rfl (hk22) <| Y_eq0 38 dX12_judged_25 rfl (fun q => X_le (xle_n (xle_n (xle_n (xle_n (xle_n (xle_n (xle_n (xle_n (xle_n (xle_n (xle_n (xle_n xle_0)))))))))))) (k1 q)) (fun q => X_le (xle_s (xle_s (xle_s (xle_s (xle_s (xle_s (xle_n (xle_n (xle_n (xle_n (xle_n (xle_n xle_0)))))))))))) (k2 q))
theorem bX12_judged_28 {d : Nat} {g : xSt} {r : Option Value × xSt} {a1 a2 a3 a4 a5 r32 : Int32} {g32 : xSt} (hk32 : xCallM d mX12_isIn [.int a4, .int 0, .int 2] g = some (some (.int r32), g32)) (W32 : xWf g32) (k1 : r32 = 0 → xX (d + 1) mX12_judged 38 [none, none, none, none, none, none, none, none, none, none, none, none] [] g32 = some r) (k2 : ¬ (r32 = 0) → xX (d + 1) mX12_judged 40 [some (.ref 113), some (.int a1), some (.int a2), some (.int a3), some (.int a4), some (.int a5), none, none, none, none, none, none] [] g32 = some r) : xX (d + 1) mX12_judged 28 [some (.ref 113), some (.int a1), some (.int a2), some (.int a3), some (.int a4), some (.int a5), none, none, none, none, none, none] [] g = some r :=
  Y_iload dX12_judged_28 rfl <| Y_iconst 0 dX12_judged_30 ic_0 <| Y_iconst 2 dX12_judged_31 ic_2 <| Y_callS1 dX12_judged_32 cl_11_367 rfl rfl rfl rfl rfl (hk32) <| Y_ne0 40 dX12_judged_35 rfl (fun q => X_le (xle_n (xle_n (xle_n (xle_n (xle_n (xle_n (xle_n (xle_n (xle_n (xle_n (xle_n (xle_n xle_0)))))))))))) (k1 q)) (fun q => X_le (xle_s (xle_s (xle_s (xle_s (xle_s (xle_s (xle_n (xle_n (xle_n (xle_n (xle_n (xle_n xle_0)))))))))))) (k2 q))
theorem bX12_judged_38 {d : Nat} {g : xSt} {r : Option Value × xSt}  (k : r = (some (.int (-1)), g)) : xX (d + 1) mX12_judged 38 [none, none, none, none, none, none, none, none, none, none, none, none] [] g = some r :=
  Y_iconst (-1) dX12_judged_38 ic_m1 <| Y_iret dX12_judged_39 rfl k
theorem bX12_judged_40 {d : Nat} {g : xSt} {r : Option Value × xSt} {a1 a2 a3 a4 a5 : Int32} {g44 g50 : xSt} (W : xWf g) (hk44 : xCallM d mX12_layLeft [.ref 113, .int 0, .int a5] g = some (none, g44)) (W44 : xWf g44) (hk50 : xCallM d mX12_layGoals [.ref 113, .int a2, .int a3] g44 = some (none, g50)) (W50 : xWf g50) (k : xX (d + 1) mX12_judged 65 [some (.ref 113), some (.int a1), none, none, some (.int a4), none, some (.int 0), some (.int 0), some (.int 0), some (.int 0), none, none] [] g50 = some r) : xX (d + 1) mX12_judged 40 [some (.ref 113), some (.int a1), some (.int a2), some (.int a3), some (.int a4), some (.int a5), none, none, none, none, none, none] [] g = some r :=
  Y_aload_n dX12_judged_40 rfl <| Y_iconst 0 dX12_judged_41 ic_0 <| Y_iload dX12_judged_42 rfl <| Y_callV0 dX12_judged_44 cl_11_414 rfl rfl (xis W 113 11 s_113 (Nat.le_of_ble_eq_true rfl)) rfl rfl rfl (hk44) <| Y_aload_n dX12_judged_47 rfl <| Y_iload_n dX12_judged_48 rfl <| Y_iload_n dX12_judged_49 rfl <| Y_callV0 dX12_judged_50 cl_11_505 rfl rfl (xis W44 113 11 s_113 (Nat.le_of_ble_eq_true rfl)) rfl rfl rfl (hk50) <| Y_iconst 0 dX12_judged_53 ic_0 <| Y_istore dX12_judged_54 rfl rfl <| Y_iconst 0 dX12_judged_56 ic_0 <| Y_istore dX12_judged_57 rfl rfl <| Y_iconst 0 dX12_judged_59 ic_0 <| Y_istore dX12_judged_60 rfl rfl <| Y_iconst 0 dX12_judged_62 ic_0 <| Y_istore dX12_judged_63 rfl rfl <| X_le (xle_s (xle_s (xle_n (xle_n (xle_s (xle_n (xle_s (xle_s (xle_s (xle_s (xle_n (xle_n xle_0)))))))))))) k
theorem bX12_judged_65 {d : Nat} {g : xSt} {r : Option Value × xSt} {a1 a4 a6 a7 a8 a9 : Int32} (W : xWf g) (k1 : (xI g 113 53) ≤ a9 → xX (d + 1) mX12_judged 99 [some (.ref 113), none, none, none, some (.int a4), none, some (.int a6), some (.int a7), some (.int a8), none, none, none] [] g = some r) (k2 : ¬ ((xI g 113 53) ≤ a9) → xX (d + 1) mX12_judged 74 [some (.ref 113), some (.int a1), none, none, some (.int a4), none, some (.int a6), some (.int a7), some (.int a8), some (.int a9), none, none] [] g = some r) : xX (d + 1) mX12_judged 65 [some (.ref 113), some (.int a1), none, none, some (.int a4), none, some (.int a6), some (.int a7), some (.int a8), some (.int a9), none, none] [] g = some r :=
  Y_iload dX12_judged_65 rfl <| Y_aload_n dX12_judged_67 rfl <| Y_getI dX12_judged_68 f_11_408 ft_11_53 (xis W 113 11 s_113 (Nat.le_of_ble_eq_true rfl)) <| Y_ge 99 dX12_judged_71 rfl (fun q => X_le (xle_s (xle_n (xle_n (xle_n (xle_s (xle_n (xle_s (xle_s (xle_s (xle_n (xle_n (xle_n xle_0)))))))))))) (k1 q)) (fun q => X_le (xle_s (xle_s (xle_n (xle_n (xle_s (xle_n (xle_s (xle_s (xle_s (xle_s (xle_n (xle_n xle_0)))))))))))) (k2 q))
theorem bX12_judged_74 {d : Nat} {g : xSt} {r : Option Value × xSt} {a1 a4 a6 a7 a8 a9 : Int32} {g90 : xSt} (W : xWf g) (hi89 : vp_in ((3 * (xI g 113 30)) + a1) 6) (hk90 : xCallM d mX12_goesThrough [.ref 113, .int a9, .int (xI g 128 ((3 * (xI g 113 30)) + a1).toNatClampNeg)] g = some (none, g90)) (W90 : xWf g90) (k : xX (d + 1) mX12_judged 65 [some (.ref 113), some (.int a1), none, none, some (.int a4), none, some (.int a6), some (.int a7), some (.int a8), some (.int (a9 + 1)), none, none] [] g90 = some r) : xX (d + 1) mX12_judged 74 [some (.ref 113), some (.int a1), none, none, some (.int a4), none, some (.int a6), some (.int a7), some (.int a8), some (.int a9), none, none] [] g = some r :=
  Y_aload_n dX12_judged_74 rfl <| Y_iload dX12_judged_75 rfl <| Y_aload_n dX12_judged_77 rfl <| Y_getR dX12_judged_78 f_11_59 (by rw [ft_11_23]; rfl) (xis W 113 11 s_113 (Nat.le_of_ble_eq_true rfl)) (xptr W 113 23 p_113_23) <| Y_iconst 3 dX12_judged_81 ic_3 <| Y_aload_n dX12_judged_82 rfl <| Y_getI dX12_judged_83 f_11_295 ft_11_30 (xis W 113 11 s_113 (Nat.le_of_ble_eq_true rfl)) <| Y_imul dX12_judged_86 <| Y_iload_n dX12_judged_87 rfl <| Y_iadd dX12_judged_88 <| Y_iald dX12_judged_89 (xarr W (o := 128) s_128 (Nat.le_of_ble_eq_true rfl)) hi89 <| Y_callV0 dX12_judged_90 cl_11_524 rfl rfl (xis W 113 11 s_113 (Nat.le_of_ble_eq_true rfl)) rfl rfl rfl (hk90) <| Y_iinc 1 dX12_judged_93 rfl ic_1 rfl rfl <| Y_goto 65 dX12_judged_96 rfl <| X_le (xle_s (xle_s (xle_n (xle_n (xle_s (xle_n (xle_s (xle_s (xle_s (xle_s (xle_n (xle_n xle_0)))))))))))) k
theorem bX12_judged_99 {d : Nat} {g : xSt} {r : Option Value × xSt} {a4 a6 a7 a8 : Int32} (k : xX (d + 1) mX12_judged 102 [some (.ref 113), none, none, none, some (.int a4), none, some (.int a6), some (.int a7), some (.int a8), some (.int 0), none, none] [] g = some r) : xX (d + 1) mX12_judged 99 [some (.ref 113), none, none, none, some (.int a4), none, some (.int a6), some (.int a7), some (.int a8), none, none, none] [] g = some r :=
  Y_iconst 0 dX12_judged_99 ic_0 <| Y_istore dX12_judged_100 rfl rfl <| X_le (xle_s (xle_n (xle_n (xle_n (xle_s (xle_n (xle_s (xle_s (xle_s (xle_s (xle_n (xle_n xle_0)))))))))))) k
theorem bX12_judged_102 {d : Nat} {g : xSt} {r : Option Value × xSt} {a4 a6 a7 a8 a9 : Int32} (W : xWf g) (k1 : (xI g 113 53) ≤ a9 → xX (d + 1) mX12_judged 237 [none, none, none, none, some (.int a4), none, some (.int a6), some (.int a7), some (.int a8), none, none, none] [] g = some r) (k2 : ¬ ((xI g 113 53) ≤ a9) → xX (d + 1) mX12_judged 111 [some (.ref 113), none, none, none, some (.int a4), none, some (.int a6), some (.int a7), some (.int a8), some (.int a9), none, none] [] g = some r) : xX (d + 1) mX12_judged 102 [some (.ref 113), none, none, none, some (.int a4), none, some (.int a6), some (.int a7), some (.int a8), some (.int a9), none, none] [] g = some r :=
  Y_iload dX12_judged_102 rfl <| Y_aload_n dX12_judged_104 rfl <| Y_getI dX12_judged_105 f_11_408 ft_11_53 (xis W 113 11 s_113 (Nat.le_of_ble_eq_true rfl)) <| Y_ge 237 dX12_judged_108 rfl (fun q => X_le (xle_n (xle_n (xle_n (xle_n (xle_s (xle_n (xle_s (xle_s (xle_s (xle_n (xle_n (xle_n xle_0)))))))))))) (k1 q)) (fun q => X_le (xle_s (xle_n (xle_n (xle_n (xle_s (xle_n (xle_s (xle_s (xle_s (xle_s (xle_n (xle_n xle_0)))))))))))) (k2 q))
theorem bX12_judged_111 {d : Nat} {g : xSt} {r : Option Value × xSt} {a4 a6 a7 a8 a9 : Int32} (k : xX (d + 1) mX12_judged 117 [some (.ref 113), none, none, none, some (.int a4), none, some (.int a6), some (.int a7), some (.int a8), some (.int a9), some (.int 1), some (.int 0)] [] g = some r) : xX (d + 1) mX12_judged 111 [some (.ref 113), none, none, none, some (.int a4), none, some (.int a6), some (.int a7), some (.int a8), some (.int a9), none, none] [] g = some r :=
  Y_iconst 1 dX12_judged_111 ic_1 <| Y_istore dX12_judged_112 rfl rfl <| Y_iconst 0 dX12_judged_114 ic_0 <| Y_istore dX12_judged_115 rfl rfl <| X_le (xle_s (xle_n (xle_n (xle_n (xle_s (xle_n (xle_s (xle_s (xle_s (xle_s (xle_s (xle_s xle_0)))))))))))) k
theorem bX12_judged_117 {d : Nat} {g : xSt} {r : Option Value × xSt} {a4 a6 a7 a8 a9 a10 a11 : Int32} (W : xWf g) (k1 : (xI g 113 53) ≤ a11 → xX (d + 1) mX12_judged 178 [some (.ref 113), none, none, none, some (.int a4), none, some (.int a6), some (.int a7), some (.int a8), some (.int a9), some (.int a10), none] [] g = some r) (k2 : ¬ ((xI g 113 53) ≤ a11) → xX (d + 1) mX12_judged 126 [some (.ref 113), none, none, none, some (.int a4), none, some (.int a6), some (.int a7), some (.int a8), some (.int a9), some (.int a10), some (.int a11)] [] g = some r) : xX (d + 1) mX12_judged 117 [some (.ref 113), none, none, none, some (.int a4), none, some (.int a6), some (.int a7), some (.int a8), some (.int a9), some (.int a10), some (.int a11)] [] g = some r :=
  Y_iload dX12_judged_117 rfl <| Y_aload_n dX12_judged_119 rfl <| Y_getI dX12_judged_120 f_11_408 ft_11_53 (xis W 113 11 s_113 (Nat.le_of_ble_eq_true rfl)) <| Y_ge 178 dX12_judged_123 rfl (fun q => X_le (xle_s (xle_n (xle_n (xle_n (xle_s (xle_n (xle_s (xle_s (xle_s (xle_s (xle_s (xle_n xle_0)))))))))))) (k1 q)) (fun q => X_le (xle_s (xle_n (xle_n (xle_n (xle_s (xle_n (xle_s (xle_s (xle_s (xle_s (xle_s (xle_s xle_0)))))))))))) (k2 q))
theorem bX12_judged_126 {d : Nat} {g : xSt} {r : Option Value × xSt} {a4 a6 a7 a8 a9 a10 a11 : Int32} (k1 : a10 = 0 → xX (d + 1) mX12_judged 169 [some (.ref 113), none, none, none, some (.int a4), none, some (.int a6), some (.int a7), some (.int a8), some (.int a9), none, some (.int a11)] [] g = some r) (k2 : ¬ (a10 = 0) → xX (d + 1) mX12_judged 131 [some (.ref 113), none, none, none, some (.int a4), none, some (.int a6), some (.int a7), some (.int a8), some (.int a9), none, some (.int a11)] [] g = some r) : xX (d + 1) mX12_judged 126 [some (.ref 113), none, none, none, some (.int a4), none, some (.int a6), some (.int a7), some (.int a8), some (.int a9), some (.int a10), some (.int a11)] [] g = some r :=
  Y_iload dX12_judged_126 rfl <| Y_eq0 169 dX12_judged_128 rfl (fun q => X_le (xle_s (xle_n (xle_n (xle_n (xle_s (xle_n (xle_s (xle_s (xle_s (xle_s (xle_n (xle_s xle_0)))))))))))) (k1 q)) (fun q => X_le (xle_s (xle_n (xle_n (xle_n (xle_s (xle_n (xle_s (xle_s (xle_s (xle_s (xle_n (xle_s xle_0)))))))))))) (k2 q))
theorem bX12_judged_131 {d : Nat} {g : xSt} {r : Option Value × xSt} {a4 a6 a7 a8 a9 a11 : Int32} (W : xWf g) (hi137 : vp_in a11 541) (hi144 : vp_in a9 541) (k1 : (xI g 147 a11.toNatClampNeg) = (xI g 147 a9.toNatClampNeg) → xX (d + 1) mX12_judged 148 [some (.ref 113), none, none, none, some (.int a4), none, some (.int a6), some (.int a7), some (.int a8), some (.int a9), none, some (.int a11)] [] g = some r) (k2 : ¬ ((xI g 147 a11.toNatClampNeg) = (xI g 147 a9.toNatClampNeg)) → xX (d + 1) mX12_judged 165 [some (.ref 113), none, none, none, some (.int a4), none, some (.int a6), some (.int a7), some (.int a8), some (.int a9), none, some (.int a11)] [] g = some r) : xX (d + 1) mX12_judged 131 [some (.ref 113), none, none, none, some (.int a4), none, some (.int a6), some (.int a7), some (.int a8), some (.int a9), none, some (.int a11)] [] g = some r :=
  Y_aload_n dX12_judged_131 rfl <| Y_getR dX12_judged_132 f_11_116 (by rw [ft_11_50]; rfl) (xis W 113 11 s_113 (Nat.le_of_ble_eq_true rfl)) (xptr W 113 50 p_113_50) <| Y_iload dX12_judged_135 rfl <| Y_iald dX12_judged_137 (xarr W (o := 147) s_147 (Nat.le_of_ble_eq_true rfl)) hi137 <| Y_aload_n dX12_judged_138 rfl <| Y_getR dX12_judged_139 f_11_116 (by rw [ft_11_50]; rfl) (xis W 113 11 s_113 (Nat.le_of_ble_eq_true rfl)) (xptr W 113 50 p_113_50) <| Y_iload dX12_judged_142 rfl <| Y_iald dX12_judged_144 (xarr W (o := 147) s_147 (Nat.le_of_ble_eq_true rfl)) hi144 <| Y_ne 165 dX12_judged_145 rfl (fun q => X_le (xle_s (xle_n (xle_n (xle_n (xle_s (xle_n (xle_s (xle_s (xle_s (xle_s (xle_n (xle_s xle_0)))))))))))) (k1 q)) (fun q => X_le (xle_s (xle_n (xle_n (xle_n (xle_s (xle_n (xle_s (xle_s (xle_s (xle_s (xle_n (xle_s xle_0)))))))))))) (k2 q))
theorem bX12_judged_148 {d : Nat} {g : xSt} {r : Option Value × xSt} {a4 a6 a7 a8 a9 a11 : Int32} (W : xWf g) (hi154 : vp_in a11 541) (hi161 : vp_in a9 541) (k1 : (xI g 146 a11.toNatClampNeg) = (xI g 146 a9.toNatClampNeg) → xX (d + 1) mX12_judged 165 [some (.ref 113), none, none, none, some (.int a4), none, some (.int a6), some (.int a7), some (.int a8), some (.int a9), none, some (.int a11)] [] g = some r) (k2 : ¬ ((xI g 146 a11.toNatClampNeg) = (xI g 146 a9.toNatClampNeg)) → xX (d + 1) mX12_judged 169 [some (.ref 113), none, none, none, some (.int a4), none, some (.int a6), some (.int a7), some (.int a8), some (.int a9), none, some (.int a11)] [] g = some r) : xX (d + 1) mX12_judged 148 [some (.ref 113), none, none, none, some (.int a4), none, some (.int a6), some (.int a7), some (.int a8), some (.int a9), none, some (.int a11)] [] g = some r :=
  Y_aload_n dX12_judged_148 rfl <| Y_getR dX12_judged_149 f_11_113 (by rw [ft_11_49]; rfl) (xis W 113 11 s_113 (Nat.le_of_ble_eq_true rfl)) (xptr W 113 49 p_113_49) <| Y_iload dX12_judged_152 rfl <| Y_iald dX12_judged_154 (xarr W (o := 146) s_146 (Nat.le_of_ble_eq_true rfl)) hi154 <| Y_aload_n dX12_judged_155 rfl <| Y_getR dX12_judged_156 f_11_113 (by rw [ft_11_49]; rfl) (xis W 113 11 s_113 (Nat.le_of_ble_eq_true rfl)) (xptr W 113 49 p_113_49) <| Y_iload dX12_judged_159 rfl <| Y_iald dX12_judged_161 (xarr W (o := 146) s_146 (Nat.le_of_ble_eq_true rfl)) hi161 <| Y_ne 169 dX12_judged_162 rfl (fun q => X_le (xle_s (xle_n (xle_n (xle_n (xle_s (xle_n (xle_s (xle_s (xle_s (xle_s (xle_n (xle_s xle_0)))))))))))) (k1 q)) (fun q => X_le (xle_s (xle_n (xle_n (xle_n (xle_s (xle_n (xle_s (xle_s (xle_s (xle_s (xle_n (xle_s xle_0)))))))))))) (k2 q))
theorem bX12_judged_165 {d : Nat} {g : xSt} {r : Option Value × xSt} {a4 a6 a7 a8 a9 a11 : Int32} (k : xX (d + 1) mX12_judged 170 [some (.ref 113), none, none, none, some (.int a4), none, some (.int a6), some (.int a7), some (.int a8), some (.int a9), none, some (.int a11)] [.int 1] g = some r) : xX (d + 1) mX12_judged 165 [some (.ref 113), none, none, none, some (.int a4), none, some (.int a6), some (.int a7), some (.int a8), some (.int a9), none, some (.int a11)] [] g = some r :=
  Y_iconst 1 dX12_judged_165 ic_1 <| Y_goto 170 dX12_judged_166 rfl <| X_le (xle_s (xle_n (xle_n (xle_n (xle_s (xle_n (xle_s (xle_s (xle_s (xle_s (xle_n (xle_s xle_0)))))))))))) k
theorem bX12_judged_169 {d : Nat} {g : xSt} {r : Option Value × xSt} {a4 a6 a7 a8 a9 a11 : Int32} (k : xX (d + 1) mX12_judged 170 [some (.ref 113), none, none, none, some (.int a4), none, some (.int a6), some (.int a7), some (.int a8), some (.int a9), none, some (.int a11)] [.int 0] g = some r) : xX (d + 1) mX12_judged 169 [some (.ref 113), none, none, none, some (.int a4), none, some (.int a6), some (.int a7), some (.int a8), some (.int a9), none, some (.int a11)] [] g = some r :=
  Y_iconst 0 dX12_judged_169 ic_0 <| X_le (xle_s (xle_n (xle_n (xle_n (xle_s (xle_n (xle_s (xle_s (xle_s (xle_s (xle_n (xle_s xle_0)))))))))))) k
theorem bX12_judged_170 {d : Nat} {g : xSt} {r : Option Value × xSt} {a4 a6 a7 a8 a9 a11 s0 : Int32} (k : xX (d + 1) mX12_judged 117 [some (.ref 113), none, none, none, some (.int a4), none, some (.int a6), some (.int a7), some (.int a8), some (.int a9), some (.int s0), some (.int (a11 + 1))] [] g = some r) : xX (d + 1) mX12_judged 170 [some (.ref 113), none, none, none, some (.int a4), none, some (.int a6), some (.int a7), some (.int a8), some (.int a9), none, some (.int a11)] [.int s0] g = some r :=
  Y_istore dX12_judged_170 rfl rfl <| Y_iinc 1 dX12_judged_172 rfl ic_1 rfl rfl <| Y_goto 117 dX12_judged_175 rfl <| X_le (xle_s (xle_n (xle_n (xle_n (xle_s (xle_n (xle_s (xle_s (xle_s (xle_s (xle_s (xle_s xle_0)))))))))))) k
theorem bX12_judged_178 {d : Nat} {g : xSt} {r : Option Value × xSt} {a4 a6 a7 a8 a9 a10 : Int32} (k1 : a10 = 0 → xX (d + 1) mX12_judged 189 [some (.ref 113), none, none, none, some (.int a4), none, none, some (.int a7), some (.int a8), some (.int a9), none, none] [.int a6] g = some r) (k2 : ¬ (a10 = 0) → xX (d + 1) mX12_judged 185 [some (.ref 113), none, none, none, some (.int a4), none, none, some (.int a7), some (.int a8), some (.int a9), none, none] [.int a6] g = some r) : xX (d + 1) mX12_judged 178 [some (.ref 113), none, none, none, some (.int a4), none, some (.int a6), some (.int a7), some (.int a8), some (.int a9), some (.int a10), none] [] g = some r :=
  Y_iload dX12_judged_178 rfl <| Y_iload dX12_judged_180 rfl <| Y_eq0 189 dX12_judged_182 rfl (fun q => X_le (xle_s (xle_n (xle_n (xle_n (xle_s (xle_n (xle_n (xle_s (xle_s (xle_s (xle_n (xle_n xle_0)))))))))))) (k1 q)) (fun q => X_le (xle_s (xle_n (xle_n (xle_n (xle_s (xle_n (xle_n (xle_s (xle_s (xle_s (xle_n (xle_n xle_0)))))))))))) (k2 q))
theorem bX12_judged_185 {d : Nat} {g : xSt} {r : Option Value × xSt} {a4 a7 a8 a9 s0 : Int32} (k : xX (d + 1) mX12_judged 190 [some (.ref 113), none, none, none, some (.int a4), none, none, some (.int a7), some (.int a8), some (.int a9), none, none] [.int 0, .int s0] g = some r) : xX (d + 1) mX12_judged 185 [some (.ref 113), none, none, none, some (.int a4), none, none, some (.int a7), some (.int a8), some (.int a9), none, none] [.int s0] g = some r :=
  Y_iconst 0 dX12_judged_185 ic_0 <| Y_goto 190 dX12_judged_186 rfl <| X_le (xle_s (xle_n (xle_n (xle_n (xle_s (xle_n (xle_n (xle_s (xle_s (xle_s (xle_n (xle_n xle_0)))))))))))) k
theorem bX12_judged_189 {d : Nat} {g : xSt} {r : Option Value × xSt} {a4 a7 a8 a9 s0 : Int32} (k : xX (d + 1) mX12_judged 190 [some (.ref 113), none, none, none, some (.int a4), none, none, some (.int a7), some (.int a8), some (.int a9), none, none] [.int 1, .int s0] g = some r) : xX (d + 1) mX12_judged 189 [some (.ref 113), none, none, none, some (.int a4), none, none, some (.int a7), some (.int a8), some (.int a9), none, none] [.int s0] g = some r :=
  Y_iconst 1 dX12_judged_189 ic_1 <| X_le (xle_s (xle_n (xle_n (xle_n (xle_s (xle_n (xle_n (xle_s (xle_s (xle_s (xle_n (xle_n xle_0)))))))))))) k
theorem bX12_judged_190 {d : Nat} {g : xSt} {r : Option Value × xSt} {a4 a7 a8 a9 s1 s0 : Int32} (W : xWf g) (hi199 : vp_in a9 541) (k1 : (xI g 148 a9.toNatClampNeg) ≤ a7 → xX (d + 1) mX12_judged 215 [some (.ref 113), none, none, none, some (.int a4), none, some (.int (s1 + s0)), some (.int a7), some (.int a8), some (.int a9), none, none] [] g = some r) (k2 : ¬ ((xI g 148 a9.toNatClampNeg) ≤ a7) → xX (d + 1) mX12_judged 205 [some (.ref 113), none, none, none, some (.int a4), none, some (.int (s1 + s0)), none, some (.int a8), some (.int a9), none, none] [] g = some r) : xX (d + 1) mX12_judged 190 [some (.ref 113), none, none, none, some (.int a4), none, none, some (.int a7), some (.int a8), some (.int a9), none, none] [.int s0, .int s1] g = some r :=
  Y_iadd dX12_judged_190 <| Y_istore dX12_judged_191 rfl rfl <| Y_aload_n dX12_judged_193 rfl <| Y_getR dX12_judged_194 f_11_119 (by rw [ft_11_51]; rfl) (xis W 113 11 s_113 (Nat.le_of_ble_eq_true rfl)) (xptr W 113 51 p_113_51) <| Y_iload dX12_judged_197 rfl <| Y_iald dX12_judged_199 (xarr W (o := 148) s_148 (Nat.le_of_ble_eq_true rfl)) hi199 <| Y_iload dX12_judged_200 rfl <| Y_le 215 dX12_judged_202 rfl (fun q => X_le (xle_s (xle_n (xle_n (xle_n (xle_s (xle_n (xle_s (xle_s (xle_s (xle_s (xle_n (xle_n xle_0)))))))))))) (k1 q)) (fun q => X_le (xle_s (xle_n (xle_n (xle_n (xle_s (xle_n (xle_s (xle_n (xle_s (xle_s (xle_n (xle_n xle_0)))))))))))) (k2 q))
theorem bX12_judged_205 {d : Nat} {g : xSt} {r : Option Value × xSt} {a4 a6 a8 a9 : Int32} (W : xWf g) (hi211 : vp_in a9 541) (k : xX (d + 1) mX12_judged 217 [some (.ref 113), none, none, none, some (.int a4), none, some (.int a6), none, some (.int a8), some (.int a9), none, none] [.int (xI g 148 a9.toNatClampNeg)] g = some r) : xX (d + 1) mX12_judged 205 [some (.ref 113), none, none, none, some (.int a4), none, some (.int a6), none, some (.int a8), some (.int a9), none, none] [] g = some r :=
  Y_aload_n dX12_judged_205 rfl <| Y_getR dX12_judged_206 f_11_119 (by rw [ft_11_51]; rfl) (xis W 113 11 s_113 (Nat.le_of_ble_eq_true rfl)) (xptr W 113 51 p_113_51) <| Y_iload dX12_judged_209 rfl <| Y_iald dX12_judged_211 (xarr W (o := 148) s_148 (Nat.le_of_ble_eq_true rfl)) hi211 <| Y_goto 217 dX12_judged_212 rfl <| X_le (xle_s (xle_n (xle_n (xle_n (xle_s (xle_n (xle_s (xle_n (xle_s (xle_s (xle_n (xle_n xle_0)))))))))))) k
theorem bX12_judged_215 {d : Nat} {g : xSt} {r : Option Value × xSt} {a4 a6 a7 a8 a9 : Int32} (k : xX (d + 1) mX12_judged 217 [some (.ref 113), none, none, none, some (.int a4), none, some (.int a6), none, some (.int a8), some (.int a9), none, none] [.int a7] g = some r) : xX (d + 1) mX12_judged 215 [some (.ref 113), none, none, none, some (.int a4), none, some (.int a6), some (.int a7), some (.int a8), some (.int a9), none, none] [] g = some r :=
  Y_iload dX12_judged_215 rfl <| X_le (xle_s (xle_n (xle_n (xle_n (xle_s (xle_n (xle_s (xle_n (xle_s (xle_s (xle_n (xle_n xle_0)))))))))))) k
theorem bX12_judged_217 {d : Nat} {g : xSt} {r : Option Value × xSt} {a4 a6 a8 a9 s0 : Int32} (W : xWf g) (hi227 : vp_in a9 541) (k : xX (d + 1) mX12_judged 102 [some (.ref 113), none, none, none, some (.int a4), none, some (.int a6), some (.int s0), some (.int (a8 + (xI g 148 a9.toNatClampNeg))), some (.int (a9 + 1)), none, none] [] g = some r) : xX (d + 1) mX12_judged 217 [some (.ref 113), none, none, none, some (.int a4), none, some (.int a6), none, some (.int a8), some (.int a9), none, none] [.int s0] g = some r :=
  Y_istore dX12_judged_217 rfl rfl <| Y_iload dX12_judged_219 rfl <| Y_aload_n dX12_judged_221 rfl <| Y_getR dX12_judged_222 f_11_119 (by rw [ft_11_51]; rfl) (xis W 113 11 s_113 (Nat.le_of_ble_eq_true rfl)) (xptr W 113 51 p_113_51) <| Y_iload dX12_judged_225 rfl <| Y_iald dX12_judged_227 (xarr W (o := 148) s_148 (Nat.le_of_ble_eq_true rfl)) hi227 <| Y_iadd dX12_judged_228 <| Y_istore dX12_judged_229 rfl rfl <| Y_iinc 1 dX12_judged_231 rfl ic_1 rfl rfl <| Y_goto 102 dX12_judged_234 rfl <| X_le (xle_s (xle_n (xle_n (xle_n (xle_s (xle_n (xle_s (xle_s (xle_s (xle_s (xle_n (xle_n xle_0)))))))))))) k
theorem bX12_judged_237 {d : Nat} {g : xSt} {r : Option Value × xSt} {a4 a6 a7 a8 : Int32} (k1 : a4 = 0 → xX (d + 1) mX12_judged 242 [none, none, none, none, none, none, some (.int a6), none, none, none, none, none] [] g = some r) (k2 : ¬ (a4 = 0) → xX (d + 1) mX12_judged 247 [none, none, none, none, some (.int a4), none, none, some (.int a7), some (.int a8), none, none, none] [] g = some r) : xX (d + 1) mX12_judged 237 [none, none, none, none, some (.int a4), none, some (.int a6), some (.int a7), some (.int a8), none, none, none] [] g = some r :=
  Y_iload dX12_judged_237 rfl <| Y_ne0 247 dX12_judged_239 rfl (fun q => X_le (xle_n (xle_n (xle_n (xle_n (xle_n (xle_n (xle_s (xle_n (xle_n (xle_n (xle_n (xle_n xle_0)))))))))))) (k1 q)) (fun q => X_le (xle_n (xle_n (xle_n (xle_n (xle_s (xle_n (xle_n (xle_s (xle_s (xle_n (xle_n (xle_n xle_0)))))))))))) (k2 q))
theorem bX12_judged_242 {d : Nat} {g : xSt} {r : Option Value × xSt} {a6 : Int32} (k : xX (d + 1) mX12_judged 260 [none, none, none, none, none, none, none, none, none, none, none, none] [.int a6] g = some r) : xX (d + 1) mX12_judged 242 [none, none, none, none, none, none, some (.int a6), none, none, none, none, none] [] g = some r :=
  Y_iload dX12_judged_242 rfl <| Y_goto 260 dX12_judged_244 rfl <| X_le (xle_n (xle_n (xle_n (xle_n (xle_n (xle_n (xle_n (xle_n (xle_n (xle_n (xle_n (xle_n xle_0)))))))))))) k
theorem bX12_judged_247 {d : Nat} {g : xSt} {r : Option Value × xSt} {a4 a7 a8 : Int32} (k1 : a4 = 1 → xX (d + 1) mX12_judged 253 [none, none, none, none, none, none, none, some (.int a7), none, none, none, none] [] g = some r) (k2 : ¬ (a4 = 1) → xX (d + 1) mX12_judged 258 [none, none, none, none, none, none, none, none, some (.int a8), none, none, none] [] g = some r) : xX (d + 1) mX12_judged 247 [none, none, none, none, some (.int a4), none, none, some (.int a7), some (.int a8), none, none, none] [] g = some r :=
  Y_iload dX12_judged_247 rfl <| Y_iconst 1 dX12_judged_249 ic_1 <| Y_ne 258 dX12_judged_250 rfl (fun q => X_le (xle_n (xle_n (xle_n (xle_n (xle_n (xle_n (xle_n (xle_s (xle_n (xle_n (xle_n (xle_n xle_0)))))))))))) (k1 q)) (fun q => X_le (xle_n (xle_n (xle_n (xle_n (xle_n (xle_n (xle_n (xle_n (xle_s (xle_n (xle_n (xle_n xle_0)))))))))))) (k2 q))
theorem bX12_judged_253 {d : Nat} {g : xSt} {r : Option Value × xSt} {a7 : Int32} (k : xX (d + 1) mX12_judged 260 [none, none, none, none, none, none, none, none, none, none, none, none] [.int a7] g = some r) : xX (d + 1) mX12_judged 253 [none, none, none, none, none, none, none, some (.int a7), none, none, none, none] [] g = some r :=
  Y_iload dX12_judged_253 rfl <| Y_goto 260 dX12_judged_255 rfl <| X_le (xle_n (xle_n (xle_n (xle_n (xle_n (xle_n (xle_n (xle_n (xle_n (xle_n (xle_n (xle_n xle_0)))))))))))) k
theorem bX12_judged_258 {d : Nat} {g : xSt} {r : Option Value × xSt} {a8 : Int32} (k : xX (d + 1) mX12_judged 260 [none, none, none, none, none, none, none, none, none, none, none, none] [.int a8] g = some r) : xX (d + 1) mX12_judged 258 [none, none, none, none, none, none, none, none, some (.int a8), none, none, none] [] g = some r :=
  Y_iload dX12_judged_258 rfl <| X_le (xle_n (xle_n (xle_n (xle_n (xle_n (xle_n (xle_n (xle_n (xle_n (xle_n (xle_n (xle_n xle_0)))))))))))) k
theorem bX12_judged_260 {d : Nat} {g : xSt} {r : Option Value × xSt} {s0 : Int32} (k : r = (some (.int s0), g)) : xX (d + 1) mX12_judged 260 [none, none, none, none, none, none, none, none, none, none, none, none] [.int s0] g = some r :=
  Y_iret dX12_judged_260 rfl k
theorem bX12_goesThrough_0 {d : Nat} {g : xSt} {r : Option Value × xSt} {a1 a2 : Int32} (W : xWf g) (hi8 : vp_in a1 541) (hi15 : vp_in a1 541) (k : xX (d + 1) mX12_goesThrough 16 [some (.ref 113), some (.int a1), none, some (.int a2), none, none] [] (xWI (xWI g 147 a1.toNatClampNeg 0) 148 a1.toNatClampNeg 0) = some r) : xX (d + 1) mX12_goesThrough 0 [some (.ref 113), some (.int a1), some (.int a2), none, none, none] [] g = some r :=
  Y_iload_n dX12_goesThrough_0 rfl <| Y_istore_n dX12_goesThrough_1 rfl rfl <| Y_aload_n dX12_goesThrough_2 rfl <| Y_getR dX12_goesThrough_3 f_11_116 (by rw [ft_11_50]; rfl) (xis W 113 11 s_113 (Nat.le_of_ble_eq_true rfl)) (xptr W 113 50 p_113_50) <| Y_iload_n dX12_goesThrough_6 rfl <| Y_iconst 0 dX12_goesThrough_7 ic_0 <| Y_iast dX12_goesThrough_8 (xarr W (o := 147) s_147 (Nat.le_of_ble_eq_true rfl)) hi8 <| Y_aload_n dX12_goesThrough_9 rfl <| Y_getR dX12_goesThrough_10 f_11_119 (by rw [ft_11_51]; rfl) (xis W 113 11 s_113 (Nat.le_of_ble_eq_true rfl)) (xptr W 113 51 p_113_51) <| Y_iload_n dX12_goesThrough_13 rfl <| Y_iconst 0 dX12_goesThrough_14 ic_0 <| Y_iast dX12_goesThrough_15 (xarr W (o := 148) s_148 (Nat.le_of_ble_eq_true rfl)) hi15 <| X_le (xle_s (xle_s (xle_n (xle_s (xle_n (xle_n xle_0)))))) k
theorem bX12_goesThrough_16 {d : Nat} {g : xSt} {r : Option Value × xSt} {a1 a3 : Int32} (k1 : a3 < 0 → xX (d + 1) mX12_goesThrough 98 [none, none, none, none, none, none] [] g = some r) (k2 : ¬ (a3 < 0) → xX (d + 1) mX12_goesThrough 20 [some (.ref 113), some (.int a1), none, some (.int a3), none, none] [] g = some r) : xX (d + 1) mX12_goesThrough 16 [some (.ref 113), some (.int a1), none, some (.int a3), none, none] [] g = some r :=
  Y_iload_n dX12_goesThrough_16 rfl <| Y_lt0 98 dX12_goesThrough_17 rfl (fun q => X_le (xle_n (xle_n (xle_n (xle_n (xle_n (xle_n xle_0)))))) (k1 q)) (fun q => X_le (xle_s (xle_s (xle_n (xle_s (xle_n (xle_n xle_0)))))) (k2 q))
theorem bX12_goesThrough_20 {d : Nat} {g : xSt} {r : Option Value × xSt} {a1 a3 r39 : Int32} {g39 : xSt} (W : xWf g) (hi26 : vp_in a1 541) (hi32 : vp_in a3 120) (hi38 : vp_in a3 120) (hk39 : xCallM d mX12_saidBy [.ref 113, .int (xI g 145 a1.toNatClampNeg), .int (xI g 129 a3.toNatClampNeg), .int (xI g 130 a3.toNatClampNeg)] g = some (some (.int r39), g39)) (W39 : xWf g39) (k1 : r39 = 0 → xX (d + 1) mX12_goesThrough 49 [some (.ref 113), some (.int a1), none, some (.int a3), none, none] [] g39 = some r) (k2 : ¬ (r39 = 0) → xX (d + 1) mX12_goesThrough 53 [some (.ref 113), some (.int a1), none, some (.int a3), some (.int r39), none] [] g39 = some r) : xX (d + 1) mX12_goesThrough 20 [some (.ref 113), some (.int a1), none, some (.int a3), none, none] [] g = some r :=
  Y_aload_n dX12_goesThrough_20 rfl <| Y_aload_n dX12_goesThrough_21 rfl <| Y_getR dX12_goesThrough_22 f_11_110 (by rw [ft_11_48]; rfl) (xis W 113 11 s_113 (Nat.le_of_ble_eq_true rfl)) (xptr W 113 48 p_113_48) <| Y_iload_n dX12_goesThrough_25 rfl <| Y_iald dX12_goesThrough_26 (xarr W (o := 145) s_145 (Nat.le_of_ble_eq_true rfl)) hi26 <| Y_aload_n dX12_goesThrough_27 rfl <| Y_getR dX12_goesThrough_28 f_11_62 (by rw [ft_11_24]; rfl) (xis W 113 11 s_113 (Nat.le_of_ble_eq_true rfl)) (xptr W 113 24 p_113_24) <| Y_iload_n dX12_goesThrough_31 rfl <| Y_iald dX12_goesThrough_32 (xarr W (o := 129) s_129 (Nat.le_of_ble_eq_true rfl)) hi32 <| Y_aload_n dX12_goesThrough_33 rfl <| Y_getR dX12_goesThrough_34 f_11_65 (by rw [ft_11_25]; rfl) (xis W 113 11 s_113 (Nat.le_of_ble_eq_true rfl)) (xptr W 113 25 p_113_25) <| Y_iload_n dX12_goesThrough_37 rfl <| Y_iald dX12_goesThrough_38 (xarr W (o := 130) s_130 (Nat.le_of_ble_eq_true rfl)) hi38 <| Y_callV1 dX12_goesThrough_39 cl_11_404 rfl rfl (xis W 113 11 s_113 (Nat.le_of_ble_eq_true rfl)) rfl rfl rfl (hk39) <| Y_istore dX12_goesThrough_42 rfl rfl <| Y_iload dX12_goesThrough_44 rfl <| Y_ne0 53 dX12_goesThrough_46 rfl (fun q => X_le (xle_s (xle_s (xle_n (xle_s (xle_n (xle_n xle_0)))))) (k1 q)) (fun q => X_le (xle_s (xle_s (xle_n (xle_s (xle_s (xle_n xle_0)))))) (k2 q))
theorem bX12_goesThrough_49 {d : Nat} {g : xSt} {r : Option Value × xSt} {a1 a3 : Int32} (k : xX (d + 1) mX12_goesThrough 57 [some (.ref 113), some (.int a1), none, some (.int a3), none, none] [.int 2] g = some r) : xX (d + 1) mX12_goesThrough 49 [some (.ref 113), some (.int a1), none, some (.int a3), none, none] [] g = some r :=
  Y_iconst 2 dX12_goesThrough_49 ic_2 <| Y_goto 57 dX12_goesThrough_50 rfl <| X_le (xle_s (xle_s (xle_n (xle_s (xle_n (xle_n xle_0)))))) k
theorem bX12_goesThrough_53 {d : Nat} {g : xSt} {r : Option Value × xSt} {a1 a3 a4 : Int32} (k : xX (d + 1) mX12_goesThrough 57 [some (.ref 113), some (.int a1), none, some (.int a3), none, none] [.int (a4 - 1)] g = some r) : xX (d + 1) mX12_goesThrough 53 [some (.ref 113), some (.int a1), none, some (.int a3), some (.int a4), none] [] g = some r :=
  Y_iload dX12_goesThrough_53 rfl <| Y_iconst 1 dX12_goesThrough_55 ic_1 <| Y_isub dX12_goesThrough_56 <| X_le (xle_s (xle_s (xle_n (xle_s (xle_n (xle_n xle_0)))))) k
theorem bX12_goesThrough_57 {d : Nat} {g : xSt} {r : Option Value × xSt} {a1 a3 s0 : Int32} (W : xWf g) (hi72 : vp_in a1 541) (hi83 : vp_in ((3 * a3) + s0) 360) (hi91 : vp_in a1 541) (hi94 : vp_in a1 541) (k : xX (d + 1) mX12_goesThrough 16 [some (.ref 113), some (.int a1), none, some (.int (xI g 131 ((3 * a3) + s0).toNatClampNeg)), none, none] [] (xWI (xWI g 147 a1.toNatClampNeg (((3 * a3) + s0) + 1)) 148 a1.toNatClampNeg ((xI g 148 a1.toNatClampNeg) + 1)) = some r) : xX (d + 1) mX12_goesThrough 57 [some (.ref 113), some (.int a1), none, some (.int a3), none, none] [.int s0] g = some r :=
  Y_istore dX12_goesThrough_57 rfl rfl <| Y_aload_n dX12_goesThrough_59 rfl <| Y_getR dX12_goesThrough_60 f_11_116 (by rw [ft_11_50]; rfl) (xis W 113 11 s_113 (Nat.le_of_ble_eq_true rfl)) (xptr W 113 50 p_113_50) <| Y_iload_n dX12_goesThrough_63 rfl <| Y_iconst 3 dX12_goesThrough_64 ic_3 <| Y_iload_n dX12_goesThrough_65 rfl <| Y_imul dX12_goesThrough_66 <| Y_iload dX12_goesThrough_67 rfl <| Y_iadd dX12_goesThrough_69 <| Y_iconst 1 dX12_goesThrough_70 ic_1 <| Y_iadd dX12_goesThrough_71 <| Y_iast dX12_goesThrough_72 (xarr W (o := 147) s_147 (Nat.le_of_ble_eq_true rfl)) hi72 <| Y_aload_n dX12_goesThrough_73 rfl <| Y_getR dX12_goesThrough_74 f_11_68 (by rw [ft_11_26]; rfl) (xis W 113 11 s_113 (Nat.le_of_ble_eq_true rfl)) (xptr W 113 26 p_113_26) <| Y_iconst 3 dX12_goesThrough_77 ic_3 <| Y_iload_n dX12_goesThrough_78 rfl <| Y_imul dX12_goesThrough_79 <| Y_iload dX12_goesThrough_80 rfl <| Y_iadd dX12_goesThrough_82 <| Y_iald dX12_goesThrough_83 (xarr W (o := 131) s_131 (Nat.le_of_ble_eq_true rfl)) hi83 <| Y_istore_n dX12_goesThrough_84 rfl rfl <| Y_aload_n dX12_goesThrough_85 rfl <| Y_getR dX12_goesThrough_86 f_11_119 (by rw [ft_11_51]; rfl) (xis W 113 11 s_113 (Nat.le_of_ble_eq_true rfl)) (xptr W 113 51 p_113_51) <| Y_iload_n dX12_goesThrough_89 rfl <| Y_dup2 dX12_goesThrough_90 rfl rfl <| Y_iald dX12_goesThrough_91 (xarr W (o := 148) s_148 (Nat.le_of_ble_eq_true rfl)) hi91 <| Y_iconst 1 dX12_goesThrough_92 ic_1 <| Y_iadd dX12_goesThrough_93 <| Y_iast dX12_goesThrough_94 (xarr W (o := 148) s_148 (Nat.le_of_ble_eq_true rfl)) hi94 <| Y_goto 16 dX12_goesThrough_95 rfl <| X_le (xle_s (xle_s (xle_n (xle_s (xle_n (xle_n xle_0)))))) k
theorem bX12_goesThrough_98 {d : Nat} {g : xSt} {r : Option Value × xSt}  (k : r = (none, g)) : xX (d + 1) mX12_goesThrough 98 [none, none, none, none, none, none] [] g = some r :=
  Y_ret dX12_goesThrough_98 rfl k
theorem bX12_atOnce_0 {d : Nat} {g : xSt} {r : Option Value × xSt} {a1 a2 a3 r3 : Int32} {g3 : xSt} (W : xWf g) (hk3 : xCallM d mX12_isGoal [.ref 113, .int a1, .int a2] g = some (some (.int r3), g3)) (W3 : xWf g3) (k1 : r3 = 0 → xX (d + 1) mX12_atOnce 9 [none, none, none, none, none, none, none] [] g3 = some r) (k2 : ¬ (r3 = 0) → xX (d + 1) mX12_atOnce 11 [some (.ref 113), some (.int a1), some (.int a2), some (.int a3), none, none, none] [] g3 = some r) : xX (d + 1) mX12_atOnce 0 [some (.ref 113), some (.int a1), some (.int a2), some (.int a3), none, none, none] [] g = some r :=
  Y_aload_n dX12_atOnce_0 rfl <| Y_iload_n dX12_atOnce_1 rfl <| Y_iload_n dX12_atOnce_2 rfl <| Y_callV1 dX12_atOnce_3 cl_11_508 rfl rfl (xis W 113 11 s_113 (Nat.le_of_ble_eq_true rfl)) rfl rfl rfl (hk3) <| Y_ne0 11 dX12_atOnce_6 rfl (fun q => X_le (xle_n (xle_n (xle_n (xle_n (xle_n (xle_n (xle_n xle_0))))))) (k1 q)) (fun q => X_le (xle_s (xle_s (xle_s (xle_s (xle_n (xle_n (xle_n xle_0))))))) (k2 q))
theorem bX12_atOnce_9 {d : Nat} {g : xSt} {r : Option Value × xSt}  (k : r = (some (.int (-1)), g)) : xX (d + 1) mX12_atOnce 9 [none, none, none, none, none, none, none] [] g = some r :=
  Y_iconst (-1) dX12_atOnce_9 ic_m1 <| Y_iret dX12_atOnce_10 rfl k
theorem bX12_atOnce_11 {d : Nat} {g : xSt} {r : Option Value × xSt} {a1 a2 a3 r15 : Int32} {g15 : xSt} (W : xWf g) (hk15 : xCallM d mX12_layGoal [.ref 113, .int a1, .int a2, .int a3] g = some (some (.int r15), g15)) (W15 : xWf g15) (k1 : r15 = 0 → xX (d + 1) mX12_atOnce 21 [none, none, none, none, none, none, none] [] g15 = some r) (k2 : ¬ (r15 = 0) → xX (d + 1) mX12_atOnce 24 [some (.ref 113), none, none, none, none, none, none] [] g15 = some r) : xX (d + 1) mX12_atOnce 11 [some (.ref 113), some (.int a1), some (.int a2), some (.int a3), none, none, none] [] g = some r :=
  Y_aload_n dX12_atOnce_11 rfl <| Y_iload_n dX12_atOnce_12 rfl <| Y_iload_n dX12_atOnce_13 rfl <| Y_iload_n dX12_atOnce_14 rfl <| Y_callV1 dX12_atOnce_15 cl_11_511 rfl rfl (xis W 113 11 s_113 (Nat.le_of_ble_eq_true rfl)) rfl rfl rfl (hk15) <| Y_ne0 24 dX12_atOnce_18 rfl (fun q => X_le (xle_n (xle_n (xle_n (xle_n (xle_n (xle_n (xle_n xle_0))))))) (k1 q)) (fun q => X_le (xle_s (xle_n (xle_n (xle_n (xle_n (xle_n (xle_n xle_0))))))) (k2 q))
theorem bX12_atOnce_21 {d : Nat} {g : xSt} {r : Option Value × xSt}  (k : r = (some (.int (-2)), g)) : xX (d + 1) mX12_atOnce 21 [none, none, none, none, none, none, none] [] g = some r :=
  Y_bipush (-2) dX12_atOnce_21 bp_m2 <| Y_iret dX12_atOnce_23 rfl k
theorem bX12_atOnce_24 {d : Nat} {g : xSt} {r : Option Value × xSt}  (W : xWf g) (k : xX (d + 1) mX12_atOnce 37 [some (.ref 113), none, none, none, some (.int ((1 <<< ((xI g 113 59) &&& 31)) - 1)), some (.int 0), none] [] g = some r) : xX (d + 1) mX12_atOnce 24 [some (.ref 113), none, none, none, none, none, none] [] g = some r :=
  Y_iconst 1 dX12_atOnce_24 ic_1 <| Y_aload_n dX12_atOnce_25 rfl <| Y_getI dX12_atOnce_26 f_11_439 ft_11_59 (xis W 113 11 s_113 (Nat.le_of_ble_eq_true rfl)) <| Y_ishl dX12_atOnce_29 <| Y_iconst 1 dX12_atOnce_30 ic_1 <| Y_isub dX12_atOnce_31 <| Y_istore dX12_atOnce_32 rfl rfl <| Y_iconst 0 dX12_atOnce_34 ic_0 <| Y_istore dX12_atOnce_35 rfl rfl <| X_le (xle_s (xle_n (xle_n (xle_n (xle_s (xle_s (xle_n xle_0))))))) k
theorem bX12_atOnce_37 {d : Nat} {g : xSt} {r : Option Value × xSt} {a4 a5 : Int32} (k1 : a4 < a5 → xX (d + 1) mX12_atOnce 58 [some (.ref 113), none, none, none, some (.int a4), none, none] [] g = some r) (k2 : ¬ (a4 < a5) → xX (d + 1) mX12_atOnce 44 [some (.ref 113), none, none, none, some (.int a4), some (.int a5), none] [] g = some r) : xX (d + 1) mX12_atOnce 37 [some (.ref 113), none, none, none, some (.int a4), some (.int a5), none] [] g = some r :=
  Y_iload dX12_atOnce_37 rfl <| Y_iload dX12_atOnce_39 rfl <| Y_gt 58 dX12_atOnce_41 rfl (fun q => X_le (xle_s (xle_n (xle_n (xle_n (xle_s (xle_n (xle_n xle_0))))))) (k1 q)) (fun q => X_le (xle_s (xle_n (xle_n (xle_n (xle_s (xle_s (xle_n xle_0))))))) (k2 q))
theorem bX12_atOnce_44 {d : Nat} {g : xSt} {r : Option Value × xSt} {a4 a5 : Int32} (W : xWf g) (hi51 : vp_in a5 1024) (k : xX (d + 1) mX12_atOnce 37 [some (.ref 113), none, none, none, some (.int a4), some (.int (a5 + 1)), none] [] (xWI g 164 a5.toNatClampNeg 0) = some r) : xX (d + 1) mX12_atOnce 44 [some (.ref 113), none, none, none, some (.int a4), some (.int a5), none] [] g = some r :=
  Y_aload_n dX12_atOnce_44 rfl <| Y_getR dX12_atOnce_45 f_11_167 (by rw [ft_11_73]; rfl) (xis W 113 11 s_113 (Nat.le_of_ble_eq_true rfl)) (xptr W 113 73 p_113_73) <| Y_iload dX12_atOnce_48 rfl <| Y_iconst 0 dX12_atOnce_50 ic_0 <| Y_zast dX12_atOnce_51 (xarr W (o := 164) s_164 (Nat.le_of_ble_eq_true rfl)) hi51 (by decide) <| Y_iinc 1 dX12_atOnce_52 rfl ic_1 rfl rfl <| Y_goto 37 dX12_atOnce_55 rfl <| X_le (xle_s (xle_n (xle_n (xle_n (xle_s (xle_s (xle_n xle_0))))))) k
theorem bX12_atOnce_58 {d : Nat} {g : xSt} {r : Option Value × xSt} {a4 : Int32} (k : xX (d + 1) mX12_atOnce 61 [some (.ref 113), none, none, none, some (.int a4), some (.int 0), none] [] g = some r) : xX (d + 1) mX12_atOnce 58 [some (.ref 113), none, none, none, some (.int a4), none, none] [] g = some r :=
  Y_iconst 0 dX12_atOnce_58 ic_0 <| Y_istore dX12_atOnce_59 rfl rfl <| X_le (xle_s (xle_n (xle_n (xle_n (xle_s (xle_s (xle_n xle_0))))))) k
theorem bX12_atOnce_61 {d : Nat} {g : xSt} {r : Option Value × xSt} {a4 a5 : Int32} (W : xWf g) (k1 : (xI g 113 53) ≤ a5 → xX (d + 1) mX12_atOnce 128 [some (.ref 113), none, none, none, some (.int a4), none, none] [] g = some r) (k2 : ¬ ((xI g 113 53) ≤ a5) → xX (d + 1) mX12_atOnce 70 [some (.ref 113), none, none, none, some (.int a4), some (.int a5), none] [] g = some r) : xX (d + 1) mX12_atOnce 61 [some (.ref 113), none, none, none, some (.int a4), some (.int a5), none] [] g = some r :=
  Y_iload dX12_atOnce_61 rfl <| Y_aload_n dX12_atOnce_63 rfl <| Y_getI dX12_atOnce_64 f_11_408 ft_11_53 (xis W 113 11 s_113 (Nat.le_of_ble_eq_true rfl)) <| Y_ge 128 dX12_atOnce_67 rfl (fun q => X_le (xle_s (xle_n (xle_n (xle_n (xle_s (xle_n (xle_n xle_0))))))) (k1 q)) (fun q => X_le (xle_s (xle_n (xle_n (xle_n (xle_s (xle_s (xle_n xle_0))))))) (k2 q))
theorem bX12_atOnce_70 {d : Nat} {g : xSt} {r : Option Value × xSt} {a4 a5 : Int32} (k : xX (d + 1) mX12_atOnce 73 [some (.ref 113), none, none, none, some (.int a4), some (.int a5), some (.int 0)] [] g = some r) : xX (d + 1) mX12_atOnce 70 [some (.ref 113), none, none, none, some (.int a4), some (.int a5), none] [] g = some r :=
  Y_iconst 0 dX12_atOnce_70 ic_0 <| Y_istore dX12_atOnce_71 rfl rfl <| X_le (xle_s (xle_n (xle_n (xle_n (xle_s (xle_s (xle_s xle_0))))))) k
theorem bX12_atOnce_73 {d : Nat} {g : xSt} {r : Option Value × xSt} {a4 a5 a6 : Int32} (k1 : a5 ≤ a6 → xX (d + 1) mX12_atOnce 122 [some (.ref 113), none, none, none, some (.int a4), some (.int a5), none] [] g = some r) (k2 : ¬ (a5 ≤ a6) → xX (d + 1) mX12_atOnce 80 [some (.ref 113), none, none, none, some (.int a4), some (.int a5), some (.int a6)] [] g = some r) : xX (d + 1) mX12_atOnce 73 [some (.ref 113), none, none, none, some (.int a4), some (.int a5), some (.int a6)] [] g = some r :=
  Y_iload dX12_atOnce_73 rfl <| Y_iload dX12_atOnce_75 rfl <| Y_ge 122 dX12_atOnce_77 rfl (fun q => X_le (xle_s (xle_n (xle_n (xle_n (xle_s (xle_s (xle_n xle_0))))))) (k1 q)) (fun q => X_le (xle_s (xle_n (xle_n (xle_n (xle_s (xle_s (xle_s xle_0))))))) (k2 q))
theorem bX12_atOnce_80 {d : Nat} {g : xSt} {r : Option Value × xSt} {a4 a5 a6 : Int32} (W : xWf g) (hi86 : vp_in a5 541) (hi93 : vp_in a6 541) (k1 : (xI g 146 a5.toNatClampNeg) = (xI g 146 a6.toNatClampNeg) → xX (d + 1) mX12_atOnce 116 [some (.ref 113), none, none, none, some (.int a4), some (.int a5), some (.int a6)] [] g = some r) (k2 : ¬ ((xI g 146 a5.toNatClampNeg) = (xI g 146 a6.toNatClampNeg)) → xX (d + 1) mX12_atOnce 97 [some (.ref 113), none, none, none, some (.int a4), some (.int a5), some (.int a6)] [] g = some r) : xX (d + 1) mX12_atOnce 80 [some (.ref 113), none, none, none, some (.int a4), some (.int a5), some (.int a6)] [] g = some r :=
  Y_aload_n dX12_atOnce_80 rfl <| Y_getR dX12_atOnce_81 f_11_113 (by rw [ft_11_49]; rfl) (xis W 113 11 s_113 (Nat.le_of_ble_eq_true rfl)) (xptr W 113 49 p_113_49) <| Y_iload dX12_atOnce_84 rfl <| Y_iald dX12_atOnce_86 (xarr W (o := 146) s_146 (Nat.le_of_ble_eq_true rfl)) hi86 <| Y_aload_n dX12_atOnce_87 rfl <| Y_getR dX12_atOnce_88 f_11_113 (by rw [ft_11_49]; rfl) (xis W 113 11 s_113 (Nat.le_of_ble_eq_true rfl)) (xptr W 113 49 p_113_49) <| Y_iload dX12_atOnce_91 rfl <| Y_iald dX12_atOnce_93 (xarr W (o := 146) s_146 (Nat.le_of_ble_eq_true rfl)) hi93 <| Y_eq 116 dX12_atOnce_94 rfl (fun q => X_le (xle_s (xle_n (xle_n (xle_n (xle_s (xle_s (xle_s xle_0))))))) (k1 q)) (fun q => X_le (xle_s (xle_n (xle_n (xle_n (xle_s (xle_s (xle_s xle_0))))))) (k2 q))
theorem bX12_atOnce_97 {d : Nat} {g : xSt} {r : Option Value × xSt} {a4 a5 a6 r108 : Int32} {g108 : xSt} (W : xWf g) (hk108 : xCallM d mX12_unlikeBy [.ref 113, .int a5, .int a6] g = some (some (.int r108), g108)) (W108 : xWf g108) (hi115 : vp_in (a4 &&& (r108 ^^^ (-1))) 1024) (k : xX (d + 1) mX12_atOnce 116 [some (.ref 113), none, none, none, some (.int a4), some (.int a5), some (.int a6)] [] (xWI g108 164 (a4 &&& (r108 ^^^ (-1))).toNatClampNeg 1) = some r) : xX (d + 1) mX12_atOnce 97 [some (.ref 113), none, none, none, some (.int a4), some (.int a5), some (.int a6)] [] g = some r :=
  Y_aload_n dX12_atOnce_97 rfl <| Y_getR dX12_atOnce_98 f_11_167 (by rw [ft_11_73]; rfl) (xis W 113 11 s_113 (Nat.le_of_ble_eq_true rfl)) (xptr W 113 73 p_113_73) <| Y_iload dX12_atOnce_101 rfl <| Y_aload_n dX12_atOnce_103 rfl <| Y_iload dX12_atOnce_104 rfl <| Y_iload dX12_atOnce_106 rfl <| Y_callV1 dX12_atOnce_108 cl_11_527 rfl rfl (xis W 113 11 s_113 (Nat.le_of_ble_eq_true rfl)) rfl rfl rfl (hk108) <| Y_iconst (-1) dX12_atOnce_111 ic_m1 <| Y_ixor dX12_atOnce_112 <| Y_iand dX12_atOnce_113 <| Y_iconst 1 dX12_atOnce_114 ic_1 <| Y_zast dX12_atOnce_115 (xarr W108 (o := 164) s_164 (Nat.le_of_ble_eq_true rfl)) hi115 (by decide) <| X_le (xle_s (xle_n (xle_n (xle_n (xle_s (xle_s (xle_s xle_0))))))) k
theorem bX12_atOnce_116 {d : Nat} {g : xSt} {r : Option Value × xSt} {a4 a5 a6 : Int32} (k : xX (d + 1) mX12_atOnce 73 [some (.ref 113), none, none, none, some (.int a4), some (.int a5), some (.int (a6 + 1))] [] g = some r) : xX (d + 1) mX12_atOnce 116 [some (.ref 113), none, none, none, some (.int a4), some (.int a5), some (.int a6)] [] g = some r :=
  Y_iinc 1 dX12_atOnce_116 rfl ic_1 rfl rfl <| Y_goto 73 dX12_atOnce_119 rfl <| X_le (xle_s (xle_n (xle_n (xle_n (xle_s (xle_s (xle_s xle_0))))))) k
theorem bX12_atOnce_122 {d : Nat} {g : xSt} {r : Option Value × xSt} {a4 a5 : Int32} (k : xX (d + 1) mX12_atOnce 61 [some (.ref 113), none, none, none, some (.int a4), some (.int (a5 + 1)), none] [] g = some r) : xX (d + 1) mX12_atOnce 122 [some (.ref 113), none, none, none, some (.int a4), some (.int a5), none] [] g = some r :=
  Y_iinc 1 dX12_atOnce_122 rfl ic_1 rfl rfl <| Y_goto 61 dX12_atOnce_125 rfl <| X_le (xle_s (xle_n (xle_n (xle_n (xle_s (xle_s (xle_n xle_0))))))) k
theorem bX12_atOnce_128 {d : Nat} {g : xSt} {r : Option Value × xSt} {a4 : Int32} (k : xX (d + 1) mX12_atOnce 132 [some (.ref 113), none, none, none, some (.int a4), some (.int a4), none] [] g = some r) : xX (d + 1) mX12_atOnce 128 [some (.ref 113), none, none, none, some (.int a4), none, none] [] g = some r :=
  Y_iload dX12_atOnce_128 rfl <| Y_istore dX12_atOnce_130 rfl rfl <| X_le (xle_s (xle_n (xle_n (xle_n (xle_s (xle_s (xle_n xle_0))))))) k
theorem bX12_atOnce_132 {d : Nat} {g : xSt} {r : Option Value × xSt} {a4 a5 : Int32} (k1 : a5 < 0 → xX (d + 1) mX12_atOnce 197 [some (.ref 113), none, none, none, some (.int a4), none, none] [] g = some r) (k2 : ¬ (a5 < 0) → xX (d + 1) mX12_atOnce 137 [some (.ref 113), none, none, none, some (.int a4), some (.int a5), none] [] g = some r) : xX (d + 1) mX12_atOnce 132 [some (.ref 113), none, none, none, some (.int a4), some (.int a5), none] [] g = some r :=
  Y_iload dX12_atOnce_132 rfl <| Y_lt0 197 dX12_atOnce_134 rfl (fun q => X_le (xle_s (xle_n (xle_n (xle_n (xle_s (xle_n (xle_n xle_0))))))) (k1 q)) (fun q => X_le (xle_s (xle_n (xle_n (xle_n (xle_s (xle_s (xle_n xle_0))))))) (k2 q))
theorem bX12_atOnce_137 {d : Nat} {g : xSt} {r : Option Value × xSt} {a4 a5 : Int32} (k : xX (d + 1) mX12_atOnce 140 [some (.ref 113), none, none, none, some (.int a4), some (.int a5), some (.int 0)] [] g = some r) : xX (d + 1) mX12_atOnce 137 [some (.ref 113), none, none, none, some (.int a4), some (.int a5), none] [] g = some r :=
  Y_iconst 0 dX12_atOnce_137 ic_0 <| Y_istore dX12_atOnce_138 rfl rfl <| X_le (xle_s (xle_n (xle_n (xle_n (xle_s (xle_s (xle_s xle_0))))))) k
theorem bX12_atOnce_140 {d : Nat} {g : xSt} {r : Option Value × xSt} {a4 a5 a6 : Int32} (W : xWf g) (k1 : (xI g 113 59) ≤ a6 → xX (d + 1) mX12_atOnce 191 [some (.ref 113), none, none, none, some (.int a4), some (.int a5), none] [] g = some r) (k2 : ¬ ((xI g 113 59) ≤ a6) → xX (d + 1) mX12_atOnce 149 [some (.ref 113), none, none, none, some (.int a4), some (.int a5), some (.int a6)] [] g = some r) : xX (d + 1) mX12_atOnce 140 [some (.ref 113), none, none, none, some (.int a4), some (.int a5), some (.int a6)] [] g = some r :=
  Y_iload dX12_atOnce_140 rfl <| Y_aload_n dX12_atOnce_142 rfl <| Y_getI dX12_atOnce_143 f_11_439 ft_11_59 (xis W 113 11 s_113 (Nat.le_of_ble_eq_true rfl)) <| Y_ge 191 dX12_atOnce_146 rfl (fun q => X_le (xle_s (xle_n (xle_n (xle_n (xle_s (xle_s (xle_n xle_0))))))) (k1 q)) (fun q => X_le (xle_s (xle_n (xle_n (xle_n (xle_s (xle_s (xle_s xle_0))))))) (k2 q))
theorem bX12_atOnce_149 {d : Nat} {g : xSt} {r : Option Value × xSt} {a4 a5 a6 : Int32} (W : xWf g) (hi155 : vp_in a5 1024) (k1 : (xI g 164 a5.toNatClampNeg) = 0 → xX (d + 1) mX12_atOnce 185 [some (.ref 113), none, none, none, some (.int a4), some (.int a5), some (.int a6)] [] g = some r) (k2 : ¬ ((xI g 164 a5.toNatClampNeg) = 0) → xX (d + 1) mX12_atOnce 159 [some (.ref 113), none, none, none, some (.int a4), some (.int a5), some (.int a6)] [] g = some r) : xX (d + 1) mX12_atOnce 149 [some (.ref 113), none, none, none, some (.int a4), some (.int a5), some (.int a6)] [] g = some r :=
  Y_aload_n dX12_atOnce_149 rfl <| Y_getR dX12_atOnce_150 f_11_167 (by rw [ft_11_73]; rfl) (xis W 113 11 s_113 (Nat.le_of_ble_eq_true rfl)) (xptr W 113 73 p_113_73) <| Y_iload dX12_atOnce_153 rfl <| Y_zald dX12_atOnce_155 (xarr W (o := 164) s_164 (Nat.le_of_ble_eq_true rfl)) hi155 <| Y_eq0 185 dX12_atOnce_156 rfl (fun q => X_le (xle_s (xle_n (xle_n (xle_n (xle_s (xle_s (xle_s xle_0))))))) (k1 q)) (fun q => X_le (xle_s (xle_n (xle_n (xle_n (xle_s (xle_s (xle_s xle_0))))))) (k2 q))
theorem bX12_atOnce_159 {d : Nat} {g : xSt} {r : Option Value × xSt} {a4 a5 a6 : Int32} (k1 : ((a5 >>> (a6 &&& 31)) &&& 1) = 1 → xX (d + 1) mX12_atOnce 170 [some (.ref 113), none, none, none, some (.int a4), some (.int a5), some (.int a6)] [] g = some r) (k2 : ¬ (((a5 >>> (a6 &&& 31)) &&& 1) = 1) → xX (d + 1) mX12_atOnce 185 [some (.ref 113), none, none, none, some (.int a4), some (.int a5), some (.int a6)] [] g = some r) : xX (d + 1) mX12_atOnce 159 [some (.ref 113), none, none, none, some (.int a4), some (.int a5), some (.int a6)] [] g = some r :=
  Y_iload dX12_atOnce_159 rfl <| Y_iload dX12_atOnce_161 rfl <| Y_ishr dX12_atOnce_163 <| Y_iconst 1 dX12_atOnce_164 ic_1 <| Y_iand dX12_atOnce_165 <| Y_iconst 1 dX12_atOnce_166 ic_1 <| Y_ne 185 dX12_atOnce_167 rfl (fun q => X_le (xle_s (xle_n (xle_n (xle_n (xle_s (xle_s (xle_s xle_0))))))) (k1 q)) (fun q => X_le (xle_s (xle_n (xle_n (xle_n (xle_s (xle_s (xle_s xle_0))))))) (k2 q))
theorem bX12_atOnce_170 {d : Nat} {g : xSt} {r : Option Value × xSt} {a4 a5 a6 : Int32} (W : xWf g) (hi184 : vp_in (a5 &&& ((1 <<< (a6 &&& 31)) ^^^ (-1))) 1024) (k : xX (d + 1) mX12_atOnce 185 [some (.ref 113), none, none, none, some (.int a4), some (.int a5), some (.int a6)] [] (xWI g 164 (a5 &&& ((1 <<< (a6 &&& 31)) ^^^ (-1))).toNatClampNeg 1) = some r) : xX (d + 1) mX12_atOnce 170 [some (.ref 113), none, none, none, some (.int a4), some (.int a5), some (.int a6)] [] g = some r :=
  Y_aload_n dX12_atOnce_170 rfl <| Y_getR dX12_atOnce_171 f_11_167 (by rw [ft_11_73]; rfl) (xis W 113 11 s_113 (Nat.le_of_ble_eq_true rfl)) (xptr W 113 73 p_113_73) <| Y_iload dX12_atOnce_174 rfl <| Y_iconst 1 dX12_atOnce_176 ic_1 <| Y_iload dX12_atOnce_177 rfl <| Y_ishl dX12_atOnce_179 <| Y_iconst (-1) dX12_atOnce_180 ic_m1 <| Y_ixor dX12_atOnce_181 <| Y_iand dX12_atOnce_182 <| Y_iconst 1 dX12_atOnce_183 ic_1 <| Y_zast dX12_atOnce_184 (xarr W (o := 164) s_164 (Nat.le_of_ble_eq_true rfl)) hi184 (by decide) <| X_le (xle_s (xle_n (xle_n (xle_n (xle_s (xle_s (xle_s xle_0))))))) k
theorem bX12_atOnce_185 {d : Nat} {g : xSt} {r : Option Value × xSt} {a4 a5 a6 : Int32} (k : xX (d + 1) mX12_atOnce 140 [some (.ref 113), none, none, none, some (.int a4), some (.int a5), some (.int (a6 + 1))] [] g = some r) : xX (d + 1) mX12_atOnce 185 [some (.ref 113), none, none, none, some (.int a4), some (.int a5), some (.int a6)] [] g = some r :=
  Y_iinc 1 dX12_atOnce_185 rfl ic_1 rfl rfl <| Y_goto 140 dX12_atOnce_188 rfl <| X_le (xle_s (xle_n (xle_n (xle_n (xle_s (xle_s (xle_s xle_0))))))) k
theorem bX12_atOnce_191 {d : Nat} {g : xSt} {r : Option Value × xSt} {a4 a5 : Int32} (k : xX (d + 1) mX12_atOnce 132 [some (.ref 113), none, none, none, some (.int a4), some (.int (a5 + (-1))), none] [] g = some r) : xX (d + 1) mX12_atOnce 191 [some (.ref 113), none, none, none, some (.int a4), some (.int a5), none] [] g = some r :=
  Y_iinc (-1) dX12_atOnce_191 rfl ic_m1 rfl rfl <| Y_goto 132 dX12_atOnce_194 rfl <| X_le (xle_s (xle_n (xle_n (xle_n (xle_s (xle_s (xle_n xle_0))))))) k
theorem bX12_atOnce_197 {d : Nat} {g : xSt} {r : Option Value × xSt} {a4 : Int32} (k : xX (d + 1) mX12_atOnce 203 [some (.ref 113), none, none, none, some (.int a4), some (.int (-1)), some (.int 0)] [] g = some r) : xX (d + 1) mX12_atOnce 197 [some (.ref 113), none, none, none, some (.int a4), none, none] [] g = some r :=
  Y_iconst (-1) dX12_atOnce_197 ic_m1 <| Y_istore dX12_atOnce_198 rfl rfl <| Y_iconst 0 dX12_atOnce_200 ic_0 <| Y_istore dX12_atOnce_201 rfl rfl <| X_le (xle_s (xle_n (xle_n (xle_n (xle_s (xle_s (xle_s xle_0))))))) k
theorem bX12_atOnce_203 {d : Nat} {g : xSt} {r : Option Value × xSt} {a4 a5 a6 : Int32} (k1 : a4 < a6 → xX (d + 1) mX12_atOnce 248 [none, none, none, none, none, some (.int a5), none] [] g = some r) (k2 : ¬ (a4 < a6) → xX (d + 1) mX12_atOnce 210 [some (.ref 113), none, none, none, some (.int a4), some (.int a5), some (.int a6)] [] g = some r) : xX (d + 1) mX12_atOnce 203 [some (.ref 113), none, none, none, some (.int a4), some (.int a5), some (.int a6)] [] g = some r :=
  Y_iload dX12_atOnce_203 rfl <| Y_iload dX12_atOnce_205 rfl <| Y_gt 248 dX12_atOnce_207 rfl (fun q => X_le (xle_n (xle_n (xle_n (xle_n (xle_n (xle_s (xle_n xle_0))))))) (k1 q)) (fun q => X_le (xle_s (xle_n (xle_n (xle_n (xle_s (xle_s (xle_s xle_0))))))) (k2 q))
theorem bX12_atOnce_210 {d : Nat} {g : xSt} {r : Option Value × xSt} {a4 a5 a6 : Int32} (W : xWf g) (hi216 : vp_in a6 1024) (k1 : (xI g 164 a6.toNatClampNeg) = 0 → xX (d + 1) mX12_atOnce 220 [some (.ref 113), none, none, none, some (.int a4), some (.int a5), some (.int a6)] [] g = some r) (k2 : ¬ ((xI g 164 a6.toNatClampNeg) = 0) → xX (d + 1) mX12_atOnce 242 [some (.ref 113), none, none, none, some (.int a4), some (.int a5), some (.int a6)] [] g = some r) : xX (d + 1) mX12_atOnce 210 [some (.ref 113), none, none, none, some (.int a4), some (.int a5), some (.int a6)] [] g = some r :=
  Y_aload_n dX12_atOnce_210 rfl <| Y_getR dX12_atOnce_211 f_11_167 (by rw [ft_11_73]; rfl) (xis W 113 11 s_113 (Nat.le_of_ble_eq_true rfl)) (xptr W 113 73 p_113_73) <| Y_iload dX12_atOnce_214 rfl <| Y_zald dX12_atOnce_216 (xarr W (o := 164) s_164 (Nat.le_of_ble_eq_true rfl)) hi216 <| Y_ne0 242 dX12_atOnce_217 rfl (fun q => X_le (xle_s (xle_n (xle_n (xle_n (xle_s (xle_s (xle_s xle_0))))))) (k1 q)) (fun q => X_le (xle_s (xle_n (xle_n (xle_n (xle_s (xle_s (xle_s xle_0))))))) (k2 q))
theorem bX12_atOnce_220 {d : Nat} {g : xSt} {r : Option Value × xSt} {a4 a5 a6 : Int32} (k1 : a5 < 0 → xX (d + 1) mX12_atOnce 238 [some (.ref 113), none, none, none, some (.int a4), none, some (.int a6)] [] g = some r) (k2 : ¬ (a5 < 0) → xX (d + 1) mX12_atOnce 225 [some (.ref 113), none, none, none, some (.int a4), some (.int a5), some (.int a6)] [] g = some r) : xX (d + 1) mX12_atOnce 220 [some (.ref 113), none, none, none, some (.int a4), some (.int a5), some (.int a6)] [] g = some r :=
  Y_iload dX12_atOnce_220 rfl <| Y_lt0 238 dX12_atOnce_222 rfl (fun q => X_le (xle_s (xle_n (xle_n (xle_n (xle_s (xle_n (xle_s xle_0))))))) (k1 q)) (fun q => X_le (xle_s (xle_n (xle_n (xle_n (xle_s (xle_s (xle_s xle_0))))))) (k2 q))
theorem bX12_atOnce_225 {d : Nat} {g : xSt} {r : Option Value × xSt} {a4 a5 a6 r227 r232 : Int32} {g227 g232 : xSt} (hk227 : xCallM d mX12_bitsOf [.int a6] g = some (some (.int r227), g227)) (W227 : xWf g227) (hk232 : xCallM d mX12_bitsOf [.int a5] g227 = some (some (.int r232), g232)) (W232 : xWf g232) (k1 : r232 ≤ r227 → xX (d + 1) mX12_atOnce 242 [some (.ref 113), none, none, none, some (.int a4), some (.int a5), some (.int a6)] [] g232 = some r) (k2 : ¬ (r232 ≤ r227) → xX (d + 1) mX12_atOnce 238 [some (.ref 113), none, none, none, some (.int a4), none, some (.int a6)] [] g232 = some r) : xX (d + 1) mX12_atOnce 225 [some (.ref 113), none, none, none, some (.int a4), some (.int a5), some (.int a6)] [] g = some r :=
  Y_iload dX12_atOnce_225 rfl <| Y_callS1 dX12_atOnce_227 cl_11_392 rfl rfl rfl rfl rfl (hk227) <| Y_iload dX12_atOnce_230 rfl <| Y_callS1 dX12_atOnce_232 cl_11_392 rfl rfl rfl rfl rfl (hk232) <| Y_ge 242 dX12_atOnce_235 rfl (fun q => X_le (xle_s (xle_n (xle_n (xle_n (xle_s (xle_s (xle_s xle_0))))))) (k1 q)) (fun q => X_le (xle_s (xle_n (xle_n (xle_n (xle_s (xle_n (xle_s xle_0))))))) (k2 q))
theorem bX12_atOnce_238 {d : Nat} {g : xSt} {r : Option Value × xSt} {a4 a6 : Int32} (k : xX (d + 1) mX12_atOnce 242 [some (.ref 113), none, none, none, some (.int a4), some (.int a6), some (.int a6)] [] g = some r) : xX (d + 1) mX12_atOnce 238 [some (.ref 113), none, none, none, some (.int a4), none, some (.int a6)] [] g = some r :=
  Y_iload dX12_atOnce_238 rfl <| Y_istore dX12_atOnce_240 rfl rfl <| X_le (xle_s (xle_n (xle_n (xle_n (xle_s (xle_s (xle_s xle_0))))))) k
theorem bX12_atOnce_242 {d : Nat} {g : xSt} {r : Option Value × xSt} {a4 a5 a6 : Int32} (k : xX (d + 1) mX12_atOnce 203 [some (.ref 113), none, none, none, some (.int a4), some (.int a5), some (.int (a6 + 1))] [] g = some r) : xX (d + 1) mX12_atOnce 242 [some (.ref 113), none, none, none, some (.int a4), some (.int a5), some (.int a6)] [] g = some r :=
  Y_iinc 1 dX12_atOnce_242 rfl ic_1 rfl rfl <| Y_goto 203 dX12_atOnce_245 rfl <| X_le (xle_s (xle_n (xle_n (xle_n (xle_s (xle_s (xle_s xle_0))))))) k
theorem bX12_atOnce_248 {d : Nat} {g : xSt} {r : Option Value × xSt} {a5 : Int32} (k : r = (some (.int a5), g)) : xX (d + 1) mX12_atOnce 248 [none, none, none, none, none, some (.int a5), none] [] g = some r :=
  Y_iload dX12_atOnce_248 rfl <| Y_iret dX12_atOnce_250 rfl k
theorem bX12_unlikeBy_0 {d : Nat} {g : xSt} {r : Option Value × xSt} {a1 a2 : Int32} (k : xX (d + 1) mX12_unlikeBy 5 [some (.ref 113), some (.int a1), some (.int a2), some (.int 0), some (.int 0)] [] g = some r) : xX (d + 1) mX12_unlikeBy 0 [some (.ref 113), some (.int a1), some (.int a2), none, none] [] g = some r :=
  Y_iconst 0 dX12_unlikeBy_0 ic_0 <| Y_istore_n dX12_unlikeBy_1 rfl rfl <| Y_iconst 0 dX12_unlikeBy_2 ic_0 <| Y_istore dX12_unlikeBy_3 rfl rfl <| X_le (xle_s (xle_s (xle_s (xle_s (xle_s xle_0))))) k
theorem bX12_unlikeBy_5 {d : Nat} {g : xSt} {r : Option Value × xSt} {a1 a2 a3 a4 : Int32} (W : xWf g) (k1 : (xI g 113 59) ≤ a4 → xX (d + 1) mX12_unlikeBy 78 [none, none, none, some (.int a3), none] [] g = some r) (k2 : ¬ ((xI g 113 59) ≤ a4) → xX (d + 1) mX12_unlikeBy 14 [some (.ref 113), some (.int a1), some (.int a2), some (.int a3), some (.int a4)] [] g = some r) : xX (d + 1) mX12_unlikeBy 5 [some (.ref 113), some (.int a1), some (.int a2), some (.int a3), some (.int a4)] [] g = some r :=
  Y_iload dX12_unlikeBy_5 rfl <| Y_aload_n dX12_unlikeBy_7 rfl <| Y_getI dX12_unlikeBy_8 f_11_439 ft_11_59 (xis W 113 11 s_113 (Nat.le_of_ble_eq_true rfl)) <| Y_ge 78 dX12_unlikeBy_11 rfl (fun q => X_le (xle_n (xle_n (xle_n (xle_s (xle_n xle_0))))) (k1 q)) (fun q => X_le (xle_s (xle_s (xle_s (xle_s (xle_s xle_0))))) (k2 q))
theorem bX12_unlikeBy_14 {d : Nat} {g : xSt} {r : Option Value × xSt} {a1 a2 a3 a4 r35 r59 : Int32} {g35 g59 : xSt} (W : xWf g) (hi20 : vp_in a1 541) (hi27 : vp_in a4 10) (hi34 : vp_in a4 10) (hk35 : xCallM d mX12_saidBy [.ref 113, .int (xI g 145 a1.toNatClampNeg), .int (xI g 150 a4.toNatClampNeg), .int (xI g 151 a4.toNatClampNeg)] g = some (some (.int r35), g35)) (W35 : xWf g35) (hi44 : vp_in a2 541) (hi51 : vp_in a4 10) (hi58 : vp_in a4 10) (hk59 : xCallM d mX12_saidBy [.ref 113, .int (xI g35 145 a2.toNatClampNeg), .int (xI g35 150 a4.toNatClampNeg), .int (xI g35 151 a4.toNatClampNeg)] g35 = some (some (.int r59), g59)) (W59 : xWf g59) (k1 : r35 = r59 → xX (d + 1) mX12_unlikeBy 72 [some (.ref 113), some (.int a1), some (.int a2), some (.int a3), some (.int a4)] [] g59 = some r) (k2 : ¬ (r35 = r59) → xX (d + 1) mX12_unlikeBy 65 [some (.ref 113), some (.int a1), some (.int a2), some (.int a3), some (.int a4)] [] g59 = some r) : xX (d + 1) mX12_unlikeBy 14 [some (.ref 113), some (.int a1), some (.int a2), some (.int a3), some (.int a4)] [] g = some r :=
  Y_aload_n dX12_unlikeBy_14 rfl <| Y_aload_n dX12_unlikeBy_15 rfl <| Y_getR dX12_unlikeBy_16 f_11_110 (by rw [ft_11_48]; rfl) (xis W 113 11 s_113 (Nat.le_of_ble_eq_true rfl)) (xptr W 113 48 p_113_48) <| Y_iload_n dX12_unlikeBy_19 rfl <| Y_iald dX12_unlikeBy_20 (xarr W (o := 145) s_145 (Nat.le_of_ble_eq_true rfl)) hi20 <| Y_aload_n dX12_unlikeBy_21 rfl <| Y_getR dX12_unlikeBy_22 f_11_125 (by rw [ft_11_55]; rfl) (xis W 113 11 s_113 (Nat.le_of_ble_eq_true rfl)) (xptr W 113 55 p_113_55) <| Y_iload dX12_unlikeBy_25 rfl <| Y_iald dX12_unlikeBy_27 (xarr W (o := 150) s_150 (Nat.le_of_ble_eq_true rfl)) hi27 <| Y_aload_n dX12_unlikeBy_28 rfl <| Y_getR dX12_unlikeBy_29 f_11_128 (by rw [ft_11_56]; rfl) (xis W 113 11 s_113 (Nat.le_of_ble_eq_true rfl)) (xptr W 113 56 p_113_56) <| Y_iload dX12_unlikeBy_32 rfl <| Y_iald dX12_unlikeBy_34 (xarr W (o := 151) s_151 (Nat.le_of_ble_eq_true rfl)) hi34 <| Y_callV1 dX12_unlikeBy_35 cl_11_404 rfl rfl (xis W 113 11 s_113 (Nat.le_of_ble_eq_true rfl)) rfl rfl rfl (hk35) <| Y_aload_n dX12_unlikeBy_38 rfl <| Y_aload_n dX12_unlikeBy_39 rfl <| Y_getR dX12_unlikeBy_40 f_11_110 (by rw [ft_11_48]; rfl) (xis W35 113 11 s_113 (Nat.le_of_ble_eq_true rfl)) (xptr W35 113 48 p_113_48) <| Y_iload_n dX12_unlikeBy_43 rfl <| Y_iald dX12_unlikeBy_44 (xarr W35 (o := 145) s_145 (Nat.le_of_ble_eq_true rfl)) hi44 <| Y_aload_n dX12_unlikeBy_45 rfl <| Y_getR dX12_unlikeBy_46 f_11_125 (by rw [ft_11_55]; rfl) (xis W35 113 11 s_113 (Nat.le_of_ble_eq_true rfl)) (xptr W35 113 55 p_113_55) <| Y_iload dX12_unlikeBy_49 rfl <| Y_iald dX12_unlikeBy_51 (xarr W35 (o := 150) s_150 (Nat.le_of_ble_eq_true rfl)) hi51 <| Y_aload_n dX12_unlikeBy_52 rfl <| Y_getR dX12_unlikeBy_53 f_11_128 (by rw [ft_11_56]; rfl) (xis W35 113 11 s_113 (Nat.le_of_ble_eq_true rfl)) (xptr W35 113 56 p_113_56) <| Y_iload dX12_unlikeBy_56 rfl <| Y_iald dX12_unlikeBy_58 (xarr W35 (o := 151) s_151 (Nat.le_of_ble_eq_true rfl)) hi58 <| Y_callV1 dX12_unlikeBy_59 cl_11_404 rfl rfl (xis W35 113 11 s_113 (Nat.le_of_ble_eq_true rfl)) rfl rfl rfl (hk59) <| Y_eq 72 dX12_unlikeBy_62 rfl (fun q => X_le (xle_s (xle_s (xle_s (xle_s (xle_s xle_0))))) (k1 q)) (fun q => X_le (xle_s (xle_s (xle_s (xle_s (xle_s xle_0))))) (k2 q))
theorem bX12_unlikeBy_65 {d : Nat} {g : xSt} {r : Option Value × xSt} {a1 a2 a3 a4 : Int32} (k : xX (d + 1) mX12_unlikeBy 72 [some (.ref 113), some (.int a1), some (.int a2), some (.int (a3 ||| (1 <<< (a4 &&& 31)))), some (.int a4)] [] g = some r) : xX (d + 1) mX12_unlikeBy 65 [some (.ref 113), some (.int a1), some (.int a2), some (.int a3), some (.int a4)] [] g = some r :=
  Y_iload_n dX12_unlikeBy_65 rfl <| Y_iconst 1 dX12_unlikeBy_66 ic_1 <| Y_iload dX12_unlikeBy_67 rfl <| Y_ishl dX12_unlikeBy_69 <| Y_ior dX12_unlikeBy_70 <| Y_istore_n dX12_unlikeBy_71 rfl rfl <| X_le (xle_s (xle_s (xle_s (xle_s (xle_s xle_0))))) k
theorem bX12_unlikeBy_72 {d : Nat} {g : xSt} {r : Option Value × xSt} {a1 a2 a3 a4 : Int32} (k : xX (d + 1) mX12_unlikeBy 5 [some (.ref 113), some (.int a1), some (.int a2), some (.int a3), some (.int (a4 + 1))] [] g = some r) : xX (d + 1) mX12_unlikeBy 72 [some (.ref 113), some (.int a1), some (.int a2), some (.int a3), some (.int a4)] [] g = some r :=
  Y_iinc 1 dX12_unlikeBy_72 rfl ic_1 rfl rfl <| Y_goto 5 dX12_unlikeBy_75 rfl <| X_le (xle_s (xle_s (xle_s (xle_s (xle_s xle_0))))) k
theorem bX12_unlikeBy_78 {d : Nat} {g : xSt} {r : Option Value × xSt} {a3 : Int32} (k : r = (some (.int a3), g)) : xX (d + 1) mX12_unlikeBy 78 [none, none, none, some (.int a3), none] [] g = some r :=
  Y_iload_n dX12_unlikeBy_78 rfl <| Y_iret dX12_unlikeBy_79 rfl k
theorem bX12_trusty_0 {d : Nat} {g : xSt} {r : Option Value × xSt} {a1 a2 a3 r3 : Int32} {g3 : xSt} (W : xWf g) (hk3 : xCallM d mX12_isGoal [.ref 113, .int a1, .int a2] g = some (some (.int r3), g3)) (W3 : xWf g3) (k1 : r3 = 0 → xX (d + 1) mX12_trusty 9 [none, none, none, none, none, none, none, none] [] g3 = some r) (k2 : ¬ (r3 = 0) → xX (d + 1) mX12_trusty 11 [some (.ref 113), some (.int a1), some (.int a2), some (.int a3), none, none, none, none] [] g3 = some r) : xX (d + 1) mX12_trusty 0 [some (.ref 113), some (.int a1), some (.int a2), some (.int a3), none, none, none, none] [] g = some r :=
  Y_aload_n dX12_trusty_0 rfl <| Y_iload_n dX12_trusty_1 rfl <| Y_iload_n dX12_trusty_2 rfl <| Y_callV1 dX12_trusty_3 cl_11_508 rfl rfl (xis W 113 11 s_113 (Nat.le_of_ble_eq_true rfl)) rfl rfl rfl (hk3) <| Y_ne0 11 dX12_trusty_6 rfl (fun q => X_le (xle_n (xle_n (xle_n (xle_n (xle_n (xle_n (xle_n (xle_n xle_0)))))))) (k1 q)) (fun q => X_le (xle_s (xle_s (xle_s (xle_s (xle_n (xle_n (xle_n (xle_n xle_0)))))))) (k2 q))
theorem bX12_trusty_9 {d : Nat} {g : xSt} {r : Option Value × xSt}  (k : r = (some (.int (-1)), g)) : xX (d + 1) mX12_trusty 9 [none, none, none, none, none, none, none, none] [] g = some r :=
  Y_iconst (-1) dX12_trusty_9 ic_m1 <| Y_iret dX12_trusty_10 rfl k
theorem bX12_trusty_11 {d : Nat} {g : xSt} {r : Option Value × xSt} {a1 a2 a3 : Int32} {g14 : xSt} (W : xWf g) (hk14 : xCallM d mX12_layLeft [.ref 113, .int 0, .int a3] g = some (none, g14)) (W14 : xWf g14) (k1 : (xI g14 113 53) ≤ 6 → xX (d + 1) mX12_trusty 29 [some (.ref 113), some (.int a1), some (.int a2), none, none, none, none, none] [] g14 = some r) (k2 : ¬ ((xI g14 113 53) ≤ 6) → xX (d + 1) mX12_trusty 26 [none, none, none, none, none, none, none, none] [] g14 = some r) : xX (d + 1) mX12_trusty 11 [some (.ref 113), some (.int a1), some (.int a2), some (.int a3), none, none, none, none] [] g = some r :=
  Y_aload_n dX12_trusty_11 rfl <| Y_iconst 0 dX12_trusty_12 ic_0 <| Y_iload_n dX12_trusty_13 rfl <| Y_callV0 dX12_trusty_14 cl_11_414 rfl rfl (xis W 113 11 s_113 (Nat.le_of_ble_eq_true rfl)) rfl rfl rfl (hk14) <| Y_aload_n dX12_trusty_17 rfl <| Y_getI dX12_trusty_18 f_11_408 ft_11_53 (xis W14 113 11 s_113 (Nat.le_of_ble_eq_true rfl)) <| Y_bipush 6 dX12_trusty_21 bp_6 <| Y_le 29 dX12_trusty_23 rfl (fun q => X_le (xle_s (xle_s (xle_s (xle_n (xle_n (xle_n (xle_n (xle_n xle_0)))))))) (k1 q)) (fun q => X_le (xle_n (xle_n (xle_n (xle_n (xle_n (xle_n (xle_n (xle_n xle_0)))))))) (k2 q))
theorem bX12_trusty_26 {d : Nat} {g : xSt} {r : Option Value × xSt}  (k : r = (some (.int (-2)), g)) : xX (d + 1) mX12_trusty 26 [none, none, none, none, none, none, none, none] [] g = some r :=
  Y_bipush (-2) dX12_trusty_26 bp_m2 <| Y_iret dX12_trusty_28 rfl k
theorem bX12_trusty_29 {d : Nat} {g : xSt} {r : Option Value × xSt} {a1 a2 : Int32} {g30 g36 : xSt} (W : xWf g) (hk30 : xCallM d mX12_layPairs [.ref 113] g = some (none, g30)) (W30 : xWf g30) (hk36 : xCallM d mX12_layGoals [.ref 113, .int a1, .int a2] g30 = some (none, g36)) (W36 : xWf g36) (k : xX (d + 1) mX12_trusty 48 [some (.ref 113), none, none, none, some (.int 1), some (.int 0), some (.int 0), none] [] g36 = some r) : xX (d + 1) mX12_trusty 29 [some (.ref 113), some (.int a1), some (.int a2), none, none, none, none, none] [] g = some r :=
  Y_aload_n dX12_trusty_29 rfl <| Y_callV0 dX12_trusty_30 cl_11_502 rfl rfl (xis W 113 11 s_113 (Nat.le_of_ble_eq_true rfl)) rfl rfl rfl (hk30) <| Y_aload_n dX12_trusty_33 rfl <| Y_iload_n dX12_trusty_34 rfl <| Y_iload_n dX12_trusty_35 rfl <| Y_callV0 dX12_trusty_36 cl_11_505 rfl rfl (xis W30 113 11 s_113 (Nat.le_of_ble_eq_true rfl)) rfl rfl rfl (hk36) <| Y_iconst 1 dX12_trusty_39 ic_1 <| Y_istore dX12_trusty_40 rfl rfl <| Y_iconst 0 dX12_trusty_42 ic_0 <| Y_istore dX12_trusty_43 rfl rfl <| Y_iconst 0 dX12_trusty_45 ic_0 <| Y_istore dX12_trusty_46 rfl rfl <| X_le (xle_s (xle_n (xle_n (xle_n (xle_s (xle_s (xle_s (xle_n xle_0)))))))) k
theorem bX12_trusty_48 {d : Nat} {g : xSt} {r : Option Value × xSt} {a4 a5 a6 : Int32} (W : xWf g) (k1 : (xI g 113 53) ≤ a6 → xX (d + 1) mX12_trusty 76 [some (.ref 113), none, none, none, some (.int a4), some (.int a5), none, none] [] g = some r) (k2 : ¬ ((xI g 113 53) ≤ a6) → xX (d + 1) mX12_trusty 57 [some (.ref 113), none, none, none, some (.int a4), some (.int a5), some (.int a6), none] [] g = some r) : xX (d + 1) mX12_trusty 48 [some (.ref 113), none, none, none, some (.int a4), some (.int a5), some (.int a6), none] [] g = some r :=
  Y_iload dX12_trusty_48 rfl <| Y_aload_n dX12_trusty_50 rfl <| Y_getI dX12_trusty_51 f_11_408 ft_11_53 (xis W 113 11 s_113 (Nat.le_of_ble_eq_true rfl)) <| Y_ge 76 dX12_trusty_54 rfl (fun q => X_le (xle_s (xle_n (xle_n (xle_n (xle_s (xle_s (xle_n (xle_n xle_0)))))))) (k1 q)) (fun q => X_le (xle_s (xle_n (xle_n (xle_n (xle_s (xle_s (xle_s (xle_n xle_0)))))))) (k2 q))
theorem bX12_trusty_57 {d : Nat} {g : xSt} {r : Option Value × xSt} {a4 a5 a6 : Int32} (k : xX (d + 1) mX12_trusty 48 [some (.ref 113), none, none, none, some (.int (a4 * 3)), some (.int (a5 + a4)), some (.int (a6 + 1)), none] [] g = some r) : xX (d + 1) mX12_trusty 57 [some (.ref 113), none, none, none, some (.int a4), some (.int a5), some (.int a6), none] [] g = some r :=
  Y_iload dX12_trusty_57 rfl <| Y_iload dX12_trusty_59 rfl <| Y_iadd dX12_trusty_61 <| Y_istore dX12_trusty_62 rfl rfl <| Y_iload dX12_trusty_64 rfl <| Y_iconst 3 dX12_trusty_66 ic_3 <| Y_imul dX12_trusty_67 <| Y_istore dX12_trusty_68 rfl rfl <| Y_iinc 1 dX12_trusty_70 rfl ic_1 rfl rfl <| Y_goto 48 dX12_trusty_73 rfl <| X_le (xle_s (xle_n (xle_n (xle_n (xle_s (xle_s (xle_s (xle_n xle_0)))))))) k
theorem bX12_trusty_76 {d : Nat} {g : xSt} {r : Option Value × xSt} {a4 a5 : Int32} (k : xX (d + 1) mX12_trusty 79 [some (.ref 113), none, none, none, some (.int a4), some (.int a5), some (.int 0), none] [] g = some r) : xX (d + 1) mX12_trusty 76 [some (.ref 113), none, none, none, some (.int a4), some (.int a5), none, none] [] g = some r :=
  Y_iconst 0 dX12_trusty_76 ic_0 <| Y_istore dX12_trusty_77 rfl rfl <| X_le (xle_s (xle_n (xle_n (xle_n (xle_s (xle_s (xle_s (xle_n xle_0)))))))) k
theorem bX12_trusty_79 {d : Nat} {g : xSt} {r : Option Value × xSt} {a4 a5 a6 : Int32} (k1 : a4 ≤ a6 → xX (d + 1) mX12_trusty 113 [some (.ref 113), none, none, none, some (.int a4), some (.int a5), none, none] [] g = some r) (k2 : ¬ (a4 ≤ a6) → xX (d + 1) mX12_trusty 86 [some (.ref 113), none, none, none, some (.int a4), some (.int a5), some (.int a6), none] [] g = some r) : xX (d + 1) mX12_trusty 79 [some (.ref 113), none, none, none, some (.int a4), some (.int a5), some (.int a6), none] [] g = some r :=
  Y_iload dX12_trusty_79 rfl <| Y_iload dX12_trusty_81 rfl <| Y_ge 113 dX12_trusty_83 rfl (fun q => X_le (xle_s (xle_n (xle_n (xle_n (xle_s (xle_s (xle_n (xle_n xle_0)))))))) (k1 q)) (fun q => X_le (xle_s (xle_n (xle_n (xle_n (xle_s (xle_s (xle_s (xle_n xle_0)))))))) (k2 q))
theorem bX12_trusty_86 {d : Nat} {g : xSt} {r : Option Value × xSt} {a4 a5 a6 r95 : Int32} {g95 : xSt} (W : xWf g) (hk95 : xCallM d mX12_isComeBy [.ref 113, .int a6] g = some (some (.int r95), g95)) (W95 : xWf g95) (k1 : r95 = 0 → xX (d + 1) mX12_trusty 105 [some (.ref 113), none, none, none, some (.int a4), some (.int a5), some (.int a6), none] [.int a6, .ref 165] g95 = some r) (k2 : ¬ (r95 = 0) → xX (d + 1) mX12_trusty 101 [some (.ref 113), none, none, none, some (.int a4), some (.int a5), some (.int a6), none] [.int a6, .ref 165] g95 = some r) : xX (d + 1) mX12_trusty 86 [some (.ref 113), none, none, none, some (.int a4), some (.int a5), some (.int a6), none] [] g = some r :=
  Y_aload_n dX12_trusty_86 rfl <| Y_getR dX12_trusty_87 f_11_170 (by rw [ft_11_74]; rfl) (xis W 113 11 s_113 (Nat.le_of_ble_eq_true rfl)) (xptr W 113 74 p_113_74) <| Y_iload dX12_trusty_90 rfl <| Y_aload_n dX12_trusty_92 rfl <| Y_iload dX12_trusty_93 rfl <| Y_callV1 dX12_trusty_95 cl_11_536 rfl rfl (xis W 113 11 s_113 (Nat.le_of_ble_eq_true rfl)) rfl rfl rfl (hk95) <| Y_eq0 105 dX12_trusty_98 rfl (fun q => X_le (xle_s (xle_n (xle_n (xle_n (xle_s (xle_s (xle_s (xle_n xle_0)))))))) (k1 q)) (fun q => X_le (xle_s (xle_n (xle_n (xle_n (xle_s (xle_s (xle_s (xle_n xle_0)))))))) (k2 q))
theorem bX12_trusty_101 {d : Nat} {g : xSt} {r : Option Value × xSt} {a4 a5 a6 s0 : Int32} (k : xX (d + 1) mX12_trusty 106 [some (.ref 113), none, none, none, some (.int a4), some (.int a5), some (.int a6), none] [.int 0, .int s0, .ref 165] g = some r) : xX (d + 1) mX12_trusty 101 [some (.ref 113), none, none, none, some (.int a4), some (.int a5), some (.int a6), none] [.int s0, .ref 165] g = some r :=
  Y_iconst 0 dX12_trusty_101 ic_0 <| Y_goto 106 dX12_trusty_102 rfl <| X_le (xle_s (xle_n (xle_n (xle_n (xle_s (xle_s (xle_s (xle_n xle_0)))))))) k
theorem bX12_trusty_105 {d : Nat} {g : xSt} {r : Option Value × xSt} {a4 a5 a6 s0 : Int32} (k : xX (d + 1) mX12_trusty 106 [some (.ref 113), none, none, none, some (.int a4), some (.int a5), some (.int a6), none] [.int (-1), .int s0, .ref 165] g = some r) : xX (d + 1) mX12_trusty 105 [some (.ref 113), none, none, none, some (.int a4), some (.int a5), some (.int a6), none] [.int s0, .ref 165] g = some r :=
  Y_iconst (-1) dX12_trusty_105 ic_m1 <| X_le (xle_s (xle_n (xle_n (xle_n (xle_s (xle_s (xle_s (xle_n xle_0)))))))) k
theorem bX12_trusty_106 {d : Nat} {g : xSt} {r : Option Value × xSt} {a4 a5 a6 s1 s0 : Int32} (W : xWf g) (hi106 : vp_in s1 729) (k : xX (d + 1) mX12_trusty 79 [some (.ref 113), none, none, none, some (.int a4), some (.int a5), some (.int (a6 + 1)), none] [] (xWI g 165 s1.toNatClampNeg s0) = some r) : xX (d + 1) mX12_trusty 106 [some (.ref 113), none, none, none, some (.int a4), some (.int a5), some (.int a6), none] [.int s0, .int s1, .ref 165] g = some r :=
  Y_iast dX12_trusty_106 (xarr W (o := 165) s_165 (Nat.le_of_ble_eq_true rfl)) hi106 <| Y_iinc 1 dX12_trusty_107 rfl ic_1 rfl rfl <| Y_goto 79 dX12_trusty_110 rfl <| X_le (xle_s (xle_n (xle_n (xle_n (xle_s (xle_s (xle_s (xle_n xle_0)))))))) k
theorem bX12_trusty_113 {d : Nat} {g : xSt} {r : Option Value × xSt} {a4 a5 : Int32} (k : xX (d + 1) mX12_trusty 116 [some (.ref 113), none, none, none, some (.int a4), some (.int a5), some (.int 1), none] [] g = some r) : xX (d + 1) mX12_trusty 113 [some (.ref 113), none, none, none, some (.int a4), some (.int a5), none, none] [] g = some r :=
  Y_iconst 1 dX12_trusty_113 ic_1 <| Y_istore dX12_trusty_114 rfl rfl <| X_le (xle_s (xle_n (xle_n (xle_n (xle_s (xle_s (xle_s (xle_n xle_0)))))))) k
theorem bX12_trusty_116 {d : Nat} {g : xSt} {r : Option Value × xSt} {a4 a5 a6 : Int32} (k1 : 12 < a6 → xX (d + 1) mX12_trusty 185 [some (.ref 113), none, none, none, none, some (.int a5), none, none] [] g = some r) (k2 : ¬ (12 < a6) → xX (d + 1) mX12_trusty 123 [some (.ref 113), none, none, none, some (.int a4), some (.int a5), some (.int a6), none] [] g = some r) : xX (d + 1) mX12_trusty 116 [some (.ref 113), none, none, none, some (.int a4), some (.int a5), some (.int a6), none] [] g = some r :=
  Y_iload dX12_trusty_116 rfl <| Y_bipush 12 dX12_trusty_118 bp_12 <| Y_gt 185 dX12_trusty_120 rfl (fun q => X_le (xle_s (xle_n (xle_n (xle_n (xle_n (xle_s (xle_n (xle_n xle_0)))))))) (k1 q)) (fun q => X_le (xle_s (xle_n (xle_n (xle_n (xle_s (xle_s (xle_s (xle_n xle_0)))))))) (k2 q))
theorem bX12_trusty_123 {d : Nat} {g : xSt} {r : Option Value × xSt} {a4 a5 a6 : Int32} (W : xWf g) (hi129 : vp_in a5 729) (k1 : 0 ≤ (xI g 165 a5.toNatClampNeg) → xX (d + 1) mX12_trusty 185 [some (.ref 113), none, none, none, none, some (.int a5), none, none] [] g = some r) (k2 : ¬ (0 ≤ (xI g 165 a5.toNatClampNeg)) → xX (d + 1) mX12_trusty 133 [some (.ref 113), none, none, none, some (.int a4), some (.int a5), some (.int a6), none] [] g = some r) : xX (d + 1) mX12_trusty 123 [some (.ref 113), none, none, none, some (.int a4), some (.int a5), some (.int a6), none] [] g = some r :=
  Y_aload_n dX12_trusty_123 rfl <| Y_getR dX12_trusty_124 f_11_170 (by rw [ft_11_74]; rfl) (xis W 113 11 s_113 (Nat.le_of_ble_eq_true rfl)) (xptr W 113 74 p_113_74) <| Y_iload dX12_trusty_127 rfl <| Y_iald dX12_trusty_129 (xarr W (o := 165) s_165 (Nat.le_of_ble_eq_true rfl)) hi129 <| Y_ge0 185 dX12_trusty_130 rfl (fun q => X_le (xle_s (xle_n (xle_n (xle_n (xle_n (xle_s (xle_n (xle_n xle_0)))))))) (k1 q)) (fun q => X_le (xle_s (xle_n (xle_n (xle_n (xle_s (xle_s (xle_s (xle_n xle_0)))))))) (k2 q))
theorem bX12_trusty_133 {d : Nat} {g : xSt} {r : Option Value × xSt} {a4 a5 a6 : Int32} (k : xX (d + 1) mX12_trusty 136 [some (.ref 113), none, none, none, some (.int a4), some (.int a5), some (.int a6), some (.int 0)] [] g = some r) : xX (d + 1) mX12_trusty 133 [some (.ref 113), none, none, none, some (.int a4), some (.int a5), some (.int a6), none] [] g = some r :=
  Y_iconst 0 dX12_trusty_133 ic_0 <| Y_istore dX12_trusty_134 rfl rfl <| X_le (xle_s (xle_n (xle_n (xle_n (xle_s (xle_s (xle_s (xle_s xle_0)))))))) k
theorem bX12_trusty_136 {d : Nat} {g : xSt} {r : Option Value × xSt} {a4 a5 a6 a7 : Int32} (k1 : a4 ≤ a7 → xX (d + 1) mX12_trusty 179 [some (.ref 113), none, none, none, some (.int a4), some (.int a5), some (.int a6), none] [] g = some r) (k2 : ¬ (a4 ≤ a7) → xX (d + 1) mX12_trusty 143 [some (.ref 113), none, none, none, some (.int a4), some (.int a5), some (.int a6), some (.int a7)] [] g = some r) : xX (d + 1) mX12_trusty 136 [some (.ref 113), none, none, none, some (.int a4), some (.int a5), some (.int a6), some (.int a7)] [] g = some r :=
  Y_iload dX12_trusty_136 rfl <| Y_iload dX12_trusty_138 rfl <| Y_ge 179 dX12_trusty_140 rfl (fun q => X_le (xle_s (xle_n (xle_n (xle_n (xle_s (xle_s (xle_s (xle_n xle_0)))))))) (k1 q)) (fun q => X_le (xle_s (xle_n (xle_n (xle_n (xle_s (xle_s (xle_s (xle_s xle_0)))))))) (k2 q))
theorem bX12_trusty_143 {d : Nat} {g : xSt} {r : Option Value × xSt} {a4 a5 a6 a7 : Int32} (W : xWf g) (hi149 : vp_in a7 729) (k1 : 0 ≤ (xI g 165 a7.toNatClampNeg) → xX (d + 1) mX12_trusty 173 [some (.ref 113), none, none, none, some (.int a4), some (.int a5), some (.int a6), some (.int a7)] [] g = some r) (k2 : ¬ (0 ≤ (xI g 165 a7.toNatClampNeg)) → xX (d + 1) mX12_trusty 153 [some (.ref 113), none, none, none, some (.int a4), some (.int a5), some (.int a6), some (.int a7)] [] g = some r) : xX (d + 1) mX12_trusty 143 [some (.ref 113), none, none, none, some (.int a4), some (.int a5), some (.int a6), some (.int a7)] [] g = some r :=
  Y_aload_n dX12_trusty_143 rfl <| Y_getR dX12_trusty_144 f_11_170 (by rw [ft_11_74]; rfl) (xis W 113 11 s_113 (Nat.le_of_ble_eq_true rfl)) (xptr W 113 74 p_113_74) <| Y_iload dX12_trusty_147 rfl <| Y_iald dX12_trusty_149 (xarr W (o := 165) s_165 (Nat.le_of_ble_eq_true rfl)) hi149 <| Y_ge0 173 dX12_trusty_150 rfl (fun q => X_le (xle_s (xle_n (xle_n (xle_n (xle_s (xle_s (xle_s (xle_s xle_0)))))))) (k1 q)) (fun q => X_le (xle_s (xle_n (xle_n (xle_n (xle_s (xle_s (xle_s (xle_s xle_0)))))))) (k2 q))
theorem bX12_trusty_153 {d : Nat} {g : xSt} {r : Option Value × xSt} {a4 a5 a6 a7 r158 : Int32} {g158 : xSt} (W : xWf g) (hk158 : xCallM d mX12_canBy [.ref 113, .int a7, .int a6] g = some (some (.int r158), g158)) (W158 : xWf g158) (k1 : r158 = 0 → xX (d + 1) mX12_trusty 173 [some (.ref 113), none, none, none, some (.int a4), some (.int a5), some (.int a6), some (.int a7)] [] g158 = some r) (k2 : ¬ (r158 = 0) → xX (d + 1) mX12_trusty 164 [some (.ref 113), none, none, none, some (.int a4), some (.int a5), some (.int a6), some (.int a7)] [] g158 = some r) : xX (d + 1) mX12_trusty 153 [some (.ref 113), none, none, none, some (.int a4), some (.int a5), some (.int a6), some (.int a7)] [] g = some r :=
  Y_aload_n dX12_trusty_153 rfl <| Y_iload dX12_trusty_154 rfl <| Y_iload dX12_trusty_156 rfl <| Y_callV1 dX12_trusty_158 cl_11_539 rfl rfl (xis W 113 11 s_113 (Nat.le_of_ble_eq_true rfl)) rfl rfl rfl (hk158) <| Y_eq0 173 dX12_trusty_161 rfl (fun q => X_le (xle_s (xle_n (xle_n (xle_n (xle_s (xle_s (xle_s (xle_s xle_0)))))))) (k1 q)) (fun q => X_le (xle_s (xle_n (xle_n (xle_n (xle_s (xle_s (xle_s (xle_s xle_0)))))))) (k2 q))
theorem bX12_trusty_164 {d : Nat} {g : xSt} {r : Option Value × xSt} {a4 a5 a6 a7 : Int32} (W : xWf g) (hi172 : vp_in a7 729) (k : xX (d + 1) mX12_trusty 173 [some (.ref 113), none, none, none, some (.int a4), some (.int a5), some (.int a6), some (.int a7)] [] (xWI g 165 a7.toNatClampNeg a6) = some r) : xX (d + 1) mX12_trusty 164 [some (.ref 113), none, none, none, some (.int a4), some (.int a5), some (.int a6), some (.int a7)] [] g = some r :=
  Y_aload_n dX12_trusty_164 rfl <| Y_getR dX12_trusty_165 f_11_170 (by rw [ft_11_74]; rfl) (xis W 113 11 s_113 (Nat.le_of_ble_eq_true rfl)) (xptr W 113 74 p_113_74) <| Y_iload dX12_trusty_168 rfl <| Y_iload dX12_trusty_170 rfl <| Y_iast dX12_trusty_172 (xarr W (o := 165) s_165 (Nat.le_of_ble_eq_true rfl)) hi172 <| X_le (xle_s (xle_n (xle_n (xle_n (xle_s (xle_s (xle_s (xle_s xle_0)))))))) k
theorem bX12_trusty_173 {d : Nat} {g : xSt} {r : Option Value × xSt} {a4 a5 a6 a7 : Int32} (k : xX (d + 1) mX12_trusty 136 [some (.ref 113), none, none, none, some (.int a4), some (.int a5), some (.int a6), some (.int (a7 + 1))] [] g = some r) : xX (d + 1) mX12_trusty 173 [some (.ref 113), none, none, none, some (.int a4), some (.int a5), some (.int a6), some (.int a7)] [] g = some r :=
  Y_iinc 1 dX12_trusty_173 rfl ic_1 rfl rfl <| Y_goto 136 dX12_trusty_176 rfl <| X_le (xle_s (xle_n (xle_n (xle_n (xle_s (xle_s (xle_s (xle_s xle_0)))))))) k
theorem bX12_trusty_179 {d : Nat} {g : xSt} {r : Option Value × xSt} {a4 a5 a6 : Int32} (k : xX (d + 1) mX12_trusty 116 [some (.ref 113), none, none, none, some (.int a4), some (.int a5), some (.int (a6 + 1)), none] [] g = some r) : xX (d + 1) mX12_trusty 179 [some (.ref 113), none, none, none, some (.int a4), some (.int a5), some (.int a6), none] [] g = some r :=
  Y_iinc 1 dX12_trusty_179 rfl ic_1 rfl rfl <| Y_goto 116 dX12_trusty_182 rfl <| X_le (xle_s (xle_n (xle_n (xle_n (xle_s (xle_s (xle_s (xle_n xle_0)))))))) k
theorem bX12_trusty_185 {d : Nat} {g : xSt} {r : Option Value × xSt} {a5 : Int32} (W : xWf g) (hi191 : vp_in a5 729) (k1 : 0 ≤ (xI g 165 a5.toNatClampNeg) → xX (d + 1) mX12_trusty 200 [some (.ref 113), none, none, none, none, some (.int a5), none, none] [] g = some r) (k2 : ¬ (0 ≤ (xI g 165 a5.toNatClampNeg)) → xX (d + 1) mX12_trusty 195 [none, none, none, none, none, none, none, none] [] g = some r) : xX (d + 1) mX12_trusty 185 [some (.ref 113), none, none, none, none, some (.int a5), none, none] [] g = some r :=
  Y_aload_n dX12_trusty_185 rfl <| Y_getR dX12_trusty_186 f_11_170 (by rw [ft_11_74]; rfl) (xis W 113 11 s_113 (Nat.le_of_ble_eq_true rfl)) (xptr W 113 74 p_113_74) <| Y_iload dX12_trusty_189 rfl <| Y_iald dX12_trusty_191 (xarr W (o := 165) s_165 (Nat.le_of_ble_eq_true rfl)) hi191 <| Y_ge0 200 dX12_trusty_192 rfl (fun q => X_le (xle_s (xle_n (xle_n (xle_n (xle_n (xle_s (xle_n (xle_n xle_0)))))))) (k1 q)) (fun q => X_le (xle_n (xle_n (xle_n (xle_n (xle_n (xle_n (xle_n (xle_n xle_0)))))))) (k2 q))
theorem bX12_trusty_195 {d : Nat} {g : xSt} {r : Option Value × xSt}  (k : xX (d + 1) mX12_trusty 207 [none, none, none, none, none, none, none, none] [.int (-2)] g = some r) : xX (d + 1) mX12_trusty 195 [none, none, none, none, none, none, none, none] [] g = some r :=
  Y_bipush (-2) dX12_trusty_195 bp_m2 <| Y_goto 207 dX12_trusty_197 rfl <| X_le (xle_n (xle_n (xle_n (xle_n (xle_n (xle_n (xle_n (xle_n xle_0)))))))) k
theorem bX12_trusty_200 {d : Nat} {g : xSt} {r : Option Value × xSt} {a5 : Int32} (W : xWf g) (hi206 : vp_in a5 729) (k : xX (d + 1) mX12_trusty 207 [none, none, none, none, none, none, none, none] [.int (xI g 165 a5.toNatClampNeg)] g = some r) : xX (d + 1) mX12_trusty 200 [some (.ref 113), none, none, none, none, some (.int a5), none, none] [] g = some r :=
  Y_aload_n dX12_trusty_200 rfl <| Y_getR dX12_trusty_201 f_11_170 (by rw [ft_11_74]; rfl) (xis W 113 11 s_113 (Nat.le_of_ble_eq_true rfl)) (xptr W 113 74 p_113_74) <| Y_iload dX12_trusty_204 rfl <| Y_iald dX12_trusty_206 (xarr W (o := 165) s_165 (Nat.le_of_ble_eq_true rfl)) hi206 <| X_le (xle_n (xle_n (xle_n (xle_n (xle_n (xle_n (xle_n (xle_n xle_0)))))))) k
theorem bX12_trusty_207 {d : Nat} {g : xSt} {r : Option Value × xSt} {s0 : Int32} (k : r = (some (.int s0), g)) : xX (d + 1) mX12_trusty 207 [none, none, none, none, none, none, none, none] [.int s0] g = some r :=
  Y_iret dX12_trusty_207 rfl k
theorem bX12_isComeBy_0 {d : Nat} {g : xSt} {r : Option Value × xSt} {a1 : Int32} (k : xX (d + 1) mX12_isComeBy 4 [some (.ref 113), some (.int a1), some (.int (-1)), some (.int 0)] [] g = some r) : xX (d + 1) mX12_isComeBy 0 [some (.ref 113), some (.int a1), none, none] [] g = some r :=
  Y_iconst (-1) dX12_isComeBy_0 ic_m1 <| Y_istore_n dX12_isComeBy_1 rfl rfl <| Y_iconst 0 dX12_isComeBy_2 ic_0 <| Y_istore_n dX12_isComeBy_3 rfl rfl <| X_le (xle_s (xle_s (xle_s (xle_s xle_0)))) k
theorem bX12_isComeBy_4 {d : Nat} {g : xSt} {r : Option Value × xSt} {a1 a2 a3 : Int32} (W : xWf g) (k1 : (xI g 113 53) ≤ a3 → xX (d + 1) mX12_isComeBy 53 [none, none, none, none] [] g = some r) (k2 : ¬ ((xI g 113 53) ≤ a3) → xX (d + 1) mX12_isComeBy 12 [some (.ref 113), some (.int a1), some (.int a2), some (.int a3)] [] g = some r) : xX (d + 1) mX12_isComeBy 4 [some (.ref 113), some (.int a1), some (.int a2), some (.int a3)] [] g = some r :=
  Y_iload_n dX12_isComeBy_4 rfl <| Y_aload_n dX12_isComeBy_5 rfl <| Y_getI dX12_isComeBy_6 f_11_408 ft_11_53 (xis W 113 11 s_113 (Nat.le_of_ble_eq_true rfl)) <| Y_ge 53 dX12_isComeBy_9 rfl (fun q => X_le (xle_n (xle_n (xle_n (xle_n xle_0)))) (k1 q)) (fun q => X_le (xle_s (xle_s (xle_s (xle_s xle_0)))) (k2 q))
theorem bX12_isComeBy_12 {d : Nat} {g : xSt} {r : Option Value × xSt} {a1 a2 a3 r15 : Int32} {g15 : xSt} (W : xWf g) (hk15 : xCallM d mX12_statusOf [.ref 113, .int a1, .int a3] g = some (some (.int r15), g15)) (W15 : xWf g15) (k1 : r15 = 0 → xX (d + 1) mX12_isComeBy 21 [some (.ref 113), some (.int a1), some (.int a2), some (.int a3)] [] g15 = some r) (k2 : ¬ (r15 = 0) → xX (d + 1) mX12_isComeBy 24 [some (.ref 113), some (.int a1), some (.int a2), some (.int a3)] [] g15 = some r) : xX (d + 1) mX12_isComeBy 12 [some (.ref 113), some (.int a1), some (.int a2), some (.int a3)] [] g = some r :=
  Y_aload_n dX12_isComeBy_12 rfl <| Y_iload_n dX12_isComeBy_13 rfl <| Y_iload_n dX12_isComeBy_14 rfl <| Y_callV1 dX12_isComeBy_15 cl_11_530 rfl rfl (xis W 113 11 s_113 (Nat.le_of_ble_eq_true rfl)) rfl rfl rfl (hk15) <| Y_ne0 24 dX12_isComeBy_18 rfl (fun q => X_le (xle_s (xle_s (xle_s (xle_s xle_0)))) (k1 q)) (fun q => X_le (xle_s (xle_s (xle_s (xle_s xle_0)))) (k2 q))
theorem bX12_isComeBy_21 {d : Nat} {g : xSt} {r : Option Value × xSt} {a1 a2 a3 : Int32} (k : xX (d + 1) mX12_isComeBy 47 [some (.ref 113), some (.int a1), some (.int a2), some (.int a3)] [] g = some r) : xX (d + 1) mX12_isComeBy 21 [some (.ref 113), some (.int a1), some (.int a2), some (.int a3)] [] g = some r :=
  Y_goto 47 dX12_isComeBy_21 rfl <| X_le (xle_s (xle_s (xle_s (xle_s xle_0)))) k
theorem bX12_isComeBy_24 {d : Nat} {g : xSt} {r : Option Value × xSt} {a1 a2 a3 : Int32} (k1 : a2 < 0 → xX (d + 1) mX12_isComeBy 45 [some (.ref 113), some (.int a1), none, some (.int a3)] [] g = some r) (k2 : ¬ (a2 < 0) → xX (d + 1) mX12_isComeBy 28 [some (.ref 113), some (.int a1), some (.int a2), some (.int a3)] [] g = some r) : xX (d + 1) mX12_isComeBy 24 [some (.ref 113), some (.int a1), some (.int a2), some (.int a3)] [] g = some r :=
  Y_iload_n dX12_isComeBy_24 rfl <| Y_lt0 45 dX12_isComeBy_25 rfl (fun q => X_le (xle_s (xle_s (xle_n (xle_s xle_0)))) (k1 q)) (fun q => X_le (xle_s (xle_s (xle_s (xle_s xle_0)))) (k2 q))
theorem bX12_isComeBy_28 {d : Nat} {g : xSt} {r : Option Value × xSt} {a1 a2 a3 : Int32} (W : xWf g) (hi33 : vp_in a3 541) (hi39 : vp_in a2 541) (k1 : (xI g 146 a3.toNatClampNeg) = (xI g 146 a2.toNatClampNeg) → xX (d + 1) mX12_isComeBy 45 [some (.ref 113), some (.int a1), none, some (.int a3)] [] g = some r) (k2 : ¬ ((xI g 146 a3.toNatClampNeg) = (xI g 146 a2.toNatClampNeg)) → xX (d + 1) mX12_isComeBy 43 [none, none, none, none] [] g = some r) : xX (d + 1) mX12_isComeBy 28 [some (.ref 113), some (.int a1), some (.int a2), some (.int a3)] [] g = some r :=
  Y_aload_n dX12_isComeBy_28 rfl <| Y_getR dX12_isComeBy_29 f_11_113 (by rw [ft_11_49]; rfl) (xis W 113 11 s_113 (Nat.le_of_ble_eq_true rfl)) (xptr W 113 49 p_113_49) <| Y_iload_n dX12_isComeBy_32 rfl <| Y_iald dX12_isComeBy_33 (xarr W (o := 146) s_146 (Nat.le_of_ble_eq_true rfl)) hi33 <| Y_aload_n dX12_isComeBy_34 rfl <| Y_getR dX12_isComeBy_35 f_11_113 (by rw [ft_11_49]; rfl) (xis W 113 11 s_113 (Nat.le_of_ble_eq_true rfl)) (xptr W 113 49 p_113_49) <| Y_iload_n dX12_isComeBy_38 rfl <| Y_iald dX12_isComeBy_39 (xarr W (o := 146) s_146 (Nat.le_of_ble_eq_true rfl)) hi39 <| Y_eq 45 dX12_isComeBy_40 rfl (fun q => X_le (xle_s (xle_s (xle_n (xle_s xle_0)))) (k1 q)) (fun q => X_le (xle_n (xle_n (xle_n (xle_n xle_0)))) (k2 q))
theorem bX12_isComeBy_43 {d : Nat} {g : xSt} {r : Option Value × xSt}  (k : r = (some (.int 0), g)) : xX (d + 1) mX12_isComeBy 43 [none, none, none, none] [] g = some r :=
  Y_iconst 0 dX12_isComeBy_43 ic_0 <| Y_zret dX12_isComeBy_44 rfl (by decide) k
theorem bX12_isComeBy_45 {d : Nat} {g : xSt} {r : Option Value × xSt} {a1 a3 : Int32} (k : xX (d + 1) mX12_isComeBy 47 [some (.ref 113), some (.int a1), some (.int a3), some (.int a3)] [] g = some r) : xX (d + 1) mX12_isComeBy 45 [some (.ref 113), some (.int a1), none, some (.int a3)] [] g = some r :=
  Y_iload_n dX12_isComeBy_45 rfl <| Y_istore_n dX12_isComeBy_46 rfl rfl <| X_le (xle_s (xle_s (xle_s (xle_s xle_0)))) k
theorem bX12_isComeBy_47 {d : Nat} {g : xSt} {r : Option Value × xSt} {a1 a2 a3 : Int32} (k : xX (d + 1) mX12_isComeBy 4 [some (.ref 113), some (.int a1), some (.int a2), some (.int (a3 + 1))] [] g = some r) : xX (d + 1) mX12_isComeBy 47 [some (.ref 113), some (.int a1), some (.int a2), some (.int a3)] [] g = some r :=
  Y_iinc 1 dX12_isComeBy_47 rfl ic_1 rfl rfl <| Y_goto 4 dX12_isComeBy_50 rfl <| X_le (xle_s (xle_s (xle_s (xle_s xle_0)))) k
theorem bX12_isComeBy_53 {d : Nat} {g : xSt} {r : Option Value × xSt}  (k : r = (some (.int 1), g)) : xX (d + 1) mX12_isComeBy 53 [none, none, none, none] [] g = some r :=
  Y_iconst 1 dX12_isComeBy_53 ic_1 <| Y_zret dX12_isComeBy_54 rfl (by decide) k
