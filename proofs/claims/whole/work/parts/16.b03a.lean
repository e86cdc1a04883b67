/-! stretches of HeavierRow$Liar, by program (wip/whole/genall.py) -/
theorem dX3_fewestWithALie_0 : decode mX3_fewestWithALie.2.1 0 = .ok (.iconst 1, 1) := by decide +kernel
theorem dX3_fewestWithALie_1 : decode mX3_fewestWithALie.2.1 1 = .ok (.aload_n 1, 1) := by decide +kernel
theorem dX3_fewestWithALie_2 : decode mX3_fewestWithALie.2.1 2 = .ok (.getfield 23, 3) := by decide +kernel
theorem dX3_fewestWithALie_5 : decode mX3_fewestWithALie.2.1 5 = .ok (.bipush 6, 2) := by decide +kernel
theorem dX3_fewestWithALie_7 : decode mX3_fewestWithALie.2.1 7 = .ok (.invokestatic 29, 3) := by decide +kernel
theorem dX3_fewestWithALie_10 : decode mX3_fewestWithALie.2.1 10 = .ok (.ishl, 1) := by decide +kernel
theorem dX3_fewestWithALie_11 : decode mX3_fewestWithALie.2.1 11 = .ok (.iconst 1, 1) := by decide +kernel
theorem dX3_fewestWithALie_12 : decode mX3_fewestWithALie.2.1 12 = .ok (.isub, 1) := by decide +kernel
theorem dX3_fewestWithALie_13 : decode mX3_fewestWithALie.2.1 13 = .ok (.istore_n 2, 1) := by decide +kernel
theorem dX3_fewestWithALie_14 : decode mX3_fewestWithALie.2.1 14 = .ok (.aload_n 0, 1) := by decide +kernel
theorem dX3_fewestWithALie_15 : decode mX3_fewestWithALie.2.1 15 = .ok (.aload_n 1, 1) := by decide +kernel
theorem dX3_fewestWithALie_16 : decode mX3_fewestWithALie.2.1 16 = .ok (.invokevirtual 35, 3) := by decide +kernel
theorem dX3_fewestWithALie_19 : decode mX3_fewestWithALie.2.1 19 = .ok (.iconst 0, 1) := by decide +kernel
theorem dX3_fewestWithALie_20 : decode mX3_fewestWithALie.2.1 20 = .ok (.istore_n 3, 1) := by decide +kernel
theorem dX3_fewestWithALie_21 : decode mX3_fewestWithALie.2.1 21 = .ok (.iload_n 3, 1) := by decide +kernel
theorem dX3_fewestWithALie_22 : decode mX3_fewestWithALie.2.1 22 = .ok (.iload_n 2, 1) := by decide +kernel
theorem dX3_fewestWithALie_23 : decode mX3_fewestWithALie.2.1 23 = .ok (.if_icmp .gt 30, 3) := by decide +kernel
theorem dX3_fewestWithALie_26 : decode mX3_fewestWithALie.2.1 26 = .ok (.aload_n 0, 1) := by decide +kernel
theorem dX3_fewestWithALie_27 : decode mX3_fewestWithALie.2.1 27 = .ok (.getfield 15, 3) := by decide +kernel
theorem dX3_fewestWithALie_30 : decode mX3_fewestWithALie.2.1 30 = .ok (.iload_n 3, 1) := by decide +kernel
theorem dX3_fewestWithALie_31 : decode mX3_fewestWithALie.2.1 31 = .ok (.aload_n 1, 1) := by decide +kernel
theorem dX3_fewestWithALie_32 : decode mX3_fewestWithALie.2.1 32 = .ok (.iload_n 3, 1) := by decide +kernel
theorem dX3_fewestWithALie_33 : decode mX3_fewestWithALie.2.1 33 = .ok (.invokestatic 39, 3) := by decide +kernel
theorem dX3_fewestWithALie_36 : decode mX3_fewestWithALie.2.1 36 = .ok (.ifCond .eq 7, 3) := by decide +kernel
theorem dX3_fewestWithALie_39 : decode mX3_fewestWithALie.2.1 39 = .ok (.iconst 1, 1) := by decide +kernel
theorem dX3_fewestWithALie_40 : decode mX3_fewestWithALie.2.1 40 = .ok (.goto 4, 3) := by decide +kernel
theorem dX3_fewestWithALie_43 : decode mX3_fewestWithALie.2.1 43 = .ok (.iconst 0, 1) := by decide +kernel
theorem dX3_fewestWithALie_44 : decode mX3_fewestWithALie.2.1 44 = .ok (.invokestatic 43, 3) := by decide +kernel
theorem dX3_fewestWithALie_47 : decode mX3_fewestWithALie.2.1 47 = .ok (.iinc 3 1, 3) := by decide +kernel
theorem dX3_fewestWithALie_50 : decode mX3_fewestWithALie.2.1 50 = .ok (.goto (-29), 3) := by decide +kernel
theorem dX3_fewestWithALie_53 : decode mX3_fewestWithALie.2.1 53 = .ok (.iconst 0, 1) := by decide +kernel
theorem dX3_fewestWithALie_54 : decode mX3_fewestWithALie.2.1 54 = .ok (.istore_n 3, 1) := by decide +kernel
theorem dX3_fewestWithALie_55 : decode mX3_fewestWithALie.2.1 55 = .ok (.iload_n 3, 1) := by decide +kernel
theorem dX3_fewestWithALie_56 : decode mX3_fewestWithALie.2.1 56 = .ok (.iload_n 2, 1) := by decide +kernel
theorem dX3_fewestWithALie_57 : decode mX3_fewestWithALie.2.1 57 = .ok (.if_icmp .gt 56, 3) := by decide +kernel
theorem dX3_fewestWithALie_60 : decode mX3_fewestWithALie.2.1 60 = .ok (.iconst 0, 1) := by decide +kernel
theorem dX3_fewestWithALie_61 : decode mX3_fewestWithALie.2.1 61 = .ok (.istore 4, 2) := by decide +kernel
theorem dX3_fewestWithALie_63 : decode mX3_fewestWithALie.2.1 63 = .ok (.iload 4, 2) := by decide +kernel
theorem dX3_fewestWithALie_65 : decode mX3_fewestWithALie.2.1 65 = .ok (.iload_n 2, 1) := by decide +kernel
theorem dX3_fewestWithALie_66 : decode mX3_fewestWithALie.2.1 66 = .ok (.if_icmp .gt 41, 3) := by decide +kernel
theorem dX3_fewestWithALie_69 : decode mX3_fewestWithALie.2.1 69 = .ok (.iload_n 3, 1) := by decide +kernel
theorem dX3_fewestWithALie_70 : decode mX3_fewestWithALie.2.1 70 = .ok (.iload 4, 2) := by decide +kernel
theorem dX3_fewestWithALie_72 : decode mX3_fewestWithALie.2.1 72 = .ok (.iand, 1) := by decide +kernel
theorem dX3_fewestWithALie_73 : decode mX3_fewestWithALie.2.1 73 = .ok (.ifCond .ne 28, 3) := by decide +kernel
theorem dX3_fewestWithALie_76 : decode mX3_fewestWithALie.2.1 76 = .ok (.aload_n 0, 1) := by decide +kernel
theorem dX3_fewestWithALie_77 : decode mX3_fewestWithALie.2.1 77 = .ok (.getfield 11, 3) := by decide +kernel
theorem dX3_fewestWithALie_80 : decode mX3_fewestWithALie.2.1 80 = .ok (.iload_n 3, 1) := by decide +kernel
theorem dX3_fewestWithALie_81 : decode mX3_fewestWithALie.2.1 81 = .ok (.bipush 64, 2) := by decide +kernel
theorem dX3_fewestWithALie_83 : decode mX3_fewestWithALie.2.1 83 = .ok (.imul, 1) := by decide +kernel
theorem dX3_fewestWithALie_84 : decode mX3_fewestWithALie.2.1 84 = .ok (.iload 4, 2) := by decide +kernel
theorem dX3_fewestWithALie_86 : decode mX3_fewestWithALie.2.1 86 = .ok (.iadd, 1) := by decide +kernel
theorem dX3_fewestWithALie_87 : decode mX3_fewestWithALie.2.1 87 = .ok (.aload_n 0, 1) := by decide +kernel
theorem dX3_fewestWithALie_88 : decode mX3_fewestWithALie.2.1 88 = .ok (.iload_n 3, 1) := by decide +kernel
theorem dX3_fewestWithALie_89 : decode mX3_fewestWithALie.2.1 89 = .ok (.iload 4, 2) := by decide +kernel
theorem dX3_fewestWithALie_91 : decode mX3_fewestWithALie.2.1 91 = .ok (.aload_n 1, 1) := by decide +kernel
theorem dX3_fewestWithALie_92 : decode mX3_fewestWithALie.2.1 92 = .ok (.invokevirtual 49, 3) := by decide +kernel
theorem dX3_fewestWithALie_95 : decode mX3_fewestWithALie.2.1 95 = .ok (.invokevirtual 53, 3) := by decide +kernel
theorem dX3_fewestWithALie_98 : decode mX3_fewestWithALie.2.1 98 = .ok (.invokestatic 43, 3) := by decide +kernel
theorem dX3_fewestWithALie_101 : decode mX3_fewestWithALie.2.1 101 = .ok (.iinc 4 1, 3) := by decide +kernel
theorem dX3_fewestWithALie_104 : decode mX3_fewestWithALie.2.1 104 = .ok (.goto (-41), 3) := by decide +kernel
theorem dX3_fewestWithALie_107 : decode mX3_fewestWithALie.2.1 107 = .ok (.iinc 3 1, 3) := by decide +kernel
theorem dX3_fewestWithALie_110 : decode mX3_fewestWithALie.2.1 110 = .ok (.goto (-55), 3) := by decide +kernel
theorem dX3_fewestWithALie_113 : decode mX3_fewestWithALie.2.1 113 = .ok (.aload_n 0, 1) := by decide +kernel
theorem dX3_fewestWithALie_114 : decode mX3_fewestWithALie.2.1 114 = .ok (.getfield 11, 3) := by decide +kernel
theorem dX3_fewestWithALie_117 : decode mX3_fewestWithALie.2.1 117 = .ok (.iload_n 2, 1) := by decide +kernel
theorem dX3_fewestWithALie_118 : decode mX3_fewestWithALie.2.1 118 = .ok (.bipush 64, 2) := by decide +kernel
theorem dX3_fewestWithALie_120 : decode mX3_fewestWithALie.2.1 120 = .ok (.imul, 1) := by decide +kernel
theorem dX3_fewestWithALie_121 : decode mX3_fewestWithALie.2.1 121 = .ok (.invokestatic 57, 3) := by decide +kernel
theorem dX3_fewestWithALie_124 : decode mX3_fewestWithALie.2.1 124 = .ok (.ireturn, 1) := by decide +kernel
theorem dX3_loadTruths_0 : decode mX3_loadTruths.2.1 0 = .ok (.aload_n 0, 1) := by decide +kernel
theorem dX3_loadTruths_1 : decode mX3_loadTruths.2.1 1 = .ok (.getfield 20, 3) := by decide +kernel
theorem dX3_loadTruths_4 : decode mX3_loadTruths.2.1 4 = .ok (.iconst 0, 1) := by decide +kernel
theorem dX3_loadTruths_5 : decode mX3_loadTruths.2.1 5 = .ok (.invokestatic 61, 3) := by decide +kernel
theorem dX3_loadTruths_8 : decode mX3_loadTruths.2.1 8 = .ok (.iconst 0, 1) := by decide +kernel
theorem dX3_loadTruths_9 : decode mX3_loadTruths.2.1 9 = .ok (.istore_n 2, 1) := by decide +kernel
theorem dX3_loadTruths_10 : decode mX3_loadTruths.2.1 10 = .ok (.iload_n 2, 1) := by decide +kernel
theorem dX3_loadTruths_11 : decode mX3_loadTruths.2.1 11 = .ok (.aload_n 1, 1) := by decide +kernel
theorem dX3_loadTruths_12 : decode mX3_loadTruths.2.1 12 = .ok (.getfield 23, 3) := by decide +kernel
theorem dX3_loadTruths_15 : decode mX3_loadTruths.2.1 15 = .ok (.if_icmp .ge 53, 3) := by decide +kernel
theorem dX3_loadTruths_18 : decode mX3_loadTruths.2.1 18 = .ok (.iconst 0, 1) := by decide +kernel
theorem dX3_loadTruths_19 : decode mX3_loadTruths.2.1 19 = .ok (.istore_n 3, 1) := by decide +kernel
theorem dX3_loadTruths_20 : decode mX3_loadTruths.2.1 20 = .ok (.iload_n 3, 1) := by decide +kernel
theorem dX3_loadTruths_21 : decode mX3_loadTruths.2.1 21 = .ok (.aload_n 0, 1) := by decide +kernel
theorem dX3_loadTruths_22 : decode mX3_loadTruths.2.1 22 = .ok (.getfield 20, 3) := by decide +kernel
theorem dX3_loadTruths_25 : decode mX3_loadTruths.2.1 25 = .ok (.arraylength, 1) := by decide +kernel
theorem dX3_loadTruths_26 : decode mX3_loadTruths.2.1 26 = .ok (.if_icmp .ge 36, 3) := by decide +kernel
theorem dX3_loadTruths_29 : decode mX3_loadTruths.2.1 29 = .ok (.aload_n 1, 1) := by decide +kernel
theorem dX3_loadTruths_30 : decode mX3_loadTruths.2.1 30 = .ok (.getfield 65, 3) := by decide +kernel
theorem dX3_loadTruths_33 : decode mX3_loadTruths.2.1 33 = .ok (.iload_n 2, 1) := by decide +kernel
theorem dX3_loadTruths_34 : decode mX3_loadTruths.2.1 34 = .ok (.invokestatic 57, 3) := by decide +kernel
theorem dX3_loadTruths_37 : decode mX3_loadTruths.2.1 37 = .ok (.iload_n 3, 1) := by decide +kernel
theorem dX3_loadTruths_38 : decode mX3_loadTruths.2.1 38 = .ok (.invokestatic 68, 3) := by decide +kernel
theorem dX3_loadTruths_41 : decode mX3_loadTruths.2.1 41 = .ok (.ifCond .eq 15, 3) := by decide +kernel
theorem dX3_loadTruths_44 : decode mX3_loadTruths.2.1 44 = .ok (.aload_n 0, 1) := by decide +kernel
theorem dX3_loadTruths_45 : decode mX3_loadTruths.2.1 45 = .ok (.getfield 20, 3) := by decide +kernel
theorem dX3_loadTruths_48 : decode mX3_loadTruths.2.1 48 = .ok (.iload_n 3, 1) := by decide +kernel
theorem dX3_loadTruths_49 : decode mX3_loadTruths.2.1 49 = .ok (.dup2, 1) := by decide +kernel
theorem dX3_loadTruths_50 : decode mX3_loadTruths.2.1 50 = .ok (.iaload, 1) := by decide +kernel
theorem dX3_loadTruths_51 : decode mX3_loadTruths.2.1 51 = .ok (.iconst 1, 1) := by decide +kernel
theorem dX3_loadTruths_52 : decode mX3_loadTruths.2.1 52 = .ok (.iload_n 2, 1) := by decide +kernel
theorem dX3_loadTruths_53 : decode mX3_loadTruths.2.1 53 = .ok (.ishl, 1) := by decide +kernel
theorem dX3_loadTruths_54 : decode mX3_loadTruths.2.1 54 = .ok (.ior, 1) := by decide +kernel
theorem dX3_loadTruths_55 : decode mX3_loadTruths.2.1 55 = .ok (.iastore, 1) := by decide +kernel
theorem dX3_loadTruths_56 : decode mX3_loadTruths.2.1 56 = .ok (.iinc 3 1, 3) := by decide +kernel
theorem dX3_loadTruths_59 : decode mX3_loadTruths.2.1 59 = .ok (.goto (-39), 3) := by decide +kernel
theorem dX3_loadTruths_62 : decode mX3_loadTruths.2.1 62 = .ok (.iinc 2 1, 3) := by decide +kernel
theorem dX3_loadTruths_65 : decode mX3_loadTruths.2.1 65 = .ok (.goto (-55), 3) := by decide +kernel
theorem dX3_loadTruths_68 : decode mX3_loadTruths.2.1 68 = .ok (.return_, 1) := by decide +kernel
theorem dX3_isAlike_0 : decode mX3_isAlike.2.1 0 = .ok (.iload_n 1, 1) := by decide +kernel
theorem dX3_isAlike_1 : decode mX3_isAlike.2.1 1 = .ok (.i2l, 1) := by decide +kernel
theorem dX3_isAlike_2 : decode mX3_isAlike.2.1 2 = .ok (.invokestatic 72, 3) := by decide +kernel
theorem dX3_isAlike_5 : decode mX3_isAlike.2.1 5 = .ok (.istore_n 2, 1) := by decide +kernel
theorem dX3_isAlike_6 : decode mX3_isAlike.2.1 6 = .ok (.iconst 0, 1) := by decide +kernel
theorem dX3_isAlike_7 : decode mX3_isAlike.2.1 7 = .ok (.istore_n 3, 1) := by decide +kernel
theorem dX3_isAlike_8 : decode mX3_isAlike.2.1 8 = .ok (.iload_n 3, 1) := by decide +kernel
theorem dX3_isAlike_9 : decode mX3_isAlike.2.1 9 = .ok (.aload_n 0, 1) := by decide +kernel
theorem dX3_isAlike_10 : decode mX3_isAlike.2.1 10 = .ok (.getfield 23, 3) := by decide +kernel
theorem dX3_isAlike_13 : decode mX3_isAlike.2.1 13 = .ok (.if_icmp .ge 38, 3) := by decide +kernel
theorem dX3_isAlike_16 : decode mX3_isAlike.2.1 16 = .ok (.iload_n 1, 1) := by decide +kernel
theorem dX3_isAlike_17 : decode mX3_isAlike.2.1 17 = .ok (.iload_n 3, 1) := by decide +kernel
theorem dX3_isAlike_18 : decode mX3_isAlike.2.1 18 = .ok (.invokestatic 68, 3) := by decide +kernel
theorem dX3_isAlike_21 : decode mX3_isAlike.2.1 21 = .ok (.ifCond .eq 24, 3) := by decide +kernel
theorem dX3_isAlike_24 : decode mX3_isAlike.2.1 24 = .ok (.aload_n 0, 1) := by decide +kernel
theorem dX3_isAlike_25 : decode mX3_isAlike.2.1 25 = .ok (.getfield 76, 3) := by decide +kernel
theorem dX3_isAlike_28 : decode mX3_isAlike.2.1 28 = .ok (.iload_n 3, 1) := by decide +kernel
theorem dX3_isAlike_29 : decode mX3_isAlike.2.1 29 = .ok (.invokestatic 57, 3) := by decide +kernel
theorem dX3_isAlike_32 : decode mX3_isAlike.2.1 32 = .ok (.aload_n 0, 1) := by decide +kernel
theorem dX3_isAlike_33 : decode mX3_isAlike.2.1 33 = .ok (.getfield 76, 3) := by decide +kernel
theorem dX3_isAlike_36 : decode mX3_isAlike.2.1 36 = .ok (.iload_n 2, 1) := by decide +kernel
theorem dX3_isAlike_37 : decode mX3_isAlike.2.1 37 = .ok (.invokestatic 57, 3) := by decide +kernel
theorem dX3_isAlike_40 : decode mX3_isAlike.2.1 40 = .ok (.if_icmp .eq 5, 3) := by decide +kernel
theorem dX3_isAlike_43 : decode mX3_isAlike.2.1 43 = .ok (.iconst 0, 1) := by decide +kernel
theorem dX3_isAlike_44 : decode mX3_isAlike.2.1 44 = .ok (.ireturn, 1) := by decide +kernel
theorem dX3_isAlike_45 : decode mX3_isAlike.2.1 45 = .ok (.iinc 3 1, 3) := by decide +kernel
theorem dX3_isAlike_48 : decode mX3_isAlike.2.1 48 = .ok (.goto (-40), 3) := by decide +kernel
theorem dX3_isAlike_51 : decode mX3_isAlike.2.1 51 = .ok (.iconst 1, 1) := by decide +kernel
theorem dX3_isAlike_52 : decode mX3_isAlike.2.1 52 = .ok (.ireturn, 1) := by decide +kernel
theorem dX3_needOf_0 : decode mX3_needOf.2.1 0 = .ok (.aload_n 0, 1) := by decide +kernel
theorem dX3_needOf_1 : decode mX3_needOf.2.1 1 = .ok (.getfield 15, 3) := by decide +kernel
theorem dX3_needOf_4 : decode mX3_needOf.2.1 4 = .ok (.iload_n 1, 1) := by decide +kernel
theorem dX3_needOf_5 : decode mX3_needOf.2.1 5 = .ok (.iload_n 2, 1) := by decide +kernel
theorem dX3_needOf_6 : decode mX3_needOf.2.1 6 = .ok (.ior, 1) := by decide +kernel
theorem dX3_needOf_7 : decode mX3_needOf.2.1 7 = .ok (.invokestatic 57, 3) := by decide +kernel
theorem dX3_needOf_10 : decode mX3_needOf.2.1 10 = .ok (.ifCond .eq 5, 3) := by decide +kernel
theorem dX3_needOf_13 : decode mX3_needOf.2.1 13 = .ok (.iconst 0, 1) := by decide +kernel
theorem dX3_needOf_14 : decode mX3_needOf.2.1 14 = .ok (.ireturn, 1) := by decide +kernel
theorem dX3_needOf_15 : decode mX3_needOf.2.1 15 = .ok (.bipush 13, 2) := by decide +kernel
theorem dX3_needOf_17 : decode mX3_needOf.2.1 17 = .ok (.istore 4, 2) := by decide +kernel
theorem dX3_needOf_19 : decode mX3_needOf.2.1 19 = .ok (.iconst 0, 1) := by decide +kernel
theorem dX3_needOf_20 : decode mX3_needOf.2.1 20 = .ok (.istore 5, 2) := by decide +kernel
theorem dX3_needOf_22 : decode mX3_needOf.2.1 22 = .ok (.iload 5, 2) := by decide +kernel
theorem dX3_needOf_24 : decode mX3_needOf.2.1 24 = .ok (.iload_n 3, 1) := by decide +kernel
theorem dX3_needOf_25 : decode mX3_needOf.2.1 25 = .ok (.if_icmp .ge 26, 3) := by decide +kernel
theorem dX3_needOf_28 : decode mX3_needOf.2.1 28 = .ok (.iload 4, 2) := by decide +kernel
theorem dX3_needOf_30 : decode mX3_needOf.2.1 30 = .ok (.iconst 1, 1) := by decide +kernel
theorem dX3_needOf_31 : decode mX3_needOf.2.1 31 = .ok (.aload_n 0, 1) := by decide +kernel
theorem dX3_needOf_32 : decode mX3_needOf.2.1 32 = .ok (.iload_n 1, 1) := by decide +kernel
theorem dX3_needOf_33 : decode mX3_needOf.2.1 33 = .ok (.iload_n 2, 1) := by decide +kernel
theorem dX3_needOf_34 : decode mX3_needOf.2.1 34 = .ok (.iload 5, 2) := by decide +kernel
theorem dX3_needOf_36 : decode mX3_needOf.2.1 36 = .ok (.invokevirtual 79, 3) := by decide +kernel
theorem dX3_needOf_39 : decode mX3_needOf.2.1 39 = .ok (.iadd, 1) := by decide +kernel
theorem dX3_needOf_40 : decode mX3_needOf.2.1 40 = .ok (.invokestatic 29, 3) := by decide +kernel
theorem dX3_needOf_43 : decode mX3_needOf.2.1 43 = .ok (.istore 4, 2) := by decide +kernel
theorem dX3_needOf_45 : decode mX3_needOf.2.1 45 = .ok (.iinc 5 1, 3) := by decide +kernel
theorem dX3_needOf_48 : decode mX3_needOf.2.1 48 = .ok (.goto (-26), 3) := by decide +kernel
theorem dX3_needOf_51 : decode mX3_needOf.2.1 51 = .ok (.iload 4, 2) := by decide +kernel
theorem dX3_needOf_53 : decode mX3_needOf.2.1 53 = .ok (.ireturn, 1) := by decide +kernel
theorem dX3_worstBehind_0 : decode mX3_worstBehind.2.1 0 = .ok (.iconst 0, 1) := by decide +kernel
theorem dX3_worstBehind_1 : decode mX3_worstBehind.2.1 1 = .ok (.istore 4, 2) := by decide +kernel
theorem dX3_worstBehind_3 : decode mX3_worstBehind.2.1 3 = .ok (.iload_n 3, 1) := by decide +kernel
theorem dX3_worstBehind_4 : decode mX3_worstBehind.2.1 4 = .ok (.istore 5, 2) := by decide +kernel
theorem dX3_worstBehind_6 : decode mX3_worstBehind.2.1 6 = .ok (.iload 5, 2) := by decide +kernel
theorem dX3_worstBehind_8 : decode mX3_worstBehind.2.1 8 = .ok (.aload_n 0, 1) := by decide +kernel
theorem dX3_worstBehind_9 : decode mX3_worstBehind.2.1 9 = .ok (.getfield 20, 3) := by decide +kernel
theorem dX3_worstBehind_12 : decode mX3_worstBehind.2.1 12 = .ok (.arraylength, 1) := by decide +kernel
theorem dX3_worstBehind_13 : decode mX3_worstBehind.2.1 13 = .ok (.if_icmp .ge 76, 3) := by decide +kernel
theorem dX3_worstBehind_16 : decode mX3_worstBehind.2.1 16 = .ok (.aload_n 0, 1) := by decide +kernel
theorem dX3_worstBehind_17 : decode mX3_worstBehind.2.1 17 = .ok (.getfield 20, 3) := by decide +kernel
theorem dX3_worstBehind_20 : decode mX3_worstBehind.2.1 20 = .ok (.iload 5, 2) := by decide +kernel
theorem dX3_worstBehind_22 : decode mX3_worstBehind.2.1 22 = .ok (.invokestatic 57, 3) := by decide +kernel
theorem dX3_worstBehind_25 : decode mX3_worstBehind.2.1 25 = .ok (.istore 6, 2) := by decide +kernel
theorem dX3_worstBehind_27 : decode mX3_worstBehind.2.1 27 = .ok (.iload_n 1, 1) := by decide +kernel
theorem dX3_worstBehind_28 : decode mX3_worstBehind.2.1 28 = .ok (.iload 6, 2) := by decide +kernel
theorem dX3_worstBehind_30 : decode mX3_worstBehind.2.1 30 = .ok (.iand, 1) := by decide +kernel
theorem dX3_worstBehind_31 : decode mX3_worstBehind.2.1 31 = .ok (.istore 7, 2) := by decide +kernel
theorem dX3_worstBehind_33 : decode mX3_worstBehind.2.1 33 = .ok (.iload_n 2, 1) := by decide +kernel
theorem dX3_worstBehind_34 : decode mX3_worstBehind.2.1 34 = .ok (.iload 6, 2) := by decide +kernel
theorem dX3_worstBehind_36 : decode mX3_worstBehind.2.1 36 = .ok (.iand, 1) := by decide +kernel
theorem dX3_worstBehind_37 : decode mX3_worstBehind.2.1 37 = .ok (.iload_n 1, 1) := by decide +kernel
theorem dX3_worstBehind_38 : decode mX3_worstBehind.2.1 38 = .ok (.iload 6, 2) := by decide +kernel
theorem dX3_worstBehind_40 : decode mX3_worstBehind.2.1 40 = .ok (.iconst (-1), 1) := by decide +kernel
theorem dX3_worstBehind_41 : decode mX3_worstBehind.2.1 41 = .ok (.ixor, 1) := by decide +kernel
theorem dX3_worstBehind_42 : decode mX3_worstBehind.2.1 42 = .ok (.iand, 1) := by decide +kernel
theorem dX3_worstBehind_43 : decode mX3_worstBehind.2.1 43 = .ok (.ior, 1) := by decide +kernel
theorem dX3_worstBehind_44 : decode mX3_worstBehind.2.1 44 = .ok (.istore 8, 2) := by decide +kernel
theorem dX3_worstBehind_46 : decode mX3_worstBehind.2.1 46 = .ok (.iload 7, 2) := by decide +kernel
theorem dX3_worstBehind_48 : decode mX3_worstBehind.2.1 48 = .ok (.iload_n 1, 1) := by decide +kernel
theorem dX3_worstBehind_49 : decode mX3_worstBehind.2.1 49 = .ok (.if_icmp .ne 12, 3) := by decide +kernel
theorem dX3_worstBehind_52 : decode mX3_worstBehind.2.1 52 = .ok (.iload 8, 2) := by decide +kernel
theorem dX3_worstBehind_54 : decode mX3_worstBehind.2.1 54 = .ok (.iload_n 2, 1) := by decide +kernel
theorem dX3_worstBehind_55 : decode mX3_worstBehind.2.1 55 = .ok (.if_icmp .ne 6, 3) := by decide +kernel
theorem dX3_worstBehind_58 : decode mX3_worstBehind.2.1 58 = .ok (.bipush 13, 2) := by decide +kernel
theorem dX3_worstBehind_60 : decode mX3_worstBehind.2.1 60 = .ok (.ireturn, 1) := by decide +kernel
theorem dX3_worstBehind_61 : decode mX3_worstBehind.2.1 61 = .ok (.iload 4, 2) := by decide +kernel
theorem dX3_worstBehind_63 : decode mX3_worstBehind.2.1 63 = .ok (.aload_n 0, 1) := by decide +kernel
theorem dX3_worstBehind_64 : decode mX3_worstBehind.2.1 64 = .ok (.getfield 11, 3) := by decide +kernel
theorem dX3_worstBehind_67 : decode mX3_worstBehind.2.1 67 = .ok (.iload 7, 2) := by decide +kernel
theorem dX3_worstBehind_69 : decode mX3_worstBehind.2.1 69 = .ok (.bipush 64, 2) := by decide +kernel
theorem dX3_worstBehind_71 : decode mX3_worstBehind.2.1 71 = .ok (.imul, 1) := by decide +kernel
theorem dX3_worstBehind_72 : decode mX3_worstBehind.2.1 72 = .ok (.iload 8, 2) := by decide +kernel
theorem dX3_worstBehind_74 : decode mX3_worstBehind.2.1 74 = .ok (.iadd, 1) := by decide +kernel
theorem dX3_worstBehind_75 : decode mX3_worstBehind.2.1 75 = .ok (.invokestatic 57, 3) := by decide +kernel
theorem dX3_worstBehind_78 : decode mX3_worstBehind.2.1 78 = .ok (.invokestatic 82, 3) := by decide +kernel
theorem dX3_worstBehind_81 : decode mX3_worstBehind.2.1 81 = .ok (.istore 4, 2) := by decide +kernel
theorem dX3_worstBehind_83 : decode mX3_worstBehind.2.1 83 = .ok (.iinc 5 10, 3) := by decide +kernel
theorem dX3_worstBehind_86 : decode mX3_worstBehind.2.1 86 = .ok (.goto (-80), 3) := by decide +kernel
theorem dX3_worstBehind_89 : decode mX3_worstBehind.2.1 89 = .ok (.iload 4, 2) := by decide +kernel
theorem dX3_worstBehind_91 : decode mX3_worstBehind.2.1 91 = .ok (.ireturn, 1) := by decide +kernel
theorem bX3_fewestWithALie_0 {d : Nat} {g : xSt} {r : Option Value × xSt} {g16 : xSt} (W : xWf g) (hk16 : xCallM d mX3_loadTruths [.ref 90, .ref 76] g = some (none, g16)) (W16 : xWf g16) (k : xX (d + 1) mX3_fewestWithALie 21 [some (.ref 90), some (.ref 76), some (.int ((1 <<< ((imin (xI g 76 2) 6) &&& 31)) - 1)), some (.int 0), none] [] g16 = some r) : xX (d + 1) mX3_fewestWithALie 0 [some (.ref 90), some (.ref 76), none, none, none] [] g = some r :=
  Y_iconst 1 dX3_fewestWithALie_0 ic_1 <| Y_aload_n dX3_fewestWithALie_1 rfl <| Y_getI dX3_fewestWithALie_2 f_3_23 ft_7_2 (xis W 76 7 s_76 (Nat.le_of_ble_eq_true rfl)) <| Y_bipush 6 dX3_fewestWithALie_5 bp_6 <| Y_min dX3_fewestWithALie_7 km_3_29 kn_3_29 rfl <| Y_ishl dX3_fewestWithALie_10 <| Y_iconst 1 dX3_fewestWithALie_11 ic_1 <| Y_isub dX3_fewestWithALie_12 <| Y_istore_n dX3_fewestWithALie_13 rfl rfl <| Y_aload_n dX3_fewestWithALie_14 rfl <| Y_aload_n dX3_fewestWithALie_15 rfl <| Y_callV0 dX3_fewestWithALie_16 cl_3_35 rfl rfl (xis W 90 3 s_90 (Nat.le_of_ble_eq_true rfl)) rfl rfl rfl (hk16) <| Y_iconst 0 dX3_fewestWithALie_19 ic_0 <| Y_istore_n dX3_fewestWithALie_20 rfl rfl <| X_le (xle_s (xle_s (xle_s (xle_s (xle_n xle_0))))) k
theorem bX3_fewestWithALie_21 {d : Nat} {g : xSt} {r : Option Value × xSt} {a2 a3 : Int32} (k1 : a2 < a3 → xX (d + 1) mX3_fewestWithALie 53 [some (.ref 90), some (.ref 76), some (.int a2), none, none] [] g = some r) (k2 : ¬ (a2 < a3) → xX (d + 1) mX3_fewestWithALie 26 [some (.ref 90), some (.ref 76), some (.int a2), some (.int a3), none] [] g = some r) : xX (d + 1) mX3_fewestWithALie 21 [some (.ref 90), some (.ref 76), some (.int a2), some (.int a3), none] [] g = some r :=
  Y_iload_n dX3_fewestWithALie_21 rfl <| Y_iload_n dX3_fewestWithALie_22 rfl <| Y_gt 53 dX3_fewestWithALie_23 rfl (fun q => X_le (xle_s (xle_s (xle_s (xle_n (xle_n xle_0))))) (k1 q)) (fun q => X_le (xle_s (xle_s (xle_s (xle_s (xle_n xle_0))))) (k2 q))
theorem bX3_fewestWithALie_26 {d : Nat} {g : xSt} {r : Option Value × xSt} {a2 a3 r33 : Int32} {g33 : xSt} (W : xWf g) (hk33 : xCallM d mX3_isAlike [.ref 76, .int a3] g = some (some (.int r33), g33)) (W33 : xWf g33) (k1 : r33 = 0 → xX (d + 1) mX3_fewestWithALie 43 [some (.ref 90), some (.ref 76), some (.int a2), some (.int a3), none] [.int a3, .ref 92] g33 = some r) (k2 : ¬ (r33 = 0) → xX (d + 1) mX3_fewestWithALie 39 [some (.ref 90), some (.ref 76), some (.int a2), some (.int a3), none] [.int a3, .ref 92] g33 = some r) : xX (d + 1) mX3_fewestWithALie 26 [some (.ref 90), some (.ref 76), some (.int a2), some (.int a3), none] [] g = some r :=
  Y_aload_n dX3_fewestWithALie_26 rfl <| Y_getR dX3_fewestWithALie_27 f_3_15 (by rw [ft_3_1]; rfl) (xis W 90 3 s_90 (Nat.le_of_ble_eq_true rfl)) (xptr W 90 1 p_90_1) <| Y_iload_n dX3_fewestWithALie_30 rfl <| Y_aload_n dX3_fewestWithALie_31 rfl <| Y_iload_n dX3_fewestWithALie_32 rfl <| Y_callS1 dX3_fewestWithALie_33 cl_3_39 rfl rfl rfl rfl rfl (hk33) <| Y_eq0 43 dX3_fewestWithALie_36 rfl (fun q => X_le (xle_s (xle_s (xle_s (xle_s (xle_n xle_0))))) (k1 q)) (fun q => X_le (xle_s (xle_s (xle_s (xle_s (xle_n xle_0))))) (k2 q))
theorem bX3_fewestWithALie_39 {d : Nat} {g : xSt} {r : Option Value × xSt} {a2 a3 s0 : Int32} (k : xX (d + 1) mX3_fewestWithALie 44 [some (.ref 90), some (.ref 76), some (.int a2), some (.int a3), none] [.int 1, .int s0, .ref 92] g = some r) : xX (d + 1) mX3_fewestWithALie 39 [some (.ref 90), some (.ref 76), some (.int a2), some (.int a3), none] [.int s0, .ref 92] g = some r :=
  Y_iconst 1 dX3_fewestWithALie_39 ic_1 <| Y_goto 44 dX3_fewestWithALie_40 rfl <| X_le (xle_s (xle_s (xle_s (xle_s (xle_n xle_0))))) k
theorem bX3_fewestWithALie_43 {d : Nat} {g : xSt} {r : Option Value × xSt} {a2 a3 s0 : Int32} (k : xX (d + 1) mX3_fewestWithALie 44 [some (.ref 90), some (.ref 76), some (.int a2), some (.int a3), none] [.int 0, .int s0, .ref 92] g = some r) : xX (d + 1) mX3_fewestWithALie 43 [some (.ref 90), some (.ref 76), some (.int a2), some (.int a3), none] [.int s0, .ref 92] g = some r :=
  Y_iconst 0 dX3_fewestWithALie_43 ic_0 <| X_le (xle_s (xle_s (xle_s (xle_s (xle_n xle_0))))) k
theorem bX3_fewestWithALie_44 {d : Nat} {g : xSt} {r : Option Value × xSt} {a2 a3 s1 s0 : Int32} (W : xWf g) (k : xX (d + 1) mX3_fewestWithALie 21 [some (.ref 90), some (.ref 76), some (.int a2), some (.int (a3 + 1)), none] [] (xput g 92 64 s1 s0) = some r) : xX (d + 1) mX3_fewestWithALie 44 [some (.ref 90), some (.ref 76), some (.int a2), some (.int a3), none] [.int s0, .int s1, .ref 92] g = some r :=
  Y_callS0 dX3_fewestWithALie_44 cl_3_43 rfl rfl rfl rfl rfl (c_put (xarr W (o := 92) s_92 (Nat.le_of_ble_eq_true rfl))) <| Y_iinc 1 dX3_fewestWithALie_47 rfl ic_1 rfl rfl <| Y_goto 21 dX3_fewestWithALie_50 rfl <| X_le (xle_s (xle_s (xle_s (xle_s (xle_n xle_0))))) k
theorem bX3_fewestWithALie_53 {d : Nat} {g : xSt} {r : Option Value × xSt} {a2 : Int32} (k : xX (d + 1) mX3_fewestWithALie 55 [some (.ref 90), some (.ref 76), some (.int a2), some (.int 0), none] [] g = some r) : xX (d + 1) mX3_fewestWithALie 53 [some (.ref 90), some (.ref 76), some (.int a2), none, none] [] g = some r :=
  Y_iconst 0 dX3_fewestWithALie_53 ic_0 <| Y_istore_n dX3_fewestWithALie_54 rfl rfl <| X_le (xle_s (xle_s (xle_s (xle_s (xle_n xle_0))))) k
theorem bX3_fewestWithALie_55 {d : Nat} {g : xSt} {r : Option Value × xSt} {a2 a3 : Int32} (k1 : a2 < a3 → xX (d + 1) mX3_fewestWithALie 113 [some (.ref 90), none, some (.int a2), none, none] [] g = some r) (k2 : ¬ (a2 < a3) → xX (d + 1) mX3_fewestWithALie 60 [some (.ref 90), some (.ref 76), some (.int a2), some (.int a3), none] [] g = some r) : xX (d + 1) mX3_fewestWithALie 55 [some (.ref 90), some (.ref 76), some (.int a2), some (.int a3), none] [] g = some r :=
  Y_iload_n dX3_fewestWithALie_55 rfl <| Y_iload_n dX3_fewestWithALie_56 rfl <| Y_gt 113 dX3_fewestWithALie_57 rfl (fun q => X_le (xle_s (xle_n (xle_s (xle_n (xle_n xle_0))))) (k1 q)) (fun q => X_le (xle_s (xle_s (xle_s (xle_s (xle_n xle_0))))) (k2 q))
theorem bX3_fewestWithALie_60 {d : Nat} {g : xSt} {r : Option Value × xSt} {a2 a3 : Int32} (k : xX (d + 1) mX3_fewestWithALie 63 [some (.ref 90), some (.ref 76), some (.int a2), some (.int a3), some (.int 0)] [] g = some r) : xX (d + 1) mX3_fewestWithALie 60 [some (.ref 90), some (.ref 76), some (.int a2), some (.int a3), none] [] g = some r :=
  Y_iconst 0 dX3_fewestWithALie_60 ic_0 <| Y_istore dX3_fewestWithALie_61 rfl rfl <| X_le (xle_s (xle_s (xle_s (xle_s (xle_s xle_0))))) k
theorem bX3_fewestWithALie_63 {d : Nat} {g : xSt} {r : Option Value × xSt} {a2 a3 a4 : Int32} (k1 : a2 < a4 → xX (d + 1) mX3_fewestWithALie 107 [some (.ref 90), some (.ref 76), some (.int a2), some (.int a3), none] [] g = some r) (k2 : ¬ (a2 < a4) → xX (d + 1) mX3_fewestWithALie 69 [some (.ref 90), some (.ref 76), some (.int a2), some (.int a3), some (.int a4)] [] g = some r) : xX (d + 1) mX3_fewestWithALie 63 [some (.ref 90), some (.ref 76), some (.int a2), some (.int a3), some (.int a4)] [] g = some r :=
  Y_iload dX3_fewestWithALie_63 rfl <| Y_iload_n dX3_fewestWithALie_65 rfl <| Y_gt 107 dX3_fewestWithALie_66 rfl (fun q => X_le (xle_s (xle_s (xle_s (xle_s (xle_n xle_0))))) (k1 q)) (fun q => X_le (xle_s (xle_s (xle_s (xle_s (xle_s xle_0))))) (k2 q))
theorem bX3_fewestWithALie_69 {d : Nat} {g : xSt} {r : Option Value × xSt} {a2 a3 a4 : Int32} (k1 : (a3 &&& a4) = 0 → xX (d + 1) mX3_fewestWithALie 76 [some (.ref 90), some (.ref 76), some (.int a2), some (.int a3), some (.int a4)] [] g = some r) (k2 : ¬ ((a3 &&& a4) = 0) → xX (d + 1) mX3_fewestWithALie 101 [some (.ref 90), some (.ref 76), some (.int a2), some (.int a3), some (.int a4)] [] g = some r) : xX (d + 1) mX3_fewestWithALie 69 [some (.ref 90), some (.ref 76), some (.int a2), some (.int a3), some (.int a4)] [] g = some r :=
  Y_iload_n dX3_fewestWithALie_69 rfl <| Y_iload dX3_fewestWithALie_70 rfl <| Y_iand dX3_fewestWithALie_72 <| Y_ne0 101 dX3_fewestWithALie_73 rfl (fun q => X_le (xle_s (xle_s (xle_s (xle_s (xle_s xle_0))))) (k1 q)) (fun q => X_le (xle_s (xle_s (xle_s (xle_s (xle_s xle_0))))) (k2 q))
theorem bX3_fewestWithALie_76 {d : Nat} {g : xSt} {r : Option Value × xSt} {a2 a3 a4 r92 r95 : Int32} {g92 g95 : xSt} (W : xWf g) (hk92 : xCallM d mX8_pairs [.ref 76] g = some (some (.int r92), g92)) (W92 : xWf g92) (hk95 : xCallM d mX3_needOf [.ref 90, .int a3, .int a4, .int r92] g92 = some (some (.int r95), g95)) (W95 : xWf g95) (k : xX (d + 1) mX3_fewestWithALie 101 [some (.ref 90), some (.ref 76), some (.int a2), some (.int a3), some (.int a4)] [] (xput g95 91 4096 ((a3 * 64) + a4) r95) = some r) : xX (d + 1) mX3_fewestWithALie 76 [some (.ref 90), some (.ref 76), some (.int a2), some (.int a3), some (.int a4)] [] g = some r :=
  Y_aload_n dX3_fewestWithALie_76 rfl <| Y_getR dX3_fewestWithALie_77 f_3_11 (by rw [ft_3_0]; rfl) (xis W 90 3 s_90 (Nat.le_of_ble_eq_true rfl)) (xptr W 90 0 p_90_0) <| Y_iload_n dX3_fewestWithALie_80 rfl <| Y_bipush 64 dX3_fewestWithALie_81 bp_64 <| Y_imul dX3_fewestWithALie_83 <| Y_iload dX3_fewestWithALie_84 rfl <| Y_iadd dX3_fewestWithALie_86 <| Y_aload_n dX3_fewestWithALie_87 rfl <| Y_iload_n dX3_fewestWithALie_88 rfl <| Y_iload dX3_fewestWithALie_89 rfl <| Y_aload_n dX3_fewestWithALie_91 rfl <| Y_callV1 dX3_fewestWithALie_92 cl_3_49 rfl rfl (xis W 76 7 s_76 (Nat.le_of_ble_eq_true rfl)) rfl rfl rfl (hk92) <| Y_callV1 dX3_fewestWithALie_95 cl_3_53 rfl rfl (xis W92 90 3 s_90 (Nat.le_of_ble_eq_true rfl)) rfl rfl rfl (hk95) <| Y_callS0 dX3_fewestWithALie_98 cl_3_43 rfl rfl rfl rfl rfl (c_put (xarr W95 (o := 91) s_91 (Nat.le_of_ble_eq_true rfl))) <| X_le (xle_s (xle_s (xle_s (xle_s (xle_s xle_0))))) k
theorem bX3_fewestWithALie_101 {d : Nat} {g : xSt} {r : Option Value × xSt} {a2 a3 a4 : Int32} (k : xX (d + 1) mX3_fewestWithALie 63 [some (.ref 90), some (.ref 76), some (.int a2), some (.int a3), some (.int (a4 + 1))] [] g = some r) : xX (d + 1) mX3_fewestWithALie 101 [some (.ref 90), some (.ref 76), some (.int a2), some (.int a3), some (.int a4)] [] g = some r :=
  Y_iinc 1 dX3_fewestWithALie_101 rfl ic_1 rfl rfl <| Y_goto 63 dX3_fewestWithALie_104 rfl <| X_le (xle_s (xle_s (xle_s (xle_s (xle_s xle_0))))) k
theorem bX3_fewestWithALie_107 {d : Nat} {g : xSt} {r : Option Value × xSt} {a2 a3 : Int32} (k : xX (d + 1) mX3_fewestWithALie 55 [some (.ref 90), some (.ref 76), some (.int a2), some (.int (a3 + 1)), none] [] g = some r) : xX (d + 1) mX3_fewestWithALie 107 [some (.ref 90), some (.ref 76), some (.int a2), some (.int a3), none] [] g = some r :=
  Y_iinc 1 dX3_fewestWithALie_107 rfl ic_1 rfl rfl <| Y_goto 55 dX3_fewestWithALie_110 rfl <| X_le (xle_s (xle_s (xle_s (xle_s (xle_n xle_0))))) k
theorem bX3_fewestWithALie_113 {d : Nat} {g : xSt} {r : Option Value × xSt} {a2 : Int32} (W : xWf g) (k : r = (some (.int (xat (xI g 91) 4096 (a2 * 64))), g)) : xX (d + 1) mX3_fewestWithALie 113 [some (.ref 90), none, some (.int a2), none, none] [] g = some r :=
  Y_aload_n dX3_fewestWithALie_113 rfl <| Y_getR dX3_fewestWithALie_114 f_3_11 (by rw [ft_3_0]; rfl) (xis W 90 3 s_90 (Nat.le_of_ble_eq_true rfl)) (xptr W 90 0 p_90_0) <| Y_iload_n dX3_fewestWithALie_117 rfl <| Y_bipush 64 dX3_fewestWithALie_118 bp_64 <| Y_imul dX3_fewestWithALie_120 <| Y_callS1 dX3_fewestWithALie_121 cl_3_57 rfl rfl rfl rfl rfl (c_at (xarr W (o := 91) s_91 (Nat.le_of_ble_eq_true rfl))) <| Y_iret dX3_fewestWithALie_124 rfl k
theorem bX3_loadTruths_0 {d : Nat} {g : xSt} {r : Option Value × xSt} {g5 : xSt} (W : xWf g) (hk5 : xCallM d mX7_fill [.ref 93, .int 0] g = some (none, g5)) (W5 : xWf g5) (k : xX (d + 1) mX3_loadTruths 10 [some (.ref 90), some (.ref 76), some (.int 0), none] [] g5 = some r) : xX (d + 1) mX3_loadTruths 0 [some (.ref 90), some (.ref 76), none, none] [] g = some r :=
  Y_aload_n dX3_loadTruths_0 rfl <| Y_getR dX3_loadTruths_1 f_3_20 (by rw [ft_3_2]; rfl) (xis W 90 3 s_90 (Nat.le_of_ble_eq_true rfl)) (xptr W 90 2 p_90_2) <| Y_iconst 0 dX3_loadTruths_4 ic_0 <| Y_callS0 dX3_loadTruths_5 cl_3_61 rfl rfl rfl rfl rfl (hk5) <| Y_iconst 0 dX3_loadTruths_8 ic_0 <| Y_istore_n dX3_loadTruths_9 rfl rfl <| X_le (xle_s (xle_s (xle_s (xle_n xle_0)))) k
theorem bX3_loadTruths_10 {d : Nat} {g : xSt} {r : Option Value × xSt} {a2 : Int32} (W : xWf g) (k1 : (xI g 76 2) ≤ a2 → xX (d + 1) mX3_loadTruths 68 [none, none, none, none] [] g = some r) (k2 : ¬ ((xI g 76 2) ≤ a2) → xX (d + 1) mX3_loadTruths 18 [some (.ref 90), some (.ref 76), some (.int a2), none] [] g = some r) : xX (d + 1) mX3_loadTruths 10 [some (.ref 90), some (.ref 76), some (.int a2), none] [] g = some r :=
  Y_iload_n dX3_loadTruths_10 rfl <| Y_aload_n dX3_loadTruths_11 rfl <| Y_getI dX3_loadTruths_12 f_3_23 ft_7_2 (xis W 76 7 s_76 (Nat.le_of_ble_eq_true rfl)) <| Y_ge 68 dX3_loadTruths_15 rfl (fun q => X_le (xle_n (xle_n (xle_n (xle_n xle_0)))) (k1 q)) (fun q => X_le (xle_s (xle_s (xle_s (xle_n xle_0)))) (k2 q))
theorem bX3_loadTruths_18 {d : Nat} {g : xSt} {r : Option Value × xSt} {a2 : Int32} (k : xX (d + 1) mX3_loadTruths 20 [some (.ref 90), some (.ref 76), some (.int a2), some (.int 0)] [] g = some r) : xX (d + 1) mX3_loadTruths 18 [some (.ref 90), some (.ref 76), some (.int a2), none] [] g = some r :=
  Y_iconst 0 dX3_loadTruths_18 ic_0 <| Y_istore_n dX3_loadTruths_19 rfl rfl <| X_le (xle_s (xle_s (xle_s (xle_s xle_0)))) k
theorem bX3_loadTruths_20 {d : Nat} {g : xSt} {r : Option Value × xSt} {a2 a3 : Int32} (W : xWf g) (k1 : 30 ≤ a3 → xX (d + 1) mX3_loadTruths 62 [some (.ref 90), some (.ref 76), some (.int a2), none] [] g = some r) (k2 : ¬ (30 ≤ a3) → xX (d + 1) mX3_loadTruths 29 [some (.ref 90), some (.ref 76), some (.int a2), some (.int a3)] [] g = some r) : xX (d + 1) mX3_loadTruths 20 [some (.ref 90), some (.ref 76), some (.int a2), some (.int a3)] [] g = some r :=
  Y_iload_n dX3_loadTruths_20 rfl <| Y_aload_n dX3_loadTruths_21 rfl <| Y_getR dX3_loadTruths_22 f_3_20 (by rw [ft_3_2]; rfl) (xis W 90 3 s_90 (Nat.le_of_ble_eq_true rfl)) (xptr W 90 2 p_90_2) <| Y_alen 30 dX3_loadTruths_25 (xarr W (o := 93) s_93 (Nat.le_of_ble_eq_true rfl)) on_30 rfl <| Y_ge 62 dX3_loadTruths_26 rfl (fun q => X_le (xle_s (xle_s (xle_s (xle_n xle_0)))) (k1 q)) (fun q => X_le (xle_s (xle_s (xle_s (xle_s xle_0)))) (k2 q))
theorem bX3_loadTruths_29 {d : Nat} {g : xSt} {r : Option Value × xSt} {a2 a3 : Int32} (W : xWf g) (k1 : (xbit (xat (xI g 77) 120 a2) a3) = 0 → xX (d + 1) mX3_loadTruths 56 [some (.ref 90), some (.ref 76), some (.int a2), some (.int a3)] [] g = some r) (k2 : ¬ ((xbit (xat (xI g 77) 120 a2) a3) = 0) → xX (d + 1) mX3_loadTruths 44 [some (.ref 90), some (.ref 76), some (.int a2), some (.int a3)] [] g = some r) : xX (d + 1) mX3_loadTruths 29 [some (.ref 90), some (.ref 76), some (.int a2), some (.int a3)] [] g = some r :=
  Y_aload_n dX3_loadTruths_29 rfl <| Y_getR dX3_loadTruths_30 f_3_65 (by rw [ft_7_0]; rfl) (xis W 76 7 s_76 (Nat.le_of_ble_eq_true rfl)) (xptr W 76 0 p_76_0) <| Y_iload_n dX3_loadTruths_33 rfl <| Y_callS1 dX3_loadTruths_34 cl_3_57 rfl rfl rfl rfl rfl (c_at (xarr W (o := 77) s_77 (Nat.le_of_ble_eq_true rfl))) <| Y_iload_n dX3_loadTruths_37 rfl <| Y_callS1 dX3_loadTruths_38 cl_3_68 rfl rfl rfl rfl rfl (c_xbit) <| Y_eq0 56 dX3_loadTruths_41 rfl (fun q => X_le (xle_s (xle_s (xle_s (xle_s xle_0)))) (k1 q)) (fun q => X_le (xle_s (xle_s (xle_s (xle_s xle_0)))) (k2 q))
theorem bX3_loadTruths_44 {d : Nat} {g : xSt} {r : Option Value × xSt} {a2 a3 : Int32} (W : xWf g) (hi50 : vp_in a3 30) (hi55 : vp_in a3 30) (k : xX (d + 1) mX3_loadTruths 56 [some (.ref 90), some (.ref 76), some (.int a2), some (.int a3)] [] (xWI g 93 a3.toNatClampNeg ((xI g 93 a3.toNatClampNeg) ||| (1 <<< (a2 &&& 31)))) = some r) : xX (d + 1) mX3_loadTruths 44 [some (.ref 90), some (.ref 76), some (.int a2), some (.int a3)] [] g = some r :=
  Y_aload_n dX3_loadTruths_44 rfl <| Y_getR dX3_loadTruths_45 f_3_20 (by rw [ft_3_2]; rfl) (xis W 90 3 s_90 (Nat.le_of_ble_eq_true rfl)) (xptr W 90 2 p_90_2) <| Y_iload_n dX3_loadTruths_48 rfl <| Y_dup2 dX3_loadTruths_49 rfl rfl <| Y_iald dX3_loadTruths_50 (xarr W (o := 93) s_93 (Nat.le_of_ble_eq_true rfl)) hi50 <| Y_iconst 1 dX3_loadTruths_51 ic_1 <| Y_iload_n dX3_loadTruths_52 rfl <| Y_ishl dX3_loadTruths_53 <| Y_ior dX3_loadTruths_54 <| Y_iast dX3_loadTruths_55 (xarr W (o := 93) s_93 (Nat.le_of_ble_eq_true rfl)) hi55 <| X_le (xle_s (xle_s (xle_s (xle_s xle_0)))) k
theorem bX3_loadTruths_56 {d : Nat} {g : xSt} {r : Option Value × xSt} {a2 a3 : Int32} (k : xX (d + 1) mX3_loadTruths 20 [some (.ref 90), some (.ref 76), some (.int a2), some (.int (a3 + 1))] [] g = some r) : xX (d + 1) mX3_loadTruths 56 [some (.ref 90), some (.ref 76), some (.int a2), some (.int a3)] [] g = some r :=
  Y_iinc 1 dX3_loadTruths_56 rfl ic_1 rfl rfl <| Y_goto 20 dX3_loadTruths_59 rfl <| X_le (xle_s (xle_s (xle_s (xle_s xle_0)))) k
theorem bX3_loadTruths_62 {d : Nat} {g : xSt} {r : Option Value × xSt} {a2 : Int32} (k : xX (d + 1) mX3_loadTruths 10 [some (.ref 90), some (.ref 76), some (.int (a2 + 1)), none] [] g = some r) : xX (d + 1) mX3_loadTruths 62 [some (.ref 90), some (.ref 76), some (.int a2), none] [] g = some r :=
  Y_iinc 1 dX3_loadTruths_62 rfl ic_1 rfl rfl <| Y_goto 10 dX3_loadTruths_65 rfl <| X_le (xle_s (xle_s (xle_s (xle_n xle_0)))) k
theorem bX3_loadTruths_68 {d : Nat} {g : xSt} {r : Option Value × xSt}  (k : r = (none, g)) : xX (d + 1) mX3_loadTruths 68 [none, none, none, none] [] g = some r :=
  Y_ret dX3_loadTruths_68 rfl k
theorem bX3_isAlike_0 {d : Nat} {g : xSt} {r : Option Value × xSt} {a1 : Int32} (k : xX (d + 2) mX3_isAlike 8 [some (.ref 76), some (.int a1), some (.int (xlow (Int32.toInt64 a1))), some (.int 0)] [] g = some r) : xX (d + 2) mX3_isAlike 0 [some (.ref 76), some (.int a1), none, none] [] g = some r :=
  Y_iload_n dX3_isAlike_0 rfl <| Y_i2l dX3_isAlike_1 <| Y_callS1 dX3_isAlike_2 cl_3_72 rfl rfl rfl rfl rfl (c_xlow) <| Y_istore_n dX3_isAlike_5 rfl rfl <| Y_iconst 0 dX3_isAlike_6 ic_0 <| Y_istore_n dX3_isAlike_7 rfl rfl <| X_le (xle_s (xle_s (xle_s (xle_s xle_0)))) k
theorem bX3_isAlike_8 {d : Nat} {g : xSt} {r : Option Value × xSt} {a1 a2 a3 : Int32} (W : xWf g) (k1 : (xI g 76 2) ≤ a3 → xX (d + 2) mX3_isAlike 51 [none, none, none, none] [] g = some r) (k2 : ¬ ((xI g 76 2) ≤ a3) → xX (d + 2) mX3_isAlike 16 [some (.ref 76), some (.int a1), some (.int a2), some (.int a3)] [] g = some r) : xX (d + 2) mX3_isAlike 8 [some (.ref 76), some (.int a1), some (.int a2), some (.int a3)] [] g = some r :=
  Y_iload_n dX3_isAlike_8 rfl <| Y_aload_n dX3_isAlike_9 rfl <| Y_getI dX3_isAlike_10 f_3_23 ft_7_2 (xis W 76 7 s_76 (Nat.le_of_ble_eq_true rfl)) <| Y_ge 51 dX3_isAlike_13 rfl (fun q => X_le (xle_n (xle_n (xle_n (xle_n xle_0)))) (k1 q)) (fun q => X_le (xle_s (xle_s (xle_s (xle_s xle_0)))) (k2 q))
theorem bX3_isAlike_16 {d : Nat} {g : xSt} {r : Option Value × xSt} {a1 a2 a3 : Int32} (k1 : (xbit a1 a3) = 0 → xX (d + 2) mX3_isAlike 45 [some (.ref 76), some (.int a1), some (.int a2), some (.int a3)] [] g = some r) (k2 : ¬ ((xbit a1 a3) = 0) → xX (d + 2) mX3_isAlike 24 [some (.ref 76), some (.int a1), some (.int a2), some (.int a3)] [] g = some r) : xX (d + 2) mX3_isAlike 16 [some (.ref 76), some (.int a1), some (.int a2), some (.int a3)] [] g = some r :=
  Y_iload_n dX3_isAlike_16 rfl <| Y_iload_n dX3_isAlike_17 rfl <| Y_callS1 dX3_isAlike_18 cl_3_68 rfl rfl rfl rfl rfl (c_xbit) <| Y_eq0 45 dX3_isAlike_21 rfl (fun q => X_le (xle_s (xle_s (xle_s (xle_s xle_0)))) (k1 q)) (fun q => X_le (xle_s (xle_s (xle_s (xle_s xle_0)))) (k2 q))
theorem bX3_isAlike_24 {d : Nat} {g : xSt} {r : Option Value × xSt} {a1 a2 a3 : Int32} (W : xWf g) (k1 : (xat (xI g 78) 120 a3) = (xat (xI g 78) 120 a2) → xX (d + 2) mX3_isAlike 45 [some (.ref 76), some (.int a1), some (.int a2), some (.int a3)] [] g = some r) (k2 : ¬ ((xat (xI g 78) 120 a3) = (xat (xI g 78) 120 a2)) → xX (d + 2) mX3_isAlike 43 [none, none, none, none] [] g = some r) : xX (d + 2) mX3_isAlike 24 [some (.ref 76), some (.int a1), some (.int a2), some (.int a3)] [] g = some r :=
  Y_aload_n dX3_isAlike_24 rfl <| Y_getR dX3_isAlike_25 f_3_76 (by rw [ft_7_1]; rfl) (xis W 76 7 s_76 (Nat.le_of_ble_eq_true rfl)) (xptr W 76 1 p_76_1) <| Y_iload_n dX3_isAlike_28 rfl <| Y_callS1 dX3_isAlike_29 cl_3_57 rfl rfl rfl rfl rfl (c_at (xarr W (o := 78) s_78 (Nat.le_of_ble_eq_true rfl))) <| Y_aload_n dX3_isAlike_32 rfl <| Y_getR dX3_isAlike_33 f_3_76 (by rw [ft_7_1]; rfl) (xis W 76 7 s_76 (Nat.le_of_ble_eq_true rfl)) (xptr W 76 1 p_76_1) <| Y_iload_n dX3_isAlike_36 rfl <| Y_callS1 dX3_isAlike_37 cl_3_57 rfl rfl rfl rfl rfl (c_at (xarr W (o := 78) s_78 (Nat.le_of_ble_eq_true rfl))) <| Y_eq 45 dX3_isAlike_40 rfl (fun q => X_le (xle_s (xle_s (xle_s (xle_s xle_0)))) (k1 q)) (fun q => X_le (xle_n (xle_n (xle_n (xle_n xle_0)))) (k2 q))
theorem bX3_isAlike_43 {d : Nat} {g : xSt} {r : Option Value × xSt}  (k : r = (some (.int 0), g)) : xX (d + 2) mX3_isAlike 43 [none, none, none, none] [] g = some r :=
  Y_iconst 0 dX3_isAlike_43 ic_0 <| Y_zret dX3_isAlike_44 rfl (by decide) k
theorem bX3_isAlike_45 {d : Nat} {g : xSt} {r : Option Value × xSt} {a1 a2 a3 : Int32} (k : xX (d + 2) mX3_isAlike 8 [some (.ref 76), some (.int a1), some (.int a2), some (.int (a3 + 1))] [] g = some r) : xX (d + 2) mX3_isAlike 45 [some (.ref 76), some (.int a1), some (.int a2), some (.int a3)] [] g = some r :=
  Y_iinc 1 dX3_isAlike_45 rfl ic_1 rfl rfl <| Y_goto 8 dX3_isAlike_48 rfl <| X_le (xle_s (xle_s (xle_s (xle_s xle_0)))) k
theorem bX3_isAlike_51 {d : Nat} {g : xSt} {r : Option Value × xSt}  (k : r = (some (.int 1), g)) : xX (d + 2) mX3_isAlike 51 [none, none, none, none] [] g = some r :=
  Y_iconst 1 dX3_isAlike_51 ic_1 <| Y_zret dX3_isAlike_52 rfl (by decide) k
theorem bX3_needOf_0 {d : Nat} {g : xSt} {r : Option Value × xSt} {a1 a2 a3 : Int32} (W : xWf g) (k1 : (xat (xI g 92) 64 (a1 ||| a2)) = 0 → xX (d + 1) mX3_needOf 15 [some (.ref 90), some (.int a1), some (.int a2), some (.int a3), none, none] [] g = some r) (k2 : ¬ ((xat (xI g 92) 64 (a1 ||| a2)) = 0) → xX (d + 1) mX3_needOf 13 [none, none, none, none, none, none] [] g = some r) : xX (d + 1) mX3_needOf 0 [some (.ref 90), some (.int a1), some (.int a2), some (.int a3), none, none] [] g = some r :=
  Y_aload_n dX3_needOf_0 rfl <| Y_getR dX3_needOf_1 f_3_15 (by rw [ft_3_1]; rfl) (xis W 90 3 s_90 (Nat.le_of_ble_eq_true rfl)) (xptr W 90 1 p_90_1) <| Y_iload_n dX3_needOf_4 rfl <| Y_iload_n dX3_needOf_5 rfl <| Y_ior dX3_needOf_6 <| Y_callS1 dX3_needOf_7 cl_3_57 rfl rfl rfl rfl rfl (c_at (xarr W (o := 92) s_92 (Nat.le_of_ble_eq_true rfl))) <| Y_eq0 15 dX3_needOf_10 rfl (fun q => X_le (xle_s (xle_s (xle_s (xle_s (xle_n (xle_n xle_0)))))) (k1 q)) (fun q => X_le (xle_n (xle_n (xle_n (xle_n (xle_n (xle_n xle_0)))))) (k2 q))
theorem bX3_needOf_13 {d : Nat} {g : xSt} {r : Option Value × xSt}  (k : r = (some (.int 0), g)) : xX (d + 1) mX3_needOf 13 [none, none, none, none, none, none] [] g = some r :=
  Y_iconst 0 dX3_needOf_13 ic_0 <| Y_iret dX3_needOf_14 rfl k
theorem bX3_needOf_15 {d : Nat} {g : xSt} {r : Option Value × xSt} {a1 a2 a3 : Int32} (k : xX (d + 1) mX3_needOf 22 [some (.ref 90), some (.int a1), some (.int a2), some (.int a3), some (.int 13), some (.int 0)] [] g = some r) : xX (d + 1) mX3_needOf 15 [some (.ref 90), some (.int a1), some (.int a2), some (.int a3), none, none] [] g = some r :=
  Y_bipush 13 dX3_needOf_15 bp_13 <| Y_istore dX3_needOf_17 rfl rfl <| Y_iconst 0 dX3_needOf_19 ic_0 <| Y_istore dX3_needOf_20 rfl rfl <| X_le (xle_s (xle_s (xle_s (xle_s (xle_s (xle_s xle_0)))))) k
theorem bX3_needOf_22 {d : Nat} {g : xSt} {r : Option Value × xSt} {a1 a2 a3 a4 a5 : Int32} (k1 : a3 ≤ a5 → xX (d + 1) mX3_needOf 51 [none, none, none, none, some (.int a4), none] [] g = some r) (k2 : ¬ (a3 ≤ a5) → xX (d + 1) mX3_needOf 28 [some (.ref 90), some (.int a1), some (.int a2), some (.int a3), some (.int a4), some (.int a5)] [] g = some r) : xX (d + 1) mX3_needOf 22 [some (.ref 90), some (.int a1), some (.int a2), some (.int a3), some (.int a4), some (.int a5)] [] g = some r :=
  Y_iload dX3_needOf_22 rfl <| Y_iload_n dX3_needOf_24 rfl <| Y_ge 51 dX3_needOf_25 rfl (fun q => X_le (xle_n (xle_n (xle_n (xle_n (xle_s (xle_n xle_0)))))) (k1 q)) (fun q => X_le (xle_s (xle_s (xle_s (xle_s (xle_s (xle_s xle_0)))))) (k2 q))
theorem bX3_needOf_28 {d : Nat} {g : xSt} {r : Option Value × xSt} {a1 a2 a3 a4 a5 r36 : Int32} {g36 : xSt} (W : xWf g) (hk36 : xCallM d mX3_worstBehind [.ref 90, .int a1, .int a2, .int a5] g = some (some (.int r36), g36)) (W36 : xWf g36) (k : xX (d + 1) mX3_needOf 22 [some (.ref 90), some (.int a1), some (.int a2), some (.int a3), some (.int (imin a4 (1 + r36))), some (.int (a5 + 1))] [] g36 = some r) : xX (d + 1) mX3_needOf 28 [some (.ref 90), some (.int a1), some (.int a2), some (.int a3), some (.int a4), some (.int a5)] [] g = some r :=
  Y_iload dX3_needOf_28 rfl <| Y_iconst 1 dX3_needOf_30 ic_1 <| Y_aload_n dX3_needOf_31 rfl <| Y_iload_n dX3_needOf_32 rfl <| Y_iload_n dX3_needOf_33 rfl <| Y_iload dX3_needOf_34 rfl <| Y_callV1 dX3_needOf_36 cl_3_79 rfl rfl (xis W 90 3 s_90 (Nat.le_of_ble_eq_true rfl)) rfl rfl rfl (hk36) <| Y_iadd dX3_needOf_39 <| Y_min dX3_needOf_40 km_3_29 kn_3_29 rfl <| Y_istore dX3_needOf_43 rfl rfl <| Y_iinc 1 dX3_needOf_45 rfl ic_1 rfl rfl <| Y_goto 22 dX3_needOf_48 rfl <| X_le (xle_s (xle_s (xle_s (xle_s (xle_s (xle_s xle_0)))))) k
theorem bX3_needOf_51 {d : Nat} {g : xSt} {r : Option Value × xSt} {a4 : Int32} (k : r = (some (.int a4), g)) : xX (d + 1) mX3_needOf 51 [none, none, none, none, some (.int a4), none] [] g = some r :=
  Y_iload dX3_needOf_51 rfl <| Y_iret dX3_needOf_53 rfl k
theorem bX3_worstBehind_0 {d : Nat} {g : xSt} {r : Option Value × xSt} {a1 a2 a3 : Int32} (k : xX (d + 1) mX3_worstBehind 6 [some (.ref 90), some (.int a1), some (.int a2), none, some (.int 0), some (.int a3), none, none, none] [] g = some r) : xX (d + 1) mX3_worstBehind 0 [some (.ref 90), some (.int a1), some (.int a2), some (.int a3), none, none, none, none, none] [] g = some r :=
  Y_iconst 0 dX3_worstBehind_0 ic_0 <| Y_istore dX3_worstBehind_1 rfl rfl <| Y_iload_n dX3_worstBehind_3 rfl <| Y_istore dX3_worstBehind_4 rfl rfl <| X_le (xle_s (xle_s (xle_s (xle_n (xle_s (xle_s (xle_n (xle_n (xle_n xle_0))))))))) k
theorem bX3_worstBehind_6 {d : Nat} {g : xSt} {r : Option Value × xSt} {a1 a2 a4 a5 : Int32} (W : xWf g) (k1 : 30 ≤ a5 → xX (d + 1) mX3_worstBehind 89 [none, none, none, none, some (.int a4), none, none, none, none] [] g = some r) (k2 : ¬ (30 ≤ a5) → xX (d + 1) mX3_worstBehind 16 [some (.ref 90), some (.int a1), some (.int a2), none, some (.int a4), some (.int a5), none, none, none] [] g = some r) : xX (d + 1) mX3_worstBehind 6 [some (.ref 90), some (.int a1), some (.int a2), none, some (.int a4), some (.int a5), none, none, none] [] g = some r :=
  Y_iload dX3_worstBehind_6 rfl <| Y_aload_n dX3_worstBehind_8 rfl <| Y_getR dX3_worstBehind_9 f_3_20 (by rw [ft_3_2]; rfl) (xis W 90 3 s_90 (Nat.le_of_ble_eq_true rfl)) (xptr W 90 2 p_90_2) <| Y_alen 30 dX3_worstBehind_12 (xarr W (o := 93) s_93 (Nat.le_of_ble_eq_true rfl)) on_30 rfl <| Y_ge 89 dX3_worstBehind_13 rfl (fun q => X_le (xle_n (xle_n (xle_n (xle_n (xle_s (xle_n (xle_n (xle_n (xle_n xle_0))))))))) (k1 q)) (fun q => X_le (xle_s (xle_s (xle_s (xle_n (xle_s (xle_s (xle_n (xle_n (xle_n xle_0))))))))) (k2 q))
theorem bX3_worstBehind_16 {d : Nat} {g : xSt} {r : Option Value × xSt} {a1 a2 a4 a5 : Int32} (W : xWf g) (k1 : (a1 &&& (xat (xI g 93) 30 a5)) = a1 → xX (d + 1) mX3_worstBehind 52 [some (.ref 90), some (.int a1), some (.int a2), none, some (.int a4), some (.int a5), none, some (.int (a1 &&& (xat (xI g 93) 30 a5))), some (.int ((a2 &&& (xat (xI g 93) 30 a5)) ||| (a1 &&& ((xat (xI g 93) 30 a5) ^^^ (-1)))))] [] g = some r) (k2 : ¬ ((a1 &&& (xat (xI g 93) 30 a5)) = a1) → xX (d + 1) mX3_worstBehind 61 [some (.ref 90), some (.int a1), some (.int a2), none, some (.int a4), some (.int a5), none, some (.int (a1 &&& (xat (xI g 93) 30 a5))), some (.int ((a2 &&& (xat (xI g 93) 30 a5)) ||| (a1 &&& ((xat (xI g 93) 30 a5) ^^^ (-1)))))] [] g = some r) : xX (d + 1) mX3_worstBehind 16 [some (.ref 90), some (.int a1), some (.int a2), none, some (.int a4), some (.int a5), none, none, none] [] g = some r :=
  Y_aload_n dX3_worstBehind_16 rfl <| Y_getR dX3_worstBehind_17 f_3_20 (by rw [ft_3_2]; rfl) (xis W 90 3 s_90 (Nat.le_of_ble_eq_true rfl)) (xptr W 90 2 p_90_2) <| Y_iload dX3_worstBehind_20 rfl <| Y_callS1 dX3_worstBehind_22 cl_3_57 rfl rfl rfl rfl rfl (c_at (xarr W (o := 93) s_93 (Nat.le_of_ble_eq_true rfl))) <| Y_istore dX3_worstBehind_25 rfl rfl <| Y_iload_n dX3_worstBehind_27 rfl <| Y_iload dX3_worstBehind_28 rfl <| Y_iand dX3_worstBehind_30 <| Y_istore dX3_worstBehind_31 rfl rfl <| Y_iload_n dX3_worstBehind_33 rfl <| Y_iload dX3_worstBehind_34 rfl <| Y_iand dX3_worstBehind_36 <| Y_iload_n dX3_worstBehind_37 rfl <| Y_iload dX3_worstBehind_38 rfl <| Y_iconst (-1) dX3_worstBehind_40 ic_m1 <| Y_ixor dX3_worstBehind_41 <| Y_iand dX3_worstBehind_42 <| Y_ior dX3_worstBehind_43 <| Y_istore dX3_worstBehind_44 rfl rfl <| Y_iload dX3_worstBehind_46 rfl <| Y_iload_n dX3_worstBehind_48 rfl <| Y_ne 61 dX3_worstBehind_49 rfl (fun q => X_le (xle_s (xle_s (xle_s (xle_n (xle_s (xle_s (xle_n (xle_s (xle_s xle_0))))))))) (k1 q)) (fun q => X_le (xle_s (xle_s (xle_s (xle_n (xle_s (xle_s (xle_n (xle_s (xle_s xle_0))))))))) (k2 q))
theorem bX3_worstBehind_52 {d : Nat} {g : xSt} {r : Option Value × xSt} {a1 a2 a4 a5 a7 a8 : Int32} (k1 : a8 = a2 → xX (d + 1) mX3_worstBehind 58 [none, none, none, none, none, none, none, none, none] [] g = some r) (k2 : ¬ (a8 = a2) → xX (d + 1) mX3_worstBehind 61 [some (.ref 90), some (.int a1), some (.int a2), none, some (.int a4), some (.int a5), none, some (.int a7), some (.int a8)] [] g = some r) : xX (d + 1) mX3_worstBehind 52 [some (.ref 90), some (.int a1), some (.int a2), none, some (.int a4), some (.int a5), none, some (.int a7), some (.int a8)] [] g = some r :=
  Y_iload dX3_worstBehind_52 rfl <| Y_iload_n dX3_worstBehind_54 rfl <| Y_ne 61 dX3_worstBehind_55 rfl (fun q => X_le (xle_n (xle_n (xle_n (xle_n (xle_n (xle_n (xle_n (xle_n (xle_n xle_0))))))))) (k1 q)) (fun q => X_le (xle_s (xle_s (xle_s (xle_n (xle_s (xle_s (xle_n (xle_s (xle_s xle_0))))))))) (k2 q))
theorem bX3_worstBehind_58 {d : Nat} {g : xSt} {r : Option Value × xSt}  (k : r = (some (.int 13), g)) : xX (d + 1) mX3_worstBehind 58 [none, none, none, none, none, none, none, none, none] [] g = some r :=
  Y_bipush 13 dX3_worstBehind_58 bp_13 <| Y_iret dX3_worstBehind_60 rfl k
theorem bX3_worstBehind_61 {d : Nat} {g : xSt} {r : Option Value × xSt} {a1 a2 a4 a5 a7 a8 : Int32} (W : xWf g) (k : xX (d + 1) mX3_worstBehind 6 [some (.ref 90), some (.int a1), some (.int a2), none, some (.int (imax a4 (xat (xI g 91) 4096 ((a7 * 64) + a8)))), some (.int (a5 + 10)), none, none, none] [] g = some r) : xX (d + 1) mX3_worstBehind 61 [some (.ref 90), some (.int a1), some (.int a2), none, some (.int a4), some (.int a5), none, some (.int a7), some (.int a8)] [] g = some r :=
  Y_iload dX3_worstBehind_61 rfl <| Y_aload_n dX3_worstBehind_63 rfl <| Y_getR dX3_worstBehind_64 f_3_11 (by rw [ft_3_0]; rfl) (xis W 90 3 s_90 (Nat.le_of_ble_eq_true rfl)) (xptr W 90 0 p_90_0) <| Y_iload dX3_worstBehind_67 rfl <| Y_bipush 64 dX3_worstBehind_69 bp_64 <| Y_imul dX3_worstBehind_71 <| Y_iload dX3_worstBehind_72 rfl <| Y_iadd dX3_worstBehind_74 <| Y_callS1 dX3_worstBehind_75 cl_3_57 rfl rfl rfl rfl rfl (c_at (xarr W (o := 91) s_91 (Nat.le_of_ble_eq_true rfl))) <| Y_max dX3_worstBehind_78 km_3_82 kn_3_82 rfl <| Y_istore dX3_worstBehind_81 rfl rfl <| Y_iinc 10 dX3_worstBehind_83 rfl ic_10 rfl rfl <| Y_goto 6 dX3_worstBehind_86 rfl <| X_le (xle_s (xle_s (xle_s (xle_n (xle_s (xle_s (xle_n (xle_n (xle_n xle_0))))))))) k
theorem bX3_worstBehind_89 {d : Nat} {g : xSt} {r : Option Value × xSt} {a4 : Int32} (k : r = (some (.int a4), g)) : xX (d + 1) mX3_worstBehind 89 [none, none, none, none, some (.int a4), none, none, none, none] [] g = some r :=
  Y_iload dX3_worstBehind_89 rfl <| Y_iret dX3_worstBehind_91 rfl k
