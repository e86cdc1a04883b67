/-! stretches of HeavierRowModel, by program (wip/whole/genall.py) -/
theorem dX12_statusOf_0 : decode mX12_statusOf.2.1 0 = .ok (.iload_n 1, 1) := by decide +kernel
theorem dX12_statusOf_1 : decode mX12_statusOf.2.1 1 = .ok (.istore_n 3, 1) := by decide +kernel
theorem dX12_statusOf_2 : decode mX12_statusOf.2.1 2 = .ok (.iconst 0, 1) := by decide +kernel
theorem dX12_statusOf_3 : decode mX12_statusOf.2.1 3 = .ok (.istore 4, 2) := by decide +kernel
theorem dX12_statusOf_5 : decode mX12_statusOf.2.1 5 = .ok (.iload 4, 2) := by decide +kernel
theorem dX12_statusOf_7 : decode mX12_statusOf.2.1 7 = .ok (.iload_n 2, 1) := by decide +kernel
theorem dX12_statusOf_8 : decode mX12_statusOf.2.1 8 = .ok (.if_icmp .ge 13, 3) := by decide +kernel
theorem dX12_statusOf_11 : decode mX12_statusOf.2.1 11 = .ok (.iload_n 3, 1) := by decide +kernel
theorem dX12_statusOf_12 : decode mX12_statusOf.2.1 12 = .ok (.iconst 3, 1) := by decide +kernel
theorem dX12_statusOf_13 : decode mX12_statusOf.2.1 13 = .ok (.idiv, 1) := by decide +kernel
theorem dX12_statusOf_14 : decode mX12_statusOf.2.1 14 = .ok (.istore_n 3, 1) := by decide +kernel
theorem dX12_statusOf_15 : decode mX12_statusOf.2.1 15 = .ok (.iinc 4 1, 3) := by decide +kernel
theorem dX12_statusOf_18 : decode mX12_statusOf.2.1 18 = .ok (.goto (-13), 3) := by decide +kernel
theorem dX12_statusOf_21 : decode mX12_statusOf.2.1 21 = .ok (.iload_n 3, 1) := by decide +kernel
theorem dX12_statusOf_22 : decode mX12_statusOf.2.1 22 = .ok (.iconst 3, 1) := by decide +kernel
theorem dX12_statusOf_23 : decode mX12_statusOf.2.1 23 = .ok (.irem, 1) := by decide +kernel
theorem dX12_statusOf_24 : decode mX12_statusOf.2.1 24 = .ok (.ireturn, 1) := by decide +kernel
theorem dX12_canBy_0 : decode mX12_canBy.2.1 0 = .ok (.iconst 0, 1) := by decide +kernel
theorem dX12_canBy_1 : decode mX12_canBy.2.1 1 = .ok (.istore_n 3, 1) := by decide +kernel
theorem dX12_canBy_2 : decode mX12_canBy.2.1 2 = .ok (.iload_n 3, 1) := by decide +kernel
theorem dX12_canBy_3 : decode mX12_canBy.2.1 3 = .ok (.aload_n 0, 1) := by decide +kernel
theorem dX12_canBy_4 : decode mX12_canBy.2.1 4 = .ok (.getfield 439, 3) := by decide +kernel
theorem dX12_canBy_7 : decode mX12_canBy.2.1 7 = .ok (.if_icmp .ge 98, 3) := by decide +kernel
theorem dX12_canBy_10 : decode mX12_canBy.2.1 10 = .ok (.iconst 1, 1) := by decide +kernel
theorem dX12_canBy_11 : decode mX12_canBy.2.1 11 = .ok (.istore 4, 2) := by decide +kernel
theorem dX12_canBy_13 : decode mX12_canBy.2.1 13 = .ok (.aload_n 0, 1) := by decide +kernel
theorem dX12_canBy_14 : decode mX12_canBy.2.1 14 = .ok (.getfield 36, 3) := by decide +kernel
theorem dX12_canBy_17 : decode mX12_canBy.2.1 17 = .ok (.aload_n 0, 1) := by decide +kernel
theorem dX12_canBy_18 : decode mX12_canBy.2.1 18 = .ok (.getfield 295, 3) := by decide +kernel
theorem dX12_canBy_21 : decode mX12_canBy.2.1 21 = .ok (.baload, 1) := by decide +kernel
theorem dX12_canBy_22 : decode mX12_canBy.2.1 22 = .ok (.ifCond .eq 7, 3) := by decide +kernel
theorem dX12_canBy_25 : decode mX12_canBy.2.1 25 = .ok (.iconst 0, 1) := by decide +kernel
theorem dX12_canBy_26 : decode mX12_canBy.2.1 26 = .ok (.goto 4, 3) := by decide +kernel
theorem dX12_canBy_29 : decode mX12_canBy.2.1 29 = .ok (.iconst 1, 1) := by decide +kernel
theorem dX12_canBy_30 : decode mX12_canBy.2.1 30 = .ok (.istore 5, 2) := by decide +kernel
theorem dX12_canBy_32 : decode mX12_canBy.2.1 32 = .ok (.iload 5, 2) := by decide +kernel
theorem dX12_canBy_34 : decode mX12_canBy.2.1 34 = .ok (.iconst 3, 1) := by decide +kernel
theorem dX12_canBy_35 : decode mX12_canBy.2.1 35 = .ok (.if_icmp .ge 57, 3) := by decide +kernel
theorem dX12_canBy_38 : decode mX12_canBy.2.1 38 = .ok (.iload 4, 2) := by decide +kernel
theorem dX12_canBy_40 : decode mX12_canBy.2.1 40 = .ok (.ifCond .eq 52, 3) := by decide +kernel
theorem dX12_canBy_43 : decode mX12_canBy.2.1 43 = .ok (.aload_n 0, 1) := by decide +kernel
theorem dX12_canBy_44 : decode mX12_canBy.2.1 44 = .ok (.iload_n 1, 1) := by decide +kernel
theorem dX12_canBy_45 : decode mX12_canBy.2.1 45 = .ok (.iload_n 3, 1) := by decide +kernel
theorem dX12_canBy_46 : decode mX12_canBy.2.1 46 = .ok (.iload 5, 2) := by decide +kernel
theorem dX12_canBy_48 : decode mX12_canBy.2.1 48 = .ok (.invokevirtual 533, 3) := by decide +kernel
theorem dX12_canBy_51 : decode mX12_canBy.2.1 51 = .ok (.istore 6, 2) := by decide +kernel
theorem dX12_canBy_53 : decode mX12_canBy.2.1 53 = .ok (.iload 6, 2) := by decide +kernel
theorem dX12_canBy_55 : decode mX12_canBy.2.1 55 = .ok (.ifCond .eq 24, 3) := by decide +kernel
theorem dX12_canBy_58 : decode mX12_canBy.2.1 58 = .ok (.aload_n 0, 1) := by decide +kernel
theorem dX12_canBy_59 : decode mX12_canBy.2.1 59 = .ok (.getfield 170, 3) := by decide +kernel
theorem dX12_canBy_62 : decode mX12_canBy.2.1 62 = .ok (.iload 6, 2) := by decide +kernel
theorem dX12_canBy_64 : decode mX12_canBy.2.1 64 = .ok (.iaload, 1) := by decide +kernel
theorem dX12_canBy_65 : decode mX12_canBy.2.1 65 = .ok (.ifCond .lt 18, 3) := by decide +kernel
theorem dX12_canBy_68 : decode mX12_canBy.2.1 68 = .ok (.aload_n 0, 1) := by decide +kernel
theorem dX12_canBy_69 : decode mX12_canBy.2.1 69 = .ok (.getfield 170, 3) := by decide +kernel
theorem dX12_canBy_72 : decode mX12_canBy.2.1 72 = .ok (.iload 6, 2) := by decide +kernel
theorem dX12_canBy_74 : decode mX12_canBy.2.1 74 = .ok (.iaload, 1) := by decide +kernel
theorem dX12_canBy_75 : decode mX12_canBy.2.1 75 = .ok (.iload_n 2, 1) := by decide +kernel
theorem dX12_canBy_76 : decode mX12_canBy.2.1 76 = .ok (.if_icmp .ge 7, 3) := by decide +kernel
theorem dX12_canBy_79 : decode mX12_canBy.2.1 79 = .ok (.iconst 1, 1) := by decide +kernel
theorem dX12_canBy_80 : decode mX12_canBy.2.1 80 = .ok (.goto 4, 3) := by decide +kernel
theorem dX12_canBy_83 : decode mX12_canBy.2.1 83 = .ok (.iconst 0, 1) := by decide +kernel
theorem dX12_canBy_84 : decode mX12_canBy.2.1 84 = .ok (.istore 4, 2) := by decide +kernel
theorem dX12_canBy_86 : decode mX12_canBy.2.1 86 = .ok (.iinc 5 1, 3) := by decide +kernel
theorem dX12_canBy_89 : decode mX12_canBy.2.1 89 = .ok (.goto (-57), 3) := by decide +kernel
theorem dX12_canBy_92 : decode mX12_canBy.2.1 92 = .ok (.iload 4, 2) := by decide +kernel
theorem dX12_canBy_94 : decode mX12_canBy.2.1 94 = .ok (.ifCond .eq 5, 3) := by decide +kernel
theorem dX12_canBy_97 : decode mX12_canBy.2.1 97 = .ok (.iconst 1, 1) := by decide +kernel
theorem dX12_canBy_98 : decode mX12_canBy.2.1 98 = .ok (.ireturn, 1) := by decide +kernel
theorem dX12_canBy_99 : decode mX12_canBy.2.1 99 = .ok (.iinc 3 1, 3) := by decide +kernel
theorem dX12_canBy_102 : decode mX12_canBy.2.1 102 = .ok (.goto (-100), 3) := by decide +kernel
theorem dX12_canBy_105 : decode mX12_canBy.2.1 105 = .ok (.iconst 0, 1) := by decide +kernel
theorem dX12_canBy_106 : decode mX12_canBy.2.1 106 = .ok (.ireturn, 1) := by decide +kernel
theorem dX12_behind_0 : decode mX12_behind.2.1 0 = .ok (.iconst 0, 1) := by decide +kernel
theorem dX12_behind_1 : decode mX12_behind.2.1 1 = .ok (.istore 4, 2) := by decide +kernel
theorem dX12_behind_3 : decode mX12_behind.2.1 3 = .ok (.iconst 1, 1) := by decide +kernel
theorem dX12_behind_4 : decode mX12_behind.2.1 4 = .ok (.istore 5, 2) := by decide +kernel
theorem dX12_behind_6 : decode mX12_behind.2.1 6 = .ok (.iconst 0, 1) := by decide +kernel
theorem dX12_behind_7 : decode mX12_behind.2.1 7 = .ok (.istore 6, 2) := by decide +kernel
theorem dX12_behind_9 : decode mX12_behind.2.1 9 = .ok (.iload 6, 2) := by decide +kernel
theorem dX12_behind_11 : decode mX12_behind.2.1 11 = .ok (.aload_n 0, 1) := by decide +kernel
theorem dX12_behind_12 : decode mX12_behind.2.1 12 = .ok (.getfield 408, 3) := by decide +kernel
theorem dX12_behind_15 : decode mX12_behind.2.1 15 = .ok (.if_icmp .ge 87, 3) := by decide +kernel
theorem dX12_behind_18 : decode mX12_behind.2.1 18 = .ok (.aload_n 0, 1) := by decide +kernel
theorem dX12_behind_19 : decode mX12_behind.2.1 19 = .ok (.iload_n 1, 1) := by decide +kernel
theorem dX12_behind_20 : decode mX12_behind.2.1 20 = .ok (.iload 6, 2) := by decide +kernel
theorem dX12_behind_22 : decode mX12_behind.2.1 22 = .ok (.invokevirtual 530, 3) := by decide +kernel
theorem dX12_behind_25 : decode mX12_behind.2.1 25 = .ok (.istore 7, 2) := by decide +kernel
theorem dX12_behind_27 : decode mX12_behind.2.1 27 = .ok (.aload_n 0, 1) := by decide +kernel
theorem dX12_behind_28 : decode mX12_behind.2.1 28 = .ok (.aload_n 0, 1) := by decide +kernel
theorem dX12_behind_29 : decode mX12_behind.2.1 29 = .ok (.getfield 110, 3) := by decide +kernel
theorem dX12_behind_32 : decode mX12_behind.2.1 32 = .ok (.iload 6, 2) := by decide +kernel
theorem dX12_behind_34 : decode mX12_behind.2.1 34 = .ok (.iaload, 1) := by decide +kernel
theorem dX12_behind_35 : decode mX12_behind.2.1 35 = .ok (.aload_n 0, 1) := by decide +kernel
theorem dX12_behind_36 : decode mX12_behind.2.1 36 = .ok (.getfield 125, 3) := by decide +kernel
theorem dX12_behind_39 : decode mX12_behind.2.1 39 = .ok (.iload_n 2, 1) := by decide +kernel
theorem dX12_behind_40 : decode mX12_behind.2.1 40 = .ok (.iaload, 1) := by decide +kernel
theorem dX12_behind_41 : decode mX12_behind.2.1 41 = .ok (.aload_n 0, 1) := by decide +kernel
theorem dX12_behind_42 : decode mX12_behind.2.1 42 = .ok (.getfield 128, 3) := by decide +kernel
theorem dX12_behind_45 : decode mX12_behind.2.1 45 = .ok (.iload_n 2, 1) := by decide +kernel
theorem dX12_behind_46 : decode mX12_behind.2.1 46 = .ok (.iaload, 1) := by decide +kernel
theorem dX12_behind_47 : decode mX12_behind.2.1 47 = .ok (.invokevirtual 404, 3) := by decide +kernel
theorem dX12_behind_50 : decode mX12_behind.2.1 50 = .ok (.iload_n 3, 1) := by decide +kernel
theorem dX12_behind_51 : decode mX12_behind.2.1 51 = .ok (.if_icmp .ne 7, 3) := by decide +kernel
theorem dX12_behind_54 : decode mX12_behind.2.1 54 = .ok (.iconst 1, 1) := by decide +kernel
theorem dX12_behind_55 : decode mX12_behind.2.1 55 = .ok (.goto 4, 3) := by decide +kernel
theorem dX12_behind_58 : decode mX12_behind.2.1 58 = .ok (.iconst 0, 1) := by decide +kernel
theorem dX12_behind_59 : decode mX12_behind.2.1 59 = .ok (.istore 8, 2) := by decide +kernel
theorem dX12_behind_61 : decode mX12_behind.2.1 61 = .ok (.iload 4, 2) := by decide +kernel
theorem dX12_behind_63 : decode mX12_behind.2.1 63 = .ok (.iload 5, 2) := by decide +kernel
theorem dX12_behind_65 : decode mX12_behind.2.1 65 = .ok (.iload 8, 2) := by decide +kernel
theorem dX12_behind_67 : decode mX12_behind.2.1 67 = .ok (.ifCond .ne 8, 3) := by decide +kernel
theorem dX12_behind_70 : decode mX12_behind.2.1 70 = .ok (.iload 7, 2) := by decide +kernel
theorem dX12_behind_72 : decode mX12_behind.2.1 72 = .ok (.ifCond .ne 8, 3) := by decide +kernel
theorem dX12_behind_75 : decode mX12_behind.2.1 75 = .ok (.iload 7, 2) := by decide +kernel
theorem dX12_behind_77 : decode mX12_behind.2.1 77 = .ok (.goto 9, 3) := by decide +kernel
theorem dX12_behind_80 : decode mX12_behind.2.1 80 = .ok (.iload 7, 2) := by decide +kernel
theorem dX12_behind_82 : decode mX12_behind.2.1 82 = .ok (.iconst 1, 1) := by decide +kernel
theorem dX12_behind_83 : decode mX12_behind.2.1 83 = .ok (.iadd, 1) := by decide +kernel
theorem dX12_behind_84 : decode mX12_behind.2.1 84 = .ok (.iconst 3, 1) := by decide +kernel
theorem dX12_behind_85 : decode mX12_behind.2.1 85 = .ok (.irem, 1) := by decide +kernel
theorem dX12_behind_86 : decode mX12_behind.2.1 86 = .ok (.imul, 1) := by decide +kernel
theorem dX12_behind_87 : decode mX12_behind.2.1 87 = .ok (.iadd, 1) := by decide +kernel
theorem dX12_behind_88 : decode mX12_behind.2.1 88 = .ok (.istore 4, 2) := by decide +kernel
theorem dX12_behind_90 : decode mX12_behind.2.1 90 = .ok (.iload 5, 2) := by decide +kernel
theorem dX12_behind_92 : decode mX12_behind.2.1 92 = .ok (.iconst 3, 1) := by decide +kernel
theorem dX12_behind_93 : decode mX12_behind.2.1 93 = .ok (.imul, 1) := by decide +kernel
theorem dX12_behind_94 : decode mX12_behind.2.1 94 = .ok (.istore 5, 2) := by decide +kernel
theorem dX12_behind_96 : decode mX12_behind.2.1 96 = .ok (.iinc 6 1, 3) := by decide +kernel
theorem dX12_behind_99 : decode mX12_behind.2.1 99 = .ok (.goto (-90), 3) := by decide +kernel
theorem dX12_behind_102 : decode mX12_behind.2.1 102 = .ok (.iload 4, 2) := by decide +kernel
theorem dX12_behind_104 : decode mX12_behind.2.1 104 = .ok (.ireturn, 1) := by decide +kernel
theorem dX12_odds_0 : decode mX12_odds.2.1 0 = .ok (.aload_n 0, 1) := by decide +kernel
theorem dX12_odds_1 : decode mX12_odds.2.1 1 = .ok (.iload_n 1, 1) := by decide +kernel
theorem dX12_odds_2 : decode mX12_odds.2.1 2 = .ok (.iload_n 2, 1) := by decide +kernel
theorem dX12_odds_3 : decode mX12_odds.2.1 3 = .ok (.invokevirtual 433, 3) := by decide +kernel
theorem dX12_odds_6 : decode mX12_odds.2.1 6 = .ok (.ifCond .eq 12, 3) := by decide +kernel
theorem dX12_odds_9 : decode mX12_odds.2.1 9 = .ok (.iload_n 3, 1) := by decide +kernel
theorem dX12_odds_10 : decode mX12_odds.2.1 10 = .ok (.iconst 0, 1) := by decide +kernel
theorem dX12_odds_11 : decode mX12_odds.2.1 11 = .ok (.iconst 1, 1) := by decide +kernel
theorem dX12_odds_12 : decode mX12_odds.2.1 12 = .ok (.invokestatic 367, 3) := by decide +kernel
theorem dX12_odds_15 : decode mX12_odds.2.1 15 = .ok (.ifCond .ne 5, 3) := by decide +kernel
theorem dX12_odds_18 : decode mX12_odds.2.1 18 = .ok (.iconst (-1), 1) := by decide +kernel
theorem dX12_odds_19 : decode mX12_odds.2.1 19 = .ok (.ireturn, 1) := by decide +kernel
theorem dX12_odds_20 : decode mX12_odds.2.1 20 = .ok (.aload_n 0, 1) := by decide +kernel
theorem dX12_odds_21 : decode mX12_odds.2.1 21 = .ok (.iconst 0, 1) := by decide +kernel
theorem dX12_odds_22 : decode mX12_odds.2.1 22 = .ok (.iload 4, 2) := by decide +kernel
theorem dX12_odds_24 : decode mX12_odds.2.1 24 = .ok (.invokevirtual 414, 3) := by decide +kernel
theorem dX12_odds_27 : decode mX12_odds.2.1 27 = .ok (.iload_n 3, 1) := by decide +kernel
theorem dX12_odds_28 : decode mX12_odds.2.1 28 = .ok (.ifCond .ne 13, 3) := by decide +kernel
theorem dX12_odds_31 : decode mX12_odds.2.1 31 = .ok (.aload_n 0, 1) := by decide +kernel
theorem dX12_odds_32 : decode mX12_odds.2.1 32 = .ok (.iload_n 1, 1) := by decide +kernel
theorem dX12_odds_33 : decode mX12_odds.2.1 33 = .ok (.iload_n 2, 1) := by decide +kernel
theorem dX12_odds_34 : decode mX12_odds.2.1 34 = .ok (.iconst 1, 1) := by decide +kernel
theorem dX12_odds_35 : decode mX12_odds.2.1 35 = .ok (.invokevirtual 430, 3) := by decide +kernel
theorem dX12_odds_38 : decode mX12_odds.2.1 38 = .ok (.goto 7, 3) := by decide +kernel
theorem dX12_odds_41 : decode mX12_odds.2.1 41 = .ok (.aload_n 0, 1) := by decide +kernel
theorem dX12_odds_42 : decode mX12_odds.2.1 42 = .ok (.getfield 408, 3) := by decide +kernel
theorem dX12_odds_45 : decode mX12_odds.2.1 45 = .ok (.ireturn, 1) := by decide +kernel
theorem dX12_evenest_0 : decode mX12_evenest.2.1 0 = .ok (.aload_n 0, 1) := by decide +kernel
theorem dX12_evenest_1 : decode mX12_evenest.2.1 1 = .ok (.iload_n 1, 1) := by decide +kernel
theorem dX12_evenest_2 : decode mX12_evenest.2.1 2 = .ok (.invokevirtual 424, 3) := by decide +kernel
theorem dX12_evenest_5 : decode mX12_evenest.2.1 5 = .ok (.ifCond .ne 5, 3) := by decide +kernel
theorem dX12_evenest_8 : decode mX12_evenest.2.1 8 = .ok (.iconst (-1), 1) := by decide +kernel
theorem dX12_evenest_9 : decode mX12_evenest.2.1 9 = .ok (.ireturn, 1) := by decide +kernel
theorem dX12_evenest_10 : decode mX12_evenest.2.1 10 = .ok (.iconst (-1), 1) := by decide +kernel
theorem dX12_evenest_11 : decode mX12_evenest.2.1 11 = .ok (.istore_n 2, 1) := by decide +kernel
theorem dX12_evenest_12 : decode mX12_evenest.2.1 12 = .ok (.iconst (-1), 1) := by decide +kernel
theorem dX12_evenest_13 : decode mX12_evenest.2.1 13 = .ok (.istore_n 3, 1) := by decide +kernel
theorem dX12_evenest_14 : decode mX12_evenest.2.1 14 = .ok (.iconst 0, 1) := by decide +kernel
theorem dX12_evenest_15 : decode mX12_evenest.2.1 15 = .ok (.istore 4, 2) := by decide +kernel
theorem dX12_evenest_17 : decode mX12_evenest.2.1 17 = .ok (.iload 4, 2) := by decide +kernel
theorem dX12_evenest_19 : decode mX12_evenest.2.1 19 = .ok (.aload_n 0, 1) := by decide +kernel
theorem dX12_evenest_20 : decode mX12_evenest.2.1 20 = .ok (.invokevirtual 364, 3) := by decide +kernel
theorem dX12_evenest_23 : decode mX12_evenest.2.1 23 = .ok (.if_icmp .ge 89, 3) := by decide +kernel
theorem dX12_evenest_26 : decode mX12_evenest.2.1 26 = .ok (.iload 4, 2) := by decide +kernel
theorem dX12_evenest_28 : decode mX12_evenest.2.1 28 = .ok (.iconst 1, 1) := by decide +kernel
theorem dX12_evenest_29 : decode mX12_evenest.2.1 29 = .ok (.iadd, 1) := by decide +kernel
theorem dX12_evenest_30 : decode mX12_evenest.2.1 30 = .ok (.istore 5, 2) := by decide +kernel
theorem dX12_evenest_32 : decode mX12_evenest.2.1 32 = .ok (.iload 5, 2) := by decide +kernel
theorem dX12_evenest_34 : decode mX12_evenest.2.1 34 = .ok (.aload_n 0, 1) := by decide +kernel
theorem dX12_evenest_35 : decode mX12_evenest.2.1 35 = .ok (.invokevirtual 364, 3) := by decide +kernel
theorem dX12_evenest_38 : decode mX12_evenest.2.1 38 = .ok (.if_icmp .ge 68, 3) := by decide +kernel
theorem dX12_evenest_41 : decode mX12_evenest.2.1 41 = .ok (.aload_n 0, 1) := by decide +kernel
theorem dX12_evenest_42 : decode mX12_evenest.2.1 42 = .ok (.iload 4, 2) := by decide +kernel
theorem dX12_evenest_44 : decode mX12_evenest.2.1 44 = .ok (.iload 5, 2) := by decide +kernel
theorem dX12_evenest_46 : decode mX12_evenest.2.1 46 = .ok (.iconst 1, 1) := by decide +kernel
theorem dX12_evenest_47 : decode mX12_evenest.2.1 47 = .ok (.invokevirtual 430, 3) := by decide +kernel
theorem dX12_evenest_50 : decode mX12_evenest.2.1 50 = .ok (.istore 6, 2) := by decide +kernel
theorem dX12_evenest_52 : decode mX12_evenest.2.1 52 = .ok (.aload_n 0, 1) := by decide +kernel
theorem dX12_evenest_53 : decode mX12_evenest.2.1 53 = .ok (.iload 4, 2) := by decide +kernel
theorem dX12_evenest_55 : decode mX12_evenest.2.1 55 = .ok (.iload 5, 2) := by decide +kernel
theorem dX12_evenest_57 : decode mX12_evenest.2.1 57 = .ok (.iconst 2, 1) := by decide +kernel
theorem dX12_evenest_58 : decode mX12_evenest.2.1 58 = .ok (.invokevirtual 430, 3) := by decide +kernel
theorem dX12_evenest_61 : decode mX12_evenest.2.1 61 = .ok (.istore 7, 2) := by decide +kernel
theorem dX12_evenest_63 : decode mX12_evenest.2.1 63 = .ok (.iload 6, 2) := by decide +kernel
theorem dX12_evenest_65 : decode mX12_evenest.2.1 65 = .ok (.iload 7, 2) := by decide +kernel
theorem dX12_evenest_67 : decode mX12_evenest.2.1 67 = .ok (.if_icmp .ge 8, 3) := by decide +kernel
theorem dX12_evenest_70 : decode mX12_evenest.2.1 70 = .ok (.iload 6, 2) := by decide +kernel
theorem dX12_evenest_72 : decode mX12_evenest.2.1 72 = .ok (.goto 5, 3) := by decide +kernel
theorem dX12_evenest_75 : decode mX12_evenest.2.1 75 = .ok (.iload 7, 2) := by decide +kernel
theorem dX12_evenest_77 : decode mX12_evenest.2.1 77 = .ok (.istore 8, 2) := by decide +kernel
theorem dX12_evenest_79 : decode mX12_evenest.2.1 79 = .ok (.iload 8, 2) := by decide +kernel
theorem dX12_evenest_81 : decode mX12_evenest.2.1 81 = .ok (.iload_n 3, 1) := by decide +kernel
theorem dX12_evenest_82 : decode mX12_evenest.2.1 82 = .ok (.if_icmp .gt 6, 3) := by decide +kernel
theorem dX12_evenest_85 : decode mX12_evenest.2.1 85 = .ok (.goto 15, 3) := by decide +kernel
theorem dX12_evenest_88 : decode mX12_evenest.2.1 88 = .ok (.iload 8, 2) := by decide +kernel
theorem dX12_evenest_90 : decode mX12_evenest.2.1 90 = .ok (.istore_n 3, 1) := by decide +kernel
theorem dX12_evenest_91 : decode mX12_evenest.2.1 91 = .ok (.bipush 10, 2) := by decide +kernel
theorem dX12_evenest_93 : decode mX12_evenest.2.1 93 = .ok (.iload 4, 2) := by decide +kernel
theorem dX12_evenest_95 : decode mX12_evenest.2.1 95 = .ok (.imul, 1) := by decide +kernel
theorem dX12_evenest_96 : decode mX12_evenest.2.1 96 = .ok (.iload 5, 2) := by decide +kernel
theorem dX12_evenest_98 : decode mX12_evenest.2.1 98 = .ok (.iadd, 1) := by decide +kernel
theorem dX12_evenest_99 : decode mX12_evenest.2.1 99 = .ok (.istore_n 2, 1) := by decide +kernel
theorem dX12_evenest_100 : decode mX12_evenest.2.1 100 = .ok (.iinc 5 1, 3) := by decide +kernel
theorem dX12_evenest_103 : decode mX12_evenest.2.1 103 = .ok (.goto (-71), 3) := by decide +kernel
theorem dX12_evenest_106 : decode mX12_evenest.2.1 106 = .ok (.iinc 4 1, 3) := by decide +kernel
theorem dX12_evenest_109 : decode mX12_evenest.2.1 109 = .ok (.goto (-92), 3) := by decide +kernel
theorem dX12_evenest_112 : decode mX12_evenest.2.1 112 = .ok (.iload_n 2, 1) := by decide +kernel
theorem dX12_evenest_113 : decode mX12_evenest.2.1 113 = .ok (.ireturn, 1) := by decide +kernel
theorem dX12_covers_0 : decode mX12_covers.2.1 0 = .ok (.aload_n 0, 1) := by decide +kernel
theorem dX12_covers_1 : decode mX12_covers.2.1 1 = .ok (.iconst 0, 1) := by decide +kernel
theorem dX12_covers_2 : decode mX12_covers.2.1 2 = .ok (.putfield 313, 3) := by decide +kernel
theorem dX12_covers_5 : decode mX12_covers.2.1 5 = .ok (.aload_n 0, 1) := by decide +kernel
theorem dX12_covers_6 : decode mX12_covers.2.1 6 = .ok (.iload_n 1, 1) := by decide +kernel
theorem dX12_covers_7 : decode mX12_covers.2.1 7 = .ok (.invokevirtual 424, 3) := by decide +kernel
theorem dX12_covers_10 : decode mX12_covers.2.1 10 = .ok (.ifCond .ne 5, 3) := by decide +kernel
theorem dX12_covers_13 : decode mX12_covers.2.1 13 = .ok (.iconst (-1), 1) := by decide +kernel
theorem dX12_covers_14 : decode mX12_covers.2.1 14 = .ok (.ireturn, 1) := by decide +kernel
theorem dX12_covers_15 : decode mX12_covers.2.1 15 = .ok (.iconst 0, 1) := by decide +kernel
theorem dX12_covers_16 : decode mX12_covers.2.1 16 = .ok (.istore_n 2, 1) := by decide +kernel
theorem dX12_covers_17 : decode mX12_covers.2.1 17 = .ok (.iload_n 2, 1) := by decide +kernel
theorem dX12_covers_18 : decode mX12_covers.2.1 18 = .ok (.aload_n 0, 1) := by decide +kernel
theorem dX12_covers_19 : decode mX12_covers.2.1 19 = .ok (.invokevirtual 364, 3) := by decide +kernel
theorem dX12_covers_22 : decode mX12_covers.2.1 22 = .ok (.if_icmp .ge 62, 3) := by decide +kernel
theorem dX12_covers_25 : decode mX12_covers.2.1 25 = .ok (.iconst 0, 1) := by decide +kernel
theorem dX12_covers_26 : decode mX12_covers.2.1 26 = .ok (.istore_n 3, 1) := by decide +kernel
theorem dX12_covers_27 : decode mX12_covers.2.1 27 = .ok (.iload_n 3, 1) := by decide +kernel
theorem dX12_covers_28 : decode mX12_covers.2.1 28 = .ok (.aload_n 0, 1) := by decide +kernel
theorem dX12_covers_29 : decode mX12_covers.2.1 29 = .ok (.invokevirtual 364, 3) := by decide +kernel
theorem dX12_covers_32 : decode mX12_covers.2.1 32 = .ok (.if_icmp .ge 46, 3) := by decide +kernel
theorem dX12_covers_35 : decode mX12_covers.2.1 35 = .ok (.aload_n 0, 1) := by decide +kernel
theorem dX12_covers_36 : decode mX12_covers.2.1 36 = .ok (.iload_n 2, 1) := by decide +kernel
theorem dX12_covers_37 : decode mX12_covers.2.1 37 = .ok (.iload_n 3, 1) := by decide +kernel
theorem dX12_covers_38 : decode mX12_covers.2.1 38 = .ok (.invokevirtual 545, 3) := by decide +kernel
theorem dX12_covers_41 : decode mX12_covers.2.1 41 = .ok (.ifCond .ne 6, 3) := by decide +kernel
theorem dX12_covers_44 : decode mX12_covers.2.1 44 = .ok (.goto 28, 3) := by decide +kernel
theorem dX12_covers_47 : decode mX12_covers.2.1 47 = .ok (.aload_n 0, 1) := by decide +kernel
theorem dX12_covers_48 : decode mX12_covers.2.1 48 = .ok (.getfield 122, 3) := by decide +kernel
theorem dX12_covers_51 : decode mX12_covers.2.1 51 = .ok (.aload_n 0, 1) := by decide +kernel
theorem dX12_covers_52 : decode mX12_covers.2.1 52 = .ok (.getfield 313, 3) := by decide +kernel
theorem dX12_covers_55 : decode mX12_covers.2.1 55 = .ok (.bipush 10, 2) := by decide +kernel
theorem dX12_covers_57 : decode mX12_covers.2.1 57 = .ok (.iload_n 2, 1) := by decide +kernel
theorem dX12_covers_58 : decode mX12_covers.2.1 58 = .ok (.imul, 1) := by decide +kernel
theorem dX12_covers_59 : decode mX12_covers.2.1 59 = .ok (.iload_n 3, 1) := by decide +kernel
theorem dX12_covers_60 : decode mX12_covers.2.1 60 = .ok (.iadd, 1) := by decide +kernel
theorem dX12_covers_61 : decode mX12_covers.2.1 61 = .ok (.iastore, 1) := by decide +kernel
theorem dX12_covers_62 : decode mX12_covers.2.1 62 = .ok (.aload_n 0, 1) := by decide +kernel
theorem dX12_covers_63 : decode mX12_covers.2.1 63 = .ok (.dup, 1) := by decide +kernel
theorem dX12_covers_64 : decode mX12_covers.2.1 64 = .ok (.getfield 313, 3) := by decide +kernel
theorem dX12_covers_67 : decode mX12_covers.2.1 67 = .ok (.iconst 1, 1) := by decide +kernel
theorem dX12_covers_68 : decode mX12_covers.2.1 68 = .ok (.iadd, 1) := by decide +kernel
theorem dX12_covers_69 : decode mX12_covers.2.1 69 = .ok (.putfield 313, 3) := by decide +kernel
theorem dX12_covers_72 : decode mX12_covers.2.1 72 = .ok (.iinc 3 1, 3) := by decide +kernel
theorem dX12_covers_75 : decode mX12_covers.2.1 75 = .ok (.goto (-48), 3) := by decide +kernel
theorem dX12_covers_78 : decode mX12_covers.2.1 78 = .ok (.iinc 2 1, 3) := by decide +kernel
theorem dX12_covers_81 : decode mX12_covers.2.1 81 = .ok (.goto (-64), 3) := by decide +kernel
theorem dX12_covers_84 : decode mX12_covers.2.1 84 = .ok (.aload_n 0, 1) := by decide +kernel
theorem dX12_covers_85 : decode mX12_covers.2.1 85 = .ok (.getfield 313, 3) := by decide +kernel
theorem dX12_covers_88 : decode mX12_covers.2.1 88 = .ok (.ireturn, 1) := by decide +kernel
theorem dX12_isDirect_0 : decode mX12_isDirect.2.1 0 = .ok (.aload_n 0, 1) := by decide +kernel
theorem dX12_isDirect_1 : decode mX12_isDirect.2.1 1 = .ok (.iload_n 1, 1) := by decide +kernel
theorem dX12_isDirect_2 : decode mX12_isDirect.2.1 2 = .ok (.iload_n 2, 1) := by decide +kernel
theorem dX12_isDirect_3 : decode mX12_isDirect.2.1 3 = .ok (.invokevirtual 542, 3) := by decide +kernel
theorem dX12_isDirect_6 : decode mX12_isDirect.2.1 6 = .ok (.ifCond .ne 5, 3) := by decide +kernel
theorem dX12_isDirect_9 : decode mX12_isDirect.2.1 9 = .ok (.iconst 0, 1) := by decide +kernel
theorem dX12_isDirect_10 : decode mX12_isDirect.2.1 10 = .ok (.ireturn, 1) := by decide +kernel
theorem dX12_isDirect_11 : decode mX12_isDirect.2.1 11 = .ok (.iconst 0, 1) := by decide +kernel
theorem dX12_isDirect_12 : decode mX12_isDirect.2.1 12 = .ok (.istore_n 3, 1) := by decide +kernel
theorem dX12_isDirect_13 : decode mX12_isDirect.2.1 13 = .ok (.iload_n 3, 1) := by decide +kernel
theorem dX12_isDirect_14 : decode mX12_isDirect.2.1 14 = .ok (.aload_n 0, 1) := by decide +kernel
theorem dX12_isDirect_15 : decode mX12_isDirect.2.1 15 = .ok (.invokevirtual 364, 3) := by decide +kernel
theorem dX12_isDirect_18 : decode mX12_isDirect.2.1 18 = .ok (.if_icmp .ge 29, 3) := by decide +kernel
theorem dX12_isDirect_21 : decode mX12_isDirect.2.1 21 = .ok (.aload_n 0, 1) := by decide +kernel
theorem dX12_isDirect_22 : decode mX12_isDirect.2.1 22 = .ok (.iload_n 1, 1) := by decide +kernel
theorem dX12_isDirect_23 : decode mX12_isDirect.2.1 23 = .ok (.iload_n 3, 1) := by decide +kernel
theorem dX12_isDirect_24 : decode mX12_isDirect.2.1 24 = .ok (.invokevirtual 542, 3) := by decide +kernel
theorem dX12_isDirect_27 : decode mX12_isDirect.2.1 27 = .ok (.ifCond .eq 14, 3) := by decide +kernel
theorem dX12_isDirect_30 : decode mX12_isDirect.2.1 30 = .ok (.aload_n 0, 1) := by decide +kernel
theorem dX12_isDirect_31 : decode mX12_isDirect.2.1 31 = .ok (.iload_n 3, 1) := by decide +kernel
theorem dX12_isDirect_32 : decode mX12_isDirect.2.1 32 = .ok (.iload_n 2, 1) := by decide +kernel
theorem dX12_isDirect_33 : decode mX12_isDirect.2.1 33 = .ok (.invokevirtual 542, 3) := by decide +kernel
theorem dX12_isDirect_36 : decode mX12_isDirect.2.1 36 = .ok (.ifCond .eq 5, 3) := by decide +kernel
theorem dX12_isDirect_39 : decode mX12_isDirect.2.1 39 = .ok (.iconst 0, 1) := by decide +kernel
theorem dX12_isDirect_40 : decode mX12_isDirect.2.1 40 = .ok (.ireturn, 1) := by decide +kernel
theorem dX12_isDirect_41 : decode mX12_isDirect.2.1 41 = .ok (.iinc 3 1, 3) := by decide +kernel
theorem dX12_isDirect_44 : decode mX12_isDirect.2.1 44 = .ok (.goto (-31), 3) := by decide +kernel
theorem dX12_isDirect_47 : decode mX12_isDirect.2.1 47 = .ok (.iconst 1, 1) := by decide +kernel
theorem dX12_isDirect_48 : decode mX12_isDirect.2.1 48 = .ok (.ireturn, 1) := by decide +kernel
theorem dX12_isHeavier_0 : decode mX12_isHeavier.2.1 0 = .ok (.iload_n 1, 1) := by decide +kernel
theorem dX12_isHeavier_1 : decode mX12_isHeavier.2.1 1 = .ok (.iload_n 2, 1) := by decide +kernel
theorem dX12_isHeavier_2 : decode mX12_isHeavier.2.1 2 = .ok (.if_icmp .eq 21, 3) := by decide +kernel
theorem dX12_isHeavier_5 : decode mX12_isHeavier.2.1 5 = .ok (.aload_n 0, 1) := by decide +kernel
theorem dX12_isHeavier_6 : decode mX12_isHeavier.2.1 6 = .ok (.iload_n 1, 1) := by decide +kernel
theorem dX12_isHeavier_7 : decode mX12_isHeavier.2.1 7 = .ok (.iload_n 2, 1) := by decide +kernel
theorem dX12_isHeavier_8 : decode mX12_isHeavier.2.1 8 = .ok (.iconst 1, 1) := by decide +kernel
theorem dX12_isHeavier_9 : decode mX12_isHeavier.2.1 9 = .ok (.invokevirtual 430, 3) := by decide +kernel
theorem dX12_isHeavier_12 : decode mX12_isHeavier.2.1 12 = .ok (.aload_n 0, 1) := by decide +kernel
theorem dX12_isHeavier_13 : decode mX12_isHeavier.2.1 13 = .ok (.getfield 408, 3) := by decide +kernel
theorem dX12_isHeavier_16 : decode mX12_isHeavier.2.1 16 = .ok (.if_icmp .ne 7, 3) := by decide +kernel
theorem dX12_isHeavier_19 : decode mX12_isHeavier.2.1 19 = .ok (.iconst 1, 1) := by decide +kernel
theorem dX12_isHeavier_20 : decode mX12_isHeavier.2.1 20 = .ok (.goto 4, 3) := by decide +kernel
theorem dX12_isHeavier_23 : decode mX12_isHeavier.2.1 23 = .ok (.iconst 0, 1) := by decide +kernel
theorem dX12_isHeavier_24 : decode mX12_isHeavier.2.1 24 = .ok (.ireturn, 1) := by decide +kernel
theorem dX12_sits_0 : decode mX12_sits.2.1 0 = .ok (.aload_n 0, 1) := by decide +kernel
theorem dX12_sits_1 : decode mX12_sits.2.1 1 = .ok (.iload_n 1, 1) := by decide +kernel
theorem dX12_sits_2 : decode mX12_sits.2.1 2 = .ok (.invokevirtual 421, 3) := by decide +kernel
theorem dX12_sits_5 : decode mX12_sits.2.1 5 = .ok (.ifCond .eq 20, 3) := by decide +kernel
theorem dX12_sits_8 : decode mX12_sits.2.1 8 = .ok (.iload_n 2, 1) := by decide +kernel
theorem dX12_sits_9 : decode mX12_sits.2.1 9 = .ok (.iconst 0, 1) := by decide +kernel
theorem dX12_sits_10 : decode mX12_sits.2.1 10 = .ok (.iconst 1, 1) := by decide +kernel
theorem dX12_sits_11 : decode mX12_sits.2.1 11 = .ok (.invokestatic 367, 3) := by decide +kernel
theorem dX12_sits_14 : decode mX12_sits.2.1 14 = .ok (.ifCond .eq 11, 3) := by decide +kernel
theorem dX12_sits_17 : decode mX12_sits.2.1 17 = .ok (.aload_n 0, 1) := by decide +kernel
theorem dX12_sits_18 : decode mX12_sits.2.1 18 = .ok (.iload_n 3, 1) := by decide +kernel
theorem dX12_sits_19 : decode mX12_sits.2.1 19 = .ok (.invokevirtual 424, 3) := by decide +kernel
theorem dX12_sits_22 : decode mX12_sits.2.1 22 = .ok (.ifCond .ne 5, 3) := by decide +kernel
theorem dX12_sits_25 : decode mX12_sits.2.1 25 = .ok (.iconst (-1), 1) := by decide +kernel
theorem dX12_sits_26 : decode mX12_sits.2.1 26 = .ok (.ireturn, 1) := by decide +kernel
theorem dX12_sits_27 : decode mX12_sits.2.1 27 = .ok (.iconst 0, 1) := by decide +kernel
theorem dX12_sits_28 : decode mX12_sits.2.1 28 = .ok (.istore 4, 2) := by decide +kernel
theorem dX12_sits_30 : decode mX12_sits.2.1 30 = .ok (.iconst 0, 1) := by decide +kernel
theorem dX12_sits_31 : decode mX12_sits.2.1 31 = .ok (.istore 5, 2) := by decide +kernel
theorem dX12_sits_33 : decode mX12_sits.2.1 33 = .ok (.iload 5, 2) := by decide +kernel
theorem dX12_sits_35 : decode mX12_sits.2.1 35 = .ok (.aload_n 0, 1) := by decide +kernel
theorem dX12_sits_36 : decode mX12_sits.2.1 36 = .ok (.invokevirtual 364, 3) := by decide +kernel
theorem dX12_sits_39 : decode mX12_sits.2.1 39 = .ok (.if_icmp .ge 49, 3) := by decide +kernel
theorem dX12_sits_42 : decode mX12_sits.2.1 42 = .ok (.iload 4, 2) := by decide +kernel
theorem dX12_sits_44 : decode mX12_sits.2.1 44 = .ok (.iload_n 2, 1) := by decide +kernel
theorem dX12_sits_45 : decode mX12_sits.2.1 45 = .ok (.ifCond .ne 16, 3) := by decide +kernel
theorem dX12_sits_48 : decode mX12_sits.2.1 48 = .ok (.aload_n 0, 1) := by decide +kernel
theorem dX12_sits_49 : decode mX12_sits.2.1 49 = .ok (.iload_n 1, 1) := by decide +kernel
theorem dX12_sits_50 : decode mX12_sits.2.1 50 = .ok (.iload 5, 2) := by decide +kernel
theorem dX12_sits_52 : decode mX12_sits.2.1 52 = .ok (.invokevirtual 542, 3) := by decide +kernel
theorem dX12_sits_55 : decode mX12_sits.2.1 55 = .ok (.ifCond .eq 23, 3) := by decide +kernel
theorem dX12_sits_58 : decode mX12_sits.2.1 58 = .ok (.goto 13, 3) := by decide +kernel
theorem dX12_sits_61 : decode mX12_sits.2.1 61 = .ok (.aload_n 0, 1) := by decide +kernel
theorem dX12_sits_62 : decode mX12_sits.2.1 62 = .ok (.iload 5, 2) := by decide +kernel
theorem dX12_sits_64 : decode mX12_sits.2.1 64 = .ok (.iload_n 1, 1) := by decide +kernel
theorem dX12_sits_65 : decode mX12_sits.2.1 65 = .ok (.invokevirtual 542, 3) := by decide +kernel
theorem dX12_sits_68 : decode mX12_sits.2.1 68 = .ok (.ifCond .eq 10, 3) := by decide +kernel
theorem dX12_sits_71 : decode mX12_sits.2.1 71 = .ok (.iconst 1, 1) := by decide +kernel
theorem dX12_sits_72 : decode mX12_sits.2.1 72 = .ok (.iload 5, 2) := by decide +kernel
theorem dX12_sits_74 : decode mX12_sits.2.1 74 = .ok (.ishl, 1) := by decide +kernel
theorem dX12_sits_75 : decode mX12_sits.2.1 75 = .ok (.goto 4, 3) := by decide +kernel
theorem dX12_sits_78 : decode mX12_sits.2.1 78 = .ok (.iconst 0, 1) := by decide +kernel
theorem dX12_sits_79 : decode mX12_sits.2.1 79 = .ok (.ior, 1) := by decide +kernel
theorem dX12_sits_80 : decode mX12_sits.2.1 80 = .ok (.istore 4, 2) := by decide +kernel
theorem dX12_sits_82 : decode mX12_sits.2.1 82 = .ok (.iinc 5 1, 3) := by decide +kernel
theorem dX12_sits_85 : decode mX12_sits.2.1 85 = .ok (.goto (-52), 3) := by decide +kernel
theorem dX12_sits_88 : decode mX12_sits.2.1 88 = .ok (.iload 4, 2) := by decide +kernel
theorem dX12_sits_90 : decode mX12_sits.2.1 90 = .ok (.ireturn, 1) := by decide +kernel
theorem dX12_twins_0 : decode mX12_twins.2.1 0 = .ok (.aload_n 0, 1) := by decide +kernel
theorem dX12_twins_1 : decode mX12_twins.2.1 1 = .ok (.iload_n 1, 1) := by decide +kernel
theorem dX12_twins_2 : decode mX12_twins.2.1 2 = .ok (.invokevirtual 421, 3) := by decide +kernel
theorem dX12_twins_5 : decode mX12_twins.2.1 5 = .ok (.ifCond .eq 11, 3) := by decide +kernel
theorem dX12_twins_8 : decode mX12_twins.2.1 8 = .ok (.aload_n 0, 1) := by decide +kernel
theorem dX12_twins_9 : decode mX12_twins.2.1 9 = .ok (.iload_n 2, 1) := by decide +kernel
theorem dX12_twins_10 : decode mX12_twins.2.1 10 = .ok (.invokevirtual 424, 3) := by decide +kernel
theorem dX12_twins_13 : decode mX12_twins.2.1 13 = .ok (.ifCond .ne 5, 3) := by decide +kernel
theorem dX12_twins_16 : decode mX12_twins.2.1 16 = .ok (.iconst (-1), 1) := by decide +kernel
theorem dX12_twins_17 : decode mX12_twins.2.1 17 = .ok (.ireturn, 1) := by decide +kernel
theorem dX12_twins_18 : decode mX12_twins.2.1 18 = .ok (.iconst 0, 1) := by decide +kernel
theorem dX12_twins_19 : decode mX12_twins.2.1 19 = .ok (.istore_n 3, 1) := by decide +kernel
theorem dX12_twins_20 : decode mX12_twins.2.1 20 = .ok (.iconst 0, 1) := by decide +kernel
theorem dX12_twins_21 : decode mX12_twins.2.1 21 = .ok (.istore 4, 2) := by decide +kernel
theorem dX12_twins_23 : decode mX12_twins.2.1 23 = .ok (.iload 4, 2) := by decide +kernel
theorem dX12_twins_25 : decode mX12_twins.2.1 25 = .ok (.aload_n 0, 1) := by decide +kernel
theorem dX12_twins_26 : decode mX12_twins.2.1 26 = .ok (.invokevirtual 364, 3) := by decide +kernel
theorem dX12_twins_29 : decode mX12_twins.2.1 29 = .ok (.if_icmp .ge 41, 3) := by decide +kernel
theorem dX12_twins_32 : decode mX12_twins.2.1 32 = .ok (.iload_n 3, 1) := by decide +kernel
theorem dX12_twins_33 : decode mX12_twins.2.1 33 = .ok (.iload 4, 2) := by decide +kernel
theorem dX12_twins_35 : decode mX12_twins.2.1 35 = .ok (.iload_n 1, 1) := by decide +kernel
theorem dX12_twins_36 : decode mX12_twins.2.1 36 = .ok (.if_icmp .eq 25, 3) := by decide +kernel
theorem dX12_twins_39 : decode mX12_twins.2.1 39 = .ok (.aload_n 0, 1) := by decide +kernel
theorem dX12_twins_40 : decode mX12_twins.2.1 40 = .ok (.iload_n 1, 1) := by decide +kernel
theorem dX12_twins_41 : decode mX12_twins.2.1 41 = .ok (.iload 4, 2) := by decide +kernel
theorem dX12_twins_43 : decode mX12_twins.2.1 43 = .ok (.iconst 0, 1) := by decide +kernel
theorem dX12_twins_44 : decode mX12_twins.2.1 44 = .ok (.invokevirtual 430, 3) := by decide +kernel
theorem dX12_twins_47 : decode mX12_twins.2.1 47 = .ok (.aload_n 0, 1) := by decide +kernel
theorem dX12_twins_48 : decode mX12_twins.2.1 48 = .ok (.getfield 408, 3) := by decide +kernel
theorem dX12_twins_51 : decode mX12_twins.2.1 51 = .ok (.if_icmp .ne 10, 3) := by decide +kernel
theorem dX12_twins_54 : decode mX12_twins.2.1 54 = .ok (.iconst 1, 1) := by decide +kernel
theorem dX12_twins_55 : decode mX12_twins.2.1 55 = .ok (.iload 4, 2) := by decide +kernel
theorem dX12_twins_57 : decode mX12_twins.2.1 57 = .ok (.ishl, 1) := by decide +kernel
theorem dX12_twins_58 : decode mX12_twins.2.1 58 = .ok (.goto 4, 3) := by decide +kernel
theorem dX12_twins_61 : decode mX12_twins.2.1 61 = .ok (.iconst 0, 1) := by decide +kernel
theorem dX12_twins_62 : decode mX12_twins.2.1 62 = .ok (.ior, 1) := by decide +kernel
theorem dX12_twins_63 : decode mX12_twins.2.1 63 = .ok (.istore_n 3, 1) := by decide +kernel
theorem dX12_twins_64 : decode mX12_twins.2.1 64 = .ok (.iinc 4 1, 3) := by decide +kernel
theorem dX12_twins_67 : decode mX12_twins.2.1 67 = .ok (.goto (-44), 3) := by decide +kernel
theorem dX12_twins_70 : decode mX12_twins.2.1 70 = .ok (.iload_n 3, 1) := by decide +kernel
theorem dX12_twins_71 : decode mX12_twins.2.1 71 = .ok (.ireturn, 1) := by decide +kernel
theorem dX12_led_0 : decode mX12_led.2.1 0 = .ok (.aload_n 0, 1) := by decide +kernel
theorem dX12_led_1 : decode mX12_led.2.1 1 = .ok (.iload_n 1, 1) := by decide +kernel
theorem dX12_led_2 : decode mX12_led.2.1 2 = .ok (.invokevirtual 421, 3) := by decide +kernel
theorem dX12_led_5 : decode mX12_led.2.1 5 = .ok (.ifCond .eq 11, 3) := by decide +kernel
theorem dX12_led_8 : decode mX12_led.2.1 8 = .ok (.aload_n 0, 1) := by decide +kernel
theorem dX12_led_9 : decode mX12_led.2.1 9 = .ok (.iload_n 2, 1) := by decide +kernel
theorem dX12_led_10 : decode mX12_led.2.1 10 = .ok (.invokevirtual 421, 3) := by decide +kernel
theorem dX12_led_13 : decode mX12_led.2.1 13 = .ok (.ifCond .ne 5, 3) := by decide +kernel
theorem dX12_led_16 : decode mX12_led.2.1 16 = .ok (.iconst (-1), 1) := by decide +kernel
theorem dX12_led_17 : decode mX12_led.2.1 17 = .ok (.ireturn, 1) := by decide +kernel
theorem dX12_led_18 : decode mX12_led.2.1 18 = .ok (.iconst 1, 1) := by decide +kernel
theorem dX12_led_19 : decode mX12_led.2.1 19 = .ok (.iload_n 1, 1) := by decide +kernel
theorem dX12_led_20 : decode mX12_led.2.1 20 = .ok (.ishl, 1) := by decide +kernel
theorem dX12_led_21 : decode mX12_led.2.1 21 = .ok (.iconst 1, 1) := by decide +kernel
theorem dX12_led_22 : decode mX12_led.2.1 22 = .ok (.iload_n 2, 1) := by decide +kernel
theorem dX12_led_23 : decode mX12_led.2.1 23 = .ok (.ishl, 1) := by decide +kernel
theorem dX12_led_24 : decode mX12_led.2.1 24 = .ok (.ior, 1) := by decide +kernel
theorem dX12_led_25 : decode mX12_led.2.1 25 = .ok (.istore 4, 2) := by decide +kernel
theorem dX12_led_27 : decode mX12_led.2.1 27 = .ok (.iconst 0, 1) := by decide +kernel
theorem dX12_led_28 : decode mX12_led.2.1 28 = .ok (.istore 5, 2) := by decide +kernel
theorem dX12_led_30 : decode mX12_led.2.1 30 = .ok (.iconst 0, 1) := by decide +kernel
theorem dX12_led_31 : decode mX12_led.2.1 31 = .ok (.istore 6, 2) := by decide +kernel
theorem dX12_led_33 : decode mX12_led.2.1 33 = .ok (.iload 6, 2) := by decide +kernel
theorem dX12_led_35 : decode mX12_led.2.1 35 = .ok (.aload_n 0, 1) := by decide +kernel
theorem dX12_led_36 : decode mX12_led.2.1 36 = .ok (.getfield 304, 3) := by decide +kernel
theorem dX12_led_39 : decode mX12_led.2.1 39 = .ok (.if_icmp .ge 61, 3) := by decide +kernel
theorem dX12_led_42 : decode mX12_led.2.1 42 = .ok (.iload 5, 2) := by decide +kernel
theorem dX12_led_44 : decode mX12_led.2.1 44 = .ok (.aload_n 0, 1) := by decide +kernel
theorem dX12_led_45 : decode mX12_led.2.1 45 = .ok (.iload 6, 2) := by decide +kernel
theorem dX12_led_47 : decode mX12_led.2.1 47 = .ok (.iload_n 3, 1) := by decide +kernel
theorem dX12_led_48 : decode mX12_led.2.1 48 = .ok (.invokevirtual 395, 3) := by decide +kernel
theorem dX12_led_51 : decode mX12_led.2.1 51 = .ok (.ifCond .eq 39, 3) := by decide +kernel
theorem dX12_led_54 : decode mX12_led.2.1 54 = .ok (.aload_n 0, 1) := by decide +kernel
theorem dX12_led_55 : decode mX12_led.2.1 55 = .ok (.iload 6, 2) := by decide +kernel
theorem dX12_led_57 : decode mX12_led.2.1 57 = .ok (.invokevirtual 398, 3) := by decide +kernel
theorem dX12_led_60 : decode mX12_led.2.1 60 = .ok (.ifCond .eq 30, 3) := by decide +kernel
theorem dX12_led_63 : decode mX12_led.2.1 63 = .ok (.aload_n 0, 1) := by decide +kernel
theorem dX12_led_64 : decode mX12_led.2.1 64 = .ok (.getfield 83, 3) := by decide +kernel
theorem dX12_led_67 : decode mX12_led.2.1 67 = .ok (.iload 6, 2) := by decide +kernel
theorem dX12_led_69 : decode mX12_led.2.1 69 = .ok (.iaload, 1) := by decide +kernel
theorem dX12_led_70 : decode mX12_led.2.1 70 = .ok (.aload_n 0, 1) := by decide +kernel
theorem dX12_led_71 : decode mX12_led.2.1 71 = .ok (.getfield 86, 3) := by decide +kernel
theorem dX12_led_74 : decode mX12_led.2.1 74 = .ok (.iload 6, 2) := by decide +kernel
theorem dX12_led_76 : decode mX12_led.2.1 76 = .ok (.iaload, 1) := by decide +kernel
theorem dX12_led_77 : decode mX12_led.2.1 77 = .ok (.ior, 1) := by decide +kernel
theorem dX12_led_78 : decode mX12_led.2.1 78 = .ok (.iload 4, 2) := by decide +kernel
theorem dX12_led_80 : decode mX12_led.2.1 80 = .ok (.iand, 1) := by decide +kernel
theorem dX12_led_81 : decode mX12_led.2.1 81 = .ok (.iload 4, 2) := by decide +kernel
theorem dX12_led_83 : decode mX12_led.2.1 83 = .ok (.if_icmp .ne 7, 3) := by decide +kernel
theorem dX12_led_86 : decode mX12_led.2.1 86 = .ok (.iconst 1, 1) := by decide +kernel
theorem dX12_led_87 : decode mX12_led.2.1 87 = .ok (.goto 4, 3) := by decide +kernel
theorem dX12_led_90 : decode mX12_led.2.1 90 = .ok (.iconst 0, 1) := by decide +kernel
theorem dX12_led_91 : decode mX12_led.2.1 91 = .ok (.iadd, 1) := by decide +kernel
theorem dX12_led_92 : decode mX12_led.2.1 92 = .ok (.istore 5, 2) := by decide +kernel
theorem dX12_led_94 : decode mX12_led.2.1 94 = .ok (.iinc 6 1, 3) := by decide +kernel
theorem dX12_led_97 : decode mX12_led.2.1 97 = .ok (.goto (-64), 3) := by decide +kernel
theorem dX12_led_100 : decode mX12_led.2.1 100 = .ok (.iload 5, 2) := by decide +kernel
theorem dX12_led_102 : decode mX12_led.2.1 102 = .ok (.ireturn, 1) := by decide +kernel
theorem dX12_doubts_0 : decode mX12_doubts.2.1 0 = .ok (.iconst 0, 1) := by decide +kernel
theorem dX12_doubts_1 : decode mX12_doubts.2.1 1 = .ok (.istore_n 2, 1) := by decide +kernel
theorem dX12_doubts_2 : decode mX12_doubts.2.1 2 = .ok (.iconst 0, 1) := by decide +kernel
theorem dX12_doubts_3 : decode mX12_doubts.2.1 3 = .ok (.istore_n 3, 1) := by decide +kernel
theorem dX12_doubts_4 : decode mX12_doubts.2.1 4 = .ok (.iload_n 3, 1) := by decide +kernel
theorem dX12_doubts_5 : decode mX12_doubts.2.1 5 = .ok (.aload_n 0, 1) := by decide +kernel
theorem dX12_doubts_6 : decode mX12_doubts.2.1 6 = .ok (.getfield 304, 3) := by decide +kernel
theorem dX12_doubts_9 : decode mX12_doubts.2.1 9 = .ok (.if_icmp .ge 84, 3) := by decide +kernel
theorem dX12_doubts_12 : decode mX12_doubts.2.1 12 = .ok (.aload_n 0, 1) := by decide +kernel
theorem dX12_doubts_13 : decode mX12_doubts.2.1 13 = .ok (.iload_n 3, 1) := by decide +kernel
theorem dX12_doubts_14 : decode mX12_doubts.2.1 14 = .ok (.iload_n 1, 1) := by decide +kernel
theorem dX12_doubts_15 : decode mX12_doubts.2.1 15 = .ok (.invokevirtual 395, 3) := by decide +kernel
theorem dX12_doubts_18 : decode mX12_doubts.2.1 18 = .ok (.ifCond .eq 69, 3) := by decide +kernel
theorem dX12_doubts_21 : decode mX12_doubts.2.1 21 = .ok (.aload_n 0, 1) := by decide +kernel
theorem dX12_doubts_22 : decode mX12_doubts.2.1 22 = .ok (.iload_n 3, 1) := by decide +kernel
theorem dX12_doubts_23 : decode mX12_doubts.2.1 23 = .ok (.invokevirtual 398, 3) := by decide +kernel
theorem dX12_doubts_26 : decode mX12_doubts.2.1 26 = .ok (.ifCond .ne 6, 3) := by decide +kernel
theorem dX12_doubts_29 : decode mX12_doubts.2.1 29 = .ok (.goto 58, 3) := by decide +kernel
theorem dX12_doubts_32 : decode mX12_doubts.2.1 32 = .ok (.aload_n 0, 1) := by decide +kernel
theorem dX12_doubts_33 : decode mX12_doubts.2.1 33 = .ok (.aload_n 0, 1) := by decide +kernel
theorem dX12_doubts_34 : decode mX12_doubts.2.1 34 = .ok (.getfield 83, 3) := by decide +kernel
theorem dX12_doubts_37 : decode mX12_doubts.2.1 37 = .ok (.iload_n 3, 1) := by decide +kernel
theorem dX12_doubts_38 : decode mX12_doubts.2.1 38 = .ok (.iaload, 1) := by decide +kernel
theorem dX12_doubts_39 : decode mX12_doubts.2.1 39 = .ok (.invokestatic 401, 3) := by decide +kernel
theorem dX12_doubts_42 : decode mX12_doubts.2.1 42 = .ok (.invokevirtual 548, 3) := by decide +kernel
theorem dX12_doubts_45 : decode mX12_doubts.2.1 45 = .ok (.aload_n 0, 1) := by decide +kernel
theorem dX12_doubts_46 : decode mX12_doubts.2.1 46 = .ok (.aload_n 0, 1) := by decide +kernel
theorem dX12_doubts_47 : decode mX12_doubts.2.1 47 = .ok (.getfield 86, 3) := by decide +kernel
theorem dX12_doubts_50 : decode mX12_doubts.2.1 50 = .ok (.iload_n 3, 1) := by decide +kernel
theorem dX12_doubts_51 : decode mX12_doubts.2.1 51 = .ok (.iaload, 1) := by decide +kernel
theorem dX12_doubts_52 : decode mX12_doubts.2.1 52 = .ok (.invokestatic 401, 3) := by decide +kernel
theorem dX12_doubts_55 : decode mX12_doubts.2.1 55 = .ok (.invokevirtual 548, 3) := by decide +kernel
theorem dX12_doubts_58 : decode mX12_doubts.2.1 58 = .ok (.if_icmp .ge 7, 3) := by decide +kernel
theorem dX12_doubts_61 : decode mX12_doubts.2.1 61 = .ok (.iconst 1, 1) := by decide +kernel
theorem dX12_doubts_62 : decode mX12_doubts.2.1 62 = .ok (.goto 4, 3) := by decide +kernel
theorem dX12_doubts_65 : decode mX12_doubts.2.1 65 = .ok (.iconst 2, 1) := by decide +kernel
theorem dX12_doubts_66 : decode mX12_doubts.2.1 66 = .ok (.istore 4, 2) := by decide +kernel
theorem dX12_doubts_68 : decode mX12_doubts.2.1 68 = .ok (.iload_n 2, 1) := by decide +kernel
theorem dX12_doubts_69 : decode mX12_doubts.2.1 69 = .ok (.iload 4, 2) := by decide +kernel
theorem dX12_doubts_71 : decode mX12_doubts.2.1 71 = .ok (.aload_n 0, 1) := by decide +kernel
theorem dX12_doubts_72 : decode mX12_doubts.2.1 72 = .ok (.getfield 89, 3) := by decide +kernel
theorem dX12_doubts_75 : decode mX12_doubts.2.1 75 = .ok (.iload_n 3, 1) := by decide +kernel
theorem dX12_doubts_76 : decode mX12_doubts.2.1 76 = .ok (.iaload, 1) := by decide +kernel
theorem dX12_doubts_77 : decode mX12_doubts.2.1 77 = .ok (.if_icmp .ne 7, 3) := by decide +kernel
theorem dX12_doubts_80 : decode mX12_doubts.2.1 80 = .ok (.iconst 0, 1) := by decide +kernel
theorem dX12_doubts_81 : decode mX12_doubts.2.1 81 = .ok (.goto 4, 3) := by decide +kernel
theorem dX12_doubts_84 : decode mX12_doubts.2.1 84 = .ok (.iconst 1, 1) := by decide +kernel
theorem dX12_doubts_85 : decode mX12_doubts.2.1 85 = .ok (.iadd, 1) := by decide +kernel
theorem dX12_doubts_86 : decode mX12_doubts.2.1 86 = .ok (.istore_n 2, 1) := by decide +kernel
theorem dX12_doubts_87 : decode mX12_doubts.2.1 87 = .ok (.iinc 3 1, 3) := by decide +kernel
theorem dX12_doubts_90 : decode mX12_doubts.2.1 90 = .ok (.goto (-86), 3) := by decide +kernel
theorem dX12_doubts_93 : decode mX12_doubts.2.1 93 = .ok (.iload_n 2, 1) := by decide +kernel
theorem dX12_doubts_94 : decode mX12_doubts.2.1 94 = .ok (.ireturn, 1) := by decide +kernel
theorem dX12_placeInRow_0 : decode mX12_placeInRow.2.1 0 = .ok (.iconst 0, 1) := by decide +kernel
theorem dX12_placeInRow_1 : decode mX12_placeInRow.2.1 1 = .ok (.istore_n 2, 1) := by decide +kernel
theorem dX12_placeInRow_2 : decode mX12_placeInRow.2.1 2 = .ok (.aload_n 0, 1) := by decide +kernel
theorem dX12_placeInRow_3 : decode mX12_placeInRow.2.1 3 = .ok (.getfield 30, 3) := by decide +kernel
theorem dX12_placeInRow_6 : decode mX12_placeInRow.2.1 6 = .ok (.iconst 5, 1) := by decide +kernel
theorem dX12_placeInRow_7 : decode mX12_placeInRow.2.1 7 = .ok (.aload_n 0, 1) := by decide +kernel
theorem dX12_placeInRow_8 : decode mX12_placeInRow.2.1 8 = .ok (.getfield 295, 3) := by decide +kernel
theorem dX12_placeInRow_11 : decode mX12_placeInRow.2.1 11 = .ok (.imul, 1) := by decide +kernel
theorem dX12_placeInRow_12 : decode mX12_placeInRow.2.1 12 = .ok (.iload_n 2, 1) := by decide +kernel
theorem dX12_placeInRow_13 : decode mX12_placeInRow.2.1 13 = .ok (.iadd, 1) := by decide +kernel
theorem dX12_placeInRow_14 : decode mX12_placeInRow.2.1 14 = .ok (.iaload, 1) := by decide +kernel
theorem dX12_placeInRow_15 : decode mX12_placeInRow.2.1 15 = .ok (.iload_n 1, 1) := by decide +kernel
theorem dX12_placeInRow_16 : decode mX12_placeInRow.2.1 16 = .ok (.if_icmp .eq 9, 3) := by decide +kernel
theorem dX12_placeInRow_19 : decode mX12_placeInRow.2.1 19 = .ok (.iinc 2 1, 3) := by decide +kernel
theorem dX12_placeInRow_22 : decode mX12_placeInRow.2.1 22 = .ok (.goto (-20), 3) := by decide +kernel
theorem dX12_placeInRow_25 : decode mX12_placeInRow.2.1 25 = .ok (.iload_n 2, 1) := by decide +kernel
theorem dX12_placeInRow_26 : decode mX12_placeInRow.2.1 26 = .ok (.ireturn, 1) := by decide +kernel
theorem dX12_ladder_0 : decode mX12_ladder.2.1 0 = .ok (.aload_n 0, 1) := by decide +kernel
theorem dX12_ladder_1 : decode mX12_ladder.2.1 1 = .ok (.iload_n 2, 1) := by decide +kernel
theorem dX12_ladder_2 : decode mX12_ladder.2.1 2 = .ok (.invokevirtual 424, 3) := by decide +kernel
theorem dX12_ladder_5 : decode mX12_ladder.2.1 5 = .ok (.ifCond .ne 5, 3) := by decide +kernel
theorem dX12_ladder_8 : decode mX12_ladder.2.1 8 = .ok (.iconst (-1), 1) := by decide +kernel
theorem dX12_ladder_9 : decode mX12_ladder.2.1 9 = .ok (.ireturn, 1) := by decide +kernel
theorem dX12_ladder_10 : decode mX12_ladder.2.1 10 = .ok (.iconst 0, 1) := by decide +kernel
theorem dX12_ladder_11 : decode mX12_ladder.2.1 11 = .ok (.istore_n 3, 1) := by decide +kernel
theorem dX12_ladder_12 : decode mX12_ladder.2.1 12 = .ok (.iconst 1, 1) := by decide +kernel
theorem dX12_ladder_13 : decode mX12_ladder.2.1 13 = .ok (.istore 4, 2) := by decide +kernel
theorem dX12_ladder_15 : decode mX12_ladder.2.1 15 = .ok (.iload 4, 2) := by decide +kernel
theorem dX12_ladder_17 : decode mX12_ladder.2.1 17 = .ok (.iconst 1, 1) := by decide +kernel
theorem dX12_ladder_18 : decode mX12_ladder.2.1 18 = .ok (.aload_n 0, 1) := by decide +kernel
theorem dX12_ladder_19 : decode mX12_ladder.2.1 19 = .ok (.invokevirtual 364, 3) := by decide +kernel
theorem dX12_ladder_22 : decode mX12_ladder.2.1 22 = .ok (.ishl, 1) := by decide +kernel
theorem dX12_ladder_23 : decode mX12_ladder.2.1 23 = .ok (.if_icmp .ge 34, 3) := by decide +kernel
theorem dX12_ladder_26 : decode mX12_ladder.2.1 26 = .ok (.iload 4, 2) := by decide +kernel
theorem dX12_ladder_28 : decode mX12_ladder.2.1 28 = .ok (.invokestatic 392, 3) := by decide +kernel
theorem dX12_ladder_31 : decode mX12_ladder.2.1 31 = .ok (.iload_n 3, 1) := by decide +kernel
theorem dX12_ladder_32 : decode mX12_ladder.2.1 32 = .ok (.invokestatic 392, 3) := by decide +kernel
theorem dX12_ladder_35 : decode mX12_ladder.2.1 35 = .ok (.if_icmp .le 16, 3) := by decide +kernel
theorem dX12_ladder_38 : decode mX12_ladder.2.1 38 = .ok (.aload_n 0, 1) := by decide +kernel
theorem dX12_ladder_39 : decode mX12_ladder.2.1 39 = .ok (.iload 4, 2) := by decide +kernel
theorem dX12_ladder_41 : decode mX12_ladder.2.1 41 = .ok (.iload_n 1, 1) := by decide +kernel
theorem dX12_ladder_42 : decode mX12_ladder.2.1 42 = .ok (.invokevirtual 551, 3) := by decide +kernel
theorem dX12_ladder_45 : decode mX12_ladder.2.1 45 = .ok (.ifCond .eq 6, 3) := by decide +kernel
theorem dX12_ladder_48 : decode mX12_ladder.2.1 48 = .ok (.iload 4, 2) := by decide +kernel
theorem dX12_ladder_50 : decode mX12_ladder.2.1 50 = .ok (.istore_n 3, 1) := by decide +kernel
theorem dX12_ladder_51 : decode mX12_ladder.2.1 51 = .ok (.iinc 4 1, 3) := by decide +kernel
theorem dX12_ladder_54 : decode mX12_ladder.2.1 54 = .ok (.goto (-39), 3) := by decide +kernel
theorem dX12_ladder_57 : decode mX12_ladder.2.1 57 = .ok (.iload_n 3, 1) := by decide +kernel
theorem dX12_ladder_58 : decode mX12_ladder.2.1 58 = .ok (.ireturn, 1) := by decide +kernel
theorem dX12_isLadder_0 : decode mX12_isLadder.2.1 0 = .ok (.iconst 0, 1) := by decide +kernel
theorem dX12_isLadder_1 : decode mX12_isLadder.2.1 1 = .ok (.istore_n 3, 1) := by decide +kernel
theorem dX12_isLadder_2 : decode mX12_isLadder.2.1 2 = .ok (.iload_n 3, 1) := by decide +kernel
theorem dX12_isLadder_3 : decode mX12_isLadder.2.1 3 = .ok (.aload_n 0, 1) := by decide +kernel
theorem dX12_isLadder_4 : decode mX12_isLadder.2.1 4 = .ok (.invokevirtual 364, 3) := by decide +kernel
theorem dX12_isLadder_7 : decode mX12_isLadder.2.1 7 = .ok (.if_icmp .ge 73, 3) := by decide +kernel
theorem dX12_isLadder_10 : decode mX12_isLadder.2.1 10 = .ok (.iconst 0, 1) := by decide +kernel
theorem dX12_isLadder_11 : decode mX12_isLadder.2.1 11 = .ok (.istore 4, 2) := by decide +kernel
theorem dX12_isLadder_13 : decode mX12_isLadder.2.1 13 = .ok (.iload 4, 2) := by decide +kernel
theorem dX12_isLadder_15 : decode mX12_isLadder.2.1 15 = .ok (.iload_n 3, 1) := by decide +kernel
theorem dX12_isLadder_16 : decode mX12_isLadder.2.1 16 = .ok (.if_icmp .ge 58, 3) := by decide +kernel
theorem dX12_isLadder_19 : decode mX12_isLadder.2.1 19 = .ok (.iload_n 1, 1) := by decide +kernel
theorem dX12_isLadder_20 : decode mX12_isLadder.2.1 20 = .ok (.iload_n 3, 1) := by decide +kernel
theorem dX12_isLadder_21 : decode mX12_isLadder.2.1 21 = .ok (.ishr, 1) := by decide +kernel
theorem dX12_isLadder_22 : decode mX12_isLadder.2.1 22 = .ok (.iconst 1, 1) := by decide +kernel
theorem dX12_isLadder_23 : decode mX12_isLadder.2.1 23 = .ok (.iand, 1) := by decide +kernel
theorem dX12_isLadder_24 : decode mX12_isLadder.2.1 24 = .ok (.ifCond .eq 44, 3) := by decide +kernel
theorem dX12_isLadder_27 : decode mX12_isLadder.2.1 27 = .ok (.iload_n 1, 1) := by decide +kernel
theorem dX12_isLadder_28 : decode mX12_isLadder.2.1 28 = .ok (.iload 4, 2) := by decide +kernel
theorem dX12_isLadder_30 : decode mX12_isLadder.2.1 30 = .ok (.ishr, 1) := by decide +kernel
theorem dX12_isLadder_31 : decode mX12_isLadder.2.1 31 = .ok (.iconst 1, 1) := by decide +kernel
theorem dX12_isLadder_32 : decode mX12_isLadder.2.1 32 = .ok (.iand, 1) := by decide +kernel
theorem dX12_isLadder_33 : decode mX12_isLadder.2.1 33 = .ok (.ifCond .ne 6, 3) := by decide +kernel
theorem dX12_isLadder_36 : decode mX12_isLadder.2.1 36 = .ok (.goto 32, 3) := by decide +kernel
theorem dX12_isLadder_39 : decode mX12_isLadder.2.1 39 = .ok (.aload_n 0, 1) := by decide +kernel
theorem dX12_isLadder_40 : decode mX12_isLadder.2.1 40 = .ok (.iload_n 3, 1) := by decide +kernel
theorem dX12_isLadder_41 : decode mX12_isLadder.2.1 41 = .ok (.iload 4, 2) := by decide +kernel
theorem dX12_isLadder_43 : decode mX12_isLadder.2.1 43 = .ok (.invokevirtual 436, 3) := by decide +kernel
theorem dX12_isLadder_46 : decode mX12_isLadder.2.1 46 = .ok (.istore 5, 2) := by decide +kernel
theorem dX12_isLadder_48 : decode mX12_isLadder.2.1 48 = .ok (.iload_n 2, 1) := by decide +kernel
theorem dX12_isLadder_49 : decode mX12_isLadder.2.1 49 = .ok (.ifCond .eq 11, 3) := by decide +kernel
theorem dX12_isLadder_52 : decode mX12_isLadder.2.1 52 = .ok (.iload 5, 2) := by decide +kernel
theorem dX12_isLadder_54 : decode mX12_isLadder.2.1 54 = .ok (.ifCond .lt 14, 3) := by decide +kernel
theorem dX12_isLadder_57 : decode mX12_isLadder.2.1 57 = .ok (.goto 9, 3) := by decide +kernel
theorem dX12_isLadder_60 : decode mX12_isLadder.2.1 60 = .ok (.iload 5, 2) := by decide +kernel
theorem dX12_isLadder_62 : decode mX12_isLadder.2.1 62 = .ok (.iconst 1, 1) := by decide +kernel
theorem dX12_isLadder_63 : decode mX12_isLadder.2.1 63 = .ok (.if_icmp .ge 5, 3) := by decide +kernel
theorem dX12_isLadder_66 : decode mX12_isLadder.2.1 66 = .ok (.iconst 0, 1) := by decide +kernel
theorem dX12_isLadder_67 : decode mX12_isLadder.2.1 67 = .ok (.ireturn, 1) := by decide +kernel
theorem dX12_isLadder_68 : decode mX12_isLadder.2.1 68 = .ok (.iinc 4 1, 3) := by decide +kernel
theorem dX12_isLadder_71 : decode mX12_isLadder.2.1 71 = .ok (.goto (-58), 3) := by decide +kernel
theorem dX12_isLadder_74 : decode mX12_isLadder.2.1 74 = .ok (.iinc 3 1, 3) := by decide +kernel
theorem dX12_isLadder_77 : decode mX12_isLadder.2.1 77 = .ok (.goto (-75), 3) := by decide +kernel
theorem dX12_isLadder_80 : decode mX12_isLadder.2.1 80 = .ok (.iconst 1, 1) := by decide +kernel
theorem dX12_isLadder_81 : decode mX12_isLadder.2.1 81 = .ok (.ireturn, 1) := by decide +kernel
theorem dX12_bound_0 : decode mX12_bound.2.1 0 = .ok (.aload_n 0, 1) := by decide +kernel
theorem dX12_bound_1 : decode mX12_bound.2.1 1 = .ok (.iload_n 1, 1) := by decide +kernel
theorem dX12_bound_2 : decode mX12_bound.2.1 2 = .ok (.invokevirtual 424, 3) := by decide +kernel
theorem dX12_bound_5 : decode mX12_bound.2.1 5 = .ok (.ifCond .ne 5, 3) := by decide +kernel
theorem dX12_bound_8 : decode mX12_bound.2.1 8 = .ok (.iconst (-1), 1) := by decide +kernel
theorem dX12_bound_9 : decode mX12_bound.2.1 9 = .ok (.ireturn, 1) := by decide +kernel
theorem dX12_bound_10 : decode mX12_bound.2.1 10 = .ok (.iconst 0, 1) := by decide +kernel
theorem dX12_bound_11 : decode mX12_bound.2.1 11 = .ok (.istore_n 2, 1) := by decide +kernel
theorem dX12_bound_12 : decode mX12_bound.2.1 12 = .ok (.iconst 1, 1) := by decide +kernel
theorem dX12_bound_13 : decode mX12_bound.2.1 13 = .ok (.istore_n 3, 1) := by decide +kernel
theorem dX12_bound_14 : decode mX12_bound.2.1 14 = .ok (.iload_n 3, 1) := by decide +kernel
theorem dX12_bound_15 : decode mX12_bound.2.1 15 = .ok (.aload_n 0, 1) := by decide +kernel
theorem dX12_bound_16 : decode mX12_bound.2.1 16 = .ok (.getfield 408, 3) := by decide +kernel
theorem dX12_bound_19 : decode mX12_bound.2.1 19 = .ok (.if_icmp .ge 29, 3) := by decide +kernel
theorem dX12_bound_22 : decode mX12_bound.2.1 22 = .ok (.iload_n 3, 1) := by decide +kernel
theorem dX12_bound_23 : decode mX12_bound.2.1 23 = .ok (.aload_n 0, 1) := by decide +kernel
theorem dX12_bound_24 : decode mX12_bound.2.1 24 = .ok (.getfield 36, 3) := by decide +kernel
theorem dX12_bound_27 : decode mX12_bound.2.1 27 = .ok (.aload_n 0, 1) := by decide +kernel
theorem dX12_bound_28 : decode mX12_bound.2.1 28 = .ok (.getfield 295, 3) := by decide +kernel
theorem dX12_bound_31 : decode mX12_bound.2.1 31 = .ok (.baload, 1) := by decide +kernel
theorem dX12_bound_32 : decode mX12_bound.2.1 32 = .ok (.ifCond .eq 7, 3) := by decide +kernel
theorem dX12_bound_35 : decode mX12_bound.2.1 35 = .ok (.iconst 3, 1) := by decide +kernel
theorem dX12_bound_36 : decode mX12_bound.2.1 36 = .ok (.goto 4, 3) := by decide +kernel
theorem dX12_bound_39 : decode mX12_bound.2.1 39 = .ok (.iconst 2, 1) := by decide +kernel
theorem dX12_bound_40 : decode mX12_bound.2.1 40 = .ok (.imul, 1) := by decide +kernel
theorem dX12_bound_41 : decode mX12_bound.2.1 41 = .ok (.istore_n 3, 1) := by decide +kernel
theorem dX12_bound_42 : decode mX12_bound.2.1 42 = .ok (.iinc 2 1, 3) := by decide +kernel
theorem dX12_bound_45 : decode mX12_bound.2.1 45 = .ok (.goto (-31), 3) := by decide +kernel
theorem dX12_bound_48 : decode mX12_bound.2.1 48 = .ok (.iload_n 2, 1) := by decide +kernel
theorem dX12_bound_49 : decode mX12_bound.2.1 49 = .ok (.ireturn, 1) := by decide +kernel
theorem dX12_swapped_0 : decode mX12_swapped.2.1 0 = .ok (.iload_n 1, 1) := by decide +kernel
theorem dX12_swapped_1 : decode mX12_swapped.2.1 1 = .ok (.iconst 0, 1) := by decide +kernel
theorem dX12_swapped_2 : decode mX12_swapped.2.1 2 = .ok (.iconst 2, 1) := by decide +kernel
theorem dX12_swapped_3 : decode mX12_swapped.2.1 3 = .ok (.invokestatic 367, 3) := by decide +kernel
theorem dX12_swapped_6 : decode mX12_swapped.2.1 6 = .ok (.ifCond .eq 12, 3) := by decide +kernel
theorem dX12_swapped_9 : decode mX12_swapped.2.1 9 = .ok (.iload_n 2, 1) := by decide +kernel
theorem dX12_swapped_10 : decode mX12_swapped.2.1 10 = .ok (.iconst 0, 1) := by decide +kernel
theorem dX12_swapped_11 : decode mX12_swapped.2.1 11 = .ok (.iconst 2, 1) := by decide +kernel
theorem dX12_swapped_12 : decode mX12_swapped.2.1 12 = .ok (.invokestatic 367, 3) := by decide +kernel
theorem dX12_swapped_15 : decode mX12_swapped.2.1 15 = .ok (.ifCond .ne 5, 3) := by decide +kernel
theorem dX12_swapped_18 : decode mX12_swapped.2.1 18 = .ok (.iconst (-1), 1) := by decide +kernel
theorem dX12_swapped_19 : decode mX12_swapped.2.1 19 = .ok (.ireturn, 1) := by decide +kernel
theorem dX12_swapped_20 : decode mX12_swapped.2.1 20 = .ok (.aload_n 0, 1) := by decide +kernel
theorem dX12_swapped_21 : decode mX12_swapped.2.1 21 = .ok (.iload_n 1, 1) := by decide +kernel
theorem dX12_swapped_22 : decode mX12_swapped.2.1 22 = .ok (.invokevirtual 558, 3) := by decide +kernel
theorem dX12_swapped_25 : decode mX12_swapped.2.1 25 = .ok (.iload_n 2, 1) := by decide +kernel
theorem dX12_swapped_26 : decode mX12_swapped.2.1 26 = .ok (.iconst 2, 1) := by decide +kernel
theorem dX12_swapped_27 : decode mX12_swapped.2.1 27 = .ok (.if_icmp .ne 8, 3) := by decide +kernel
theorem dX12_swapped_30 : decode mX12_swapped.2.1 30 = .ok (.aload_n 0, 1) := by decide +kernel
theorem dX12_swapped_31 : decode mX12_swapped.2.1 31 = .ok (.getfield 408, 3) := by decide +kernel
theorem dX12_swapped_34 : decode mX12_swapped.2.1 34 = .ok (.ireturn, 1) := by decide +kernel
theorem dX12_swapped_35 : decode mX12_swapped.2.1 35 = .ok (.aload_n 0, 1) := by decide +kernel
theorem dX12_swapped_36 : decode mX12_swapped.2.1 36 = .ok (.invokevirtual 502, 3) := by decide +kernel
theorem dX12_swapped_39 : decode mX12_swapped.2.1 39 = .ok (.aload_n 0, 1) := by decide +kernel
theorem dX12_swapped_40 : decode mX12_swapped.2.1 40 = .ok (.iconst 0, 1) := by decide +kernel
theorem dX12_swapped_41 : decode mX12_swapped.2.1 41 = .ok (.iconst 0, 1) := by decide +kernel
theorem dX12_swapped_42 : decode mX12_swapped.2.1 42 = .ok (.invokevirtual 505, 3) := by decide +kernel
theorem dX12_swapped_45 : decode mX12_swapped.2.1 45 = .ok (.aload_n 0, 1) := by decide +kernel
theorem dX12_swapped_46 : decode mX12_swapped.2.1 46 = .ok (.iconst 0, 1) := by decide +kernel
theorem dX12_swapped_47 : decode mX12_swapped.2.1 47 = .ok (.invokevirtual 514, 3) := by decide +kernel
theorem dX12_swapped_50 : decode mX12_swapped.2.1 50 = .ok (.istore_n 3, 1) := by decide +kernel
theorem dX12_swapped_51 : decode mX12_swapped.2.1 51 = .ok (.iload_n 2, 1) := by decide +kernel
theorem dX12_swapped_52 : decode mX12_swapped.2.1 52 = .ok (.ifCond .ne 7, 3) := by decide +kernel
theorem dX12_swapped_55 : decode mX12_swapped.2.1 55 = .ok (.iload_n 3, 1) := by decide +kernel
theorem dX12_swapped_56 : decode mX12_swapped.2.1 56 = .ok (.goto 7, 3) := by decide +kernel
theorem dX12_swapped_59 : decode mX12_swapped.2.1 59 = .ok (.aload_n 0, 1) := by decide +kernel
theorem dX12_swapped_60 : decode mX12_swapped.2.1 60 = .ok (.invokevirtual 518, 3) := by decide +kernel
theorem dX12_swapped_63 : decode mX12_swapped.2.1 63 = .ok (.ireturn, 1) := by decide +kernel
theorem dX12_laySwapped_0 : decode mX12_laySwapped.2.1 0 = .ok (.aload_n 0, 1) := by decide +kernel
theorem dX12_laySwapped_1 : decode mX12_laySwapped.2.1 1 = .ok (.iconst 0, 1) := by decide +kernel
theorem dX12_laySwapped_2 : decode mX12_laySwapped.2.1 2 = .ok (.putfield 408, 3) := by decide +kernel
theorem dX12_laySwapped_5 : decode mX12_laySwapped.2.1 5 = .ok (.iconst 0, 1) := by decide +kernel
theorem dX12_laySwapped_6 : decode mX12_laySwapped.2.1 6 = .ok (.istore_n 2, 1) := by decide +kernel
theorem dX12_laySwapped_7 : decode mX12_laySwapped.2.1 7 = .ok (.iload_n 2, 1) := by decide +kernel
theorem dX12_laySwapped_8 : decode mX12_laySwapped.2.1 8 = .ok (.bipush 32, 2) := by decide +kernel
theorem dX12_laySwapped_10 : decode mX12_laySwapped.2.1 10 = .ok (.if_icmp .ge 145, 3) := by decide +kernel
theorem dX12_laySwapped_13 : decode mX12_laySwapped.2.1 13 = .ok (.iload_n 2, 1) := by decide +kernel
theorem dX12_laySwapped_14 : decode mX12_laySwapped.2.1 14 = .ok (.invokestatic 392, 3) := by decide +kernel
theorem dX12_laySwapped_17 : decode mX12_laySwapped.2.1 17 = .ok (.iload_n 1, 1) := by decide +kernel
theorem dX12_laySwapped_18 : decode mX12_laySwapped.2.1 18 = .ok (.if_icmp .gt 131, 3) := by decide +kernel
theorem dX12_laySwapped_21 : decode mX12_laySwapped.2.1 21 = .ok (.iload_n 2, 1) := by decide +kernel
theorem dX12_laySwapped_22 : decode mX12_laySwapped.2.1 22 = .ok (.iload_n 2, 1) := by decide +kernel
theorem dX12_laySwapped_23 : decode mX12_laySwapped.2.1 23 = .ok (.iconst 1, 1) := by decide +kernel
theorem dX12_laySwapped_24 : decode mX12_laySwapped.2.1 24 = .ok (.ishl, 1) := by decide +kernel
theorem dX12_laySwapped_25 : decode mX12_laySwapped.2.1 25 = .ok (.iand, 1) := by decide +kernel
theorem dX12_laySwapped_26 : decode mX12_laySwapped.2.1 26 = .ok (.ifCond .ne 123, 3) := by decide +kernel
theorem dX12_laySwapped_29 : decode mX12_laySwapped.2.1 29 = .ok (.iload_n 2, 1) := by decide +kernel
theorem dX12_laySwapped_30 : decode mX12_laySwapped.2.1 30 = .ok (.iconst 1, 1) := by decide +kernel
theorem dX12_laySwapped_31 : decode mX12_laySwapped.2.1 31 = .ok (.aload_n 0, 1) := by decide +kernel
theorem dX12_laySwapped_32 : decode mX12_laySwapped.2.1 32 = .ok (.invokevirtual 364, 3) := by decide +kernel
theorem dX12_laySwapped_35 : decode mX12_laySwapped.2.1 35 = .ok (.ifCond .le 12, 3) := by decide +kernel
theorem dX12_laySwapped_38 : decode mX12_laySwapped.2.1 38 = .ok (.aload_n 0, 1) := by decide +kernel
theorem dX12_laySwapped_39 : decode mX12_laySwapped.2.1 39 = .ok (.invokevirtual 364, 3) := by decide +kernel
theorem dX12_laySwapped_42 : decode mX12_laySwapped.2.1 42 = .ok (.iconst 1, 1) := by decide +kernel
theorem dX12_laySwapped_43 : decode mX12_laySwapped.2.1 43 = .ok (.isub, 1) := by decide +kernel
theorem dX12_laySwapped_44 : decode mX12_laySwapped.2.1 44 = .ok (.goto 4, 3) := by decide +kernel
theorem dX12_laySwapped_47 : decode mX12_laySwapped.2.1 47 = .ok (.iconst 0, 1) := by decide +kernel
theorem dX12_laySwapped_48 : decode mX12_laySwapped.2.1 48 = .ok (.ishl, 1) := by decide +kernel
theorem dX12_laySwapped_49 : decode mX12_laySwapped.2.1 49 = .ok (.if_icmp .lt 6, 3) := by decide +kernel
theorem dX12_laySwapped_52 : decode mX12_laySwapped.2.1 52 = .ok (.goto 97, 3) := by decide +kernel
theorem dX12_laySwapped_55 : decode mX12_laySwapped.2.1 55 = .ok (.iconst 0, 1) := by decide +kernel
theorem dX12_laySwapped_56 : decode mX12_laySwapped.2.1 56 = .ok (.istore_n 3, 1) := by decide +kernel
theorem dX12_laySwapped_57 : decode mX12_laySwapped.2.1 57 = .ok (.iload_n 3, 1) := by decide +kernel
theorem dX12_laySwapped_58 : decode mX12_laySwapped.2.1 58 = .ok (.aload_n 0, 1) := by decide +kernel
theorem dX12_laySwapped_59 : decode mX12_laySwapped.2.1 59 = .ok (.invokevirtual 364, 3) := by decide +kernel
theorem dX12_laySwapped_62 : decode mX12_laySwapped.2.1 62 = .ok (.if_icmp .ge 64, 3) := by decide +kernel
theorem dX12_laySwapped_65 : decode mX12_laySwapped.2.1 65 = .ok (.aload_n 0, 1) := by decide +kernel
theorem dX12_laySwapped_66 : decode mX12_laySwapped.2.1 66 = .ok (.getfield 80, 3) := by decide +kernel
theorem dX12_laySwapped_69 : decode mX12_laySwapped.2.1 69 = .ok (.aload_n 0, 1) := by decide +kernel
theorem dX12_laySwapped_70 : decode mX12_laySwapped.2.1 70 = .ok (.getfield 30, 3) := by decide +kernel
theorem dX12_laySwapped_73 : decode mX12_laySwapped.2.1 73 = .ok (.iconst 5, 1) := by decide +kernel
theorem dX12_laySwapped_74 : decode mX12_laySwapped.2.1 74 = .ok (.aload_n 0, 1) := by decide +kernel
theorem dX12_laySwapped_75 : decode mX12_laySwapped.2.1 75 = .ok (.getfield 295, 3) := by decide +kernel
theorem dX12_laySwapped_78 : decode mX12_laySwapped.2.1 78 = .ok (.imul, 1) := by decide +kernel
theorem dX12_laySwapped_79 : decode mX12_laySwapped.2.1 79 = .ok (.iload_n 3, 1) := by decide +kernel
theorem dX12_laySwapped_80 : decode mX12_laySwapped.2.1 80 = .ok (.iadd, 1) := by decide +kernel
theorem dX12_laySwapped_81 : decode mX12_laySwapped.2.1 81 = .ok (.iaload, 1) := by decide +kernel
theorem dX12_laySwapped_82 : decode mX12_laySwapped.2.1 82 = .ok (.iload_n 2, 1) := by decide +kernel
theorem dX12_laySwapped_83 : decode mX12_laySwapped.2.1 83 = .ok (.iload_n 3, 1) := by decide +kernel
theorem dX12_laySwapped_84 : decode mX12_laySwapped.2.1 84 = .ok (.ishr, 1) := by decide +kernel
theorem dX12_laySwapped_85 : decode mX12_laySwapped.2.1 85 = .ok (.iconst 1, 1) := by decide +kernel
theorem dX12_laySwapped_86 : decode mX12_laySwapped.2.1 86 = .ok (.iand, 1) := by decide +kernel
theorem dX12_laySwapped_87 : decode mX12_laySwapped.2.1 87 = .ok (.iconst 1, 1) := by decide +kernel
theorem dX12_laySwapped_88 : decode mX12_laySwapped.2.1 88 = .ok (.if_icmp .ne 9, 3) := by decide +kernel
theorem dX12_laySwapped_91 : decode mX12_laySwapped.2.1 91 = .ok (.iload_n 3, 1) := by decide +kernel
theorem dX12_laySwapped_92 : decode mX12_laySwapped.2.1 92 = .ok (.iconst 1, 1) := by decide +kernel
theorem dX12_laySwapped_93 : decode mX12_laySwapped.2.1 93 = .ok (.iadd, 1) := by decide +kernel
theorem dX12_laySwapped_94 : decode mX12_laySwapped.2.1 94 = .ok (.goto 25, 3) := by decide +kernel
theorem dX12_laySwapped_97 : decode mX12_laySwapped.2.1 97 = .ok (.iload_n 3, 1) := by decide +kernel
theorem dX12_laySwapped_98 : decode mX12_laySwapped.2.1 98 = .ok (.ifCond .le 20, 3) := by decide +kernel
theorem dX12_laySwapped_101 : decode mX12_laySwapped.2.1 101 = .ok (.iload_n 2, 1) := by decide +kernel
theorem dX12_laySwapped_102 : decode mX12_laySwapped.2.1 102 = .ok (.iload_n 3, 1) := by decide +kernel
theorem dX12_laySwapped_103 : decode mX12_laySwapped.2.1 103 = .ok (.iconst 1, 1) := by decide +kernel
theorem dX12_laySwapped_104 : decode mX12_laySwapped.2.1 104 = .ok (.isub, 1) := by decide +kernel
theorem dX12_laySwapped_105 : decode mX12_laySwapped.2.1 105 = .ok (.ishr, 1) := by decide +kernel
theorem dX12_laySwapped_106 : decode mX12_laySwapped.2.1 106 = .ok (.iconst 1, 1) := by decide +kernel
theorem dX12_laySwapped_107 : decode mX12_laySwapped.2.1 107 = .ok (.iand, 1) := by decide +kernel
theorem dX12_laySwapped_108 : decode mX12_laySwapped.2.1 108 = .ok (.iconst 1, 1) := by decide +kernel
theorem dX12_laySwapped_109 : decode mX12_laySwapped.2.1 109 = .ok (.if_icmp .ne 9, 3) := by decide +kernel
theorem dX12_laySwapped_112 : decode mX12_laySwapped.2.1 112 = .ok (.iload_n 3, 1) := by decide +kernel
theorem dX12_laySwapped_113 : decode mX12_laySwapped.2.1 113 = .ok (.iconst 1, 1) := by decide +kernel
theorem dX12_laySwapped_114 : decode mX12_laySwapped.2.1 114 = .ok (.isub, 1) := by decide +kernel
theorem dX12_laySwapped_115 : decode mX12_laySwapped.2.1 115 = .ok (.goto 4, 3) := by decide +kernel
theorem dX12_laySwapped_118 : decode mX12_laySwapped.2.1 118 = .ok (.iload_n 3, 1) := by decide +kernel
theorem dX12_laySwapped_119 : decode mX12_laySwapped.2.1 119 = .ok (.iastore, 1) := by decide +kernel
theorem dX12_laySwapped_120 : decode mX12_laySwapped.2.1 120 = .ok (.iinc 3 1, 3) := by decide +kernel
theorem dX12_laySwapped_123 : decode mX12_laySwapped.2.1 123 = .ok (.goto (-66), 3) := by decide +kernel
theorem dX12_laySwapped_126 : decode mX12_laySwapped.2.1 126 = .ok (.aload_n 0, 1) := by decide +kernel
theorem dX12_laySwapped_127 : decode mX12_laySwapped.2.1 127 = .ok (.getfield 110, 3) := by decide +kernel
theorem dX12_laySwapped_130 : decode mX12_laySwapped.2.1 130 = .ok (.aload_n 0, 1) := by decide +kernel
theorem dX12_laySwapped_131 : decode mX12_laySwapped.2.1 131 = .ok (.getfield 408, 3) := by decide +kernel
theorem dX12_laySwapped_134 : decode mX12_laySwapped.2.1 134 = .ok (.aload_n 0, 1) := by decide +kernel
theorem dX12_laySwapped_135 : decode mX12_laySwapped.2.1 135 = .ok (.invokevirtual 555, 3) := by decide +kernel
theorem dX12_laySwapped_138 : decode mX12_laySwapped.2.1 138 = .ok (.iastore, 1) := by decide +kernel
theorem dX12_laySwapped_139 : decode mX12_laySwapped.2.1 139 = .ok (.aload_n 0, 1) := by decide +kernel
theorem dX12_laySwapped_140 : decode mX12_laySwapped.2.1 140 = .ok (.dup, 1) := by decide +kernel
theorem dX12_laySwapped_141 : decode mX12_laySwapped.2.1 141 = .ok (.getfield 408, 3) := by decide +kernel
theorem dX12_laySwapped_144 : decode mX12_laySwapped.2.1 144 = .ok (.iconst 1, 1) := by decide +kernel
theorem dX12_laySwapped_145 : decode mX12_laySwapped.2.1 145 = .ok (.iadd, 1) := by decide +kernel
theorem dX12_laySwapped_146 : decode mX12_laySwapped.2.1 146 = .ok (.putfield 408, 3) := by decide +kernel
theorem dX12_laySwapped_149 : decode mX12_laySwapped.2.1 149 = .ok (.iinc 2 1, 3) := by decide +kernel
theorem dX12_laySwapped_152 : decode mX12_laySwapped.2.1 152 = .ok (.goto (-145), 3) := by decide +kernel
theorem dX12_laySwapped_155 : decode mX12_laySwapped.2.1 155 = .ok (.return_, 1) := by decide +kernel
theorem dX12_orderOf_0 : decode mX12_orderOf.2.1 0 = .ok (.iconst 0, 1) := by decide +kernel
theorem dX12_orderOf_1 : decode mX12_orderOf.2.1 1 = .ok (.istore_n 1, 1) := by decide +kernel
theorem dX12_orderOf_2 : decode mX12_orderOf.2.1 2 = .ok (.iload_n 1, 1) := by decide +kernel
theorem dX12_orderOf_3 : decode mX12_orderOf.2.1 3 = .ok (.aload_n 0, 1) := by decide +kernel
theorem dX12_orderOf_4 : decode mX12_orderOf.2.1 4 = .ok (.getfield 371, 3) := by decide +kernel
theorem dX12_orderOf_7 : decode mX12_orderOf.2.1 7 = .ok (.if_icmp .ge 62, 3) := by decide +kernel
theorem dX12_orderOf_10 : decode mX12_orderOf.2.1 10 = .ok (.iconst 1, 1) := by decide +kernel
theorem dX12_orderOf_11 : decode mX12_orderOf.2.1 11 = .ok (.istore_n 2, 1) := by decide +kernel
theorem dX12_orderOf_12 : decode mX12_orderOf.2.1 12 = .ok (.iconst 0, 1) := by decide +kernel
theorem dX12_orderOf_13 : decode mX12_orderOf.2.1 13 = .ok (.istore_n 3, 1) := by decide +kernel
theorem dX12_orderOf_14 : decode mX12_orderOf.2.1 14 = .ok (.iload_n 3, 1) := by decide +kernel
theorem dX12_orderOf_15 : decode mX12_orderOf.2.1 15 = .ok (.aload_n 0, 1) := by decide +kernel
theorem dX12_orderOf_16 : decode mX12_orderOf.2.1 16 = .ok (.invokevirtual 364, 3) := by decide +kernel
theorem dX12_orderOf_19 : decode mX12_orderOf.2.1 19 = .ok (.if_icmp .ge 38, 3) := by decide +kernel
theorem dX12_orderOf_22 : decode mX12_orderOf.2.1 22 = .ok (.iload_n 2, 1) := by decide +kernel
theorem dX12_orderOf_23 : decode mX12_orderOf.2.1 23 = .ok (.ifCond .eq 26, 3) := by decide +kernel
theorem dX12_orderOf_26 : decode mX12_orderOf.2.1 26 = .ok (.aload_n 0, 1) := by decide +kernel
theorem dX12_orderOf_27 : decode mX12_orderOf.2.1 27 = .ok (.getfield 77, 3) := by decide +kernel
theorem dX12_orderOf_30 : decode mX12_orderOf.2.1 30 = .ok (.iconst 5, 1) := by decide +kernel
theorem dX12_orderOf_31 : decode mX12_orderOf.2.1 31 = .ok (.iload_n 1, 1) := by decide +kernel
theorem dX12_orderOf_32 : decode mX12_orderOf.2.1 32 = .ok (.imul, 1) := by decide +kernel
theorem dX12_orderOf_33 : decode mX12_orderOf.2.1 33 = .ok (.iload_n 3, 1) := by decide +kernel
theorem dX12_orderOf_34 : decode mX12_orderOf.2.1 34 = .ok (.iadd, 1) := by decide +kernel
theorem dX12_orderOf_35 : decode mX12_orderOf.2.1 35 = .ok (.iaload, 1) := by decide +kernel
theorem dX12_orderOf_36 : decode mX12_orderOf.2.1 36 = .ok (.aload_n 0, 1) := by decide +kernel
theorem dX12_orderOf_37 : decode mX12_orderOf.2.1 37 = .ok (.getfield 80, 3) := by decide +kernel
theorem dX12_orderOf_40 : decode mX12_orderOf.2.1 40 = .ok (.iload_n 3, 1) := by decide +kernel
theorem dX12_orderOf_41 : decode mX12_orderOf.2.1 41 = .ok (.iaload, 1) := by decide +kernel
theorem dX12_orderOf_42 : decode mX12_orderOf.2.1 42 = .ok (.if_icmp .ne 7, 3) := by decide +kernel
theorem dX12_orderOf_45 : decode mX12_orderOf.2.1 45 = .ok (.iconst 1, 1) := by decide +kernel
theorem dX12_orderOf_46 : decode mX12_orderOf.2.1 46 = .ok (.goto 4, 3) := by decide +kernel
theorem dX12_orderOf_49 : decode mX12_orderOf.2.1 49 = .ok (.iconst 0, 1) := by decide +kernel
theorem dX12_orderOf_50 : decode mX12_orderOf.2.1 50 = .ok (.istore_n 2, 1) := by decide +kernel
theorem dX12_orderOf_51 : decode mX12_orderOf.2.1 51 = .ok (.iinc 3 1, 3) := by decide +kernel
theorem dX12_orderOf_54 : decode mX12_orderOf.2.1 54 = .ok (.goto (-40), 3) := by decide +kernel
theorem dX12_orderOf_57 : decode mX12_orderOf.2.1 57 = .ok (.iload_n 2, 1) := by decide +kernel
theorem dX12_orderOf_58 : decode mX12_orderOf.2.1 58 = .ok (.ifCond .eq 5, 3) := by decide +kernel
theorem dX12_orderOf_61 : decode mX12_orderOf.2.1 61 = .ok (.iload_n 1, 1) := by decide +kernel
theorem dX12_orderOf_62 : decode mX12_orderOf.2.1 62 = .ok (.ireturn, 1) := by decide +kernel
theorem dX12_orderOf_63 : decode mX12_orderOf.2.1 63 = .ok (.iinc 1 1, 3) := by decide +kernel
theorem dX12_orderOf_66 : decode mX12_orderOf.2.1 66 = .ok (.goto (-64), 3) := by decide +kernel
theorem dX12_orderOf_69 : decode mX12_orderOf.2.1 69 = .ok (.iconst (-1), 1) := by decide +kernel
theorem dX12_orderOf_70 : decode mX12_orderOf.2.1 70 = .ok (.ireturn, 1) := by decide +kernel
theorem dX12_weights_0 : decode mX12_weights.2.1 0 = .ok (.aload_n 0, 1) := by decide +kernel
theorem dX12_weights_1 : decode mX12_weights.2.1 1 = .ok (.iconst 0, 1) := by decide +kernel
theorem dX12_weights_2 : decode mX12_weights.2.1 2 = .ok (.putfield 313, 3) := by decide +kernel
theorem dX12_weights_5 : decode mX12_weights.2.1 5 = .ok (.aload_n 0, 1) := by decide +kernel
theorem dX12_weights_6 : decode mX12_weights.2.1 6 = .ok (.iload_n 1, 1) := by decide +kernel
theorem dX12_weights_7 : decode mX12_weights.2.1 7 = .ok (.invokevirtual 573, 3) := by decide +kernel
theorem dX12_weights_10 : decode mX12_weights.2.1 10 = .ok (.istore_n 2, 1) := by decide +kernel
theorem dX12_weights_11 : decode mX12_weights.2.1 11 = .ok (.iload_n 2, 1) := by decide +kernel
theorem dX12_weights_12 : decode mX12_weights.2.1 12 = .ok (.ifCond .ne 5, 3) := by decide +kernel
theorem dX12_weights_15 : decode mX12_weights.2.1 15 = .ok (.iconst 0, 1) := by decide +kernel
theorem dX12_weights_16 : decode mX12_weights.2.1 16 = .ok (.ireturn, 1) := by decide +kernel
theorem dX12_weights_17 : decode mX12_weights.2.1 17 = .ok (.iconst 0, 1) := by decide +kernel
theorem dX12_weights_18 : decode mX12_weights.2.1 18 = .ok (.istore_n 3, 1) := by decide +kernel
theorem dX12_weights_19 : decode mX12_weights.2.1 19 = .ok (.iload_n 3, 1) := by decide +kernel
theorem dX12_weights_20 : decode mX12_weights.2.1 20 = .ok (.aload_n 0, 1) := by decide +kernel
theorem dX12_weights_21 : decode mX12_weights.2.1 21 = .ok (.invokevirtual 364, 3) := by decide +kernel
theorem dX12_weights_24 : decode mX12_weights.2.1 24 = .ok (.if_icmp .ge 21, 3) := by decide +kernel
theorem dX12_weights_27 : decode mX12_weights.2.1 27 = .ok (.aload_n 0, 1) := by decide +kernel
theorem dX12_weights_28 : decode mX12_weights.2.1 28 = .ok (.getfield 122, 3) := by decide +kernel
theorem dX12_weights_31 : decode mX12_weights.2.1 31 = .ok (.iload_n 3, 1) := by decide +kernel
theorem dX12_weights_32 : decode mX12_weights.2.1 32 = .ok (.aload_n 0, 1) := by decide +kernel
theorem dX12_weights_33 : decode mX12_weights.2.1 33 = .ok (.getfield 182, 3) := by decide +kernel
theorem dX12_weights_36 : decode mX12_weights.2.1 36 = .ok (.iload_n 3, 1) := by decide +kernel
theorem dX12_weights_37 : decode mX12_weights.2.1 37 = .ok (.iaload, 1) := by decide +kernel
theorem dX12_weights_38 : decode mX12_weights.2.1 38 = .ok (.iastore, 1) := by decide +kernel
theorem dX12_weights_39 : decode mX12_weights.2.1 39 = .ok (.iinc 3 1, 3) := by decide +kernel
theorem dX12_weights_42 : decode mX12_weights.2.1 42 = .ok (.goto (-23), 3) := by decide +kernel
theorem dX12_weights_45 : decode mX12_weights.2.1 45 = .ok (.aload_n 0, 1) := by decide +kernel
theorem dX12_weights_46 : decode mX12_weights.2.1 46 = .ok (.aload_n 0, 1) := by decide +kernel
theorem dX12_weights_47 : decode mX12_weights.2.1 47 = .ok (.invokevirtual 364, 3) := by decide +kernel
theorem dX12_weights_50 : decode mX12_weights.2.1 50 = .ok (.putfield 313, 3) := by decide +kernel
theorem dX12_weights_53 : decode mX12_weights.2.1 53 = .ok (.iload_n 2, 1) := by decide +kernel
theorem dX12_weights_54 : decode mX12_weights.2.1 54 = .ok (.ireturn, 1) := by decide +kernel
theorem dX12_countWeights_0 : decode mX12_countWeights.2.1 0 = .ok (.iconst 0, 1) := by decide +kernel
theorem dX12_countWeights_1 : decode mX12_countWeights.2.1 1 = .ok (.istore_n 2, 1) := by decide +kernel
theorem dX12_countWeights_2 : decode mX12_countWeights.2.1 2 = .ok (.iconst 0, 1) := by decide +kernel
theorem dX12_countWeights_3 : decode mX12_countWeights.2.1 3 = .ok (.istore_n 3, 1) := by decide +kernel
theorem dX12_countWeights_4 : decode mX12_countWeights.2.1 4 = .ok (.iload_n 3, 1) := by decide +kernel
theorem dX12_countWeights_5 : decode mX12_countWeights.2.1 5 = .ok (.aload_n 0, 1) := by decide +kernel
theorem dX12_countWeights_6 : decode mX12_countWeights.2.1 6 = .ok (.invokevirtual 564, 3) := by decide +kernel
theorem dX12_countWeights_9 : decode mX12_countWeights.2.1 9 = .ok (.if_icmp .ge 118, 3) := by decide +kernel
theorem dX12_countWeights_12 : decode mX12_countWeights.2.1 12 = .ok (.aload_n 0, 1) := by decide +kernel
theorem dX12_countWeights_13 : decode mX12_countWeights.2.1 13 = .ok (.iload_n 3, 1) := by decide +kernel
theorem dX12_countWeights_14 : decode mX12_countWeights.2.1 14 = .ok (.invokevirtual 567, 3) := by decide +kernel
theorem dX12_countWeights_17 : decode mX12_countWeights.2.1 17 = .ok (.aload_n 0, 1) := by decide +kernel
theorem dX12_countWeights_18 : decode mX12_countWeights.2.1 18 = .ok (.iload_n 1, 1) := by decide +kernel
theorem dX12_countWeights_19 : decode mX12_countWeights.2.1 19 = .ok (.invokevirtual 570, 3) := by decide +kernel
theorem dX12_countWeights_22 : decode mX12_countWeights.2.1 22 = .ok (.ifCond .ne 6, 3) := by decide +kernel
theorem dX12_countWeights_25 : decode mX12_countWeights.2.1 25 = .ok (.goto 96, 3) := by decide +kernel
theorem dX12_countWeights_28 : decode mX12_countWeights.2.1 28 = .ok (.iconst 0, 1) := by decide +kernel
theorem dX12_countWeights_29 : decode mX12_countWeights.2.1 29 = .ok (.istore 4, 2) := by decide +kernel
theorem dX12_countWeights_31 : decode mX12_countWeights.2.1 31 = .ok (.iload 4, 2) := by decide +kernel
theorem dX12_countWeights_33 : decode mX12_countWeights.2.1 33 = .ok (.aload_n 0, 1) := by decide +kernel
theorem dX12_countWeights_34 : decode mX12_countWeights.2.1 34 = .ok (.invokevirtual 364, 3) := by decide +kernel
theorem dX12_countWeights_37 : decode mX12_countWeights.2.1 37 = .ok (.if_icmp .ge 81, 3) := by decide +kernel
theorem dX12_countWeights_40 : decode mX12_countWeights.2.1 40 = .ok (.aload_n 0, 1) := by decide +kernel
theorem dX12_countWeights_41 : decode mX12_countWeights.2.1 41 = .ok (.getfield 173, 3) := by decide +kernel
theorem dX12_countWeights_44 : decode mX12_countWeights.2.1 44 = .ok (.iload 4, 2) := by decide +kernel
theorem dX12_countWeights_46 : decode mX12_countWeights.2.1 46 = .ok (.iaload, 1) := by decide +kernel
theorem dX12_countWeights_47 : decode mX12_countWeights.2.1 47 = .ok (.istore 5, 2) := by decide +kernel
theorem dX12_countWeights_49 : decode mX12_countWeights.2.1 49 = .ok (.iload_n 2, 1) := by decide +kernel
theorem dX12_countWeights_50 : decode mX12_countWeights.2.1 50 = .ok (.ifCond .ne 12, 3) := by decide +kernel
theorem dX12_countWeights_53 : decode mX12_countWeights.2.1 53 = .ok (.aload_n 0, 1) := by decide +kernel
theorem dX12_countWeights_54 : decode mX12_countWeights.2.1 54 = .ok (.getfield 182, 3) := by decide +kernel
theorem dX12_countWeights_57 : decode mX12_countWeights.2.1 57 = .ok (.iload 4, 2) := by decide +kernel
theorem dX12_countWeights_59 : decode mX12_countWeights.2.1 59 = .ok (.iload 5, 2) := by decide +kernel
theorem dX12_countWeights_61 : decode mX12_countWeights.2.1 61 = .ok (.iastore, 1) := by decide +kernel
theorem dX12_countWeights_62 : decode mX12_countWeights.2.1 62 = .ok (.iload_n 2, 1) := by decide +kernel
theorem dX12_countWeights_63 : decode mX12_countWeights.2.1 63 = .ok (.ifCond .eq 15, 3) := by decide +kernel
theorem dX12_countWeights_66 : decode mX12_countWeights.2.1 66 = .ok (.iload 5, 2) := by decide +kernel
theorem dX12_countWeights_68 : decode mX12_countWeights.2.1 68 = .ok (.aload_n 0, 1) := by decide +kernel
theorem dX12_countWeights_69 : decode mX12_countWeights.2.1 69 = .ok (.getfield 176, 3) := by decide +kernel
theorem dX12_countWeights_72 : decode mX12_countWeights.2.1 72 = .ok (.iload 4, 2) := by decide +kernel
theorem dX12_countWeights_74 : decode mX12_countWeights.2.1 74 = .ok (.iaload, 1) := by decide +kernel
theorem dX12_countWeights_75 : decode mX12_countWeights.2.1 75 = .ok (.if_icmp .ge 12, 3) := by decide +kernel
theorem dX12_countWeights_78 : decode mX12_countWeights.2.1 78 = .ok (.aload_n 0, 1) := by decide +kernel
theorem dX12_countWeights_79 : decode mX12_countWeights.2.1 79 = .ok (.getfield 176, 3) := by decide +kernel
theorem dX12_countWeights_82 : decode mX12_countWeights.2.1 82 = .ok (.iload 4, 2) := by decide +kernel
theorem dX12_countWeights_84 : decode mX12_countWeights.2.1 84 = .ok (.iload 5, 2) := by decide +kernel
theorem dX12_countWeights_86 : decode mX12_countWeights.2.1 86 = .ok (.iastore, 1) := by decide +kernel
theorem dX12_countWeights_87 : decode mX12_countWeights.2.1 87 = .ok (.iload_n 2, 1) := by decide +kernel
theorem dX12_countWeights_88 : decode mX12_countWeights.2.1 88 = .ok (.ifCond .eq 15, 3) := by decide +kernel
theorem dX12_countWeights_91 : decode mX12_countWeights.2.1 91 = .ok (.iload 5, 2) := by decide +kernel
theorem dX12_countWeights_93 : decode mX12_countWeights.2.1 93 = .ok (.aload_n 0, 1) := by decide +kernel
theorem dX12_countWeights_94 : decode mX12_countWeights.2.1 94 = .ok (.getfield 179, 3) := by decide +kernel
theorem dX12_countWeights_97 : decode mX12_countWeights.2.1 97 = .ok (.iload 4, 2) := by decide +kernel
theorem dX12_countWeights_99 : decode mX12_countWeights.2.1 99 = .ok (.iaload, 1) := by decide +kernel
theorem dX12_countWeights_100 : decode mX12_countWeights.2.1 100 = .ok (.if_icmp .le 12, 3) := by decide +kernel
theorem dX12_countWeights_103 : decode mX12_countWeights.2.1 103 = .ok (.aload_n 0, 1) := by decide +kernel
theorem dX12_countWeights_104 : decode mX12_countWeights.2.1 104 = .ok (.getfield 179, 3) := by decide +kernel
theorem dX12_countWeights_107 : decode mX12_countWeights.2.1 107 = .ok (.iload 4, 2) := by decide +kernel
theorem dX12_countWeights_109 : decode mX12_countWeights.2.1 109 = .ok (.iload 5, 2) := by decide +kernel
theorem dX12_countWeights_111 : decode mX12_countWeights.2.1 111 = .ok (.iastore, 1) := by decide +kernel
theorem dX12_countWeights_112 : decode mX12_countWeights.2.1 112 = .ok (.iinc 4 1, 3) := by decide +kernel
theorem dX12_countWeights_115 : decode mX12_countWeights.2.1 115 = .ok (.goto (-84), 3) := by decide +kernel
theorem dX12_countWeights_118 : decode mX12_countWeights.2.1 118 = .ok (.iinc 2 1, 3) := by decide +kernel
theorem dX12_countWeights_121 : decode mX12_countWeights.2.1 121 = .ok (.iinc 3 1, 3) := by decide +kernel
theorem dX12_countWeights_124 : decode mX12_countWeights.2.1 124 = .ok (.goto (-120), 3) := by decide +kernel
theorem dX12_countWeights_127 : decode mX12_countWeights.2.1 127 = .ok (.iload_n 2, 1) := by decide +kernel
theorem dX12_countWeights_128 : decode mX12_countWeights.2.1 128 = .ok (.ireturn, 1) := by decide +kernel
theorem dX12_weightRows_0 : decode mX12_weightRows.2.1 0 = .ok (.iconst 1, 1) := by decide +kernel
theorem dX12_weightRows_1 : decode mX12_weightRows.2.1 1 = .ok (.istore_n 1, 1) := by decide +kernel
theorem dX12_weightRows_2 : decode mX12_weightRows.2.1 2 = .ok (.iconst 0, 1) := by decide +kernel
theorem dX12_weightRows_3 : decode mX12_weightRows.2.1 3 = .ok (.istore_n 2, 1) := by decide +kernel
theorem dX12_weightRows_4 : decode mX12_weightRows.2.1 4 = .ok (.iload_n 2, 1) := by decide +kernel
theorem dX12_weightRows_5 : decode mX12_weightRows.2.1 5 = .ok (.aload_n 0, 1) := by decide +kernel
theorem dX12_weightRows_6 : decode mX12_weightRows.2.1 6 = .ok (.invokevirtual 364, 3) := by decide +kernel
theorem dX12_weightRows_9 : decode mX12_weightRows.2.1 9 = .ok (.if_icmp .ge 14, 3) := by decide +kernel
theorem dX12_weightRows_12 : decode mX12_weightRows.2.1 12 = .ok (.iload_n 1, 1) := by decide +kernel
theorem dX12_weightRows_13 : decode mX12_weightRows.2.1 13 = .ok (.bipush 6, 2) := by decide +kernel
theorem dX12_weightRows_15 : decode mX12_weightRows.2.1 15 = .ok (.imul, 1) := by decide +kernel
theorem dX12_weightRows_16 : decode mX12_weightRows.2.1 16 = .ok (.istore_n 1, 1) := by decide +kernel
theorem dX12_weightRows_17 : decode mX12_weightRows.2.1 17 = .ok (.iinc 2 1, 3) := by decide +kernel
theorem dX12_weightRows_20 : decode mX12_weightRows.2.1 20 = .ok (.goto (-16), 3) := by decide +kernel
theorem dX12_weightRows_23 : decode mX12_weightRows.2.1 23 = .ok (.iload_n 1, 1) := by decide +kernel
theorem dX12_weightRows_24 : decode mX12_weightRows.2.1 24 = .ok (.ireturn, 1) := by decide +kernel
theorem dX12_layWeights_0 : decode mX12_layWeights.2.1 0 = .ok (.iload_n 1, 1) := by decide +kernel
theorem dX12_layWeights_1 : decode mX12_layWeights.2.1 1 = .ok (.istore_n 2, 1) := by decide +kernel
theorem dX12_layWeights_2 : decode mX12_layWeights.2.1 2 = .ok (.aload_n 0, 1) := by decide +kernel
theorem dX12_layWeights_3 : decode mX12_layWeights.2.1 3 = .ok (.invokevirtual 364, 3) := by decide +kernel
theorem dX12_layWeights_6 : decode mX12_layWeights.2.1 6 = .ok (.iconst 1, 1) := by decide +kernel
theorem dX12_layWeights_7 : decode mX12_layWeights.2.1 7 = .ok (.isub, 1) := by decide +kernel
theorem dX12_layWeights_8 : decode mX12_layWeights.2.1 8 = .ok (.istore_n 3, 1) := by decide +kernel
theorem dX12_layWeights_9 : decode mX12_layWeights.2.1 9 = .ok (.iload_n 3, 1) := by decide +kernel
theorem dX12_layWeights_10 : decode mX12_layWeights.2.1 10 = .ok (.ifCond .lt 26, 3) := by decide +kernel
theorem dX12_layWeights_13 : decode mX12_layWeights.2.1 13 = .ok (.aload_n 0, 1) := by decide +kernel
theorem dX12_layWeights_14 : decode mX12_layWeights.2.1 14 = .ok (.getfield 173, 3) := by decide +kernel
theorem dX12_layWeights_17 : decode mX12_layWeights.2.1 17 = .ok (.iload_n 3, 1) := by decide +kernel
theorem dX12_layWeights_18 : decode mX12_layWeights.2.1 18 = .ok (.iconst 1, 1) := by decide +kernel
theorem dX12_layWeights_19 : decode mX12_layWeights.2.1 19 = .ok (.iload_n 2, 1) := by decide +kernel
theorem dX12_layWeights_20 : decode mX12_layWeights.2.1 20 = .ok (.bipush 6, 2) := by decide +kernel
theorem dX12_layWeights_22 : decode mX12_layWeights.2.1 22 = .ok (.irem, 1) := by decide +kernel
theorem dX12_layWeights_23 : decode mX12_layWeights.2.1 23 = .ok (.iadd, 1) := by decide +kernel
theorem dX12_layWeights_24 : decode mX12_layWeights.2.1 24 = .ok (.iastore, 1) := by decide +kernel
theorem dX12_layWeights_25 : decode mX12_layWeights.2.1 25 = .ok (.iload_n 2, 1) := by decide +kernel
theorem dX12_layWeights_26 : decode mX12_layWeights.2.1 26 = .ok (.bipush 6, 2) := by decide +kernel
theorem dX12_layWeights_28 : decode mX12_layWeights.2.1 28 = .ok (.idiv, 1) := by decide +kernel
theorem dX12_layWeights_29 : decode mX12_layWeights.2.1 29 = .ok (.istore_n 2, 1) := by decide +kernel
theorem dX12_layWeights_30 : decode mX12_layWeights.2.1 30 = .ok (.iinc 3 (-1), 3) := by decide +kernel
theorem dX12_layWeights_33 : decode mX12_layWeights.2.1 33 = .ok (.goto (-24), 3) := by decide +kernel
theorem dX12_layWeights_36 : decode mX12_layWeights.2.1 36 = .ok (.return_, 1) := by decide +kernel
theorem dX12_doFit_0 : decode mX12_doFit.2.1 0 = .ok (.iconst 0, 1) := by decide +kernel
theorem dX12_doFit_1 : decode mX12_doFit.2.1 1 = .ok (.istore_n 2, 1) := by decide +kernel
theorem dX12_doFit_2 : decode mX12_doFit.2.1 2 = .ok (.iload_n 2, 1) := by decide +kernel
theorem dX12_doFit_3 : decode mX12_doFit.2.1 3 = .ok (.aload_n 0, 1) := by decide +kernel
theorem dX12_doFit_4 : decode mX12_doFit.2.1 4 = .ok (.getfield 304, 3) := by decide +kernel
theorem dX12_doFit_7 : decode mX12_doFit.2.1 7 = .ok (.if_icmp .ge 45, 3) := by decide +kernel
theorem dX12_doFit_10 : decode mX12_doFit.2.1 10 = .ok (.aload_n 0, 1) := by decide +kernel
theorem dX12_doFit_11 : decode mX12_doFit.2.1 11 = .ok (.iload_n 2, 1) := by decide +kernel
theorem dX12_doFit_12 : decode mX12_doFit.2.1 12 = .ok (.iload_n 1, 1) := by decide +kernel
theorem dX12_doFit_13 : decode mX12_doFit.2.1 13 = .ok (.invokevirtual 395, 3) := by decide +kernel
theorem dX12_doFit_16 : decode mX12_doFit.2.1 16 = .ok (.ifCond .eq 30, 3) := by decide +kernel
theorem dX12_doFit_19 : decode mX12_doFit.2.1 19 = .ok (.aload_n 0, 1) := by decide +kernel
theorem dX12_doFit_20 : decode mX12_doFit.2.1 20 = .ok (.aload_n 0, 1) := by decide +kernel
theorem dX12_doFit_21 : decode mX12_doFit.2.1 21 = .ok (.getfield 83, 3) := by decide +kernel
theorem dX12_doFit_24 : decode mX12_doFit.2.1 24 = .ok (.iload_n 2, 1) := by decide +kernel
theorem dX12_doFit_25 : decode mX12_doFit.2.1 25 = .ok (.iaload, 1) := by decide +kernel
theorem dX12_doFit_26 : decode mX12_doFit.2.1 26 = .ok (.aload_n 0, 1) := by decide +kernel
theorem dX12_doFit_27 : decode mX12_doFit.2.1 27 = .ok (.getfield 86, 3) := by decide +kernel
theorem dX12_doFit_30 : decode mX12_doFit.2.1 30 = .ok (.iload_n 2, 1) := by decide +kernel
theorem dX12_doFit_31 : decode mX12_doFit.2.1 31 = .ok (.iaload, 1) := by decide +kernel
theorem dX12_doFit_32 : decode mX12_doFit.2.1 32 = .ok (.invokevirtual 561, 3) := by decide +kernel
theorem dX12_doFit_35 : decode mX12_doFit.2.1 35 = .ok (.aload_n 0, 1) := by decide +kernel
theorem dX12_doFit_36 : decode mX12_doFit.2.1 36 = .ok (.getfield 89, 3) := by decide +kernel
theorem dX12_doFit_39 : decode mX12_doFit.2.1 39 = .ok (.iload_n 2, 1) := by decide +kernel
theorem dX12_doFit_40 : decode mX12_doFit.2.1 40 = .ok (.iaload, 1) := by decide +kernel
theorem dX12_doFit_41 : decode mX12_doFit.2.1 41 = .ok (.if_icmp .eq 5, 3) := by decide +kernel
theorem dX12_doFit_44 : decode mX12_doFit.2.1 44 = .ok (.iconst 0, 1) := by decide +kernel
theorem dX12_doFit_45 : decode mX12_doFit.2.1 45 = .ok (.ireturn, 1) := by decide +kernel
theorem dX12_doFit_46 : decode mX12_doFit.2.1 46 = .ok (.iinc 2 1, 3) := by decide +kernel
theorem dX12_doFit_49 : decode mX12_doFit.2.1 49 = .ok (.goto (-47), 3) := by decide +kernel
theorem dX12_doFit_52 : decode mX12_doFit.2.1 52 = .ok (.iconst 1, 1) := by decide +kernel
theorem dX12_doFit_53 : decode mX12_doFit.2.1 53 = .ok (.ireturn, 1) := by decide +kernel
theorem dX12_saysOf_0 : decode mX12_saysOf.2.1 0 = .ok (.iconst 0, 1) := by decide +kernel
theorem dX12_saysOf_1 : decode mX12_saysOf.2.1 1 = .ok (.istore_n 3, 1) := by decide +kernel
theorem dX12_saysOf_2 : decode mX12_saysOf.2.1 2 = .ok (.iconst 0, 1) := by decide +kernel
theorem dX12_saysOf_3 : decode mX12_saysOf.2.1 3 = .ok (.istore 4, 2) := by decide +kernel
theorem dX12_saysOf_5 : decode mX12_saysOf.2.1 5 = .ok (.iload 4, 2) := by decide +kernel
theorem dX12_saysOf_7 : decode mX12_saysOf.2.1 7 = .ok (.aload_n 0, 1) := by decide +kernel
theorem dX12_saysOf_8 : decode mX12_saysOf.2.1 8 = .ok (.invokevirtual 364, 3) := by decide +kernel
theorem dX12_saysOf_11 : decode mX12_saysOf.2.1 11 = .ok (.if_icmp .ge 33, 3) := by decide +kernel
theorem dX12_saysOf_14 : decode mX12_saysOf.2.1 14 = .ok (.iload_n 3, 1) := by decide +kernel
theorem dX12_saysOf_15 : decode mX12_saysOf.2.1 15 = .ok (.iload_n 1, 1) := by decide +kernel
theorem dX12_saysOf_16 : decode mX12_saysOf.2.1 16 = .ok (.iload 4, 2) := by decide +kernel
theorem dX12_saysOf_18 : decode mX12_saysOf.2.1 18 = .ok (.ishr, 1) := by decide +kernel
theorem dX12_saysOf_19 : decode mX12_saysOf.2.1 19 = .ok (.iconst 1, 1) := by decide +kernel
theorem dX12_saysOf_20 : decode mX12_saysOf.2.1 20 = .ok (.iand, 1) := by decide +kernel
theorem dX12_saysOf_21 : decode mX12_saysOf.2.1 21 = .ok (.iload_n 2, 1) := by decide +kernel
theorem dX12_saysOf_22 : decode mX12_saysOf.2.1 22 = .ok (.iload 4, 2) := by decide +kernel
theorem dX12_saysOf_24 : decode mX12_saysOf.2.1 24 = .ok (.ishr, 1) := by decide +kernel
theorem dX12_saysOf_25 : decode mX12_saysOf.2.1 25 = .ok (.iconst 1, 1) := by decide +kernel
theorem dX12_saysOf_26 : decode mX12_saysOf.2.1 26 = .ok (.iand, 1) := by decide +kernel
theorem dX12_saysOf_27 : decode mX12_saysOf.2.1 27 = .ok (.isub, 1) := by decide +kernel
theorem dX12_saysOf_28 : decode mX12_saysOf.2.1 28 = .ok (.aload_n 0, 1) := by decide +kernel
theorem dX12_saysOf_29 : decode mX12_saysOf.2.1 29 = .ok (.getfield 173, 3) := by decide +kernel
theorem dX12_saysOf_32 : decode mX12_saysOf.2.1 32 = .ok (.iload 4, 2) := by decide +kernel
theorem dX12_saysOf_34 : decode mX12_saysOf.2.1 34 = .ok (.iaload, 1) := by decide +kernel
theorem dX12_saysOf_35 : decode mX12_saysOf.2.1 35 = .ok (.imul, 1) := by decide +kernel
theorem dX12_saysOf_36 : decode mX12_saysOf.2.1 36 = .ok (.iadd, 1) := by decide +kernel
theorem dX12_saysOf_37 : decode mX12_saysOf.2.1 37 = .ok (.istore_n 3, 1) := by decide +kernel
theorem dX12_saysOf_38 : decode mX12_saysOf.2.1 38 = .ok (.iinc 4 1, 3) := by decide +kernel
theorem dX12_saysOf_41 : decode mX12_saysOf.2.1 41 = .ok (.goto (-36), 3) := by decide +kernel
theorem dX12_saysOf_44 : decode mX12_saysOf.2.1 44 = .ok (.aload_n 0, 1) := by decide +kernel
theorem dX12_saysOf_45 : decode mX12_saysOf.2.1 45 = .ok (.iload_n 3, 1) := by decide +kernel
theorem dX12_saysOf_46 : decode mX12_saysOf.2.1 46 = .ok (.invokevirtual 384, 3) := by decide +kernel
theorem dX12_saysOf_49 : decode mX12_saysOf.2.1 49 = .ok (.ireturn, 1) := by decide +kernel
theorem dX12_weight_0 : decode mX12_weight.2.1 0 = .ok (.aload_n 0, 1) := by decide +kernel
theorem dX12_weight_1 : decode mX12_weight.2.1 1 = .ok (.iload_n 1, 1) := by decide +kernel
theorem dX12_weight_2 : decode mX12_weight.2.1 2 = .ok (.invokevirtual 421, 3) := by decide +kernel
theorem dX12_weight_5 : decode mX12_weight.2.1 5 = .ok (.ifCond .eq 11, 3) := by decide +kernel
theorem dX12_weight_8 : decode mX12_weight.2.1 8 = .ok (.aload_n 0, 1) := by decide +kernel
theorem dX12_weight_9 : decode mX12_weight.2.1 9 = .ok (.iload_n 3, 1) := by decide +kernel
theorem dX12_weight_10 : decode mX12_weight.2.1 10 = .ok (.invokevirtual 573, 3) := by decide +kernel
theorem dX12_weight_13 : decode mX12_weight.2.1 13 = .ok (.ifCond .ne 5, 3) := by decide +kernel
theorem dX12_weight_16 : decode mX12_weight.2.1 16 = .ok (.iconst (-1), 1) := by decide +kernel
theorem dX12_weight_17 : decode mX12_weight.2.1 17 = .ok (.ireturn, 1) := by decide +kernel
theorem dX12_weight_18 : decode mX12_weight.2.1 18 = .ok (.iload_n 2, 1) := by decide +kernel
theorem dX12_weight_19 : decode mX12_weight.2.1 19 = .ok (.ifCond .eq 12, 3) := by decide +kernel
theorem dX12_weight_22 : decode mX12_weight.2.1 22 = .ok (.aload_n 0, 1) := by decide +kernel
theorem dX12_weight_23 : decode mX12_weight.2.1 23 = .ok (.getfield 179, 3) := by decide +kernel
theorem dX12_weight_26 : decode mX12_weight.2.1 26 = .ok (.iload_n 1, 1) := by decide +kernel
theorem dX12_weight_27 : decode mX12_weight.2.1 27 = .ok (.iaload, 1) := by decide +kernel
theorem dX12_weight_28 : decode mX12_weight.2.1 28 = .ok (.goto 9, 3) := by decide +kernel
theorem dX12_weight_31 : decode mX12_weight.2.1 31 = .ok (.aload_n 0, 1) := by decide +kernel
theorem dX12_weight_32 : decode mX12_weight.2.1 32 = .ok (.getfield 176, 3) := by decide +kernel
theorem dX12_weight_35 : decode mX12_weight.2.1 35 = .ok (.iload_n 1, 1) := by decide +kernel
theorem dX12_weight_36 : decode mX12_weight.2.1 36 = .ok (.iaload, 1) := by decide +kernel
theorem dX12_weight_37 : decode mX12_weight.2.1 37 = .ok (.ireturn, 1) := by decide +kernel
theorem dX12_could_0 : decode mX12_could.2.1 0 = .ok (.aload_n 0, 1) := by decide +kernel
theorem dX12_could_1 : decode mX12_could.2.1 1 = .ok (.iload_n 1, 1) := by decide +kernel
theorem dX12_could_2 : decode mX12_could.2.1 2 = .ok (.iload_n 2, 1) := by decide +kernel
theorem dX12_could_3 : decode mX12_could.2.1 3 = .ok (.invokevirtual 380, 3) := by decide +kernel
theorem dX12_could_6 : decode mX12_could.2.1 6 = .ok (.ifCond .ne 5, 3) := by decide +kernel
theorem dX12_could_9 : decode mX12_could.2.1 9 = .ok (.iconst (-1), 1) := by decide +kernel
theorem dX12_could_10 : decode mX12_could.2.1 10 = .ok (.ireturn, 1) := by decide +kernel
theorem dX12_could_11 : decode mX12_could.2.1 11 = .ok (.iconst 0, 1) := by decide +kernel
theorem dX12_could_12 : decode mX12_could.2.1 12 = .ok (.istore 4, 2) := by decide +kernel
theorem dX12_could_14 : decode mX12_could.2.1 14 = .ok (.iconst 0, 1) := by decide +kernel
theorem dX12_could_15 : decode mX12_could.2.1 15 = .ok (.istore 5, 2) := by decide +kernel
theorem dX12_could_17 : decode mX12_could.2.1 17 = .ok (.iload 5, 2) := by decide +kernel
theorem dX12_could_19 : decode mX12_could.2.1 19 = .ok (.aload_n 0, 1) := by decide +kernel
theorem dX12_could_20 : decode mX12_could.2.1 20 = .ok (.invokevirtual 564, 3) := by decide +kernel
theorem dX12_could_23 : decode mX12_could.2.1 23 = .ok (.if_icmp .ge 36, 3) := by decide +kernel
theorem dX12_could_26 : decode mX12_could.2.1 26 = .ok (.aload_n 0, 1) := by decide +kernel
theorem dX12_could_27 : decode mX12_could.2.1 27 = .ok (.iload 5, 2) := by decide +kernel
theorem dX12_could_29 : decode mX12_could.2.1 29 = .ok (.invokevirtual 567, 3) := by decide +kernel
theorem dX12_could_32 : decode mX12_could.2.1 32 = .ok (.aload_n 0, 1) := by decide +kernel
theorem dX12_could_33 : decode mX12_could.2.1 33 = .ok (.iload_n 3, 1) := by decide +kernel
theorem dX12_could_34 : decode mX12_could.2.1 34 = .ok (.invokevirtual 570, 3) := by decide +kernel
theorem dX12_could_37 : decode mX12_could.2.1 37 = .ok (.ifCond .eq 16, 3) := by decide +kernel
theorem dX12_could_40 : decode mX12_could.2.1 40 = .ok (.iload 4, 2) := by decide +kernel
theorem dX12_could_42 : decode mX12_could.2.1 42 = .ok (.iconst 1, 1) := by decide +kernel
theorem dX12_could_43 : decode mX12_could.2.1 43 = .ok (.aload_n 0, 1) := by decide +kernel
theorem dX12_could_44 : decode mX12_could.2.1 44 = .ok (.iload_n 1, 1) := by decide +kernel
theorem dX12_could_45 : decode mX12_could.2.1 45 = .ok (.iload_n 2, 1) := by decide +kernel
theorem dX12_could_46 : decode mX12_could.2.1 46 = .ok (.invokevirtual 561, 3) := by decide +kernel
theorem dX12_could_49 : decode mX12_could.2.1 49 = .ok (.ishl, 1) := by decide +kernel
theorem dX12_could_50 : decode mX12_could.2.1 50 = .ok (.ior, 1) := by decide +kernel
theorem dX12_could_51 : decode mX12_could.2.1 51 = .ok (.istore 4, 2) := by decide +kernel
theorem dX12_could_53 : decode mX12_could.2.1 53 = .ok (.iinc 5 1, 3) := by decide +kernel
theorem dX12_could_56 : decode mX12_could.2.1 56 = .ok (.goto (-39), 3) := by decide +kernel
theorem dX12_could_59 : decode mX12_could.2.1 59 = .ok (.iload 4, 2) := by decide +kernel
theorem dX12_could_61 : decode mX12_could.2.1 61 = .ok (.ireturn, 1) := by decide +kernel
theorem dX12_stones_0 : decode mX12_stones.2.1 0 = .ok (.aload_n 0, 1) := by decide +kernel
theorem dX12_stones_1 : decode mX12_stones.2.1 1 = .ok (.iconst 0, 1) := by decide +kernel
theorem dX12_stones_2 : decode mX12_stones.2.1 2 = .ok (.putfield 313, 3) := by decide +kernel
theorem dX12_stones_5 : decode mX12_stones.2.1 5 = .ok (.iload_n 1, 1) := by decide +kernel
theorem dX12_stones_6 : decode mX12_stones.2.1 6 = .ok (.iconst 1, 1) := by decide +kernel
theorem dX12_stones_7 : decode mX12_stones.2.1 7 = .ok (.bipush 40, 2) := by decide +kernel
theorem dX12_stones_9 : decode mX12_stones.2.1 9 = .ok (.invokestatic 367, 3) := by decide +kernel
theorem dX12_stones_12 : decode mX12_stones.2.1 12 = .ok (.ifCond .ne 5, 3) := by decide +kernel
theorem dX12_stones_15 : decode mX12_stones.2.1 15 = .ok (.iconst (-1), 1) := by decide +kernel
theorem dX12_stones_16 : decode mX12_stones.2.1 16 = .ok (.ireturn, 1) := by decide +kernel
theorem dX12_stones_17 : decode mX12_stones.2.1 17 = .ok (.iconst 0, 1) := by decide +kernel
theorem dX12_stones_18 : decode mX12_stones.2.1 18 = .ok (.istore_n 3, 1) := by decide +kernel
theorem dX12_stones_19 : decode mX12_stones.2.1 19 = .ok (.iconst 0, 1) := by decide +kernel
theorem dX12_stones_20 : decode mX12_stones.2.1 20 = .ok (.istore 4, 2) := by decide +kernel
theorem dX12_stones_22 : decode mX12_stones.2.1 22 = .ok (.iload 4, 2) := by decide +kernel
theorem dX12_stones_24 : decode mX12_stones.2.1 24 = .ok (.iload_n 1, 1) := by decide +kernel
theorem dX12_stones_25 : decode mX12_stones.2.1 25 = .ok (.if_icmp .ge 30, 3) := by decide +kernel
theorem dX12_stones_28 : decode mX12_stones.2.1 28 = .ok (.iload_n 2, 1) := by decide +kernel
theorem dX12_stones_29 : decode mX12_stones.2.1 29 = .ok (.ifCond .eq 12, 3) := by decide +kernel
theorem dX12_stones_32 : decode mX12_stones.2.1 32 = .ok (.iconst 3, 1) := by decide +kernel
theorem dX12_stones_33 : decode mX12_stones.2.1 33 = .ok (.iload 4, 2) := by decide +kernel
theorem dX12_stones_35 : decode mX12_stones.2.1 35 = .ok (.imul, 1) := by decide +kernel
theorem dX12_stones_36 : decode mX12_stones.2.1 36 = .ok (.iconst 1, 1) := by decide +kernel
theorem dX12_stones_37 : decode mX12_stones.2.1 37 = .ok (.iadd, 1) := by decide +kernel
theorem dX12_stones_38 : decode mX12_stones.2.1 38 = .ok (.goto 9, 3) := by decide +kernel
theorem dX12_stones_41 : decode mX12_stones.2.1 41 = .ok (.iconst 2, 1) := by decide +kernel
theorem dX12_stones_42 : decode mX12_stones.2.1 42 = .ok (.iload 4, 2) := by decide +kernel
theorem dX12_stones_44 : decode mX12_stones.2.1 44 = .ok (.imul, 1) := by decide +kernel
theorem dX12_stones_45 : decode mX12_stones.2.1 45 = .ok (.iconst 1, 1) := by decide +kernel
theorem dX12_stones_46 : decode mX12_stones.2.1 46 = .ok (.iadd, 1) := by decide +kernel
theorem dX12_stones_47 : decode mX12_stones.2.1 47 = .ok (.istore 4, 2) := by decide +kernel
theorem dX12_stones_49 : decode mX12_stones.2.1 49 = .ok (.iinc 3 1, 3) := by decide +kernel
theorem dX12_stones_52 : decode mX12_stones.2.1 52 = .ok (.goto (-30), 3) := by decide +kernel
theorem dX12_stones_55 : decode mX12_stones.2.1 55 = .ok (.aload_n 0, 1) := by decide +kernel
theorem dX12_stones_56 : decode mX12_stones.2.1 56 = .ok (.iload_n 3, 1) := by decide +kernel
theorem dX12_stones_57 : decode mX12_stones.2.1 57 = .ok (.iload_n 1, 1) := by decide +kernel
theorem dX12_stones_58 : decode mX12_stones.2.1 58 = .ok (.iload_n 2, 1) := by decide +kernel
theorem dX12_stones_59 : decode mX12_stones.2.1 59 = .ok (.invokevirtual 584, 3) := by decide +kernel
theorem dX12_stones_62 : decode mX12_stones.2.1 62 = .ok (.ifCond .ne 9, 3) := by decide +kernel
theorem dX12_stones_65 : decode mX12_stones.2.1 65 = .ok (.iinc 3 1, 3) := by decide +kernel
theorem dX12_stones_68 : decode mX12_stones.2.1 68 = .ok (.goto (-13), 3) := by decide +kernel
theorem dX12_stones_71 : decode mX12_stones.2.1 71 = .ok (.iconst 0, 1) := by decide +kernel
theorem dX12_stones_72 : decode mX12_stones.2.1 72 = .ok (.istore 4, 2) := by decide +kernel
theorem dX12_stones_74 : decode mX12_stones.2.1 74 = .ok (.iload 4, 2) := by decide +kernel
theorem dX12_stones_76 : decode mX12_stones.2.1 76 = .ok (.iload_n 3, 1) := by decide +kernel
theorem dX12_stones_77 : decode mX12_stones.2.1 77 = .ok (.if_icmp .ge 23, 3) := by decide +kernel
theorem dX12_stones_80 : decode mX12_stones.2.1 80 = .ok (.aload_n 0, 1) := by decide +kernel
theorem dX12_stones_81 : decode mX12_stones.2.1 81 = .ok (.getfield 122, 3) := by decide +kernel
theorem dX12_stones_84 : decode mX12_stones.2.1 84 = .ok (.iload 4, 2) := by decide +kernel
theorem dX12_stones_86 : decode mX12_stones.2.1 86 = .ok (.aload_n 0, 1) := by decide +kernel
theorem dX12_stones_87 : decode mX12_stones.2.1 87 = .ok (.getfield 188, 3) := by decide +kernel
theorem dX12_stones_90 : decode mX12_stones.2.1 90 = .ok (.iload 4, 2) := by decide +kernel
theorem dX12_stones_92 : decode mX12_stones.2.1 92 = .ok (.iaload, 1) := by decide +kernel
theorem dX12_stones_93 : decode mX12_stones.2.1 93 = .ok (.iastore, 1) := by decide +kernel
theorem dX12_stones_94 : decode mX12_stones.2.1 94 = .ok (.iinc 4 1, 3) := by decide +kernel
theorem dX12_stones_97 : decode mX12_stones.2.1 97 = .ok (.goto (-23), 3) := by decide +kernel
theorem dX12_stones_100 : decode mX12_stones.2.1 100 = .ok (.aload_n 0, 1) := by decide +kernel
theorem dX12_stones_101 : decode mX12_stones.2.1 101 = .ok (.iload_n 3, 1) := by decide +kernel
theorem dX12_stones_102 : decode mX12_stones.2.1 102 = .ok (.putfield 313, 3) := by decide +kernel
theorem dX12_stones_105 : decode mX12_stones.2.1 105 = .ok (.iload_n 3, 1) := by decide +kernel
theorem dX12_stones_106 : decode mX12_stones.2.1 106 = .ok (.ireturn, 1) := by decide +kernel
theorem dX12_findStones_0 : decode mX12_findStones.2.1 0 = .ok (.iconst 0, 1) := by decide +kernel
theorem dX12_findStones_1 : decode mX12_findStones.2.1 1 = .ok (.istore 4, 2) := by decide +kernel
theorem dX12_findStones_3 : decode mX12_findStones.2.1 3 = .ok (.aload_n 0, 1) := by decide +kernel
theorem dX12_findStones_4 : decode mX12_findStones.2.1 4 = .ok (.getfield 188, 3) := by decide +kernel
theorem dX12_findStones_7 : decode mX12_findStones.2.1 7 = .ok (.iconst 0, 1) := by decide +kernel
theorem dX12_findStones_8 : decode mX12_findStones.2.1 8 = .ok (.iconst 0, 1) := by decide +kernel
theorem dX12_findStones_9 : decode mX12_findStones.2.1 9 = .ok (.iastore, 1) := by decide +kernel
theorem dX12_findStones_10 : decode mX12_findStones.2.1 10 = .ok (.iload 4, 2) := by decide +kernel
theorem dX12_findStones_12 : decode mX12_findStones.2.1 12 = .ok (.ifCond .lt 82, 3) := by decide +kernel
theorem dX12_findStones_15 : decode mX12_findStones.2.1 15 = .ok (.aload_n 0, 1) := by decide +kernel
theorem dX12_findStones_16 : decode mX12_findStones.2.1 16 = .ok (.getfield 188, 3) := by decide +kernel
theorem dX12_findStones_19 : decode mX12_findStones.2.1 19 = .ok (.iload 4, 2) := by decide +kernel
theorem dX12_findStones_21 : decode mX12_findStones.2.1 21 = .ok (.dup2, 1) := by decide +kernel
theorem dX12_findStones_22 : decode mX12_findStones.2.1 22 = .ok (.iaload, 1) := by decide +kernel
theorem dX12_findStones_23 : decode mX12_findStones.2.1 23 = .ok (.iconst 1, 1) := by decide +kernel
theorem dX12_findStones_24 : decode mX12_findStones.2.1 24 = .ok (.iadd, 1) := by decide +kernel
theorem dX12_findStones_25 : decode mX12_findStones.2.1 25 = .ok (.iastore, 1) := by decide +kernel
theorem dX12_findStones_26 : decode mX12_findStones.2.1 26 = .ok (.aload_n 0, 1) := by decide +kernel
theorem dX12_findStones_27 : decode mX12_findStones.2.1 27 = .ok (.getfield 188, 3) := by decide +kernel
theorem dX12_findStones_30 : decode mX12_findStones.2.1 30 = .ok (.iload 4, 2) := by decide +kernel
theorem dX12_findStones_32 : decode mX12_findStones.2.1 32 = .ok (.iaload, 1) := by decide +kernel
theorem dX12_findStones_33 : decode mX12_findStones.2.1 33 = .ok (.aload_n 0, 1) := by decide +kernel
theorem dX12_findStones_34 : decode mX12_findStones.2.1 34 = .ok (.iload 4, 2) := by decide +kernel
theorem dX12_findStones_36 : decode mX12_findStones.2.1 36 = .ok (.iload_n 2, 1) := by decide +kernel
theorem dX12_findStones_37 : decode mX12_findStones.2.1 37 = .ok (.iload_n 3, 1) := by decide +kernel
theorem dX12_findStones_38 : decode mX12_findStones.2.1 38 = .ok (.invokevirtual 576, 3) := by decide +kernel
theorem dX12_findStones_41 : decode mX12_findStones.2.1 41 = .ok (.if_icmp .le 9, 3) := by decide +kernel
theorem dX12_findStones_44 : decode mX12_findStones.2.1 44 = .ok (.iinc 4 (-1), 3) := by decide +kernel
theorem dX12_findStones_47 : decode mX12_findStones.2.1 47 = .ok (.goto (-37), 3) := by decide +kernel
theorem dX12_findStones_50 : decode mX12_findStones.2.1 50 = .ok (.iload 4, 2) := by decide +kernel
theorem dX12_findStones_52 : decode mX12_findStones.2.1 52 = .ok (.iconst 1, 1) := by decide +kernel
theorem dX12_findStones_53 : decode mX12_findStones.2.1 53 = .ok (.iadd, 1) := by decide +kernel
theorem dX12_findStones_54 : decode mX12_findStones.2.1 54 = .ok (.iload_n 1, 1) := by decide +kernel
theorem dX12_findStones_55 : decode mX12_findStones.2.1 55 = .ok (.if_icmp .ge 27, 3) := by decide +kernel
theorem dX12_findStones_58 : decode mX12_findStones.2.1 58 = .ok (.aload_n 0, 1) := by decide +kernel
theorem dX12_findStones_59 : decode mX12_findStones.2.1 59 = .ok (.getfield 188, 3) := by decide +kernel
theorem dX12_findStones_62 : decode mX12_findStones.2.1 62 = .ok (.iload 4, 2) := by decide +kernel
theorem dX12_findStones_64 : decode mX12_findStones.2.1 64 = .ok (.iconst 1, 1) := by decide +kernel
theorem dX12_findStones_65 : decode mX12_findStones.2.1 65 = .ok (.iadd, 1) := by decide +kernel
theorem dX12_findStones_66 : decode mX12_findStones.2.1 66 = .ok (.aload_n 0, 1) := by decide +kernel
theorem dX12_findStones_67 : decode mX12_findStones.2.1 67 = .ok (.getfield 188, 3) := by decide +kernel
theorem dX12_findStones_70 : decode mX12_findStones.2.1 70 = .ok (.iload 4, 2) := by decide +kernel
theorem dX12_findStones_72 : decode mX12_findStones.2.1 72 = .ok (.iaload, 1) := by decide +kernel
theorem dX12_findStones_73 : decode mX12_findStones.2.1 73 = .ok (.iconst 1, 1) := by decide +kernel
theorem dX12_findStones_74 : decode mX12_findStones.2.1 74 = .ok (.isub, 1) := by decide +kernel
theorem dX12_findStones_75 : decode mX12_findStones.2.1 75 = .ok (.iastore, 1) := by decide +kernel
theorem dX12_findStones_76 : decode mX12_findStones.2.1 76 = .ok (.iinc 4 1, 3) := by decide +kernel
theorem dX12_findStones_79 : decode mX12_findStones.2.1 79 = .ok (.goto (-69), 3) := by decide +kernel
theorem dX12_findStones_82 : decode mX12_findStones.2.1 82 = .ok (.aload_n 0, 1) := by decide +kernel
theorem dX12_findStones_83 : decode mX12_findStones.2.1 83 = .ok (.iload_n 1, 1) := by decide +kernel
theorem dX12_findStones_84 : decode mX12_findStones.2.1 84 = .ok (.iload_n 2, 1) := by decide +kernel
theorem dX12_findStones_85 : decode mX12_findStones.2.1 85 = .ok (.iload_n 3, 1) := by decide +kernel
theorem dX12_findStones_86 : decode mX12_findStones.2.1 86 = .ok (.invokevirtual 580, 3) := by decide +kernel
theorem dX12_findStones_89 : decode mX12_findStones.2.1 89 = .ok (.ifCond .eq (-79), 3) := by decide +kernel
theorem dX12_findStones_92 : decode mX12_findStones.2.1 92 = .ok (.iconst 1, 1) := by decide +kernel
theorem dX12_findStones_93 : decode mX12_findStones.2.1 93 = .ok (.ireturn, 1) := by decide +kernel
theorem dX12_findStones_94 : decode mX12_findStones.2.1 94 = .ok (.iconst 0, 1) := by decide +kernel
theorem dX12_findStones_95 : decode mX12_findStones.2.1 95 = .ok (.ireturn, 1) := by decide +kernel
theorem dX12_mostStone_0 : decode mX12_mostStone.2.1 0 = .ok (.iconst 1, 1) := by decide +kernel
theorem dX12_mostStone_1 : decode mX12_mostStone.2.1 1 = .ok (.istore 4, 2) := by decide +kernel
theorem dX12_mostStone_3 : decode mX12_mostStone.2.1 3 = .ok (.iconst 0, 1) := by decide +kernel
theorem dX12_mostStone_4 : decode mX12_mostStone.2.1 4 = .ok (.istore 5, 2) := by decide +kernel
theorem dX12_mostStone_6 : decode mX12_mostStone.2.1 6 = .ok (.iload 5, 2) := by decide +kernel
theorem dX12_mostStone_8 : decode mX12_mostStone.2.1 8 = .ok (.iload_n 1, 1) := by decide +kernel
theorem dX12_mostStone_9 : decode mX12_mostStone.2.1 9 = .ok (.if_icmp .ge 21, 3) := by decide +kernel
theorem dX12_mostStone_12 : decode mX12_mostStone.2.1 12 = .ok (.iload 4, 2) := by decide +kernel
theorem dX12_mostStone_14 : decode mX12_mostStone.2.1 14 = .ok (.aload_n 0, 1) := by decide +kernel
theorem dX12_mostStone_15 : decode mX12_mostStone.2.1 15 = .ok (.getfield 188, 3) := by decide +kernel
theorem dX12_mostStone_18 : decode mX12_mostStone.2.1 18 = .ok (.iload 5, 2) := by decide +kernel
theorem dX12_mostStone_20 : decode mX12_mostStone.2.1 20 = .ok (.iaload, 1) := by decide +kernel
theorem dX12_mostStone_21 : decode mX12_mostStone.2.1 21 = .ok (.iadd, 1) := by decide +kernel
theorem dX12_mostStone_22 : decode mX12_mostStone.2.1 22 = .ok (.istore 4, 2) := by decide +kernel
theorem dX12_mostStone_24 : decode mX12_mostStone.2.1 24 = .ok (.iinc 5 1, 3) := by decide +kernel
theorem dX12_mostStone_27 : decode mX12_mostStone.2.1 27 = .ok (.goto (-21), 3) := by decide +kernel
theorem dX12_mostStone_30 : decode mX12_mostStone.2.1 30 = .ok (.iload_n 3, 1) := by decide +kernel
theorem dX12_mostStone_31 : decode mX12_mostStone.2.1 31 = .ok (.ifCond .ne 11, 3) := by decide +kernel
theorem dX12_mostStone_34 : decode mX12_mostStone.2.1 34 = .ok (.iload 4, 2) := by decide +kernel
theorem dX12_mostStone_36 : decode mX12_mostStone.2.1 36 = .ok (.iconst 2, 1) := by decide +kernel
theorem dX12_mostStone_37 : decode mX12_mostStone.2.1 37 = .ok (.iload_n 2, 1) := by decide +kernel
theorem dX12_mostStone_38 : decode mX12_mostStone.2.1 38 = .ok (.imul, 1) := by decide +kernel
theorem dX12_mostStone_39 : decode mX12_mostStone.2.1 39 = .ok (.if_icmp .le 9, 3) := by decide +kernel
theorem dX12_mostStone_42 : decode mX12_mostStone.2.1 42 = .ok (.iconst 2, 1) := by decide +kernel
theorem dX12_mostStone_43 : decode mX12_mostStone.2.1 43 = .ok (.iload_n 2, 1) := by decide +kernel
theorem dX12_mostStone_44 : decode mX12_mostStone.2.1 44 = .ok (.imul, 1) := by decide +kernel
theorem dX12_mostStone_45 : decode mX12_mostStone.2.1 45 = .ok (.goto 5, 3) := by decide +kernel
theorem dX12_mostStone_48 : decode mX12_mostStone.2.1 48 = .ok (.iload 4, 2) := by decide +kernel
theorem dX12_mostStone_50 : decode mX12_mostStone.2.1 50 = .ok (.ireturn, 1) := by decide +kernel
theorem bX12_statusOf_0 {d : Nat} {g : xSt} {r : Option Value × xSt} {a1 a2 : Int32} (k : xX d mX12_statusOf 5 [none, none, some (.int a2), some (.int a1), some (.int 0)] [] g = some r) : xX d mX12_statusOf 0 [some (.ref 113), some (.int a1), some (.int a2), none, none] [] g = some r :=
  Y_iload_n dX12_statusOf_0 rfl <| Y_istore_n dX12_statusOf_1 rfl rfl <| Y_iconst 0 dX12_statusOf_2 ic_0 <| Y_istore dX12_statusOf_3 rfl rfl <| X_le (xle_n (xle_n (xle_s (xle_s (xle_s xle_0))))) k
theorem bX12_statusOf_5 {d : Nat} {g : xSt} {r : Option Value × xSt} {a2 a3 a4 : Int32} (k1 : a2 ≤ a4 → xX d mX12_statusOf 21 [none, none, none, some (.int a3), none] [] g = some r) (k2 : ¬ (a2 ≤ a4) → xX d mX12_statusOf 11 [none, none, some (.int a2), some (.int a3), some (.int a4)] [] g = some r) : xX d mX12_statusOf 5 [none, none, some (.int a2), some (.int a3), some (.int a4)] [] g = some r :=
  Y_iload dX12_statusOf_5 rfl <| Y_iload_n dX12_statusOf_7 rfl <| Y_ge 21 dX12_statusOf_8 rfl (fun q => X_le (xle_n (xle_n (xle_n (xle_s (xle_n xle_0))))) (k1 q)) (fun q => X_le (xle_n (xle_n (xle_s (xle_s (xle_s xle_0))))) (k2 q))
theorem bX12_statusOf_11 {d : Nat} {g : xSt} {r : Option Value × xSt} {a2 a3 a4 : Int32} (k : xX d mX12_statusOf 5 [none, none, some (.int a2), some (.int (a3 / 3)), some (.int (a4 + 1))] [] g = some r) : xX d mX12_statusOf 11 [none, none, some (.int a2), some (.int a3), some (.int a4)] [] g = some r :=
  Y_iload_n dX12_statusOf_11 rfl <| Y_iconst 3 dX12_statusOf_12 ic_3 <| Y_idiv dX12_statusOf_13 (by decide) <| Y_istore_n dX12_statusOf_14 rfl rfl <| Y_iinc 1 dX12_statusOf_15 rfl ic_1 rfl rfl <| Y_goto 5 dX12_statusOf_18 rfl <| X_le (xle_n (xle_n (xle_s (xle_s (xle_s xle_0))))) k
theorem bX12_statusOf_21 {d : Nat} {g : xSt} {r : Option Value × xSt} {a3 : Int32} (k : r = (some (.int (a3 - a3 / 3 * 3)), g)) : xX d mX12_statusOf 21 [none, none, none, some (.int a3), none] [] g = some r :=
  Y_iload_n dX12_statusOf_21 rfl <| Y_iconst 3 dX12_statusOf_22 ic_3 <| Y_irem dX12_statusOf_23 (by decide) <| Y_iret dX12_statusOf_24 rfl k
theorem bX12_canBy_0 {d : Nat} {g : xSt} {r : Option Value × xSt} {a1 a2 : Int32} (k : xX (d + 1) mX12_canBy 2 [some (.ref 113), some (.int a1), some (.int a2), some (.int 0), none, none, none] [] g = some r) : xX (d + 1) mX12_canBy 0 [some (.ref 113), some (.int a1), some (.int a2), none, none, none, none] [] g = some r :=
  Y_iconst 0 dX12_canBy_0 ic_0 <| Y_istore_n dX12_canBy_1 rfl rfl <| X_le (xle_s (xle_s (xle_s (xle_s (xle_n (xle_n (xle_n xle_0))))))) k
theorem bX12_canBy_2 {d : Nat} {g : xSt} {r : Option Value × xSt} {a1 a2 a3 : Int32} (W : xWf g) (k1 : (xI g 113 59) ≤ a3 → xX (d + 1) mX12_canBy 105 [none, none, none, none, none, none, none] [] g = some r) (k2 : ¬ ((xI g 113 59) ≤ a3) → xX (d + 1) mX12_canBy 10 [some (.ref 113), some (.int a1), some (.int a2), some (.int a3), none, none, none] [] g = some r) : xX (d + 1) mX12_canBy 2 [some (.ref 113), some (.int a1), some (.int a2), some (.int a3), none, none, none] [] g = some r :=
  Y_iload_n dX12_canBy_2 rfl <| Y_aload_n dX12_canBy_3 rfl <| Y_getI dX12_canBy_4 f_11_439 ft_11_59 (xis W 113 11 s_113 (Nat.le_of_ble_eq_true rfl)) <| Y_ge 105 dX12_canBy_7 rfl (fun q => X_le (xle_n (xle_n (xle_n (xle_n (xle_n (xle_n (xle_n xle_0))))))) (k1 q)) (fun q => X_le (xle_s (xle_s (xle_s (xle_s (xle_n (xle_n (xle_n xle_0))))))) (k2 q))
theorem bX12_canBy_10 {d : Nat} {g : xSt} {r : Option Value × xSt} {a1 a2 a3 : Int32} (W : xWf g) (hi21 : vp_in (xI g 113 30) 2) (k1 : (xI g 121 (xI g 113 30).toNatClampNeg) = 0 → xX (d + 1) mX12_canBy 29 [some (.ref 113), some (.int a1), some (.int a2), some (.int a3), some (.int 1), none, none] [] g = some r) (k2 : ¬ ((xI g 121 (xI g 113 30).toNatClampNeg) = 0) → xX (d + 1) mX12_canBy 25 [some (.ref 113), some (.int a1), some (.int a2), some (.int a3), some (.int 1), none, none] [] g = some r) : xX (d + 1) mX12_canBy 10 [some (.ref 113), some (.int a1), some (.int a2), some (.int a3), none, none, none] [] g = some r :=
  Y_iconst 1 dX12_canBy_10 ic_1 <| Y_istore dX12_canBy_11 rfl rfl <| Y_aload_n dX12_canBy_13 rfl <| Y_getR dX12_canBy_14 f_11_36 (by rw [ft_11_16]; rfl) (xis W 113 11 s_113 (Nat.le_of_ble_eq_true rfl)) (xptr W 113 16 p_113_16) <| Y_aload_n dX12_canBy_17 rfl <| Y_getI dX12_canBy_18 f_11_295 ft_11_30 (xis W 113 11 s_113 (Nat.le_of_ble_eq_true rfl)) <| Y_zald dX12_canBy_21 (xarr W (o := 121) s_121 (Nat.le_of_ble_eq_true rfl)) hi21 <| Y_eq0 29 dX12_canBy_22 rfl (fun q => X_le (xle_s (xle_s (xle_s (xle_s (xle_s (xle_n (xle_n xle_0))))))) (k1 q)) (fun q => X_le (xle_s (xle_s (xle_s (xle_s (xle_s (xle_n (xle_n xle_0))))))) (k2 q))
theorem bX12_canBy_25 {d : Nat} {g : xSt} {r : Option Value × xSt} {a1 a2 a3 a4 : Int32} (k : xX (d + 1) mX12_canBy 30 [some (.ref 113), some (.int a1), some (.int a2), some (.int a3), some (.int a4), none, none] [.int 0] g = some r) : xX (d + 1) mX12_canBy 25 [some (.ref 113), some (.int a1), some (.int a2), some (.int a3), some (.int a4), none, none] [] g = some r :=
  Y_iconst 0 dX12_canBy_25 ic_0 <| Y_goto 30 dX12_canBy_26 rfl <| X_le (xle_s (xle_s (xle_s (xle_s (xle_s (xle_n (xle_n xle_0))))))) k
theorem bX12_canBy_29 {d : Nat} {g : xSt} {r : Option Value × xSt} {a1 a2 a3 a4 : Int32} (k : xX (d + 1) mX12_canBy 30 [some (.ref 113), some (.int a1), some (.int a2), some (.int a3), some (.int a4), none, none] [.int 1] g = some r) : xX (d + 1) mX12_canBy 29 [some (.ref 113), some (.int a1), some (.int a2), some (.int a3), some (.int a4), none, none] [] g = some r :=
  Y_iconst 1 dX12_canBy_29 ic_1 <| X_le (xle_s (xle_s (xle_s (xle_s (xle_s (xle_n (xle_n xle_0))))))) k
theorem bX12_canBy_30 {d : Nat} {g : xSt} {r : Option Value × xSt} {a1 a2 a3 a4 s0 : Int32} (k : xX (d + 1) mX12_canBy 32 [some (.ref 113), some (.int a1), some (.int a2), some (.int a3), some (.int a4), some (.int s0), none] [] g = some r) : xX (d + 1) mX12_canBy 30 [some (.ref 113), some (.int a1), some (.int a2), some (.int a3), some (.int a4), none, none] [.int s0] g = some r :=
  Y_istore dX12_canBy_30 rfl rfl <| X_le (xle_s (xle_s (xle_s (xle_s (xle_s (xle_s (xle_n xle_0))))))) k
theorem bX12_canBy_32 {d : Nat} {g : xSt} {r : Option Value × xSt} {a1 a2 a3 a4 a5 : Int32} (k1 : 3 ≤ a5 → xX (d + 1) mX12_canBy 92 [some (.ref 113), some (.int a1), some (.int a2), some (.int a3), some (.int a4), none, none] [] g = some r) (k2 : ¬ (3 ≤ a5) → xX (d + 1) mX12_canBy 38 [some (.ref 113), some (.int a1), some (.int a2), some (.int a3), some (.int a4), some (.int a5), none] [] g = some r) : xX (d + 1) mX12_canBy 32 [some (.ref 113), some (.int a1), some (.int a2), some (.int a3), some (.int a4), some (.int a5), none] [] g = some r :=
  Y_iload dX12_canBy_32 rfl <| Y_iconst 3 dX12_canBy_34 ic_3 <| Y_ge 92 dX12_canBy_35 rfl (fun q => X_le (xle_s (xle_s (xle_s (xle_s (xle_s (xle_n (xle_n xle_0))))))) (k1 q)) (fun q => X_le (xle_s (xle_s (xle_s (xle_s (xle_s (xle_s (xle_n xle_0))))))) (k2 q))
theorem bX12_canBy_38 {d : Nat} {g : xSt} {r : Option Value × xSt} {a1 a2 a3 a4 a5 : Int32} (k1 : a4 = 0 → xX (d + 1) mX12_canBy 92 [some (.ref 113), some (.int a1), some (.int a2), some (.int a3), some (.int a4), none, none] [] g = some r) (k2 : ¬ (a4 = 0) → xX (d + 1) mX12_canBy 43 [some (.ref 113), some (.int a1), some (.int a2), some (.int a3), none, some (.int a5), none] [] g = some r) : xX (d + 1) mX12_canBy 38 [some (.ref 113), some (.int a1), some (.int a2), some (.int a3), some (.int a4), some (.int a5), none] [] g = some r :=
  Y_iload dX12_canBy_38 rfl <| Y_eq0 92 dX12_canBy_40 rfl (fun q => X_le (xle_s (xle_s (xle_s (xle_s (xle_s (xle_n (xle_n xle_0))))))) (k1 q)) (fun q => X_le (xle_s (xle_s (xle_s (xle_s (xle_n (xle_s (xle_n xle_0))))))) (k2 q))
theorem bX12_canBy_43 {d : Nat} {g : xSt} {r : Option Value × xSt} {a1 a2 a3 a5 r48 : Int32} {g48 : xSt} (W : xWf g) (hk48 : xCallM d mX12_behind [.ref 113, .int a1, .int a3, .int a5] g = some (some (.int r48), g48)) (W48 : xWf g48) (k1 : r48 = 0 → xX (d + 1) mX12_canBy 79 [some (.ref 113), some (.int a1), some (.int a2), some (.int a3), none, some (.int a5), none] [] g48 = some r) (k2 : ¬ (r48 = 0) → xX (d + 1) mX12_canBy 58 [some (.ref 113), some (.int a1), some (.int a2), some (.int a3), none, some (.int a5), some (.int r48)] [] g48 = some r) : xX (d + 1) mX12_canBy 43 [some (.ref 113), some (.int a1), some (.int a2), some (.int a3), none, some (.int a5), none] [] g = some r :=
  Y_aload_n dX12_canBy_43 rfl <| Y_iload_n dX12_canBy_44 rfl <| Y_iload_n dX12_canBy_45 rfl <| Y_iload dX12_canBy_46 rfl <| Y_callV1 dX12_canBy_48 cl_11_533 rfl rfl (xis W 113 11 s_113 (Nat.le_of_ble_eq_true rfl)) rfl rfl rfl (hk48) <| Y_istore dX12_canBy_51 rfl rfl <| Y_iload dX12_canBy_53 rfl <| Y_eq0 79 dX12_canBy_55 rfl (fun q => X_le (xle_s (xle_s (xle_s (xle_s (xle_n (xle_s (xle_n xle_0))))))) (k1 q)) (fun q => X_le (xle_s (xle_s (xle_s (xle_s (xle_n (xle_s (xle_s xle_0))))))) (k2 q))
theorem bX12_canBy_58 {d : Nat} {g : xSt} {r : Option Value × xSt} {a1 a2 a3 a5 a6 : Int32} (W : xWf g) (hi64 : vp_in a6 729) (k1 : (xI g 165 a6.toNatClampNeg) < 0 → xX (d + 1) mX12_canBy 83 [some (.ref 113), some (.int a1), some (.int a2), some (.int a3), none, some (.int a5), none] [] g = some r) (k2 : ¬ ((xI g 165 a6.toNatClampNeg) < 0) → xX (d + 1) mX12_canBy 68 [some (.ref 113), some (.int a1), some (.int a2), some (.int a3), none, some (.int a5), some (.int a6)] [] g = some r) : xX (d + 1) mX12_canBy 58 [some (.ref 113), some (.int a1), some (.int a2), some (.int a3), none, some (.int a5), some (.int a6)] [] g = some r :=
  Y_aload_n dX12_canBy_58 rfl <| Y_getR dX12_canBy_59 f_11_170 (by rw [ft_11_74]; rfl) (xis W 113 11 s_113 (Nat.le_of_ble_eq_true rfl)) (xptr W 113 74 p_113_74) <| Y_iload dX12_canBy_62 rfl <| Y_iald dX12_canBy_64 (xarr W (o := 165) s_165 (Nat.le_of_ble_eq_true rfl)) hi64 <| Y_lt0 83 dX12_canBy_65 rfl (fun q => X_le (xle_s (xle_s (xle_s (xle_s (xle_n (xle_s (xle_n xle_0))))))) (k1 q)) (fun q => X_le (xle_s (xle_s (xle_s (xle_s (xle_n (xle_s (xle_s xle_0))))))) (k2 q))
theorem bX12_canBy_68 {d : Nat} {g : xSt} {r : Option Value × xSt} {a1 a2 a3 a5 a6 : Int32} (W : xWf g) (hi74 : vp_in a6 729) (k1 : a2 ≤ (xI g 165 a6.toNatClampNeg) → xX (d + 1) mX12_canBy 83 [some (.ref 113), some (.int a1), some (.int a2), some (.int a3), none, some (.int a5), none] [] g = some r) (k2 : ¬ (a2 ≤ (xI g 165 a6.toNatClampNeg)) → xX (d + 1) mX12_canBy 79 [some (.ref 113), some (.int a1), some (.int a2), some (.int a3), none, some (.int a5), none] [] g = some r) : xX (d + 1) mX12_canBy 68 [some (.ref 113), some (.int a1), some (.int a2), some (.int a3), none, some (.int a5), some (.int a6)] [] g = some r :=
  Y_aload_n dX12_canBy_68 rfl <| Y_getR dX12_canBy_69 f_11_170 (by rw [ft_11_74]; rfl) (xis W 113 11 s_113 (Nat.le_of_ble_eq_true rfl)) (xptr W 113 74 p_113_74) <| Y_iload dX12_canBy_72 rfl <| Y_iald dX12_canBy_74 (xarr W (o := 165) s_165 (Nat.le_of_ble_eq_true rfl)) hi74 <| Y_iload_n dX12_canBy_75 rfl <| Y_ge 83 dX12_canBy_76 rfl (fun q => X_le (xle_s (xle_s (xle_s (xle_s (xle_n (xle_s (xle_n xle_0))))))) (k1 q)) (fun q => X_le (xle_s (xle_s (xle_s (xle_s (xle_n (xle_s (xle_n xle_0))))))) (k2 q))
theorem bX12_canBy_79 {d : Nat} {g : xSt} {r : Option Value × xSt} {a1 a2 a3 a5 : Int32} (k : xX (d + 1) mX12_canBy 84 [some (.ref 113), some (.int a1), some (.int a2), some (.int a3), none, some (.int a5), none] [.int 1] g = some r) : xX (d + 1) mX12_canBy 79 [some (.ref 113), some (.int a1), some (.int a2), some (.int a3), none, some (.int a5), none] [] g = some r :=
  Y_iconst 1 dX12_canBy_79 ic_1 <| Y_goto 84 dX12_canBy_80 rfl <| X_le (xle_s (xle_s (xle_s (xle_s (xle_n (xle_s (xle_n xle_0))))))) k
theorem bX12_canBy_83 {d : Nat} {g : xSt} {r : Option Value × xSt} {a1 a2 a3 a5 : Int32} (k : xX (d + 1) mX12_canBy 84 [some (.ref 113), some (.int a1), some (.int a2), some (.int a3), none, some (.int a5), none] [.int 0] g = some r) : xX (d + 1) mX12_canBy 83 [some (.ref 113), some (.int a1), some (.int a2), some (.int a3), none, some (.int a5), none] [] g = some r :=
  Y_iconst 0 dX12_canBy_83 ic_0 <| X_le (xle_s (xle_s (xle_s (xle_s (xle_n (xle_s (xle_n xle_0))))))) k
theorem bX12_canBy_84 {d : Nat} {g : xSt} {r : Option Value × xSt} {a1 a2 a3 a5 s0 : Int32} (k : xX (d + 1) mX12_canBy 32 [some (.ref 113), some (.int a1), some (.int a2), some (.int a3), some (.int s0), some (.int (a5 + 1)), none] [] g = some r) : xX (d + 1) mX12_canBy 84 [some (.ref 113), some (.int a1), some (.int a2), some (.int a3), none, some (.int a5), none] [.int s0] g = some r :=
  Y_istore dX12_canBy_84 rfl rfl <| Y_iinc 1 dX12_canBy_86 rfl ic_1 rfl rfl <| Y_goto 32 dX12_canBy_89 rfl <| X_le (xle_s (xle_s (xle_s (xle_s (xle_s (xle_s (xle_n xle_0))))))) k
theorem bX12_canBy_92 {d : Nat} {g : xSt} {r : Option Value × xSt} {a1 a2 a3 a4 : Int32} (k1 : a4 = 0 → xX (d + 1) mX12_canBy 99 [some (.ref 113), some (.int a1), some (.int a2), some (.int a3), none, none, none] [] g = some r) (k2 : ¬ (a4 = 0) → xX (d + 1) mX12_canBy 97 [none, none, none, none, none, none, none] [] g = some r) : xX (d + 1) mX12_canBy 92 [some (.ref 113), some (.int a1), some (.int a2), some (.int a3), some (.int a4), none, none] [] g = some r :=
  Y_iload dX12_canBy_92 rfl <| Y_eq0 99 dX12_canBy_94 rfl (fun q => X_le (xle_s (xle_s (xle_s (xle_s (xle_n (xle_n (xle_n xle_0))))))) (k1 q)) (fun q => X_le (xle_n (xle_n (xle_n (xle_n (xle_n (xle_n (xle_n xle_0))))))) (k2 q))
theorem bX12_canBy_97 {d : Nat} {g : xSt} {r : Option Value × xSt}  (k : r = (some (.int 1), g)) : xX (d + 1) mX12_canBy 97 [none, none, none, none, none, none, none] [] g = some r :=
  Y_iconst 1 dX12_canBy_97 ic_1 <| Y_zret dX12_canBy_98 rfl (by decide) k
theorem bX12_canBy_99 {d : Nat} {g : xSt} {r : Option Value × xSt} {a1 a2 a3 : Int32} (k : xX (d + 1) mX12_canBy 2 [some (.ref 113), some (.int a1), some (.int a2), some (.int (a3 + 1)), none, none, none] [] g = some r) : xX (d + 1) mX12_canBy 99 [some (.ref 113), some (.int a1), some (.int a2), some (.int a3), none, none, none] [] g = some r :=
  Y_iinc 1 dX12_canBy_99 rfl ic_1 rfl rfl <| Y_goto 2 dX12_canBy_102 rfl <| X_le (xle_s (xle_s (xle_s (xle_s (xle_n (xle_n (xle_n xle_0))))))) k
theorem bX12_canBy_105 {d : Nat} {g : xSt} {r : Option Value × xSt}  (k : r = (some (.int 0), g)) : xX (d + 1) mX12_canBy 105 [none, none, none, none, none, none, none] [] g = some r :=
  Y_iconst 0 dX12_canBy_105 ic_0 <| Y_zret dX12_canBy_106 rfl (by decide) k
theorem bX12_behind_0 {d : Nat} {g : xSt} {r : Option Value × xSt} {a1 a2 a3 : Int32} (k : xX (d + 1) mX12_behind 9 [some (.ref 113), some (.int a1), some (.int a2), some (.int a3), some (.int 0), some (.int 1), some (.int 0), none, none] [] g = some r) : xX (d + 1) mX12_behind 0 [some (.ref 113), some (.int a1), some (.int a2), some (.int a3), none, none, none, none, none] [] g = some r :=
  Y_iconst 0 dX12_behind_0 ic_0 <| Y_istore dX12_behind_1 rfl rfl <| Y_iconst 1 dX12_behind_3 ic_1 <| Y_istore dX12_behind_4 rfl rfl <| Y_iconst 0 dX12_behind_6 ic_0 <| Y_istore dX12_behind_7 rfl rfl <| X_le (xle_s (xle_s (xle_s (xle_s (xle_s (xle_s (xle_s (xle_n (xle_n xle_0))))))))) k
theorem bX12_behind_9 {d : Nat} {g : xSt} {r : Option Value × xSt} {a1 a2 a3 a4 a5 a6 : Int32} (W : xWf g) (k1 : (xI g 113 53) ≤ a6 → xX (d + 1) mX12_behind 102 [none, none, none, none, some (.int a4), none, none, none, none] [] g = some r) (k2 : ¬ ((xI g 113 53) ≤ a6) → xX (d + 1) mX12_behind 18 [some (.ref 113), some (.int a1), some (.int a2), some (.int a3), some (.int a4), some (.int a5), some (.int a6), none, none] [] g = some r) : xX (d + 1) mX12_behind 9 [some (.ref 113), some (.int a1), some (.int a2), some (.int a3), some (.int a4), some (.int a5), some (.int a6), none, none] [] g = some r :=
  Y_iload dX12_behind_9 rfl <| Y_aload_n dX12_behind_11 rfl <| Y_getI dX12_behind_12 f_11_408 ft_11_53 (xis W 113 11 s_113 (Nat.le_of_ble_eq_true rfl)) <| Y_ge 102 dX12_behind_15 rfl (fun q => X_le (xle_n (xle_n (xle_n (xle_n (xle_s (xle_n (xle_n (xle_n (xle_n xle_0))))))))) (k1 q)) (fun q => X_le (xle_s (xle_s (xle_s (xle_s (xle_s (xle_s (xle_s (xle_n (xle_n xle_0))))))))) (k2 q))
theorem bX12_behind_18 {d : Nat} {g : xSt} {r : Option Value × xSt} {a1 a2 a3 a4 a5 a6 r22 r47 : Int32} {g22 g47 : xSt} (W : xWf g) (hk22 : xCallM d mX12_statusOf [.ref 113, .int a1, .int a6] g = some (some (.int r22), g22)) (W22 : xWf g22) (hi34 : vp_in a6 541) (hi40 : vp_in a2 10) (hi46 : vp_in a2 10) (hk47 : xCallM d mX12_saidBy [.ref 113, .int (xI g22 145 a6.toNatClampNeg), .int (xI g22 150 a2.toNatClampNeg), .int (xI g22 151 a2.toNatClampNeg)] g22 = some (some (.int r47), g47)) (W47 : xWf g47) (k1 : r47 = a3 → xX (d + 1) mX12_behind 54 [some (.ref 113), some (.int a1), some (.int a2), some (.int a3), some (.int a4), some (.int a5), some (.int a6), some (.int r22), none] [] g47 = some r) (k2 : ¬ (r47 = a3) → xX (d + 1) mX12_behind 58 [some (.ref 113), some (.int a1), some (.int a2), some (.int a3), some (.int a4), some (.int a5), some (.int a6), some (.int r22), none] [] g47 = some r) : xX (d + 1) mX12_behind 18 [some (.ref 113), some (.int a1), some (.int a2), some (.int a3), some (.int a4), some (.int a5), some (.int a6), none, none] [] g = some r :=
  Y_aload_n dX12_behind_18 rfl <| Y_iload_n dX12_behind_19 rfl <| Y_iload dX12_behind_20 rfl <| Y_callV1 dX12_behind_22 cl_11_530 rfl rfl (xis W 113 11 s_113 (Nat.le_of_ble_eq_true rfl)) rfl rfl rfl (hk22) <| Y_istore dX12_behind_25 rfl rfl <| Y_aload_n dX12_behind_27 rfl <| Y_aload_n dX12_behind_28 rfl <| Y_getR dX12_behind_29 f_11_110 (by rw [ft_11_48]; rfl) (xis W22 113 11 s_113 (Nat.le_of_ble_eq_true rfl)) (xptr W22 113 48 p_113_48) <| Y_iload dX12_behind_32 rfl <| Y_iald dX12_behind_34 (xarr W22 (o := 145) s_145 (Nat.le_of_ble_eq_true rfl)) hi34 <| Y_aload_n dX12_behind_35 rfl <| Y_getR dX12_behind_36 f_11_125 (by rw [ft_11_55]; rfl) (xis W22 113 11 s_113 (Nat.le_of_ble_eq_true rfl)) (xptr W22 113 55 p_113_55) <| Y_iload_n dX12_behind_39 rfl <| Y_iald dX12_behind_40 (xarr W22 (o := 150) s_150 (Nat.le_of_ble_eq_true rfl)) hi40 <| Y_aload_n dX12_behind_41 rfl <| Y_getR dX12_behind_42 f_11_128 (by rw [ft_11_56]; rfl) (xis W22 113 11 s_113 (Nat.le_of_ble_eq_true rfl)) (xptr W22 113 56 p_113_56) <| Y_iload_n dX12_behind_45 rfl <| Y_iald dX12_behind_46 (xarr W22 (o := 151) s_151 (Nat.le_of_ble_eq_true rfl)) hi46 <| Y_callV1 dX12_behind_47 cl_11_404 rfl rfl (xis W22 113 11 s_113 (Nat.le_of_ble_eq_true rfl)) rfl rfl rfl (hk47) <| Y_iload_n dX12_behind_50 rfl <| Y_ne 58 dX12_behind_51 rfl (fun q => X_le (xle_s (xle_s (xle_s (xle_s (xle_s (xle_s (xle_s (xle_s (xle_n xle_0))))))))) (k1 q)) (fun q => X_le (xle_s (xle_s (xle_s (xle_s (xle_s (xle_s (xle_s (xle_s (xle_n xle_0))))))))) (k2 q))
theorem bX12_behind_54 {d : Nat} {g : xSt} {r : Option Value × xSt} {a1 a2 a3 a4 a5 a6 a7 : Int32} (k : xX (d + 1) mX12_behind 59 [some (.ref 113), some (.int a1), some (.int a2), some (.int a3), some (.int a4), some (.int a5), some (.int a6), some (.int a7), none] [.int 1] g = some r) : xX (d + 1) mX12_behind 54 [some (.ref 113), some (.int a1), some (.int a2), some (.int a3), some (.int a4), some (.int a5), some (.int a6), some (.int a7), none] [] g = some r :=
  Y_iconst 1 dX12_behind_54 ic_1 <| Y_goto 59 dX12_behind_55 rfl <| X_le (xle_s (xle_s (xle_s (xle_s (xle_s (xle_s (xle_s (xle_s (xle_n xle_0))))))))) k
theorem bX12_behind_58 {d : Nat} {g : xSt} {r : Option Value × xSt} {a1 a2 a3 a4 a5 a6 a7 : Int32} (k : xX (d + 1) mX12_behind 59 [some (.ref 113), some (.int a1), some (.int a2), some (.int a3), some (.int a4), some (.int a5), some (.int a6), some (.int a7), none] [.int 0] g = some r) : xX (d + 1) mX12_behind 58 [some (.ref 113), some (.int a1), some (.int a2), some (.int a3), some (.int a4), some (.int a5), some (.int a6), some (.int a7), none] [] g = some r :=
  Y_iconst 0 dX12_behind_58 ic_0 <| X_le (xle_s (xle_s (xle_s (xle_s (xle_s (xle_s (xle_s (xle_s (xle_n xle_0))))))))) k
theorem bX12_behind_59 {d : Nat} {g : xSt} {r : Option Value × xSt} {a1 a2 a3 a4 a5 a6 a7 s0 : Int32} (k1 : s0 = 0 → xX (d + 1) mX12_behind 70 [some (.ref 113), some (.int a1), some (.int a2), some (.int a3), none, some (.int a5), some (.int a6), some (.int a7), none] [.int a5, .int a4] g = some r) (k2 : ¬ (s0 = 0) → xX (d + 1) mX12_behind 75 [some (.ref 113), some (.int a1), some (.int a2), some (.int a3), none, some (.int a5), some (.int a6), some (.int a7), none] [.int a5, .int a4] g = some r) : xX (d + 1) mX12_behind 59 [some (.ref 113), some (.int a1), some (.int a2), some (.int a3), some (.int a4), some (.int a5), some (.int a6), some (.int a7), none] [.int s0] g = some r :=
  Y_istore dX12_behind_59 rfl rfl <| Y_iload dX12_behind_61 rfl <| Y_iload dX12_behind_63 rfl <| Y_iload dX12_behind_65 rfl <| Y_ne0 75 dX12_behind_67 rfl (fun q => X_le (xle_s (xle_s (xle_s (xle_s (xle_n (xle_s (xle_s (xle_s (xle_n xle_0))))))))) (k1 q)) (fun q => X_le (xle_s (xle_s (xle_s (xle_s (xle_n (xle_s (xle_s (xle_s (xle_n xle_0))))))))) (k2 q))
theorem bX12_behind_70 {d : Nat} {g : xSt} {r : Option Value × xSt} {a1 a2 a3 a5 a6 a7 s1 s0 : Int32} (k1 : a7 = 0 → xX (d + 1) mX12_behind 75 [some (.ref 113), some (.int a1), some (.int a2), some (.int a3), none, some (.int a5), some (.int a6), some (.int a7), none] [.int s0, .int s1] g = some r) (k2 : ¬ (a7 = 0) → xX (d + 1) mX12_behind 80 [some (.ref 113), some (.int a1), some (.int a2), some (.int a3), none, some (.int a5), some (.int a6), some (.int a7), none] [.int s0, .int s1] g = some r) : xX (d + 1) mX12_behind 70 [some (.ref 113), some (.int a1), some (.int a2), some (.int a3), none, some (.int a5), some (.int a6), some (.int a7), none] [.int s0, .int s1] g = some r :=
  Y_iload dX12_behind_70 rfl <| Y_ne0 80 dX12_behind_72 rfl (fun q => X_le (xle_s (xle_s (xle_s (xle_s (xle_n (xle_s (xle_s (xle_s (xle_n xle_0))))))))) (k1 q)) (fun q => X_le (xle_s (xle_s (xle_s (xle_s (xle_n (xle_s (xle_s (xle_s (xle_n xle_0))))))))) (k2 q))
theorem bX12_behind_75 {d : Nat} {g : xSt} {r : Option Value × xSt} {a1 a2 a3 a5 a6 a7 s1 s0 : Int32} (k : xX (d + 1) mX12_behind 86 [some (.ref 113), some (.int a1), some (.int a2), some (.int a3), none, some (.int a5), some (.int a6), none, none] [.int a7, .int s0, .int s1] g = some r) : xX (d + 1) mX12_behind 75 [some (.ref 113), some (.int a1), some (.int a2), some (.int a3), none, some (.int a5), some (.int a6), some (.int a7), none] [.int s0, .int s1] g = some r :=
  Y_iload dX12_behind_75 rfl <| Y_goto 86 dX12_behind_77 rfl <| X_le (xle_s (xle_s (xle_s (xle_s (xle_n (xle_s (xle_s (xle_n (xle_n xle_0))))))))) k
theorem bX12_behind_80 {d : Nat} {g : xSt} {r : Option Value × xSt} {a1 a2 a3 a5 a6 a7 s1 s0 : Int32} (k : xX (d + 1) mX12_behind 86 [some (.ref 113), some (.int a1), some (.int a2), some (.int a3), none, some (.int a5), some (.int a6), none, none] [.int ((a7 + 1) - (a7 + 1) / 3 * 3), .int s0, .int s1] g = some r) : xX (d + 1) mX12_behind 80 [some (.ref 113), some (.int a1), some (.int a2), some (.int a3), none, some (.int a5), some (.int a6), some (.int a7), none] [.int s0, .int s1] g = some r :=
  Y_iload dX12_behind_80 rfl <| Y_iconst 1 dX12_behind_82 ic_1 <| Y_iadd dX12_behind_83 <| Y_iconst 3 dX12_behind_84 ic_3 <| Y_irem dX12_behind_85 (by decide) <| X_le (xle_s (xle_s (xle_s (xle_s (xle_n (xle_s (xle_s (xle_n (xle_n xle_0))))))))) k
theorem bX12_behind_86 {d : Nat} {g : xSt} {r : Option Value × xSt} {a1 a2 a3 a5 a6 s2 s1 s0 : Int32} (k : xX (d + 1) mX12_behind 9 [some (.ref 113), some (.int a1), some (.int a2), some (.int a3), some (.int (s2 + (s1 * s0))), some (.int (a5 * 3)), some (.int (a6 + 1)), none, none] [] g = some r) : xX (d + 1) mX12_behind 86 [some (.ref 113), some (.int a1), some (.int a2), some (.int a3), none, some (.int a5), some (.int a6), none, none] [.int s0, .int s1, .int s2] g = some r :=
  Y_imul dX12_behind_86 <| Y_iadd dX12_behind_87 <| Y_istore dX12_behind_88 rfl rfl <| Y_iload dX12_behind_90 rfl <| Y_iconst 3 dX12_behind_92 ic_3 <| Y_imul dX12_behind_93 <| Y_istore dX12_behind_94 rfl rfl <| Y_iinc 1 dX12_behind_96 rfl ic_1 rfl rfl <| Y_goto 9 dX12_behind_99 rfl <| X_le (xle_s (xle_s (xle_s (xle_s (xle_s (xle_s (xle_s (xle_n (xle_n xle_0))))))))) k
theorem bX12_behind_102 {d : Nat} {g : xSt} {r : Option Value × xSt} {a4 : Int32} (k : r = (some (.int a4), g)) : xX (d + 1) mX12_behind 102 [none, none, none, none, some (.int a4), none, none, none, none] [] g = some r :=
  Y_iload dX12_behind_102 rfl <| Y_iret dX12_behind_104 rfl k
theorem bX12_odds_0 {d : Nat} {g : xSt} {r : Option Value × xSt} {a1 a2 a3 a4 r3 : Int32} {g3 : xSt} (W : xWf g) (hk3 : xCallM d mX12_areTwo [.ref 113, .int a1, .int a2] g = some (some (.int r3), g3)) (W3 : xWf g3) (k1 : r3 = 0 → xX (d + 1) mX12_odds 18 [none, none, none, none, none] [] g3 = some r) (k2 : ¬ (r3 = 0) → xX (d + 1) mX12_odds 9 [some (.ref 113), some (.int a1), some (.int a2), some (.int a3), some (.int a4)] [] g3 = some r) : xX (d + 1) mX12_odds 0 [some (.ref 113), some (.int a1), some (.int a2), some (.int a3), some (.int a4)] [] g = some r :=
  Y_aload_n dX12_odds_0 rfl <| Y_iload_n dX12_odds_1 rfl <| Y_iload_n dX12_odds_2 rfl <| Y_callV1 dX12_odds_3 cl_11_433 rfl rfl (xis W 113 11 s_113 (Nat.le_of_ble_eq_true rfl)) rfl rfl rfl (hk3) <| Y_eq0 18 dX12_odds_6 rfl (fun q => X_le (xle_n (xle_n (xle_n (xle_n (xle_n xle_0))))) (k1 q)) (fun q => X_le (xle_s (xle_s (xle_s (xle_s (xle_s xle_0))))) (k2 q))
theorem bX12_odds_9 {d : Nat} {g : xSt} {r : Option Value × xSt} {a1 a2 a3 a4 r12 : Int32} {g12 : xSt} (hk12 : xCallM d mX12_isIn [.int a3, .int 0, .int 1] g = some (some (.int r12), g12)) (W12 : xWf g12) (k1 : r12 = 0 → xX (d + 1) mX12_odds 18 [none, none, none, none, none] [] g12 = some r) (k2 : ¬ (r12 = 0) → xX (d + 1) mX12_odds 20 [some (.ref 113), some (.int a1), some (.int a2), some (.int a3), some (.int a4)] [] g12 = some r) : xX (d + 1) mX12_odds 9 [some (.ref 113), some (.int a1), some (.int a2), some (.int a3), some (.int a4)] [] g = some r :=
  Y_iload_n dX12_odds_9 rfl <| Y_iconst 0 dX12_odds_10 ic_0 <| Y_iconst 1 dX12_odds_11 ic_1 <| Y_callS1 dX12_odds_12 cl_11_367 rfl rfl rfl rfl rfl (hk12) <| Y_ne0 20 dX12_odds_15 rfl (fun q => X_le (xle_n (xle_n (xle_n (xle_n (xle_n xle_0))))) (k1 q)) (fun q => X_le (xle_s (xle_s (xle_s (xle_s (xle_s xle_0))))) (k2 q))
theorem bX12_odds_18 {d : Nat} {g : xSt} {r : Option Value × xSt}  (k : r = (some (.int (-1)), g)) : xX (d + 1) mX12_odds 18 [none, none, none, none, none] [] g = some r :=
  Y_iconst (-1) dX12_odds_18 ic_m1 <| Y_iret dX12_odds_19 rfl k
theorem bX12_odds_20 {d : Nat} {g : xSt} {r : Option Value × xSt} {a1 a2 a3 a4 : Int32} {g24 : xSt} (W : xWf g) (hk24 : xCallM d mX12_layLeft [.ref 113, .int 0, .int a4] g = some (none, g24)) (W24 : xWf g24) (k1 : a3 = 0 → xX (d + 1) mX12_odds 31 [some (.ref 113), some (.int a1), some (.int a2), none, none] [] g24 = some r) (k2 : ¬ (a3 = 0) → xX (d + 1) mX12_odds 41 [some (.ref 113), none, none, none, none] [] g24 = some r) : xX (d + 1) mX12_odds 20 [some (.ref 113), some (.int a1), some (.int a2), some (.int a3), some (.int a4)] [] g = some r :=
  Y_aload_n dX12_odds_20 rfl <| Y_iconst 0 dX12_odds_21 ic_0 <| Y_iload dX12_odds_22 rfl <| Y_callV0 dX12_odds_24 cl_11_414 rfl rfl (xis W 113 11 s_113 (Nat.le_of_ble_eq_true rfl)) rfl rfl rfl (hk24) <| Y_iload_n dX12_odds_27 rfl <| Y_ne0 41 dX12_odds_28 rfl (fun q => X_le (xle_s (xle_s (xle_s (xle_n (xle_n xle_0))))) (k1 q)) (fun q => X_le (xle_s (xle_n (xle_n (xle_n (xle_n xle_0))))) (k2 q))
theorem bX12_odds_31 {d : Nat} {g : xSt} {r : Option Value × xSt} {a1 a2 r35 : Int32} {g35 : xSt} (W : xWf g) (hk35 : xCallM d mX12_howMany [.ref 113, .int a1, .int a2, .int 1] g = some (some (.int r35), g35)) (W35 : xWf g35) (k : xX (d + 1) mX12_odds 45 [none, none, none, none, none] [.int r35] g35 = some r) : xX (d + 1) mX12_odds 31 [some (.ref 113), some (.int a1), some (.int a2), none, none] [] g = some r :=
  Y_aload_n dX12_odds_31 rfl <| Y_iload_n dX12_odds_32 rfl <| Y_iload_n dX12_odds_33 rfl <| Y_iconst 1 dX12_odds_34 ic_1 <| Y_callV1 dX12_odds_35 cl_11_430 rfl rfl (xis W 113 11 s_113 (Nat.le_of_ble_eq_true rfl)) rfl rfl rfl (hk35) <| Y_goto 45 dX12_odds_38 rfl <| X_le (xle_n (xle_n (xle_n (xle_n (xle_n xle_0))))) k
theorem bX12_odds_41 {d : Nat} {g : xSt} {r : Option Value × xSt}  (W : xWf g) (k : xX (d + 1) mX12_odds 45 [none, none, none, none, none] [.int (xI g 113 53)] g = some r) : xX (d + 1) mX12_odds 41 [some (.ref 113), none, none, none, none] [] g = some r :=
  Y_aload_n dX12_odds_41 rfl <| Y_getI dX12_odds_42 f_11_408 ft_11_53 (xis W 113 11 s_113 (Nat.le_of_ble_eq_true rfl)) <| X_le (xle_n (xle_n (xle_n (xle_n (xle_n xle_0))))) k
theorem bX12_odds_45 {d : Nat} {g : xSt} {r : Option Value × xSt} {s0 : Int32} (k : r = (some (.int s0), g)) : xX (d + 1) mX12_odds 45 [none, none, none, none, none] [.int s0] g = some r :=
  Y_iret dX12_odds_45 rfl k
theorem bX12_evenest_0 {d : Nat} {g : xSt} {r : Option Value × xSt} {a1 r2 : Int32} {g2 : xSt} (W : xWf g) (hk2 : xCallM d mX12_hasLeft [.ref 113, .int a1] g = some (some (.int r2), g2)) (W2 : xWf g2) (k1 : r2 = 0 → xX (d + 1) mX12_evenest 8 [none, none, none, none, none, none, none, none, none] [] g2 = some r) (k2 : ¬ (r2 = 0) → xX (d + 1) mX12_evenest 10 [some (.ref 113), none, none, none, none, none, none, none, none] [] g2 = some r) : xX (d + 1) mX12_evenest 0 [some (.ref 113), some (.int a1), none, none, none, none, none, none, none] [] g = some r :=
  Y_aload_n dX12_evenest_0 rfl <| Y_iload_n dX12_evenest_1 rfl <| Y_callV1 dX12_evenest_2 cl_11_424 rfl rfl (xis W 113 11 s_113 (Nat.le_of_ble_eq_true rfl)) rfl rfl rfl (hk2) <| Y_ne0 10 dX12_evenest_5 rfl (fun q => X_le (xle_n (xle_n (xle_n (xle_n (xle_n (xle_n (xle_n (xle_n (xle_n xle_0))))))))) (k1 q)) (fun q => X_le (xle_s (xle_n (xle_n (xle_n (xle_n (xle_n (xle_n (xle_n (xle_n xle_0))))))))) (k2 q))
theorem bX12_evenest_8 {d : Nat} {g : xSt} {r : Option Value × xSt}  (k : r = (some (.int (-1)), g)) : xX (d + 1) mX12_evenest 8 [none, none, none, none, none, none, none, none, none] [] g = some r :=
  Y_iconst (-1) dX12_evenest_8 ic_m1 <| Y_iret dX12_evenest_9 rfl k
theorem bX12_evenest_10 {d : Nat} {g : xSt} {r : Option Value × xSt}  (k : xX (d + 1) mX12_evenest 17 [some (.ref 113), none, some (.int (-1)), some (.int (-1)), some (.int 0), none, none, none, none] [] g = some r) : xX (d + 1) mX12_evenest 10 [some (.ref 113), none, none, none, none, none, none, none, none] [] g = some r :=
  Y_iconst (-1) dX12_evenest_10 ic_m1 <| Y_istore_n dX12_evenest_11 rfl rfl <| Y_iconst (-1) dX12_evenest_12 ic_m1 <| Y_istore_n dX12_evenest_13 rfl rfl <| Y_iconst 0 dX12_evenest_14 ic_0 <| Y_istore dX12_evenest_15 rfl rfl <| X_le (xle_s (xle_n (xle_s (xle_s (xle_s (xle_n (xle_n (xle_n (xle_n xle_0))))))))) k
theorem bX12_evenest_17 {d : Nat} {g : xSt} {r : Option Value × xSt} {a2 a3 a4 r20 : Int32} {g20 : xSt} (W : xWf g) (hk20 : xCallM d mX12_thingMany [.ref 113] g = some (some (.int r20), g20)) (W20 : xWf g20) (k1 : r20 ≤ a4 → xX (d + 1) mX12_evenest 112 [none, none, some (.int a2), none, none, none, none, none, none] [] g20 = some r) (k2 : ¬ (r20 ≤ a4) → xX (d + 1) mX12_evenest 26 [some (.ref 113), none, some (.int a2), some (.int a3), some (.int a4), none, none, none, none] [] g20 = some r) : xX (d + 1) mX12_evenest 17 [some (.ref 113), none, some (.int a2), some (.int a3), some (.int a4), none, none, none, none] [] g = some r :=
  Y_iload dX12_evenest_17 rfl <| Y_aload_n dX12_evenest_19 rfl <| Y_callV1 dX12_evenest_20 cl_11_364 rfl rfl (xis W 113 11 s_113 (Nat.le_of_ble_eq_true rfl)) rfl rfl rfl (hk20) <| Y_ge 112 dX12_evenest_23 rfl (fun q => X_le (xle_n (xle_n (xle_s (xle_n (xle_n (xle_n (xle_n (xle_n (xle_n xle_0))))))))) (k1 q)) (fun q => X_le (xle_s (xle_n (xle_s (xle_s (xle_s (xle_n (xle_n (xle_n (xle_n xle_0))))))))) (k2 q))
theorem bX12_evenest_26 {d : Nat} {g : xSt} {r : Option Value × xSt} {a2 a3 a4 : Int32} (k : xX (d + 1) mX12_evenest 32 [some (.ref 113), none, some (.int a2), some (.int a3), some (.int a4), some (.int (a4 + 1)), none, none, none] [] g = some r) : xX (d + 1) mX12_evenest 26 [some (.ref 113), none, some (.int a2), some (.int a3), some (.int a4), none, none, none, none] [] g = some r :=
  Y_iload dX12_evenest_26 rfl <| Y_iconst 1 dX12_evenest_28 ic_1 <| Y_iadd dX12_evenest_29 <| Y_istore dX12_evenest_30 rfl rfl <| X_le (xle_s (xle_n (xle_s (xle_s (xle_s (xle_s (xle_n (xle_n (xle_n xle_0))))))))) k
theorem bX12_evenest_32 {d : Nat} {g : xSt} {r : Option Value × xSt} {a2 a3 a4 a5 r35 : Int32} {g35 : xSt} (W : xWf g) (hk35 : xCallM d mX12_thingMany [.ref 113] g = some (some (.int r35), g35)) (W35 : xWf g35) (k1 : r35 ≤ a5 → xX (d + 1) mX12_evenest 106 [some (.ref 113), none, some (.int a2), some (.int a3), some (.int a4), none, none, none, none] [] g35 = some r) (k2 : ¬ (r35 ≤ a5) → xX (d + 1) mX12_evenest 41 [some (.ref 113), none, some (.int a2), some (.int a3), some (.int a4), some (.int a5), none, none, none] [] g35 = some r) : xX (d + 1) mX12_evenest 32 [some (.ref 113), none, some (.int a2), some (.int a3), some (.int a4), some (.int a5), none, none, none] [] g = some r :=
  Y_iload dX12_evenest_32 rfl <| Y_aload_n dX12_evenest_34 rfl <| Y_callV1 dX12_evenest_35 cl_11_364 rfl rfl (xis W 113 11 s_113 (Nat.le_of_ble_eq_true rfl)) rfl rfl rfl (hk35) <| Y_ge 106 dX12_evenest_38 rfl (fun q => X_le (xle_s (xle_n (xle_s (xle_s (xle_s (xle_n (xle_n (xle_n (xle_n xle_0))))))))) (k1 q)) (fun q => X_le (xle_s (xle_n (xle_s (xle_s (xle_s (xle_s (xle_n (xle_n (xle_n xle_0))))))))) (k2 q))
theorem bX12_evenest_41 {d : Nat} {g : xSt} {r : Option Value × xSt} {a2 a3 a4 a5 r47 r58 : Int32} {g47 g58 : xSt} (W : xWf g) (hk47 : xCallM d mX12_howMany [.ref 113, .int a4, .int a5, .int 1] g = some (some (.int r47), g47)) (W47 : xWf g47) (hk58 : xCallM d mX12_howMany [.ref 113, .int a4, .int a5, .int 2] g47 = some (some (.int r58), g58)) (W58 : xWf g58) (k1 : r58 ≤ r47 → xX (d + 1) mX12_evenest 75 [some (.ref 113), none, some (.int a2), some (.int a3), some (.int a4), some (.int a5), none, some (.int r58), none] [] g58 = some r) (k2 : ¬ (r58 ≤ r47) → xX (d + 1) mX12_evenest 70 [some (.ref 113), none, some (.int a2), some (.int a3), some (.int a4), some (.int a5), some (.int r47), none, none] [] g58 = some r) : xX (d + 1) mX12_evenest 41 [some (.ref 113), none, some (.int a2), some (.int a3), some (.int a4), some (.int a5), none, none, none] [] g = some r :=
  Y_aload_n dX12_evenest_41 rfl <| Y_iload dX12_evenest_42 rfl <| Y_iload dX12_evenest_44 rfl <| Y_iconst 1 dX12_evenest_46 ic_1 <| Y_callV1 dX12_evenest_47 cl_11_430 rfl rfl (xis W 113 11 s_113 (Nat.le_of_ble_eq_true rfl)) rfl rfl rfl (hk47) <| Y_istore dX12_evenest_50 rfl rfl <| Y_aload_n dX12_evenest_52 rfl <| Y_iload dX12_evenest_53 rfl <| Y_iload dX12_evenest_55 rfl <| Y_iconst 2 dX12_evenest_57 ic_2 <| Y_callV1 dX12_evenest_58 cl_11_430 rfl rfl (xis W47 113 11 s_113 (Nat.le_of_ble_eq_true rfl)) rfl rfl rfl (hk58) <| Y_istore dX12_evenest_61 rfl rfl <| Y_iload dX12_evenest_63 rfl <| Y_iload dX12_evenest_65 rfl <| Y_ge 75 dX12_evenest_67 rfl (fun q => X_le (xle_s (xle_n (xle_s (xle_s (xle_s (xle_s (xle_n (xle_s (xle_n xle_0))))))))) (k1 q)) (fun q => X_le (xle_s (xle_n (xle_s (xle_s (xle_s (xle_s (xle_s (xle_n (xle_n xle_0))))))))) (k2 q))
theorem bX12_evenest_70 {d : Nat} {g : xSt} {r : Option Value × xSt} {a2 a3 a4 a5 a6 : Int32} (k : xX (d + 1) mX12_evenest 77 [some (.ref 113), none, some (.int a2), some (.int a3), some (.int a4), some (.int a5), none, none, none] [.int a6] g = some r) : xX (d + 1) mX12_evenest 70 [some (.ref 113), none, some (.int a2), some (.int a3), some (.int a4), some (.int a5), some (.int a6), none, none] [] g = some r :=
  Y_iload dX12_evenest_70 rfl <| Y_goto 77 dX12_evenest_72 rfl <| X_le (xle_s (xle_n (xle_s (xle_s (xle_s (xle_s (xle_n (xle_n (xle_n xle_0))))))))) k
theorem bX12_evenest_75 {d : Nat} {g : xSt} {r : Option Value × xSt} {a2 a3 a4 a5 a7 : Int32} (k : xX (d + 1) mX12_evenest 77 [some (.ref 113), none, some (.int a2), some (.int a3), some (.int a4), some (.int a5), none, none, none] [.int a7] g = some r) : xX (d + 1) mX12_evenest 75 [some (.ref 113), none, some (.int a2), some (.int a3), some (.int a4), some (.int a5), none, some (.int a7), none] [] g = some r :=
  Y_iload dX12_evenest_75 rfl <| X_le (xle_s (xle_n (xle_s (xle_s (xle_s (xle_s (xle_n (xle_n (xle_n xle_0))))))))) k
theorem bX12_evenest_77 {d : Nat} {g : xSt} {r : Option Value × xSt} {a2 a3 a4 a5 s0 : Int32} (k1 : a3 < s0 → xX (d + 1) mX12_evenest 88 [some (.ref 113), none, none, none, some (.int a4), some (.int a5), none, none, some (.int s0)] [] g = some r) (k2 : ¬ (a3 < s0) → xX (d + 1) mX12_evenest 85 [some (.ref 113), none, some (.int a2), some (.int a3), some (.int a4), some (.int a5), none, none, none] [] g = some r) : xX (d + 1) mX12_evenest 77 [some (.ref 113), none, some (.int a2), some (.int a3), some (.int a4), some (.int a5), none, none, none] [.int s0] g = some r :=
  Y_istore dX12_evenest_77 rfl rfl <| Y_iload dX12_evenest_79 rfl <| Y_iload_n dX12_evenest_81 rfl <| Y_gt 88 dX12_evenest_82 rfl (fun q => X_le (xle_s (xle_n (xle_n (xle_n (xle_s (xle_s (xle_n (xle_n (xle_s xle_0))))))))) (k1 q)) (fun q => X_le (xle_s (xle_n (xle_s (xle_s (xle_s (xle_s (xle_n (xle_n (xle_n xle_0))))))))) (k2 q))
theorem bX12_evenest_85 {d : Nat} {g : xSt} {r : Option Value × xSt} {a2 a3 a4 a5 : Int32} (k : xX (d + 1) mX12_evenest 100 [some (.ref 113), none, some (.int a2), some (.int a3), some (.int a4), some (.int a5), none, none, none] [] g = some r) : xX (d + 1) mX12_evenest 85 [some (.ref 113), none, some (.int a2), some (.int a3), some (.int a4), some (.int a5), none, none, none] [] g = some r :=
  Y_goto 100 dX12_evenest_85 rfl <| X_le (xle_s (xle_n (xle_s (xle_s (xle_s (xle_s (xle_n (xle_n (xle_n xle_0))))))))) k
theorem bX12_evenest_88 {d : Nat} {g : xSt} {r : Option Value × xSt} {a4 a5 a8 : Int32} (k : xX (d + 1) mX12_evenest 100 [some (.ref 113), none, some (.int ((10 * a4) + a5)), some (.int a8), some (.int a4), some (.int a5), none, none, none] [] g = some r) : xX (d + 1) mX12_evenest 88 [some (.ref 113), none, none, none, some (.int a4), some (.int a5), none, none, some (.int a8)] [] g = some r :=
  Y_iload dX12_evenest_88 rfl <| Y_istore_n dX12_evenest_90 rfl rfl <| Y_bipush 10 dX12_evenest_91 bp_10 <| Y_iload dX12_evenest_93 rfl <| Y_imul dX12_evenest_95 <| Y_iload dX12_evenest_96 rfl <| Y_iadd dX12_evenest_98 <| Y_istore_n dX12_evenest_99 rfl rfl <| X_le (xle_s (xle_n (xle_s (xle_s (xle_s (xle_s (xle_n (xle_n (xle_n xle_0))))))))) k
theorem bX12_evenest_100 {d : Nat} {g : xSt} {r : Option Value × xSt} {a2 a3 a4 a5 : Int32} (k : xX (d + 1) mX12_evenest 32 [some (.ref 113), none, some (.int a2), some (.int a3), some (.int a4), some (.int (a5 + 1)), none, none, none] [] g = some r) : xX (d + 1) mX12_evenest 100 [some (.ref 113), none, some (.int a2), some (.int a3), some (.int a4), some (.int a5), none, none, none] [] g = some r :=
  Y_iinc 1 dX12_evenest_100 rfl ic_1 rfl rfl <| Y_goto 32 dX12_evenest_103 rfl <| X_le (xle_s (xle_n (xle_s (xle_s (xle_s (xle_s (xle_n (xle_n (xle_n xle_0))))))))) k
theorem bX12_evenest_106 {d : Nat} {g : xSt} {r : Option Value × xSt} {a2 a3 a4 : Int32} (k : xX (d + 1) mX12_evenest 17 [some (.ref 113), none, some (.int a2), some (.int a3), some (.int (a4 + 1)), none, none, none, none] [] g = some r) : xX (d + 1) mX12_evenest 106 [some (.ref 113), none, some (.int a2), some (.int a3), some (.int a4), none, none, none, none] [] g = some r :=
  Y_iinc 1 dX12_evenest_106 rfl ic_1 rfl rfl <| Y_goto 17 dX12_evenest_109 rfl <| X_le (xle_s (xle_n (xle_s (xle_s (xle_s (xle_n (xle_n (xle_n (xle_n xle_0))))))))) k
theorem bX12_evenest_112 {d : Nat} {g : xSt} {r : Option Value × xSt} {a2 : Int32} (k : r = (some (.int a2), g)) : xX (d + 1) mX12_evenest 112 [none, none, some (.int a2), none, none, none, none, none, none] [] g = some r :=
  Y_iload_n dX12_evenest_112 rfl <| Y_iret dX12_evenest_113 rfl k
theorem bX12_covers_0 {d : Nat} {g : xSt} {r : Option Value × xSt} {a1 r7 : Int32} {g7 : xSt} (W : xWf g) (hk7 : xCallM d mX12_hasLeft [.ref 113, .int a1] (xWI g 113 54 0) = some (some (.int r7), g7)) (W7 : xWf g7) (k1 : r7 = 0 → xX (d + 1) mX12_covers 13 [none, none, none, none] [] g7 = some r) (k2 : ¬ (r7 = 0) → xX (d + 1) mX12_covers 15 [some (.ref 113), none, none, none] [] g7 = some r) : xX (d + 1) mX12_covers 0 [some (.ref 113), some (.int a1), none, none] [] g = some r :=
  Y_aload_n dX12_covers_0 rfl <| Y_iconst 0 dX12_covers_1 ic_0 <| Y_putI dX12_covers_2 f_11_313 fn_11_54 ft_11_54 (xis W 113 11 s_113 (Nat.le_of_ble_eq_true rfl)) <| Y_aload_n dX12_covers_5 rfl <| Y_iload_n dX12_covers_6 rfl <| Y_callV1 dX12_covers_7 cl_11_424 rfl rfl (xis W 113 11 s_113 (Nat.le_of_ble_eq_true rfl)) rfl rfl rfl (hk7) <| Y_ne0 15 dX12_covers_10 rfl (fun q => X_le (xle_n (xle_n (xle_n (xle_n xle_0)))) (k1 q)) (fun q => X_le (xle_s (xle_n (xle_n (xle_n xle_0)))) (k2 q))
theorem bX12_covers_13 {d : Nat} {g : xSt} {r : Option Value × xSt}  (k : r = (some (.int (-1)), g)) : xX (d + 1) mX12_covers 13 [none, none, none, none] [] g = some r :=
  Y_iconst (-1) dX12_covers_13 ic_m1 <| Y_iret dX12_covers_14 rfl k
theorem bX12_covers_15 {d : Nat} {g : xSt} {r : Option Value × xSt}  (k : xX (d + 1) mX12_covers 17 [some (.ref 113), none, some (.int 0), none] [] g = some r) : xX (d + 1) mX12_covers 15 [some (.ref 113), none, none, none] [] g = some r :=
  Y_iconst 0 dX12_covers_15 ic_0 <| Y_istore_n dX12_covers_16 rfl rfl <| X_le (xle_s (xle_n (xle_s (xle_n xle_0)))) k
theorem bX12_covers_17 {d : Nat} {g : xSt} {r : Option Value × xSt} {a2 r19 : Int32} {g19 : xSt} (W : xWf g) (hk19 : xCallM d mX12_thingMany [.ref 113] g = some (some (.int r19), g19)) (W19 : xWf g19) (k1 : r19 ≤ a2 → xX (d + 1) mX12_covers 84 [some (.ref 113), none, none, none] [] g19 = some r) (k2 : ¬ (r19 ≤ a2) → xX (d + 1) mX12_covers 25 [some (.ref 113), none, some (.int a2), none] [] g19 = some r) : xX (d + 1) mX12_covers 17 [some (.ref 113), none, some (.int a2), none] [] g = some r :=
  Y_iload_n dX12_covers_17 rfl <| Y_aload_n dX12_covers_18 rfl <| Y_callV1 dX12_covers_19 cl_11_364 rfl rfl (xis W 113 11 s_113 (Nat.le_of_ble_eq_true rfl)) rfl rfl rfl (hk19) <| Y_ge 84 dX12_covers_22 rfl (fun q => X_le (xle_s (xle_n (xle_n (xle_n xle_0)))) (k1 q)) (fun q => X_le (xle_s (xle_n (xle_s (xle_n xle_0)))) (k2 q))
theorem bX12_covers_25 {d : Nat} {g : xSt} {r : Option Value × xSt} {a2 : Int32} (k : xX (d + 1) mX12_covers 27 [some (.ref 113), none, some (.int a2), some (.int 0)] [] g = some r) : xX (d + 1) mX12_covers 25 [some (.ref 113), none, some (.int a2), none] [] g = some r :=
  Y_iconst 0 dX12_covers_25 ic_0 <| Y_istore_n dX12_covers_26 rfl rfl <| X_le (xle_s (xle_n (xle_s (xle_s xle_0)))) k
theorem bX12_covers_27 {d : Nat} {g : xSt} {r : Option Value × xSt} {a2 a3 r29 : Int32} {g29 : xSt} (W : xWf g) (hk29 : xCallM d mX12_thingMany [.ref 113] g = some (some (.int r29), g29)) (W29 : xWf g29) (k1 : r29 ≤ a3 → xX (d + 1) mX12_covers 78 [some (.ref 113), none, some (.int a2), none] [] g29 = some r) (k2 : ¬ (r29 ≤ a3) → xX (d + 1) mX12_covers 35 [some (.ref 113), none, some (.int a2), some (.int a3)] [] g29 = some r) : xX (d + 1) mX12_covers 27 [some (.ref 113), none, some (.int a2), some (.int a3)] [] g = some r :=
  Y_iload_n dX12_covers_27 rfl <| Y_aload_n dX12_covers_28 rfl <| Y_callV1 dX12_covers_29 cl_11_364 rfl rfl (xis W 113 11 s_113 (Nat.le_of_ble_eq_true rfl)) rfl rfl rfl (hk29) <| Y_ge 78 dX12_covers_32 rfl (fun q => X_le (xle_s (xle_n (xle_s (xle_n xle_0)))) (k1 q)) (fun q => X_le (xle_s (xle_n (xle_s (xle_s xle_0)))) (k2 q))
theorem bX12_covers_35 {d : Nat} {g : xSt} {r : Option Value × xSt} {a2 a3 r38 : Int32} {g38 : xSt} (W : xWf g) (hk38 : xCallM d mX12_isDirect [.ref 113, .int a2, .int a3] g = some (some (.int r38), g38)) (W38 : xWf g38) (k1 : r38 = 0 → xX (d + 1) mX12_covers 44 [some (.ref 113), none, some (.int a2), some (.int a3)] [] g38 = some r) (k2 : ¬ (r38 = 0) → xX (d + 1) mX12_covers 47 [some (.ref 113), none, some (.int a2), some (.int a3)] [] g38 = some r) : xX (d + 1) mX12_covers 35 [some (.ref 113), none, some (.int a2), some (.int a3)] [] g = some r :=
  Y_aload_n dX12_covers_35 rfl <| Y_iload_n dX12_covers_36 rfl <| Y_iload_n dX12_covers_37 rfl <| Y_callV1 dX12_covers_38 cl_11_545 rfl rfl (xis W 113 11 s_113 (Nat.le_of_ble_eq_true rfl)) rfl rfl rfl (hk38) <| Y_ne0 47 dX12_covers_41 rfl (fun q => X_le (xle_s (xle_n (xle_s (xle_s xle_0)))) (k1 q)) (fun q => X_le (xle_s (xle_n (xle_s (xle_s xle_0)))) (k2 q))
theorem bX12_covers_44 {d : Nat} {g : xSt} {r : Option Value × xSt} {a2 a3 : Int32} (k : xX (d + 1) mX12_covers 72 [some (.ref 113), none, some (.int a2), some (.int a3)] [] g = some r) : xX (d + 1) mX12_covers 44 [some (.ref 113), none, some (.int a2), some (.int a3)] [] g = some r :=
  Y_goto 72 dX12_covers_44 rfl <| X_le (xle_s (xle_n (xle_s (xle_s xle_0)))) k
theorem bX12_covers_47 {d : Nat} {g : xSt} {r : Option Value × xSt} {a2 a3 : Int32} (W : xWf g) (hi61 : vp_in (xI g 113 54) 25) (k : xX (d + 1) mX12_covers 72 [some (.ref 113), none, some (.int a2), some (.int a3)] [] (xWI (xWI g 149 (xI g 113 54).toNatClampNeg ((10 * a2) + a3)) 113 54 ((xI g 113 54) + 1)) = some r) : xX (d + 1) mX12_covers 47 [some (.ref 113), none, some (.int a2), some (.int a3)] [] g = some r :=
  Y_aload_n dX12_covers_47 rfl <| Y_getR dX12_covers_48 f_11_122 (by rw [ft_11_52]; rfl) (xis W 113 11 s_113 (Nat.le_of_ble_eq_true rfl)) (xptr W 113 52 p_113_52) <| Y_aload_n dX12_covers_51 rfl <| Y_getI dX12_covers_52 f_11_313 ft_11_54 (xis W 113 11 s_113 (Nat.le_of_ble_eq_true rfl)) <| Y_bipush 10 dX12_covers_55 bp_10 <| Y_iload_n dX12_covers_57 rfl <| Y_imul dX12_covers_58 <| Y_iload_n dX12_covers_59 rfl <| Y_iadd dX12_covers_60 <| Y_iast dX12_covers_61 (xarr W (o := 149) s_149 (Nat.le_of_ble_eq_true rfl)) hi61 <| Y_aload_n dX12_covers_62 rfl <| Y_dup dX12_covers_63 rfl <| Y_getI dX12_covers_64 f_11_313 ft_11_54 (xis W 113 11 s_113 (Nat.le_of_ble_eq_true rfl)) <| Y_iconst 1 dX12_covers_67 ic_1 <| Y_iadd dX12_covers_68 <| Y_putI dX12_covers_69 f_11_313 fn_11_54 ft_11_54 (xis W 113 11 s_113 (Nat.le_of_ble_eq_true rfl)) <| X_le (xle_s (xle_n (xle_s (xle_s xle_0)))) k
theorem bX12_covers_72 {d : Nat} {g : xSt} {r : Option Value × xSt} {a2 a3 : Int32} (k : xX (d + 1) mX12_covers 27 [some (.ref 113), none, some (.int a2), some (.int (a3 + 1))] [] g = some r) : xX (d + 1) mX12_covers 72 [some (.ref 113), none, some (.int a2), some (.int a3)] [] g = some r :=
  Y_iinc 1 dX12_covers_72 rfl ic_1 rfl rfl <| Y_goto 27 dX12_covers_75 rfl <| X_le (xle_s (xle_n (xle_s (xle_s xle_0)))) k
theorem bX12_covers_78 {d : Nat} {g : xSt} {r : Option Value × xSt} {a2 : Int32} (k : xX (d + 1) mX12_covers 17 [some (.ref 113), none, some (.int (a2 + 1)), none] [] g = some r) : xX (d + 1) mX12_covers 78 [some (.ref 113), none, some (.int a2), none] [] g = some r :=
  Y_iinc 1 dX12_covers_78 rfl ic_1 rfl rfl <| Y_goto 17 dX12_covers_81 rfl <| X_le (xle_s (xle_n (xle_s (xle_n xle_0)))) k
theorem bX12_covers_84 {d : Nat} {g : xSt} {r : Option Value × xSt}  (W : xWf g) (k : r = (some (.int (xI g 113 54)), g)) : xX (d + 1) mX12_covers 84 [some (.ref 113), none, none, none] [] g = some r :=
  Y_aload_n dX12_covers_84 rfl <| Y_getI dX12_covers_85 f_11_313 ft_11_54 (xis W 113 11 s_113 (Nat.le_of_ble_eq_true rfl)) <| Y_iret dX12_covers_88 rfl k
theorem bX12_isDirect_0 {d : Nat} {g : xSt} {r : Option Value × xSt} {a1 a2 r3 : Int32} {g3 : xSt} (W : xWf g) (hk3 : xCallM d mX12_isHeavier [.ref 113, .int a1, .int a2] g = some (some (.int r3), g3)) (W3 : xWf g3) (k1 : r3 = 0 → xX (d + 1) mX12_isDirect 9 [none, none, none, none] [] g3 = some r) (k2 : ¬ (r3 = 0) → xX (d + 1) mX12_isDirect 11 [some (.ref 113), some (.int a1), some (.int a2), none] [] g3 = some r) : xX (d + 1) mX12_isDirect 0 [some (.ref 113), some (.int a1), some (.int a2), none] [] g = some r :=
  Y_aload_n dX12_isDirect_0 rfl <| Y_iload_n dX12_isDirect_1 rfl <| Y_iload_n dX12_isDirect_2 rfl <| Y_callV1 dX12_isDirect_3 cl_11_542 rfl rfl (xis W 113 11 s_113 (Nat.le_of_ble_eq_true rfl)) rfl rfl rfl (hk3) <| Y_ne0 11 dX12_isDirect_6 rfl (fun q => X_le (xle_n (xle_n (xle_n (xle_n xle_0)))) (k1 q)) (fun q => X_le (xle_s (xle_s (xle_s (xle_n xle_0)))) (k2 q))
theorem bX12_isDirect_9 {d : Nat} {g : xSt} {r : Option Value × xSt}  (k : r = (some (.int 0), g)) : xX (d + 1) mX12_isDirect 9 [none, none, none, none] [] g = some r :=
  Y_iconst 0 dX12_isDirect_9 ic_0 <| Y_zret dX12_isDirect_10 rfl (by decide) k
theorem bX12_isDirect_11 {d : Nat} {g : xSt} {r : Option Value × xSt} {a1 a2 : Int32} (k : xX (d + 1) mX12_isDirect 13 [some (.ref 113), some (.int a1), some (.int a2), some (.int 0)] [] g = some r) : xX (d + 1) mX12_isDirect 11 [some (.ref 113), some (.int a1), some (.int a2), none] [] g = some r :=
  Y_iconst 0 dX12_isDirect_11 ic_0 <| Y_istore_n dX12_isDirect_12 rfl rfl <| X_le (xle_s (xle_s (xle_s (xle_s xle_0)))) k
theorem bX12_isDirect_13 {d : Nat} {g : xSt} {r : Option Value × xSt} {a1 a2 a3 r15 : Int32} {g15 : xSt} (W : xWf g) (hk15 : xCallM d mX12_thingMany [.ref 113] g = some (some (.int r15), g15)) (W15 : xWf g15) (k1 : r15 ≤ a3 → xX (d + 1) mX12_isDirect 47 [none, none, none, none] [] g15 = some r) (k2 : ¬ (r15 ≤ a3) → xX (d + 1) mX12_isDirect 21 [some (.ref 113), some (.int a1), some (.int a2), some (.int a3)] [] g15 = some r) : xX (d + 1) mX12_isDirect 13 [some (.ref 113), some (.int a1), some (.int a2), some (.int a3)] [] g = some r :=
  Y_iload_n dX12_isDirect_13 rfl <| Y_aload_n dX12_isDirect_14 rfl <| Y_callV1 dX12_isDirect_15 cl_11_364 rfl rfl (xis W 113 11 s_113 (Nat.le_of_ble_eq_true rfl)) rfl rfl rfl (hk15) <| Y_ge 47 dX12_isDirect_18 rfl (fun q => X_le (xle_n (xle_n (xle_n (xle_n xle_0)))) (k1 q)) (fun q => X_le (xle_s (xle_s (xle_s (xle_s xle_0)))) (k2 q))
theorem bX12_isDirect_21 {d : Nat} {g : xSt} {r : Option Value × xSt} {a1 a2 a3 r24 : Int32} {g24 : xSt} (W : xWf g) (hk24 : xCallM d mX12_isHeavier [.ref 113, .int a1, .int a3] g = some (some (.int r24), g24)) (W24 : xWf g24) (k1 : r24 = 0 → xX (d + 1) mX12_isDirect 41 [some (.ref 113), some (.int a1), some (.int a2), some (.int a3)] [] g24 = some r) (k2 : ¬ (r24 = 0) → xX (d + 1) mX12_isDirect 30 [some (.ref 113), some (.int a1), some (.int a2), some (.int a3)] [] g24 = some r) : xX (d + 1) mX12_isDirect 21 [some (.ref 113), some (.int a1), some (.int a2), some (.int a3)] [] g = some r :=
  Y_aload_n dX12_isDirect_21 rfl <| Y_iload_n dX12_isDirect_22 rfl <| Y_iload_n dX12_isDirect_23 rfl <| Y_callV1 dX12_isDirect_24 cl_11_542 rfl rfl (xis W 113 11 s_113 (Nat.le_of_ble_eq_true rfl)) rfl rfl rfl (hk24) <| Y_eq0 41 dX12_isDirect_27 rfl (fun q => X_le (xle_s (xle_s (xle_s (xle_s xle_0)))) (k1 q)) (fun q => X_le (xle_s (xle_s (xle_s (xle_s xle_0)))) (k2 q))
theorem bX12_isDirect_30 {d : Nat} {g : xSt} {r : Option Value × xSt} {a1 a2 a3 r33 : Int32} {g33 : xSt} (W : xWf g) (hk33 : xCallM d mX12_isHeavier [.ref 113, .int a3, .int a2] g = some (some (.int r33), g33)) (W33 : xWf g33) (k1 : r33 = 0 → xX (d + 1) mX12_isDirect 41 [some (.ref 113), some (.int a1), some (.int a2), some (.int a3)] [] g33 = some r) (k2 : ¬ (r33 = 0) → xX (d + 1) mX12_isDirect 39 [none, none, none, none] [] g33 = some r) : xX (d + 1) mX12_isDirect 30 [some (.ref 113), some (.int a1), some (.int a2), some (.int a3)] [] g = some r :=
  Y_aload_n dX12_isDirect_30 rfl <| Y_iload_n dX12_isDirect_31 rfl <| Y_iload_n dX12_isDirect_32 rfl <| Y_callV1 dX12_isDirect_33 cl_11_542 rfl rfl (xis W 113 11 s_113 (Nat.le_of_ble_eq_true rfl)) rfl rfl rfl (hk33) <| Y_eq0 41 dX12_isDirect_36 rfl (fun q => X_le (xle_s (xle_s (xle_s (xle_s xle_0)))) (k1 q)) (fun q => X_le (xle_n (xle_n (xle_n (xle_n xle_0)))) (k2 q))
theorem bX12_isDirect_39 {d : Nat} {g : xSt} {r : Option Value × xSt}  (k : r = (some (.int 0), g)) : xX (d + 1) mX12_isDirect 39 [none, none, none, none] [] g = some r :=
  Y_iconst 0 dX12_isDirect_39 ic_0 <| Y_zret dX12_isDirect_40 rfl (by decide) k
theorem bX12_isDirect_41 {d : Nat} {g : xSt} {r : Option Value × xSt} {a1 a2 a3 : Int32} (k : xX (d + 1) mX12_isDirect 13 [some (.ref 113), some (.int a1), some (.int a2), some (.int (a3 + 1))] [] g = some r) : xX (d + 1) mX12_isDirect 41 [some (.ref 113), some (.int a1), some (.int a2), some (.int a3)] [] g = some r :=
  Y_iinc 1 dX12_isDirect_41 rfl ic_1 rfl rfl <| Y_goto 13 dX12_isDirect_44 rfl <| X_le (xle_s (xle_s (xle_s (xle_s xle_0)))) k
theorem bX12_isDirect_47 {d : Nat} {g : xSt} {r : Option Value × xSt}  (k : r = (some (.int 1), g)) : xX (d + 1) mX12_isDirect 47 [none, none, none, none] [] g = some r :=
  Y_iconst 1 dX12_isDirect_47 ic_1 <| Y_zret dX12_isDirect_48 rfl (by decide) k
theorem bX12_isHeavier_0 {d : Nat} {g : xSt} {r : Option Value × xSt} {a1 a2 : Int32} (k1 : a1 = a2 → xX (d + 1) mX12_isHeavier 23 [none, none, none] [] g = some r) (k2 : ¬ (a1 = a2) → xX (d + 1) mX12_isHeavier 5 [some (.ref 113), some (.int a1), some (.int a2)] [] g = some r) : xX (d + 1) mX12_isHeavier 0 [some (.ref 113), some (.int a1), some (.int a2)] [] g = some r :=
  Y_iload_n dX12_isHeavier_0 rfl <| Y_iload_n dX12_isHeavier_1 rfl <| Y_eq 23 dX12_isHeavier_2 rfl (fun q => X_le (xle_n (xle_n (xle_n xle_0))) (k1 q)) (fun q => X_le (xle_s (xle_s (xle_s xle_0))) (k2 q))
theorem bX12_isHeavier_5 {d : Nat} {g : xSt} {r : Option Value × xSt} {a1 a2 r9 : Int32} {g9 : xSt} (W : xWf g) (hk9 : xCallM d mX12_howMany [.ref 113, .int a1, .int a2, .int 1] g = some (some (.int r9), g9)) (W9 : xWf g9) (k1 : r9 = (xI g9 113 53) → xX (d + 1) mX12_isHeavier 19 [none, none, none] [] g9 = some r) (k2 : ¬ (r9 = (xI g9 113 53)) → xX (d + 1) mX12_isHeavier 23 [none, none, none] [] g9 = some r) : xX (d + 1) mX12_isHeavier 5 [some (.ref 113), some (.int a1), some (.int a2)] [] g = some r :=
  Y_aload_n dX12_isHeavier_5 rfl <| Y_iload_n dX12_isHeavier_6 rfl <| Y_iload_n dX12_isHeavier_7 rfl <| Y_iconst 1 dX12_isHeavier_8 ic_1 <| Y_callV1 dX12_isHeavier_9 cl_11_430 rfl rfl (xis W 113 11 s_113 (Nat.le_of_ble_eq_true rfl)) rfl rfl rfl (hk9) <| Y_aload_n dX12_isHeavier_12 rfl <| Y_getI dX12_isHeavier_13 f_11_408 ft_11_53 (xis W9 113 11 s_113 (Nat.le_of_ble_eq_true rfl)) <| Y_ne 23 dX12_isHeavier_16 rfl (fun q => X_le (xle_n (xle_n (xle_n xle_0))) (k1 q)) (fun q => X_le (xle_n (xle_n (xle_n xle_0))) (k2 q))
theorem bX12_isHeavier_19 {d : Nat} {g : xSt} {r : Option Value × xSt}  (k : xX (d + 1) mX12_isHeavier 24 [none, none, none] [.int 1] g = some r) : xX (d + 1) mX12_isHeavier 19 [none, none, none] [] g = some r :=
  Y_iconst 1 dX12_isHeavier_19 ic_1 <| Y_goto 24 dX12_isHeavier_20 rfl <| X_le (xle_n (xle_n (xle_n xle_0))) k
theorem bX12_isHeavier_23 {d : Nat} {g : xSt} {r : Option Value × xSt}  (k : xX (d + 1) mX12_isHeavier 24 [none, none, none] [.int 0] g = some r) : xX (d + 1) mX12_isHeavier 23 [none, none, none] [] g = some r :=
  Y_iconst 0 dX12_isHeavier_23 ic_0 <| X_le (xle_n (xle_n (xle_n xle_0))) k
theorem bX12_isHeavier_24 {d : Nat} {g : xSt} {r : Option Value × xSt} {s0 : Int32} (hz24 : s0 = 0 ∨ s0 = 1) (k : r = (some (.int s0), g)) : xX (d + 1) mX12_isHeavier 24 [none, none, none] [.int s0] g = some r :=
  Y_zret dX12_isHeavier_24 rfl (hz24) k
theorem bX12_sits_0 {d : Nat} {g : xSt} {r : Option Value × xSt} {a1 a2 a3 r2 : Int32} {g2 : xSt} (W : xWf g) (hk2 : xCallM d mX12_isThing [.ref 113, .int a1] g = some (some (.int r2), g2)) (W2 : xWf g2) (k1 : r2 = 0 → xX (d + 1) mX12_sits 25 [none, none, none, none, none, none] [] g2 = some r) (k2 : ¬ (r2 = 0) → xX (d + 1) mX12_sits 8 [some (.ref 113), some (.int a1), some (.int a2), some (.int a3), none, none] [] g2 = some r) : xX (d + 1) mX12_sits 0 [some (.ref 113), some (.int a1), some (.int a2), some (.int a3), none, none] [] g = some r :=
  Y_aload_n dX12_sits_0 rfl <| Y_iload_n dX12_sits_1 rfl <| Y_callV1 dX12_sits_2 cl_11_421 rfl rfl (xis W 113 11 s_113 (Nat.le_of_ble_eq_true rfl)) rfl rfl rfl (hk2) <| Y_eq0 25 dX12_sits_5 rfl (fun q => X_le (xle_n (xle_n (xle_n (xle_n (xle_n (xle_n xle_0)))))) (k1 q)) (fun q => X_le (xle_s (xle_s (xle_s (xle_s (xle_n (xle_n xle_0)))))) (k2 q))
theorem bX12_sits_8 {d : Nat} {g : xSt} {r : Option Value × xSt} {a1 a2 a3 r11 : Int32} {g11 : xSt} (hk11 : xCallM d mX12_isIn [.int a2, .int 0, .int 1] g = some (some (.int r11), g11)) (W11 : xWf g11) (k1 : r11 = 0 → xX (d + 1) mX12_sits 25 [none, none, none, none, none, none] [] g11 = some r) (k2 : ¬ (r11 = 0) → xX (d + 1) mX12_sits 17 [some (.ref 113), some (.int a1), some (.int a2), some (.int a3), none, none] [] g11 = some r) : xX (d + 1) mX12_sits 8 [some (.ref 113), some (.int a1), some (.int a2), some (.int a3), none, none] [] g = some r :=
  Y_iload_n dX12_sits_8 rfl <| Y_iconst 0 dX12_sits_9 ic_0 <| Y_iconst 1 dX12_sits_10 ic_1 <| Y_callS1 dX12_sits_11 cl_11_367 rfl rfl rfl rfl rfl (hk11) <| Y_eq0 25 dX12_sits_14 rfl (fun q => X_le (xle_n (xle_n (xle_n (xle_n (xle_n (xle_n xle_0)))))) (k1 q)) (fun q => X_le (xle_s (xle_s (xle_s (xle_s (xle_n (xle_n xle_0)))))) (k2 q))
theorem bX12_sits_17 {d : Nat} {g : xSt} {r : Option Value × xSt} {a1 a2 a3 r19 : Int32} {g19 : xSt} (W : xWf g) (hk19 : xCallM d mX12_hasLeft [.ref 113, .int a3] g = some (some (.int r19), g19)) (W19 : xWf g19) (k1 : r19 = 0 → xX (d + 1) mX12_sits 25 [none, none, none, none, none, none] [] g19 = some r) (k2 : ¬ (r19 = 0) → xX (d + 1) mX12_sits 27 [some (.ref 113), some (.int a1), some (.int a2), none, none, none] [] g19 = some r) : xX (d + 1) mX12_sits 17 [some (.ref 113), some (.int a1), some (.int a2), some (.int a3), none, none] [] g = some r :=
  Y_aload_n dX12_sits_17 rfl <| Y_iload_n dX12_sits_18 rfl <| Y_callV1 dX12_sits_19 cl_11_424 rfl rfl (xis W 113 11 s_113 (Nat.le_of_ble_eq_true rfl)) rfl rfl rfl (hk19) <| Y_ne0 27 dX12_sits_22 rfl (fun q => X_le (xle_n (xle_n (xle_n (xle_n (xle_n (xle_n xle_0)))))) (k1 q)) (fun q => X_le (xle_s (xle_s (xle_s (xle_n (xle_n (xle_n xle_0)))))) (k2 q))
theorem bX12_sits_25 {d : Nat} {g : xSt} {r : Option Value × xSt}  (k : r = (some (.int (-1)), g)) : xX (d + 1) mX12_sits 25 [none, none, none, none, none, none] [] g = some r :=
  Y_iconst (-1) dX12_sits_25 ic_m1 <| Y_iret dX12_sits_26 rfl k
theorem bX12_sits_27 {d : Nat} {g : xSt} {r : Option Value × xSt} {a1 a2 : Int32} (k : xX (d + 1) mX12_sits 33 [some (.ref 113), some (.int a1), some (.int a2), none, some (.int 0), some (.int 0)] [] g = some r) : xX (d + 1) mX12_sits 27 [some (.ref 113), some (.int a1), some (.int a2), none, none, none] [] g = some r :=
  Y_iconst 0 dX12_sits_27 ic_0 <| Y_istore dX12_sits_28 rfl rfl <| Y_iconst 0 dX12_sits_30 ic_0 <| Y_istore dX12_sits_31 rfl rfl <| X_le (xle_s (xle_s (xle_s (xle_n (xle_s (xle_s xle_0)))))) k
theorem bX12_sits_33 {d : Nat} {g : xSt} {r : Option Value × xSt} {a1 a2 a4 a5 r36 : Int32} {g36 : xSt} (W : xWf g) (hk36 : xCallM d mX12_thingMany [.ref 113] g = some (some (.int r36), g36)) (W36 : xWf g36) (k1 : r36 ≤ a5 → xX (d + 1) mX12_sits 88 [none, none, none, none, some (.int a4), none] [] g36 = some r) (k2 : ¬ (r36 ≤ a5) → xX (d + 1) mX12_sits 42 [some (.ref 113), some (.int a1), some (.int a2), none, some (.int a4), some (.int a5)] [] g36 = some r) : xX (d + 1) mX12_sits 33 [some (.ref 113), some (.int a1), some (.int a2), none, some (.int a4), some (.int a5)] [] g = some r :=
  Y_iload dX12_sits_33 rfl <| Y_aload_n dX12_sits_35 rfl <| Y_callV1 dX12_sits_36 cl_11_364 rfl rfl (xis W 113 11 s_113 (Nat.le_of_ble_eq_true rfl)) rfl rfl rfl (hk36) <| Y_ge 88 dX12_sits_39 rfl (fun q => X_le (xle_n (xle_n (xle_n (xle_n (xle_s (xle_n xle_0)))))) (k1 q)) (fun q => X_le (xle_s (xle_s (xle_s (xle_n (xle_s (xle_s xle_0)))))) (k2 q))
theorem bX12_sits_42 {d : Nat} {g : xSt} {r : Option Value × xSt} {a1 a2 a4 a5 : Int32} (k1 : a2 = 0 → xX (d + 1) mX12_sits 48 [some (.ref 113), some (.int a1), some (.int a2), none, none, some (.int a5)] [.int a4] g = some r) (k2 : ¬ (a2 = 0) → xX (d + 1) mX12_sits 61 [some (.ref 113), some (.int a1), some (.int a2), none, none, some (.int a5)] [.int a4] g = some r) : xX (d + 1) mX12_sits 42 [some (.ref 113), some (.int a1), some (.int a2), none, some (.int a4), some (.int a5)] [] g = some r :=
  Y_iload dX12_sits_42 rfl <| Y_iload_n dX12_sits_44 rfl <| Y_ne0 61 dX12_sits_45 rfl (fun q => X_le (xle_s (xle_s (xle_s (xle_n (xle_n (xle_s xle_0)))))) (k1 q)) (fun q => X_le (xle_s (xle_s (xle_s (xle_n (xle_n (xle_s xle_0)))))) (k2 q))
theorem bX12_sits_48 {d : Nat} {g : xSt} {r : Option Value × xSt} {a1 a2 a5 s0 r52 : Int32} {g52 : xSt} (W : xWf g) (hk52 : xCallM d mX12_isHeavier [.ref 113, .int a1, .int a5] g = some (some (.int r52), g52)) (W52 : xWf g52) (k1 : r52 = 0 → xX (d + 1) mX12_sits 78 [some (.ref 113), some (.int a1), some (.int a2), none, none, some (.int a5)] [.int s0] g52 = some r) (k2 : ¬ (r52 = 0) → xX (d + 1) mX12_sits 58 [some (.ref 113), some (.int a1), some (.int a2), none, none, some (.int a5)] [.int s0] g52 = some r) : xX (d + 1) mX12_sits 48 [some (.ref 113), some (.int a1), some (.int a2), none, none, some (.int a5)] [.int s0] g = some r :=
  Y_aload_n dX12_sits_48 rfl <| Y_iload_n dX12_sits_49 rfl <| Y_iload dX12_sits_50 rfl <| Y_callV1 dX12_sits_52 cl_11_542 rfl rfl (xis W 113 11 s_113 (Nat.le_of_ble_eq_true rfl)) rfl rfl rfl (hk52) <| Y_eq0 78 dX12_sits_55 rfl (fun q => X_le (xle_s (xle_s (xle_s (xle_n (xle_n (xle_s xle_0)))))) (k1 q)) (fun q => X_le (xle_s (xle_s (xle_s (xle_n (xle_n (xle_s xle_0)))))) (k2 q))
theorem bX12_sits_58 {d : Nat} {g : xSt} {r : Option Value × xSt} {a1 a2 a5 s0 : Int32} (k : xX (d + 1) mX12_sits 71 [some (.ref 113), some (.int a1), some (.int a2), none, none, some (.int a5)] [.int s0] g = some r) : xX (d + 1) mX12_sits 58 [some (.ref 113), some (.int a1), some (.int a2), none, none, some (.int a5)] [.int s0] g = some r :=
  Y_goto 71 dX12_sits_58 rfl <| X_le (xle_s (xle_s (xle_s (xle_n (xle_n (xle_s xle_0)))))) k
theorem bX12_sits_61 {d : Nat} {g : xSt} {r : Option Value × xSt} {a1 a2 a5 s0 r65 : Int32} {g65 : xSt} (W : xWf g) (hk65 : xCallM d mX12_isHeavier [.ref 113, .int a5, .int a1] g = some (some (.int r65), g65)) (W65 : xWf g65) (k1 : r65 = 0 → xX (d + 1) mX12_sits 78 [some (.ref 113), some (.int a1), some (.int a2), none, none, some (.int a5)] [.int s0] g65 = some r) (k2 : ¬ (r65 = 0) → xX (d + 1) mX12_sits 71 [some (.ref 113), some (.int a1), some (.int a2), none, none, some (.int a5)] [.int s0] g65 = some r) : xX (d + 1) mX12_sits 61 [some (.ref 113), some (.int a1), some (.int a2), none, none, some (.int a5)] [.int s0] g = some r :=
  Y_aload_n dX12_sits_61 rfl <| Y_iload dX12_sits_62 rfl <| Y_iload_n dX12_sits_64 rfl <| Y_callV1 dX12_sits_65 cl_11_542 rfl rfl (xis W 113 11 s_113 (Nat.le_of_ble_eq_true rfl)) rfl rfl rfl (hk65) <| Y_eq0 78 dX12_sits_68 rfl (fun q => X_le (xle_s (xle_s (xle_s (xle_n (xle_n (xle_s xle_0)))))) (k1 q)) (fun q => X_le (xle_s (xle_s (xle_s (xle_n (xle_n (xle_s xle_0)))))) (k2 q))
theorem bX12_sits_71 {d : Nat} {g : xSt} {r : Option Value × xSt} {a1 a2 a5 s0 : Int32} (k : xX (d + 1) mX12_sits 79 [some (.ref 113), some (.int a1), some (.int a2), none, none, some (.int a5)] [.int (1 <<< (a5 &&& 31)), .int s0] g = some r) : xX (d + 1) mX12_sits 71 [some (.ref 113), some (.int a1), some (.int a2), none, none, some (.int a5)] [.int s0] g = some r :=
  Y_iconst 1 dX12_sits_71 ic_1 <| Y_iload dX12_sits_72 rfl <| Y_ishl dX12_sits_74 <| Y_goto 79 dX12_sits_75 rfl <| X_le (xle_s (xle_s (xle_s (xle_n (xle_n (xle_s xle_0)))))) k
theorem bX12_sits_78 {d : Nat} {g : xSt} {r : Option Value × xSt} {a1 a2 a5 s0 : Int32} (k : xX (d + 1) mX12_sits 79 [some (.ref 113), some (.int a1), some (.int a2), none, none, some (.int a5)] [.int 0, .int s0] g = some r) : xX (d + 1) mX12_sits 78 [some (.ref 113), some (.int a1), some (.int a2), none, none, some (.int a5)] [.int s0] g = some r :=
  Y_iconst 0 dX12_sits_78 ic_0 <| X_le (xle_s (xle_s (xle_s (xle_n (xle_n (xle_s xle_0)))))) k
theorem bX12_sits_79 {d : Nat} {g : xSt} {r : Option Value × xSt} {a1 a2 a5 s1 s0 : Int32} (k : xX (d + 1) mX12_sits 33 [some (.ref 113), some (.int a1), some (.int a2), none, some (.int (s1 ||| s0)), some (.int (a5 + 1))] [] g = some r) : xX (d + 1) mX12_sits 79 [some (.ref 113), some (.int a1), some (.int a2), none, none, some (.int a5)] [.int s0, .int s1] g = some r :=
  Y_ior dX12_sits_79 <| Y_istore dX12_sits_80 rfl rfl <| Y_iinc 1 dX12_sits_82 rfl ic_1 rfl rfl <| Y_goto 33 dX12_sits_85 rfl <| X_le (xle_s (xle_s (xle_s (xle_n (xle_s (xle_s xle_0)))))) k
theorem bX12_sits_88 {d : Nat} {g : xSt} {r : Option Value × xSt} {a4 : Int32} (k : r = (some (.int a4), g)) : xX (d + 1) mX12_sits 88 [none, none, none, none, some (.int a4), none] [] g = some r :=
  Y_iload dX12_sits_88 rfl <| Y_iret dX12_sits_90 rfl k
theorem bX12_twins_0 {d : Nat} {g : xSt} {r : Option Value × xSt} {a1 a2 r2 : Int32} {g2 : xSt} (W : xWf g) (hk2 : xCallM d mX12_isThing [.ref 113, .int a1] g = some (some (.int r2), g2)) (W2 : xWf g2) (k1 : r2 = 0 → xX (d + 1) mX12_twins 16 [none, none, none, none, none] [] g2 = some r) (k2 : ¬ (r2 = 0) → xX (d + 1) mX12_twins 8 [some (.ref 113), some (.int a1), some (.int a2), none, none] [] g2 = some r) : xX (d + 1) mX12_twins 0 [some (.ref 113), some (.int a1), some (.int a2), none, none] [] g = some r :=
  Y_aload_n dX12_twins_0 rfl <| Y_iload_n dX12_twins_1 rfl <| Y_callV1 dX12_twins_2 cl_11_421 rfl rfl (xis W 113 11 s_113 (Nat.le_of_ble_eq_true rfl)) rfl rfl rfl (hk2) <| Y_eq0 16 dX12_twins_5 rfl (fun q => X_le (xle_n (xle_n (xle_n (xle_n (xle_n xle_0))))) (k1 q)) (fun q => X_le (xle_s (xle_s (xle_s (xle_n (xle_n xle_0))))) (k2 q))
theorem bX12_twins_8 {d : Nat} {g : xSt} {r : Option Value × xSt} {a1 a2 r10 : Int32} {g10 : xSt} (W : xWf g) (hk10 : xCallM d mX12_hasLeft [.ref 113, .int a2] g = some (some (.int r10), g10)) (W10 : xWf g10) (k1 : r10 = 0 → xX (d + 1) mX12_twins 16 [none, none, none, none, none] [] g10 = some r) (k2 : ¬ (r10 = 0) → xX (d + 1) mX12_twins 18 [some (.ref 113), some (.int a1), none, none, none] [] g10 = some r) : xX (d + 1) mX12_twins 8 [some (.ref 113), some (.int a1), some (.int a2), none, none] [] g = some r :=
  Y_aload_n dX12_twins_8 rfl <| Y_iload_n dX12_twins_9 rfl <| Y_callV1 dX12_twins_10 cl_11_424 rfl rfl (xis W 113 11 s_113 (Nat.le_of_ble_eq_true rfl)) rfl rfl rfl (hk10) <| Y_ne0 18 dX12_twins_13 rfl (fun q => X_le (xle_n (xle_n (xle_n (xle_n (xle_n xle_0))))) (k1 q)) (fun q => X_le (xle_s (xle_s (xle_n (xle_n (xle_n xle_0))))) (k2 q))
theorem bX12_twins_16 {d : Nat} {g : xSt} {r : Option Value × xSt}  (k : r = (some (.int (-1)), g)) : xX (d + 1) mX12_twins 16 [none, none, none, none, none] [] g = some r :=
  Y_iconst (-1) dX12_twins_16 ic_m1 <| Y_iret dX12_twins_17 rfl k
theorem bX12_twins_18 {d : Nat} {g : xSt} {r : Option Value × xSt} {a1 : Int32} (k : xX (d + 1) mX12_twins 23 [some (.ref 113), some (.int a1), none, some (.int 0), some (.int 0)] [] g = some r) : xX (d + 1) mX12_twins 18 [some (.ref 113), some (.int a1), none, none, none] [] g = some r :=
  Y_iconst 0 dX12_twins_18 ic_0 <| Y_istore_n dX12_twins_19 rfl rfl <| Y_iconst 0 dX12_twins_20 ic_0 <| Y_istore dX12_twins_21 rfl rfl <| X_le (xle_s (xle_s (xle_n (xle_s (xle_s xle_0))))) k
theorem bX12_twins_23 {d : Nat} {g : xSt} {r : Option Value × xSt} {a1 a3 a4 r26 : Int32} {g26 : xSt} (W : xWf g) (hk26 : xCallM d mX12_thingMany [.ref 113] g = some (some (.int r26), g26)) (W26 : xWf g26) (k1 : r26 ≤ a4 → xX (d + 1) mX12_twins 70 [none, none, none, some (.int a3), none] [] g26 = some r) (k2 : ¬ (r26 ≤ a4) → xX (d + 1) mX12_twins 32 [some (.ref 113), some (.int a1), none, some (.int a3), some (.int a4)] [] g26 = some r) : xX (d + 1) mX12_twins 23 [some (.ref 113), some (.int a1), none, some (.int a3), some (.int a4)] [] g = some r :=
  Y_iload dX12_twins_23 rfl <| Y_aload_n dX12_twins_25 rfl <| Y_callV1 dX12_twins_26 cl_11_364 rfl rfl (xis W 113 11 s_113 (Nat.le_of_ble_eq_true rfl)) rfl rfl rfl (hk26) <| Y_ge 70 dX12_twins_29 rfl (fun q => X_le (xle_n (xle_n (xle_n (xle_s (xle_n xle_0))))) (k1 q)) (fun q => X_le (xle_s (xle_s (xle_n (xle_s (xle_s xle_0))))) (k2 q))
theorem bX12_twins_32 {d : Nat} {g : xSt} {r : Option Value × xSt} {a1 a3 a4 : Int32} (k1 : a4 = a1 → xX (d + 1) mX12_twins 61 [some (.ref 113), some (.int a1), none, none, some (.int a4)] [.int a3] g = some r) (k2 : ¬ (a4 = a1) → xX (d + 1) mX12_twins 39 [some (.ref 113), some (.int a1), none, none, some (.int a4)] [.int a3] g = some r) : xX (d + 1) mX12_twins 32 [some (.ref 113), some (.int a1), none, some (.int a3), some (.int a4)] [] g = some r :=
  Y_iload_n dX12_twins_32 rfl <| Y_iload dX12_twins_33 rfl <| Y_iload_n dX12_twins_35 rfl <| Y_eq 61 dX12_twins_36 rfl (fun q => X_le (xle_s (xle_s (xle_n (xle_n (xle_s xle_0))))) (k1 q)) (fun q => X_le (xle_s (xle_s (xle_n (xle_n (xle_s xle_0))))) (k2 q))
theorem bX12_twins_39 {d : Nat} {g : xSt} {r : Option Value × xSt} {a1 a4 s0 r44 : Int32} {g44 : xSt} (W : xWf g) (hk44 : xCallM d mX12_howMany [.ref 113, .int a1, .int a4, .int 0] g = some (some (.int r44), g44)) (W44 : xWf g44) (k1 : r44 = (xI g44 113 53) → xX (d + 1) mX12_twins 54 [some (.ref 113), some (.int a1), none, none, some (.int a4)] [.int s0] g44 = some r) (k2 : ¬ (r44 = (xI g44 113 53)) → xX (d + 1) mX12_twins 61 [some (.ref 113), some (.int a1), none, none, some (.int a4)] [.int s0] g44 = some r) : xX (d + 1) mX12_twins 39 [some (.ref 113), some (.int a1), none, none, some (.int a4)] [.int s0] g = some r :=
  Y_aload_n dX12_twins_39 rfl <| Y_iload_n dX12_twins_40 rfl <| Y_iload dX12_twins_41 rfl <| Y_iconst 0 dX12_twins_43 ic_0 <| Y_callV1 dX12_twins_44 cl_11_430 rfl rfl (xis W 113 11 s_113 (Nat.le_of_ble_eq_true rfl)) rfl rfl rfl (hk44) <| Y_aload_n dX12_twins_47 rfl <| Y_getI dX12_twins_48 f_11_408 ft_11_53 (xis W44 113 11 s_113 (Nat.le_of_ble_eq_true rfl)) <| Y_ne 61 dX12_twins_51 rfl (fun q => X_le (xle_s (xle_s (xle_n (xle_n (xle_s xle_0))))) (k1 q)) (fun q => X_le (xle_s (xle_s (xle_n (xle_n (xle_s xle_0))))) (k2 q))
theorem bX12_twins_54 {d : Nat} {g : xSt} {r : Option Value × xSt} {a1 a4 s0 : Int32} (k : xX (d + 1) mX12_twins 62 [some (.ref 113), some (.int a1), none, none, some (.int a4)] [.int (1 <<< (a4 &&& 31)), .int s0] g = some r) : xX (d + 1) mX12_twins 54 [some (.ref 113), some (.int a1), none, none, some (.int a4)] [.int s0] g = some r :=
  Y_iconst 1 dX12_twins_54 ic_1 <| Y_iload dX12_twins_55 rfl <| Y_ishl dX12_twins_57 <| Y_goto 62 dX12_twins_58 rfl <| X_le (xle_s (xle_s (xle_n (xle_n (xle_s xle_0))))) k
theorem bX12_twins_61 {d : Nat} {g : xSt} {r : Option Value × xSt} {a1 a4 s0 : Int32} (k : xX (d + 1) mX12_twins 62 [some (.ref 113), some (.int a1), none, none, some (.int a4)] [.int 0, .int s0] g = some r) : xX (d + 1) mX12_twins 61 [some (.ref 113), some (.int a1), none, none, some (.int a4)] [.int s0] g = some r :=
  Y_iconst 0 dX12_twins_61 ic_0 <| X_le (xle_s (xle_s (xle_n (xle_n (xle_s xle_0))))) k
theorem bX12_twins_62 {d : Nat} {g : xSt} {r : Option Value × xSt} {a1 a4 s1 s0 : Int32} (k : xX (d + 1) mX12_twins 23 [some (.ref 113), some (.int a1), none, some (.int (s1 ||| s0)), some (.int (a4 + 1))] [] g = some r) : xX (d + 1) mX12_twins 62 [some (.ref 113), some (.int a1), none, none, some (.int a4)] [.int s0, .int s1] g = some r :=
  Y_ior dX12_twins_62 <| Y_istore_n dX12_twins_63 rfl rfl <| Y_iinc 1 dX12_twins_64 rfl ic_1 rfl rfl <| Y_goto 23 dX12_twins_67 rfl <| X_le (xle_s (xle_s (xle_n (xle_s (xle_s xle_0))))) k
theorem bX12_twins_70 {d : Nat} {g : xSt} {r : Option Value × xSt} {a3 : Int32} (k : r = (some (.int a3), g)) : xX (d + 1) mX12_twins 70 [none, none, none, some (.int a3), none] [] g = some r :=
  Y_iload_n dX12_twins_70 rfl <| Y_iret dX12_twins_71 rfl k
theorem bX12_led_0 {d : Nat} {g : xSt} {r : Option Value × xSt} {a1 a2 a3 r2 : Int32} {g2 : xSt} (W : xWf g) (hk2 : xCallM d mX12_isThing [.ref 113, .int a1] g = some (some (.int r2), g2)) (W2 : xWf g2) (k1 : r2 = 0 → xX (d + 1) mX12_led 16 [none, none, none, none, none, none, none] [] g2 = some r) (k2 : ¬ (r2 = 0) → xX (d + 1) mX12_led 8 [some (.ref 113), some (.int a1), some (.int a2), some (.int a3), none, none, none] [] g2 = some r) : xX (d + 1) mX12_led 0 [some (.ref 113), some (.int a1), some (.int a2), some (.int a3), none, none, none] [] g = some r :=
  Y_aload_n dX12_led_0 rfl <| Y_iload_n dX12_led_1 rfl <| Y_callV1 dX12_led_2 cl_11_421 rfl rfl (xis W 113 11 s_113 (Nat.le_of_ble_eq_true rfl)) rfl rfl rfl (hk2) <| Y_eq0 16 dX12_led_5 rfl (fun q => X_le (xle_n (xle_n (xle_n (xle_n (xle_n (xle_n (xle_n xle_0))))))) (k1 q)) (fun q => X_le (xle_s (xle_s (xle_s (xle_s (xle_n (xle_n (xle_n xle_0))))))) (k2 q))
theorem bX12_led_8 {d : Nat} {g : xSt} {r : Option Value × xSt} {a1 a2 a3 r10 : Int32} {g10 : xSt} (W : xWf g) (hk10 : xCallM d mX12_isThing [.ref 113, .int a2] g = some (some (.int r10), g10)) (W10 : xWf g10) (k1 : r10 = 0 → xX (d + 1) mX12_led 16 [none, none, none, none, none, none, none] [] g10 = some r) (k2 : ¬ (r10 = 0) → xX (d + 1) mX12_led 18 [some (.ref 113), some (.int a1), some (.int a2), some (.int a3), none, none, none] [] g10 = some r) : xX (d + 1) mX12_led 8 [some (.ref 113), some (.int a1), some (.int a2), some (.int a3), none, none, none] [] g = some r :=
  Y_aload_n dX12_led_8 rfl <| Y_iload_n dX12_led_9 rfl <| Y_callV1 dX12_led_10 cl_11_421 rfl rfl (xis W 113 11 s_113 (Nat.le_of_ble_eq_true rfl)) rfl rfl rfl (hk10) <| Y_ne0 18 dX12_led_13 rfl (fun q => X_le (xle_n (xle_n (xle_n (xle_n (xle_n (xle_n (xle_n xle_0))))))) (k1 q)) (fun q => X_le (xle_s (xle_s (xle_s (xle_s (xle_n (xle_n (xle_n xle_0))))))) (k2 q))
theorem bX12_led_16 {d : Nat} {g : xSt} {r : Option Value × xSt}  (k : r = (some (.int (-1)), g)) : xX (d + 1) mX12_led 16 [none, none, none, none, none, none, none] [] g = some r :=
  Y_iconst (-1) dX12_led_16 ic_m1 <| Y_iret dX12_led_17 rfl k
theorem bX12_led_18 {d : Nat} {g : xSt} {r : Option Value × xSt} {a1 a2 a3 : Int32} (k : xX (d + 1) mX12_led 33 [some (.ref 113), none, none, some (.int a3), some (.int ((1 <<< (a1 &&& 31)) ||| (1 <<< (a2 &&& 31)))), some (.int 0), some (.int 0)] [] g = some r) : xX (d + 1) mX12_led 18 [some (.ref 113), some (.int a1), some (.int a2), some (.int a3), none, none, none] [] g = some r :=
  Y_iconst 1 dX12_led_18 ic_1 <| Y_iload_n dX12_led_19 rfl <| Y_ishl dX12_led_20 <| Y_iconst 1 dX12_led_21 ic_1 <| Y_iload_n dX12_led_22 rfl <| Y_ishl dX12_led_23 <| Y_ior dX12_led_24 <| Y_istore dX12_led_25 rfl rfl <| Y_iconst 0 dX12_led_27 ic_0 <| Y_istore dX12_led_28 rfl rfl <| Y_iconst 0 dX12_led_30 ic_0 <| Y_istore dX12_led_31 rfl rfl <| X_le (xle_s (xle_n (xle_n (xle_s (xle_s (xle_s (xle_s xle_0))))))) k
theorem bX12_led_33 {d : Nat} {g : xSt} {r : Option Value × xSt} {a3 a4 a5 a6 : Int32} (W : xWf g) (k1 : (xI g 113 44) ≤ a6 → xX (d + 1) mX12_led 100 [none, none, none, none, none, some (.int a5), none] [] g = some r) (k2 : ¬ ((xI g 113 44) ≤ a6) → xX (d + 1) mX12_led 42 [some (.ref 113), none, none, some (.int a3), some (.int a4), some (.int a5), some (.int a6)] [] g = some r) : xX (d + 1) mX12_led 33 [some (.ref 113), none, none, some (.int a3), some (.int a4), some (.int a5), some (.int a6)] [] g = some r :=
  Y_iload dX12_led_33 rfl <| Y_aload_n dX12_led_35 rfl <| Y_getI dX12_led_36 f_11_304 ft_11_44 (xis W 113 11 s_113 (Nat.le_of_ble_eq_true rfl)) <| Y_ge 100 dX12_led_39 rfl (fun q => X_le (xle_n (xle_n (xle_n (xle_n (xle_n (xle_s (xle_n xle_0))))))) (k1 q)) (fun q => X_le (xle_s (xle_n (xle_n (xle_s (xle_s (xle_s (xle_s xle_0))))))) (k2 q))
theorem bX12_led_42 {d : Nat} {g : xSt} {r : Option Value × xSt} {a3 a4 a5 a6 r48 : Int32} {g48 : xSt} (W : xWf g) (hk48 : xCallM d mX12_counts [.ref 113, .int a6, .int a3] g = some (some (.int r48), g48)) (W48 : xWf g48) (k1 : r48 = 0 → xX (d + 1) mX12_led 90 [some (.ref 113), none, none, some (.int a3), some (.int a4), none, some (.int a6)] [.int a5] g48 = some r) (k2 : ¬ (r48 = 0) → xX (d + 1) mX12_led 54 [some (.ref 113), none, none, some (.int a3), some (.int a4), none, some (.int a6)] [.int a5] g48 = some r) : xX (d + 1) mX12_led 42 [some (.ref 113), none, none, some (.int a3), some (.int a4), some (.int a5), some (.int a6)] [] g = some r :=
  Y_iload dX12_led_42 rfl <| Y_aload_n dX12_led_44 rfl <| Y_iload dX12_led_45 rfl <| Y_iload_n dX12_led_47 rfl <| Y_callV1 dX12_led_48 cl_11_395 rfl rfl (xis W 113 11 s_113 (Nat.le_of_ble_eq_true rfl)) rfl rfl rfl (hk48) <| Y_eq0 90 dX12_led_51 rfl (fun q => X_le (xle_s (xle_n (xle_n (xle_s (xle_s (xle_n (xle_s xle_0))))))) (k1 q)) (fun q => X_le (xle_s (xle_n (xle_n (xle_s (xle_s (xle_n (xle_s xle_0))))))) (k2 q))
theorem bX12_led_54 {d : Nat} {g : xSt} {r : Option Value × xSt} {a3 a4 a6 s0 r57 : Int32} {g57 : xSt} (W : xWf g) (hk57 : xCallM d mX12_isSingle [.ref 113, .int a6] g = some (some (.int r57), g57)) (W57 : xWf g57) (k1 : r57 = 0 → xX (d + 1) mX12_led 90 [some (.ref 113), none, none, some (.int a3), some (.int a4), none, some (.int a6)] [.int s0] g57 = some r) (k2 : ¬ (r57 = 0) → xX (d + 1) mX12_led 63 [some (.ref 113), none, none, some (.int a3), some (.int a4), none, some (.int a6)] [.int s0] g57 = some r) : xX (d + 1) mX12_led 54 [some (.ref 113), none, none, some (.int a3), some (.int a4), none, some (.int a6)] [.int s0] g = some r :=
  Y_aload_n dX12_led_54 rfl <| Y_iload dX12_led_55 rfl <| Y_callV1 dX12_led_57 cl_11_398 rfl rfl (xis W 113 11 s_113 (Nat.le_of_ble_eq_true rfl)) rfl rfl rfl (hk57) <| Y_eq0 90 dX12_led_60 rfl (fun q => X_le (xle_s (xle_n (xle_n (xle_s (xle_s (xle_n (xle_s xle_0))))))) (k1 q)) (fun q => X_le (xle_s (xle_n (xle_n (xle_s (xle_s (xle_n (xle_s xle_0))))))) (k2 q))
theorem bX12_led_63 {d : Nat} {g : xSt} {r : Option Value × xSt} {a3 a4 a6 s0 : Int32} (W : xWf g) (hi69 : vp_in a6 60) (hi76 : vp_in a6 60) (k1 : (((xI g 136 a6.toNatClampNeg) ||| (xI g 137 a6.toNatClampNeg)) &&& a4) = a4 → xX (d + 1) mX12_led 86 [some (.ref 113), none, none, some (.int a3), some (.int a4), none, some (.int a6)] [.int s0] g = some r) (k2 : ¬ ((((xI g 136 a6.toNatClampNeg) ||| (xI g 137 a6.toNatClampNeg)) &&& a4) = a4) → xX (d + 1) mX12_led 90 [some (.ref 113), none, none, some (.int a3), some (.int a4), none, some (.int a6)] [.int s0] g = some r) : xX (d + 1) mX12_led 63 [some (.ref 113), none, none, some (.int a3), some (.int a4), none, some (.int a6)] [.int s0] g = some r :=
  Y_aload_n dX12_led_63 rfl <| Y_getR dX12_led_64 f_11_83 (by rw [ft_11_35]; rfl) (xis W 113 11 s_113 (Nat.le_of_ble_eq_true rfl)) (xptr W 113 35 p_113_35) <| Y_iload dX12_led_67 rfl <| Y_iald dX12_led_69 (xarr W (o := 136) s_136 (Nat.le_of_ble_eq_true rfl)) hi69 <| Y_aload_n dX12_led_70 rfl <| Y_getR dX12_led_71 f_11_86 (by rw [ft_11_36]; rfl) (xis W 113 11 s_113 (Nat.le_of_ble_eq_true rfl)) (xptr W 113 36 p_113_36) <| Y_iload dX12_led_74 rfl <| Y_iald dX12_led_76 (xarr W (o := 137) s_137 (Nat.le_of_ble_eq_true rfl)) hi76 <| Y_ior dX12_led_77 <| Y_iload dX12_led_78 rfl <| Y_iand dX12_led_80 <| Y_iload dX12_led_81 rfl <| Y_ne 90 dX12_led_83 rfl (fun q => X_le (xle_s (xle_n (xle_n (xle_s (xle_s (xle_n (xle_s xle_0))))))) (k1 q)) (fun q => X_le (xle_s (xle_n (xle_n (xle_s (xle_s (xle_n (xle_s xle_0))))))) (k2 q))
theorem bX12_led_86 {d : Nat} {g : xSt} {r : Option Value × xSt} {a3 a4 a6 s0 : Int32} (k : xX (d + 1) mX12_led 91 [some (.ref 113), none, none, some (.int a3), some (.int a4), none, some (.int a6)] [.int 1, .int s0] g = some r) : xX (d + 1) mX12_led 86 [some (.ref 113), none, none, some (.int a3), some (.int a4), none, some (.int a6)] [.int s0] g = some r :=
  Y_iconst 1 dX12_led_86 ic_1 <| Y_goto 91 dX12_led_87 rfl <| X_le (xle_s (xle_n (xle_n (xle_s (xle_s (xle_n (xle_s xle_0))))))) k
theorem bX12_led_90 {d : Nat} {g : xSt} {r : Option Value × xSt} {a3 a4 a6 s0 : Int32} (k : xX (d + 1) mX12_led 91 [some (.ref 113), none, none, some (.int a3), some (.int a4), none, some (.int a6)] [.int 0, .int s0] g = some r) : xX (d + 1) mX12_led 90 [some (.ref 113), none, none, some (.int a3), some (.int a4), none, some (.int a6)] [.int s0] g = some r :=
  Y_iconst 0 dX12_led_90 ic_0 <| X_le (xle_s (xle_n (xle_n (xle_s (xle_s (xle_n (xle_s xle_0))))))) k
theorem bX12_led_91 {d : Nat} {g : xSt} {r : Option Value × xSt} {a3 a4 a6 s1 s0 : Int32} (k : xX (d + 1) mX12_led 33 [some (.ref 113), none, none, some (.int a3), some (.int a4), some (.int (s1 + s0)), some (.int (a6 + 1))] [] g = some r) : xX (d + 1) mX12_led 91 [some (.ref 113), none, none, some (.int a3), some (.int a4), none, some (.int a6)] [.int s0, .int s1] g = some r :=
  Y_iadd dX12_led_91 <| Y_istore dX12_led_92 rfl rfl <| Y_iinc 1 dX12_led_94 rfl ic_1 rfl rfl <| Y_goto 33 dX12_led_97 rfl <| X_le (xle_s (xle_n (xle_n (xle_s (xle_s (xle_s (xle_s xle_0))))))) k
theorem bX12_led_100 {d : Nat} {g : xSt} {r : Option Value × xSt} {a5 : Int32} (k : r = (some (.int a5), g)) : xX (d + 1) mX12_led 100 [none, none, none, none, none, some (.int a5), none] [] g = some r :=
  Y_iload dX12_led_100 rfl <| Y_iret dX12_led_102 rfl k
theorem bX12_doubts_0 {d : Nat} {g : xSt} {r : Option Value × xSt} {a1 : Int32} (k : xX (d + 1) mX12_doubts 4 [some (.ref 113), some (.int a1), some (.int 0), some (.int 0), none] [] g = some r) : xX (d + 1) mX12_doubts 0 [some (.ref 113), some (.int a1), none, none, none] [] g = some r :=
  Y_iconst 0 dX12_doubts_0 ic_0 <| Y_istore_n dX12_doubts_1 rfl rfl <| Y_iconst 0 dX12_doubts_2 ic_0 <| Y_istore_n dX12_doubts_3 rfl rfl <| X_le (xle_s (xle_s (xle_s (xle_s (xle_n xle_0))))) k
theorem bX12_doubts_4 {d : Nat} {g : xSt} {r : Option Value × xSt} {a1 a2 a3 : Int32} (W : xWf g) (k1 : (xI g 113 44) ≤ a3 → xX (d + 1) mX12_doubts 93 [none, none, some (.int a2), none, none] [] g = some r) (k2 : ¬ ((xI g 113 44) ≤ a3) → xX (d + 1) mX12_doubts 12 [some (.ref 113), some (.int a1), some (.int a2), some (.int a3), none] [] g = some r) : xX (d + 1) mX12_doubts 4 [some (.ref 113), some (.int a1), some (.int a2), some (.int a3), none] [] g = some r :=
  Y_iload_n dX12_doubts_4 rfl <| Y_aload_n dX12_doubts_5 rfl <| Y_getI dX12_doubts_6 f_11_304 ft_11_44 (xis W 113 11 s_113 (Nat.le_of_ble_eq_true rfl)) <| Y_ge 93 dX12_doubts_9 rfl (fun q => X_le (xle_n (xle_n (xle_s (xle_n (xle_n xle_0))))) (k1 q)) (fun q => X_le (xle_s (xle_s (xle_s (xle_s (xle_n xle_0))))) (k2 q))
theorem bX12_doubts_12 {d : Nat} {g : xSt} {r : Option Value × xSt} {a1 a2 a3 r15 : Int32} {g15 : xSt} (W : xWf g) (hk15 : xCallM d mX12_counts [.ref 113, .int a3, .int a1] g = some (some (.int r15), g15)) (W15 : xWf g15) (k1 : r15 = 0 → xX (d + 1) mX12_doubts 87 [some (.ref 113), some (.int a1), some (.int a2), some (.int a3), none] [] g15 = some r) (k2 : ¬ (r15 = 0) → xX (d + 1) mX12_doubts 21 [some (.ref 113), some (.int a1), some (.int a2), some (.int a3), none] [] g15 = some r) : xX (d + 1) mX12_doubts 12 [some (.ref 113), some (.int a1), some (.int a2), some (.int a3), none] [] g = some r :=
  Y_aload_n dX12_doubts_12 rfl <| Y_iload_n dX12_doubts_13 rfl <| Y_iload_n dX12_doubts_14 rfl <| Y_callV1 dX12_doubts_15 cl_11_395 rfl rfl (xis W 113 11 s_113 (Nat.le_of_ble_eq_true rfl)) rfl rfl rfl (hk15) <| Y_eq0 87 dX12_doubts_18 rfl (fun q => X_le (xle_s (xle_s (xle_s (xle_s (xle_n xle_0))))) (k1 q)) (fun q => X_le (xle_s (xle_s (xle_s (xle_s (xle_n xle_0))))) (k2 q))
theorem bX12_doubts_21 {d : Nat} {g : xSt} {r : Option Value × xSt} {a1 a2 a3 r23 : Int32} {g23 : xSt} (W : xWf g) (hk23 : xCallM d mX12_isSingle [.ref 113, .int a3] g = some (some (.int r23), g23)) (W23 : xWf g23) (k1 : r23 = 0 → xX (d + 1) mX12_doubts 29 [some (.ref 113), some (.int a1), some (.int a2), some (.int a3), none] [] g23 = some r) (k2 : ¬ (r23 = 0) → xX (d + 1) mX12_doubts 32 [some (.ref 113), some (.int a1), some (.int a2), some (.int a3), none] [] g23 = some r) : xX (d + 1) mX12_doubts 21 [some (.ref 113), some (.int a1), some (.int a2), some (.int a3), none] [] g = some r :=
  Y_aload_n dX12_doubts_21 rfl <| Y_iload_n dX12_doubts_22 rfl <| Y_callV1 dX12_doubts_23 cl_11_398 rfl rfl (xis W 113 11 s_113 (Nat.le_of_ble_eq_true rfl)) rfl rfl rfl (hk23) <| Y_ne0 32 dX12_doubts_26 rfl (fun q => X_le (xle_s (xle_s (xle_s (xle_s (xle_n xle_0))))) (k1 q)) (fun q => X_le (xle_s (xle_s (xle_s (xle_s (xle_n xle_0))))) (k2 q))
theorem bX12_doubts_29 {d : Nat} {g : xSt} {r : Option Value × xSt} {a1 a2 a3 : Int32} (k : xX (d + 1) mX12_doubts 87 [some (.ref 113), some (.int a1), some (.int a2), some (.int a3), none] [] g = some r) : xX (d + 1) mX12_doubts 29 [some (.ref 113), some (.int a1), some (.int a2), some (.int a3), none] [] g = some r :=
  Y_goto 87 dX12_doubts_29 rfl <| X_le (xle_s (xle_s (xle_s (xle_s (xle_n xle_0))))) k
theorem bX12_doubts_32 {d : Nat} {g : xSt} {r : Option Value × xSt} {a1 a2 a3 r39 r42 r52 r55 : Int32} {g39 g42 g52 g55 : xSt} (W : xWf g) (hi38 : vp_in a3 60) (hk39 : xCallM d mX12_lowest [.int (xI g 136 a3.toNatClampNeg)] g = some (some (.int r39), g39)) (W39 : xWf g39) (hk42 : xCallM d mX12_placeInRow [.ref 113, .int r39] g39 = some (some (.int r42), g42)) (W42 : xWf g42) (hi51 : vp_in a3 60) (hk52 : xCallM d mX12_lowest [.int (xI g42 137 a3.toNatClampNeg)] g42 = some (some (.int r52), g52)) (W52 : xWf g52) (hk55 : xCallM d mX12_placeInRow [.ref 113, .int r52] g52 = some (some (.int r55), g55)) (W55 : xWf g55) (k1 : r55 ≤ r42 → xX (d + 1) mX12_doubts 65 [some (.ref 113), some (.int a1), some (.int a2), some (.int a3), none] [] g55 = some r) (k2 : ¬ (r55 ≤ r42) → xX (d + 1) mX12_doubts 61 [some (.ref 113), some (.int a1), some (.int a2), some (.int a3), none] [] g55 = some r) : xX (d + 1) mX12_doubts 32 [some (.ref 113), some (.int a1), some (.int a2), some (.int a3), none] [] g = some r :=
  Y_aload_n dX12_doubts_32 rfl <| Y_aload_n dX12_doubts_33 rfl <| Y_getR dX12_doubts_34 f_11_83 (by rw [ft_11_35]; rfl) (xis W 113 11 s_113 (Nat.le_of_ble_eq_true rfl)) (xptr W 113 35 p_113_35) <| Y_iload_n dX12_doubts_37 rfl <| Y_iald dX12_doubts_38 (xarr W (o := 136) s_136 (Nat.le_of_ble_eq_true rfl)) hi38 <| Y_callS1 dX12_doubts_39 cl_11_401 rfl rfl rfl rfl rfl (hk39) <| Y_callV1 dX12_doubts_42 cl_11_548 rfl rfl (xis W39 113 11 s_113 (Nat.le_of_ble_eq_true rfl)) rfl rfl rfl (hk42) <| Y_aload_n dX12_doubts_45 rfl <| Y_aload_n dX12_doubts_46 rfl <| Y_getR dX12_doubts_47 f_11_86 (by rw [ft_11_36]; rfl) (xis W42 113 11 s_113 (Nat.le_of_ble_eq_true rfl)) (xptr W42 113 36 p_113_36) <| Y_iload_n dX12_doubts_50 rfl <| Y_iald dX12_doubts_51 (xarr W42 (o := 137) s_137 (Nat.le_of_ble_eq_true rfl)) hi51 <| Y_callS1 dX12_doubts_52 cl_11_401 rfl rfl rfl rfl rfl (hk52) <| Y_callV1 dX12_doubts_55 cl_11_548 rfl rfl (xis W52 113 11 s_113 (Nat.le_of_ble_eq_true rfl)) rfl rfl rfl (hk55) <| Y_ge 65 dX12_doubts_58 rfl (fun q => X_le (xle_s (xle_s (xle_s (xle_s (xle_n xle_0))))) (k1 q)) (fun q => X_le (xle_s (xle_s (xle_s (xle_s (xle_n xle_0))))) (k2 q))
theorem bX12_doubts_61 {d : Nat} {g : xSt} {r : Option Value × xSt} {a1 a2 a3 : Int32} (k : xX (d + 1) mX12_doubts 66 [some (.ref 113), some (.int a1), some (.int a2), some (.int a3), none] [.int 1] g = some r) : xX (d + 1) mX12_doubts 61 [some (.ref 113), some (.int a1), some (.int a2), some (.int a3), none] [] g = some r :=
  Y_iconst 1 dX12_doubts_61 ic_1 <| Y_goto 66 dX12_doubts_62 rfl <| X_le (xle_s (xle_s (xle_s (xle_s (xle_n xle_0))))) k
theorem bX12_doubts_65 {d : Nat} {g : xSt} {r : Option Value × xSt} {a1 a2 a3 : Int32} (k : xX (d + 1) mX12_doubts 66 [some (.ref 113), some (.int a1), some (.int a2), some (.int a3), none] [.int 2] g = some r) : xX (d + 1) mX12_doubts 65 [some (.ref 113), some (.int a1), some (.int a2), some (.int a3), none] [] g = some r :=
  Y_iconst 2 dX12_doubts_65 ic_2 <| X_le (xle_s (xle_s (xle_s (xle_s (xle_n xle_0))))) k
theorem bX12_doubts_66 {d : Nat} {g : xSt} {r : Option Value × xSt} {a1 a2 a3 s0 : Int32} (W : xWf g) (hi76 : vp_in a3 60) (k1 : s0 = (xI g 138 a3.toNatClampNeg) → xX (d + 1) mX12_doubts 80 [some (.ref 113), some (.int a1), none, some (.int a3), none] [.int a2] g = some r) (k2 : ¬ (s0 = (xI g 138 a3.toNatClampNeg)) → xX (d + 1) mX12_doubts 84 [some (.ref 113), some (.int a1), none, some (.int a3), none] [.int a2] g = some r) : xX (d + 1) mX12_doubts 66 [some (.ref 113), some (.int a1), some (.int a2), some (.int a3), none] [.int s0] g = some r :=
  Y_istore dX12_doubts_66 rfl rfl <| Y_iload_n dX12_doubts_68 rfl <| Y_iload dX12_doubts_69 rfl <| Y_aload_n dX12_doubts_71 rfl <| Y_getR dX12_doubts_72 f_11_89 (by rw [ft_11_37]; rfl) (xis W 113 11 s_113 (Nat.le_of_ble_eq_true rfl)) (xptr W 113 37 p_113_37) <| Y_iload_n dX12_doubts_75 rfl <| Y_iald dX12_doubts_76 (xarr W (o := 138) s_138 (Nat.le_of_ble_eq_true rfl)) hi76 <| Y_ne 84 dX12_doubts_77 rfl (fun q => X_le (xle_s (xle_s (xle_n (xle_s (xle_n xle_0))))) (k1 q)) (fun q => X_le (xle_s (xle_s (xle_n (xle_s (xle_n xle_0))))) (k2 q))
theorem bX12_doubts_80 {d : Nat} {g : xSt} {r : Option Value × xSt} {a1 a3 s0 : Int32} (k : xX (d + 1) mX12_doubts 85 [some (.ref 113), some (.int a1), none, some (.int a3), none] [.int 0, .int s0] g = some r) : xX (d + 1) mX12_doubts 80 [some (.ref 113), some (.int a1), none, some (.int a3), none] [.int s0] g = some r :=
  Y_iconst 0 dX12_doubts_80 ic_0 <| Y_goto 85 dX12_doubts_81 rfl <| X_le (xle_s (xle_s (xle_n (xle_s (xle_n xle_0))))) k
theorem bX12_doubts_84 {d : Nat} {g : xSt} {r : Option Value × xSt} {a1 a3 s0 : Int32} (k : xX (d + 1) mX12_doubts 85 [some (.ref 113), some (.int a1), none, some (.int a3), none] [.int 1, .int s0] g = some r) : xX (d + 1) mX12_doubts 84 [some (.ref 113), some (.int a1), none, some (.int a3), none] [.int s0] g = some r :=
  Y_iconst 1 dX12_doubts_84 ic_1 <| X_le (xle_s (xle_s (xle_n (xle_s (xle_n xle_0))))) k
theorem bX12_doubts_85 {d : Nat} {g : xSt} {r : Option Value × xSt} {a1 a3 s1 s0 : Int32} (k : xX (d + 1) mX12_doubts 87 [some (.ref 113), some (.int a1), some (.int (s1 + s0)), some (.int a3), none] [] g = some r) : xX (d + 1) mX12_doubts 85 [some (.ref 113), some (.int a1), none, some (.int a3), none] [.int s0, .int s1] g = some r :=
  Y_iadd dX12_doubts_85 <| Y_istore_n dX12_doubts_86 rfl rfl <| X_le (xle_s (xle_s (xle_s (xle_s (xle_n xle_0))))) k
theorem bX12_doubts_87 {d : Nat} {g : xSt} {r : Option Value × xSt} {a1 a2 a3 : Int32} (k : xX (d + 1) mX12_doubts 4 [some (.ref 113), some (.int a1), some (.int a2), some (.int (a3 + 1)), none] [] g = some r) : xX (d + 1) mX12_doubts 87 [some (.ref 113), some (.int a1), some (.int a2), some (.int a3), none] [] g = some r :=
  Y_iinc 1 dX12_doubts_87 rfl ic_1 rfl rfl <| Y_goto 4 dX12_doubts_90 rfl <| X_le (xle_s (xle_s (xle_s (xle_s (xle_n xle_0))))) k
theorem bX12_doubts_93 {d : Nat} {g : xSt} {r : Option Value × xSt} {a2 : Int32} (k : r = (some (.int a2), g)) : xX (d + 1) mX12_doubts 93 [none, none, some (.int a2), none, none] [] g = some r :=
  Y_iload_n dX12_doubts_93 rfl <| Y_iret dX12_doubts_94 rfl k
theorem bX12_placeInRow_0 {d : Nat} {g : xSt} {r : Option Value × xSt} {a1 : Int32} (k : xX d mX12_placeInRow 2 [some (.ref 113), some (.int a1), some (.int 0)] [] g = some r) : xX d mX12_placeInRow 0 [some (.ref 113), some (.int a1), none] [] g = some r :=
  Y_iconst 0 dX12_placeInRow_0 ic_0 <| Y_istore_n dX12_placeInRow_1 rfl rfl <| X_le (xle_s (xle_s (xle_s xle_0))) k
theorem bX12_placeInRow_2 {d : Nat} {g : xSt} {r : Option Value × xSt} {a1 a2 : Int32} (W : xWf g) (hi14 : vp_in ((5 * (xI g 113 30)) + a2) 10) (k1 : (xI g 119 ((5 * (xI g 113 30)) + a2).toNatClampNeg) = a1 → xX d mX12_placeInRow 25 [none, none, some (.int a2)] [] g = some r) (k2 : ¬ ((xI g 119 ((5 * (xI g 113 30)) + a2).toNatClampNeg) = a1) → xX d mX12_placeInRow 19 [some (.ref 113), some (.int a1), some (.int a2)] [] g = some r) : xX d mX12_placeInRow 2 [some (.ref 113), some (.int a1), some (.int a2)] [] g = some r :=
  Y_aload_n dX12_placeInRow_2 rfl <| Y_getR dX12_placeInRow_3 f_11_30 (by rw [ft_11_14]; rfl) (xis W 113 11 s_113 (Nat.le_of_ble_eq_true rfl)) (xptr W 113 14 p_113_14) <| Y_iconst 5 dX12_placeInRow_6 ic_5 <| Y_aload_n dX12_placeInRow_7 rfl <| Y_getI dX12_placeInRow_8 f_11_295 ft_11_30 (xis W 113 11 s_113 (Nat.le_of_ble_eq_true rfl)) <| Y_imul dX12_placeInRow_11 <| Y_iload_n dX12_placeInRow_12 rfl <| Y_iadd dX12_placeInRow_13 <| Y_iald dX12_placeInRow_14 (xarr W (o := 119) s_119 (Nat.le_of_ble_eq_true rfl)) hi14 <| Y_iload_n dX12_placeInRow_15 rfl <| Y_eq 25 dX12_placeInRow_16 rfl (fun q => X_le (xle_n (xle_n (xle_s xle_0))) (k1 q)) (fun q => X_le (xle_s (xle_s (xle_s xle_0))) (k2 q))
theorem bX12_placeInRow_19 {d : Nat} {g : xSt} {r : Option Value × xSt} {a1 a2 : Int32} (k : xX d mX12_placeInRow 2 [some (.ref 113), some (.int a1), some (.int (a2 + 1))] [] g = some r) : xX d mX12_placeInRow 19 [some (.ref 113), some (.int a1), some (.int a2)] [] g = some r :=
  Y_iinc 1 dX12_placeInRow_19 rfl ic_1 rfl rfl <| Y_goto 2 dX12_placeInRow_22 rfl <| X_le (xle_s (xle_s (xle_s xle_0))) k
theorem bX12_placeInRow_25 {d : Nat} {g : xSt} {r : Option Value × xSt} {a2 : Int32} (k : r = (some (.int a2), g)) : xX d mX12_placeInRow 25 [none, none, some (.int a2)] [] g = some r :=
  Y_iload_n dX12_placeInRow_25 rfl <| Y_iret dX12_placeInRow_26 rfl k
theorem bX12_ladder_0 {d : Nat} {g : xSt} {r : Option Value × xSt} {a1 a2 r2 : Int32} {g2 : xSt} (W : xWf g) (hk2 : xCallM d mX12_hasLeft [.ref 113, .int a2] g = some (some (.int r2), g2)) (W2 : xWf g2) (k1 : r2 = 0 → xX (d + 1) mX12_ladder 8 [none, none, none, none, none] [] g2 = some r) (k2 : ¬ (r2 = 0) → xX (d + 1) mX12_ladder 10 [some (.ref 113), some (.int a1), none, none, none] [] g2 = some r) : xX (d + 1) mX12_ladder 0 [some (.ref 113), some (.int a1), some (.int a2), none, none] [] g = some r :=
  Y_aload_n dX12_ladder_0 rfl <| Y_iload_n dX12_ladder_1 rfl <| Y_callV1 dX12_ladder_2 cl_11_424 rfl rfl (xis W 113 11 s_113 (Nat.le_of_ble_eq_true rfl)) rfl rfl rfl (hk2) <| Y_ne0 10 dX12_ladder_5 rfl (fun q => X_le (xle_n (xle_n (xle_n (xle_n (xle_n xle_0))))) (k1 q)) (fun q => X_le (xle_s (xle_s (xle_n (xle_n (xle_n xle_0))))) (k2 q))
theorem bX12_ladder_8 {d : Nat} {g : xSt} {r : Option Value × xSt}  (k : r = (some (.int (-1)), g)) : xX (d + 1) mX12_ladder 8 [none, none, none, none, none] [] g = some r :=
  Y_iconst (-1) dX12_ladder_8 ic_m1 <| Y_iret dX12_ladder_9 rfl k
theorem bX12_ladder_10 {d : Nat} {g : xSt} {r : Option Value × xSt} {a1 : Int32} (k : xX (d + 1) mX12_ladder 15 [some (.ref 113), some (.int a1), none, some (.int 0), some (.int 1)] [] g = some r) : xX (d + 1) mX12_ladder 10 [some (.ref 113), some (.int a1), none, none, none] [] g = some r :=
  Y_iconst 0 dX12_ladder_10 ic_0 <| Y_istore_n dX12_ladder_11 rfl rfl <| Y_iconst 1 dX12_ladder_12 ic_1 <| Y_istore dX12_ladder_13 rfl rfl <| X_le (xle_s (xle_s (xle_n (xle_s (xle_s xle_0))))) k
theorem bX12_ladder_15 {d : Nat} {g : xSt} {r : Option Value × xSt} {a1 a3 a4 r19 : Int32} {g19 : xSt} (W : xWf g) (hk19 : xCallM d mX12_thingMany [.ref 113] g = some (some (.int r19), g19)) (W19 : xWf g19) (k1 : (1 <<< (r19 &&& 31)) ≤ a4 → xX (d + 1) mX12_ladder 57 [none, none, none, some (.int a3), none] [] g19 = some r) (k2 : ¬ ((1 <<< (r19 &&& 31)) ≤ a4) → xX (d + 1) mX12_ladder 26 [some (.ref 113), some (.int a1), none, some (.int a3), some (.int a4)] [] g19 = some r) : xX (d + 1) mX12_ladder 15 [some (.ref 113), some (.int a1), none, some (.int a3), some (.int a4)] [] g = some r :=
  Y_iload dX12_ladder_15 rfl <| Y_iconst 1 dX12_ladder_17 ic_1 <| Y_aload_n dX12_ladder_18 rfl <| Y_callV1 dX12_ladder_19 cl_11_364 rfl rfl (xis W 113 11 s_113 (Nat.le_of_ble_eq_true rfl)) rfl rfl rfl (hk19) <| Y_ishl dX12_ladder_22 <| Y_ge 57 dX12_ladder_23 rfl (fun q => X_le (xle_n (xle_n (xle_n (xle_s (xle_n xle_0))))) (k1 q)) (fun q => X_le (xle_s (xle_s (xle_n (xle_s (xle_s xle_0))))) (k2 q))
theorem bX12_ladder_26 {d : Nat} {g : xSt} {r : Option Value × xSt} {a1 a3 a4 r28 r32 : Int32} {g28 g32 : xSt} (hk28 : xCallM d mX12_bitsOf [.int a4] g = some (some (.int r28), g28)) (W28 : xWf g28) (hk32 : xCallM d mX12_bitsOf [.int a3] g28 = some (some (.int r32), g32)) (W32 : xWf g32) (k1 : r28 ≤ r32 → xX (d + 1) mX12_ladder 51 [some (.ref 113), some (.int a1), none, some (.int a3), some (.int a4)] [] g32 = some r) (k2 : ¬ (r28 ≤ r32) → xX (d + 1) mX12_ladder 38 [some (.ref 113), some (.int a1), none, some (.int a3), some (.int a4)] [] g32 = some r) : xX (d + 1) mX12_ladder 26 [some (.ref 113), some (.int a1), none, some (.int a3), some (.int a4)] [] g = some r :=
  Y_iload dX12_ladder_26 rfl <| Y_callS1 dX12_ladder_28 cl_11_392 rfl rfl rfl rfl rfl (hk28) <| Y_iload_n dX12_ladder_31 rfl <| Y_callS1 dX12_ladder_32 cl_11_392 rfl rfl rfl rfl rfl (hk32) <| Y_le 51 dX12_ladder_35 rfl (fun q => X_le (xle_s (xle_s (xle_n (xle_s (xle_s xle_0))))) (k1 q)) (fun q => X_le (xle_s (xle_s (xle_n (xle_s (xle_s xle_0))))) (k2 q))
theorem bX12_ladder_38 {d : Nat} {g : xSt} {r : Option Value × xSt} {a1 a3 a4 r42 : Int32} {g42 : xSt} (W : xWf g) (hk42 : xCallM d mX12_isLadder [.ref 113, .int a4, .int a1] g = some (some (.int r42), g42)) (W42 : xWf g42) (k1 : r42 = 0 → xX (d + 1) mX12_ladder 51 [some (.ref 113), some (.int a1), none, some (.int a3), some (.int a4)] [] g42 = some r) (k2 : ¬ (r42 = 0) → xX (d + 1) mX12_ladder 48 [some (.ref 113), some (.int a1), none, none, some (.int a4)] [] g42 = some r) : xX (d + 1) mX12_ladder 38 [some (.ref 113), some (.int a1), none, some (.int a3), some (.int a4)] [] g = some r :=
  Y_aload_n dX12_ladder_38 rfl <| Y_iload dX12_ladder_39 rfl <| Y_iload_n dX12_ladder_41 rfl <| Y_callV1 dX12_ladder_42 cl_11_551 rfl rfl (xis W 113 11 s_113 (Nat.le_of_ble_eq_true rfl)) rfl rfl rfl (hk42) <| Y_eq0 51 dX12_ladder_45 rfl (fun q => X_le (xle_s (xle_s (xle_n (xle_s (xle_s xle_0))))) (k1 q)) (fun q => X_le (xle_s (xle_s (xle_n (xle_n (xle_s xle_0))))) (k2 q))
theorem bX12_ladder_48 {d : Nat} {g : xSt} {r : Option Value × xSt} {a1 a4 : Int32} (k : xX (d + 1) mX12_ladder 51 [some (.ref 113), some (.int a1), none, some (.int a4), some (.int a4)] [] g = some r) : xX (d + 1) mX12_ladder 48 [some (.ref 113), some (.int a1), none, none, some (.int a4)] [] g = some r :=
  Y_iload dX12_ladder_48 rfl <| Y_istore_n dX12_ladder_50 rfl rfl <| X_le (xle_s (xle_s (xle_n (xle_s (xle_s xle_0))))) k
theorem bX12_ladder_51 {d : Nat} {g : xSt} {r : Option Value × xSt} {a1 a3 a4 : Int32} (k : xX (d + 1) mX12_ladder 15 [some (.ref 113), some (.int a1), none, some (.int a3), some (.int (a4 + 1))] [] g = some r) : xX (d + 1) mX12_ladder 51 [some (.ref 113), some (.int a1), none, some (.int a3), some (.int a4)] [] g = some r :=
  Y_iinc 1 dX12_ladder_51 rfl ic_1 rfl rfl <| Y_goto 15 dX12_ladder_54 rfl <| X_le (xle_s (xle_s (xle_n (xle_s (xle_s xle_0))))) k
theorem bX12_ladder_57 {d : Nat} {g : xSt} {r : Option Value × xSt} {a3 : Int32} (k : r = (some (.int a3), g)) : xX (d + 1) mX12_ladder 57 [none, none, none, some (.int a3), none] [] g = some r :=
  Y_iload_n dX12_ladder_57 rfl <| Y_iret dX12_ladder_58 rfl k
theorem bX12_isLadder_0 {d : Nat} {g : xSt} {r : Option Value × xSt} {a1 a2 : Int32} (k : xX (d + 1) mX12_isLadder 2 [some (.ref 113), some (.int a1), some (.int a2), some (.int 0), none, none] [] g = some r) : xX (d + 1) mX12_isLadder 0 [some (.ref 113), some (.int a1), some (.int a2), none, none, none] [] g = some r :=
  Y_iconst 0 dX12_isLadder_0 ic_0 <| Y_istore_n dX12_isLadder_1 rfl rfl <| X_le (xle_s (xle_s (xle_s (xle_s (xle_n (xle_n xle_0)))))) k
theorem bX12_isLadder_2 {d : Nat} {g : xSt} {r : Option Value × xSt} {a1 a2 a3 r4 : Int32} {g4 : xSt} (W : xWf g) (hk4 : xCallM d mX12_thingMany [.ref 113] g = some (some (.int r4), g4)) (W4 : xWf g4) (k1 : r4 ≤ a3 → xX (d + 1) mX12_isLadder 80 [none, none, none, none, none, none] [] g4 = some r) (k2 : ¬ (r4 ≤ a3) → xX (d + 1) mX12_isLadder 10 [some (.ref 113), some (.int a1), some (.int a2), some (.int a3), none, none] [] g4 = some r) : xX (d + 1) mX12_isLadder 2 [some (.ref 113), some (.int a1), some (.int a2), some (.int a3), none, none] [] g = some r :=
  Y_iload_n dX12_isLadder_2 rfl <| Y_aload_n dX12_isLadder_3 rfl <| Y_callV1 dX12_isLadder_4 cl_11_364 rfl rfl (xis W 113 11 s_113 (Nat.le_of_ble_eq_true rfl)) rfl rfl rfl (hk4) <| Y_ge 80 dX12_isLadder_7 rfl (fun q => X_le (xle_n (xle_n (xle_n (xle_n (xle_n (xle_n xle_0)))))) (k1 q)) (fun q => X_le (xle_s (xle_s (xle_s (xle_s (xle_n (xle_n xle_0)))))) (k2 q))
theorem bX12_isLadder_10 {d : Nat} {g : xSt} {r : Option Value × xSt} {a1 a2 a3 : Int32} (k : xX (d + 1) mX12_isLadder 13 [some (.ref 113), some (.int a1), some (.int a2), some (.int a3), some (.int 0), none] [] g = some r) : xX (d + 1) mX12_isLadder 10 [some (.ref 113), some (.int a1), some (.int a2), some (.int a3), none, none] [] g = some r :=
  Y_iconst 0 dX12_isLadder_10 ic_0 <| Y_istore dX12_isLadder_11 rfl rfl <| X_le (xle_s (xle_s (xle_s (xle_s (xle_s (xle_n xle_0)))))) k
theorem bX12_isLadder_13 {d : Nat} {g : xSt} {r : Option Value × xSt} {a1 a2 a3 a4 : Int32} (k1 : a3 ≤ a4 → xX (d + 1) mX12_isLadder 74 [some (.ref 113), some (.int a1), some (.int a2), some (.int a3), none, none] [] g = some r) (k2 : ¬ (a3 ≤ a4) → xX (d + 1) mX12_isLadder 19 [some (.ref 113), some (.int a1), some (.int a2), some (.int a3), some (.int a4), none] [] g = some r) : xX (d + 1) mX12_isLadder 13 [some (.ref 113), some (.int a1), some (.int a2), some (.int a3), some (.int a4), none] [] g = some r :=
  Y_iload dX12_isLadder_13 rfl <| Y_iload_n dX12_isLadder_15 rfl <| Y_ge 74 dX12_isLadder_16 rfl (fun q => X_le (xle_s (xle_s (xle_s (xle_s (xle_n (xle_n xle_0)))))) (k1 q)) (fun q => X_le (xle_s (xle_s (xle_s (xle_s (xle_s (xle_n xle_0)))))) (k2 q))
theorem bX12_isLadder_19 {d : Nat} {g : xSt} {r : Option Value × xSt} {a1 a2 a3 a4 : Int32} (k1 : ((a1 >>> (a3 &&& 31)) &&& 1) = 0 → xX (d + 1) mX12_isLadder 68 [some (.ref 113), some (.int a1), some (.int a2), some (.int a3), some (.int a4), none] [] g = some r) (k2 : ¬ (((a1 >>> (a3 &&& 31)) &&& 1) = 0) → xX (d + 1) mX12_isLadder 27 [some (.ref 113), some (.int a1), some (.int a2), some (.int a3), some (.int a4), none] [] g = some r) : xX (d + 1) mX12_isLadder 19 [some (.ref 113), some (.int a1), some (.int a2), some (.int a3), some (.int a4), none] [] g = some r :=
  Y_iload_n dX12_isLadder_19 rfl <| Y_iload_n dX12_isLadder_20 rfl <| Y_ishr dX12_isLadder_21 <| Y_iconst 1 dX12_isLadder_22 ic_1 <| Y_iand dX12_isLadder_23 <| Y_eq0 68 dX12_isLadder_24 rfl (fun q => X_le (xle_s (xle_s (xle_s (xle_s (xle_s (xle_n xle_0)))))) (k1 q)) (fun q => X_le (xle_s (xle_s (xle_s (xle_s (xle_s (xle_n xle_0)))))) (k2 q))
theorem bX12_isLadder_27 {d : Nat} {g : xSt} {r : Option Value × xSt} {a1 a2 a3 a4 : Int32} (k1 : ((a1 >>> (a4 &&& 31)) &&& 1) = 0 → xX (d + 1) mX12_isLadder 36 [some (.ref 113), some (.int a1), some (.int a2), some (.int a3), some (.int a4), none] [] g = some r) (k2 : ¬ (((a1 >>> (a4 &&& 31)) &&& 1) = 0) → xX (d + 1) mX12_isLadder 39 [some (.ref 113), some (.int a1), some (.int a2), some (.int a3), some (.int a4), none] [] g = some r) : xX (d + 1) mX12_isLadder 27 [some (.ref 113), some (.int a1), some (.int a2), some (.int a3), some (.int a4), none] [] g = some r :=
  Y_iload_n dX12_isLadder_27 rfl <| Y_iload dX12_isLadder_28 rfl <| Y_ishr dX12_isLadder_30 <| Y_iconst 1 dX12_isLadder_31 ic_1 <| Y_iand dX12_isLadder_32 <| Y_ne0 39 dX12_isLadder_33 rfl (fun q => X_le (xle_s (xle_s (xle_s (xle_s (xle_s (xle_n xle_0)))))) (k1 q)) (fun q => X_le (xle_s (xle_s (xle_s (xle_s (xle_s (xle_n xle_0)))))) (k2 q))
theorem bX12_isLadder_36 {d : Nat} {g : xSt} {r : Option Value × xSt} {a1 a2 a3 a4 : Int32} (k : xX (d + 1) mX12_isLadder 68 [some (.ref 113), some (.int a1), some (.int a2), some (.int a3), some (.int a4), none] [] g = some r) : xX (d + 1) mX12_isLadder 36 [some (.ref 113), some (.int a1), some (.int a2), some (.int a3), some (.int a4), none] [] g = some r :=
  Y_goto 68 dX12_isLadder_36 rfl <| X_le (xle_s (xle_s (xle_s (xle_s (xle_s (xle_n xle_0)))))) k
theorem bX12_isLadder_39 {d : Nat} {g : xSt} {r : Option Value × xSt} {a1 a2 a3 a4 r43 : Int32} {g43 : xSt} (W : xWf g) (hk43 : xCallM d mX12_sureOf [.ref 113, .int a3, .int a4] g = some (some (.int r43), g43)) (W43 : xWf g43) (k1 : a2 = 0 → xX (d + 1) mX12_isLadder 60 [some (.ref 113), some (.int a1), some (.int a2), some (.int a3), some (.int a4), some (.int r43)] [] g43 = some r) (k2 : ¬ (a2 = 0) → xX (d + 1) mX12_isLadder 52 [some (.ref 113), some (.int a1), some (.int a2), some (.int a3), some (.int a4), some (.int r43)] [] g43 = some r) : xX (d + 1) mX12_isLadder 39 [some (.ref 113), some (.int a1), some (.int a2), some (.int a3), some (.int a4), none] [] g = some r :=
  Y_aload_n dX12_isLadder_39 rfl <| Y_iload_n dX12_isLadder_40 rfl <| Y_iload dX12_isLadder_41 rfl <| Y_callV1 dX12_isLadder_43 cl_11_436 rfl rfl (xis W 113 11 s_113 (Nat.le_of_ble_eq_true rfl)) rfl rfl rfl (hk43) <| Y_istore dX12_isLadder_46 rfl rfl <| Y_iload_n dX12_isLadder_48 rfl <| Y_eq0 60 dX12_isLadder_49 rfl (fun q => X_le (xle_s (xle_s (xle_s (xle_s (xle_s (xle_s xle_0)))))) (k1 q)) (fun q => X_le (xle_s (xle_s (xle_s (xle_s (xle_s (xle_s xle_0)))))) (k2 q))
theorem bX12_isLadder_52 {d : Nat} {g : xSt} {r : Option Value × xSt} {a1 a2 a3 a4 a5 : Int32} (k1 : a5 < 0 → xX (d + 1) mX12_isLadder 68 [some (.ref 113), some (.int a1), some (.int a2), some (.int a3), some (.int a4), none] [] g = some r) (k2 : ¬ (a5 < 0) → xX (d + 1) mX12_isLadder 57 [none, none, none, none, none, none] [] g = some r) : xX (d + 1) mX12_isLadder 52 [some (.ref 113), some (.int a1), some (.int a2), some (.int a3), some (.int a4), some (.int a5)] [] g = some r :=
  Y_iload dX12_isLadder_52 rfl <| Y_lt0 68 dX12_isLadder_54 rfl (fun q => X_le (xle_s (xle_s (xle_s (xle_s (xle_s (xle_n xle_0)))))) (k1 q)) (fun q => X_le (xle_n (xle_n (xle_n (xle_n (xle_n (xle_n xle_0)))))) (k2 q))
theorem bX12_isLadder_57 {d : Nat} {g : xSt} {r : Option Value × xSt}  (k : xX (d + 1) mX12_isLadder 66 [none, none, none, none, none, none] [] g = some r) : xX (d + 1) mX12_isLadder 57 [none, none, none, none, none, none] [] g = some r :=
  Y_goto 66 dX12_isLadder_57 rfl <| X_le (xle_n (xle_n (xle_n (xle_n (xle_n (xle_n xle_0)))))) k
theorem bX12_isLadder_60 {d : Nat} {g : xSt} {r : Option Value × xSt} {a1 a2 a3 a4 a5 : Int32} (k1 : 1 ≤ a5 → xX (d + 1) mX12_isLadder 68 [some (.ref 113), some (.int a1), some (.int a2), some (.int a3), some (.int a4), none] [] g = some r) (k2 : ¬ (1 ≤ a5) → xX (d + 1) mX12_isLadder 66 [none, none, none, none, none, none] [] g = some r) : xX (d + 1) mX12_isLadder 60 [some (.ref 113), some (.int a1), some (.int a2), some (.int a3), some (.int a4), some (.int a5)] [] g = some r :=
  Y_iload dX12_isLadder_60 rfl <| Y_iconst 1 dX12_isLadder_62 ic_1 <| Y_ge 68 dX12_isLadder_63 rfl (fun q => X_le (xle_s (xle_s (xle_s (xle_s (xle_s (xle_n xle_0)))))) (k1 q)) (fun q => X_le (xle_n (xle_n (xle_n (xle_n (xle_n (xle_n xle_0)))))) (k2 q))
theorem bX12_isLadder_66 {d : Nat} {g : xSt} {r : Option Value × xSt}  (k : r = (some (.int 0), g)) : xX (d + 1) mX12_isLadder 66 [none, none, none, none, none, none] [] g = some r :=
  Y_iconst 0 dX12_isLadder_66 ic_0 <| Y_zret dX12_isLadder_67 rfl (by decide) k
theorem bX12_isLadder_68 {d : Nat} {g : xSt} {r : Option Value × xSt} {a1 a2 a3 a4 : Int32} (k : xX (d + 1) mX12_isLadder 13 [some (.ref 113), some (.int a1), some (.int a2), some (.int a3), some (.int (a4 + 1)), none] [] g = some r) : xX (d + 1) mX12_isLadder 68 [some (.ref 113), some (.int a1), some (.int a2), some (.int a3), some (.int a4), none] [] g = some r :=
  Y_iinc 1 dX12_isLadder_68 rfl ic_1 rfl rfl <| Y_goto 13 dX12_isLadder_71 rfl <| X_le (xle_s (xle_s (xle_s (xle_s (xle_s (xle_n xle_0)))))) k
theorem bX12_isLadder_74 {d : Nat} {g : xSt} {r : Option Value × xSt} {a1 a2 a3 : Int32} (k : xX (d + 1) mX12_isLadder 2 [some (.ref 113), some (.int a1), some (.int a2), some (.int (a3 + 1)), none, none] [] g = some r) : xX (d + 1) mX12_isLadder 74 [some (.ref 113), some (.int a1), some (.int a2), some (.int a3), none, none] [] g = some r :=
  Y_iinc 1 dX12_isLadder_74 rfl ic_1 rfl rfl <| Y_goto 2 dX12_isLadder_77 rfl <| X_le (xle_s (xle_s (xle_s (xle_s (xle_n (xle_n xle_0)))))) k
theorem bX12_isLadder_80 {d : Nat} {g : xSt} {r : Option Value × xSt}  (k : r = (some (.int 1), g)) : xX (d + 1) mX12_isLadder 80 [none, none, none, none, none, none] [] g = some r :=
  Y_iconst 1 dX12_isLadder_80 ic_1 <| Y_zret dX12_isLadder_81 rfl (by decide) k
theorem bX12_bound_0 {d : Nat} {g : xSt} {r : Option Value × xSt} {a1 r2 : Int32} {g2 : xSt} (W : xWf g) (hk2 : xCallM d mX12_hasLeft [.ref 113, .int a1] g = some (some (.int r2), g2)) (W2 : xWf g2) (k1 : r2 = 0 → xX (d + 1) mX12_bound 8 [none, none, none, none] [] g2 = some r) (k2 : ¬ (r2 = 0) → xX (d + 1) mX12_bound 10 [some (.ref 113), none, none, none] [] g2 = some r) : xX (d + 1) mX12_bound 0 [some (.ref 113), some (.int a1), none, none] [] g = some r :=
  Y_aload_n dX12_bound_0 rfl <| Y_iload_n dX12_bound_1 rfl <| Y_callV1 dX12_bound_2 cl_11_424 rfl rfl (xis W 113 11 s_113 (Nat.le_of_ble_eq_true rfl)) rfl rfl rfl (hk2) <| Y_ne0 10 dX12_bound_5 rfl (fun q => X_le (xle_n (xle_n (xle_n (xle_n xle_0)))) (k1 q)) (fun q => X_le (xle_s (xle_n (xle_n (xle_n xle_0)))) (k2 q))
theorem bX12_bound_8 {d : Nat} {g : xSt} {r : Option Value × xSt}  (k : r = (some (.int (-1)), g)) : xX (d + 1) mX12_bound 8 [none, none, none, none] [] g = some r :=
  Y_iconst (-1) dX12_bound_8 ic_m1 <| Y_iret dX12_bound_9 rfl k
theorem bX12_bound_10 {d : Nat} {g : xSt} {r : Option Value × xSt}  (k : xX (d + 1) mX12_bound 14 [some (.ref 113), none, some (.int 0), some (.int 1)] [] g = some r) : xX (d + 1) mX12_bound 10 [some (.ref 113), none, none, none] [] g = some r :=
  Y_iconst 0 dX12_bound_10 ic_0 <| Y_istore_n dX12_bound_11 rfl rfl <| Y_iconst 1 dX12_bound_12 ic_1 <| Y_istore_n dX12_bound_13 rfl rfl <| X_le (xle_s (xle_n (xle_s (xle_s xle_0)))) k
theorem bX12_bound_14 {d : Nat} {g : xSt} {r : Option Value × xSt} {a2 a3 : Int32} (W : xWf g) (k1 : (xI g 113 53) ≤ a3 → xX (d + 1) mX12_bound 48 [none, none, some (.int a2), none] [] g = some r) (k2 : ¬ ((xI g 113 53) ≤ a3) → xX (d + 1) mX12_bound 22 [some (.ref 113), none, some (.int a2), some (.int a3)] [] g = some r) : xX (d + 1) mX12_bound 14 [some (.ref 113), none, some (.int a2), some (.int a3)] [] g = some r :=
  Y_iload_n dX12_bound_14 rfl <| Y_aload_n dX12_bound_15 rfl <| Y_getI dX12_bound_16 f_11_408 ft_11_53 (xis W 113 11 s_113 (Nat.le_of_ble_eq_true rfl)) <| Y_ge 48 dX12_bound_19 rfl (fun q => X_le (xle_n (xle_n (xle_s (xle_n xle_0)))) (k1 q)) (fun q => X_le (xle_s (xle_n (xle_s (xle_s xle_0)))) (k2 q))
theorem bX12_bound_22 {d : Nat} {g : xSt} {r : Option Value × xSt} {a2 a3 : Int32} (W : xWf g) (hi31 : vp_in (xI g 113 30) 2) (k1 : (xI g 121 (xI g 113 30).toNatClampNeg) = 0 → xX (d + 1) mX12_bound 39 [some (.ref 113), none, some (.int a2), none] [.int a3] g = some r) (k2 : ¬ ((xI g 121 (xI g 113 30).toNatClampNeg) = 0) → xX (d + 1) mX12_bound 35 [some (.ref 113), none, some (.int a2), none] [.int a3] g = some r) : xX (d + 1) mX12_bound 22 [some (.ref 113), none, some (.int a2), some (.int a3)] [] g = some r :=
  Y_iload_n dX12_bound_22 rfl <| Y_aload_n dX12_bound_23 rfl <| Y_getR dX12_bound_24 f_11_36 (by rw [ft_11_16]; rfl) (xis W 113 11 s_113 (Nat.le_of_ble_eq_true rfl)) (xptr W 113 16 p_113_16) <| Y_aload_n dX12_bound_27 rfl <| Y_getI dX12_bound_28 f_11_295 ft_11_30 (xis W 113 11 s_113 (Nat.le_of_ble_eq_true rfl)) <| Y_zald dX12_bound_31 (xarr W (o := 121) s_121 (Nat.le_of_ble_eq_true rfl)) hi31 <| Y_eq0 39 dX12_bound_32 rfl (fun q => X_le (xle_s (xle_n (xle_s (xle_n xle_0)))) (k1 q)) (fun q => X_le (xle_s (xle_n (xle_s (xle_n xle_0)))) (k2 q))
theorem bX12_bound_35 {d : Nat} {g : xSt} {r : Option Value × xSt} {a2 s0 : Int32} (k : xX (d + 1) mX12_bound 40 [some (.ref 113), none, some (.int a2), none] [.int 3, .int s0] g = some r) : xX (d + 1) mX12_bound 35 [some (.ref 113), none, some (.int a2), none] [.int s0] g = some r :=
  Y_iconst 3 dX12_bound_35 ic_3 <| Y_goto 40 dX12_bound_36 rfl <| X_le (xle_s (xle_n (xle_s (xle_n xle_0)))) k
theorem bX12_bound_39 {d : Nat} {g : xSt} {r : Option Value × xSt} {a2 s0 : Int32} (k : xX (d + 1) mX12_bound 40 [some (.ref 113), none, some (.int a2), none] [.int 2, .int s0] g = some r) : xX (d + 1) mX12_bound 39 [some (.ref 113), none, some (.int a2), none] [.int s0] g = some r :=
  Y_iconst 2 dX12_bound_39 ic_2 <| X_le (xle_s (xle_n (xle_s (xle_n xle_0)))) k
theorem bX12_bound_40 {d : Nat} {g : xSt} {r : Option Value × xSt} {a2 s1 s0 : Int32} (k : xX (d + 1) mX12_bound 14 [some (.ref 113), none, some (.int (a2 + 1)), some (.int (s1 * s0))] [] g = some r) : xX (d + 1) mX12_bound 40 [some (.ref 113), none, some (.int a2), none] [.int s0, .int s1] g = some r :=
  Y_imul dX12_bound_40 <| Y_istore_n dX12_bound_41 rfl rfl <| Y_iinc 1 dX12_bound_42 rfl ic_1 rfl rfl <| Y_goto 14 dX12_bound_45 rfl <| X_le (xle_s (xle_n (xle_s (xle_s xle_0)))) k
theorem bX12_bound_48 {d : Nat} {g : xSt} {r : Option Value × xSt} {a2 : Int32} (k : r = (some (.int a2), g)) : xX (d + 1) mX12_bound 48 [none, none, some (.int a2), none] [] g = some r :=
  Y_iload_n dX12_bound_48 rfl <| Y_iret dX12_bound_49 rfl k
theorem bX12_swapped_0 {d : Nat} {g : xSt} {r : Option Value × xSt} {a1 a2 r3 : Int32} {g3 : xSt} (hk3 : xCallM d mX12_isIn [.int a1, .int 0, .int 2] g = some (some (.int r3), g3)) (W3 : xWf g3) (k1 : r3 = 0 → xX (d + 1) mX12_swapped 18 [none, none, none, none] [] g3 = some r) (k2 : ¬ (r3 = 0) → xX (d + 1) mX12_swapped 9 [some (.ref 113), some (.int a1), some (.int a2), none] [] g3 = some r) : xX (d + 1) mX12_swapped 0 [some (.ref 113), some (.int a1), some (.int a2), none] [] g = some r :=
  Y_iload_n dX12_swapped_0 rfl <| Y_iconst 0 dX12_swapped_1 ic_0 <| Y_iconst 2 dX12_swapped_2 ic_2 <| Y_callS1 dX12_swapped_3 cl_11_367 rfl rfl rfl rfl rfl (hk3) <| Y_eq0 18 dX12_swapped_6 rfl (fun q => X_le (xle_n (xle_n (xle_n (xle_n xle_0)))) (k1 q)) (fun q => X_le (xle_s (xle_s (xle_s (xle_n xle_0)))) (k2 q))
theorem bX12_swapped_9 {d : Nat} {g : xSt} {r : Option Value × xSt} {a1 a2 r12 : Int32} {g12 : xSt} (hk12 : xCallM d mX12_isIn [.int a2, .int 0, .int 2] g = some (some (.int r12), g12)) (W12 : xWf g12) (k1 : r12 = 0 → xX (d + 1) mX12_swapped 18 [none, none, none, none] [] g12 = some r) (k2 : ¬ (r12 = 0) → xX (d + 1) mX12_swapped 20 [some (.ref 113), some (.int a1), some (.int a2), none] [] g12 = some r) : xX (d + 1) mX12_swapped 9 [some (.ref 113), some (.int a1), some (.int a2), none] [] g = some r :=
  Y_iload_n dX12_swapped_9 rfl <| Y_iconst 0 dX12_swapped_10 ic_0 <| Y_iconst 2 dX12_swapped_11 ic_2 <| Y_callS1 dX12_swapped_12 cl_11_367 rfl rfl rfl rfl rfl (hk12) <| Y_ne0 20 dX12_swapped_15 rfl (fun q => X_le (xle_n (xle_n (xle_n (xle_n xle_0)))) (k1 q)) (fun q => X_le (xle_s (xle_s (xle_s (xle_n xle_0)))) (k2 q))
theorem bX12_swapped_18 {d : Nat} {g : xSt} {r : Option Value × xSt}  (k : r = (some (.int (-1)), g)) : xX (d + 1) mX12_swapped 18 [none, none, none, none] [] g = some r :=
  Y_iconst (-1) dX12_swapped_18 ic_m1 <| Y_iret dX12_swapped_19 rfl k
theorem bX12_swapped_20 {d : Nat} {g : xSt} {r : Option Value × xSt} {a1 a2 : Int32} {g22 : xSt} (W : xWf g) (hk22 : xCallM d mX12_laySwapped [.ref 113, .int a1] g = some (none, g22)) (W22 : xWf g22) (k1 : a2 = 2 → xX (d + 1) mX12_swapped 30 [some (.ref 113), none, none, none] [] g22 = some r) (k2 : ¬ (a2 = 2) → xX (d + 1) mX12_swapped 35 [some (.ref 113), none, some (.int a2), none] [] g22 = some r) : xX (d + 1) mX12_swapped 20 [some (.ref 113), some (.int a1), some (.int a2), none] [] g = some r :=
  Y_aload_n dX12_swapped_20 rfl <| Y_iload_n dX12_swapped_21 rfl <| Y_callV0 dX12_swapped_22 cl_11_558 rfl rfl (xis W 113 11 s_113 (Nat.le_of_ble_eq_true rfl)) rfl rfl rfl (hk22) <| Y_iload_n dX12_swapped_25 rfl <| Y_iconst 2 dX12_swapped_26 ic_2 <| Y_ne 35 dX12_swapped_27 rfl (fun q => X_le (xle_s (xle_n (xle_n (xle_n xle_0)))) (k1 q)) (fun q => X_le (xle_s (xle_n (xle_s (xle_n xle_0)))) (k2 q))
theorem bX12_swapped_30 {d : Nat} {g : xSt} {r : Option Value × xSt}  (W : xWf g) (k : r = (some (.int (xI g 113 53)), g)) : xX (d + 1) mX12_swapped 30 [some (.ref 113), none, none, none] [] g = some r :=
  Y_aload_n dX12_swapped_30 rfl <| Y_getI dX12_swapped_31 f_11_408 ft_11_53 (xis W 113 11 s_113 (Nat.le_of_ble_eq_true rfl)) <| Y_iret dX12_swapped_34 rfl k
theorem bX12_swapped_35 {d : Nat} {g : xSt} {r : Option Value × xSt} {a2 r47 : Int32} {g36 g42 g47 : xSt} (W : xWf g) (hk36 : xCallM d mX12_layPairs [.ref 113] g = some (none, g36)) (W36 : xWf g36) (hk42 : xCallM d mX12_layGoals [.ref 113, .int 0, .int 0] g36 = some (none, g42)) (W42 : xWf g42) (hk47 : xCallM d mX12_solves [.ref 113, .int 0] g42 = some (some (.int r47), g47)) (W47 : xWf g47) (k1 : a2 = 0 → xX (d + 1) mX12_swapped 55 [none, none, none, some (.int r47)] [] g47 = some r) (k2 : ¬ (a2 = 0) → xX (d + 1) mX12_swapped 59 [some (.ref 113), none, none, none] [] g47 = some r) : xX (d + 1) mX12_swapped 35 [some (.ref 113), none, some (.int a2), none] [] g = some r :=
  Y_aload_n dX12_swapped_35 rfl <| Y_callV0 dX12_swapped_36 cl_11_502 rfl rfl (xis W 113 11 s_113 (Nat.le_of_ble_eq_true rfl)) rfl rfl rfl (hk36) <| Y_aload_n dX12_swapped_39 rfl <| Y_iconst 0 dX12_swapped_40 ic_0 <| Y_iconst 0 dX12_swapped_41 ic_0 <| Y_callV0 dX12_swapped_42 cl_11_505 rfl rfl (xis W36 113 11 s_113 (Nat.le_of_ble_eq_true rfl)) rfl rfl rfl (hk42) <| Y_aload_n dX12_swapped_45 rfl <| Y_iconst 0 dX12_swapped_46 ic_0 <| Y_callV1 dX12_swapped_47 cl_11_514 rfl rfl (xis W42 113 11 s_113 (Nat.le_of_ble_eq_true rfl)) rfl rfl rfl (hk47) <| Y_istore_n dX12_swapped_50 rfl rfl <| Y_iload_n dX12_swapped_51 rfl <| Y_ne0 59 dX12_swapped_52 rfl (fun q => X_le (xle_n (xle_n (xle_n (xle_s xle_0)))) (k1 q)) (fun q => X_le (xle_s (xle_n (xle_n (xle_n xle_0)))) (k2 q))
theorem bX12_swapped_55 {d : Nat} {g : xSt} {r : Option Value × xSt} {a3 : Int32} (k : xX (d + 1) mX12_swapped 63 [none, none, none, none] [.int a3] g = some r) : xX (d + 1) mX12_swapped 55 [none, none, none, some (.int a3)] [] g = some r :=
  Y_iload_n dX12_swapped_55 rfl <| Y_goto 63 dX12_swapped_56 rfl <| X_le (xle_n (xle_n (xle_n (xle_n xle_0)))) k
theorem bX12_swapped_59 {d : Nat} {g : xSt} {r : Option Value × xSt} {r60 : Int32} {g60 : xSt} (W : xWf g) (hk60 : xCallM d mX12_pairNumber [.ref 113] g = some (some (.int r60), g60)) (W60 : xWf g60) (k : xX (d + 1) mX12_swapped 63 [none, none, none, none] [.int r60] g60 = some r) : xX (d + 1) mX12_swapped 59 [some (.ref 113), none, none, none] [] g = some r :=
  Y_aload_n dX12_swapped_59 rfl <| Y_callV1 dX12_swapped_60 cl_11_518 rfl rfl (xis W 113 11 s_113 (Nat.le_of_ble_eq_true rfl)) rfl rfl rfl (hk60) <| X_le (xle_n (xle_n (xle_n (xle_n xle_0)))) k
theorem bX12_swapped_63 {d : Nat} {g : xSt} {r : Option Value × xSt} {s0 : Int32} (k : r = (some (.int s0), g)) : xX (d + 1) mX12_swapped 63 [none, none, none, none] [.int s0] g = some r :=
  Y_iret dX12_swapped_63 rfl k
theorem bX12_laySwapped_0 {d : Nat} {g : xSt} {r : Option Value × xSt} {a1 : Int32} (W : xWf g) (k : xX (d + 1) mX12_laySwapped 7 [some (.ref 113), some (.int a1), some (.int 0), none] [] (xWI g 113 53 0) = some r) : xX (d + 1) mX12_laySwapped 0 [some (.ref 113), some (.int a1), none, none] [] g = some r :=
  Y_aload_n dX12_laySwapped_0 rfl <| Y_iconst 0 dX12_laySwapped_1 ic_0 <| Y_putI dX12_laySwapped_2 f_11_408 fn_11_53 ft_11_53 (xis W 113 11 s_113 (Nat.le_of_ble_eq_true rfl)) <| Y_iconst 0 dX12_laySwapped_5 ic_0 <| Y_istore_n dX12_laySwapped_6 rfl rfl <| X_le (xle_s (xle_s (xle_s (xle_n xle_0)))) k
theorem bX12_laySwapped_7 {d : Nat} {g : xSt} {r : Option Value × xSt} {a1 a2 : Int32} (k1 : 32 ≤ a2 → xX (d + 1) mX12_laySwapped 155 [none, none, none, none] [] g = some r) (k2 : ¬ (32 ≤ a2) → xX (d + 1) mX12_laySwapped 13 [some (.ref 113), some (.int a1), some (.int a2), none] [] g = some r) : xX (d + 1) mX12_laySwapped 7 [some (.ref 113), some (.int a1), some (.int a2), none] [] g = some r :=
  Y_iload_n dX12_laySwapped_7 rfl <| Y_bipush 32 dX12_laySwapped_8 bp_32 <| Y_ge 155 dX12_laySwapped_10 rfl (fun q => X_le (xle_n (xle_n (xle_n (xle_n xle_0)))) (k1 q)) (fun q => X_le (xle_s (xle_s (xle_s (xle_n xle_0)))) (k2 q))
theorem bX12_laySwapped_13 {d : Nat} {g : xSt} {r : Option Value × xSt} {a1 a2 r14 : Int32} {g14 : xSt} (hk14 : xCallM d mX12_bitsOf [.int a2] g = some (some (.int r14), g14)) (W14 : xWf g14) (k1 : a1 < r14 → xX (d + 1) mX12_laySwapped 149 [some (.ref 113), some (.int a1), some (.int a2), none] [] g14 = some r) (k2 : ¬ (a1 < r14) → xX (d + 1) mX12_laySwapped 21 [some (.ref 113), some (.int a1), some (.int a2), none] [] g14 = some r) : xX (d + 1) mX12_laySwapped 13 [some (.ref 113), some (.int a1), some (.int a2), none] [] g = some r :=
  Y_iload_n dX12_laySwapped_13 rfl <| Y_callS1 dX12_laySwapped_14 cl_11_392 rfl rfl rfl rfl rfl (hk14) <| Y_iload_n dX12_laySwapped_17 rfl <| Y_gt 149 dX12_laySwapped_18 rfl (fun q => X_le (xle_s (xle_s (xle_s (xle_n xle_0)))) (k1 q)) (fun q => X_le (xle_s (xle_s (xle_s (xle_n xle_0)))) (k2 q))
theorem bX12_laySwapped_21 {d : Nat} {g : xSt} {r : Option Value × xSt} {a1 a2 : Int32} (k1 : (a2 &&& (a2 <<< (1 &&& 31))) = 0 → xX (d + 1) mX12_laySwapped 29 [some (.ref 113), some (.int a1), some (.int a2), none] [] g = some r) (k2 : ¬ ((a2 &&& (a2 <<< (1 &&& 31))) = 0) → xX (d + 1) mX12_laySwapped 149 [some (.ref 113), some (.int a1), some (.int a2), none] [] g = some r) : xX (d + 1) mX12_laySwapped 21 [some (.ref 113), some (.int a1), some (.int a2), none] [] g = some r :=
  Y_iload_n dX12_laySwapped_21 rfl <| Y_iload_n dX12_laySwapped_22 rfl <| Y_iconst 1 dX12_laySwapped_23 ic_1 <| Y_ishl dX12_laySwapped_24 <| Y_iand dX12_laySwapped_25 <| Y_ne0 149 dX12_laySwapped_26 rfl (fun q => X_le (xle_s (xle_s (xle_s (xle_n xle_0)))) (k1 q)) (fun q => X_le (xle_s (xle_s (xle_s (xle_n xle_0)))) (k2 q))
theorem bX12_laySwapped_29 {d : Nat} {g : xSt} {r : Option Value × xSt} {a1 a2 r32 : Int32} {g32 : xSt} (W : xWf g) (hk32 : xCallM d mX12_thingMany [.ref 113] g = some (some (.int r32), g32)) (W32 : xWf g32) (k1 : r32 ≤ 0 → xX (d + 1) mX12_laySwapped 47 [some (.ref 113), some (.int a1), some (.int a2), none] [.int 1, .int a2] g32 = some r) (k2 : ¬ (r32 ≤ 0) → xX (d + 1) mX12_laySwapped 38 [some (.ref 113), some (.int a1), some (.int a2), none] [.int 1, .int a2] g32 = some r) : xX (d + 1) mX12_laySwapped 29 [some (.ref 113), some (.int a1), some (.int a2), none] [] g = some r :=
  Y_iload_n dX12_laySwapped_29 rfl <| Y_iconst 1 dX12_laySwapped_30 ic_1 <| Y_aload_n dX12_laySwapped_31 rfl <| Y_callV1 dX12_laySwapped_32 cl_11_364 rfl rfl (xis W 113 11 s_113 (Nat.le_of_ble_eq_true rfl)) rfl rfl rfl (hk32) <| Y_le0 47 dX12_laySwapped_35 rfl (fun q => X_le (xle_s (xle_s (xle_s (xle_n xle_0)))) (k1 q)) (fun q => X_le (xle_s (xle_s (xle_s (xle_n xle_0)))) (k2 q))
theorem bX12_laySwapped_38 {d : Nat} {g : xSt} {r : Option Value × xSt} {a1 a2 s1 s0 r39 : Int32} {g39 : xSt} (W : xWf g) (hk39 : xCallM d mX12_thingMany [.ref 113] g = some (some (.int r39), g39)) (W39 : xWf g39) (k : xX (d + 1) mX12_laySwapped 48 [some (.ref 113), some (.int a1), some (.int a2), none] [.int (r39 - 1), .int s0, .int s1] g39 = some r) : xX (d + 1) mX12_laySwapped 38 [some (.ref 113), some (.int a1), some (.int a2), none] [.int s0, .int s1] g = some r :=
  Y_aload_n dX12_laySwapped_38 rfl <| Y_callV1 dX12_laySwapped_39 cl_11_364 rfl rfl (xis W 113 11 s_113 (Nat.le_of_ble_eq_true rfl)) rfl rfl rfl (hk39) <| Y_iconst 1 dX12_laySwapped_42 ic_1 <| Y_isub dX12_laySwapped_43 <| Y_goto 48 dX12_laySwapped_44 rfl <| X_le (xle_s (xle_s (xle_s (xle_n xle_0)))) k
theorem bX12_laySwapped_47 {d : Nat} {g : xSt} {r : Option Value × xSt} {a1 a2 s1 s0 : Int32} (k : xX (d + 1) mX12_laySwapped 48 [some (.ref 113), some (.int a1), some (.int a2), none] [.int 0, .int s0, .int s1] g = some r) : xX (d + 1) mX12_laySwapped 47 [some (.ref 113), some (.int a1), some (.int a2), none] [.int s0, .int s1] g = some r :=
  Y_iconst 0 dX12_laySwapped_47 ic_0 <| X_le (xle_s (xle_s (xle_s (xle_n xle_0)))) k
theorem bX12_laySwapped_48 {d : Nat} {g : xSt} {r : Option Value × xSt} {a1 a2 s2 s1 s0 : Int32} (k1 : s2 < (s1 <<< (s0 &&& 31)) → xX (d + 1) mX12_laySwapped 55 [some (.ref 113), some (.int a1), some (.int a2), none] [] g = some r) (k2 : ¬ (s2 < (s1 <<< (s0 &&& 31))) → xX (d + 1) mX12_laySwapped 52 [some (.ref 113), some (.int a1), some (.int a2), none] [] g = some r) : xX (d + 1) mX12_laySwapped 48 [some (.ref 113), some (.int a1), some (.int a2), none] [.int s0, .int s1, .int s2] g = some r :=
  Y_ishl dX12_laySwapped_48 <| Y_lt 55 dX12_laySwapped_49 rfl (fun q => X_le (xle_s (xle_s (xle_s (xle_n xle_0)))) (k1 q)) (fun q => X_le (xle_s (xle_s (xle_s (xle_n xle_0)))) (k2 q))
theorem bX12_laySwapped_52 {d : Nat} {g : xSt} {r : Option Value × xSt} {a1 a2 : Int32} (k : xX (d + 1) mX12_laySwapped 149 [some (.ref 113), some (.int a1), some (.int a2), none] [] g = some r) : xX (d + 1) mX12_laySwapped 52 [some (.ref 113), some (.int a1), some (.int a2), none] [] g = some r :=
  Y_goto 149 dX12_laySwapped_52 rfl <| X_le (xle_s (xle_s (xle_s (xle_n xle_0)))) k
theorem bX12_laySwapped_55 {d : Nat} {g : xSt} {r : Option Value × xSt} {a1 a2 : Int32} (k : xX (d + 1) mX12_laySwapped 57 [some (.ref 113), some (.int a1), some (.int a2), some (.int 0)] [] g = some r) : xX (d + 1) mX12_laySwapped 55 [some (.ref 113), some (.int a1), some (.int a2), none] [] g = some r :=
  Y_iconst 0 dX12_laySwapped_55 ic_0 <| Y_istore_n dX12_laySwapped_56 rfl rfl <| X_le (xle_s (xle_s (xle_s (xle_s xle_0)))) k
theorem bX12_laySwapped_57 {d : Nat} {g : xSt} {r : Option Value × xSt} {a1 a2 a3 r59 : Int32} {g59 : xSt} (W : xWf g) (hk59 : xCallM d mX12_thingMany [.ref 113] g = some (some (.int r59), g59)) (W59 : xWf g59) (k1 : r59 ≤ a3 → xX (d + 1) mX12_laySwapped 126 [some (.ref 113), some (.int a1), some (.int a2), none] [] g59 = some r) (k2 : ¬ (r59 ≤ a3) → xX (d + 1) mX12_laySwapped 65 [some (.ref 113), some (.int a1), some (.int a2), some (.int a3)] [] g59 = some r) : xX (d + 1) mX12_laySwapped 57 [some (.ref 113), some (.int a1), some (.int a2), some (.int a3)] [] g = some r :=
  Y_iload_n dX12_laySwapped_57 rfl <| Y_aload_n dX12_laySwapped_58 rfl <| Y_callV1 dX12_laySwapped_59 cl_11_364 rfl rfl (xis W 113 11 s_113 (Nat.le_of_ble_eq_true rfl)) rfl rfl rfl (hk59) <| Y_ge 126 dX12_laySwapped_62 rfl (fun q => X_le (xle_s (xle_s (xle_s (xle_n xle_0)))) (k1 q)) (fun q => X_le (xle_s (xle_s (xle_s (xle_s xle_0)))) (k2 q))
theorem bX12_laySwapped_65 {d : Nat} {g : xSt} {r : Option Value × xSt} {a1 a2 a3 : Int32} (W : xWf g) (hi81 : vp_in ((5 * (xI g 113 30)) + a3) 10) (k1 : ((a2 >>> (a3 &&& 31)) &&& 1) = 1 → xX (d + 1) mX12_laySwapped 91 [some (.ref 113), some (.int a1), some (.int a2), some (.int a3)] [.int (xI g 119 ((5 * (xI g 113 30)) + a3).toNatClampNeg), .ref 135] g = some r) (k2 : ¬ (((a2 >>> (a3 &&& 31)) &&& 1) = 1) → xX (d + 1) mX12_laySwapped 97 [some (.ref 113), some (.int a1), some (.int a2), some (.int a3)] [.int (xI g 119 ((5 * (xI g 113 30)) + a3).toNatClampNeg), .ref 135] g = some r) : xX (d + 1) mX12_laySwapped 65 [some (.ref 113), some (.int a1), some (.int a2), some (.int a3)] [] g = some r :=
  Y_aload_n dX12_laySwapped_65 rfl <| Y_getR dX12_laySwapped_66 f_11_80 (by rw [ft_11_33]; rfl) (xis W 113 11 s_113 (Nat.le_of_ble_eq_true rfl)) (xptr W 113 33 p_113_33) <| Y_aload_n dX12_laySwapped_69 rfl <| Y_getR dX12_laySwapped_70 f_11_30 (by rw [ft_11_14]; rfl) (xis W 113 11 s_113 (Nat.le_of_ble_eq_true rfl)) (xptr W 113 14 p_113_14) <| Y_iconst 5 dX12_laySwapped_73 ic_5 <| Y_aload_n dX12_laySwapped_74 rfl <| Y_getI dX12_laySwapped_75 f_11_295 ft_11_30 (xis W 113 11 s_113 (Nat.le_of_ble_eq_true rfl)) <| Y_imul dX12_laySwapped_78 <| Y_iload_n dX12_laySwapped_79 rfl <| Y_iadd dX12_laySwapped_80 <| Y_iald dX12_laySwapped_81 (xarr W (o := 119) s_119 (Nat.le_of_ble_eq_true rfl)) hi81 <| Y_iload_n dX12_laySwapped_82 rfl <| Y_iload_n dX12_laySwapped_83 rfl <| Y_ishr dX12_laySwapped_84 <| Y_iconst 1 dX12_laySwapped_85 ic_1 <| Y_iand dX12_laySwapped_86 <| Y_iconst 1 dX12_laySwapped_87 ic_1 <| Y_ne 97 dX12_laySwapped_88 rfl (fun q => X_le (xle_s (xle_s (xle_s (xle_s xle_0)))) (k1 q)) (fun q => X_le (xle_s (xle_s (xle_s (xle_s xle_0)))) (k2 q))
theorem bX12_laySwapped_91 {d : Nat} {g : xSt} {r : Option Value × xSt} {a1 a2 a3 s0 : Int32} (k : xX (d + 1) mX12_laySwapped 119 [some (.ref 113), some (.int a1), some (.int a2), some (.int a3)] [.int (a3 + 1), .int s0, .ref 135] g = some r) : xX (d + 1) mX12_laySwapped 91 [some (.ref 113), some (.int a1), some (.int a2), some (.int a3)] [.int s0, .ref 135] g = some r :=
  Y_iload_n dX12_laySwapped_91 rfl <| Y_iconst 1 dX12_laySwapped_92 ic_1 <| Y_iadd dX12_laySwapped_93 <| Y_goto 119 dX12_laySwapped_94 rfl <| X_le (xle_s (xle_s (xle_s (xle_s xle_0)))) k
theorem bX12_laySwapped_97 {d : Nat} {g : xSt} {r : Option Value × xSt} {a1 a2 a3 s0 : Int32} (k1 : a3 ≤ 0 → xX (d + 1) mX12_laySwapped 118 [some (.ref 113), some (.int a1), some (.int a2), some (.int a3)] [.int s0, .ref 135] g = some r) (k2 : ¬ (a3 ≤ 0) → xX (d + 1) mX12_laySwapped 101 [some (.ref 113), some (.int a1), some (.int a2), some (.int a3)] [.int s0, .ref 135] g = some r) : xX (d + 1) mX12_laySwapped 97 [some (.ref 113), some (.int a1), some (.int a2), some (.int a3)] [.int s0, .ref 135] g = some r :=
  Y_iload_n dX12_laySwapped_97 rfl <| Y_le0 118 dX12_laySwapped_98 rfl (fun q => X_le (xle_s (xle_s (xle_s (xle_s xle_0)))) (k1 q)) (fun q => X_le (xle_s (xle_s (xle_s (xle_s xle_0)))) (k2 q))
theorem bX12_laySwapped_101 {d : Nat} {g : xSt} {r : Option Value × xSt} {a1 a2 a3 s0 : Int32} (k1 : ((a2 >>> ((a3 - 1) &&& 31)) &&& 1) = 1 → xX (d + 1) mX12_laySwapped 112 [some (.ref 113), some (.int a1), some (.int a2), some (.int a3)] [.int s0, .ref 135] g = some r) (k2 : ¬ (((a2 >>> ((a3 - 1) &&& 31)) &&& 1) = 1) → xX (d + 1) mX12_laySwapped 118 [some (.ref 113), some (.int a1), some (.int a2), some (.int a3)] [.int s0, .ref 135] g = some r) : xX (d + 1) mX12_laySwapped 101 [some (.ref 113), some (.int a1), some (.int a2), some (.int a3)] [.int s0, .ref 135] g = some r :=
  Y_iload_n dX12_laySwapped_101 rfl <| Y_iload_n dX12_laySwapped_102 rfl <| Y_iconst 1 dX12_laySwapped_103 ic_1 <| Y_isub dX12_laySwapped_104 <| Y_ishr dX12_laySwapped_105 <| Y_iconst 1 dX12_laySwapped_106 ic_1 <| Y_iand dX12_laySwapped_107 <| Y_iconst 1 dX12_laySwapped_108 ic_1 <| Y_ne 118 dX12_laySwapped_109 rfl (fun q => X_le (xle_s (xle_s (xle_s (xle_s xle_0)))) (k1 q)) (fun q => X_le (xle_s (xle_s (xle_s (xle_s xle_0)))) (k2 q))
theorem bX12_laySwapped_112 {d : Nat} {g : xSt} {r : Option Value × xSt} {a1 a2 a3 s0 : Int32} (k : xX (d + 1) mX12_laySwapped 119 [some (.ref 113), some (.int a1), some (.int a2), some (.int a3)] [.int (a3 - 1), .int s0, .ref 135] g = some r) : xX (d + 1) mX12_laySwapped 112 [some (.ref 113), some (.int a1), some (.int a2), some (.int a3)] [.int s0, .ref 135] g = some r :=
  Y_iload_n dX12_laySwapped_112 rfl <| Y_iconst 1 dX12_laySwapped_113 ic_1 <| Y_isub dX12_laySwapped_114 <| Y_goto 119 dX12_laySwapped_115 rfl <| X_le (xle_s (xle_s (xle_s (xle_s xle_0)))) k
theorem bX12_laySwapped_118 {d : Nat} {g : xSt} {r : Option Value × xSt} {a1 a2 a3 s0 : Int32} (k : xX (d + 1) mX12_laySwapped 119 [some (.ref 113), some (.int a1), some (.int a2), some (.int a3)] [.int a3, .int s0, .ref 135] g = some r) : xX (d + 1) mX12_laySwapped 118 [some (.ref 113), some (.int a1), some (.int a2), some (.int a3)] [.int s0, .ref 135] g = some r :=
  Y_iload_n dX12_laySwapped_118 rfl <| X_le (xle_s (xle_s (xle_s (xle_s xle_0)))) k
theorem bX12_laySwapped_119 {d : Nat} {g : xSt} {r : Option Value × xSt} {a1 a2 a3 s1 s0 : Int32} (W : xWf g) (hi119 : vp_in s1 5) (k : xX (d + 1) mX12_laySwapped 57 [some (.ref 113), some (.int a1), some (.int a2), some (.int (a3 + 1))] [] (xWI g 135 s1.toNatClampNeg s0) = some r) : xX (d + 1) mX12_laySwapped 119 [some (.ref 113), some (.int a1), some (.int a2), some (.int a3)] [.int s0, .int s1, .ref 135] g = some r :=
  Y_iast dX12_laySwapped_119 (xarr W (o := 135) s_135 (Nat.le_of_ble_eq_true rfl)) hi119 <| Y_iinc 1 dX12_laySwapped_120 rfl ic_1 rfl rfl <| Y_goto 57 dX12_laySwapped_123 rfl <| X_le (xle_s (xle_s (xle_s (xle_s xle_0)))) k
theorem bX12_laySwapped_126 {d : Nat} {g : xSt} {r : Option Value × xSt} {a1 a2 r135 : Int32} {g135 : xSt} (W : xWf g) (hk135 : xCallM d mX12_orderOf [.ref 113] g = some (some (.int r135), g135)) (W135 : xWf g135) (hi138 : vp_in (xI g 113 53) 541) (k : xX (d + 1) mX12_laySwapped 149 [some (.ref 113), some (.int a1), some (.int a2), none] [] (xWI (xWI g135 145 (xI g 113 53).toNatClampNeg r135) 113 53 ((xI g135 113 53) + 1)) = some r) : xX (d + 1) mX12_laySwapped 126 [some (.ref 113), some (.int a1), some (.int a2), none] [] g = some r :=
  Y_aload_n dX12_laySwapped_126 rfl <| Y_getR dX12_laySwapped_127 f_11_110 (by rw [ft_11_48]; rfl) (xis W 113 11 s_113 (Nat.le_of_ble_eq_true rfl)) (xptr W 113 48 p_113_48) <| Y_aload_n dX12_laySwapped_130 rfl <| Y_getI dX12_laySwapped_131 f_11_408 ft_11_53 (xis W 113 11 s_113 (Nat.le_of_ble_eq_true rfl)) <| Y_aload_n dX12_laySwapped_134 rfl <| Y_callV1 dX12_laySwapped_135 cl_11_555 rfl rfl (xis W 113 11 s_113 (Nat.le_of_ble_eq_true rfl)) rfl rfl rfl (hk135) <| Y_iast dX12_laySwapped_138 (xarr W135 (o := 145) s_145 (Nat.le_of_ble_eq_true rfl)) hi138 <| Y_aload_n dX12_laySwapped_139 rfl <| Y_dup dX12_laySwapped_140 rfl <| Y_getI dX12_laySwapped_141 f_11_408 ft_11_53 (xis W135 113 11 s_113 (Nat.le_of_ble_eq_true rfl)) <| Y_iconst 1 dX12_laySwapped_144 ic_1 <| Y_iadd dX12_laySwapped_145 <| Y_putI dX12_laySwapped_146 f_11_408 fn_11_53 ft_11_53 (xis W135 113 11 s_113 (Nat.le_of_ble_eq_true rfl)) <| X_le (xle_s (xle_s (xle_s (xle_n xle_0)))) k
theorem bX12_laySwapped_149 {d : Nat} {g : xSt} {r : Option Value × xSt} {a1 a2 : Int32} (k : xX (d + 1) mX12_laySwapped 7 [some (.ref 113), some (.int a1), some (.int (a2 + 1)), none] [] g = some r) : xX (d + 1) mX12_laySwapped 149 [some (.ref 113), some (.int a1), some (.int a2), none] [] g = some r :=
  Y_iinc 1 dX12_laySwapped_149 rfl ic_1 rfl rfl <| Y_goto 7 dX12_laySwapped_152 rfl <| X_le (xle_s (xle_s (xle_s (xle_n xle_0)))) k
theorem bX12_laySwapped_155 {d : Nat} {g : xSt} {r : Option Value × xSt}  (k : r = (none, g)) : xX (d + 1) mX12_laySwapped 155 [none, none, none, none] [] g = some r :=
  Y_ret dX12_laySwapped_155 rfl k
theorem bX12_orderOf_0 {d : Nat} {g : xSt} {r : Option Value × xSt}  (k : xX (d + 1) mX12_orderOf 2 [some (.ref 113), some (.int 0), none, none] [] g = some r) : xX (d + 1) mX12_orderOf 0 [some (.ref 113), none, none, none] [] g = some r :=
  Y_iconst 0 dX12_orderOf_0 ic_0 <| Y_istore_n dX12_orderOf_1 rfl rfl <| X_le (xle_s (xle_s (xle_n (xle_n xle_0)))) k
theorem bX12_orderOf_2 {d : Nat} {g : xSt} {r : Option Value × xSt} {a1 : Int32} (W : xWf g) (k1 : (xI g 113 34) ≤ a1 → xX (d + 1) mX12_orderOf 69 [none, none, none, none] [] g = some r) (k2 : ¬ ((xI g 113 34) ≤ a1) → xX (d + 1) mX12_orderOf 10 [some (.ref 113), some (.int a1), none, none] [] g = some r) : xX (d + 1) mX12_orderOf 2 [some (.ref 113), some (.int a1), none, none] [] g = some r :=
  Y_iload_n dX12_orderOf_2 rfl <| Y_aload_n dX12_orderOf_3 rfl <| Y_getI dX12_orderOf_4 f_11_371 ft_11_34 (xis W 113 11 s_113 (Nat.le_of_ble_eq_true rfl)) <| Y_ge 69 dX12_orderOf_7 rfl (fun q => X_le (xle_n (xle_n (xle_n (xle_n xle_0)))) (k1 q)) (fun q => X_le (xle_s (xle_s (xle_n (xle_n xle_0)))) (k2 q))
theorem bX12_orderOf_10 {d : Nat} {g : xSt} {r : Option Value × xSt} {a1 : Int32} (k : xX (d + 1) mX12_orderOf 14 [some (.ref 113), some (.int a1), some (.int 1), some (.int 0)] [] g = some r) : xX (d + 1) mX12_orderOf 10 [some (.ref 113), some (.int a1), none, none] [] g = some r :=
  Y_iconst 1 dX12_orderOf_10 ic_1 <| Y_istore_n dX12_orderOf_11 rfl rfl <| Y_iconst 0 dX12_orderOf_12 ic_0 <| Y_istore_n dX12_orderOf_13 rfl rfl <| X_le (xle_s (xle_s (xle_s (xle_s xle_0)))) k
theorem bX12_orderOf_14 {d : Nat} {g : xSt} {r : Option Value × xSt} {a1 a2 a3 r16 : Int32} {g16 : xSt} (W : xWf g) (hk16 : xCallM d mX12_thingMany [.ref 113] g = some (some (.int r16), g16)) (W16 : xWf g16) (k1 : r16 ≤ a3 → xX (d + 1) mX12_orderOf 57 [some (.ref 113), some (.int a1), some (.int a2), none] [] g16 = some r) (k2 : ¬ (r16 ≤ a3) → xX (d + 1) mX12_orderOf 22 [some (.ref 113), some (.int a1), some (.int a2), some (.int a3)] [] g16 = some r) : xX (d + 1) mX12_orderOf 14 [some (.ref 113), some (.int a1), some (.int a2), some (.int a3)] [] g = some r :=
  Y_iload_n dX12_orderOf_14 rfl <| Y_aload_n dX12_orderOf_15 rfl <| Y_callV1 dX12_orderOf_16 cl_11_364 rfl rfl (xis W 113 11 s_113 (Nat.le_of_ble_eq_true rfl)) rfl rfl rfl (hk16) <| Y_ge 57 dX12_orderOf_19 rfl (fun q => X_le (xle_s (xle_s (xle_s (xle_n xle_0)))) (k1 q)) (fun q => X_le (xle_s (xle_s (xle_s (xle_s xle_0)))) (k2 q))
theorem bX12_orderOf_22 {d : Nat} {g : xSt} {r : Option Value × xSt} {a1 a2 a3 : Int32} (k1 : a2 = 0 → xX (d + 1) mX12_orderOf 49 [some (.ref 113), some (.int a1), none, some (.int a3)] [] g = some r) (k2 : ¬ (a2 = 0) → xX (d + 1) mX12_orderOf 26 [some (.ref 113), some (.int a1), none, some (.int a3)] [] g = some r) : xX (d + 1) mX12_orderOf 22 [some (.ref 113), some (.int a1), some (.int a2), some (.int a3)] [] g = some r :=
  Y_iload_n dX12_orderOf_22 rfl <| Y_eq0 49 dX12_orderOf_23 rfl (fun q => X_le (xle_s (xle_s (xle_n (xle_s xle_0)))) (k1 q)) (fun q => X_le (xle_s (xle_s (xle_n (xle_s xle_0)))) (k2 q))
theorem bX12_orderOf_26 {d : Nat} {g : xSt} {r : Option Value × xSt} {a1 a3 : Int32} (W : xWf g) (hi35 : vp_in ((5 * a1) + a3) 2705) (hi41 : vp_in a3 5) (k1 : (xI g 134 ((5 * a1) + a3).toNatClampNeg) = (xI g 135 a3.toNatClampNeg) → xX (d + 1) mX12_orderOf 45 [some (.ref 113), some (.int a1), none, some (.int a3)] [] g = some r) (k2 : ¬ ((xI g 134 ((5 * a1) + a3).toNatClampNeg) = (xI g 135 a3.toNatClampNeg)) → xX (d + 1) mX12_orderOf 49 [some (.ref 113), some (.int a1), none, some (.int a3)] [] g = some r) : xX (d + 1) mX12_orderOf 26 [some (.ref 113), some (.int a1), none, some (.int a3)] [] g = some r :=
  Y_aload_n dX12_orderOf_26 rfl <| Y_getR dX12_orderOf_27 f_11_77 (by rw [ft_11_32]; rfl) (xis W 113 11 s_113 (Nat.le_of_ble_eq_true rfl)) (xptr W 113 32 p_113_32) <| Y_iconst 5 dX12_orderOf_30 ic_5 <| Y_iload_n dX12_orderOf_31 rfl <| Y_imul dX12_orderOf_32 <| Y_iload_n dX12_orderOf_33 rfl <| Y_iadd dX12_orderOf_34 <| Y_iald dX12_orderOf_35 (xarr W (o := 134) s_134 (Nat.le_of_ble_eq_true rfl)) hi35 <| Y_aload_n dX12_orderOf_36 rfl <| Y_getR dX12_orderOf_37 f_11_80 (by rw [ft_11_33]; rfl) (xis W 113 11 s_113 (Nat.le_of_ble_eq_true rfl)) (xptr W 113 33 p_113_33) <| Y_iload_n dX12_orderOf_40 rfl <| Y_iald dX12_orderOf_41 (xarr W (o := 135) s_135 (Nat.le_of_ble_eq_true rfl)) hi41 <| Y_ne 49 dX12_orderOf_42 rfl (fun q => X_le (xle_s (xle_s (xle_n (xle_s xle_0)))) (k1 q)) (fun q => X_le (xle_s (xle_s (xle_n (xle_s xle_0)))) (k2 q))
theorem bX12_orderOf_45 {d : Nat} {g : xSt} {r : Option Value × xSt} {a1 a3 : Int32} (k : xX (d + 1) mX12_orderOf 50 [some (.ref 113), some (.int a1), none, some (.int a3)] [.int 1] g = some r) : xX (d + 1) mX12_orderOf 45 [some (.ref 113), some (.int a1), none, some (.int a3)] [] g = some r :=
  Y_iconst 1 dX12_orderOf_45 ic_1 <| Y_goto 50 dX12_orderOf_46 rfl <| X_le (xle_s (xle_s (xle_n (xle_s xle_0)))) k
theorem bX12_orderOf_49 {d : Nat} {g : xSt} {r : Option Value × xSt} {a1 a3 : Int32} (k : xX (d + 1) mX12_orderOf 50 [some (.ref 113), some (.int a1), none, some (.int a3)] [.int 0] g = some r) : xX (d + 1) mX12_orderOf 49 [some (.ref 113), some (.int a1), none, some (.int a3)] [] g = some r :=
  Y_iconst 0 dX12_orderOf_49 ic_0 <| X_le (xle_s (xle_s (xle_n (xle_s xle_0)))) k
theorem bX12_orderOf_50 {d : Nat} {g : xSt} {r : Option Value × xSt} {a1 a3 s0 : Int32} (k : xX (d + 1) mX12_orderOf 14 [some (.ref 113), some (.int a1), some (.int s0), some (.int (a3 + 1))] [] g = some r) : xX (d + 1) mX12_orderOf 50 [some (.ref 113), some (.int a1), none, some (.int a3)] [.int s0] g = some r :=
  Y_istore_n dX12_orderOf_50 rfl rfl <| Y_iinc 1 dX12_orderOf_51 rfl ic_1 rfl rfl <| Y_goto 14 dX12_orderOf_54 rfl <| X_le (xle_s (xle_s (xle_s (xle_s xle_0)))) k
theorem bX12_orderOf_57 {d : Nat} {g : xSt} {r : Option Value × xSt} {a1 a2 : Int32} (k1 : a2 = 0 → xX (d + 1) mX12_orderOf 63 [some (.ref 113), some (.int a1), none, none] [] g = some r) (k2 : ¬ (a2 = 0) → xX (d + 1) mX12_orderOf 61 [none, some (.int a1), none, none] [] g = some r) : xX (d + 1) mX12_orderOf 57 [some (.ref 113), some (.int a1), some (.int a2), none] [] g = some r :=
  Y_iload_n dX12_orderOf_57 rfl <| Y_eq0 63 dX12_orderOf_58 rfl (fun q => X_le (xle_s (xle_s (xle_n (xle_n xle_0)))) (k1 q)) (fun q => X_le (xle_n (xle_s (xle_n (xle_n xle_0)))) (k2 q))
theorem bX12_orderOf_61 {d : Nat} {g : xSt} {r : Option Value × xSt} {a1 : Int32} (k : r = (some (.int a1), g)) : xX (d + 1) mX12_orderOf 61 [none, some (.int a1), none, none] [] g = some r :=
  Y_iload_n dX12_orderOf_61 rfl <| Y_iret dX12_orderOf_62 rfl k
theorem bX12_orderOf_63 {d : Nat} {g : xSt} {r : Option Value × xSt} {a1 : Int32} (k : xX (d + 1) mX12_orderOf 2 [some (.ref 113), some (.int (a1 + 1)), none, none] [] g = some r) : xX (d + 1) mX12_orderOf 63 [some (.ref 113), some (.int a1), none, none] [] g = some r :=
  Y_iinc 1 dX12_orderOf_63 rfl ic_1 rfl rfl <| Y_goto 2 dX12_orderOf_66 rfl <| X_le (xle_s (xle_s (xle_n (xle_n xle_0)))) k
theorem bX12_orderOf_69 {d : Nat} {g : xSt} {r : Option Value × xSt}  (k : r = (some (.int (-1)), g)) : xX (d + 1) mX12_orderOf 69 [none, none, none, none] [] g = some r :=
  Y_iconst (-1) dX12_orderOf_69 ic_m1 <| Y_iret dX12_orderOf_70 rfl k
theorem bX12_weights_0 {d : Nat} {g : xSt} {r : Option Value × xSt} {a1 r7 : Int32} {g7 : xSt} (W : xWf g) (hk7 : xCallM d mX12_countWeights [.ref 113, .int a1] (xWI g 113 54 0) = some (some (.int r7), g7)) (W7 : xWf g7) (k1 : r7 = 0 → xX (d + 1) mX12_weights 15 [none, none, none, none] [] g7 = some r) (k2 : ¬ (r7 = 0) → xX (d + 1) mX12_weights 17 [some (.ref 113), none, some (.int r7), none] [] g7 = some r) : xX (d + 1) mX12_weights 0 [some (.ref 113), some (.int a1), none, none] [] g = some r :=
  Y_aload_n dX12_weights_0 rfl <| Y_iconst 0 dX12_weights_1 ic_0 <| Y_putI dX12_weights_2 f_11_313 fn_11_54 ft_11_54 (xis W 113 11 s_113 (Nat.le_of_ble_eq_true rfl)) <| Y_aload_n dX12_weights_5 rfl <| Y_iload_n dX12_weights_6 rfl <| Y_callV1 dX12_weights_7 cl_11_573 rfl rfl (xis W 113 11 s_113 (Nat.le_of_ble_eq_true rfl)) rfl rfl rfl (hk7) <| Y_istore_n dX12_weights_10 rfl rfl <| Y_iload_n dX12_weights_11 rfl <| Y_ne0 17 dX12_weights_12 rfl (fun q => X_le (xle_n (xle_n (xle_n (xle_n xle_0)))) (k1 q)) (fun q => X_le (xle_s (xle_n (xle_s (xle_n xle_0)))) (k2 q))
theorem bX12_weights_15 {d : Nat} {g : xSt} {r : Option Value × xSt}  (k : r = (some (.int 0), g)) : xX (d + 1) mX12_weights 15 [none, none, none, none] [] g = some r :=
  Y_iconst 0 dX12_weights_15 ic_0 <| Y_iret dX12_weights_16 rfl k
theorem bX12_weights_17 {d : Nat} {g : xSt} {r : Option Value × xSt} {a2 : Int32} (k : xX (d + 1) mX12_weights 19 [some (.ref 113), none, some (.int a2), some (.int 0)] [] g = some r) : xX (d + 1) mX12_weights 17 [some (.ref 113), none, some (.int a2), none] [] g = some r :=
  Y_iconst 0 dX12_weights_17 ic_0 <| Y_istore_n dX12_weights_18 rfl rfl <| X_le (xle_s (xle_n (xle_s (xle_s xle_0)))) k
theorem bX12_weights_19 {d : Nat} {g : xSt} {r : Option Value × xSt} {a2 a3 r21 : Int32} {g21 : xSt} (W : xWf g) (hk21 : xCallM d mX12_thingMany [.ref 113] g = some (some (.int r21), g21)) (W21 : xWf g21) (k1 : r21 ≤ a3 → xX (d + 1) mX12_weights 45 [some (.ref 113), none, some (.int a2), none] [] g21 = some r) (k2 : ¬ (r21 ≤ a3) → xX (d + 1) mX12_weights 27 [some (.ref 113), none, some (.int a2), some (.int a3)] [] g21 = some r) : xX (d + 1) mX12_weights 19 [some (.ref 113), none, some (.int a2), some (.int a3)] [] g = some r :=
  Y_iload_n dX12_weights_19 rfl <| Y_aload_n dX12_weights_20 rfl <| Y_callV1 dX12_weights_21 cl_11_364 rfl rfl (xis W 113 11 s_113 (Nat.le_of_ble_eq_true rfl)) rfl rfl rfl (hk21) <| Y_ge 45 dX12_weights_24 rfl (fun q => X_le (xle_s (xle_n (xle_s (xle_n xle_0)))) (k1 q)) (fun q => X_le (xle_s (xle_n (xle_s (xle_s xle_0)))) (k2 q))
theorem bX12_weights_27 {d : Nat} {g : xSt} {r : Option Value × xSt} {a2 a3 : Int32} (W : xWf g) (hi37 : vp_in a3 5) (hi38 : vp_in a3 25) (k : xX (d + 1) mX12_weights 19 [some (.ref 113), none, some (.int a2), some (.int (a3 + 1))] [] (xWI g 149 a3.toNatClampNeg (xI g 169 a3.toNatClampNeg)) = some r) : xX (d + 1) mX12_weights 27 [some (.ref 113), none, some (.int a2), some (.int a3)] [] g = some r :=
  Y_aload_n dX12_weights_27 rfl <| Y_getR dX12_weights_28 f_11_122 (by rw [ft_11_52]; rfl) (xis W 113 11 s_113 (Nat.le_of_ble_eq_true rfl)) (xptr W 113 52 p_113_52) <| Y_iload_n dX12_weights_31 rfl <| Y_aload_n dX12_weights_32 rfl <| Y_getR dX12_weights_33 f_11_182 (by rw [ft_11_78]; rfl) (xis W 113 11 s_113 (Nat.le_of_ble_eq_true rfl)) (xptr W 113 78 p_113_78) <| Y_iload_n dX12_weights_36 rfl <| Y_iald dX12_weights_37 (xarr W (o := 169) s_169 (Nat.le_of_ble_eq_true rfl)) hi37 <| Y_iast dX12_weights_38 (xarr W (o := 149) s_149 (Nat.le_of_ble_eq_true rfl)) hi38 <| Y_iinc 1 dX12_weights_39 rfl ic_1 rfl rfl <| Y_goto 19 dX12_weights_42 rfl <| X_le (xle_s (xle_n (xle_s (xle_s xle_0)))) k
theorem bX12_weights_45 {d : Nat} {g : xSt} {r : Option Value × xSt} {a2 r47 : Int32} {g47 : xSt} (W : xWf g) (hk47 : xCallM d mX12_thingMany [.ref 113] g = some (some (.int r47), g47)) (W47 : xWf g47) (k : r = (some (.int a2), xWI g47 113 54 r47)) : xX (d + 1) mX12_weights 45 [some (.ref 113), none, some (.int a2), none] [] g = some r :=
  Y_aload_n dX12_weights_45 rfl <| Y_aload_n dX12_weights_46 rfl <| Y_callV1 dX12_weights_47 cl_11_364 rfl rfl (xis W 113 11 s_113 (Nat.le_of_ble_eq_true rfl)) rfl rfl rfl (hk47) <| Y_putI dX12_weights_50 f_11_313 fn_11_54 ft_11_54 (xis W47 113 11 s_113 (Nat.le_of_ble_eq_true rfl)) <| Y_iload_n dX12_weights_53 rfl <| Y_iret dX12_weights_54 rfl k
theorem bX12_countWeights_0 {d : Nat} {g : xSt} {r : Option Value × xSt} {a1 : Int32} (k : xX (d + 1) mX12_countWeights 4 [some (.ref 113), some (.int a1), some (.int 0), some (.int 0), none, none] [] g = some r) : xX (d + 1) mX12_countWeights 0 [some (.ref 113), some (.int a1), none, none, none, none] [] g = some r :=
  Y_iconst 0 dX12_countWeights_0 ic_0 <| Y_istore_n dX12_countWeights_1 rfl rfl <| Y_iconst 0 dX12_countWeights_2 ic_0 <| Y_istore_n dX12_countWeights_3 rfl rfl <| X_le (xle_s (xle_s (xle_s (xle_s (xle_n (xle_n xle_0)))))) k
theorem bX12_countWeights_4 {d : Nat} {g : xSt} {r : Option Value × xSt} {a1 a2 a3 r6 : Int32} {g6 : xSt} (W : xWf g) (hk6 : xCallM d mX12_weightRows [.ref 113] g = some (some (.int r6), g6)) (W6 : xWf g6) (k1 : r6 ≤ a3 → xX (d + 1) mX12_countWeights 127 [none, none, some (.int a2), none, none, none] [] g6 = some r) (k2 : ¬ (r6 ≤ a3) → xX (d + 1) mX12_countWeights 12 [some (.ref 113), some (.int a1), some (.int a2), some (.int a3), none, none] [] g6 = some r) : xX (d + 1) mX12_countWeights 4 [some (.ref 113), some (.int a1), some (.int a2), some (.int a3), none, none] [] g = some r :=
  Y_iload_n dX12_countWeights_4 rfl <| Y_aload_n dX12_countWeights_5 rfl <| Y_callV1 dX12_countWeights_6 cl_11_564 rfl rfl (xis W 113 11 s_113 (Nat.le_of_ble_eq_true rfl)) rfl rfl rfl (hk6) <| Y_ge 127 dX12_countWeights_9 rfl (fun q => X_le (xle_n (xle_n (xle_s (xle_n (xle_n (xle_n xle_0)))))) (k1 q)) (fun q => X_le (xle_s (xle_s (xle_s (xle_s (xle_n (xle_n xle_0)))))) (k2 q))
theorem bX12_countWeights_12 {d : Nat} {g : xSt} {r : Option Value × xSt} {a1 a2 a3 r19 : Int32} {g14 g19 : xSt} (W : xWf g) (hk14 : xCallM d mX12_layWeights [.ref 113, .int a3] g = some (none, g14)) (W14 : xWf g14) (hk19 : xCallM d mX12_doFit [.ref 113, .int a1] g14 = some (some (.int r19), g19)) (W19 : xWf g19) (k1 : r19 = 0 → xX (d + 1) mX12_countWeights 25 [some (.ref 113), some (.int a1), some (.int a2), some (.int a3), none, none] [] g19 = some r) (k2 : ¬ (r19 = 0) → xX (d + 1) mX12_countWeights 28 [some (.ref 113), some (.int a1), some (.int a2), some (.int a3), none, none] [] g19 = some r) : xX (d + 1) mX12_countWeights 12 [some (.ref 113), some (.int a1), some (.int a2), some (.int a3), none, none] [] g = some r :=
  Y_aload_n dX12_countWeights_12 rfl <| Y_iload_n dX12_countWeights_13 rfl <| Y_callV0 dX12_countWeights_14 cl_11_567 rfl rfl (xis W 113 11 s_113 (Nat.le_of_ble_eq_true rfl)) rfl rfl rfl (hk14) <| Y_aload_n dX12_countWeights_17 rfl <| Y_iload_n dX12_countWeights_18 rfl <| Y_callV1 dX12_countWeights_19 cl_11_570 rfl rfl (xis W14 113 11 s_113 (Nat.le_of_ble_eq_true rfl)) rfl rfl rfl (hk19) <| Y_ne0 28 dX12_countWeights_22 rfl (fun q => X_le (xle_s (xle_s (xle_s (xle_s (xle_n (xle_n xle_0)))))) (k1 q)) (fun q => X_le (xle_s (xle_s (xle_s (xle_s (xle_n (xle_n xle_0)))))) (k2 q))
theorem bX12_countWeights_25 {d : Nat} {g : xSt} {r : Option Value × xSt} {a1 a2 a3 : Int32} (k : xX (d + 1) mX12_countWeights 121 [some (.ref 113), some (.int a1), some (.int a2), some (.int a3), none, none] [] g = some r) : xX (d + 1) mX12_countWeights 25 [some (.ref 113), some (.int a1), some (.int a2), some (.int a3), none, none] [] g = some r :=
  Y_goto 121 dX12_countWeights_25 rfl <| X_le (xle_s (xle_s (xle_s (xle_s (xle_n (xle_n xle_0)))))) k
theorem bX12_countWeights_28 {d : Nat} {g : xSt} {r : Option Value × xSt} {a1 a2 a3 : Int32} (k : xX (d + 1) mX12_countWeights 31 [some (.ref 113), some (.int a1), some (.int a2), some (.int a3), some (.int 0), none] [] g = some r) : xX (d + 1) mX12_countWeights 28 [some (.ref 113), some (.int a1), some (.int a2), some (.int a3), none, none] [] g = some r :=
  Y_iconst 0 dX12_countWeights_28 ic_0 <| Y_istore dX12_countWeights_29 rfl rfl <| X_le (xle_s (xle_s (xle_s (xle_s (xle_s (xle_n xle_0)))))) k
theorem bX12_countWeights_31 {d : Nat} {g : xSt} {r : Option Value × xSt} {a1 a2 a3 a4 r34 : Int32} {g34 : xSt} (W : xWf g) (hk34 : xCallM d mX12_thingMany [.ref 113] g = some (some (.int r34), g34)) (W34 : xWf g34) (k1 : r34 ≤ a4 → xX (d + 1) mX12_countWeights 118 [some (.ref 113), some (.int a1), some (.int a2), some (.int a3), none, none] [] g34 = some r) (k2 : ¬ (r34 ≤ a4) → xX (d + 1) mX12_countWeights 40 [some (.ref 113), some (.int a1), some (.int a2), some (.int a3), some (.int a4), none] [] g34 = some r) : xX (d + 1) mX12_countWeights 31 [some (.ref 113), some (.int a1), some (.int a2), some (.int a3), some (.int a4), none] [] g = some r :=
  Y_iload dX12_countWeights_31 rfl <| Y_aload_n dX12_countWeights_33 rfl <| Y_callV1 dX12_countWeights_34 cl_11_364 rfl rfl (xis W 113 11 s_113 (Nat.le_of_ble_eq_true rfl)) rfl rfl rfl (hk34) <| Y_ge 118 dX12_countWeights_37 rfl (fun q => X_le (xle_s (xle_s (xle_s (xle_s (xle_n (xle_n xle_0)))))) (k1 q)) (fun q => X_le (xle_s (xle_s (xle_s (xle_s (xle_s (xle_n xle_0)))))) (k2 q))
theorem bX12_countWeights_40 {d : Nat} {g : xSt} {r : Option Value × xSt} {a1 a2 a3 a4 : Int32} (W : xWf g) (hi46 : vp_in a4 5) (k1 : a2 = 0 → xX (d + 1) mX12_countWeights 53 [some (.ref 113), some (.int a1), some (.int a2), some (.int a3), some (.int a4), some (.int (xI g 166 a4.toNatClampNeg))] [] g = some r) (k2 : ¬ (a2 = 0) → xX (d + 1) mX12_countWeights 62 [some (.ref 113), some (.int a1), some (.int a2), some (.int a3), some (.int a4), some (.int (xI g 166 a4.toNatClampNeg))] [] g = some r) : xX (d + 1) mX12_countWeights 40 [some (.ref 113), some (.int a1), some (.int a2), some (.int a3), some (.int a4), none] [] g = some r :=
  Y_aload_n dX12_countWeights_40 rfl <| Y_getR dX12_countWeights_41 f_11_173 (by rw [ft_11_75]; rfl) (xis W 113 11 s_113 (Nat.le_of_ble_eq_true rfl)) (xptr W 113 75 p_113_75) <| Y_iload dX12_countWeights_44 rfl <| Y_iald dX12_countWeights_46 (xarr W (o := 166) s_166 (Nat.le_of_ble_eq_true rfl)) hi46 <| Y_istore dX12_countWeights_47 rfl rfl <| Y_iload_n dX12_countWeights_49 rfl <| Y_ne0 62 dX12_countWeights_50 rfl (fun q => X_le (xle_s (xle_s (xle_s (xle_s (xle_s (xle_s xle_0)))))) (k1 q)) (fun q => X_le (xle_s (xle_s (xle_s (xle_s (xle_s (xle_s xle_0)))))) (k2 q))
theorem bX12_countWeights_53 {d : Nat} {g : xSt} {r : Option Value × xSt} {a1 a2 a3 a4 a5 : Int32} (W : xWf g) (hi61 : vp_in a4 5) (k : xX (d + 1) mX12_countWeights 62 [some (.ref 113), some (.int a1), some (.int a2), some (.int a3), some (.int a4), some (.int a5)] [] (xWI g 169 a4.toNatClampNeg a5) = some r) : xX (d + 1) mX12_countWeights 53 [some (.ref 113), some (.int a1), some (.int a2), some (.int a3), some (.int a4), some (.int a5)] [] g = some r :=
  Y_aload_n dX12_countWeights_53 rfl <| Y_getR dX12_countWeights_54 f_11_182 (by rw [ft_11_78]; rfl) (xis W 113 11 s_113 (Nat.le_of_ble_eq_true rfl)) (xptr W 113 78 p_113_78) <| Y_iload dX12_countWeights_57 rfl <| Y_iload dX12_countWeights_59 rfl <| Y_iast dX12_countWeights_61 (xarr W (o := 169) s_169 (Nat.le_of_ble_eq_true rfl)) hi61 <| X_le (xle_s (xle_s (xle_s (xle_s (xle_s (xle_s xle_0)))))) k
theorem bX12_countWeights_62 {d : Nat} {g : xSt} {r : Option Value × xSt} {a1 a2 a3 a4 a5 : Int32} (k1 : a2 = 0 → xX (d + 1) mX12_countWeights 78 [some (.ref 113), some (.int a1), some (.int a2), some (.int a3), some (.int a4), some (.int a5)] [] g = some r) (k2 : ¬ (a2 = 0) → xX (d + 1) mX12_countWeights 66 [some (.ref 113), some (.int a1), some (.int a2), some (.int a3), some (.int a4), some (.int a5)] [] g = some r) : xX (d + 1) mX12_countWeights 62 [some (.ref 113), some (.int a1), some (.int a2), some (.int a3), some (.int a4), some (.int a5)] [] g = some r :=
  Y_iload_n dX12_countWeights_62 rfl <| Y_eq0 78 dX12_countWeights_63 rfl (fun q => X_le (xle_s (xle_s (xle_s (xle_s (xle_s (xle_s xle_0)))))) (k1 q)) (fun q => X_le (xle_s (xle_s (xle_s (xle_s (xle_s (xle_s xle_0)))))) (k2 q))
theorem bX12_countWeights_66 {d : Nat} {g : xSt} {r : Option Value × xSt} {a1 a2 a3 a4 a5 : Int32} (W : xWf g) (hi74 : vp_in a4 5) (k1 : (xI g 167 a4.toNatClampNeg) ≤ a5 → xX (d + 1) mX12_countWeights 87 [some (.ref 113), some (.int a1), some (.int a2), some (.int a3), some (.int a4), some (.int a5)] [] g = some r) (k2 : ¬ ((xI g 167 a4.toNatClampNeg) ≤ a5) → xX (d + 1) mX12_countWeights 78 [some (.ref 113), some (.int a1), some (.int a2), some (.int a3), some (.int a4), some (.int a5)] [] g = some r) : xX (d + 1) mX12_countWeights 66 [some (.ref 113), some (.int a1), some (.int a2), some (.int a3), some (.int a4), some (.int a5)] [] g = some r :=
  Y_iload dX12_countWeights_66 rfl <| Y_aload_n dX12_countWeights_68 rfl <| Y_getR dX12_countWeights_69 f_11_176 (by rw [ft_11_76]; rfl) (xis W 113 11 s_113 (Nat.le_of_ble_eq_true rfl)) (xptr W 113 76 p_113_76) <| Y_iload dX12_countWeights_72 rfl <| Y_iald dX12_countWeights_74 (xarr W (o := 167) s_167 (Nat.le_of_ble_eq_true rfl)) hi74 <| Y_ge 87 dX12_countWeights_75 rfl (fun q => X_le (xle_s (xle_s (xle_s (xle_s (xle_s (xle_s xle_0)))))) (k1 q)) (fun q => X_le (xle_s (xle_s (xle_s (xle_s (xle_s (xle_s xle_0)))))) (k2 q))
theorem bX12_countWeights_78 {d : Nat} {g : xSt} {r : Option Value × xSt} {a1 a2 a3 a4 a5 : Int32} (W : xWf g) (hi86 : vp_in a4 5) (k : xX (d + 1) mX12_countWeights 87 [some (.ref 113), some (.int a1), some (.int a2), some (.int a3), some (.int a4), some (.int a5)] [] (xWI g 167 a4.toNatClampNeg a5) = some r) : xX (d + 1) mX12_countWeights 78 [some (.ref 113), some (.int a1), some (.int a2), some (.int a3), some (.int a4), some (.int a5)] [] g = some r :=
  Y_aload_n dX12_countWeights_78 rfl <| Y_getR dX12_countWeights_79 f_11_176 (by rw [ft_11_76]; rfl) (xis W 113 11 s_113 (Nat.le_of_ble_eq_true rfl)) (xptr W 113 76 p_113_76) <| Y_iload dX12_countWeights_82 rfl <| Y_iload dX12_countWeights_84 rfl <| Y_iast dX12_countWeights_86 (xarr W (o := 167) s_167 (Nat.le_of_ble_eq_true rfl)) hi86 <| X_le (xle_s (xle_s (xle_s (xle_s (xle_s (xle_s xle_0)))))) k
theorem bX12_countWeights_87 {d : Nat} {g : xSt} {r : Option Value × xSt} {a1 a2 a3 a4 a5 : Int32} (k1 : a2 = 0 → xX (d + 1) mX12_countWeights 103 [some (.ref 113), some (.int a1), some (.int a2), some (.int a3), some (.int a4), some (.int a5)] [] g = some r) (k2 : ¬ (a2 = 0) → xX (d + 1) mX12_countWeights 91 [some (.ref 113), some (.int a1), some (.int a2), some (.int a3), some (.int a4), some (.int a5)] [] g = some r) : xX (d + 1) mX12_countWeights 87 [some (.ref 113), some (.int a1), some (.int a2), some (.int a3), some (.int a4), some (.int a5)] [] g = some r :=
  Y_iload_n dX12_countWeights_87 rfl <| Y_eq0 103 dX12_countWeights_88 rfl (fun q => X_le (xle_s (xle_s (xle_s (xle_s (xle_s (xle_s xle_0)))))) (k1 q)) (fun q => X_le (xle_s (xle_s (xle_s (xle_s (xle_s (xle_s xle_0)))))) (k2 q))
theorem bX12_countWeights_91 {d : Nat} {g : xSt} {r : Option Value × xSt} {a1 a2 a3 a4 a5 : Int32} (W : xWf g) (hi99 : vp_in a4 5) (k1 : a5 ≤ (xI g 168 a4.toNatClampNeg) → xX (d + 1) mX12_countWeights 112 [some (.ref 113), some (.int a1), some (.int a2), some (.int a3), some (.int a4), none] [] g = some r) (k2 : ¬ (a5 ≤ (xI g 168 a4.toNatClampNeg)) → xX (d + 1) mX12_countWeights 103 [some (.ref 113), some (.int a1), some (.int a2), some (.int a3), some (.int a4), some (.int a5)] [] g = some r) : xX (d + 1) mX12_countWeights 91 [some (.ref 113), some (.int a1), some (.int a2), some (.int a3), some (.int a4), some (.int a5)] [] g = some r :=
  Y_iload dX12_countWeights_91 rfl <| Y_aload_n dX12_countWeights_93 rfl <| Y_getR dX12_countWeights_94 f_11_179 (by rw [ft_11_77]; rfl) (xis W 113 11 s_113 (Nat.le_of_ble_eq_true rfl)) (xptr W 113 77 p_113_77) <| Y_iload dX12_countWeights_97 rfl <| Y_iald dX12_countWeights_99 (xarr W (o := 168) s_168 (Nat.le_of_ble_eq_true rfl)) hi99 <| Y_le 112 dX12_countWeights_100 rfl (fun q => X_le (xle_s (xle_s (xle_s (xle_s (xle_s (xle_n xle_0)))))) (k1 q)) (fun q => X_le (xle_s (xle_s (xle_s (xle_s (xle_s (xle_s xle_0)))))) (k2 q))
theorem bX12_countWeights_103 {d : Nat} {g : xSt} {r : Option Value × xSt} {a1 a2 a3 a4 a5 : Int32} (W : xWf g) (hi111 : vp_in a4 5) (k : xX (d + 1) mX12_countWeights 112 [some (.ref 113), some (.int a1), some (.int a2), some (.int a3), some (.int a4), none] [] (xWI g 168 a4.toNatClampNeg a5) = some r) : xX (d + 1) mX12_countWeights 103 [some (.ref 113), some (.int a1), some (.int a2), some (.int a3), some (.int a4), some (.int a5)] [] g = some r :=
  Y_aload_n dX12_countWeights_103 rfl <| Y_getR dX12_countWeights_104 f_11_179 (by rw [ft_11_77]; rfl) (xis W 113 11 s_113 (Nat.le_of_ble_eq_true rfl)) (xptr W 113 77 p_113_77) <| Y_iload dX12_countWeights_107 rfl <| Y_iload dX12_countWeights_109 rfl <| Y_iast dX12_countWeights_111 (xarr W (o := 168) s_168 (Nat.le_of_ble_eq_true rfl)) hi111 <| X_le (xle_s (xle_s (xle_s (xle_s (xle_s (xle_n xle_0)))))) k
theorem bX12_countWeights_112 {d : Nat} {g : xSt} {r : Option Value × xSt} {a1 a2 a3 a4 : Int32} (k : xX (d + 1) mX12_countWeights 31 [some (.ref 113), some (.int a1), some (.int a2), some (.int a3), some (.int (a4 + 1)), none] [] g = some r) : xX (d + 1) mX12_countWeights 112 [some (.ref 113), some (.int a1), some (.int a2), some (.int a3), some (.int a4), none] [] g = some r :=
  Y_iinc 1 dX12_countWeights_112 rfl ic_1 rfl rfl <| Y_goto 31 dX12_countWeights_115 rfl <| X_le (xle_s (xle_s (xle_s (xle_s (xle_s (xle_n xle_0)))))) k
theorem bX12_countWeights_118 {d : Nat} {g : xSt} {r : Option Value × xSt} {a1 a2 a3 : Int32} (k : xX (d + 1) mX12_countWeights 121 [some (.ref 113), some (.int a1), some (.int (a2 + 1)), some (.int a3), none, none] [] g = some r) : xX (d + 1) mX12_countWeights 118 [some (.ref 113), some (.int a1), some (.int a2), some (.int a3), none, none] [] g = some r :=
  Y_iinc 1 dX12_countWeights_118 rfl ic_1 rfl rfl <| X_le (xle_s (xle_s (xle_s (xle_s (xle_n (xle_n xle_0)))))) k
theorem bX12_countWeights_121 {d : Nat} {g : xSt} {r : Option Value × xSt} {a1 a2 a3 : Int32} (k : xX (d + 1) mX12_countWeights 4 [some (.ref 113), some (.int a1), some (.int a2), some (.int (a3 + 1)), none, none] [] g = some r) : xX (d + 1) mX12_countWeights 121 [some (.ref 113), some (.int a1), some (.int a2), some (.int a3), none, none] [] g = some r :=
  Y_iinc 1 dX12_countWeights_121 rfl ic_1 rfl rfl <| Y_goto 4 dX12_countWeights_124 rfl <| X_le (xle_s (xle_s (xle_s (xle_s (xle_n (xle_n xle_0)))))) k
theorem bX12_countWeights_127 {d : Nat} {g : xSt} {r : Option Value × xSt} {a2 : Int32} (k : r = (some (.int a2), g)) : xX (d + 1) mX12_countWeights 127 [none, none, some (.int a2), none, none, none] [] g = some r :=
  Y_iload_n dX12_countWeights_127 rfl <| Y_iret dX12_countWeights_128 rfl k
theorem bX12_weightRows_0 {d : Nat} {g : xSt} {r : Option Value × xSt}  (k : xX (d + 1) mX12_weightRows 4 [some (.ref 113), some (.int 1), some (.int 0)] [] g = some r) : xX (d + 1) mX12_weightRows 0 [some (.ref 113), none, none] [] g = some r :=
  Y_iconst 1 dX12_weightRows_0 ic_1 <| Y_istore_n dX12_weightRows_1 rfl rfl <| Y_iconst 0 dX12_weightRows_2 ic_0 <| Y_istore_n dX12_weightRows_3 rfl rfl <| X_le (xle_s (xle_s (xle_s xle_0))) k
theorem bX12_weightRows_4 {d : Nat} {g : xSt} {r : Option Value × xSt} {a1 a2 r6 : Int32} {g6 : xSt} (W : xWf g) (hk6 : xCallM d mX12_thingMany [.ref 113] g = some (some (.int r6), g6)) (W6 : xWf g6) (k1 : r6 ≤ a2 → xX (d + 1) mX12_weightRows 23 [none, some (.int a1), none] [] g6 = some r) (k2 : ¬ (r6 ≤ a2) → xX (d + 1) mX12_weightRows 12 [some (.ref 113), some (.int a1), some (.int a2)] [] g6 = some r) : xX (d + 1) mX12_weightRows 4 [some (.ref 113), some (.int a1), some (.int a2)] [] g = some r :=
  Y_iload_n dX12_weightRows_4 rfl <| Y_aload_n dX12_weightRows_5 rfl <| Y_callV1 dX12_weightRows_6 cl_11_364 rfl rfl (xis W 113 11 s_113 (Nat.le_of_ble_eq_true rfl)) rfl rfl rfl (hk6) <| Y_ge 23 dX12_weightRows_9 rfl (fun q => X_le (xle_n (xle_s (xle_n xle_0))) (k1 q)) (fun q => X_le (xle_s (xle_s (xle_s xle_0))) (k2 q))
theorem bX12_weightRows_12 {d : Nat} {g : xSt} {r : Option Value × xSt} {a1 a2 : Int32} (k : xX (d + 1) mX12_weightRows 4 [some (.ref 113), some (.int (a1 * 6)), some (.int (a2 + 1))] [] g = some r) : xX (d + 1) mX12_weightRows 12 [some (.ref 113), some (.int a1), some (.int a2)] [] g = some r :=
  Y_iload_n dX12_weightRows_12 rfl <| Y_bipush 6 dX12_weightRows_13 bp_6 <| Y_imul dX12_weightRows_15 <| Y_istore_n dX12_weightRows_16 rfl rfl <| Y_iinc 1 dX12_weightRows_17 rfl ic_1 rfl rfl <| Y_goto 4 dX12_weightRows_20 rfl <| X_le (xle_s (xle_s (xle_s xle_0))) k
theorem bX12_weightRows_23 {d : Nat} {g : xSt} {r : Option Value × xSt} {a1 : Int32} (k : r = (some (.int a1), g)) : xX (d + 1) mX12_weightRows 23 [none, some (.int a1), none] [] g = some r :=
  Y_iload_n dX12_weightRows_23 rfl <| Y_iret dX12_weightRows_24 rfl k
theorem bX12_layWeights_0 {d : Nat} {g : xSt} {r : Option Value × xSt} {a1 r3 : Int32} {g3 : xSt} (W : xWf g) (hk3 : xCallM d mX12_thingMany [.ref 113] g = some (some (.int r3), g3)) (W3 : xWf g3) (k : xX (d + 1) mX12_layWeights 9 [some (.ref 113), none, some (.int a1), some (.int (r3 - 1))] [] g3 = some r) : xX (d + 1) mX12_layWeights 0 [some (.ref 113), some (.int a1), none, none] [] g = some r :=
  Y_iload_n dX12_layWeights_0 rfl <| Y_istore_n dX12_layWeights_1 rfl rfl <| Y_aload_n dX12_layWeights_2 rfl <| Y_callV1 dX12_layWeights_3 cl_11_364 rfl rfl (xis W 113 11 s_113 (Nat.le_of_ble_eq_true rfl)) rfl rfl rfl (hk3) <| Y_iconst 1 dX12_layWeights_6 ic_1 <| Y_isub dX12_layWeights_7 <| Y_istore_n dX12_layWeights_8 rfl rfl <| X_le (xle_s (xle_n (xle_s (xle_s xle_0)))) k
theorem bX12_layWeights_9 {d : Nat} {g : xSt} {r : Option Value × xSt} {a2 a3 : Int32} (k1 : a3 < 0 → xX (d + 1) mX12_layWeights 36 [none, none, none, none] [] g = some r) (k2 : ¬ (a3 < 0) → xX (d + 1) mX12_layWeights 13 [some (.ref 113), none, some (.int a2), some (.int a3)] [] g = some r) : xX (d + 1) mX12_layWeights 9 [some (.ref 113), none, some (.int a2), some (.int a3)] [] g = some r :=
  Y_iload_n dX12_layWeights_9 rfl <| Y_lt0 36 dX12_layWeights_10 rfl (fun q => X_le (xle_n (xle_n (xle_n (xle_n xle_0)))) (k1 q)) (fun q => X_le (xle_s (xle_n (xle_s (xle_s xle_0)))) (k2 q))
theorem bX12_layWeights_13 {d : Nat} {g : xSt} {r : Option Value × xSt} {a2 a3 : Int32} (W : xWf g) (hi24 : vp_in a3 5) (k : xX (d + 1) mX12_layWeights 9 [some (.ref 113), none, some (.int (a2 / 6)), some (.int (a3 + (-1)))] [] (xWI g 166 a3.toNatClampNeg (1 + (a2 - a2 / 6 * 6))) = some r) : xX (d + 1) mX12_layWeights 13 [some (.ref 113), none, some (.int a2), some (.int a3)] [] g = some r :=
  Y_aload_n dX12_layWeights_13 rfl <| Y_getR dX12_layWeights_14 f_11_173 (by rw [ft_11_75]; rfl) (xis W 113 11 s_113 (Nat.le_of_ble_eq_true rfl)) (xptr W 113 75 p_113_75) <| Y_iload_n dX12_layWeights_17 rfl <| Y_iconst 1 dX12_layWeights_18 ic_1 <| Y_iload_n dX12_layWeights_19 rfl <| Y_bipush 6 dX12_layWeights_20 bp_6 <| Y_irem dX12_layWeights_22 (by decide) <| Y_iadd dX12_layWeights_23 <| Y_iast dX12_layWeights_24 (xarr W (o := 166) s_166 (Nat.le_of_ble_eq_true rfl)) hi24 <| Y_iload_n dX12_layWeights_25 rfl <| Y_bipush 6 dX12_layWeights_26 bp_6 <| Y_idiv dX12_layWeights_28 (by decide) <| Y_istore_n dX12_layWeights_29 rfl rfl <| Y_iinc (-1) dX12_layWeights_30 rfl ic_m1 rfl rfl <| Y_goto 9 dX12_layWeights_33 rfl <| X_le (xle_s (xle_n (xle_s (xle_s xle_0)))) k
theorem bX12_layWeights_36 {d : Nat} {g : xSt} {r : Option Value × xSt}  (k : r = (none, g)) : xX (d + 1) mX12_layWeights 36 [none, none, none, none] [] g = some r :=
  Y_ret dX12_layWeights_36 rfl k
theorem bX12_doFit_0 {d : Nat} {g : xSt} {r : Option Value × xSt} {a1 : Int32} (k : xX (d + 1) mX12_doFit 2 [some (.ref 113), some (.int a1), some (.int 0)] [] g = some r) : xX (d + 1) mX12_doFit 0 [some (.ref 113), some (.int a1), none] [] g = some r :=
  Y_iconst 0 dX12_doFit_0 ic_0 <| Y_istore_n dX12_doFit_1 rfl rfl <| X_le (xle_s (xle_s (xle_s xle_0))) k
theorem bX12_doFit_2 {d : Nat} {g : xSt} {r : Option Value × xSt} {a1 a2 : Int32} (W : xWf g) (k1 : (xI g 113 44) ≤ a2 → xX (d + 1) mX12_doFit 52 [none, none, none] [] g = some r) (k2 : ¬ ((xI g 113 44) ≤ a2) → xX (d + 1) mX12_doFit 10 [some (.ref 113), some (.int a1), some (.int a2)] [] g = some r) : xX (d + 1) mX12_doFit 2 [some (.ref 113), some (.int a1), some (.int a2)] [] g = some r :=
  Y_iload_n dX12_doFit_2 rfl <| Y_aload_n dX12_doFit_3 rfl <| Y_getI dX12_doFit_4 f_11_304 ft_11_44 (xis W 113 11 s_113 (Nat.le_of_ble_eq_true rfl)) <| Y_ge 52 dX12_doFit_7 rfl (fun q => X_le (xle_n (xle_n (xle_n xle_0))) (k1 q)) (fun q => X_le (xle_s (xle_s (xle_s xle_0))) (k2 q))
theorem bX12_doFit_10 {d : Nat} {g : xSt} {r : Option Value × xSt} {a1 a2 r13 : Int32} {g13 : xSt} (W : xWf g) (hk13 : xCallM d mX12_counts [.ref 113, .int a2, .int a1] g = some (some (.int r13), g13)) (W13 : xWf g13) (k1 : r13 = 0 → xX (d + 1) mX12_doFit 46 [some (.ref 113), some (.int a1), some (.int a2)] [] g13 = some r) (k2 : ¬ (r13 = 0) → xX (d + 1) mX12_doFit 19 [some (.ref 113), some (.int a1), some (.int a2)] [] g13 = some r) : xX (d + 1) mX12_doFit 10 [some (.ref 113), some (.int a1), some (.int a2)] [] g = some r :=
  Y_aload_n dX12_doFit_10 rfl <| Y_iload_n dX12_doFit_11 rfl <| Y_iload_n dX12_doFit_12 rfl <| Y_callV1 dX12_doFit_13 cl_11_395 rfl rfl (xis W 113 11 s_113 (Nat.le_of_ble_eq_true rfl)) rfl rfl rfl (hk13) <| Y_eq0 46 dX12_doFit_16 rfl (fun q => X_le (xle_s (xle_s (xle_s xle_0))) (k1 q)) (fun q => X_le (xle_s (xle_s (xle_s xle_0))) (k2 q))
theorem bX12_doFit_19 {d : Nat} {g : xSt} {r : Option Value × xSt} {a1 a2 r32 : Int32} {g32 : xSt} (W : xWf g) (hi25 : vp_in a2 60) (hi31 : vp_in a2 60) (hk32 : xCallM d mX12_saysOf [.ref 113, .int (xI g 136 a2.toNatClampNeg), .int (xI g 137 a2.toNatClampNeg)] g = some (some (.int r32), g32)) (W32 : xWf g32) (hi40 : vp_in a2 60) (k1 : r32 = (xI g32 138 a2.toNatClampNeg) → xX (d + 1) mX12_doFit 46 [some (.ref 113), some (.int a1), some (.int a2)] [] g32 = some r) (k2 : ¬ (r32 = (xI g32 138 a2.toNatClampNeg)) → xX (d + 1) mX12_doFit 44 [none, none, none] [] g32 = some r) : xX (d + 1) mX12_doFit 19 [some (.ref 113), some (.int a1), some (.int a2)] [] g = some r :=
  Y_aload_n dX12_doFit_19 rfl <| Y_aload_n dX12_doFit_20 rfl <| Y_getR dX12_doFit_21 f_11_83 (by rw [ft_11_35]; rfl) (xis W 113 11 s_113 (Nat.le_of_ble_eq_true rfl)) (xptr W 113 35 p_113_35) <| Y_iload_n dX12_doFit_24 rfl <| Y_iald dX12_doFit_25 (xarr W (o := 136) s_136 (Nat.le_of_ble_eq_true rfl)) hi25 <| Y_aload_n dX12_doFit_26 rfl <| Y_getR dX12_doFit_27 f_11_86 (by rw [ft_11_36]; rfl) (xis W 113 11 s_113 (Nat.le_of_ble_eq_true rfl)) (xptr W 113 36 p_113_36) <| Y_iload_n dX12_doFit_30 rfl <| Y_iald dX12_doFit_31 (xarr W (o := 137) s_137 (Nat.le_of_ble_eq_true rfl)) hi31 <| Y_callV1 dX12_doFit_32 cl_11_561 rfl rfl (xis W 113 11 s_113 (Nat.le_of_ble_eq_true rfl)) rfl rfl rfl (hk32) <| Y_aload_n dX12_doFit_35 rfl <| Y_getR dX12_doFit_36 f_11_89 (by rw [ft_11_37]; rfl) (xis W32 113 11 s_113 (Nat.le_of_ble_eq_true rfl)) (xptr W32 113 37 p_113_37) <| Y_iload_n dX12_doFit_39 rfl <| Y_iald dX12_doFit_40 (xarr W32 (o := 138) s_138 (Nat.le_of_ble_eq_true rfl)) hi40 <| Y_eq 46 dX12_doFit_41 rfl (fun q => X_le (xle_s (xle_s (xle_s xle_0))) (k1 q)) (fun q => X_le (xle_n (xle_n (xle_n xle_0))) (k2 q))
theorem bX12_doFit_44 {d : Nat} {g : xSt} {r : Option Value × xSt}  (k : r = (some (.int 0), g)) : xX (d + 1) mX12_doFit 44 [none, none, none] [] g = some r :=
  Y_iconst 0 dX12_doFit_44 ic_0 <| Y_zret dX12_doFit_45 rfl (by decide) k
theorem bX12_doFit_46 {d : Nat} {g : xSt} {r : Option Value × xSt} {a1 a2 : Int32} (k : xX (d + 1) mX12_doFit 2 [some (.ref 113), some (.int a1), some (.int (a2 + 1))] [] g = some r) : xX (d + 1) mX12_doFit 46 [some (.ref 113), some (.int a1), some (.int a2)] [] g = some r :=
  Y_iinc 1 dX12_doFit_46 rfl ic_1 rfl rfl <| Y_goto 2 dX12_doFit_49 rfl <| X_le (xle_s (xle_s (xle_s xle_0))) k
theorem bX12_doFit_52 {d : Nat} {g : xSt} {r : Option Value × xSt}  (k : r = (some (.int 1), g)) : xX (d + 1) mX12_doFit 52 [none, none, none] [] g = some r :=
  Y_iconst 1 dX12_doFit_52 ic_1 <| Y_zret dX12_doFit_53 rfl (by decide) k
theorem bX12_saysOf_0 {d : Nat} {g : xSt} {r : Option Value × xSt} {a1 a2 : Int32} (k : xX (d + 1) mX12_saysOf 5 [some (.ref 113), some (.int a1), some (.int a2), some (.int 0), some (.int 0)] [] g = some r) : xX (d + 1) mX12_saysOf 0 [some (.ref 113), some (.int a1), some (.int a2), none, none] [] g = some r :=
  Y_iconst 0 dX12_saysOf_0 ic_0 <| Y_istore_n dX12_saysOf_1 rfl rfl <| Y_iconst 0 dX12_saysOf_2 ic_0 <| Y_istore dX12_saysOf_3 rfl rfl <| X_le (xle_s (xle_s (xle_s (xle_s (xle_s xle_0))))) k
theorem bX12_saysOf_5 {d : Nat} {g : xSt} {r : Option Value × xSt} {a1 a2 a3 a4 r8 : Int32} {g8 : xSt} (W : xWf g) (hk8 : xCallM d mX12_thingMany [.ref 113] g = some (some (.int r8), g8)) (W8 : xWf g8) (k1 : r8 ≤ a4 → xX (d + 1) mX12_saysOf 44 [some (.ref 113), none, none, some (.int a3), none] [] g8 = some r) (k2 : ¬ (r8 ≤ a4) → xX (d + 1) mX12_saysOf 14 [some (.ref 113), some (.int a1), some (.int a2), some (.int a3), some (.int a4)] [] g8 = some r) : xX (d + 1) mX12_saysOf 5 [some (.ref 113), some (.int a1), some (.int a2), some (.int a3), some (.int a4)] [] g = some r :=
  Y_iload dX12_saysOf_5 rfl <| Y_aload_n dX12_saysOf_7 rfl <| Y_callV1 dX12_saysOf_8 cl_11_364 rfl rfl (xis W 113 11 s_113 (Nat.le_of_ble_eq_true rfl)) rfl rfl rfl (hk8) <| Y_ge 44 dX12_saysOf_11 rfl (fun q => X_le (xle_s (xle_n (xle_n (xle_s (xle_n xle_0))))) (k1 q)) (fun q => X_le (xle_s (xle_s (xle_s (xle_s (xle_s xle_0))))) (k2 q))
theorem bX12_saysOf_14 {d : Nat} {g : xSt} {r : Option Value × xSt} {a1 a2 a3 a4 : Int32} (W : xWf g) (hi34 : vp_in a4 5) (k : xX (d + 1) mX12_saysOf 5 [some (.ref 113), some (.int a1), some (.int a2), some (.int (a3 + ((((a1 >>> (a4 &&& 31)) &&& 1) - ((a2 >>> (a4 &&& 31)) &&& 1)) * (xI g 166 a4.toNatClampNeg)))), some (.int (a4 + 1))] [] g = some r) : xX (d + 1) mX12_saysOf 14 [some (.ref 113), some (.int a1), some (.int a2), some (.int a3), some (.int a4)] [] g = some r :=
  Y_iload_n dX12_saysOf_14 rfl <| Y_iload_n dX12_saysOf_15 rfl <| Y_iload dX12_saysOf_16 rfl <| Y_ishr dX12_saysOf_18 <| Y_iconst 1 dX12_saysOf_19 ic_1 <| Y_iand dX12_saysOf_20 <| Y_iload_n dX12_saysOf_21 rfl <| Y_iload dX12_saysOf_22 rfl <| Y_ishr dX12_saysOf_24 <| Y_iconst 1 dX12_saysOf_25 ic_1 <| Y_iand dX12_saysOf_26 <| Y_isub dX12_saysOf_27 <| Y_aload_n dX12_saysOf_28 rfl <| Y_getR dX12_saysOf_29 f_11_173 (by rw [ft_11_75]; rfl) (xis W 113 11 s_113 (Nat.le_of_ble_eq_true rfl)) (xptr W 113 75 p_113_75) <| Y_iload dX12_saysOf_32 rfl <| Y_iald dX12_saysOf_34 (xarr W (o := 166) s_166 (Nat.le_of_ble_eq_true rfl)) hi34 <| Y_imul dX12_saysOf_35 <| Y_iadd dX12_saysOf_36 <| Y_istore_n dX12_saysOf_37 rfl rfl <| Y_iinc 1 dX12_saysOf_38 rfl ic_1 rfl rfl <| Y_goto 5 dX12_saysOf_41 rfl <| X_le (xle_s (xle_s (xle_s (xle_s (xle_s xle_0))))) k
theorem bX12_saysOf_44 {d : Nat} {g : xSt} {r : Option Value × xSt} {a3 r46 : Int32} {g46 : xSt} (W : xWf g) (hk46 : xCallM d mX12_saysBy [.ref 113, .int a3] g = some (some (.int r46), g46)) (W46 : xWf g46) (k : r = (some (.int r46), g46)) : xX (d + 1) mX12_saysOf 44 [some (.ref 113), none, none, some (.int a3), none] [] g = some r :=
  Y_aload_n dX12_saysOf_44 rfl <| Y_iload_n dX12_saysOf_45 rfl <| Y_callV1 dX12_saysOf_46 cl_11_384 rfl rfl (xis W 113 11 s_113 (Nat.le_of_ble_eq_true rfl)) rfl rfl rfl (hk46) <| Y_iret dX12_saysOf_49 rfl k
theorem bX12_weight_0 {d : Nat} {g : xSt} {r : Option Value × xSt} {a1 a2 a3 r2 : Int32} {g2 : xSt} (W : xWf g) (hk2 : xCallM d mX12_isThing [.ref 113, .int a1] g = some (some (.int r2), g2)) (W2 : xWf g2) (k1 : r2 = 0 → xX (d + 1) mX12_weight 16 [none, none, none, none] [] g2 = some r) (k2 : ¬ (r2 = 0) → xX (d + 1) mX12_weight 8 [some (.ref 113), some (.int a1), some (.int a2), some (.int a3)] [] g2 = some r) : xX (d + 1) mX12_weight 0 [some (.ref 113), some (.int a1), some (.int a2), some (.int a3)] [] g = some r :=
  Y_aload_n dX12_weight_0 rfl <| Y_iload_n dX12_weight_1 rfl <| Y_callV1 dX12_weight_2 cl_11_421 rfl rfl (xis W 113 11 s_113 (Nat.le_of_ble_eq_true rfl)) rfl rfl rfl (hk2) <| Y_eq0 16 dX12_weight_5 rfl (fun q => X_le (xle_n (xle_n (xle_n (xle_n xle_0)))) (k1 q)) (fun q => X_le (xle_s (xle_s (xle_s (xle_s xle_0)))) (k2 q))
theorem bX12_weight_8 {d : Nat} {g : xSt} {r : Option Value × xSt} {a1 a2 a3 r10 : Int32} {g10 : xSt} (W : xWf g) (hk10 : xCallM d mX12_countWeights [.ref 113, .int a3] g = some (some (.int r10), g10)) (W10 : xWf g10) (k1 : r10 = 0 → xX (d + 1) mX12_weight 16 [none, none, none, none] [] g10 = some r) (k2 : ¬ (r10 = 0) → xX (d + 1) mX12_weight 18 [some (.ref 113), some (.int a1), some (.int a2), none] [] g10 = some r) : xX (d + 1) mX12_weight 8 [some (.ref 113), some (.int a1), some (.int a2), some (.int a3)] [] g = some r :=
  Y_aload_n dX12_weight_8 rfl <| Y_iload_n dX12_weight_9 rfl <| Y_callV1 dX12_weight_10 cl_11_573 rfl rfl (xis W 113 11 s_113 (Nat.le_of_ble_eq_true rfl)) rfl rfl rfl (hk10) <| Y_ne0 18 dX12_weight_13 rfl (fun q => X_le (xle_n (xle_n (xle_n (xle_n xle_0)))) (k1 q)) (fun q => X_le (xle_s (xle_s (xle_s (xle_n xle_0)))) (k2 q))
theorem bX12_weight_16 {d : Nat} {g : xSt} {r : Option Value × xSt}  (k : r = (some (.int (-1)), g)) : xX (d + 1) mX12_weight 16 [none, none, none, none] [] g = some r :=
  Y_iconst (-1) dX12_weight_16 ic_m1 <| Y_iret dX12_weight_17 rfl k
theorem bX12_weight_18 {d : Nat} {g : xSt} {r : Option Value × xSt} {a1 a2 : Int32} (k1 : a2 = 0 → xX (d + 1) mX12_weight 31 [some (.ref 113), some (.int a1), none, none] [] g = some r) (k2 : ¬ (a2 = 0) → xX (d + 1) mX12_weight 22 [some (.ref 113), some (.int a1), none, none] [] g = some r) : xX (d + 1) mX12_weight 18 [some (.ref 113), some (.int a1), some (.int a2), none] [] g = some r :=
  Y_iload_n dX12_weight_18 rfl <| Y_eq0 31 dX12_weight_19 rfl (fun q => X_le (xle_s (xle_s (xle_n (xle_n xle_0)))) (k1 q)) (fun q => X_le (xle_s (xle_s (xle_n (xle_n xle_0)))) (k2 q))
theorem bX12_weight_22 {d : Nat} {g : xSt} {r : Option Value × xSt} {a1 : Int32} (W : xWf g) (hi27 : vp_in a1 5) (k : xX (d + 1) mX12_weight 37 [none, none, none, none] [.int (xI g 168 a1.toNatClampNeg)] g = some r) : xX (d + 1) mX12_weight 22 [some (.ref 113), some (.int a1), none, none] [] g = some r :=
  Y_aload_n dX12_weight_22 rfl <| Y_getR dX12_weight_23 f_11_179 (by rw [ft_11_77]; rfl) (xis W 113 11 s_113 (Nat.le_of_ble_eq_true rfl)) (xptr W 113 77 p_113_77) <| Y_iload_n dX12_weight_26 rfl <| Y_iald dX12_weight_27 (xarr W (o := 168) s_168 (Nat.le_of_ble_eq_true rfl)) hi27 <| Y_goto 37 dX12_weight_28 rfl <| X_le (xle_n (xle_n (xle_n (xle_n xle_0)))) k
theorem bX12_weight_31 {d : Nat} {g : xSt} {r : Option Value × xSt} {a1 : Int32} (W : xWf g) (hi36 : vp_in a1 5) (k : xX (d + 1) mX12_weight 37 [none, none, none, none] [.int (xI g 167 a1.toNatClampNeg)] g = some r) : xX (d + 1) mX12_weight 31 [some (.ref 113), some (.int a1), none, none] [] g = some r :=
  Y_aload_n dX12_weight_31 rfl <| Y_getR dX12_weight_32 f_11_176 (by rw [ft_11_76]; rfl) (xis W 113 11 s_113 (Nat.le_of_ble_eq_true rfl)) (xptr W 113 76 p_113_76) <| Y_iload_n dX12_weight_35 rfl <| Y_iald dX12_weight_36 (xarr W (o := 167) s_167 (Nat.le_of_ble_eq_true rfl)) hi36 <| X_le (xle_n (xle_n (xle_n (xle_n xle_0)))) k
theorem bX12_weight_37 {d : Nat} {g : xSt} {r : Option Value × xSt} {s0 : Int32} (k : r = (some (.int s0), g)) : xX (d + 1) mX12_weight 37 [none, none, none, none] [.int s0] g = some r :=
  Y_iret dX12_weight_37 rfl k
theorem bX12_could_0 {d : Nat} {g : xSt} {r : Option Value × xSt} {a1 a2 a3 r3 : Int32} {g3 : xSt} (W : xWf g) (hk3 : xCallM d mX12_areHeaps [.ref 113, .int a1, .int a2] g = some (some (.int r3), g3)) (W3 : xWf g3) (k1 : r3 = 0 → xX (d + 1) mX12_could 9 [none, none, none, none, none, none] [] g3 = some r) (k2 : ¬ (r3 = 0) → xX (d + 1) mX12_could 11 [some (.ref 113), some (.int a1), some (.int a2), some (.int a3), none, none] [] g3 = some r) : xX (d + 1) mX12_could 0 [some (.ref 113), some (.int a1), some (.int a2), some (.int a3), none, none] [] g = some r :=
  Y_aload_n dX12_could_0 rfl <| Y_iload_n dX12_could_1 rfl <| Y_iload_n dX12_could_2 rfl <| Y_callV1 dX12_could_3 cl_11_380 rfl rfl (xis W 113 11 s_113 (Nat.le_of_ble_eq_true rfl)) rfl rfl rfl (hk3) <| Y_ne0 11 dX12_could_6 rfl (fun q => X_le (xle_n (xle_n (xle_n (xle_n (xle_n (xle_n xle_0)))))) (k1 q)) (fun q => X_le (xle_s (xle_s (xle_s (xle_s (xle_n (xle_n xle_0)))))) (k2 q))
theorem bX12_could_9 {d : Nat} {g : xSt} {r : Option Value × xSt}  (k : r = (some (.int (-1)), g)) : xX (d + 1) mX12_could 9 [none, none, none, none, none, none] [] g = some r :=
  Y_iconst (-1) dX12_could_9 ic_m1 <| Y_iret dX12_could_10 rfl k
theorem bX12_could_11 {d : Nat} {g : xSt} {r : Option Value × xSt} {a1 a2 a3 : Int32} (k : xX (d + 1) mX12_could 17 [some (.ref 113), some (.int a1), some (.int a2), some (.int a3), some (.int 0), some (.int 0)] [] g = some r) : xX (d + 1) mX12_could 11 [some (.ref 113), some (.int a1), some (.int a2), some (.int a3), none, none] [] g = some r :=
  Y_iconst 0 dX12_could_11 ic_0 <| Y_istore dX12_could_12 rfl rfl <| Y_iconst 0 dX12_could_14 ic_0 <| Y_istore dX12_could_15 rfl rfl <| X_le (xle_s (xle_s (xle_s (xle_s (xle_s (xle_s xle_0)))))) k
theorem bX12_could_17 {d : Nat} {g : xSt} {r : Option Value × xSt} {a1 a2 a3 a4 a5 r20 : Int32} {g20 : xSt} (W : xWf g) (hk20 : xCallM d mX12_weightRows [.ref 113] g = some (some (.int r20), g20)) (W20 : xWf g20) (k1 : r20 ≤ a5 → xX (d + 1) mX12_could 59 [none, none, none, none, some (.int a4), none] [] g20 = some r) (k2 : ¬ (r20 ≤ a5) → xX (d + 1) mX12_could 26 [some (.ref 113), some (.int a1), some (.int a2), some (.int a3), some (.int a4), some (.int a5)] [] g20 = some r) : xX (d + 1) mX12_could 17 [some (.ref 113), some (.int a1), some (.int a2), some (.int a3), some (.int a4), some (.int a5)] [] g = some r :=
  Y_iload dX12_could_17 rfl <| Y_aload_n dX12_could_19 rfl <| Y_callV1 dX12_could_20 cl_11_564 rfl rfl (xis W 113 11 s_113 (Nat.le_of_ble_eq_true rfl)) rfl rfl rfl (hk20) <| Y_ge 59 dX12_could_23 rfl (fun q => X_le (xle_n (xle_n (xle_n (xle_n (xle_s (xle_n xle_0)))))) (k1 q)) (fun q => X_le (xle_s (xle_s (xle_s (xle_s (xle_s (xle_s xle_0)))))) (k2 q))
theorem bX12_could_26 {d : Nat} {g : xSt} {r : Option Value × xSt} {a1 a2 a3 a4 a5 r34 : Int32} {g29 g34 : xSt} (W : xWf g) (hk29 : xCallM d mX12_layWeights [.ref 113, .int a5] g = some (none, g29)) (W29 : xWf g29) (hk34 : xCallM d mX12_doFit [.ref 113, .int a3] g29 = some (some (.int r34), g34)) (W34 : xWf g34) (k1 : r34 = 0 → xX (d + 1) mX12_could 53 [some (.ref 113), some (.int a1), some (.int a2), some (.int a3), some (.int a4), some (.int a5)] [] g34 = some r) (k2 : ¬ (r34 = 0) → xX (d + 1) mX12_could 40 [some (.ref 113), some (.int a1), some (.int a2), some (.int a3), some (.int a4), some (.int a5)] [] g34 = some r) : xX (d + 1) mX12_could 26 [some (.ref 113), some (.int a1), some (.int a2), some (.int a3), some (.int a4), some (.int a5)] [] g = some r :=
  Y_aload_n dX12_could_26 rfl <| Y_iload dX12_could_27 rfl <| Y_callV0 dX12_could_29 cl_11_567 rfl rfl (xis W 113 11 s_113 (Nat.le_of_ble_eq_true rfl)) rfl rfl rfl (hk29) <| Y_aload_n dX12_could_32 rfl <| Y_iload_n dX12_could_33 rfl <| Y_callV1 dX12_could_34 cl_11_570 rfl rfl (xis W29 113 11 s_113 (Nat.le_of_ble_eq_true rfl)) rfl rfl rfl (hk34) <| Y_eq0 53 dX12_could_37 rfl (fun q => X_le (xle_s (xle_s (xle_s (xle_s (xle_s (xle_s xle_0)))))) (k1 q)) (fun q => X_le (xle_s (xle_s (xle_s (xle_s (xle_s (xle_s xle_0)))))) (k2 q))
theorem bX12_could_40 {d : Nat} {g : xSt} {r : Option Value × xSt} {a1 a2 a3 a4 a5 r46 : Int32} {g46 : xSt} (W : xWf g) (hk46 : xCallM d mX12_saysOf [.ref 113, .int a1, .int a2] g = some (some (.int r46), g46)) (W46 : xWf g46) (k : xX (d + 1) mX12_could 53 [some (.ref 113), some (.int a1), some (.int a2), some (.int a3), some (.int (a4 ||| (1 <<< (r46 &&& 31)))), some (.int a5)] [] g46 = some r) : xX (d + 1) mX12_could 40 [some (.ref 113), some (.int a1), some (.int a2), some (.int a3), some (.int a4), some (.int a5)] [] g = some r :=
  Y_iload dX12_could_40 rfl <| Y_iconst 1 dX12_could_42 ic_1 <| Y_aload_n dX12_could_43 rfl <| Y_iload_n dX12_could_44 rfl <| Y_iload_n dX12_could_45 rfl <| Y_callV1 dX12_could_46 cl_11_561 rfl rfl (xis W 113 11 s_113 (Nat.le_of_ble_eq_true rfl)) rfl rfl rfl (hk46) <| Y_ishl dX12_could_49 <| Y_ior dX12_could_50 <| Y_istore dX12_could_51 rfl rfl <| X_le (xle_s (xle_s (xle_s (xle_s (xle_s (xle_s xle_0)))))) k
theorem bX12_could_53 {d : Nat} {g : xSt} {r : Option Value × xSt} {a1 a2 a3 a4 a5 : Int32} (k : xX (d + 1) mX12_could 17 [some (.ref 113), some (.int a1), some (.int a2), some (.int a3), some (.int a4), some (.int (a5 + 1))] [] g = some r) : xX (d + 1) mX12_could 53 [some (.ref 113), some (.int a1), some (.int a2), some (.int a3), some (.int a4), some (.int a5)] [] g = some r :=
  Y_iinc 1 dX12_could_53 rfl ic_1 rfl rfl <| Y_goto 17 dX12_could_56 rfl <| X_le (xle_s (xle_s (xle_s (xle_s (xle_s (xle_s xle_0)))))) k
theorem bX12_could_59 {d : Nat} {g : xSt} {r : Option Value × xSt} {a4 : Int32} (k : r = (some (.int a4), g)) : xX (d + 1) mX12_could 59 [none, none, none, none, some (.int a4), none] [] g = some r :=
  Y_iload dX12_could_59 rfl <| Y_iret dX12_could_61 rfl k
theorem bX12_stones_0 {d : Nat} {g : xSt} {r : Option Value × xSt} {a1 a2 r9 : Int32} {g9 : xSt} (W : xWf g) (hk9 : xCallM d mX12_isIn [.int a1, .int 1, .int 40] (xWI g 113 54 0) = some (some (.int r9), g9)) (W9 : xWf g9) (k1 : r9 = 0 → xX (d + 1) mX12_stones 15 [none, none, none, none, none] [] g9 = some r) (k2 : ¬ (r9 = 0) → xX (d + 1) mX12_stones 17 [some (.ref 113), some (.int a1), some (.int a2), none, none] [] g9 = some r) : xX (d + 1) mX12_stones 0 [some (.ref 113), some (.int a1), some (.int a2), none, none] [] g = some r :=
  Y_aload_n dX12_stones_0 rfl <| Y_iconst 0 dX12_stones_1 ic_0 <| Y_putI dX12_stones_2 f_11_313 fn_11_54 ft_11_54 (xis W 113 11 s_113 (Nat.le_of_ble_eq_true rfl)) <| Y_iload_n dX12_stones_5 rfl <| Y_iconst 1 dX12_stones_6 ic_1 <| Y_bipush 40 dX12_stones_7 bp_40 <| Y_callS1 dX12_stones_9 cl_11_367 rfl rfl rfl rfl rfl (hk9) <| Y_ne0 17 dX12_stones_12 rfl (fun q => X_le (xle_n (xle_n (xle_n (xle_n (xle_n xle_0))))) (k1 q)) (fun q => X_le (xle_s (xle_s (xle_s (xle_n (xle_n xle_0))))) (k2 q))
theorem bX12_stones_15 {d : Nat} {g : xSt} {r : Option Value × xSt}  (k : r = (some (.int (-1)), g)) : xX (d + 1) mX12_stones 15 [none, none, none, none, none] [] g = some r :=
  Y_iconst (-1) dX12_stones_15 ic_m1 <| Y_iret dX12_stones_16 rfl k
theorem bX12_stones_17 {d : Nat} {g : xSt} {r : Option Value × xSt} {a1 a2 : Int32} (k : xX (d + 1) mX12_stones 22 [some (.ref 113), some (.int a1), some (.int a2), some (.int 0), some (.int 0)] [] g = some r) : xX (d + 1) mX12_stones 17 [some (.ref 113), some (.int a1), some (.int a2), none, none] [] g = some r :=
  Y_iconst 0 dX12_stones_17 ic_0 <| Y_istore_n dX12_stones_18 rfl rfl <| Y_iconst 0 dX12_stones_19 ic_0 <| Y_istore dX12_stones_20 rfl rfl <| X_le (xle_s (xle_s (xle_s (xle_s (xle_s xle_0))))) k
theorem bX12_stones_22 {d : Nat} {g : xSt} {r : Option Value × xSt} {a1 a2 a3 a4 : Int32} (k1 : a1 ≤ a4 → xX (d + 1) mX12_stones 55 [some (.ref 113), some (.int a1), some (.int a2), some (.int a3), none] [] g = some r) (k2 : ¬ (a1 ≤ a4) → xX (d + 1) mX12_stones 28 [some (.ref 113), some (.int a1), some (.int a2), some (.int a3), some (.int a4)] [] g = some r) : xX (d + 1) mX12_stones 22 [some (.ref 113), some (.int a1), some (.int a2), some (.int a3), some (.int a4)] [] g = some r :=
  Y_iload dX12_stones_22 rfl <| Y_iload_n dX12_stones_24 rfl <| Y_ge 55 dX12_stones_25 rfl (fun q => X_le (xle_s (xle_s (xle_s (xle_s (xle_n xle_0))))) (k1 q)) (fun q => X_le (xle_s (xle_s (xle_s (xle_s (xle_s xle_0))))) (k2 q))
theorem bX12_stones_28 {d : Nat} {g : xSt} {r : Option Value × xSt} {a1 a2 a3 a4 : Int32} (k1 : a2 = 0 → xX (d + 1) mX12_stones 41 [some (.ref 113), some (.int a1), some (.int a2), some (.int a3), some (.int a4)] [] g = some r) (k2 : ¬ (a2 = 0) → xX (d + 1) mX12_stones 32 [some (.ref 113), some (.int a1), some (.int a2), some (.int a3), some (.int a4)] [] g = some r) : xX (d + 1) mX12_stones 28 [some (.ref 113), some (.int a1), some (.int a2), some (.int a3), some (.int a4)] [] g = some r :=
  Y_iload_n dX12_stones_28 rfl <| Y_eq0 41 dX12_stones_29 rfl (fun q => X_le (xle_s (xle_s (xle_s (xle_s (xle_s xle_0))))) (k1 q)) (fun q => X_le (xle_s (xle_s (xle_s (xle_s (xle_s xle_0))))) (k2 q))
theorem bX12_stones_32 {d : Nat} {g : xSt} {r : Option Value × xSt} {a1 a2 a3 a4 : Int32} (k : xX (d + 1) mX12_stones 47 [some (.ref 113), some (.int a1), some (.int a2), some (.int a3), none] [.int ((3 * a4) + 1)] g = some r) : xX (d + 1) mX12_stones 32 [some (.ref 113), some (.int a1), some (.int a2), some (.int a3), some (.int a4)] [] g = some r :=
  Y_iconst 3 dX12_stones_32 ic_3 <| Y_iload dX12_stones_33 rfl <| Y_imul dX12_stones_35 <| Y_iconst 1 dX12_stones_36 ic_1 <| Y_iadd dX12_stones_37 <| Y_goto 47 dX12_stones_38 rfl <| X_le (xle_s (xle_s (xle_s (xle_s (xle_n xle_0))))) k
theorem bX12_stones_41 {d : Nat} {g : xSt} {r : Option Value × xSt} {a1 a2 a3 a4 : Int32} (k : xX (d + 1) mX12_stones 47 [some (.ref 113), some (.int a1), some (.int a2), some (.int a3), none] [.int ((2 * a4) + 1)] g = some r) : xX (d + 1) mX12_stones 41 [some (.ref 113), some (.int a1), some (.int a2), some (.int a3), some (.int a4)] [] g = some r :=
  Y_iconst 2 dX12_stones_41 ic_2 <| Y_iload dX12_stones_42 rfl <| Y_imul dX12_stones_44 <| Y_iconst 1 dX12_stones_45 ic_1 <| Y_iadd dX12_stones_46 <| X_le (xle_s (xle_s (xle_s (xle_s (xle_n xle_0))))) k
theorem bX12_stones_47 {d : Nat} {g : xSt} {r : Option Value × xSt} {a1 a2 a3 s0 : Int32} (k : xX (d + 1) mX12_stones 22 [some (.ref 113), some (.int a1), some (.int a2), some (.int (a3 + 1)), some (.int s0)] [] g = some r) : xX (d + 1) mX12_stones 47 [some (.ref 113), some (.int a1), some (.int a2), some (.int a3), none] [.int s0] g = some r :=
  Y_istore dX12_stones_47 rfl rfl <| Y_iinc 1 dX12_stones_49 rfl ic_1 rfl rfl <| Y_goto 22 dX12_stones_52 rfl <| X_le (xle_s (xle_s (xle_s (xle_s (xle_s xle_0))))) k
theorem bX12_stones_55 {d : Nat} {g : xSt} {r : Option Value × xSt} {a1 a2 a3 r59 : Int32} {g59 : xSt} (W : xWf g) (hk59 : xCallM d mX12_findStones [.ref 113, .int a3, .int a1, .int a2] g = some (some (.int r59), g59)) (W59 : xWf g59) (k1 : r59 = 0 → xX (d + 1) mX12_stones 65 [some (.ref 113), some (.int a1), some (.int a2), some (.int a3), none] [] g59 = some r) (k2 : ¬ (r59 = 0) → xX (d + 1) mX12_stones 71 [some (.ref 113), none, none, some (.int a3), none] [] g59 = some r) : xX (d + 1) mX12_stones 55 [some (.ref 113), some (.int a1), some (.int a2), some (.int a3), none] [] g = some r :=
  Y_aload_n dX12_stones_55 rfl <| Y_iload_n dX12_stones_56 rfl <| Y_iload_n dX12_stones_57 rfl <| Y_iload_n dX12_stones_58 rfl <| Y_callV1 dX12_stones_59 cl_11_584 rfl rfl (xis W 113 11 s_113 (Nat.le_of_ble_eq_true rfl)) rfl rfl rfl (hk59) <| Y_ne0 71 dX12_stones_62 rfl (fun q => X_le (xle_s (xle_s (xle_s (xle_s (xle_n xle_0))))) (k1 q)) (fun q => X_le (xle_s (xle_n (xle_n (xle_s (xle_n xle_0))))) (k2 q))
theorem bX12_stones_65 {d : Nat} {g : xSt} {r : Option Value × xSt} {a1 a2 a3 : Int32} (k : xX (d + 1) mX12_stones 55 [some (.ref 113), some (.int a1), some (.int a2), some (.int (a3 + 1)), none] [] g = some r) : xX (d + 1) mX12_stones 65 [some (.ref 113), some (.int a1), some (.int a2), some (.int a3), none] [] g = some r :=
  Y_iinc 1 dX12_stones_65 rfl ic_1 rfl rfl <| Y_goto 55 dX12_stones_68 rfl <| X_le (xle_s (xle_s (xle_s (xle_s (xle_n xle_0))))) k
theorem bX12_stones_71 {d : Nat} {g : xSt} {r : Option Value × xSt} {a3 : Int32} (k : xX (d + 1) mX12_stones 74 [some (.ref 113), none, none, some (.int a3), some (.int 0)] [] g = some r) : xX (d + 1) mX12_stones 71 [some (.ref 113), none, none, some (.int a3), none] [] g = some r :=
  Y_iconst 0 dX12_stones_71 ic_0 <| Y_istore dX12_stones_72 rfl rfl <| X_le (xle_s (xle_n (xle_n (xle_s (xle_s xle_0))))) k
theorem bX12_stones_74 {d : Nat} {g : xSt} {r : Option Value × xSt} {a3 a4 : Int32} (k1 : a3 ≤ a4 → xX (d + 1) mX12_stones 100 [some (.ref 113), none, none, some (.int a3), none] [] g = some r) (k2 : ¬ (a3 ≤ a4) → xX (d + 1) mX12_stones 80 [some (.ref 113), none, none, some (.int a3), some (.int a4)] [] g = some r) : xX (d + 1) mX12_stones 74 [some (.ref 113), none, none, some (.int a3), some (.int a4)] [] g = some r :=
  Y_iload dX12_stones_74 rfl <| Y_iload_n dX12_stones_76 rfl <| Y_ge 100 dX12_stones_77 rfl (fun q => X_le (xle_s (xle_n (xle_n (xle_s (xle_n xle_0))))) (k1 q)) (fun q => X_le (xle_s (xle_n (xle_n (xle_s (xle_s xle_0))))) (k2 q))
theorem bX12_stones_80 {d : Nat} {g : xSt} {r : Option Value × xSt} {a3 a4 : Int32} (W : xWf g) (hi92 : vp_in a4 8) (hi93 : vp_in a4 25) (k : xX (d + 1) mX12_stones 74 [some (.ref 113), none, none, some (.int a3), some (.int (a4 + 1))] [] (xWI g 149 a4.toNatClampNeg (xI g 171 a4.toNatClampNeg)) = some r) : xX (d + 1) mX12_stones 80 [some (.ref 113), none, none, some (.int a3), some (.int a4)] [] g = some r :=
  Y_aload_n dX12_stones_80 rfl <| Y_getR dX12_stones_81 f_11_122 (by rw [ft_11_52]; rfl) (xis W 113 11 s_113 (Nat.le_of_ble_eq_true rfl)) (xptr W 113 52 p_113_52) <| Y_iload dX12_stones_84 rfl <| Y_aload_n dX12_stones_86 rfl <| Y_getR dX12_stones_87 f_11_188 (by rw [ft_11_80]; rfl) (xis W 113 11 s_113 (Nat.le_of_ble_eq_true rfl)) (xptr W 113 80 p_113_80) <| Y_iload dX12_stones_90 rfl <| Y_iald dX12_stones_92 (xarr W (o := 171) s_171 (Nat.le_of_ble_eq_true rfl)) hi92 <| Y_iast dX12_stones_93 (xarr W (o := 149) s_149 (Nat.le_of_ble_eq_true rfl)) hi93 <| Y_iinc 1 dX12_stones_94 rfl ic_1 rfl rfl <| Y_goto 74 dX12_stones_97 rfl <| X_le (xle_s (xle_n (xle_n (xle_s (xle_s xle_0))))) k
theorem bX12_stones_100 {d : Nat} {g : xSt} {r : Option Value × xSt} {a3 : Int32} (W : xWf g) (k : r = (some (.int a3), xWI g 113 54 a3)) : xX (d + 1) mX12_stones 100 [some (.ref 113), none, none, some (.int a3), none] [] g = some r :=
  Y_aload_n dX12_stones_100 rfl <| Y_iload_n dX12_stones_101 rfl <| Y_putI dX12_stones_102 f_11_313 fn_11_54 ft_11_54 (xis W 113 11 s_113 (Nat.le_of_ble_eq_true rfl)) <| Y_iload_n dX12_stones_105 rfl <| Y_iret dX12_stones_106 rfl k
theorem bX12_findStones_0 {d : Nat} {g : xSt} {r : Option Value × xSt} {a1 a2 a3 : Int32} (W : xWf g) (hi9 : vp_in 0 8) (k : xX (d + 1) mX12_findStones 10 [some (.ref 113), some (.int a1), some (.int a2), some (.int a3), some (.int 0)] [] (xWI g 171 (0 : Int32).toNatClampNeg 0) = some r) : xX (d + 1) mX12_findStones 0 [some (.ref 113), some (.int a1), some (.int a2), some (.int a3), none] [] g = some r :=
  Y_iconst 0 dX12_findStones_0 ic_0 <| Y_istore dX12_findStones_1 rfl rfl <| Y_aload_n dX12_findStones_3 rfl <| Y_getR dX12_findStones_4 f_11_188 (by rw [ft_11_80]; rfl) (xis W 113 11 s_113 (Nat.le_of_ble_eq_true rfl)) (xptr W 113 80 p_113_80) <| Y_iconst 0 dX12_findStones_7 ic_0 <| Y_iconst 0 dX12_findStones_8 ic_0 <| Y_iast dX12_findStones_9 (xarr W (o := 171) s_171 (Nat.le_of_ble_eq_true rfl)) hi9 <| X_le (xle_s (xle_s (xle_s (xle_s (xle_s xle_0))))) k
theorem bX12_findStones_10 {d : Nat} {g : xSt} {r : Option Value × xSt} {a1 a2 a3 a4 : Int32} (k1 : a4 < 0 → xX (d + 1) mX12_findStones 94 [none, none, none, none, none] [] g = some r) (k2 : ¬ (a4 < 0) → xX (d + 1) mX12_findStones 15 [some (.ref 113), some (.int a1), some (.int a2), some (.int a3), some (.int a4)] [] g = some r) : xX (d + 1) mX12_findStones 10 [some (.ref 113), some (.int a1), some (.int a2), some (.int a3), some (.int a4)] [] g = some r :=
  Y_iload dX12_findStones_10 rfl <| Y_lt0 94 dX12_findStones_12 rfl (fun q => X_le (xle_n (xle_n (xle_n (xle_n (xle_n xle_0))))) (k1 q)) (fun q => X_le (xle_s (xle_s (xle_s (xle_s (xle_s xle_0))))) (k2 q))
theorem bX12_findStones_15 {d : Nat} {g : xSt} {r : Option Value × xSt} {a1 a2 a3 a4 r38 : Int32} {g38 : xSt} (W : xWf g) (hi22 : vp_in a4 8) (hi25 : vp_in a4 8) (hi32 : vp_in a4 8) (hk38 : xCallM d mX12_mostStone [.ref 113, .int a4, .int a2, .int a3] (xWI g 171 a4.toNatClampNeg ((xI g 171 a4.toNatClampNeg) + 1)) = some (some (.int r38), g38)) (W38 : xWf g38) (k1 : (xI (xWI g 171 a4.toNatClampNeg ((xI g 171 a4.toNatClampNeg) + 1)) 171 a4.toNatClampNeg) ≤ r38 → xX (d + 1) mX12_findStones 50 [some (.ref 113), some (.int a1), some (.int a2), some (.int a3), some (.int a4)] [] g38 = some r) (k2 : ¬ ((xI (xWI g 171 a4.toNatClampNeg ((xI g 171 a4.toNatClampNeg) + 1)) 171 a4.toNatClampNeg) ≤ r38) → xX (d + 1) mX12_findStones 44 [some (.ref 113), some (.int a1), some (.int a2), some (.int a3), some (.int a4)] [] g38 = some r) : xX (d + 1) mX12_findStones 15 [some (.ref 113), some (.int a1), some (.int a2), some (.int a3), some (.int a4)] [] g = some r :=
  Y_aload_n dX12_findStones_15 rfl <| Y_getR dX12_findStones_16 f_11_188 (by rw [ft_11_80]; rfl) (xis W 113 11 s_113 (Nat.le_of_ble_eq_true rfl)) (xptr W 113 80 p_113_80) <| Y_iload dX12_findStones_19 rfl <| Y_dup2 dX12_findStones_21 rfl rfl <| Y_iald dX12_findStones_22 (xarr W (o := 171) s_171 (Nat.le_of_ble_eq_true rfl)) hi22 <| Y_iconst 1 dX12_findStones_23 ic_1 <| Y_iadd dX12_findStones_24 <| Y_iast dX12_findStones_25 (xarr W (o := 171) s_171 (Nat.le_of_ble_eq_true rfl)) hi25 <| Y_aload_n dX12_findStones_26 rfl <| Y_getR dX12_findStones_27 f_11_188 (by rw [ft_11_80]; rfl) (xis W 113 11 s_113 (Nat.le_of_ble_eq_true rfl)) (xptr W 113 80 p_113_80) <| Y_iload dX12_findStones_30 rfl <| Y_iald dX12_findStones_32 (xarr W (o := 171) s_171 (Nat.le_of_ble_eq_true rfl)) hi32 <| Y_aload_n dX12_findStones_33 rfl <| Y_iload dX12_findStones_34 rfl <| Y_iload_n dX12_findStones_36 rfl <| Y_iload_n dX12_findStones_37 rfl <| Y_callV1 dX12_findStones_38 cl_11_576 rfl rfl (xis W 113 11 s_113 (Nat.le_of_ble_eq_true rfl)) rfl rfl rfl (hk38) <| Y_le 50 dX12_findStones_41 rfl (fun q => X_le (xle_s (xle_s (xle_s (xle_s (xle_s xle_0))))) (k1 q)) (fun q => X_le (xle_s (xle_s (xle_s (xle_s (xle_s xle_0))))) (k2 q))
theorem bX12_findStones_44 {d : Nat} {g : xSt} {r : Option Value × xSt} {a1 a2 a3 a4 : Int32} (k : xX (d + 1) mX12_findStones 10 [some (.ref 113), some (.int a1), some (.int a2), some (.int a3), some (.int (a4 + (-1)))] [] g = some r) : xX (d + 1) mX12_findStones 44 [some (.ref 113), some (.int a1), some (.int a2), some (.int a3), some (.int a4)] [] g = some r :=
  Y_iinc (-1) dX12_findStones_44 rfl ic_m1 rfl rfl <| Y_goto 10 dX12_findStones_47 rfl <| X_le (xle_s (xle_s (xle_s (xle_s (xle_s xle_0))))) k
theorem bX12_findStones_50 {d : Nat} {g : xSt} {r : Option Value × xSt} {a1 a2 a3 a4 : Int32} (k1 : a1 ≤ (a4 + 1) → xX (d + 1) mX12_findStones 82 [some (.ref 113), some (.int a1), some (.int a2), some (.int a3), some (.int a4)] [] g = some r) (k2 : ¬ (a1 ≤ (a4 + 1)) → xX (d + 1) mX12_findStones 58 [some (.ref 113), some (.int a1), some (.int a2), some (.int a3), some (.int a4)] [] g = some r) : xX (d + 1) mX12_findStones 50 [some (.ref 113), some (.int a1), some (.int a2), some (.int a3), some (.int a4)] [] g = some r :=
  Y_iload dX12_findStones_50 rfl <| Y_iconst 1 dX12_findStones_52 ic_1 <| Y_iadd dX12_findStones_53 <| Y_iload_n dX12_findStones_54 rfl <| Y_ge 82 dX12_findStones_55 rfl (fun q => X_le (xle_s (xle_s (xle_s (xle_s (xle_s xle_0))))) (k1 q)) (fun q => X_le (xle_s (xle_s (xle_s (xle_s (xle_s xle_0))))) (k2 q))
theorem bX12_findStones_58 {d : Nat} {g : xSt} {r : Option Value × xSt} {a1 a2 a3 a4 : Int32} (W : xWf g) (hi72 : vp_in a4 8) (hi75 : vp_in (a4 + 1) 8) (k : xX (d + 1) mX12_findStones 10 [some (.ref 113), some (.int a1), some (.int a2), some (.int a3), some (.int (a4 + 1))] [] (xWI g 171 (a4 + 1).toNatClampNeg ((xI g 171 a4.toNatClampNeg) - 1)) = some r) : xX (d + 1) mX12_findStones 58 [some (.ref 113), some (.int a1), some (.int a2), some (.int a3), some (.int a4)] [] g = some r :=
  Y_aload_n dX12_findStones_58 rfl <| Y_getR dX12_findStones_59 f_11_188 (by rw [ft_11_80]; rfl) (xis W 113 11 s_113 (Nat.le_of_ble_eq_true rfl)) (xptr W 113 80 p_113_80) <| Y_iload dX12_findStones_62 rfl <| Y_iconst 1 dX12_findStones_64 ic_1 <| Y_iadd dX12_findStones_65 <| Y_aload_n dX12_findStones_66 rfl <| Y_getR dX12_findStones_67 f_11_188 (by rw [ft_11_80]; rfl) (xis W 113 11 s_113 (Nat.le_of_ble_eq_true rfl)) (xptr W 113 80 p_113_80) <| Y_iload dX12_findStones_70 rfl <| Y_iald dX12_findStones_72 (xarr W (o := 171) s_171 (Nat.le_of_ble_eq_true rfl)) hi72 <| Y_iconst 1 dX12_findStones_73 ic_1 <| Y_isub dX12_findStones_74 <| Y_iast dX12_findStones_75 (xarr W (o := 171) s_171 (Nat.le_of_ble_eq_true rfl)) hi75 <| Y_iinc 1 dX12_findStones_76 rfl ic_1 rfl rfl <| Y_goto 10 dX12_findStones_79 rfl <| X_le (xle_s (xle_s (xle_s (xle_s (xle_s xle_0))))) k
theorem bX12_findStones_82 {d : Nat} {g : xSt} {r : Option Value × xSt} {a1 a2 a3 a4 r86 : Int32} {g86 : xSt} (W : xWf g) (hk86 : xCallM d mX12_doReach [.ref 113, .int a1, .int a2, .int a3] g = some (some (.int r86), g86)) (W86 : xWf g86) (k1 : r86 = 0 → xX (d + 1) mX12_findStones 10 [some (.ref 113), some (.int a1), some (.int a2), some (.int a3), some (.int a4)] [] g86 = some r) (k2 : ¬ (r86 = 0) → xX (d + 1) mX12_findStones 92 [none, none, none, none, none] [] g86 = some r) : xX (d + 1) mX12_findStones 82 [some (.ref 113), some (.int a1), some (.int a2), some (.int a3), some (.int a4)] [] g = some r :=
  Y_aload_n dX12_findStones_82 rfl <| Y_iload_n dX12_findStones_83 rfl <| Y_iload_n dX12_findStones_84 rfl <| Y_iload_n dX12_findStones_85 rfl <| Y_callV1 dX12_findStones_86 cl_11_580 rfl rfl (xis W 113 11 s_113 (Nat.le_of_ble_eq_true rfl)) rfl rfl rfl (hk86) <| Y_eq0 10 dX12_findStones_89 rfl (fun q => X_le (xle_s (xle_s (xle_s (xle_s (xle_s xle_0))))) (k1 q)) (fun q => X_le (xle_n (xle_n (xle_n (xle_n (xle_n xle_0))))) (k2 q))
theorem bX12_findStones_92 {d : Nat} {g : xSt} {r : Option Value × xSt}  (k : r = (some (.int 1), g)) : xX (d + 1) mX12_findStones 92 [none, none, none, none, none] [] g = some r :=
  Y_iconst 1 dX12_findStones_92 ic_1 <| Y_zret dX12_findStones_93 rfl (by decide) k
theorem bX12_findStones_94 {d : Nat} {g : xSt} {r : Option Value × xSt}  (k : r = (some (.int 0), g)) : xX (d + 1) mX12_findStones 94 [none, none, none, none, none] [] g = some r :=
  Y_iconst 0 dX12_findStones_94 ic_0 <| Y_zret dX12_findStones_95 rfl (by decide) k
theorem bX12_mostStone_0 {d : Nat} {g : xSt} {r : Option Value × xSt} {a1 a2 a3 : Int32} (k : xX d mX12_mostStone 6 [some (.ref 113), some (.int a1), some (.int a2), some (.int a3), some (.int 1), some (.int 0)] [] g = some r) : xX d mX12_mostStone 0 [some (.ref 113), some (.int a1), some (.int a2), some (.int a3), none, none] [] g = some r :=
  Y_iconst 1 dX12_mostStone_0 ic_1 <| Y_istore dX12_mostStone_1 rfl rfl <| Y_iconst 0 dX12_mostStone_3 ic_0 <| Y_istore dX12_mostStone_4 rfl rfl <| X_le (xle_s (xle_s (xle_s (xle_s (xle_s (xle_s xle_0)))))) k
theorem bX12_mostStone_6 {d : Nat} {g : xSt} {r : Option Value × xSt} {a1 a2 a3 a4 a5 : Int32} (k1 : a1 ≤ a5 → xX d mX12_mostStone 30 [none, none, some (.int a2), some (.int a3), some (.int a4), none] [] g = some r) (k2 : ¬ (a1 ≤ a5) → xX d mX12_mostStone 12 [some (.ref 113), some (.int a1), some (.int a2), some (.int a3), some (.int a4), some (.int a5)] [] g = some r) : xX d mX12_mostStone 6 [some (.ref 113), some (.int a1), some (.int a2), some (.int a3), some (.int a4), some (.int a5)] [] g = some r :=
  Y_iload dX12_mostStone_6 rfl <| Y_iload_n dX12_mostStone_8 rfl <| Y_ge 30 dX12_mostStone_9 rfl (fun q => X_le (xle_n (xle_n (xle_s (xle_s (xle_s (xle_n xle_0)))))) (k1 q)) (fun q => X_le (xle_s (xle_s (xle_s (xle_s (xle_s (xle_s xle_0)))))) (k2 q))
theorem bX12_mostStone_12 {d : Nat} {g : xSt} {r : Option Value × xSt} {a1 a2 a3 a4 a5 : Int32} (W : xWf g) (hi20 : vp_in a5 8) (k : xX d mX12_mostStone 6 [some (.ref 113), some (.int a1), some (.int a2), some (.int a3), some (.int (a4 + (xI g 171 a5.toNatClampNeg))), some (.int (a5 + 1))] [] g = some r) : xX d mX12_mostStone 12 [some (.ref 113), some (.int a1), some (.int a2), some (.int a3), some (.int a4), some (.int a5)] [] g = some r :=
  Y_iload dX12_mostStone_12 rfl <| Y_aload_n dX12_mostStone_14 rfl <| Y_getR dX12_mostStone_15 f_11_188 (by rw [ft_11_80]; rfl) (xis W 113 11 s_113 (Nat.le_of_ble_eq_true rfl)) (xptr W 113 80 p_113_80) <| Y_iload dX12_mostStone_18 rfl <| Y_iald dX12_mostStone_20 (xarr W (o := 171) s_171 (Nat.le_of_ble_eq_true rfl)) hi20 <| Y_iadd dX12_mostStone_21 <| Y_istore dX12_mostStone_22 rfl rfl <| Y_iinc 1 dX12_mostStone_24 rfl ic_1 rfl rfl <| Y_goto 6 dX12_mostStone_27 rfl <| X_le (xle_s (xle_s (xle_s (xle_s (xle_s (xle_s xle_0)))))) k
theorem bX12_mostStone_30 {d : Nat} {g : xSt} {r : Option Value × xSt} {a2 a3 a4 : Int32} (k1 : a3 = 0 → xX d mX12_mostStone 34 [none, none, some (.int a2), none, some (.int a4), none] [] g = some r) (k2 : ¬ (a3 = 0) → xX d mX12_mostStone 42 [none, none, some (.int a2), none, none, none] [] g = some r) : xX d mX12_mostStone 30 [none, none, some (.int a2), some (.int a3), some (.int a4), none] [] g = some r :=
  Y_iload_n dX12_mostStone_30 rfl <| Y_ne0 42 dX12_mostStone_31 rfl (fun q => X_le (xle_n (xle_n (xle_s (xle_n (xle_s (xle_n xle_0)))))) (k1 q)) (fun q => X_le (xle_n (xle_n (xle_s (xle_n (xle_n (xle_n xle_0)))))) (k2 q))
theorem bX12_mostStone_34 {d : Nat} {g : xSt} {r : Option Value × xSt} {a2 a4 : Int32} (k1 : a4 ≤ (2 * a2) → xX d mX12_mostStone 48 [none, none, none, none, some (.int a4), none] [] g = some r) (k2 : ¬ (a4 ≤ (2 * a2)) → xX d mX12_mostStone 42 [none, none, some (.int a2), none, none, none] [] g = some r) : xX d mX12_mostStone 34 [none, none, some (.int a2), none, some (.int a4), none] [] g = some r :=
  Y_iload dX12_mostStone_34 rfl <| Y_iconst 2 dX12_mostStone_36 ic_2 <| Y_iload_n dX12_mostStone_37 rfl <| Y_imul dX12_mostStone_38 <| Y_le 48 dX12_mostStone_39 rfl (fun q => X_le (xle_n (xle_n (xle_n (xle_n (xle_s (xle_n xle_0)))))) (k1 q)) (fun q => X_le (xle_n (xle_n (xle_s (xle_n (xle_n (xle_n xle_0)))))) (k2 q))
theorem bX12_mostStone_42 {d : Nat} {g : xSt} {r : Option Value × xSt} {a2 : Int32} (k : xX d mX12_mostStone 50 [none, none, none, none, none, none] [.int (2 * a2)] g = some r) : xX d mX12_mostStone 42 [none, none, some (.int a2), none, none, none] [] g = some r :=
  Y_iconst 2 dX12_mostStone_42 ic_2 <| Y_iload_n dX12_mostStone_43 rfl <| Y_imul dX12_mostStone_44 <| Y_goto 50 dX12_mostStone_45 rfl <| X_le (xle_n (xle_n (xle_n (xle_n (xle_n (xle_n xle_0)))))) k
theorem bX12_mostStone_48 {d : Nat} {g : xSt} {r : Option Value × xSt} {a4 : Int32} (k : xX d mX12_mostStone 50 [none, none, none, none, none, none] [.int a4] g = some r) : xX d mX12_mostStone 48 [none, none, none, none, some (.int a4), none] [] g = some r :=
  Y_iload dX12_mostStone_48 rfl <| X_le (xle_n (xle_n (xle_n (xle_n (xle_n (xle_n xle_0)))))) k
theorem bX12_mostStone_50 {d : Nat} {g : xSt} {r : Option Value × xSt} {s0 : Int32} (k : r = (some (.int s0), g)) : xX d mX12_mostStone 50 [none, none, none, none, none, none] [.int s0] g = some r :=
  Y_iret dX12_mostStone_50 rfl k
