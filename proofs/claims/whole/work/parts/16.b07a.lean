/-! stretches of HeavierRow$Search, by program (wip/whole/genall.py) -/
theorem dX8_begin_0 : decode mX8_begin.2.1 0 = .ok (.aload_n 0, 1) := by decide +kernel
theorem dX8_begin_1 : decode mX8_begin.2.1 1 = .ok (.iconst 0, 1) := by decide +kernel
theorem dX8_begin_2 : decode mX8_begin.2.1 2 = .ok (.putfield 48, 3) := by decide +kernel
theorem dX8_begin_5 : decode mX8_begin.2.1 5 = .ok (.aload_n 0, 1) := by decide +kernel
theorem dX8_begin_6 : decode mX8_begin.2.1 6 = .ok (.iload_n 1, 1) := by decide +kernel
theorem dX8_begin_7 : decode mX8_begin.2.1 7 = .ok (.aload_n 0, 1) := by decide +kernel
theorem dX8_begin_8 : decode mX8_begin.2.1 8 = .ok (.getfield 52, 3) := by decide +kernel
theorem dX8_begin_11 : decode mX8_begin.2.1 11 = .ok (.if_icmp .ne 26, 3) := by decide +kernel
theorem dX8_begin_14 : decode mX8_begin.2.1 14 = .ok (.iload_n 2, 1) := by decide +kernel
theorem dX8_begin_15 : decode mX8_begin.2.1 15 = .ok (.aload_n 0, 1) := by decide +kernel
theorem dX8_begin_16 : decode mX8_begin.2.1 16 = .ok (.getfield 55, 3) := by decide +kernel
theorem dX8_begin_19 : decode mX8_begin.2.1 19 = .ok (.if_icmp .ne 18, 3) := by decide +kernel
theorem dX8_begin_22 : decode mX8_begin.2.1 22 = .ok (.iload_n 3, 1) := by decide +kernel
theorem dX8_begin_23 : decode mX8_begin.2.1 23 = .ok (.aload_n 0, 1) := by decide +kernel
theorem dX8_begin_24 : decode mX8_begin.2.1 24 = .ok (.getfield 59, 3) := by decide +kernel
theorem dX8_begin_27 : decode mX8_begin.2.1 27 = .ok (.if_icmp .ne 10, 3) := by decide +kernel
theorem dX8_begin_30 : decode mX8_begin.2.1 30 = .ok (.aload_n 0, 1) := by decide +kernel
theorem dX8_begin_31 : decode mX8_begin.2.1 31 = .ok (.getfield 62, 3) := by decide +kernel
theorem dX8_begin_34 : decode mX8_begin.2.1 34 = .ok (.ifCond .ne 7, 3) := by decide +kernel
theorem dX8_begin_37 : decode mX8_begin.2.1 37 = .ok (.iconst 1, 1) := by decide +kernel
theorem dX8_begin_38 : decode mX8_begin.2.1 38 = .ok (.goto 4, 3) := by decide +kernel
theorem dX8_begin_41 : decode mX8_begin.2.1 41 = .ok (.iconst 0, 1) := by decide +kernel
theorem dX8_begin_42 : decode mX8_begin.2.1 42 = .ok (.putfield 65, 3) := by decide +kernel
theorem dX8_begin_45 : decode mX8_begin.2.1 45 = .ok (.iload_n 1, 1) := by decide +kernel
theorem dX8_begin_46 : decode mX8_begin.2.1 46 = .ok (.aload_n 0, 1) := by decide +kernel
theorem dX8_begin_47 : decode mX8_begin.2.1 47 = .ok (.getfield 52, 3) := by decide +kernel
theorem dX8_begin_50 : decode mX8_begin.2.1 50 = .ok (.if_icmp .eq 8, 3) := by decide +kernel
theorem dX8_begin_53 : decode mX8_begin.2.1 53 = .ok (.aload_n 0, 1) := by decide +kernel
theorem dX8_begin_54 : decode mX8_begin.2.1 54 = .ok (.iload_n 1, 1) := by decide +kernel
theorem dX8_begin_55 : decode mX8_begin.2.1 55 = .ok (.invokevirtual 68, 3) := by decide +kernel
theorem dX8_begin_58 : decode mX8_begin.2.1 58 = .ok (.aload_n 0, 1) := by decide +kernel
theorem dX8_begin_59 : decode mX8_begin.2.1 59 = .ok (.iload_n 2, 1) := by decide +kernel
theorem dX8_begin_60 : decode mX8_begin.2.1 60 = .ok (.putfield 55, 3) := by decide +kernel
theorem dX8_begin_63 : decode mX8_begin.2.1 63 = .ok (.aload_n 0, 1) := by decide +kernel
theorem dX8_begin_64 : decode mX8_begin.2.1 64 = .ok (.iload_n 3, 1) := by decide +kernel
theorem dX8_begin_65 : decode mX8_begin.2.1 65 = .ok (.putfield 59, 3) := by decide +kernel
theorem dX8_begin_68 : decode mX8_begin.2.1 68 = .ok (.return_, 1) := by decide +kernel
theorem dX8_numberPairs_0 : decode mX8_numberPairs.2.1 0 = .ok (.aload_n 0, 1) := by decide +kernel
theorem dX8_numberPairs_1 : decode mX8_numberPairs.2.1 1 = .ok (.iload_n 1, 1) := by decide +kernel
theorem dX8_numberPairs_2 : decode mX8_numberPairs.2.1 2 = .ok (.putfield 52, 3) := by decide +kernel
theorem dX8_numberPairs_5 : decode mX8_numberPairs.2.1 5 = .ok (.aload_n 0, 1) := by decide +kernel
theorem dX8_numberPairs_6 : decode mX8_numberPairs.2.1 6 = .ok (.getfield 33, 3) := by decide +kernel
theorem dX8_numberPairs_9 : decode mX8_numberPairs.2.1 9 = .ok (.iconst 0, 1) := by decide +kernel
theorem dX8_numberPairs_10 : decode mX8_numberPairs.2.1 10 = .ok (.invokestatic 72, 3) := by decide +kernel
theorem dX8_numberPairs_13 : decode mX8_numberPairs.2.1 13 = .ok (.iconst 0, 1) := by decide +kernel
theorem dX8_numberPairs_14 : decode mX8_numberPairs.2.1 14 = .ok (.istore_n 2, 1) := by decide +kernel
theorem dX8_numberPairs_15 : decode mX8_numberPairs.2.1 15 = .ok (.iload_n 2, 1) := by decide +kernel
theorem dX8_numberPairs_16 : decode mX8_numberPairs.2.1 16 = .ok (.aload_n 0, 1) := by decide +kernel
theorem dX8_numberPairs_17 : decode mX8_numberPairs.2.1 17 = .ok (.getfield 52, 3) := by decide +kernel
theorem dX8_numberPairs_20 : decode mX8_numberPairs.2.1 20 = .ok (.if_icmp .ge 49, 3) := by decide +kernel
theorem dX8_numberPairs_23 : decode mX8_numberPairs.2.1 23 = .ok (.iload_n 2, 1) := by decide +kernel
theorem dX8_numberPairs_24 : decode mX8_numberPairs.2.1 24 = .ok (.iconst 1, 1) := by decide +kernel
theorem dX8_numberPairs_25 : decode mX8_numberPairs.2.1 25 = .ok (.iadd, 1) := by decide +kernel
theorem dX8_numberPairs_26 : decode mX8_numberPairs.2.1 26 = .ok (.istore_n 3, 1) := by decide +kernel
theorem dX8_numberPairs_27 : decode mX8_numberPairs.2.1 27 = .ok (.iload_n 3, 1) := by decide +kernel
theorem dX8_numberPairs_28 : decode mX8_numberPairs.2.1 28 = .ok (.aload_n 0, 1) := by decide +kernel
theorem dX8_numberPairs_29 : decode mX8_numberPairs.2.1 29 = .ok (.getfield 52, 3) := by decide +kernel
theorem dX8_numberPairs_32 : decode mX8_numberPairs.2.1 32 = .ok (.if_icmp .ge 31, 3) := by decide +kernel
theorem dX8_numberPairs_35 : decode mX8_numberPairs.2.1 35 = .ok (.aload_n 0, 1) := by decide +kernel
theorem dX8_numberPairs_36 : decode mX8_numberPairs.2.1 36 = .ok (.getfield 30, 3) := by decide +kernel
theorem dX8_numberPairs_39 : decode mX8_numberPairs.2.1 39 = .ok (.aload_n 0, 1) := by decide +kernel
theorem dX8_numberPairs_40 : decode mX8_numberPairs.2.1 40 = .ok (.getfield 52, 3) := by decide +kernel
theorem dX8_numberPairs_43 : decode mX8_numberPairs.2.1 43 = .ok (.iload_n 2, 1) := by decide +kernel
theorem dX8_numberPairs_44 : decode mX8_numberPairs.2.1 44 = .ok (.iload_n 3, 1) := by decide +kernel
theorem dX8_numberPairs_45 : decode mX8_numberPairs.2.1 45 = .ok (.invokestatic 78, 3) := by decide +kernel
theorem dX8_numberPairs_48 : decode mX8_numberPairs.2.1 48 = .ok (.bipush 10, 2) := by decide +kernel
theorem dX8_numberPairs_50 : decode mX8_numberPairs.2.1 50 = .ok (.iload_n 2, 1) := by decide +kernel
theorem dX8_numberPairs_51 : decode mX8_numberPairs.2.1 51 = .ok (.imul, 1) := by decide +kernel
theorem dX8_numberPairs_52 : decode mX8_numberPairs.2.1 52 = .ok (.iload_n 3, 1) := by decide +kernel
theorem dX8_numberPairs_53 : decode mX8_numberPairs.2.1 53 = .ok (.iadd, 1) := by decide +kernel
theorem dX8_numberPairs_54 : decode mX8_numberPairs.2.1 54 = .ok (.invokestatic 82, 3) := by decide +kernel
theorem dX8_numberPairs_57 : decode mX8_numberPairs.2.1 57 = .ok (.iinc 3 1, 3) := by decide +kernel
theorem dX8_numberPairs_60 : decode mX8_numberPairs.2.1 60 = .ok (.goto (-33), 3) := by decide +kernel
theorem dX8_numberPairs_63 : decode mX8_numberPairs.2.1 63 = .ok (.iinc 2 1, 3) := by decide +kernel
theorem dX8_numberPairs_66 : decode mX8_numberPairs.2.1 66 = .ok (.goto (-51), 3) := by decide +kernel
theorem dX8_numberPairs_69 : decode mX8_numberPairs.2.1 69 = .ok (.return_, 1) := by decide +kernel
theorem dX8_add_0 : decode mX8_add.2.1 0 = .ok (.aload_n 0, 1) := by decide +kernel
theorem dX8_add_1 : decode mX8_add.2.1 1 = .ok (.getfield 48, 3) := by decide +kernel
theorem dX8_add_4 : decode mX8_add.2.1 4 = .ok (.ifCond .lt 12, 3) := by decide +kernel
theorem dX8_add_7 : decode mX8_add.2.1 7 = .ok (.aload_n 0, 1) := by decide +kernel
theorem dX8_add_8 : decode mX8_add.2.1 8 = .ok (.getfield 48, 3) := by decide +kernel
theorem dX8_add_11 : decode mX8_add.2.1 11 = .ok (.bipush 120, 2) := by decide +kernel
theorem dX8_add_13 : decode mX8_add.2.1 13 = .ok (.if_icmp .lt 4, 3) := by decide +kernel
theorem dX8_add_16 : decode mX8_add.2.1 16 = .ok (.return_, 1) := by decide +kernel
theorem dX8_add_17 : decode mX8_add.2.1 17 = .ok (.aload_n 0, 1) := by decide +kernel
theorem dX8_add_18 : decode mX8_add.2.1 18 = .ok (.getfield 11, 3) := by decide +kernel
theorem dX8_add_21 : decode mX8_add.2.1 21 = .ok (.aload_n 0, 1) := by decide +kernel
theorem dX8_add_22 : decode mX8_add.2.1 22 = .ok (.getfield 48, 3) := by decide +kernel
theorem dX8_add_25 : decode mX8_add.2.1 25 = .ok (.iaload, 1) := by decide +kernel
theorem dX8_add_26 : decode mX8_add.2.1 26 = .ok (.iload_n 1, 1) := by decide +kernel
theorem dX8_add_27 : decode mX8_add.2.1 27 = .ok (.if_icmp .ne 16, 3) := by decide +kernel
theorem dX8_add_30 : decode mX8_add.2.1 30 = .ok (.aload_n 0, 1) := by decide +kernel
theorem dX8_add_31 : decode mX8_add.2.1 31 = .ok (.getfield 15, 3) := by decide +kernel
theorem dX8_add_34 : decode mX8_add.2.1 34 = .ok (.aload_n 0, 1) := by decide +kernel
theorem dX8_add_35 : decode mX8_add.2.1 35 = .ok (.getfield 48, 3) := by decide +kernel
theorem dX8_add_38 : decode mX8_add.2.1 38 = .ok (.iaload, 1) := by decide +kernel
theorem dX8_add_39 : decode mX8_add.2.1 39 = .ok (.iload_n 2, 1) := by decide +kernel
theorem dX8_add_40 : decode mX8_add.2.1 40 = .ok (.if_icmp .eq 28, 3) := by decide +kernel
theorem dX8_add_43 : decode mX8_add.2.1 43 = .ok (.aload_n 0, 1) := by decide +kernel
theorem dX8_add_44 : decode mX8_add.2.1 44 = .ok (.iconst 1, 1) := by decide +kernel
theorem dX8_add_45 : decode mX8_add.2.1 45 = .ok (.putfield 65, 3) := by decide +kernel
theorem dX8_add_48 : decode mX8_add.2.1 48 = .ok (.aload_n 0, 1) := by decide +kernel
theorem dX8_add_49 : decode mX8_add.2.1 49 = .ok (.getfield 11, 3) := by decide +kernel
theorem dX8_add_52 : decode mX8_add.2.1 52 = .ok (.aload_n 0, 1) := by decide +kernel
theorem dX8_add_53 : decode mX8_add.2.1 53 = .ok (.getfield 48, 3) := by decide +kernel
theorem dX8_add_56 : decode mX8_add.2.1 56 = .ok (.iload_n 1, 1) := by decide +kernel
theorem dX8_add_57 : decode mX8_add.2.1 57 = .ok (.iastore, 1) := by decide +kernel
theorem dX8_add_58 : decode mX8_add.2.1 58 = .ok (.aload_n 0, 1) := by decide +kernel
theorem dX8_add_59 : decode mX8_add.2.1 59 = .ok (.getfield 15, 3) := by decide +kernel
theorem dX8_add_62 : decode mX8_add.2.1 62 = .ok (.aload_n 0, 1) := by decide +kernel
theorem dX8_add_63 : decode mX8_add.2.1 63 = .ok (.getfield 48, 3) := by decide +kernel
theorem dX8_add_66 : decode mX8_add.2.1 66 = .ok (.iload_n 2, 1) := by decide +kernel
theorem dX8_add_67 : decode mX8_add.2.1 67 = .ok (.iastore, 1) := by decide +kernel
theorem dX8_add_68 : decode mX8_add.2.1 68 = .ok (.aload_n 0, 1) := by decide +kernel
theorem dX8_add_69 : decode mX8_add.2.1 69 = .ok (.dup, 1) := by decide +kernel
theorem dX8_add_70 : decode mX8_add.2.1 70 = .ok (.getfield 48, 3) := by decide +kernel
theorem dX8_add_73 : decode mX8_add.2.1 73 = .ok (.iconst 1, 1) := by decide +kernel
theorem dX8_add_74 : decode mX8_add.2.1 74 = .ok (.iadd, 1) := by decide +kernel
theorem dX8_add_75 : decode mX8_add.2.1 75 = .ok (.putfield 48, 3) := by decide +kernel
theorem dX8_add_78 : decode mX8_add.2.1 78 = .ok (.return_, 1) := by decide +kernel
theorem dX8_finish_0 : decode mX8_finish.2.1 0 = .ok (.aload_n 0, 1) := by decide +kernel
theorem dX8_finish_1 : decode mX8_finish.2.1 1 = .ok (.getfield 65, 3) := by decide +kernel
theorem dX8_finish_4 : decode mX8_finish.2.1 4 = .ok (.ifCond .ne 15, 3) := by decide +kernel
theorem dX8_finish_7 : decode mX8_finish.2.1 7 = .ok (.aload_n 0, 1) := by decide +kernel
theorem dX8_finish_8 : decode mX8_finish.2.1 8 = .ok (.getfield 48, 3) := by decide +kernel
theorem dX8_finish_11 : decode mX8_finish.2.1 11 = .ok (.aload_n 0, 1) := by decide +kernel
theorem dX8_finish_12 : decode mX8_finish.2.1 12 = .ok (.getfield 86, 3) := by decide +kernel
theorem dX8_finish_15 : decode mX8_finish.2.1 15 = .ok (.if_icmp .ne 4, 3) := by decide +kernel
theorem dX8_finish_18 : decode mX8_finish.2.1 18 = .ok (.return_, 1) := by decide +kernel
theorem dX8_finish_19 : decode mX8_finish.2.1 19 = .ok (.aload_n 0, 1) := by decide +kernel
theorem dX8_finish_20 : decode mX8_finish.2.1 20 = .ok (.aload_n 0, 1) := by decide +kernel
theorem dX8_finish_21 : decode mX8_finish.2.1 21 = .ok (.getfield 48, 3) := by decide +kernel
theorem dX8_finish_24 : decode mX8_finish.2.1 24 = .ok (.putfield 86, 3) := by decide +kernel
theorem dX8_finish_27 : decode mX8_finish.2.1 27 = .ok (.aload_n 0, 1) := by decide +kernel
theorem dX8_finish_28 : decode mX8_finish.2.1 28 = .ok (.dup, 1) := by decide +kernel
theorem dX8_finish_29 : decode mX8_finish.2.1 29 = .ok (.getfield 62, 3) := by decide +kernel
theorem dX8_finish_32 : decode mX8_finish.2.1 32 = .ok (.iconst 1, 1) := by decide +kernel
theorem dX8_finish_33 : decode mX8_finish.2.1 33 = .ok (.iadd, 1) := by decide +kernel
theorem dX8_finish_34 : decode mX8_finish.2.1 34 = .ok (.putfield 62, 3) := by decide +kernel
theorem dX8_finish_37 : decode mX8_finish.2.1 37 = .ok (.aload_n 0, 1) := by decide +kernel
theorem dX8_finish_38 : decode mX8_finish.2.1 38 = .ok (.iconst 0, 1) := by decide +kernel
theorem dX8_finish_39 : decode mX8_finish.2.1 39 = .ok (.putfield 89, 3) := by decide +kernel
theorem dX8_finish_42 : decode mX8_finish.2.1 42 = .ok (.aload_n 0, 1) := by decide +kernel
theorem dX8_finish_43 : decode mX8_finish.2.1 43 = .ok (.iconst 2, 1) := by decide +kernel
theorem dX8_finish_44 : decode mX8_finish.2.1 44 = .ok (.putfield 92, 3) := by decide +kernel
theorem dX8_finish_47 : decode mX8_finish.2.1 47 = .ok (.iconst 0, 1) := by decide +kernel
theorem dX8_finish_48 : decode mX8_finish.2.1 48 = .ok (.istore_n 1, 1) := by decide +kernel
theorem dX8_finish_49 : decode mX8_finish.2.1 49 = .ok (.iload_n 1, 1) := by decide +kernel
theorem dX8_finish_50 : decode mX8_finish.2.1 50 = .ok (.aload_n 0, 1) := by decide +kernel
theorem dX8_finish_51 : decode mX8_finish.2.1 51 = .ok (.getfield 27, 3) := by decide +kernel
theorem dX8_finish_54 : decode mX8_finish.2.1 54 = .ok (.arraylength, 1) := by decide +kernel
theorem dX8_finish_55 : decode mX8_finish.2.1 55 = .ok (.if_icmp .ge 18, 3) := by decide +kernel
theorem dX8_finish_58 : decode mX8_finish.2.1 58 = .ok (.aload_n 0, 1) := by decide +kernel
theorem dX8_finish_59 : decode mX8_finish.2.1 59 = .ok (.getfield 27, 3) := by decide +kernel
theorem dX8_finish_62 : decode mX8_finish.2.1 62 = .ok (.iload_n 1, 1) := by decide +kernel
theorem dX8_finish_63 : decode mX8_finish.2.1 63 = .ok (.lconst 0, 1) := by decide +kernel
theorem dX8_finish_64 : decode mX8_finish.2.1 64 = .ok (.invokestatic 95, 3) := by decide +kernel
theorem dX8_finish_67 : decode mX8_finish.2.1 67 = .ok (.iinc 1 1, 3) := by decide +kernel
theorem dX8_finish_70 : decode mX8_finish.2.1 70 = .ok (.goto (-21), 3) := by decide +kernel
theorem dX8_finish_73 : decode mX8_finish.2.1 73 = .ok (.iconst 0, 1) := by decide +kernel
theorem dX8_finish_74 : decode mX8_finish.2.1 74 = .ok (.istore_n 1, 1) := by decide +kernel
theorem dX8_finish_75 : decode mX8_finish.2.1 75 = .ok (.iload_n 1, 1) := by decide +kernel
theorem dX8_finish_76 : decode mX8_finish.2.1 76 = .ok (.aload_n 0, 1) := by decide +kernel
theorem dX8_finish_77 : decode mX8_finish.2.1 77 = .ok (.getfield 86, 3) := by decide +kernel
theorem dX8_finish_80 : decode mX8_finish.2.1 80 = .ok (.if_icmp .ge 14, 3) := by decide +kernel
theorem dX8_finish_83 : decode mX8_finish.2.1 83 = .ok (.aload_n 0, 1) := by decide +kernel
theorem dX8_finish_84 : decode mX8_finish.2.1 84 = .ok (.iload_n 1, 1) := by decide +kernel
theorem dX8_finish_85 : decode mX8_finish.2.1 85 = .ok (.invokevirtual 98, 3) := by decide +kernel
theorem dX8_finish_88 : decode mX8_finish.2.1 88 = .ok (.iinc 1 1, 3) := by decide +kernel
theorem dX8_finish_91 : decode mX8_finish.2.1 91 = .ok (.goto (-16), 3) := by decide +kernel
theorem dX8_finish_94 : decode mX8_finish.2.1 94 = .ok (.return_, 1) := by decide +kernel
theorem dX8_sortIn_0 : decode mX8_sortIn.2.1 0 = .ok (.aload_n 0, 1) := by decide +kernel
theorem dX8_sortIn_1 : decode mX8_sortIn.2.1 1 = .ok (.getfield 11, 3) := by decide +kernel
theorem dX8_sortIn_4 : decode mX8_sortIn.2.1 4 = .ok (.iload_n 1, 1) := by decide +kernel
theorem dX8_sortIn_5 : decode mX8_sortIn.2.1 5 = .ok (.invokestatic 101, 3) := by decide +kernel
theorem dX8_sortIn_8 : decode mX8_sortIn.2.1 8 = .ok (.istore_n 2, 1) := by decide +kernel
theorem dX8_sortIn_9 : decode mX8_sortIn.2.1 9 = .ok (.iload_n 2, 1) := by decide +kernel
theorem dX8_sortIn_10 : decode mX8_sortIn.2.1 10 = .ok (.sipush 1023, 3) := by decide +kernel
theorem dX8_sortIn_13 : decode mX8_sortIn.2.1 13 = .ok (.iand, 1) := by decide +kernel
theorem dX8_sortIn_14 : decode mX8_sortIn.2.1 14 = .ok (.ifCond .eq 8, 3) := by decide +kernel
theorem dX8_sortIn_17 : decode mX8_sortIn.2.1 17 = .ok (.aload_n 0, 1) := by decide +kernel
theorem dX8_sortIn_18 : decode mX8_sortIn.2.1 18 = .ok (.iconst 3, 1) := by decide +kernel
theorem dX8_sortIn_19 : decode mX8_sortIn.2.1 19 = .ok (.putfield 92, 3) := by decide +kernel
theorem dX8_sortIn_22 : decode mX8_sortIn.2.1 22 = .ok (.iconst 0, 1) := by decide +kernel
theorem dX8_sortIn_23 : decode mX8_sortIn.2.1 23 = .ok (.istore_n 3, 1) := by decide +kernel
theorem dX8_sortIn_24 : decode mX8_sortIn.2.1 24 = .ok (.iload_n 3, 1) := by decide +kernel
theorem dX8_sortIn_25 : decode mX8_sortIn.2.1 25 = .ok (.bipush 30, 2) := by decide +kernel
theorem dX8_sortIn_27 : decode mX8_sortIn.2.1 27 = .ok (.if_icmp .ge 26, 3) := by decide +kernel
theorem dX8_sortIn_30 : decode mX8_sortIn.2.1 30 = .ok (.iload_n 2, 1) := by decide +kernel
theorem dX8_sortIn_31 : decode mX8_sortIn.2.1 31 = .ok (.iload_n 3, 1) := by decide +kernel
theorem dX8_sortIn_32 : decode mX8_sortIn.2.1 32 = .ok (.invokestatic 105, 3) := by decide +kernel
theorem dX8_sortIn_35 : decode mX8_sortIn.2.1 35 = .ok (.ifCond .eq 12, 3) := by decide +kernel
theorem dX8_sortIn_38 : decode mX8_sortIn.2.1 38 = .ok (.aload_n 0, 1) := by decide +kernel
theorem dX8_sortIn_39 : decode mX8_sortIn.2.1 39 = .ok (.getfield 27, 3) := by decide +kernel
theorem dX8_sortIn_42 : decode mX8_sortIn.2.1 42 = .ok (.iload_n 3, 1) := by decide +kernel
theorem dX8_sortIn_43 : decode mX8_sortIn.2.1 43 = .ok (.iload_n 1, 1) := by decide +kernel
theorem dX8_sortIn_44 : decode mX8_sortIn.2.1 44 = .ok (.invokestatic 109, 3) := by decide +kernel
theorem dX8_sortIn_47 : decode mX8_sortIn.2.1 47 = .ok (.iinc 3 1, 3) := by decide +kernel
theorem dX8_sortIn_50 : decode mX8_sortIn.2.1 50 = .ok (.goto (-26), 3) := by decide +kernel
theorem dX8_sortIn_53 : decode mX8_sortIn.2.1 53 = .ok (.aload_n 0, 1) := by decide +kernel
theorem dX8_sortIn_54 : decode mX8_sortIn.2.1 54 = .ok (.iload_n 1, 1) := by decide +kernel
theorem dX8_sortIn_55 : decode mX8_sortIn.2.1 55 = .ok (.invokevirtual 113, 3) := by decide +kernel
theorem dX8_sortIn_58 : decode mX8_sortIn.2.1 58 = .ok (.istore_n 3, 1) := by decide +kernel
theorem dX8_sortIn_59 : decode mX8_sortIn.2.1 59 = .ok (.aload_n 0, 1) := by decide +kernel
theorem dX8_sortIn_60 : decode mX8_sortIn.2.1 60 = .ok (.getfield 18, 3) := by decide +kernel
theorem dX8_sortIn_63 : decode mX8_sortIn.2.1 63 = .ok (.iload_n 1, 1) := by decide +kernel
theorem dX8_sortIn_64 : decode mX8_sortIn.2.1 64 = .ok (.iload_n 3, 1) := by decide +kernel
theorem dX8_sortIn_65 : decode mX8_sortIn.2.1 65 = .ok (.invokestatic 82, 3) := by decide +kernel
theorem dX8_sortIn_68 : decode mX8_sortIn.2.1 68 = .ok (.aload_n 0, 1) := by decide +kernel
theorem dX8_sortIn_69 : decode mX8_sortIn.2.1 69 = .ok (.getfield 21, 3) := by decide +kernel
theorem dX8_sortIn_72 : decode mX8_sortIn.2.1 72 = .ok (.iload_n 3, 1) := by decide +kernel
theorem dX8_sortIn_73 : decode mX8_sortIn.2.1 73 = .ok (.iload_n 1, 1) := by decide +kernel
theorem dX8_sortIn_74 : decode mX8_sortIn.2.1 74 = .ok (.invokestatic 109, 3) := by decide +kernel
theorem dX8_sortIn_77 : decode mX8_sortIn.2.1 77 = .ok (.return_, 1) := by decide +kernel
theorem dX8_putIn_0 : decode mX8_putIn.2.1 0 = .ok (.iload_n 2, 1) := by decide +kernel
theorem dX8_putIn_1 : decode mX8_putIn.2.1 1 = .ok (.bipush 60, 2) := by decide +kernel
theorem dX8_putIn_3 : decode mX8_putIn.2.1 3 = .ok (.if_icmp .ge 9, 3) := by decide +kernel
theorem dX8_putIn_6 : decode mX8_putIn.2.1 6 = .ok (.iconst 2, 1) := by decide +kernel
theorem dX8_putIn_7 : decode mX8_putIn.2.1 7 = .ok (.iload_n 1, 1) := by decide +kernel
theorem dX8_putIn_8 : decode mX8_putIn.2.1 8 = .ok (.imul, 1) := by decide +kernel
theorem dX8_putIn_9 : decode mX8_putIn.2.1 9 = .ok (.goto 8, 3) := by decide +kernel
theorem dX8_putIn_12 : decode mX8_putIn.2.1 12 = .ok (.iconst 2, 1) := by decide +kernel
theorem dX8_putIn_13 : decode mX8_putIn.2.1 13 = .ok (.iload_n 1, 1) := by decide +kernel
theorem dX8_putIn_14 : decode mX8_putIn.2.1 14 = .ok (.imul, 1) := by decide +kernel
theorem dX8_putIn_15 : decode mX8_putIn.2.1 15 = .ok (.iconst 1, 1) := by decide +kernel
theorem dX8_putIn_16 : decode mX8_putIn.2.1 16 = .ok (.iadd, 1) := by decide +kernel
theorem dX8_putIn_17 : decode mX8_putIn.2.1 17 = .ok (.istore_n 3, 1) := by decide +kernel
theorem dX8_putIn_18 : decode mX8_putIn.2.1 18 = .ok (.aload_n 0, 1) := by decide +kernel
theorem dX8_putIn_19 : decode mX8_putIn.2.1 19 = .ok (.iload_n 3, 1) := by decide +kernel
theorem dX8_putIn_20 : decode mX8_putIn.2.1 20 = .ok (.aload_n 0, 1) := by decide +kernel
theorem dX8_putIn_21 : decode mX8_putIn.2.1 21 = .ok (.iload_n 3, 1) := by decide +kernel
theorem dX8_putIn_22 : decode mX8_putIn.2.1 22 = .ok (.invokestatic 117, 3) := by decide +kernel
theorem dX8_putIn_25 : decode mX8_putIn.2.1 25 = .ok (.lconst 1, 1) := by decide +kernel
theorem dX8_putIn_26 : decode mX8_putIn.2.1 26 = .ok (.iload_n 2, 1) := by decide +kernel
theorem dX8_putIn_27 : decode mX8_putIn.2.1 27 = .ok (.bipush 60, 2) := by decide +kernel
theorem dX8_putIn_29 : decode mX8_putIn.2.1 29 = .ok (.irem, 1) := by decide +kernel
theorem dX8_putIn_30 : decode mX8_putIn.2.1 30 = .ok (.lshl, 1) := by decide +kernel
theorem dX8_putIn_31 : decode mX8_putIn.2.1 31 = .ok (.lor, 1) := by decide +kernel
theorem dX8_putIn_32 : decode mX8_putIn.2.1 32 = .ok (.invokestatic 95, 3) := by decide +kernel
theorem dX8_putIn_35 : decode mX8_putIn.2.1 35 = .ok (.return_, 1) := by decide +kernel
theorem dX8_kindLike_0 : decode mX8_kindLike.2.1 0 = .ok (.iconst 0, 1) := by decide +kernel
theorem dX8_kindLike_1 : decode mX8_kindLike.2.1 1 = .ok (.istore_n 2, 1) := by decide +kernel
theorem dX8_kindLike_2 : decode mX8_kindLike.2.1 2 = .ok (.iload_n 2, 1) := by decide +kernel
theorem dX8_kindLike_3 : decode mX8_kindLike.2.1 3 = .ok (.iload_n 1, 1) := by decide +kernel
theorem dX8_kindLike_4 : decode mX8_kindLike.2.1 4 = .ok (.if_icmp .ge 37, 3) := by decide +kernel
theorem dX8_kindLike_7 : decode mX8_kindLike.2.1 7 = .ok (.aload_n 0, 1) := by decide +kernel
theorem dX8_kindLike_8 : decode mX8_kindLike.2.1 8 = .ok (.getfield 15, 3) := by decide +kernel
theorem dX8_kindLike_11 : decode mX8_kindLike.2.1 11 = .ok (.iload_n 2, 1) := by decide +kernel
theorem dX8_kindLike_12 : decode mX8_kindLike.2.1 12 = .ok (.invokestatic 101, 3) := by decide +kernel
theorem dX8_kindLike_15 : decode mX8_kindLike.2.1 15 = .ok (.aload_n 0, 1) := by decide +kernel
theorem dX8_kindLike_16 : decode mX8_kindLike.2.1 16 = .ok (.getfield 15, 3) := by decide +kernel
theorem dX8_kindLike_19 : decode mX8_kindLike.2.1 19 = .ok (.iload_n 1, 1) := by decide +kernel
theorem dX8_kindLike_20 : decode mX8_kindLike.2.1 20 = .ok (.invokestatic 101, 3) := by decide +kernel
theorem dX8_kindLike_23 : decode mX8_kindLike.2.1 23 = .ok (.if_icmp .ne 12, 3) := by decide +kernel
theorem dX8_kindLike_26 : decode mX8_kindLike.2.1 26 = .ok (.aload_n 0, 1) := by decide +kernel
theorem dX8_kindLike_27 : decode mX8_kindLike.2.1 27 = .ok (.getfield 18, 3) := by decide +kernel
theorem dX8_kindLike_30 : decode mX8_kindLike.2.1 30 = .ok (.iload_n 2, 1) := by decide +kernel
theorem dX8_kindLike_31 : decode mX8_kindLike.2.1 31 = .ok (.invokestatic 101, 3) := by decide +kernel
theorem dX8_kindLike_34 : decode mX8_kindLike.2.1 34 = .ok (.ireturn, 1) := by decide +kernel
theorem dX8_kindLike_35 : decode mX8_kindLike.2.1 35 = .ok (.iinc 2 1, 3) := by decide +kernel
theorem dX8_kindLike_38 : decode mX8_kindLike.2.1 38 = .ok (.goto (-36), 3) := by decide +kernel
theorem dX8_kindLike_41 : decode mX8_kindLike.2.1 41 = .ok (.aload_n 0, 1) := by decide +kernel
theorem dX8_kindLike_42 : decode mX8_kindLike.2.1 42 = .ok (.getfield 21, 3) := by decide +kernel
theorem dX8_kindLike_45 : decode mX8_kindLike.2.1 45 = .ok (.iconst 2, 1) := by decide +kernel
theorem dX8_kindLike_46 : decode mX8_kindLike.2.1 46 = .ok (.aload_n 0, 1) := by decide +kernel
theorem dX8_kindLike_47 : decode mX8_kindLike.2.1 47 = .ok (.getfield 89, 3) := by decide +kernel
theorem dX8_kindLike_50 : decode mX8_kindLike.2.1 50 = .ok (.imul, 1) := by decide +kernel
theorem dX8_kindLike_51 : decode mX8_kindLike.2.1 51 = .ok (.lconst 0, 1) := by decide +kernel
theorem dX8_kindLike_52 : decode mX8_kindLike.2.1 52 = .ok (.invokestatic 95, 3) := by decide +kernel
theorem dX8_kindLike_55 : decode mX8_kindLike.2.1 55 = .ok (.aload_n 0, 1) := by decide +kernel
theorem dX8_kindLike_56 : decode mX8_kindLike.2.1 56 = .ok (.getfield 21, 3) := by decide +kernel
theorem dX8_kindLike_59 : decode mX8_kindLike.2.1 59 = .ok (.iconst 2, 1) := by decide +kernel
theorem dX8_kindLike_60 : decode mX8_kindLike.2.1 60 = .ok (.aload_n 0, 1) := by decide +kernel
theorem dX8_kindLike_61 : decode mX8_kindLike.2.1 61 = .ok (.getfield 89, 3) := by decide +kernel
theorem dX8_kindLike_64 : decode mX8_kindLike.2.1 64 = .ok (.imul, 1) := by decide +kernel
theorem dX8_kindLike_65 : decode mX8_kindLike.2.1 65 = .ok (.iconst 1, 1) := by decide +kernel
theorem dX8_kindLike_66 : decode mX8_kindLike.2.1 66 = .ok (.iadd, 1) := by decide +kernel
theorem dX8_kindLike_67 : decode mX8_kindLike.2.1 67 = .ok (.lconst 0, 1) := by decide +kernel
theorem dX8_kindLike_68 : decode mX8_kindLike.2.1 68 = .ok (.invokestatic 95, 3) := by decide +kernel
theorem dX8_kindLike_71 : decode mX8_kindLike.2.1 71 = .ok (.aload_n 0, 1) := by decide +kernel
theorem dX8_kindLike_72 : decode mX8_kindLike.2.1 72 = .ok (.dup, 1) := by decide +kernel
theorem dX8_kindLike_73 : decode mX8_kindLike.2.1 73 = .ok (.getfield 89, 3) := by decide +kernel
theorem dX8_kindLike_76 : decode mX8_kindLike.2.1 76 = .ok (.iconst 1, 1) := by decide +kernel
theorem dX8_kindLike_77 : decode mX8_kindLike.2.1 77 = .ok (.iadd, 1) := by decide +kernel
theorem dX8_kindLike_78 : decode mX8_kindLike.2.1 78 = .ok (.putfield 89, 3) := by decide +kernel
theorem dX8_kindLike_81 : decode mX8_kindLike.2.1 81 = .ok (.aload_n 0, 1) := by decide +kernel
theorem dX8_kindLike_82 : decode mX8_kindLike.2.1 82 = .ok (.getfield 89, 3) := by decide +kernel
theorem dX8_kindLike_85 : decode mX8_kindLike.2.1 85 = .ok (.iconst 1, 1) := by decide +kernel
theorem dX8_kindLike_86 : decode mX8_kindLike.2.1 86 = .ok (.isub, 1) := by decide +kernel
theorem dX8_kindLike_87 : decode mX8_kindLike.2.1 87 = .ok (.ireturn, 1) := by decide +kernel
theorem dX8_fewestOfAll_0 : decode mX8_fewestOfAll.2.1 0 = .ok (.iconst 0, 1) := by decide +kernel
theorem dX8_fewestOfAll_1 : decode mX8_fewestOfAll.2.1 1 = .ok (.istore_n 1, 1) := by decide +kernel
theorem dX8_fewestOfAll_2 : decode mX8_fewestOfAll.2.1 2 = .ok (.iconst (-1), 1) := by decide +kernel
theorem dX8_fewestOfAll_3 : decode mX8_fewestOfAll.2.1 3 = .ok (.istore_n 2, 1) := by decide +kernel
theorem dX8_fewestOfAll_4 : decode mX8_fewestOfAll.2.1 4 = .ok (.iload_n 1, 1) := by decide +kernel
theorem dX8_fewestOfAll_5 : decode mX8_fewestOfAll.2.1 5 = .ok (.iload_n 2, 1) := by decide +kernel
theorem dX8_fewestOfAll_6 : decode mX8_fewestOfAll.2.1 6 = .ok (.if_icmp .le 34, 3) := by decide +kernel
theorem dX8_fewestOfAll_9 : decode mX8_fewestOfAll.2.1 9 = .ok (.iload_n 2, 1) := by decide +kernel
theorem dX8_fewestOfAll_10 : decode mX8_fewestOfAll.2.1 10 = .ok (.bipush 12, 2) := by decide +kernel
theorem dX8_fewestOfAll_12 : decode mX8_fewestOfAll.2.1 12 = .ok (.if_icmp .gt 28, 3) := by decide +kernel
theorem dX8_fewestOfAll_15 : decode mX8_fewestOfAll.2.1 15 = .ok (.iinc 2 1, 3) := by decide +kernel
theorem dX8_fewestOfAll_18 : decode mX8_fewestOfAll.2.1 18 = .ok (.aload_n 0, 1) := by decide +kernel
theorem dX8_fewestOfAll_19 : decode mX8_fewestOfAll.2.1 19 = .ok (.aload_n 0, 1) := by decide +kernel
theorem dX8_fewestOfAll_20 : decode mX8_fewestOfAll.2.1 20 = .ok (.invokevirtual 133, 3) := by decide +kernel
theorem dX8_fewestOfAll_23 : decode mX8_fewestOfAll.2.1 23 = .ok (.aload_n 0, 1) := by decide +kernel
theorem dX8_fewestOfAll_24 : decode mX8_fewestOfAll.2.1 24 = .ok (.invokevirtual 137, 3) := by decide +kernel
theorem dX8_fewestOfAll_27 : decode mX8_fewestOfAll.2.1 27 = .ok (.aload_n 0, 1) := by decide +kernel
theorem dX8_fewestOfAll_28 : decode mX8_fewestOfAll.2.1 28 = .ok (.invokevirtual 140, 3) := by decide +kernel
theorem dX8_fewestOfAll_31 : decode mX8_fewestOfAll.2.1 31 = .ok (.iload_n 2, 1) := by decide +kernel
theorem dX8_fewestOfAll_32 : decode mX8_fewestOfAll.2.1 32 = .ok (.iconst 0, 1) := by decide +kernel
theorem dX8_fewestOfAll_33 : decode mX8_fewestOfAll.2.1 33 = .ok (.invokestatic 143, 3) := by decide +kernel
theorem dX8_fewestOfAll_36 : decode mX8_fewestOfAll.2.1 36 = .ok (.istore_n 1, 1) := by decide +kernel
theorem dX8_fewestOfAll_37 : decode mX8_fewestOfAll.2.1 37 = .ok (.goto (-33), 3) := by decide +kernel
theorem dX8_fewestOfAll_40 : decode mX8_fewestOfAll.2.1 40 = .ok (.iload_n 1, 1) := by decide +kernel
theorem dX8_fewestOfAll_41 : decode mX8_fewestOfAll.2.1 41 = .ok (.ireturn, 1) := by decide +kernel
theorem dX8_allLow_0 : decode mX8_allLow.2.1 0 = .ok (.lconst 1, 1) := by decide +kernel
theorem dX8_allLow_1 : decode mX8_allLow.2.1 1 = .ok (.aload_n 0, 1) := by decide +kernel
theorem dX8_allLow_2 : decode mX8_allLow.2.1 2 = .ok (.getfield 86, 3) := by decide +kernel
theorem dX8_allLow_5 : decode mX8_allLow.2.1 5 = .ok (.bipush 60, 2) := by decide +kernel
theorem dX8_allLow_7 : decode mX8_allLow.2.1 7 = .ok (.invokestatic 120, 3) := by decide +kernel
theorem dX8_allLow_10 : decode mX8_allLow.2.1 10 = .ok (.lshl, 1) := by decide +kernel
theorem dX8_allLow_11 : decode mX8_allLow.2.1 11 = .ok (.lconst 1, 1) := by decide +kernel
theorem dX8_allLow_12 : decode mX8_allLow.2.1 12 = .ok (.lsub, 1) := by decide +kernel
theorem dX8_allLow_13 : decode mX8_allLow.2.1 13 = .ok (.lreturn, 1) := by decide +kernel
theorem dX8_allHigh_0 : decode mX8_allHigh.2.1 0 = .ok (.lconst 1, 1) := by decide +kernel
theorem dX8_allHigh_1 : decode mX8_allHigh.2.1 1 = .ok (.aload_n 0, 1) := by decide +kernel
theorem dX8_allHigh_2 : decode mX8_allHigh.2.1 2 = .ok (.getfield 86, 3) := by decide +kernel
theorem dX8_allHigh_5 : decode mX8_allHigh.2.1 5 = .ok (.bipush 60, 2) := by decide +kernel
theorem dX8_allHigh_7 : decode mX8_allHigh.2.1 7 = .ok (.isub, 1) := by decide +kernel
theorem dX8_allHigh_8 : decode mX8_allHigh.2.1 8 = .ok (.iconst 0, 1) := by decide +kernel
theorem dX8_allHigh_9 : decode mX8_allHigh.2.1 9 = .ok (.invokestatic 126, 3) := by decide +kernel
theorem dX8_allHigh_12 : decode mX8_allHigh.2.1 12 = .ok (.lshl, 1) := by decide +kernel
theorem dX8_allHigh_13 : decode mX8_allHigh.2.1 13 = .ok (.lconst 1, 1) := by decide +kernel
theorem dX8_allHigh_14 : decode mX8_allHigh.2.1 14 = .ok (.lsub, 1) := by decide +kernel
theorem dX8_allHigh_15 : decode mX8_allHigh.2.1 15 = .ok (.lreturn, 1) := by decide +kernel
theorem dX8_surePairs_0 : decode mX8_surePairs.2.1 0 = .ok (.iconst (-1), 1) := by decide +kernel
theorem dX8_surePairs_1 : decode mX8_surePairs.2.1 1 = .ok (.istore_n 1, 1) := by decide +kernel
theorem dX8_surePairs_2 : decode mX8_surePairs.2.1 2 = .ok (.iconst 0, 1) := by decide +kernel
theorem dX8_surePairs_3 : decode mX8_surePairs.2.1 3 = .ok (.istore_n 2, 1) := by decide +kernel
theorem dX8_surePairs_4 : decode mX8_surePairs.2.1 4 = .ok (.iload_n 2, 1) := by decide +kernel
theorem dX8_surePairs_5 : decode mX8_surePairs.2.1 5 = .ok (.aload_n 0, 1) := by decide +kernel
theorem dX8_surePairs_6 : decode mX8_surePairs.2.1 6 = .ok (.getfield 86, 3) := by decide +kernel
theorem dX8_surePairs_9 : decode mX8_surePairs.2.1 9 = .ok (.if_icmp .ge 20, 3) := by decide +kernel
theorem dX8_surePairs_12 : decode mX8_surePairs.2.1 12 = .ok (.iload_n 1, 1) := by decide +kernel
theorem dX8_surePairs_13 : decode mX8_surePairs.2.1 13 = .ok (.aload_n 0, 1) := by decide +kernel
theorem dX8_surePairs_14 : decode mX8_surePairs.2.1 14 = .ok (.getfield 11, 3) := by decide +kernel
theorem dX8_surePairs_17 : decode mX8_surePairs.2.1 17 = .ok (.iload_n 2, 1) := by decide +kernel
theorem dX8_surePairs_18 : decode mX8_surePairs.2.1 18 = .ok (.invokestatic 101, 3) := by decide +kernel
theorem dX8_surePairs_21 : decode mX8_surePairs.2.1 21 = .ok (.iand, 1) := by decide +kernel
theorem dX8_surePairs_22 : decode mX8_surePairs.2.1 22 = .ok (.istore_n 1, 1) := by decide +kernel
theorem dX8_surePairs_23 : decode mX8_surePairs.2.1 23 = .ok (.iinc 2 1, 3) := by decide +kernel
theorem dX8_surePairs_26 : decode mX8_surePairs.2.1 26 = .ok (.goto (-22), 3) := by decide +kernel
theorem dX8_surePairs_29 : decode mX8_surePairs.2.1 29 = .ok (.iload_n 1, 1) := by decide +kernel
theorem dX8_surePairs_30 : decode mX8_surePairs.2.1 30 = .ok (.iload_n 1, 1) := by decide +kernel
theorem dX8_surePairs_31 : decode mX8_surePairs.2.1 31 = .ok (.bipush 10, 2) := by decide +kernel
theorem dX8_surePairs_33 : decode mX8_surePairs.2.1 33 = .ok (.ishr, 1) := by decide +kernel
theorem dX8_surePairs_34 : decode mX8_surePairs.2.1 34 = .ok (.ior, 1) := by decide +kernel
theorem dX8_surePairs_35 : decode mX8_surePairs.2.1 35 = .ok (.iload_n 1, 1) := by decide +kernel
theorem dX8_surePairs_36 : decode mX8_surePairs.2.1 36 = .ok (.bipush 20, 2) := by decide +kernel
theorem dX8_surePairs_38 : decode mX8_surePairs.2.1 38 = .ok (.ishr, 1) := by decide +kernel
theorem dX8_surePairs_39 : decode mX8_surePairs.2.1 39 = .ok (.ior, 1) := by decide +kernel
theorem dX8_surePairs_40 : decode mX8_surePairs.2.1 40 = .ok (.iconst 1, 1) := by decide +kernel
theorem dX8_surePairs_41 : decode mX8_surePairs.2.1 41 = .ok (.aload_n 0, 1) := by decide +kernel
theorem dX8_surePairs_42 : decode mX8_surePairs.2.1 42 = .ok (.invokevirtual 129, 3) := by decide +kernel
theorem dX8_surePairs_45 : decode mX8_surePairs.2.1 45 = .ok (.ishl, 1) := by decide +kernel
theorem dX8_surePairs_46 : decode mX8_surePairs.2.1 46 = .ok (.iconst 1, 1) := by decide +kernel
theorem dX8_surePairs_47 : decode mX8_surePairs.2.1 47 = .ok (.isub, 1) := by decide +kernel
theorem dX8_surePairs_48 : decode mX8_surePairs.2.1 48 = .ok (.iand, 1) := by decide +kernel
theorem dX8_surePairs_49 : decode mX8_surePairs.2.1 49 = .ok (.ireturn, 1) := by decide +kernel
theorem dX8_pairs_0 : decode mX8_pairs.2.1 0 = .ok (.aload_n 0, 1) := by decide +kernel
theorem dX8_pairs_1 : decode mX8_pairs.2.1 1 = .ok (.getfield 52, 3) := by decide +kernel
theorem dX8_pairs_4 : decode mX8_pairs.2.1 4 = .ok (.aload_n 0, 1) := by decide +kernel
theorem dX8_pairs_5 : decode mX8_pairs.2.1 5 = .ok (.getfield 52, 3) := by decide +kernel
theorem dX8_pairs_8 : decode mX8_pairs.2.1 8 = .ok (.iconst 1, 1) := by decide +kernel
theorem dX8_pairs_9 : decode mX8_pairs.2.1 9 = .ok (.isub, 1) := by decide +kernel
theorem dX8_pairs_10 : decode mX8_pairs.2.1 10 = .ok (.imul, 1) := by decide +kernel
theorem dX8_pairs_11 : decode mX8_pairs.2.1 11 = .ok (.iconst 2, 1) := by decide +kernel
theorem dX8_pairs_12 : decode mX8_pairs.2.1 12 = .ok (.idiv, 1) := by decide +kernel
theorem dX8_pairs_13 : decode mX8_pairs.2.1 13 = .ok (.ireturn, 1) := by decide +kernel
theorem dX8_worstFrom_0 : decode mX8_worstFrom.2.1 0 = .ok (.aload_n 0, 1) := by decide +kernel
theorem dX8_worstFrom_1 : decode mX8_worstFrom.2.1 1 = .ok (.lload_n 1, 1) := by decide +kernel
theorem dX8_worstFrom_2 : decode mX8_worstFrom.2.1 2 = .ok (.lload_n 3, 1) := by decide +kernel
theorem dX8_worstFrom_3 : decode mX8_worstFrom.2.1 3 = .ok (.invokevirtual 167, 3) := by decide +kernel
theorem dX8_worstFrom_6 : decode mX8_worstFrom.2.1 6 = .ok (.ifCond .eq 5, 3) := by decide +kernel
theorem dX8_worstFrom_9 : decode mX8_worstFrom.2.1 9 = .ok (.iconst 0, 1) := by decide +kernel
theorem dX8_worstFrom_10 : decode mX8_worstFrom.2.1 10 = .ok (.ireturn, 1) := by decide +kernel
theorem dX8_worstFrom_11 : decode mX8_worstFrom.2.1 11 = .ok (.iload 7, 2) := by decide +kernel
theorem dX8_worstFrom_13 : decode mX8_worstFrom.2.1 13 = .ok (.bipush 12, 2) := by decide +kernel
theorem dX8_worstFrom_15 : decode mX8_worstFrom.2.1 15 = .ok (.if_icmp .le 6, 3) := by decide +kernel
theorem dX8_worstFrom_18 : decode mX8_worstFrom.2.1 18 = .ok (.ldc 150, 2) := by decide +kernel
theorem dX8_worstFrom_20 : decode mX8_worstFrom.2.1 20 = .ok (.ireturn, 1) := by decide +kernel
theorem dX8_worstFrom_21 : decode mX8_worstFrom.2.1 21 = .ok (.aload_n 0, 1) := by decide +kernel
theorem dX8_worstFrom_22 : decode mX8_worstFrom.2.1 22 = .ok (.lload_n 1, 1) := by decide +kernel
theorem dX8_worstFrom_23 : decode mX8_worstFrom.2.1 23 = .ok (.lload_n 3, 1) := by decide +kernel
theorem dX8_worstFrom_24 : decode mX8_worstFrom.2.1 24 = .ok (.invokevirtual 171, 3) := by decide +kernel
theorem dX8_worstFrom_27 : decode mX8_worstFrom.2.1 27 = .ok (.istore 8, 2) := by decide +kernel
theorem dX8_worstFrom_29 : decode mX8_worstFrom.2.1 29 = .ok (.aload_n 0, 1) := by decide +kernel
theorem dX8_worstFrom_30 : decode mX8_worstFrom.2.1 30 = .ok (.getfield 42, 3) := by decide +kernel
theorem dX8_worstFrom_33 : decode mX8_worstFrom.2.1 33 = .ok (.iload 8, 2) := by decide +kernel
theorem dX8_worstFrom_35 : decode mX8_worstFrom.2.1 35 = .ok (.invokestatic 101, 3) := by decide +kernel
theorem dX8_worstFrom_38 : decode mX8_worstFrom.2.1 38 = .ok (.istore 9, 2) := by decide +kernel
theorem dX8_worstFrom_40 : decode mX8_worstFrom.2.1 40 = .ok (.aload_n 0, 1) := by decide +kernel
theorem dX8_worstFrom_41 : decode mX8_worstFrom.2.1 41 = .ok (.lload_n 1, 1) := by decide +kernel
theorem dX8_worstFrom_42 : decode mX8_worstFrom.2.1 42 = .ok (.lload_n 3, 1) := by decide +kernel
theorem dX8_worstFrom_43 : decode mX8_worstFrom.2.1 43 = .ok (.aload_n 0, 1) := by decide +kernel
theorem dX8_worstFrom_44 : decode mX8_worstFrom.2.1 44 = .ok (.iload 5, 2) := by decide +kernel
theorem dX8_worstFrom_46 : decode mX8_worstFrom.2.1 46 = .ok (.invokevirtual 175, 3) := by decide +kernel
theorem dX8_worstFrom_49 : decode mX8_worstFrom.2.1 49 = .ok (.invokevirtual 178, 3) := by decide +kernel
theorem dX8_worstFrom_52 : decode mX8_worstFrom.2.1 52 = .ok (.iload 9, 2) := by decide +kernel
theorem dX8_worstFrom_54 : decode mX8_worstFrom.2.1 54 = .ok (.ineg, 1) := by decide +kernel
theorem dX8_worstFrom_55 : decode mX8_worstFrom.2.1 55 = .ok (.invokestatic 126, 3) := by decide +kernel
theorem dX8_worstFrom_58 : decode mX8_worstFrom.2.1 58 = .ok (.istore 10, 2) := by decide +kernel
theorem dX8_worstFrom_60 : decode mX8_worstFrom.2.1 60 = .ok (.iload 9, 2) := by decide +kernel
theorem dX8_worstFrom_62 : decode mX8_worstFrom.2.1 62 = .ok (.ifCond .gt 10, 3) := by decide +kernel
theorem dX8_worstFrom_65 : decode mX8_worstFrom.2.1 65 = .ok (.iload 10, 2) := by decide +kernel
theorem dX8_worstFrom_67 : decode mX8_worstFrom.2.1 67 = .ok (.iload 6, 2) := by decide +kernel
theorem dX8_worstFrom_69 : decode mX8_worstFrom.2.1 69 = .ok (.if_icmp .le 16, 3) := by decide +kernel
theorem dX8_worstFrom_72 : decode mX8_worstFrom.2.1 72 = .ok (.iload 9, 2) := by decide +kernel
theorem dX8_worstFrom_74 : decode mX8_worstFrom.2.1 74 = .ok (.ifCond .le 8, 3) := by decide +kernel
theorem dX8_worstFrom_77 : decode mX8_worstFrom.2.1 77 = .ok (.iload 9, 2) := by decide +kernel
theorem dX8_worstFrom_79 : decode mX8_worstFrom.2.1 79 = .ok (.goto 5, 3) := by decide +kernel
theorem dX8_worstFrom_82 : decode mX8_worstFrom.2.1 82 = .ok (.iload 10, 2) := by decide +kernel
theorem dX8_worstFrom_84 : decode mX8_worstFrom.2.1 84 = .ok (.ireturn, 1) := by decide +kernel
theorem dX8_worstFrom_85 : decode mX8_worstFrom.2.1 85 = .ok (.ldc 150, 2) := by decide +kernel
theorem dX8_worstFrom_87 : decode mX8_worstFrom.2.1 87 = .ok (.istore 11, 2) := by decide +kernel
theorem dX8_worstFrom_89 : decode mX8_worstFrom.2.1 89 = .ok (.aload_n 0, 1) := by decide +kernel
theorem dX8_worstFrom_90 : decode mX8_worstFrom.2.1 90 = .ok (.iload 5, 2) := by decide +kernel
theorem dX8_worstFrom_92 : decode mX8_worstFrom.2.1 92 = .ok (.invokevirtual 182, 3) := by decide +kernel
theorem dX8_worstFrom_95 : decode mX8_worstFrom.2.1 95 = .ok (.istore 12, 2) := by decide +kernel
theorem dX8_worstFrom_97 : decode mX8_worstFrom.2.1 97 = .ok (.iconst 0, 1) := by decide +kernel
theorem dX8_worstFrom_98 : decode mX8_worstFrom.2.1 98 = .ok (.istore 13, 2) := by decide +kernel
theorem dX8_worstFrom_100 : decode mX8_worstFrom.2.1 100 = .ok (.iload 13, 2) := by decide +kernel
theorem dX8_worstFrom_102 : decode mX8_worstFrom.2.1 102 = .ok (.aload_n 0, 1) := by decide +kernel
theorem dX8_worstFrom_103 : decode mX8_worstFrom.2.1 103 = .ok (.invokevirtual 129, 3) := by decide +kernel
theorem dX8_worstFrom_106 : decode mX8_worstFrom.2.1 106 = .ok (.if_icmp .ge 59, 3) := by decide +kernel
theorem dX8_worstFrom_109 : decode mX8_worstFrom.2.1 109 = .ok (.iload 11, 2) := by decide +kernel
theorem dX8_worstFrom_111 : decode mX8_worstFrom.2.1 111 = .ok (.iload 10, 2) := by decide +kernel
theorem dX8_worstFrom_113 : decode mX8_worstFrom.2.1 113 = .ok (.if_icmp .le 52, 3) := by decide +kernel
theorem dX8_worstFrom_116 : decode mX8_worstFrom.2.1 116 = .ok (.aload_n 0, 1) := by decide +kernel
theorem dX8_worstFrom_117 : decode mX8_worstFrom.2.1 117 = .ok (.iload 13, 2) := by decide +kernel
theorem dX8_worstFrom_119 : decode mX8_worstFrom.2.1 119 = .ok (.iload 12, 2) := by decide +kernel
theorem dX8_worstFrom_121 : decode mX8_worstFrom.2.1 121 = .ok (.invokevirtual 185, 3) := by decide +kernel
theorem dX8_worstFrom_124 : decode mX8_worstFrom.2.1 124 = .ok (.ifCond .eq 35, 3) := by decide +kernel
theorem dX8_worstFrom_127 : decode mX8_worstFrom.2.1 127 = .ok (.iload 6, 2) := by decide +kernel
theorem dX8_worstFrom_129 : decode mX8_worstFrom.2.1 129 = .ok (.iload 11, 2) := by decide +kernel
theorem dX8_worstFrom_131 : decode mX8_worstFrom.2.1 131 = .ok (.iconst 1, 1) := by decide +kernel
theorem dX8_worstFrom_132 : decode mX8_worstFrom.2.1 132 = .ok (.isub, 1) := by decide +kernel
theorem dX8_worstFrom_133 : decode mX8_worstFrom.2.1 133 = .ok (.invokestatic 120, 3) := by decide +kernel
theorem dX8_worstFrom_136 : decode mX8_worstFrom.2.1 136 = .ok (.istore 14, 2) := by decide +kernel
theorem dX8_worstFrom_138 : decode mX8_worstFrom.2.1 138 = .ok (.iload 11, 2) := by decide +kernel
theorem dX8_worstFrom_140 : decode mX8_worstFrom.2.1 140 = .ok (.aload_n 0, 1) := by decide +kernel
theorem dX8_worstFrom_141 : decode mX8_worstFrom.2.1 141 = .ok (.iload 13, 2) := by decide +kernel
theorem dX8_worstFrom_143 : decode mX8_worstFrom.2.1 143 = .ok (.lload_n 1, 1) := by decide +kernel
theorem dX8_worstFrom_144 : decode mX8_worstFrom.2.1 144 = .ok (.lload_n 3, 1) := by decide +kernel
theorem dX8_worstFrom_145 : decode mX8_worstFrom.2.1 145 = .ok (.iload 5, 2) := by decide +kernel
theorem dX8_worstFrom_147 : decode mX8_worstFrom.2.1 147 = .ok (.iload 14, 2) := by decide +kernel
theorem dX8_worstFrom_149 : decode mX8_worstFrom.2.1 149 = .ok (.iload 7, 2) := by decide +kernel
theorem dX8_worstFrom_151 : decode mX8_worstFrom.2.1 151 = .ok (.invokestatic 154, 3) := by decide +kernel
theorem dX8_worstFrom_154 : decode mX8_worstFrom.2.1 154 = .ok (.invokestatic 120, 3) := by decide +kernel
theorem dX8_worstFrom_157 : decode mX8_worstFrom.2.1 157 = .ok (.istore 11, 2) := by decide +kernel
theorem dX8_worstFrom_159 : decode mX8_worstFrom.2.1 159 = .ok (.iinc 13 1, 3) := by decide +kernel
theorem dX8_worstFrom_162 : decode mX8_worstFrom.2.1 162 = .ok (.goto (-62), 3) := by decide +kernel
theorem dX8_worstFrom_165 : decode mX8_worstFrom.2.1 165 = .ok (.aload_n 0, 1) := by decide +kernel
theorem dX8_worstFrom_166 : decode mX8_worstFrom.2.1 166 = .ok (.getfield 42, 3) := by decide +kernel
theorem dX8_worstFrom_169 : decode mX8_worstFrom.2.1 169 = .ok (.iload 8, 2) := by decide +kernel
theorem dX8_worstFrom_171 : decode mX8_worstFrom.2.1 171 = .ok (.iload 11, 2) := by decide +kernel
theorem dX8_worstFrom_173 : decode mX8_worstFrom.2.1 173 = .ok (.iload 6, 2) := by decide +kernel
theorem dX8_worstFrom_175 : decode mX8_worstFrom.2.1 175 = .ok (.if_icmp .gt 8, 3) := by decide +kernel
theorem dX8_worstFrom_178 : decode mX8_worstFrom.2.1 178 = .ok (.iload 11, 2) := by decide +kernel
theorem dX8_worstFrom_180 : decode mX8_worstFrom.2.1 180 = .ok (.goto 6, 3) := by decide +kernel
theorem dX8_worstFrom_183 : decode mX8_worstFrom.2.1 183 = .ok (.iload 11, 2) := by decide +kernel
theorem dX8_worstFrom_185 : decode mX8_worstFrom.2.1 185 = .ok (.ineg, 1) := by decide +kernel
theorem dX8_worstFrom_186 : decode mX8_worstFrom.2.1 186 = .ok (.invokestatic 82, 3) := by decide +kernel
theorem dX8_worstFrom_189 : decode mX8_worstFrom.2.1 189 = .ok (.iload 11, 2) := by decide +kernel
theorem dX8_worstFrom_191 : decode mX8_worstFrom.2.1 191 = .ok (.ireturn, 1) := by decide +kernel
theorem dX8_isAlike_0 : decode mX8_isAlike.2.1 0 = .ok (.lload_n 1, 1) := by decide +kernel
theorem dX8_isAlike_1 : decode mX8_isAlike.2.1 1 = .ok (.lconst 0, 1) := by decide +kernel
theorem dX8_isAlike_2 : decode mX8_isAlike.2.1 2 = .ok (.lcmp, 1) := by decide +kernel
theorem dX8_isAlike_3 : decode mX8_isAlike.2.1 3 = .ok (.ifCond .ne 11, 3) := by decide +kernel
theorem dX8_isAlike_6 : decode mX8_isAlike.2.1 6 = .ok (.lload_n 3, 1) := by decide +kernel
theorem dX8_isAlike_7 : decode mX8_isAlike.2.1 7 = .ok (.lconst 0, 1) := by decide +kernel
theorem dX8_isAlike_8 : decode mX8_isAlike.2.1 8 = .ok (.lcmp, 1) := by decide +kernel
theorem dX8_isAlike_9 : decode mX8_isAlike.2.1 9 = .ok (.ifCond .ne 5, 3) := by decide +kernel
theorem dX8_isAlike_12 : decode mX8_isAlike.2.1 12 = .ok (.iconst 1, 1) := by decide +kernel
theorem dX8_isAlike_13 : decode mX8_isAlike.2.1 13 = .ok (.ireturn, 1) := by decide +kernel
theorem dX8_isAlike_14 : decode mX8_isAlike.2.1 14 = .ok (.lload_n 1, 1) := by decide +kernel
theorem dX8_isAlike_15 : decode mX8_isAlike.2.1 15 = .ok (.lconst 0, 1) := by decide +kernel
theorem dX8_isAlike_16 : decode mX8_isAlike.2.1 16 = .ok (.lcmp, 1) := by decide +kernel
theorem dX8_isAlike_17 : decode mX8_isAlike.2.1 17 = .ok (.ifCond .eq 10, 3) := by decide +kernel
theorem dX8_isAlike_20 : decode mX8_isAlike.2.1 20 = .ok (.lload_n 1, 1) := by decide +kernel
theorem dX8_isAlike_21 : decode mX8_isAlike.2.1 21 = .ok (.invokestatic 197, 3) := by decide +kernel
theorem dX8_isAlike_24 : decode mX8_isAlike.2.1 24 = .ok (.goto 10, 3) := by decide +kernel
theorem dX8_isAlike_27 : decode mX8_isAlike.2.1 27 = .ok (.bipush 60, 2) := by decide +kernel
theorem dX8_isAlike_29 : decode mX8_isAlike.2.1 29 = .ok (.lload_n 3, 1) := by decide +kernel
theorem dX8_isAlike_30 : decode mX8_isAlike.2.1 30 = .ok (.invokestatic 197, 3) := by decide +kernel
theorem dX8_isAlike_33 : decode mX8_isAlike.2.1 33 = .ok (.iadd, 1) := by decide +kernel
theorem dX8_isAlike_34 : decode mX8_isAlike.2.1 34 = .ok (.istore 5, 2) := by decide +kernel
theorem dX8_isAlike_36 : decode mX8_isAlike.2.1 36 = .ok (.aload_n 0, 1) := by decide +kernel
theorem dX8_isAlike_37 : decode mX8_isAlike.2.1 37 = .ok (.getfield 18, 3) := by decide +kernel
theorem dX8_isAlike_40 : decode mX8_isAlike.2.1 40 = .ok (.iload 5, 2) := by decide +kernel
theorem dX8_isAlike_42 : decode mX8_isAlike.2.1 42 = .ok (.invokestatic 101, 3) := by decide +kernel
theorem dX8_isAlike_45 : decode mX8_isAlike.2.1 45 = .ok (.istore 6, 2) := by decide +kernel
theorem dX8_isAlike_47 : decode mX8_isAlike.2.1 47 = .ok (.lload_n 1, 1) := by decide +kernel
theorem dX8_isAlike_48 : decode mX8_isAlike.2.1 48 = .ok (.aload_n 0, 1) := by decide +kernel
theorem dX8_isAlike_49 : decode mX8_isAlike.2.1 49 = .ok (.getfield 21, 3) := by decide +kernel
theorem dX8_isAlike_52 : decode mX8_isAlike.2.1 52 = .ok (.iconst 2, 1) := by decide +kernel
theorem dX8_isAlike_53 : decode mX8_isAlike.2.1 53 = .ok (.iload 6, 2) := by decide +kernel
theorem dX8_isAlike_55 : decode mX8_isAlike.2.1 55 = .ok (.imul, 1) := by decide +kernel
theorem dX8_isAlike_56 : decode mX8_isAlike.2.1 56 = .ok (.invokestatic 117, 3) := by decide +kernel
theorem dX8_isAlike_59 : decode mX8_isAlike.2.1 59 = .ok (.ldc2_w 200, 3) := by decide +kernel
theorem dX8_isAlike_62 : decode mX8_isAlike.2.1 62 = .ok (.lxor, 1) := by decide +kernel
theorem dX8_isAlike_63 : decode mX8_isAlike.2.1 63 = .ok (.land, 1) := by decide +kernel
theorem dX8_isAlike_64 : decode mX8_isAlike.2.1 64 = .ok (.lconst 0, 1) := by decide +kernel
theorem dX8_isAlike_65 : decode mX8_isAlike.2.1 65 = .ok (.lcmp, 1) := by decide +kernel
theorem dX8_isAlike_66 : decode mX8_isAlike.2.1 66 = .ok (.ifCond .ne 31, 3) := by decide +kernel
theorem dX8_isAlike_69 : decode mX8_isAlike.2.1 69 = .ok (.lload_n 3, 1) := by decide +kernel
theorem dX8_isAlike_70 : decode mX8_isAlike.2.1 70 = .ok (.aload_n 0, 1) := by decide +kernel
theorem dX8_isAlike_71 : decode mX8_isAlike.2.1 71 = .ok (.getfield 21, 3) := by decide +kernel
theorem dX8_isAlike_74 : decode mX8_isAlike.2.1 74 = .ok (.iconst 2, 1) := by decide +kernel
theorem dX8_isAlike_75 : decode mX8_isAlike.2.1 75 = .ok (.iload 6, 2) := by decide +kernel
theorem dX8_isAlike_77 : decode mX8_isAlike.2.1 77 = .ok (.imul, 1) := by decide +kernel
theorem dX8_isAlike_78 : decode mX8_isAlike.2.1 78 = .ok (.iconst 1, 1) := by decide +kernel
theorem dX8_isAlike_79 : decode mX8_isAlike.2.1 79 = .ok (.iadd, 1) := by decide +kernel
theorem dX8_isAlike_80 : decode mX8_isAlike.2.1 80 = .ok (.invokestatic 117, 3) := by decide +kernel
theorem dX8_isAlike_83 : decode mX8_isAlike.2.1 83 = .ok (.ldc2_w 200, 3) := by decide +kernel
theorem dX8_isAlike_86 : decode mX8_isAlike.2.1 86 = .ok (.lxor, 1) := by decide +kernel
theorem dX8_isAlike_87 : decode mX8_isAlike.2.1 87 = .ok (.land, 1) := by decide +kernel
theorem dX8_isAlike_88 : decode mX8_isAlike.2.1 88 = .ok (.lconst 0, 1) := by decide +kernel
theorem dX8_isAlike_89 : decode mX8_isAlike.2.1 89 = .ok (.lcmp, 1) := by decide +kernel
theorem dX8_isAlike_90 : decode mX8_isAlike.2.1 90 = .ok (.ifCond .ne 7, 3) := by decide +kernel
theorem dX8_isAlike_93 : decode mX8_isAlike.2.1 93 = .ok (.iconst 1, 1) := by decide +kernel
theorem dX8_isAlike_94 : decode mX8_isAlike.2.1 94 = .ok (.goto 4, 3) := by decide +kernel
theorem dX8_isAlike_97 : decode mX8_isAlike.2.1 97 = .ok (.iconst 0, 1) := by decide +kernel
theorem dX8_isAlike_98 : decode mX8_isAlike.2.1 98 = .ok (.ireturn, 1) := by decide +kernel
theorem dX8_slotOf_0 : decode mX8_slotOf.2.1 0 = .ok (.lload_n 1, 1) := by decide +kernel
theorem dX8_slotOf_1 : decode mX8_slotOf.2.1 1 = .ok (.ldc2_w 212, 3) := by decide +kernel
theorem dX8_slotOf_4 : decode mX8_slotOf.2.1 4 = .ok (.lmul, 1) := by decide +kernel
theorem dX8_slotOf_5 : decode mX8_slotOf.2.1 5 = .ok (.lload_n 3, 1) := by decide +kernel
theorem dX8_slotOf_6 : decode mX8_slotOf.2.1 6 = .ok (.ladd, 1) := by decide +kernel
theorem dX8_slotOf_7 : decode mX8_slotOf.2.1 7 = .ok (.ldc2_w 214, 3) := by decide +kernel
theorem dX8_slotOf_10 : decode mX8_slotOf.2.1 10 = .ok (.lmul, 1) := by decide +kernel
theorem dX8_slotOf_11 : decode mX8_slotOf.2.1 11 = .ok (.lstore 5, 2) := by decide +kernel
theorem dX8_slotOf_13 : decode mX8_slotOf.2.1 13 = .ok (.lload 5, 2) := by decide +kernel
theorem dX8_slotOf_15 : decode mX8_slotOf.2.1 15 = .ok (.bipush 40, 2) := by decide +kernel
theorem dX8_slotOf_17 : decode mX8_slotOf.2.1 17 = .ok (.lushr, 1) := by decide +kernel
theorem dX8_slotOf_18 : decode mX8_slotOf.2.1 18 = .ok (.l2i, 1) := by decide +kernel
theorem dX8_slotOf_19 : decode mX8_slotOf.2.1 19 = .ok (.sipush 4095, 3) := by decide +kernel
theorem dX8_slotOf_22 : decode mX8_slotOf.2.1 22 = .ok (.iand, 1) := by decide +kernel
theorem dX8_slotOf_23 : decode mX8_slotOf.2.1 23 = .ok (.istore 7, 2) := by decide +kernel
theorem dX8_slotOf_25 : decode mX8_slotOf.2.1 25 = .ok (.iconst 0, 1) := by decide +kernel
theorem dX8_slotOf_26 : decode mX8_slotOf.2.1 26 = .ok (.istore 8, 2) := by decide +kernel
theorem dX8_slotOf_28 : decode mX8_slotOf.2.1 28 = .ok (.iload 8, 2) := by decide +kernel
theorem dX8_slotOf_30 : decode mX8_slotOf.2.1 30 = .ok (.bipush 64, 2) := by decide +kernel
theorem dX8_slotOf_32 : decode mX8_slotOf.2.1 32 = .ok (.if_icmp .ge 134, 3) := by decide +kernel
theorem dX8_slotOf_35 : decode mX8_slotOf.2.1 35 = .ok (.aload_n 0, 1) := by decide +kernel
theorem dX8_slotOf_36 : decode mX8_slotOf.2.1 36 = .ok (.getfield 36, 3) := by decide +kernel
theorem dX8_slotOf_39 : decode mX8_slotOf.2.1 39 = .ok (.iload 7, 2) := by decide +kernel
theorem dX8_slotOf_41 : decode mX8_slotOf.2.1 41 = .ok (.invokestatic 101, 3) := by decide +kernel
theorem dX8_slotOf_44 : decode mX8_slotOf.2.1 44 = .ok (.aload_n 0, 1) := by decide +kernel
theorem dX8_slotOf_45 : decode mX8_slotOf.2.1 45 = .ok (.getfield 62, 3) := by decide +kernel
theorem dX8_slotOf_48 : decode mX8_slotOf.2.1 48 = .ok (.if_icmp .eq 65, 3) := by decide +kernel
theorem dX8_slotOf_51 : decode mX8_slotOf.2.1 51 = .ok (.aload_n 0, 1) := by decide +kernel
theorem dX8_slotOf_52 : decode mX8_slotOf.2.1 52 = .ok (.getfield 36, 3) := by decide +kernel
theorem dX8_slotOf_55 : decode mX8_slotOf.2.1 55 = .ok (.iload 7, 2) := by decide +kernel
theorem dX8_slotOf_57 : decode mX8_slotOf.2.1 57 = .ok (.aload_n 0, 1) := by decide +kernel
theorem dX8_slotOf_58 : decode mX8_slotOf.2.1 58 = .ok (.getfield 62, 3) := by decide +kernel
theorem dX8_slotOf_61 : decode mX8_slotOf.2.1 61 = .ok (.invokestatic 82, 3) := by decide +kernel
theorem dX8_slotOf_64 : decode mX8_slotOf.2.1 64 = .ok (.aload_n 0, 1) := by decide +kernel
theorem dX8_slotOf_65 : decode mX8_slotOf.2.1 65 = .ok (.getfield 39, 3) := by decide +kernel
theorem dX8_slotOf_68 : decode mX8_slotOf.2.1 68 = .ok (.iconst 2, 1) := by decide +kernel
theorem dX8_slotOf_69 : decode mX8_slotOf.2.1 69 = .ok (.iload 7, 2) := by decide +kernel
theorem dX8_slotOf_71 : decode mX8_slotOf.2.1 71 = .ok (.imul, 1) := by decide +kernel
theorem dX8_slotOf_72 : decode mX8_slotOf.2.1 72 = .ok (.lload_n 1, 1) := by decide +kernel
theorem dX8_slotOf_73 : decode mX8_slotOf.2.1 73 = .ok (.invokestatic 95, 3) := by decide +kernel
theorem dX8_slotOf_76 : decode mX8_slotOf.2.1 76 = .ok (.aload_n 0, 1) := by decide +kernel
theorem dX8_slotOf_77 : decode mX8_slotOf.2.1 77 = .ok (.getfield 39, 3) := by decide +kernel
theorem dX8_slotOf_80 : decode mX8_slotOf.2.1 80 = .ok (.iconst 2, 1) := by decide +kernel
theorem dX8_slotOf_81 : decode mX8_slotOf.2.1 81 = .ok (.iload 7, 2) := by decide +kernel
theorem dX8_slotOf_83 : decode mX8_slotOf.2.1 83 = .ok (.imul, 1) := by decide +kernel
theorem dX8_slotOf_84 : decode mX8_slotOf.2.1 84 = .ok (.iconst 1, 1) := by decide +kernel
theorem dX8_slotOf_85 : decode mX8_slotOf.2.1 85 = .ok (.iadd, 1) := by decide +kernel
theorem dX8_slotOf_86 : decode mX8_slotOf.2.1 86 = .ok (.lload_n 3, 1) := by decide +kernel
theorem dX8_slotOf_87 : decode mX8_slotOf.2.1 87 = .ok (.invokestatic 95, 3) := by decide +kernel
theorem dX8_slotOf_90 : decode mX8_slotOf.2.1 90 = .ok (.aload_n 0, 1) := by decide +kernel
theorem dX8_slotOf_91 : decode mX8_slotOf.2.1 91 = .ok (.getfield 42, 3) := by decide +kernel
theorem dX8_slotOf_94 : decode mX8_slotOf.2.1 94 = .ok (.iload 7, 2) := by decide +kernel
theorem dX8_slotOf_96 : decode mX8_slotOf.2.1 96 = .ok (.iconst 0, 1) := by decide +kernel
theorem dX8_slotOf_97 : decode mX8_slotOf.2.1 97 = .ok (.invokestatic 82, 3) := by decide +kernel
theorem dX8_slotOf_100 : decode mX8_slotOf.2.1 100 = .ok (.aload_n 0, 1) := by decide +kernel
theorem dX8_slotOf_101 : decode mX8_slotOf.2.1 101 = .ok (.getfield 45, 3) := by decide +kernel
theorem dX8_slotOf_104 : decode mX8_slotOf.2.1 104 = .ok (.iload 7, 2) := by decide +kernel
theorem dX8_slotOf_106 : decode mX8_slotOf.2.1 106 = .ok (.iconst 0, 1) := by decide +kernel
theorem dX8_slotOf_107 : decode mX8_slotOf.2.1 107 = .ok (.invokestatic 82, 3) := by decide +kernel
theorem dX8_slotOf_110 : decode mX8_slotOf.2.1 110 = .ok (.iload 7, 2) := by decide +kernel
theorem dX8_slotOf_112 : decode mX8_slotOf.2.1 112 = .ok (.ireturn, 1) := by decide +kernel
theorem dX8_slotOf_113 : decode mX8_slotOf.2.1 113 = .ok (.aload_n 0, 1) := by decide +kernel
theorem dX8_slotOf_114 : decode mX8_slotOf.2.1 114 = .ok (.getfield 39, 3) := by decide +kernel
theorem dX8_slotOf_117 : decode mX8_slotOf.2.1 117 = .ok (.iconst 2, 1) := by decide +kernel
theorem dX8_slotOf_118 : decode mX8_slotOf.2.1 118 = .ok (.iload 7, 2) := by decide +kernel
theorem dX8_slotOf_120 : decode mX8_slotOf.2.1 120 = .ok (.imul, 1) := by decide +kernel
theorem dX8_slotOf_121 : decode mX8_slotOf.2.1 121 = .ok (.invokestatic 117, 3) := by decide +kernel
theorem dX8_slotOf_124 : decode mX8_slotOf.2.1 124 = .ok (.lload_n 1, 1) := by decide +kernel
theorem dX8_slotOf_125 : decode mX8_slotOf.2.1 125 = .ok (.lcmp, 1) := by decide +kernel
theorem dX8_slotOf_126 : decode mX8_slotOf.2.1 126 = .ok (.ifCond .ne 24, 3) := by decide +kernel
theorem dX8_slotOf_129 : decode mX8_slotOf.2.1 129 = .ok (.aload_n 0, 1) := by decide +kernel
theorem dX8_slotOf_130 : decode mX8_slotOf.2.1 130 = .ok (.getfield 39, 3) := by decide +kernel
theorem dX8_slotOf_133 : decode mX8_slotOf.2.1 133 = .ok (.iconst 2, 1) := by decide +kernel
theorem dX8_slotOf_134 : decode mX8_slotOf.2.1 134 = .ok (.iload 7, 2) := by decide +kernel
theorem dX8_slotOf_136 : decode mX8_slotOf.2.1 136 = .ok (.imul, 1) := by decide +kernel
theorem dX8_slotOf_137 : decode mX8_slotOf.2.1 137 = .ok (.iconst 1, 1) := by decide +kernel
theorem dX8_slotOf_138 : decode mX8_slotOf.2.1 138 = .ok (.iadd, 1) := by decide +kernel
theorem dX8_slotOf_139 : decode mX8_slotOf.2.1 139 = .ok (.invokestatic 117, 3) := by decide +kernel
theorem dX8_slotOf_142 : decode mX8_slotOf.2.1 142 = .ok (.lload_n 3, 1) := by decide +kernel
theorem dX8_slotOf_143 : decode mX8_slotOf.2.1 143 = .ok (.lcmp, 1) := by decide +kernel
theorem dX8_slotOf_144 : decode mX8_slotOf.2.1 144 = .ok (.ifCond .ne 6, 3) := by decide +kernel
theorem dX8_slotOf_147 : decode mX8_slotOf.2.1 147 = .ok (.iload 7, 2) := by decide +kernel
theorem dX8_slotOf_149 : decode mX8_slotOf.2.1 149 = .ok (.ireturn, 1) := by decide +kernel
theorem dX8_slotOf_150 : decode mX8_slotOf.2.1 150 = .ok (.iload 7, 2) := by decide +kernel
theorem dX8_slotOf_152 : decode mX8_slotOf.2.1 152 = .ok (.iconst 1, 1) := by decide +kernel
theorem dX8_slotOf_153 : decode mX8_slotOf.2.1 153 = .ok (.iadd, 1) := by decide +kernel
theorem dX8_slotOf_154 : decode mX8_slotOf.2.1 154 = .ok (.sipush 4095, 3) := by decide +kernel
theorem dX8_slotOf_157 : decode mX8_slotOf.2.1 157 = .ok (.iand, 1) := by decide +kernel
theorem dX8_slotOf_158 : decode mX8_slotOf.2.1 158 = .ok (.istore 7, 2) := by decide +kernel
theorem dX8_slotOf_160 : decode mX8_slotOf.2.1 160 = .ok (.iinc 8 1, 3) := by decide +kernel
theorem dX8_slotOf_163 : decode mX8_slotOf.2.1 163 = .ok (.goto (-135), 3) := by decide +kernel
theorem dX8_slotOf_166 : decode mX8_slotOf.2.1 166 = .ok (.iconst (-1), 1) := by decide +kernel
theorem dX8_slotOf_167 : decode mX8_slotOf.2.1 167 = .ok (.ireturn, 1) := by decide +kernel
theorem dX8_joinsFor_0 : decode mX8_joinsFor.2.1 0 = .ok (.aload_n 0, 1) := by decide +kernel
theorem dX8_joinsFor_1 : decode mX8_joinsFor.2.1 1 = .ok (.getfield 55, 3) := by decide +kernel
theorem dX8_joinsFor_4 : decode mX8_joinsFor.2.1 4 = .ok (.ifCond .ne 5, 3) := by decide +kernel
theorem dX8_joinsFor_7 : decode mX8_joinsFor.2.1 7 = .ok (.iconst 1, 1) := by decide +kernel
theorem dX8_joinsFor_8 : decode mX8_joinsFor.2.1 8 = .ok (.ireturn, 1) := by decide +kernel
theorem dX8_joinsFor_9 : decode mX8_joinsFor.2.1 9 = .ok (.aload_n 0, 1) := by decide +kernel
theorem dX8_joinsFor_10 : decode mX8_joinsFor.2.1 10 = .ok (.getfield 33, 3) := by decide +kernel
theorem dX8_joinsFor_13 : decode mX8_joinsFor.2.1 13 = .ok (.iload_n 1, 1) := by decide +kernel
theorem dX8_joinsFor_14 : decode mX8_joinsFor.2.1 14 = .ok (.invokestatic 101, 3) := by decide +kernel
theorem dX8_joinsFor_17 : decode mX8_joinsFor.2.1 17 = .ok (.ifCond .ne 16, 3) := by decide +kernel
theorem dX8_joinsFor_20 : decode mX8_joinsFor.2.1 20 = .ok (.aload_n 0, 1) := by decide +kernel
theorem dX8_joinsFor_21 : decode mX8_joinsFor.2.1 21 = .ok (.getfield 33, 3) := by decide +kernel
theorem dX8_joinsFor_24 : decode mX8_joinsFor.2.1 24 = .ok (.iload_n 1, 1) := by decide +kernel
theorem dX8_joinsFor_25 : decode mX8_joinsFor.2.1 25 = .ok (.aload_n 0, 1) := by decide +kernel
theorem dX8_joinsFor_26 : decode mX8_joinsFor.2.1 26 = .ok (.iload_n 1, 1) := by decide +kernel
theorem dX8_joinsFor_27 : decode mX8_joinsFor.2.1 27 = .ok (.invokevirtual 208, 3) := by decide +kernel
theorem dX8_joinsFor_30 : decode mX8_joinsFor.2.1 30 = .ok (.invokestatic 82, 3) := by decide +kernel
theorem dX8_joinsFor_33 : decode mX8_joinsFor.2.1 33 = .ok (.iconst 1, 1) := by decide +kernel
theorem dX8_joinsFor_34 : decode mX8_joinsFor.2.1 34 = .ok (.aload_n 0, 1) := by decide +kernel
theorem dX8_joinsFor_35 : decode mX8_joinsFor.2.1 35 = .ok (.getfield 33, 3) := by decide +kernel
theorem dX8_joinsFor_38 : decode mX8_joinsFor.2.1 38 = .ok (.iload_n 1, 1) := by decide +kernel
theorem dX8_joinsFor_39 : decode mX8_joinsFor.2.1 39 = .ok (.invokestatic 101, 3) := by decide +kernel
theorem dX8_joinsFor_42 : decode mX8_joinsFor.2.1 42 = .ok (.iconst 1, 1) := by decide +kernel
theorem dX8_joinsFor_43 : decode mX8_joinsFor.2.1 43 = .ok (.isub, 1) := by decide +kernel
theorem dX8_joinsFor_44 : decode mX8_joinsFor.2.1 44 = .ok (.invokestatic 126, 3) := by decide +kernel
theorem dX8_joinsFor_47 : decode mX8_joinsFor.2.1 47 = .ok (.ireturn, 1) := by decide +kernel
theorem dX8_countGroups_0 : decode mX8_countGroups.2.1 0 = .ok (.aload_n 0, 1) := by decide +kernel
theorem dX8_countGroups_1 : decode mX8_countGroups.2.1 1 = .ok (.getfield 52, 3) := by decide +kernel
theorem dX8_countGroups_4 : decode mX8_countGroups.2.1 4 = .ok (.istore_n 2, 1) := by decide +kernel
theorem dX8_countGroups_5 : decode mX8_countGroups.2.1 5 = .ok (.ldc 211, 2) := by decide +kernel
theorem dX8_countGroups_7 : decode mX8_countGroups.2.1 7 = .ok (.istore_n 3, 1) := by decide +kernel
theorem dX8_countGroups_8 : decode mX8_countGroups.2.1 8 = .ok (.iconst 0, 1) := by decide +kernel
theorem dX8_countGroups_9 : decode mX8_countGroups.2.1 9 = .ok (.istore 4, 2) := by decide +kernel
theorem dX8_countGroups_11 : decode mX8_countGroups.2.1 11 = .ok (.iload 4, 2) := by decide +kernel
theorem dX8_countGroups_13 : decode mX8_countGroups.2.1 13 = .ok (.aload_n 0, 1) := by decide +kernel
theorem dX8_countGroups_14 : decode mX8_countGroups.2.1 14 = .ok (.invokevirtual 129, 3) := by decide +kernel
theorem dX8_countGroups_17 : decode mX8_countGroups.2.1 17 = .ok (.if_icmp .ge 150, 3) := by decide +kernel
theorem dX8_countGroups_20 : decode mX8_countGroups.2.1 20 = .ok (.aload_n 0, 1) := by decide +kernel
theorem dX8_countGroups_21 : decode mX8_countGroups.2.1 21 = .ok (.getfield 30, 3) := by decide +kernel
theorem dX8_countGroups_24 : decode mX8_countGroups.2.1 24 = .ok (.iload 4, 2) := by decide +kernel
theorem dX8_countGroups_26 : decode mX8_countGroups.2.1 26 = .ok (.invokestatic 101, 3) := by decide +kernel
theorem dX8_countGroups_29 : decode mX8_countGroups.2.1 29 = .ok (.istore 5, 2) := by decide +kernel
theorem dX8_countGroups_31 : decode mX8_countGroups.2.1 31 = .ok (.iload_n 3, 1) := by decide +kernel
theorem dX8_countGroups_32 : decode mX8_countGroups.2.1 32 = .ok (.iconst 4, 1) := by decide +kernel
theorem dX8_countGroups_33 : decode mX8_countGroups.2.1 33 = .ok (.iload 5, 2) := by decide +kernel
theorem dX8_countGroups_35 : decode mX8_countGroups.2.1 35 = .ok (.bipush 10, 2) := by decide +kernel
theorem dX8_countGroups_37 : decode mX8_countGroups.2.1 37 = .ok (.idiv, 1) := by decide +kernel
theorem dX8_countGroups_38 : decode mX8_countGroups.2.1 38 = .ok (.imul, 1) := by decide +kernel
theorem dX8_countGroups_39 : decode mX8_countGroups.2.1 39 = .ok (.ishr, 1) := by decide +kernel
theorem dX8_countGroups_40 : decode mX8_countGroups.2.1 40 = .ok (.bipush 15, 2) := by decide +kernel
theorem dX8_countGroups_42 : decode mX8_countGroups.2.1 42 = .ok (.iand, 1) := by decide +kernel
theorem dX8_countGroups_43 : decode mX8_countGroups.2.1 43 = .ok (.istore 6, 2) := by decide +kernel
theorem dX8_countGroups_45 : decode mX8_countGroups.2.1 45 = .ok (.iload_n 3, 1) := by decide +kernel
theorem dX8_countGroups_46 : decode mX8_countGroups.2.1 46 = .ok (.iconst 4, 1) := by decide +kernel
theorem dX8_countGroups_47 : decode mX8_countGroups.2.1 47 = .ok (.iload 5, 2) := by decide +kernel
theorem dX8_countGroups_49 : decode mX8_countGroups.2.1 49 = .ok (.bipush 10, 2) := by decide +kernel
theorem dX8_countGroups_51 : decode mX8_countGroups.2.1 51 = .ok (.irem, 1) := by decide +kernel
theorem dX8_countGroups_52 : decode mX8_countGroups.2.1 52 = .ok (.imul, 1) := by decide +kernel
theorem dX8_countGroups_53 : decode mX8_countGroups.2.1 53 = .ok (.ishr, 1) := by decide +kernel
theorem dX8_countGroups_54 : decode mX8_countGroups.2.1 54 = .ok (.bipush 15, 2) := by decide +kernel
theorem dX8_countGroups_56 : decode mX8_countGroups.2.1 56 = .ok (.iand, 1) := by decide +kernel
theorem dX8_countGroups_57 : decode mX8_countGroups.2.1 57 = .ok (.istore 7, 2) := by decide +kernel
theorem dX8_countGroups_59 : decode mX8_countGroups.2.1 59 = .ok (.iload_n 1, 1) := by decide +kernel
theorem dX8_countGroups_60 : decode mX8_countGroups.2.1 60 = .ok (.iload 4, 2) := by decide +kernel
theorem dX8_countGroups_62 : decode mX8_countGroups.2.1 62 = .ok (.invokestatic 105, 3) := by decide +kernel
theorem dX8_countGroups_65 : decode mX8_countGroups.2.1 65 = .ok (.ifCond .eq 14, 3) := by decide +kernel
theorem dX8_countGroups_68 : decode mX8_countGroups.2.1 68 = .ok (.iload 6, 2) := by decide +kernel
theorem dX8_countGroups_70 : decode mX8_countGroups.2.1 70 = .ok (.iload 7, 2) := by decide +kernel
theorem dX8_countGroups_72 : decode mX8_countGroups.2.1 72 = .ok (.if_icmp .eq 7, 3) := by decide +kernel
theorem dX8_countGroups_75 : decode mX8_countGroups.2.1 75 = .ok (.iconst 1, 1) := by decide +kernel
theorem dX8_countGroups_76 : decode mX8_countGroups.2.1 76 = .ok (.goto 4, 3) := by decide +kernel
theorem dX8_countGroups_79 : decode mX8_countGroups.2.1 79 = .ok (.iconst 0, 1) := by decide +kernel
theorem dX8_countGroups_80 : decode mX8_countGroups.2.1 80 = .ok (.istore 8, 2) := by decide +kernel
theorem dX8_countGroups_82 : decode mX8_countGroups.2.1 82 = .ok (.iload_n 2, 1) := by decide +kernel
theorem dX8_countGroups_83 : decode mX8_countGroups.2.1 83 = .ok (.iload 8, 2) := by decide +kernel
theorem dX8_countGroups_85 : decode mX8_countGroups.2.1 85 = .ok (.ifCond .eq 7, 3) := by decide +kernel
theorem dX8_countGroups_88 : decode mX8_countGroups.2.1 88 = .ok (.iconst 1, 1) := by decide +kernel
theorem dX8_countGroups_89 : decode mX8_countGroups.2.1 89 = .ok (.goto 4, 3) := by decide +kernel
theorem dX8_countGroups_92 : decode mX8_countGroups.2.1 92 = .ok (.iconst 0, 1) := by decide +kernel
theorem dX8_countGroups_93 : decode mX8_countGroups.2.1 93 = .ok (.isub, 1) := by decide +kernel
theorem dX8_countGroups_94 : decode mX8_countGroups.2.1 94 = .ok (.istore_n 2, 1) := by decide +kernel
theorem dX8_countGroups_95 : decode mX8_countGroups.2.1 95 = .ok (.iconst 0, 1) := by decide +kernel
theorem dX8_countGroups_96 : decode mX8_countGroups.2.1 96 = .ok (.istore 9, 2) := by decide +kernel
theorem dX8_countGroups_98 : decode mX8_countGroups.2.1 98 = .ok (.iload 9, 2) := by decide +kernel
theorem dX8_countGroups_100 : decode mX8_countGroups.2.1 100 = .ok (.aload_n 0, 1) := by decide +kernel
theorem dX8_countGroups_101 : decode mX8_countGroups.2.1 101 = .ok (.getfield 52, 3) := by decide +kernel
theorem dX8_countGroups_104 : decode mX8_countGroups.2.1 104 = .ok (.if_icmp .ge 57, 3) := by decide +kernel
theorem dX8_countGroups_107 : decode mX8_countGroups.2.1 107 = .ok (.iload 8, 2) := by decide +kernel
theorem dX8_countGroups_109 : decode mX8_countGroups.2.1 109 = .ok (.ifCond .eq 52, 3) := by decide +kernel
theorem dX8_countGroups_112 : decode mX8_countGroups.2.1 112 = .ok (.iload_n 3, 1) := by decide +kernel
theorem dX8_countGroups_113 : decode mX8_countGroups.2.1 113 = .ok (.iconst 4, 1) := by decide +kernel
theorem dX8_countGroups_114 : decode mX8_countGroups.2.1 114 = .ok (.iload 9, 2) := by decide +kernel
theorem dX8_countGroups_116 : decode mX8_countGroups.2.1 116 = .ok (.imul, 1) := by decide +kernel
theorem dX8_countGroups_117 : decode mX8_countGroups.2.1 117 = .ok (.ishr, 1) := by decide +kernel
theorem dX8_countGroups_118 : decode mX8_countGroups.2.1 118 = .ok (.bipush 15, 2) := by decide +kernel
theorem dX8_countGroups_120 : decode mX8_countGroups.2.1 120 = .ok (.iand, 1) := by decide +kernel
theorem dX8_countGroups_121 : decode mX8_countGroups.2.1 121 = .ok (.iload 7, 2) := by decide +kernel
theorem dX8_countGroups_123 : decode mX8_countGroups.2.1 123 = .ok (.if_icmp .ne 7, 3) := by decide +kernel
theorem dX8_countGroups_126 : decode mX8_countGroups.2.1 126 = .ok (.iconst 1, 1) := by decide +kernel
theorem dX8_countGroups_127 : decode mX8_countGroups.2.1 127 = .ok (.goto 4, 3) := by decide +kernel
theorem dX8_countGroups_130 : decode mX8_countGroups.2.1 130 = .ok (.iconst 0, 1) := by decide +kernel
theorem dX8_countGroups_131 : decode mX8_countGroups.2.1 131 = .ok (.istore 10, 2) := by decide +kernel
theorem dX8_countGroups_133 : decode mX8_countGroups.2.1 133 = .ok (.iload_n 3, 1) := by decide +kernel
theorem dX8_countGroups_134 : decode mX8_countGroups.2.1 134 = .ok (.iload 10, 2) := by decide +kernel
theorem dX8_countGroups_136 : decode mX8_countGroups.2.1 136 = .ok (.ifCond .eq 16, 3) := by decide +kernel
theorem dX8_countGroups_139 : decode mX8_countGroups.2.1 139 = .ok (.iload 6, 2) := by decide +kernel
theorem dX8_countGroups_141 : decode mX8_countGroups.2.1 141 = .ok (.iload 7, 2) := by decide +kernel
theorem dX8_countGroups_143 : decode mX8_countGroups.2.1 143 = .ok (.isub, 1) := by decide +kernel
theorem dX8_countGroups_144 : decode mX8_countGroups.2.1 144 = .ok (.iconst 4, 1) := by decide +kernel
theorem dX8_countGroups_145 : decode mX8_countGroups.2.1 145 = .ok (.iload 9, 2) := by decide +kernel
theorem dX8_countGroups_147 : decode mX8_countGroups.2.1 147 = .ok (.imul, 1) := by decide +kernel
theorem dX8_countGroups_148 : decode mX8_countGroups.2.1 148 = .ok (.ishl, 1) := by decide +kernel
theorem dX8_countGroups_149 : decode mX8_countGroups.2.1 149 = .ok (.goto 4, 3) := by decide +kernel
theorem dX8_countGroups_152 : decode mX8_countGroups.2.1 152 = .ok (.iconst 0, 1) := by decide +kernel
theorem dX8_countGroups_153 : decode mX8_countGroups.2.1 153 = .ok (.iadd, 1) := by decide +kernel
theorem dX8_countGroups_154 : decode mX8_countGroups.2.1 154 = .ok (.istore_n 3, 1) := by decide +kernel
theorem dX8_countGroups_155 : decode mX8_countGroups.2.1 155 = .ok (.iinc 9 1, 3) := by decide +kernel
theorem dX8_countGroups_158 : decode mX8_countGroups.2.1 158 = .ok (.goto (-60), 3) := by decide +kernel
theorem dX8_countGroups_161 : decode mX8_countGroups.2.1 161 = .ok (.iinc 4 1, 3) := by decide +kernel
theorem dX8_countGroups_164 : decode mX8_countGroups.2.1 164 = .ok (.goto (-153), 3) := by decide +kernel
theorem dX8_countGroups_167 : decode mX8_countGroups.2.1 167 = .ok (.iload_n 2, 1) := by decide +kernel
theorem dX8_countGroups_168 : decode mX8_countGroups.2.1 168 = .ok (.ireturn, 1) := by decide +kernel
theorem dX8_leastWorst_0 : decode mX8_leastWorst.2.1 0 = .ok (.aload_n 0, 1) := by decide +kernel
theorem dX8_leastWorst_1 : decode mX8_leastWorst.2.1 1 = .ok (.lload_n 1, 1) := by decide +kernel
theorem dX8_leastWorst_2 : decode mX8_leastWorst.2.1 2 = .ok (.lload_n 3, 1) := by decide +kernel
theorem dX8_leastWorst_3 : decode mX8_leastWorst.2.1 3 = .ok (.invokevirtual 167, 3) := by decide +kernel
theorem dX8_leastWorst_6 : decode mX8_leastWorst.2.1 6 = .ok (.ifCond .eq 5, 3) := by decide +kernel
theorem dX8_leastWorst_9 : decode mX8_leastWorst.2.1 9 = .ok (.iconst 0, 1) := by decide +kernel
theorem dX8_leastWorst_10 : decode mX8_leastWorst.2.1 10 = .ok (.ireturn, 1) := by decide +kernel
theorem dX8_leastWorst_11 : decode mX8_leastWorst.2.1 11 = .ok (.aload_n 0, 1) := by decide +kernel
theorem dX8_leastWorst_12 : decode mX8_leastWorst.2.1 12 = .ok (.lload_n 1, 1) := by decide +kernel
theorem dX8_leastWorst_13 : decode mX8_leastWorst.2.1 13 = .ok (.lload_n 3, 1) := by decide +kernel
theorem dX8_leastWorst_14 : decode mX8_leastWorst.2.1 14 = .ok (.invokevirtual 202, 3) := by decide +kernel
theorem dX8_leastWorst_17 : decode mX8_leastWorst.2.1 17 = .ok (.aload_n 0, 1) := by decide +kernel
theorem dX8_leastWorst_18 : decode mX8_leastWorst.2.1 18 = .ok (.getfield 92, 3) := by decide +kernel
theorem dX8_leastWorst_21 : decode mX8_leastWorst.2.1 21 = .ok (.invokestatic 205, 3) := by decide +kernel
theorem dX8_leastWorst_24 : decode mX8_leastWorst.2.1 24 = .ok (.iload 5, 2) := by decide +kernel
theorem dX8_leastWorst_26 : decode mX8_leastWorst.2.1 26 = .ok (.invokestatic 126, 3) := by decide +kernel
theorem dX8_leastWorst_29 : decode mX8_leastWorst.2.1 29 = .ok (.ireturn, 1) := by decide +kernel
theorem dX8_kindsIn_0 : decode mX8_kindsIn.2.1 0 = .ok (.aload_n 0, 1) := by decide +kernel
theorem dX8_kindsIn_1 : decode mX8_kindsIn.2.1 1 = .ok (.getfield 89, 3) := by decide +kernel
theorem dX8_kindsIn_4 : decode mX8_kindsIn.2.1 4 = .ok (.aload_n 0, 1) := by decide +kernel
theorem dX8_kindsIn_5 : decode mX8_kindsIn.2.1 5 = .ok (.getfield 86, 3) := by decide +kernel
theorem dX8_kindsIn_8 : decode mX8_kindsIn.2.1 8 = .ok (.if_icmp .ne 13, 3) := by decide +kernel
theorem dX8_kindsIn_11 : decode mX8_kindsIn.2.1 11 = .ok (.lload_n 1, 1) := by decide +kernel
theorem dX8_kindsIn_12 : decode mX8_kindsIn.2.1 12 = .ok (.invokestatic 191, 3) := by decide +kernel
theorem dX8_kindsIn_15 : decode mX8_kindsIn.2.1 15 = .ok (.lload_n 3, 1) := by decide +kernel
theorem dX8_kindsIn_16 : decode mX8_kindsIn.2.1 16 = .ok (.invokestatic 191, 3) := by decide +kernel
theorem dX8_kindsIn_19 : decode mX8_kindsIn.2.1 19 = .ok (.iadd, 1) := by decide +kernel
theorem dX8_kindsIn_20 : decode mX8_kindsIn.2.1 20 = .ok (.ireturn, 1) := by decide +kernel
theorem dX8_kindsIn_21 : decode mX8_kindsIn.2.1 21 = .ok (.iconst 0, 1) := by decide +kernel
theorem dX8_kindsIn_22 : decode mX8_kindsIn.2.1 22 = .ok (.istore 5, 2) := by decide +kernel
theorem dX8_kindsIn_24 : decode mX8_kindsIn.2.1 24 = .ok (.iconst 0, 1) := by decide +kernel
theorem dX8_kindsIn_25 : decode mX8_kindsIn.2.1 25 = .ok (.istore 6, 2) := by decide +kernel
theorem dX8_kindsIn_27 : decode mX8_kindsIn.2.1 27 = .ok (.iload 6, 2) := by decide +kernel
theorem dX8_kindsIn_29 : decode mX8_kindsIn.2.1 29 = .ok (.iconst 2, 1) := by decide +kernel
theorem dX8_kindsIn_30 : decode mX8_kindsIn.2.1 30 = .ok (.aload_n 0, 1) := by decide +kernel
theorem dX8_kindsIn_31 : decode mX8_kindsIn.2.1 31 = .ok (.getfield 89, 3) := by decide +kernel
theorem dX8_kindsIn_34 : decode mX8_kindsIn.2.1 34 = .ok (.imul, 1) := by decide +kernel
theorem dX8_kindsIn_35 : decode mX8_kindsIn.2.1 35 = .ok (.if_icmp .ge 53, 3) := by decide +kernel
theorem dX8_kindsIn_38 : decode mX8_kindsIn.2.1 38 = .ok (.iload 5, 2) := by decide +kernel
theorem dX8_kindsIn_40 : decode mX8_kindsIn.2.1 40 = .ok (.lload_n 1, 1) := by decide +kernel
theorem dX8_kindsIn_41 : decode mX8_kindsIn.2.1 41 = .ok (.aload_n 0, 1) := by decide +kernel
theorem dX8_kindsIn_42 : decode mX8_kindsIn.2.1 42 = .ok (.getfield 21, 3) := by decide +kernel
theorem dX8_kindsIn_45 : decode mX8_kindsIn.2.1 45 = .ok (.iload 6, 2) := by decide +kernel
theorem dX8_kindsIn_47 : decode mX8_kindsIn.2.1 47 = .ok (.invokestatic 117, 3) := by decide +kernel
theorem dX8_kindsIn_50 : decode mX8_kindsIn.2.1 50 = .ok (.land, 1) := by decide +kernel
theorem dX8_kindsIn_51 : decode mX8_kindsIn.2.1 51 = .ok (.lconst 0, 1) := by decide +kernel
theorem dX8_kindsIn_52 : decode mX8_kindsIn.2.1 52 = .ok (.lcmp, 1) := by decide +kernel
theorem dX8_kindsIn_53 : decode mX8_kindsIn.2.1 53 = .ok (.ifCond .ne 21, 3) := by decide +kernel
theorem dX8_kindsIn_56 : decode mX8_kindsIn.2.1 56 = .ok (.lload_n 3, 1) := by decide +kernel
theorem dX8_kindsIn_57 : decode mX8_kindsIn.2.1 57 = .ok (.aload_n 0, 1) := by decide +kernel
theorem dX8_kindsIn_58 : decode mX8_kindsIn.2.1 58 = .ok (.getfield 21, 3) := by decide +kernel
theorem dX8_kindsIn_61 : decode mX8_kindsIn.2.1 61 = .ok (.iload 6, 2) := by decide +kernel
theorem dX8_kindsIn_63 : decode mX8_kindsIn.2.1 63 = .ok (.iconst 1, 1) := by decide +kernel
theorem dX8_kindsIn_64 : decode mX8_kindsIn.2.1 64 = .ok (.iadd, 1) := by decide +kernel
theorem dX8_kindsIn_65 : decode mX8_kindsIn.2.1 65 = .ok (.invokestatic 117, 3) := by decide +kernel
theorem dX8_kindsIn_68 : decode mX8_kindsIn.2.1 68 = .ok (.land, 1) := by decide +kernel
theorem dX8_kindsIn_69 : decode mX8_kindsIn.2.1 69 = .ok (.lconst 0, 1) := by decide +kernel
theorem dX8_kindsIn_70 : decode mX8_kindsIn.2.1 70 = .ok (.lcmp, 1) := by decide +kernel
theorem dX8_kindsIn_71 : decode mX8_kindsIn.2.1 71 = .ok (.ifCond .eq 7, 3) := by decide +kernel
theorem dX8_kindsIn_74 : decode mX8_kindsIn.2.1 74 = .ok (.iconst 1, 1) := by decide +kernel
theorem dX8_kindsIn_75 : decode mX8_kindsIn.2.1 75 = .ok (.goto 4, 3) := by decide +kernel
theorem dX8_kindsIn_78 : decode mX8_kindsIn.2.1 78 = .ok (.iconst 0, 1) := by decide +kernel
theorem dX8_kindsIn_79 : decode mX8_kindsIn.2.1 79 = .ok (.iadd, 1) := by decide +kernel
theorem dX8_kindsIn_80 : decode mX8_kindsIn.2.1 80 = .ok (.istore 5, 2) := by decide +kernel
theorem dX8_kindsIn_82 : decode mX8_kindsIn.2.1 82 = .ok (.iinc 6 2, 3) := by decide +kernel
theorem dX8_kindsIn_85 : decode mX8_kindsIn.2.1 85 = .ok (.goto (-58), 3) := by decide +kernel
theorem dX8_kindsIn_88 : decode mX8_kindsIn.2.1 88 = .ok (.iload 5, 2) := by decide +kernel
theorem dX8_kindsIn_90 : decode mX8_kindsIn.2.1 90 = .ok (.ireturn, 1) := by decide +kernel
theorem dX8_depthOf_0 : decode mX8_depthOf.2.1 0 = .ok (.iconst 0, 1) := by decide +kernel
theorem dX8_depthOf_1 : decode mX8_depthOf.2.1 1 = .ok (.istore_n 2, 1) := by decide +kernel
theorem dX8_depthOf_2 : decode mX8_depthOf.2.1 2 = .ok (.iconst 1, 1) := by decide +kernel
theorem dX8_depthOf_3 : decode mX8_depthOf.2.1 3 = .ok (.istore_n 3, 1) := by decide +kernel
theorem dX8_depthOf_4 : decode mX8_depthOf.2.1 4 = .ok (.iload_n 3, 1) := by decide +kernel
theorem dX8_depthOf_5 : decode mX8_depthOf.2.1 5 = .ok (.iload_n 0, 1) := by decide +kernel
theorem dX8_depthOf_6 : decode mX8_depthOf.2.1 6 = .ok (.if_icmp .ge 19, 3) := by decide +kernel
theorem dX8_depthOf_9 : decode mX8_depthOf.2.1 9 = .ok (.iload_n 2, 1) := by decide +kernel
theorem dX8_depthOf_10 : decode mX8_depthOf.2.1 10 = .ok (.bipush 20, 2) := by decide +kernel
theorem dX8_depthOf_12 : decode mX8_depthOf.2.1 12 = .ok (.if_icmp .ge 13, 3) := by decide +kernel
theorem dX8_depthOf_15 : decode mX8_depthOf.2.1 15 = .ok (.iload_n 3, 1) := by decide +kernel
theorem dX8_depthOf_16 : decode mX8_depthOf.2.1 16 = .ok (.iload_n 1, 1) := by decide +kernel
theorem dX8_depthOf_17 : decode mX8_depthOf.2.1 17 = .ok (.imul, 1) := by decide +kernel
theorem dX8_depthOf_18 : decode mX8_depthOf.2.1 18 = .ok (.istore_n 3, 1) := by decide +kernel
theorem dX8_depthOf_19 : decode mX8_depthOf.2.1 19 = .ok (.iinc 2 1, 3) := by decide +kernel
theorem dX8_depthOf_22 : decode mX8_depthOf.2.1 22 = .ok (.goto (-18), 3) := by decide +kernel
theorem dX8_depthOf_25 : decode mX8_depthOf.2.1 25 = .ok (.iload_n 2, 1) := by decide +kernel
theorem dX8_depthOf_26 : decode mX8_depthOf.2.1 26 = .ok (.ireturn, 1) := by decide +kernel
theorem dX8_freeThings_0 : decode mX8_freeThings.2.1 0 = .ok (.iconst 1, 1) := by decide +kernel
theorem dX8_freeThings_1 : decode mX8_freeThings.2.1 1 = .ok (.aload_n 0, 1) := by decide +kernel
theorem dX8_freeThings_2 : decode mX8_freeThings.2.1 2 = .ok (.getfield 52, 3) := by decide +kernel
theorem dX8_freeThings_5 : decode mX8_freeThings.2.1 5 = .ok (.ishl, 1) := by decide +kernel
theorem dX8_freeThings_6 : decode mX8_freeThings.2.1 6 = .ok (.iconst 1, 1) := by decide +kernel
theorem dX8_freeThings_7 : decode mX8_freeThings.2.1 7 = .ok (.isub, 1) := by decide +kernel
theorem dX8_freeThings_8 : decode mX8_freeThings.2.1 8 = .ok (.aload_n 0, 1) := by decide +kernel
theorem dX8_freeThings_9 : decode mX8_freeThings.2.1 9 = .ok (.getfield 59, 3) := by decide +kernel
theorem dX8_freeThings_12 : decode mX8_freeThings.2.1 12 = .ok (.iconst (-1), 1) := by decide +kernel
theorem dX8_freeThings_13 : decode mX8_freeThings.2.1 13 = .ok (.ixor, 1) := by decide +kernel
theorem dX8_freeThings_14 : decode mX8_freeThings.2.1 14 = .ok (.iand, 1) := by decide +kernel
theorem dX8_freeThings_15 : decode mX8_freeThings.2.1 15 = .ok (.istore_n 2, 1) := by decide +kernel
theorem dX8_freeThings_16 : decode mX8_freeThings.2.1 16 = .ok (.iconst 0, 1) := by decide +kernel
theorem dX8_freeThings_17 : decode mX8_freeThings.2.1 17 = .ok (.istore_n 3, 1) := by decide +kernel
theorem dX8_freeThings_18 : decode mX8_freeThings.2.1 18 = .ok (.iload_n 3, 1) := by decide +kernel
theorem dX8_freeThings_19 : decode mX8_freeThings.2.1 19 = .ok (.aload_n 0, 1) := by decide +kernel
theorem dX8_freeThings_20 : decode mX8_freeThings.2.1 20 = .ok (.invokevirtual 129, 3) := by decide +kernel
theorem dX8_freeThings_23 : decode mX8_freeThings.2.1 23 = .ok (.if_icmp .ge 43, 3) := by decide +kernel
theorem dX8_freeThings_26 : decode mX8_freeThings.2.1 26 = .ok (.iload_n 1, 1) := by decide +kernel
theorem dX8_freeThings_27 : decode mX8_freeThings.2.1 27 = .ok (.iload_n 3, 1) := by decide +kernel
theorem dX8_freeThings_28 : decode mX8_freeThings.2.1 28 = .ok (.invokestatic 105, 3) := by decide +kernel
theorem dX8_freeThings_31 : decode mX8_freeThings.2.1 31 = .ok (.ifCond .eq 29, 3) := by decide +kernel
theorem dX8_freeThings_34 : decode mX8_freeThings.2.1 34 = .ok (.iload_n 2, 1) := by decide +kernel
theorem dX8_freeThings_35 : decode mX8_freeThings.2.1 35 = .ok (.iconst 1, 1) := by decide +kernel
theorem dX8_freeThings_36 : decode mX8_freeThings.2.1 36 = .ok (.aload_n 0, 1) := by decide +kernel
theorem dX8_freeThings_37 : decode mX8_freeThings.2.1 37 = .ok (.iload_n 3, 1) := by decide +kernel
theorem dX8_freeThings_38 : decode mX8_freeThings.2.1 38 = .ok (.invokevirtual 158, 3) := by decide +kernel
theorem dX8_freeThings_41 : decode mX8_freeThings.2.1 41 = .ok (.bipush 10, 2) := by decide +kernel
theorem dX8_freeThings_43 : decode mX8_freeThings.2.1 43 = .ok (.idiv, 1) := by decide +kernel
theorem dX8_freeThings_44 : decode mX8_freeThings.2.1 44 = .ok (.ishl, 1) := by decide +kernel
theorem dX8_freeThings_45 : decode mX8_freeThings.2.1 45 = .ok (.iconst 1, 1) := by decide +kernel
theorem dX8_freeThings_46 : decode mX8_freeThings.2.1 46 = .ok (.aload_n 0, 1) := by decide +kernel
theorem dX8_freeThings_47 : decode mX8_freeThings.2.1 47 = .ok (.iload_n 3, 1) := by decide +kernel
theorem dX8_freeThings_48 : decode mX8_freeThings.2.1 48 = .ok (.invokevirtual 158, 3) := by decide +kernel
theorem dX8_freeThings_51 : decode mX8_freeThings.2.1 51 = .ok (.bipush 10, 2) := by decide +kernel
theorem dX8_freeThings_53 : decode mX8_freeThings.2.1 53 = .ok (.irem, 1) := by decide +kernel
theorem dX8_freeThings_54 : decode mX8_freeThings.2.1 54 = .ok (.ishl, 1) := by decide +kernel
theorem dX8_freeThings_55 : decode mX8_freeThings.2.1 55 = .ok (.ior, 1) := by decide +kernel
theorem dX8_freeThings_56 : decode mX8_freeThings.2.1 56 = .ok (.iconst (-1), 1) := by decide +kernel
theorem dX8_freeThings_57 : decode mX8_freeThings.2.1 57 = .ok (.ixor, 1) := by decide +kernel
theorem dX8_freeThings_58 : decode mX8_freeThings.2.1 58 = .ok (.iand, 1) := by decide +kernel
theorem dX8_freeThings_59 : decode mX8_freeThings.2.1 59 = .ok (.istore_n 2, 1) := by decide +kernel
theorem dX8_freeThings_60 : decode mX8_freeThings.2.1 60 = .ok (.iinc 3 1, 3) := by decide +kernel
theorem dX8_freeThings_63 : decode mX8_freeThings.2.1 63 = .ok (.goto (-45), 3) := by decide +kernel
theorem dX8_freeThings_66 : decode mX8_freeThings.2.1 66 = .ok (.iload_n 2, 1) := by decide +kernel
theorem dX8_freeThings_67 : decode mX8_freeThings.2.1 67 = .ok (.ireturn, 1) := by decide +kernel
theorem dX8_codeOf_0 : decode mX8_codeOf.2.1 0 = .ok (.aload_n 0, 1) := by decide +kernel
theorem dX8_codeOf_1 : decode mX8_codeOf.2.1 1 = .ok (.getfield 30, 3) := by decide +kernel
theorem dX8_codeOf_4 : decode mX8_codeOf.2.1 4 = .ok (.iload_n 1, 1) := by decide +kernel
theorem dX8_codeOf_5 : decode mX8_codeOf.2.1 5 = .ok (.invokestatic 101, 3) := by decide +kernel
theorem dX8_codeOf_8 : decode mX8_codeOf.2.1 8 = .ok (.ireturn, 1) := by decide +kernel
theorem dX8_isFirstLike_0 : decode mX8_isFirstLike.2.1 0 = .ok (.aload_n 0, 1) := by decide +kernel
theorem dX8_isFirstLike_1 : decode mX8_isFirstLike.2.1 1 = .ok (.iload_n 1, 1) := by decide +kernel
theorem dX8_isFirstLike_2 : decode mX8_isFirstLike.2.1 2 = .ok (.invokevirtual 158, 3) := by decide +kernel
theorem dX8_isFirstLike_5 : decode mX8_isFirstLike.2.1 5 = .ok (.bipush 10, 2) := by decide +kernel
theorem dX8_isFirstLike_7 : decode mX8_isFirstLike.2.1 7 = .ok (.idiv, 1) := by decide +kernel
theorem dX8_isFirstLike_8 : decode mX8_isFirstLike.2.1 8 = .ok (.istore_n 3, 1) := by decide +kernel
theorem dX8_isFirstLike_9 : decode mX8_isFirstLike.2.1 9 = .ok (.aload_n 0, 1) := by decide +kernel
theorem dX8_isFirstLike_10 : decode mX8_isFirstLike.2.1 10 = .ok (.iload_n 1, 1) := by decide +kernel
theorem dX8_isFirstLike_11 : decode mX8_isFirstLike.2.1 11 = .ok (.invokevirtual 158, 3) := by decide +kernel
theorem dX8_isFirstLike_14 : decode mX8_isFirstLike.2.1 14 = .ok (.bipush 10, 2) := by decide +kernel
theorem dX8_isFirstLike_16 : decode mX8_isFirstLike.2.1 16 = .ok (.irem, 1) := by decide +kernel
theorem dX8_isFirstLike_17 : decode mX8_isFirstLike.2.1 17 = .ok (.istore 4, 2) := by decide +kernel
theorem dX8_isFirstLike_19 : decode mX8_isFirstLike.2.1 19 = .ok (.iload_n 2, 1) := by decide +kernel
theorem dX8_isFirstLike_20 : decode mX8_isFirstLike.2.1 20 = .ok (.iload_n 3, 1) := by decide +kernel
theorem dX8_isFirstLike_21 : decode mX8_isFirstLike.2.1 21 = .ok (.invokestatic 105, 3) := by decide +kernel
theorem dX8_isFirstLike_24 : decode mX8_isFirstLike.2.1 24 = .ok (.ifCond .eq 12, 3) := by decide +kernel
theorem dX8_isFirstLike_27 : decode mX8_isFirstLike.2.1 27 = .ok (.iload_n 2, 1) := by decide +kernel
theorem dX8_isFirstLike_28 : decode mX8_isFirstLike.2.1 28 = .ok (.i2l, 1) := by decide +kernel
theorem dX8_isFirstLike_29 : decode mX8_isFirstLike.2.1 29 = .ok (.invokestatic 197, 3) := by decide +kernel
theorem dX8_isFirstLike_32 : decode mX8_isFirstLike.2.1 32 = .ok (.iload_n 3, 1) := by decide +kernel
theorem dX8_isFirstLike_33 : decode mX8_isFirstLike.2.1 33 = .ok (.if_icmp .ne 7, 3) := by decide +kernel
theorem dX8_isFirstLike_36 : decode mX8_isFirstLike.2.1 36 = .ok (.iconst 1, 1) := by decide +kernel
theorem dX8_isFirstLike_37 : decode mX8_isFirstLike.2.1 37 = .ok (.goto 4, 3) := by decide +kernel
theorem dX8_isFirstLike_40 : decode mX8_isFirstLike.2.1 40 = .ok (.iconst 0, 1) := by decide +kernel
theorem dX8_isFirstLike_41 : decode mX8_isFirstLike.2.1 41 = .ok (.istore 5, 2) := by decide +kernel
theorem dX8_isFirstLike_43 : decode mX8_isFirstLike.2.1 43 = .ok (.iload 5, 2) := by decide +kernel
theorem dX8_isFirstLike_45 : decode mX8_isFirstLike.2.1 45 = .ok (.ifCond .eq 32, 3) := by decide +kernel
theorem dX8_isFirstLike_48 : decode mX8_isFirstLike.2.1 48 = .ok (.iload_n 2, 1) := by decide +kernel
theorem dX8_isFirstLike_49 : decode mX8_isFirstLike.2.1 49 = .ok (.iload 4, 2) := by decide +kernel
theorem dX8_isFirstLike_51 : decode mX8_isFirstLike.2.1 51 = .ok (.invokestatic 105, 3) := by decide +kernel
theorem dX8_isFirstLike_54 : decode mX8_isFirstLike.2.1 54 = .ok (.ifCond .eq 19, 3) := by decide +kernel
theorem dX8_isFirstLike_57 : decode mX8_isFirstLike.2.1 57 = .ok (.iload_n 2, 1) := by decide +kernel
theorem dX8_isFirstLike_58 : decode mX8_isFirstLike.2.1 58 = .ok (.iconst 1, 1) := by decide +kernel
theorem dX8_isFirstLike_59 : decode mX8_isFirstLike.2.1 59 = .ok (.iload_n 3, 1) := by decide +kernel
theorem dX8_isFirstLike_60 : decode mX8_isFirstLike.2.1 60 = .ok (.ishl, 1) := by decide +kernel
theorem dX8_isFirstLike_61 : decode mX8_isFirstLike.2.1 61 = .ok (.iconst (-1), 1) := by decide +kernel
theorem dX8_isFirstLike_62 : decode mX8_isFirstLike.2.1 62 = .ok (.ixor, 1) := by decide +kernel
theorem dX8_isFirstLike_63 : decode mX8_isFirstLike.2.1 63 = .ok (.iand, 1) := by decide +kernel
theorem dX8_isFirstLike_64 : decode mX8_isFirstLike.2.1 64 = .ok (.i2l, 1) := by decide +kernel
theorem dX8_isFirstLike_65 : decode mX8_isFirstLike.2.1 65 = .ok (.invokestatic 197, 3) := by decide +kernel
theorem dX8_isFirstLike_68 : decode mX8_isFirstLike.2.1 68 = .ok (.iload 4, 2) := by decide +kernel
theorem dX8_isFirstLike_70 : decode mX8_isFirstLike.2.1 70 = .ok (.if_icmp .ne 7, 3) := by decide +kernel
theorem dX8_isFirstLike_73 : decode mX8_isFirstLike.2.1 73 = .ok (.iconst 1, 1) := by decide +kernel
theorem dX8_isFirstLike_74 : decode mX8_isFirstLike.2.1 74 = .ok (.goto 4, 3) := by decide +kernel
theorem dX8_isFirstLike_77 : decode mX8_isFirstLike.2.1 77 = .ok (.iconst 0, 1) := by decide +kernel
theorem dX8_isFirstLike_78 : decode mX8_isFirstLike.2.1 78 = .ok (.ireturn, 1) := by decide +kernel
theorem dX8_worstBehind_0 : decode mX8_worstBehind.2.1 0 = .ok (.iload 6, 2) := by decide +kernel
theorem dX8_worstBehind_2 : decode mX8_worstBehind.2.1 2 = .ok (.iconst 1, 1) := by decide +kernel
theorem dX8_worstBehind_3 : decode mX8_worstBehind.2.1 3 = .ok (.iload_n 1, 1) := by decide +kernel
theorem dX8_worstBehind_4 : decode mX8_worstBehind.2.1 4 = .ok (.ishl, 1) := by decide +kernel
theorem dX8_worstBehind_5 : decode mX8_worstBehind.2.1 5 = .ok (.ior, 1) := by decide +kernel
theorem dX8_worstBehind_6 : decode mX8_worstBehind.2.1 6 = .ok (.istore 9, 2) := by decide +kernel
theorem dX8_worstBehind_8 : decode mX8_worstBehind.2.1 8 = .ok (.aload_n 0, 1) := by decide +kernel
theorem dX8_worstBehind_9 : decode mX8_worstBehind.2.1 9 = .ok (.iload 9, 2) := by decide +kernel
theorem dX8_worstBehind_11 : decode mX8_worstBehind.2.1 11 = .ok (.invokevirtual 175, 3) := by decide +kernel
theorem dX8_worstBehind_14 : decode mX8_worstBehind.2.1 14 = .ok (.istore 10, 2) := by decide +kernel
theorem dX8_worstBehind_16 : decode mX8_worstBehind.2.1 16 = .ok (.iconst 0, 1) := by decide +kernel
theorem dX8_worstBehind_17 : decode mX8_worstBehind.2.1 17 = .ok (.istore 11, 2) := by decide +kernel
theorem dX8_worstBehind_19 : decode mX8_worstBehind.2.1 19 = .ok (.iload_n 1, 1) := by decide +kernel
theorem dX8_worstBehind_20 : decode mX8_worstBehind.2.1 20 = .ok (.istore 12, 2) := by decide +kernel
theorem dX8_worstBehind_22 : decode mX8_worstBehind.2.1 22 = .ok (.iload 12, 2) := by decide +kernel
theorem dX8_worstBehind_24 : decode mX8_worstBehind.2.1 24 = .ok (.bipush 30, 2) := by decide +kernel
theorem dX8_worstBehind_26 : decode mX8_worstBehind.2.1 26 = .ok (.if_icmp .ge 77, 3) := by decide +kernel
theorem dX8_worstBehind_29 : decode mX8_worstBehind.2.1 29 = .ok (.lload_n 2, 1) := by decide +kernel
theorem dX8_worstBehind_30 : decode mX8_worstBehind.2.1 30 = .ok (.aload_n 0, 1) := by decide +kernel
theorem dX8_worstBehind_31 : decode mX8_worstBehind.2.1 31 = .ok (.getfield 27, 3) := by decide +kernel
theorem dX8_worstBehind_34 : decode mX8_worstBehind.2.1 34 = .ok (.iconst 2, 1) := by decide +kernel
theorem dX8_worstBehind_35 : decode mX8_worstBehind.2.1 35 = .ok (.iload 12, 2) := by decide +kernel
theorem dX8_worstBehind_37 : decode mX8_worstBehind.2.1 37 = .ok (.imul, 1) := by decide +kernel
theorem dX8_worstBehind_38 : decode mX8_worstBehind.2.1 38 = .ok (.invokestatic 117, 3) := by decide +kernel
theorem dX8_worstBehind_41 : decode mX8_worstBehind.2.1 41 = .ok (.land, 1) := by decide +kernel
theorem dX8_worstBehind_42 : decode mX8_worstBehind.2.1 42 = .ok (.lstore 13, 2) := by decide +kernel
theorem dX8_worstBehind_44 : decode mX8_worstBehind.2.1 44 = .ok (.lload 4, 2) := by decide +kernel
theorem dX8_worstBehind_46 : decode mX8_worstBehind.2.1 46 = .ok (.aload_n 0, 1) := by decide +kernel
theorem dX8_worstBehind_47 : decode mX8_worstBehind.2.1 47 = .ok (.getfield 27, 3) := by decide +kernel
theorem dX8_worstBehind_50 : decode mX8_worstBehind.2.1 50 = .ok (.iconst 2, 1) := by decide +kernel
theorem dX8_worstBehind_51 : decode mX8_worstBehind.2.1 51 = .ok (.iload 12, 2) := by decide +kernel
theorem dX8_worstBehind_53 : decode mX8_worstBehind.2.1 53 = .ok (.imul, 1) := by decide +kernel
theorem dX8_worstBehind_54 : decode mX8_worstBehind.2.1 54 = .ok (.iconst 1, 1) := by decide +kernel
theorem dX8_worstBehind_55 : decode mX8_worstBehind.2.1 55 = .ok (.iadd, 1) := by decide +kernel
theorem dX8_worstBehind_56 : decode mX8_worstBehind.2.1 56 = .ok (.invokestatic 117, 3) := by decide +kernel
theorem dX8_worstBehind_59 : decode mX8_worstBehind.2.1 59 = .ok (.land, 1) := by decide +kernel
theorem dX8_worstBehind_60 : decode mX8_worstBehind.2.1 60 = .ok (.lstore 15, 2) := by decide +kernel
theorem dX8_worstBehind_62 : decode mX8_worstBehind.2.1 62 = .ok (.lload 13, 2) := by decide +kernel
theorem dX8_worstBehind_64 : decode mX8_worstBehind.2.1 64 = .ok (.lload_n 2, 1) := by decide +kernel
theorem dX8_worstBehind_65 : decode mX8_worstBehind.2.1 65 = .ok (.lcmp, 1) := by decide +kernel
theorem dX8_worstBehind_66 : decode mX8_worstBehind.2.1 66 = .ok (.ifCond .ne 14, 3) := by decide +kernel
theorem dX8_worstBehind_69 : decode mX8_worstBehind.2.1 69 = .ok (.lload 15, 2) := by decide +kernel
theorem dX8_worstBehind_71 : decode mX8_worstBehind.2.1 71 = .ok (.lload 4, 2) := by decide +kernel
theorem dX8_worstBehind_73 : decode mX8_worstBehind.2.1 73 = .ok (.lcmp, 1) := by decide +kernel
theorem dX8_worstBehind_74 : decode mX8_worstBehind.2.1 74 = .ok (.ifCond .ne 6, 3) := by decide +kernel
theorem dX8_worstBehind_77 : decode mX8_worstBehind.2.1 77 = .ok (.ldc 150, 2) := by decide +kernel
theorem dX8_worstBehind_79 : decode mX8_worstBehind.2.1 79 = .ok (.ireturn, 1) := by decide +kernel
theorem dX8_worstBehind_80 : decode mX8_worstBehind.2.1 80 = .ok (.iload 11, 2) := by decide +kernel
theorem dX8_worstBehind_82 : decode mX8_worstBehind.2.1 82 = .ok (.aload_n 0, 1) := by decide +kernel
theorem dX8_worstBehind_83 : decode mX8_worstBehind.2.1 83 = .ok (.lload 13, 2) := by decide +kernel
theorem dX8_worstBehind_85 : decode mX8_worstBehind.2.1 85 = .ok (.lload 15, 2) := by decide +kernel
theorem dX8_worstBehind_87 : decode mX8_worstBehind.2.1 87 = .ok (.iload 10, 2) := by decide +kernel
theorem dX8_worstBehind_89 : decode mX8_worstBehind.2.1 89 = .ok (.invokevirtual 178, 3) := by decide +kernel
theorem dX8_worstBehind_92 : decode mX8_worstBehind.2.1 92 = .ok (.invokestatic 126, 3) := by decide +kernel
theorem dX8_worstBehind_95 : decode mX8_worstBehind.2.1 95 = .ok (.istore 11, 2) := by decide +kernel
theorem dX8_worstBehind_97 : decode mX8_worstBehind.2.1 97 = .ok (.iinc 12 10, 3) := by decide +kernel
theorem dX8_worstBehind_100 : decode mX8_worstBehind.2.1 100 = .ok (.goto (-78), 3) := by decide +kernel
theorem dX8_worstBehind_103 : decode mX8_worstBehind.2.1 103 = .ok (.iload_n 1, 1) := by decide +kernel
theorem dX8_worstBehind_104 : decode mX8_worstBehind.2.1 104 = .ok (.istore 12, 2) := by decide +kernel
theorem dX8_worstBehind_106 : decode mX8_worstBehind.2.1 106 = .ok (.iload 12, 2) := by decide +kernel
theorem dX8_worstBehind_108 : decode mX8_worstBehind.2.1 108 = .ok (.bipush 30, 2) := by decide +kernel
theorem dX8_worstBehind_110 : decode mX8_worstBehind.2.1 110 = .ok (.if_icmp .ge 74, 3) := by decide +kernel
theorem dX8_worstBehind_113 : decode mX8_worstBehind.2.1 113 = .ok (.iload 11, 2) := by decide +kernel
theorem dX8_worstBehind_115 : decode mX8_worstBehind.2.1 115 = .ok (.iload 7, 2) := by decide +kernel
theorem dX8_worstBehind_117 : decode mX8_worstBehind.2.1 117 = .ok (.if_icmp .ge 67, 3) := by decide +kernel
theorem dX8_worstBehind_120 : decode mX8_worstBehind.2.1 120 = .ok (.lload_n 2, 1) := by decide +kernel
theorem dX8_worstBehind_121 : decode mX8_worstBehind.2.1 121 = .ok (.aload_n 0, 1) := by decide +kernel
theorem dX8_worstBehind_122 : decode mX8_worstBehind.2.1 122 = .ok (.getfield 27, 3) := by decide +kernel
theorem dX8_worstBehind_125 : decode mX8_worstBehind.2.1 125 = .ok (.iconst 2, 1) := by decide +kernel
theorem dX8_worstBehind_126 : decode mX8_worstBehind.2.1 126 = .ok (.iload 12, 2) := by decide +kernel
theorem dX8_worstBehind_128 : decode mX8_worstBehind.2.1 128 = .ok (.imul, 1) := by decide +kernel
theorem dX8_worstBehind_129 : decode mX8_worstBehind.2.1 129 = .ok (.invokestatic 117, 3) := by decide +kernel
theorem dX8_worstBehind_132 : decode mX8_worstBehind.2.1 132 = .ok (.land, 1) := by decide +kernel
theorem dX8_worstBehind_133 : decode mX8_worstBehind.2.1 133 = .ok (.lstore 13, 2) := by decide +kernel
theorem dX8_worstBehind_135 : decode mX8_worstBehind.2.1 135 = .ok (.lload 4, 2) := by decide +kernel
theorem dX8_worstBehind_137 : decode mX8_worstBehind.2.1 137 = .ok (.aload_n 0, 1) := by decide +kernel
theorem dX8_worstBehind_138 : decode mX8_worstBehind.2.1 138 = .ok (.getfield 27, 3) := by decide +kernel
theorem dX8_worstBehind_141 : decode mX8_worstBehind.2.1 141 = .ok (.iconst 2, 1) := by decide +kernel
theorem dX8_worstBehind_142 : decode mX8_worstBehind.2.1 142 = .ok (.iload 12, 2) := by decide +kernel
theorem dX8_worstBehind_144 : decode mX8_worstBehind.2.1 144 = .ok (.imul, 1) := by decide +kernel
theorem dX8_worstBehind_145 : decode mX8_worstBehind.2.1 145 = .ok (.iconst 1, 1) := by decide +kernel
theorem dX8_worstBehind_146 : decode mX8_worstBehind.2.1 146 = .ok (.iadd, 1) := by decide +kernel
theorem dX8_worstBehind_147 : decode mX8_worstBehind.2.1 147 = .ok (.invokestatic 117, 3) := by decide +kernel
theorem dX8_worstBehind_150 : decode mX8_worstBehind.2.1 150 = .ok (.land, 1) := by decide +kernel
theorem dX8_worstBehind_151 : decode mX8_worstBehind.2.1 151 = .ok (.lstore 15, 2) := by decide +kernel
theorem dX8_worstBehind_153 : decode mX8_worstBehind.2.1 153 = .ok (.iload 11, 2) := by decide +kernel
theorem dX8_worstBehind_155 : decode mX8_worstBehind.2.1 155 = .ok (.aload_n 0, 1) := by decide +kernel
theorem dX8_worstBehind_156 : decode mX8_worstBehind.2.1 156 = .ok (.lload 13, 2) := by decide +kernel
theorem dX8_worstBehind_158 : decode mX8_worstBehind.2.1 158 = .ok (.lload 15, 2) := by decide +kernel
theorem dX8_worstBehind_160 : decode mX8_worstBehind.2.1 160 = .ok (.iload 9, 2) := by decide +kernel
theorem dX8_worstBehind_162 : decode mX8_worstBehind.2.1 162 = .ok (.iload 7, 2) := by decide +kernel
theorem dX8_worstBehind_164 : decode mX8_worstBehind.2.1 164 = .ok (.iconst 1, 1) := by decide +kernel
theorem dX8_worstBehind_165 : decode mX8_worstBehind.2.1 165 = .ok (.isub, 1) := by decide +kernel
theorem dX8_worstBehind_166 : decode mX8_worstBehind.2.1 166 = .ok (.iload 8, 2) := by decide +kernel
theorem dX8_worstBehind_168 : decode mX8_worstBehind.2.1 168 = .ok (.iconst 1, 1) := by decide +kernel
theorem dX8_worstBehind_169 : decode mX8_worstBehind.2.1 169 = .ok (.iadd, 1) := by decide +kernel
theorem dX8_worstBehind_170 : decode mX8_worstBehind.2.1 170 = .ok (.invokestatic 143, 3) := by decide +kernel
theorem dX8_worstBehind_173 : decode mX8_worstBehind.2.1 173 = .ok (.invokestatic 126, 3) := by decide +kernel
theorem dX8_worstBehind_176 : decode mX8_worstBehind.2.1 176 = .ok (.istore 11, 2) := by decide +kernel
theorem dX8_worstBehind_178 : decode mX8_worstBehind.2.1 178 = .ok (.iinc 12 10, 3) := by decide +kernel
theorem dX8_worstBehind_181 : decode mX8_worstBehind.2.1 181 = .ok (.goto (-75), 3) := by decide +kernel
theorem dX8_worstBehind_184 : decode mX8_worstBehind.2.1 184 = .ok (.iconst 1, 1) := by decide +kernel
theorem dX8_worstBehind_185 : decode mX8_worstBehind.2.1 185 = .ok (.iload 11, 2) := by decide +kernel
theorem dX8_worstBehind_187 : decode mX8_worstBehind.2.1 187 = .ok (.iadd, 1) := by decide +kernel
theorem dX8_worstBehind_188 : decode mX8_worstBehind.2.1 188 = .ok (.ireturn, 1) := by decide +kernel
theorem dX8_nextOfFewest_0 : decode mX8_nextOfFewest.2.1 0 = .ok (.aload_n 0, 1) := by decide +kernel
theorem dX8_nextOfFewest_1 : decode mX8_nextOfFewest.2.1 1 = .ok (.invokevirtual 151, 3) := by decide +kernel
theorem dX8_nextOfFewest_4 : decode mX8_nextOfFewest.2.1 4 = .ok (.istore_n 1, 1) := by decide +kernel
theorem dX8_nextOfFewest_5 : decode mX8_nextOfFewest.2.1 5 = .ok (.iconst 0, 1) := by decide +kernel
theorem dX8_nextOfFewest_6 : decode mX8_nextOfFewest.2.1 6 = .ok (.istore_n 2, 1) := by decide +kernel
theorem dX8_nextOfFewest_7 : decode mX8_nextOfFewest.2.1 7 = .ok (.iload_n 2, 1) := by decide +kernel
theorem dX8_nextOfFewest_8 : decode mX8_nextOfFewest.2.1 8 = .ok (.aload_n 0, 1) := by decide +kernel
theorem dX8_nextOfFewest_9 : decode mX8_nextOfFewest.2.1 9 = .ok (.invokevirtual 129, 3) := by decide +kernel
theorem dX8_nextOfFewest_12 : decode mX8_nextOfFewest.2.1 12 = .ok (.if_icmp .ge 42, 3) := by decide +kernel
theorem dX8_nextOfFewest_15 : decode mX8_nextOfFewest.2.1 15 = .ok (.iload_n 1, 1) := by decide +kernel
theorem dX8_nextOfFewest_16 : decode mX8_nextOfFewest.2.1 16 = .ok (.ifCond .le 38, 3) := by decide +kernel
theorem dX8_nextOfFewest_19 : decode mX8_nextOfFewest.2.1 19 = .ok (.aload_n 0, 1) := by decide +kernel
theorem dX8_nextOfFewest_20 : decode mX8_nextOfFewest.2.1 20 = .ok (.iload_n 2, 1) := by decide +kernel
theorem dX8_nextOfFewest_21 : decode mX8_nextOfFewest.2.1 21 = .ok (.aload_n 0, 1) := by decide +kernel
theorem dX8_nextOfFewest_22 : decode mX8_nextOfFewest.2.1 22 = .ok (.invokevirtual 133, 3) := by decide +kernel
theorem dX8_nextOfFewest_25 : decode mX8_nextOfFewest.2.1 25 = .ok (.aload_n 0, 1) := by decide +kernel
theorem dX8_nextOfFewest_26 : decode mX8_nextOfFewest.2.1 26 = .ok (.invokevirtual 137, 3) := by decide +kernel
theorem dX8_nextOfFewest_29 : decode mX8_nextOfFewest.2.1 29 = .ok (.aload_n 0, 1) := by decide +kernel
theorem dX8_nextOfFewest_30 : decode mX8_nextOfFewest.2.1 30 = .ok (.invokevirtual 140, 3) := by decide +kernel
theorem dX8_nextOfFewest_33 : decode mX8_nextOfFewest.2.1 33 = .ok (.iload_n 1, 1) := by decide +kernel
theorem dX8_nextOfFewest_34 : decode mX8_nextOfFewest.2.1 34 = .ok (.iconst 0, 1) := by decide +kernel
theorem dX8_nextOfFewest_35 : decode mX8_nextOfFewest.2.1 35 = .ok (.invokestatic 154, 3) := by decide +kernel
theorem dX8_nextOfFewest_38 : decode mX8_nextOfFewest.2.1 38 = .ok (.iload_n 1, 1) := by decide +kernel
theorem dX8_nextOfFewest_39 : decode mX8_nextOfFewest.2.1 39 = .ok (.if_icmp .gt 9, 3) := by decide +kernel
theorem dX8_nextOfFewest_42 : decode mX8_nextOfFewest.2.1 42 = .ok (.aload_n 0, 1) := by decide +kernel
theorem dX8_nextOfFewest_43 : decode mX8_nextOfFewest.2.1 43 = .ok (.iload_n 2, 1) := by decide +kernel
theorem dX8_nextOfFewest_44 : decode mX8_nextOfFewest.2.1 44 = .ok (.invokevirtual 158, 3) := by decide +kernel
theorem dX8_nextOfFewest_47 : decode mX8_nextOfFewest.2.1 47 = .ok (.ireturn, 1) := by decide +kernel
theorem dX8_nextOfFewest_48 : decode mX8_nextOfFewest.2.1 48 = .ok (.iinc 2 1, 3) := by decide +kernel
theorem dX8_nextOfFewest_51 : decode mX8_nextOfFewest.2.1 51 = .ok (.goto (-44), 3) := by decide +kernel
theorem dX8_nextOfFewest_54 : decode mX8_nextOfFewest.2.1 54 = .ok (.iconst (-1), 1) := by decide +kernel
theorem dX8_nextOfFewest_55 : decode mX8_nextOfFewest.2.1 55 = .ok (.ireturn, 1) := by decide +kernel
theorem dX8_sumOfAll_0 : decode mX8_sumOfAll.2.1 0 = .ok (.aload_n 0, 1) := by decide +kernel
theorem dX8_sumOfAll_1 : decode mX8_sumOfAll.2.1 1 = .ok (.aload_n 0, 1) := by decide +kernel
theorem dX8_sumOfAll_2 : decode mX8_sumOfAll.2.1 2 = .ok (.invokevirtual 133, 3) := by decide +kernel
theorem dX8_sumOfAll_5 : decode mX8_sumOfAll.2.1 5 = .ok (.aload_n 0, 1) := by decide +kernel
theorem dX8_sumOfAll_6 : decode mX8_sumOfAll.2.1 6 = .ok (.invokevirtual 137, 3) := by decide +kernel
theorem dX8_sumOfAll_9 : decode mX8_sumOfAll.2.1 9 = .ok (.aload_n 0, 1) := by decide +kernel
theorem dX8_sumOfAll_10 : decode mX8_sumOfAll.2.1 10 = .ok (.invokevirtual 140, 3) := by decide +kernel
theorem dX8_sumOfAll_13 : decode mX8_sumOfAll.2.1 13 = .ok (.iconst 0, 1) := by decide +kernel
theorem dX8_sumOfAll_14 : decode mX8_sumOfAll.2.1 14 = .ok (.iconst 0, 1) := by decide +kernel
theorem dX8_sumOfAll_15 : decode mX8_sumOfAll.2.1 15 = .ok (.invokestatic 147, 3) := by decide +kernel
theorem dX8_sumOfAll_18 : decode mX8_sumOfAll.2.1 18 = .ok (.istore_n 1, 1) := by decide +kernel
theorem dX8_sumOfAll_19 : decode mX8_sumOfAll.2.1 19 = .ok (.aload_n 0, 1) := by decide +kernel
theorem dX8_sumOfAll_20 : decode mX8_sumOfAll.2.1 20 = .ok (.aload_n 0, 1) := by decide +kernel
theorem dX8_sumOfAll_21 : decode mX8_sumOfAll.2.1 21 = .ok (.invokevirtual 133, 3) := by decide +kernel
theorem dX8_sumOfAll_24 : decode mX8_sumOfAll.2.1 24 = .ok (.aload_n 0, 1) := by decide +kernel
theorem dX8_sumOfAll_25 : decode mX8_sumOfAll.2.1 25 = .ok (.invokevirtual 137, 3) := by decide +kernel
theorem dX8_sumOfAll_28 : decode mX8_sumOfAll.2.1 28 = .ok (.aload_n 0, 1) := by decide +kernel
theorem dX8_sumOfAll_29 : decode mX8_sumOfAll.2.1 29 = .ok (.invokevirtual 140, 3) := by decide +kernel
theorem dX8_sumOfAll_32 : decode mX8_sumOfAll.2.1 32 = .ok (.iload_n 1, 1) := by decide +kernel
theorem dX8_sumOfAll_33 : decode mX8_sumOfAll.2.1 33 = .ok (.iconst 0, 1) := by decide +kernel
theorem dX8_sumOfAll_34 : decode mX8_sumOfAll.2.1 34 = .ok (.invokestatic 147, 3) := by decide +kernel
theorem dX8_sumOfAll_37 : decode mX8_sumOfAll.2.1 37 = .ok (.istore_n 2, 1) := by decide +kernel
theorem dX8_sumOfAll_38 : decode mX8_sumOfAll.2.1 38 = .ok (.iload_n 2, 1) := by decide +kernel
theorem dX8_sumOfAll_39 : decode mX8_sumOfAll.2.1 39 = .ok (.iload_n 1, 1) := by decide +kernel
theorem dX8_sumOfAll_40 : decode mX8_sumOfAll.2.1 40 = .ok (.if_icmp .gt 7, 3) := by decide +kernel
theorem dX8_sumOfAll_43 : decode mX8_sumOfAll.2.1 43 = .ok (.iload_n 2, 1) := by decide +kernel
theorem dX8_sumOfAll_44 : decode mX8_sumOfAll.2.1 44 = .ok (.goto 22, 3) := by decide +kernel
theorem dX8_sumOfAll_47 : decode mX8_sumOfAll.2.1 47 = .ok (.aload_n 0, 1) := by decide +kernel
theorem dX8_sumOfAll_48 : decode mX8_sumOfAll.2.1 48 = .ok (.aload_n 0, 1) := by decide +kernel
theorem dX8_sumOfAll_49 : decode mX8_sumOfAll.2.1 49 = .ok (.invokevirtual 133, 3) := by decide +kernel
theorem dX8_sumOfAll_52 : decode mX8_sumOfAll.2.1 52 = .ok (.aload_n 0, 1) := by decide +kernel
theorem dX8_sumOfAll_53 : decode mX8_sumOfAll.2.1 53 = .ok (.invokevirtual 137, 3) := by decide +kernel
theorem dX8_sumOfAll_56 : decode mX8_sumOfAll.2.1 56 = .ok (.aload_n 0, 1) := by decide +kernel
theorem dX8_sumOfAll_57 : decode mX8_sumOfAll.2.1 57 = .ok (.invokevirtual 140, 3) := by decide +kernel
theorem dX8_sumOfAll_60 : decode mX8_sumOfAll.2.1 60 = .ok (.ldc 150, 2) := by decide +kernel
theorem dX8_sumOfAll_62 : decode mX8_sumOfAll.2.1 62 = .ok (.iconst 0, 1) := by decide +kernel
theorem dX8_sumOfAll_63 : decode mX8_sumOfAll.2.1 63 = .ok (.invokestatic 147, 3) := by decide +kernel
theorem dX8_sumOfAll_66 : decode mX8_sumOfAll.2.1 66 = .ok (.ireturn, 1) := by decide +kernel
theorem dX8_sumFrom_0 : decode mX8_sumFrom.2.1 0 = .ok (.aload_n 0, 1) := by decide +kernel
theorem dX8_sumFrom_1 : decode mX8_sumFrom.2.1 1 = .ok (.lload_n 1, 1) := by decide +kernel
theorem dX8_sumFrom_2 : decode mX8_sumFrom.2.1 2 = .ok (.lload_n 3, 1) := by decide +kernel
theorem dX8_sumFrom_3 : decode mX8_sumFrom.2.1 3 = .ok (.invokevirtual 167, 3) := by decide +kernel
theorem dX8_sumFrom_6 : decode mX8_sumFrom.2.1 6 = .ok (.ifCond .eq 5, 3) := by decide +kernel
theorem dX8_sumFrom_9 : decode mX8_sumFrom.2.1 9 = .ok (.iconst 0, 1) := by decide +kernel
theorem dX8_sumFrom_10 : decode mX8_sumFrom.2.1 10 = .ok (.ireturn, 1) := by decide +kernel
theorem dX8_sumFrom_11 : decode mX8_sumFrom.2.1 11 = .ok (.iload 7, 2) := by decide +kernel
theorem dX8_sumFrom_13 : decode mX8_sumFrom.2.1 13 = .ok (.bipush 12, 2) := by decide +kernel
theorem dX8_sumFrom_15 : decode mX8_sumFrom.2.1 15 = .ok (.if_icmp .le 6, 3) := by decide +kernel
theorem dX8_sumFrom_18 : decode mX8_sumFrom.2.1 18 = .ok (.ldc 150, 2) := by decide +kernel
theorem dX8_sumFrom_20 : decode mX8_sumFrom.2.1 20 = .ok (.ireturn, 1) := by decide +kernel
theorem dX8_sumFrom_21 : decode mX8_sumFrom.2.1 21 = .ok (.aload_n 0, 1) := by decide +kernel
theorem dX8_sumFrom_22 : decode mX8_sumFrom.2.1 22 = .ok (.lload_n 1, 1) := by decide +kernel
theorem dX8_sumFrom_23 : decode mX8_sumFrom.2.1 23 = .ok (.lload_n 3, 1) := by decide +kernel
theorem dX8_sumFrom_24 : decode mX8_sumFrom.2.1 24 = .ok (.invokevirtual 171, 3) := by decide +kernel
theorem dX8_sumFrom_27 : decode mX8_sumFrom.2.1 27 = .ok (.istore 8, 2) := by decide +kernel
theorem dX8_sumFrom_29 : decode mX8_sumFrom.2.1 29 = .ok (.aload_n 0, 1) := by decide +kernel
theorem dX8_sumFrom_30 : decode mX8_sumFrom.2.1 30 = .ok (.getfield 45, 3) := by decide +kernel
theorem dX8_sumFrom_33 : decode mX8_sumFrom.2.1 33 = .ok (.iload 8, 2) := by decide +kernel
theorem dX8_sumFrom_35 : decode mX8_sumFrom.2.1 35 = .ok (.invokestatic 101, 3) := by decide +kernel
theorem dX8_sumFrom_38 : decode mX8_sumFrom.2.1 38 = .ok (.istore 9, 2) := by decide +kernel
theorem dX8_sumFrom_40 : decode mX8_sumFrom.2.1 40 = .ok (.aload_n 0, 1) := by decide +kernel
theorem dX8_sumFrom_41 : decode mX8_sumFrom.2.1 41 = .ok (.lload_n 1, 1) := by decide +kernel
theorem dX8_sumFrom_42 : decode mX8_sumFrom.2.1 42 = .ok (.lload_n 3, 1) := by decide +kernel
theorem dX8_sumFrom_43 : decode mX8_sumFrom.2.1 43 = .ok (.aload_n 0, 1) := by decide +kernel
theorem dX8_sumFrom_44 : decode mX8_sumFrom.2.1 44 = .ok (.iload 5, 2) := by decide +kernel
theorem dX8_sumFrom_46 : decode mX8_sumFrom.2.1 46 = .ok (.invokevirtual 175, 3) := by decide +kernel
theorem dX8_sumFrom_49 : decode mX8_sumFrom.2.1 49 = .ok (.invokevirtual 188, 3) := by decide +kernel
theorem dX8_sumFrom_52 : decode mX8_sumFrom.2.1 52 = .ok (.iload 9, 2) := by decide +kernel
theorem dX8_sumFrom_54 : decode mX8_sumFrom.2.1 54 = .ok (.ineg, 1) := by decide +kernel
theorem dX8_sumFrom_55 : decode mX8_sumFrom.2.1 55 = .ok (.invokestatic 126, 3) := by decide +kernel
theorem dX8_sumFrom_58 : decode mX8_sumFrom.2.1 58 = .ok (.istore 10, 2) := by decide +kernel
theorem dX8_sumFrom_60 : decode mX8_sumFrom.2.1 60 = .ok (.iload 9, 2) := by decide +kernel
theorem dX8_sumFrom_62 : decode mX8_sumFrom.2.1 62 = .ok (.ifCond .gt 10, 3) := by decide +kernel
theorem dX8_sumFrom_65 : decode mX8_sumFrom.2.1 65 = .ok (.iload 10, 2) := by decide +kernel
theorem dX8_sumFrom_67 : decode mX8_sumFrom.2.1 67 = .ok (.iload 6, 2) := by decide +kernel
theorem dX8_sumFrom_69 : decode mX8_sumFrom.2.1 69 = .ok (.if_icmp .le 16, 3) := by decide +kernel
theorem dX8_sumFrom_72 : decode mX8_sumFrom.2.1 72 = .ok (.iload 9, 2) := by decide +kernel
theorem dX8_sumFrom_74 : decode mX8_sumFrom.2.1 74 = .ok (.ifCond .le 8, 3) := by decide +kernel
theorem dX8_sumFrom_77 : decode mX8_sumFrom.2.1 77 = .ok (.iload 9, 2) := by decide +kernel
theorem dX8_sumFrom_79 : decode mX8_sumFrom.2.1 79 = .ok (.goto 5, 3) := by decide +kernel
theorem dX8_sumFrom_82 : decode mX8_sumFrom.2.1 82 = .ok (.iload 10, 2) := by decide +kernel
theorem dX8_sumFrom_84 : decode mX8_sumFrom.2.1 84 = .ok (.ireturn, 1) := by decide +kernel
theorem dX8_sumFrom_85 : decode mX8_sumFrom.2.1 85 = .ok (.ldc 150, 2) := by decide +kernel
theorem dX8_sumFrom_87 : decode mX8_sumFrom.2.1 87 = .ok (.istore 11, 2) := by decide +kernel
theorem dX8_sumFrom_89 : decode mX8_sumFrom.2.1 89 = .ok (.aload_n 0, 1) := by decide +kernel
theorem dX8_sumFrom_90 : decode mX8_sumFrom.2.1 90 = .ok (.iload 5, 2) := by decide +kernel
theorem dX8_sumFrom_92 : decode mX8_sumFrom.2.1 92 = .ok (.invokevirtual 182, 3) := by decide +kernel
theorem dX8_sumFrom_95 : decode mX8_sumFrom.2.1 95 = .ok (.istore 12, 2) := by decide +kernel
theorem dX8_sumFrom_97 : decode mX8_sumFrom.2.1 97 = .ok (.iconst 0, 1) := by decide +kernel
theorem dX8_sumFrom_98 : decode mX8_sumFrom.2.1 98 = .ok (.istore 13, 2) := by decide +kernel
theorem dX8_sumFrom_100 : decode mX8_sumFrom.2.1 100 = .ok (.iload 13, 2) := by decide +kernel
theorem dX8_sumFrom_102 : decode mX8_sumFrom.2.1 102 = .ok (.aload_n 0, 1) := by decide +kernel
theorem dX8_sumFrom_103 : decode mX8_sumFrom.2.1 103 = .ok (.invokevirtual 129, 3) := by decide +kernel
theorem dX8_sumFrom_106 : decode mX8_sumFrom.2.1 106 = .ok (.if_icmp .ge 59, 3) := by decide +kernel
theorem dX8_sumFrom_109 : decode mX8_sumFrom.2.1 109 = .ok (.iload 11, 2) := by decide +kernel
theorem dX8_sumFrom_111 : decode mX8_sumFrom.2.1 111 = .ok (.iload 10, 2) := by decide +kernel
theorem dX8_sumFrom_113 : decode mX8_sumFrom.2.1 113 = .ok (.if_icmp .le 52, 3) := by decide +kernel
theorem dX8_sumFrom_116 : decode mX8_sumFrom.2.1 116 = .ok (.aload_n 0, 1) := by decide +kernel
theorem dX8_sumFrom_117 : decode mX8_sumFrom.2.1 117 = .ok (.iload 13, 2) := by decide +kernel
theorem dX8_sumFrom_119 : decode mX8_sumFrom.2.1 119 = .ok (.iload 12, 2) := by decide +kernel
theorem dX8_sumFrom_121 : decode mX8_sumFrom.2.1 121 = .ok (.invokevirtual 185, 3) := by decide +kernel
theorem dX8_sumFrom_124 : decode mX8_sumFrom.2.1 124 = .ok (.ifCond .eq 35, 3) := by decide +kernel
theorem dX8_sumFrom_127 : decode mX8_sumFrom.2.1 127 = .ok (.iload 6, 2) := by decide +kernel
theorem dX8_sumFrom_129 : decode mX8_sumFrom.2.1 129 = .ok (.iload 11, 2) := by decide +kernel
theorem dX8_sumFrom_131 : decode mX8_sumFrom.2.1 131 = .ok (.iconst 1, 1) := by decide +kernel
theorem dX8_sumFrom_132 : decode mX8_sumFrom.2.1 132 = .ok (.isub, 1) := by decide +kernel
theorem dX8_sumFrom_133 : decode mX8_sumFrom.2.1 133 = .ok (.invokestatic 120, 3) := by decide +kernel
theorem dX8_sumFrom_136 : decode mX8_sumFrom.2.1 136 = .ok (.istore 14, 2) := by decide +kernel
theorem dX8_sumFrom_138 : decode mX8_sumFrom.2.1 138 = .ok (.iload 11, 2) := by decide +kernel
theorem dX8_sumFrom_140 : decode mX8_sumFrom.2.1 140 = .ok (.aload_n 0, 1) := by decide +kernel
theorem dX8_sumFrom_141 : decode mX8_sumFrom.2.1 141 = .ok (.iload 13, 2) := by decide +kernel
theorem dX8_sumFrom_143 : decode mX8_sumFrom.2.1 143 = .ok (.lload_n 1, 1) := by decide +kernel
theorem dX8_sumFrom_144 : decode mX8_sumFrom.2.1 144 = .ok (.lload_n 3, 1) := by decide +kernel
theorem dX8_sumFrom_145 : decode mX8_sumFrom.2.1 145 = .ok (.iload 5, 2) := by decide +kernel
theorem dX8_sumFrom_147 : decode mX8_sumFrom.2.1 147 = .ok (.iload 14, 2) := by decide +kernel
theorem dX8_sumFrom_149 : decode mX8_sumFrom.2.1 149 = .ok (.iload 7, 2) := by decide +kernel
theorem dX8_sumFrom_151 : decode mX8_sumFrom.2.1 151 = .ok (.invokestatic 164, 3) := by decide +kernel
theorem dX8_sumFrom_154 : decode mX8_sumFrom.2.1 154 = .ok (.invokestatic 120, 3) := by decide +kernel
theorem dX8_sumFrom_157 : decode mX8_sumFrom.2.1 157 = .ok (.istore 11, 2) := by decide +kernel
theorem dX8_sumFrom_159 : decode mX8_sumFrom.2.1 159 = .ok (.iinc 13 1, 3) := by decide +kernel
theorem dX8_sumFrom_162 : decode mX8_sumFrom.2.1 162 = .ok (.goto (-62), 3) := by decide +kernel
theorem dX8_sumFrom_165 : decode mX8_sumFrom.2.1 165 = .ok (.aload_n 0, 1) := by decide +kernel
theorem dX8_sumFrom_166 : decode mX8_sumFrom.2.1 166 = .ok (.getfield 45, 3) := by decide +kernel
theorem dX8_sumFrom_169 : decode mX8_sumFrom.2.1 169 = .ok (.iload 8, 2) := by decide +kernel
theorem dX8_sumFrom_171 : decode mX8_sumFrom.2.1 171 = .ok (.iload 11, 2) := by decide +kernel
theorem dX8_sumFrom_173 : decode mX8_sumFrom.2.1 173 = .ok (.iload 6, 2) := by decide +kernel
theorem dX8_sumFrom_175 : decode mX8_sumFrom.2.1 175 = .ok (.if_icmp .gt 8, 3) := by decide +kernel
theorem dX8_sumFrom_178 : decode mX8_sumFrom.2.1 178 = .ok (.iload 11, 2) := by decide +kernel
theorem dX8_sumFrom_180 : decode mX8_sumFrom.2.1 180 = .ok (.goto 6, 3) := by decide +kernel
theorem dX8_sumFrom_183 : decode mX8_sumFrom.2.1 183 = .ok (.iload 11, 2) := by decide +kernel
theorem dX8_sumFrom_185 : decode mX8_sumFrom.2.1 185 = .ok (.ineg, 1) := by decide +kernel
theorem dX8_sumFrom_186 : decode mX8_sumFrom.2.1 186 = .ok (.invokestatic 82, 3) := by decide +kernel
theorem dX8_sumFrom_189 : decode mX8_sumFrom.2.1 189 = .ok (.iload 11, 2) := by decide +kernel
theorem dX8_sumFrom_191 : decode mX8_sumFrom.2.1 191 = .ok (.ireturn, 1) := by decide +kernel
theorem dX8_leastSum_0 : decode mX8_leastSum.2.1 0 = .ok (.lload_n 1, 1) := by decide +kernel
theorem dX8_leastSum_1 : decode mX8_leastSum.2.1 1 = .ok (.invokestatic 191, 3) := by decide +kernel
theorem dX8_leastSum_4 : decode mX8_leastSum.2.1 4 = .ok (.lload_n 3, 1) := by decide +kernel
theorem dX8_leastSum_5 : decode mX8_leastSum.2.1 5 = .ok (.invokestatic 191, 3) := by decide +kernel
theorem dX8_leastSum_8 : decode mX8_leastSum.2.1 8 = .ok (.iadd, 1) := by decide +kernel
theorem dX8_leastSum_9 : decode mX8_leastSum.2.1 9 = .ok (.istore 6, 2) := by decide +kernel
theorem dX8_leastSum_11 : decode mX8_leastSum.2.1 11 = .ok (.aload_n 0, 1) := by decide +kernel
theorem dX8_leastSum_12 : decode mX8_leastSum.2.1 12 = .ok (.getfield 89, 3) := by decide +kernel
theorem dX8_leastSum_15 : decode mX8_leastSum.2.1 15 = .ok (.aload_n 0, 1) := by decide +kernel
theorem dX8_leastSum_16 : decode mX8_leastSum.2.1 16 = .ok (.getfield 86, 3) := by decide +kernel
theorem dX8_leastSum_19 : decode mX8_leastSum.2.1 19 = .ok (.if_icmp .eq 22, 3) := by decide +kernel
theorem dX8_leastSum_22 : decode mX8_leastSum.2.1 22 = .ok (.aload_n 0, 1) := by decide +kernel
theorem dX8_leastSum_23 : decode mX8_leastSum.2.1 23 = .ok (.lload_n 1, 1) := by decide +kernel
theorem dX8_leastSum_24 : decode mX8_leastSum.2.1 24 = .ok (.lload_n 3, 1) := by decide +kernel
theorem dX8_leastSum_25 : decode mX8_leastSum.2.1 25 = .ok (.invokevirtual 167, 3) := by decide +kernel
theorem dX8_leastSum_28 : decode mX8_leastSum.2.1 28 = .ok (.ifCond .eq 7, 3) := by decide +kernel
theorem dX8_leastSum_31 : decode mX8_leastSum.2.1 31 = .ok (.iconst 0, 1) := by decide +kernel
theorem dX8_leastSum_32 : decode mX8_leastSum.2.1 32 = .ok (.goto 8, 3) := by decide +kernel
theorem dX8_leastSum_35 : decode mX8_leastSum.2.1 35 = .ok (.iload 6, 2) := by decide +kernel
theorem dX8_leastSum_37 : decode mX8_leastSum.2.1 37 = .ok (.iload 5, 2) := by decide +kernel
theorem dX8_leastSum_39 : decode mX8_leastSum.2.1 39 = .ok (.imul, 1) := by decide +kernel
theorem dX8_leastSum_40 : decode mX8_leastSum.2.1 40 = .ok (.ireturn, 1) := by decide +kernel
theorem dX8_leastSum_41 : decode mX8_leastSum.2.1 41 = .ok (.iconst 0, 1) := by decide +kernel
theorem dX8_leastSum_42 : decode mX8_leastSum.2.1 42 = .ok (.istore 7, 2) := by decide +kernel
theorem dX8_leastSum_44 : decode mX8_leastSum.2.1 44 = .ok (.iconst 1, 1) := by decide +kernel
theorem dX8_leastSum_45 : decode mX8_leastSum.2.1 45 = .ok (.istore 8, 2) := by decide +kernel
theorem dX8_leastSum_47 : decode mX8_leastSum.2.1 47 = .ok (.iload 8, 2) := by decide +kernel
theorem dX8_leastSum_49 : decode mX8_leastSum.2.1 49 = .ok (.aload_n 0, 1) := by decide +kernel
theorem dX8_leastSum_50 : decode mX8_leastSum.2.1 50 = .ok (.getfield 92, 3) := by decide +kernel
theorem dX8_leastSum_53 : decode mX8_leastSum.2.1 53 = .ok (.imul, 1) := by decide +kernel
theorem dX8_leastSum_54 : decode mX8_leastSum.2.1 54 = .ok (.iload 6, 2) := by decide +kernel
theorem dX8_leastSum_56 : decode mX8_leastSum.2.1 56 = .ok (.if_icmp .gt 25, 3) := by decide +kernel
theorem dX8_leastSum_59 : decode mX8_leastSum.2.1 59 = .ok (.iload 7, 2) := by decide +kernel
theorem dX8_leastSum_61 : decode mX8_leastSum.2.1 61 = .ok (.bipush 20, 2) := by decide +kernel
theorem dX8_leastSum_63 : decode mX8_leastSum.2.1 63 = .ok (.if_icmp .ge 18, 3) := by decide +kernel
theorem dX8_leastSum_66 : decode mX8_leastSum.2.1 66 = .ok (.iload 8, 2) := by decide +kernel
theorem dX8_leastSum_68 : decode mX8_leastSum.2.1 68 = .ok (.aload_n 0, 1) := by decide +kernel
theorem dX8_leastSum_69 : decode mX8_leastSum.2.1 69 = .ok (.getfield 92, 3) := by decide +kernel
theorem dX8_leastSum_72 : decode mX8_leastSum.2.1 72 = .ok (.imul, 1) := by decide +kernel
theorem dX8_leastSum_73 : decode mX8_leastSum.2.1 73 = .ok (.istore 8, 2) := by decide +kernel
theorem dX8_leastSum_75 : decode mX8_leastSum.2.1 75 = .ok (.iinc 7 1, 3) := by decide +kernel
theorem dX8_leastSum_78 : decode mX8_leastSum.2.1 78 = .ok (.goto (-31), 3) := by decide +kernel
theorem dX8_leastSum_81 : decode mX8_leastSum.2.1 81 = .ok (.iload 6, 2) := by decide +kernel
theorem dX8_leastSum_83 : decode mX8_leastSum.2.1 83 = .ok (.iload 8, 2) := by decide +kernel
theorem dX8_leastSum_85 : decode mX8_leastSum.2.1 85 = .ok (.isub, 1) := by decide +kernel
theorem dX8_leastSum_86 : decode mX8_leastSum.2.1 86 = .ok (.iconst 0, 1) := by decide +kernel
theorem dX8_leastSum_87 : decode mX8_leastSum.2.1 87 = .ok (.invokestatic 126, 3) := by decide +kernel
theorem dX8_leastSum_90 : decode mX8_leastSum.2.1 90 = .ok (.istore 9, 2) := by decide +kernel
theorem dX8_leastSum_92 : decode mX8_leastSum.2.1 92 = .ok (.aload_n 0, 1) := by decide +kernel
theorem dX8_leastSum_93 : decode mX8_leastSum.2.1 93 = .ok (.getfield 92, 3) := by decide +kernel
theorem dX8_leastSum_96 : decode mX8_leastSum.2.1 96 = .ok (.iconst 3, 1) := by decide +kernel
theorem dX8_leastSum_97 : decode mX8_leastSum.2.1 97 = .ok (.if_icmp .ne 12, 3) := by decide +kernel
theorem dX8_leastSum_100 : decode mX8_leastSum.2.1 100 = .ok (.iload 9, 2) := by decide +kernel
theorem dX8_leastSum_102 : decode mX8_leastSum.2.1 102 = .ok (.iconst 1, 1) := by decide +kernel
theorem dX8_leastSum_103 : decode mX8_leastSum.2.1 103 = .ok (.iadd, 1) := by decide +kernel
theorem dX8_leastSum_104 : decode mX8_leastSum.2.1 104 = .ok (.iconst 2, 1) := by decide +kernel
theorem dX8_leastSum_105 : decode mX8_leastSum.2.1 105 = .ok (.idiv, 1) := by decide +kernel
theorem dX8_leastSum_106 : decode mX8_leastSum.2.1 106 = .ok (.goto 5, 3) := by decide +kernel
theorem dX8_leastSum_109 : decode mX8_leastSum.2.1 109 = .ok (.iload 9, 2) := by decide +kernel
theorem dX8_leastSum_111 : decode mX8_leastSum.2.1 111 = .ok (.istore 10, 2) := by decide +kernel
theorem dX8_leastSum_113 : decode mX8_leastSum.2.1 113 = .ok (.iload 6, 2) := by decide +kernel
theorem dX8_leastSum_115 : decode mX8_leastSum.2.1 115 = .ok (.iload 7, 2) := by decide +kernel
theorem dX8_leastSum_117 : decode mX8_leastSum.2.1 117 = .ok (.imul, 1) := by decide +kernel
theorem dX8_leastSum_118 : decode mX8_leastSum.2.1 118 = .ok (.iload 9, 2) := by decide +kernel
theorem dX8_leastSum_120 : decode mX8_leastSum.2.1 120 = .ok (.iadd, 1) := by decide +kernel
theorem dX8_leastSum_121 : decode mX8_leastSum.2.1 121 = .ok (.iload 10, 2) := by decide +kernel
theorem dX8_leastSum_123 : decode mX8_leastSum.2.1 123 = .ok (.iadd, 1) := by decide +kernel
theorem dX8_leastSum_124 : decode mX8_leastSum.2.1 124 = .ok (.ireturn, 1) := by decide +kernel
theorem bX8_begin_0 {d : Nat} {g : xSt} {r : Option Value × xSt} {a1 a2 a3 : Int32} (W : xWf g) (k1 : a1 = (xI g 76 3) → xX (d + 1) mX8_begin 14 [some (.ref 76), some (.int a1), some (.int a2), some (.int a3)] [.ref 76] (xWI g 76 6 0) = some r) (k2 : ¬ (a1 = (xI g 76 3)) → xX (d + 1) mX8_begin 37 [some (.ref 76), some (.int a1), some (.int a2), some (.int a3)] [.ref 76] (xWI g 76 6 0) = some r) : xX (d + 1) mX8_begin 0 [some (.ref 76), some (.int a1), some (.int a2), some (.int a3)] [] g = some r :=
  Y_aload_n dX8_begin_0 rfl <| Y_iconst 0 dX8_begin_1 ic_0 <| Y_putI dX8_begin_2 f_7_48 fn_7_6 ft_7_6 (xis W 76 7 s_76 (Nat.le_of_ble_eq_true rfl)) <| Y_aload_n dX8_begin_5 rfl <| Y_iload_n dX8_begin_6 rfl <| Y_aload_n dX8_begin_7 rfl <| Y_getI dX8_begin_8 f_7_52 ft_7_3 (xis W 76 7 s_76 (Nat.le_of_ble_eq_true rfl)) <| Y_ne 37 dX8_begin_11 rfl (fun q => X_le (xle_s (xle_s (xle_s (xle_s xle_0)))) (k1 q)) (fun q => X_le (xle_s (xle_s (xle_s (xle_s xle_0)))) (k2 q))
theorem bX8_begin_14 {d : Nat} {g : xSt} {r : Option Value × xSt} {a1 a2 a3 : Int32} (W : xWf g) (k1 : a2 = (xI g 76 4) → xX (d + 1) mX8_begin 22 [some (.ref 76), some (.int a1), some (.int a2), some (.int a3)] [.ref 76] g = some r) (k2 : ¬ (a2 = (xI g 76 4)) → xX (d + 1) mX8_begin 37 [some (.ref 76), some (.int a1), some (.int a2), some (.int a3)] [.ref 76] g = some r) : xX (d + 1) mX8_begin 14 [some (.ref 76), some (.int a1), some (.int a2), some (.int a3)] [.ref 76] g = some r :=
  Y_iload_n dX8_begin_14 rfl <| Y_aload_n dX8_begin_15 rfl <| Y_getZ dX8_begin_16 f_7_55 ft_7_4 (xis W 76 7 s_76 (Nat.le_of_ble_eq_true rfl)) <| Y_ne 37 dX8_begin_19 rfl (fun q => X_le (xle_s (xle_s (xle_s (xle_s xle_0)))) (k1 q)) (fun q => X_le (xle_s (xle_s (xle_s (xle_s xle_0)))) (k2 q))
theorem bX8_begin_22 {d : Nat} {g : xSt} {r : Option Value × xSt} {a1 a2 a3 : Int32} (W : xWf g) (k1 : a3 = (xI g 76 5) → xX (d + 1) mX8_begin 30 [some (.ref 76), some (.int a1), some (.int a2), some (.int a3)] [.ref 76] g = some r) (k2 : ¬ (a3 = (xI g 76 5)) → xX (d + 1) mX8_begin 37 [some (.ref 76), some (.int a1), some (.int a2), some (.int a3)] [.ref 76] g = some r) : xX (d + 1) mX8_begin 22 [some (.ref 76), some (.int a1), some (.int a2), some (.int a3)] [.ref 76] g = some r :=
  Y_iload_n dX8_begin_22 rfl <| Y_aload_n dX8_begin_23 rfl <| Y_getI dX8_begin_24 f_7_59 ft_7_5 (xis W 76 7 s_76 (Nat.le_of_ble_eq_true rfl)) <| Y_ne 37 dX8_begin_27 rfl (fun q => X_le (xle_s (xle_s (xle_s (xle_s xle_0)))) (k1 q)) (fun q => X_le (xle_s (xle_s (xle_s (xle_s xle_0)))) (k2 q))
theorem bX8_begin_30 {d : Nat} {g : xSt} {r : Option Value × xSt} {a1 a2 a3 : Int32} (W : xWf g) (k1 : (xI g 76 15) = 0 → xX (d + 1) mX8_begin 37 [some (.ref 76), some (.int a1), some (.int a2), some (.int a3)] [.ref 76] g = some r) (k2 : ¬ ((xI g 76 15) = 0) → xX (d + 1) mX8_begin 41 [some (.ref 76), some (.int a1), some (.int a2), some (.int a3)] [.ref 76] g = some r) : xX (d + 1) mX8_begin 30 [some (.ref 76), some (.int a1), some (.int a2), some (.int a3)] [.ref 76] g = some r :=
  Y_aload_n dX8_begin_30 rfl <| Y_getI dX8_begin_31 f_7_62 ft_7_15 (xis W 76 7 s_76 (Nat.le_of_ble_eq_true rfl)) <| Y_ne0 41 dX8_begin_34 rfl (fun q => X_le (xle_s (xle_s (xle_s (xle_s xle_0)))) (k1 q)) (fun q => X_le (xle_s (xle_s (xle_s (xle_s xle_0)))) (k2 q))
theorem bX8_begin_37 {d : Nat} {g : xSt} {r : Option Value × xSt} {a1 a2 a3 : Int32} (k : xX (d + 1) mX8_begin 42 [some (.ref 76), some (.int a1), some (.int a2), some (.int a3)] [.int 1, .ref 76] g = some r) : xX (d + 1) mX8_begin 37 [some (.ref 76), some (.int a1), some (.int a2), some (.int a3)] [.ref 76] g = some r :=
  Y_iconst 1 dX8_begin_37 ic_1 <| Y_goto 42 dX8_begin_38 rfl <| X_le (xle_s (xle_s (xle_s (xle_s xle_0)))) k
theorem bX8_begin_41 {d : Nat} {g : xSt} {r : Option Value × xSt} {a1 a2 a3 : Int32} (k : xX (d + 1) mX8_begin 42 [some (.ref 76), some (.int a1), some (.int a2), some (.int a3)] [.int 0, .ref 76] g = some r) : xX (d + 1) mX8_begin 41 [some (.ref 76), some (.int a1), some (.int a2), some (.int a3)] [.ref 76] g = some r :=
  Y_iconst 0 dX8_begin_41 ic_0 <| X_le (xle_s (xle_s (xle_s (xle_s xle_0)))) k
theorem bX8_begin_42 {d : Nat} {g : xSt} {r : Option Value × xSt} {a1 a2 a3 s0 : Int32} (W : xWf g) (hz42 : s0 = 0 ∨ s0 = 1) (k1 : a1 = (xI g 76 3) → xX (d + 1) mX8_begin 58 [some (.ref 76), none, some (.int a2), some (.int a3)] [] (xWI g 76 7 s0) = some r) (k2 : ¬ (a1 = (xI g 76 3)) → xX (d + 1) mX8_begin 53 [some (.ref 76), some (.int a1), some (.int a2), some (.int a3)] [] (xWI g 76 7 s0) = some r) : xX (d + 1) mX8_begin 42 [some (.ref 76), some (.int a1), some (.int a2), some (.int a3)] [.int s0, .ref 76] g = some r :=
  Y_putZ dX8_begin_42 f_7_65 fn_7_7 ft_7_7 (xis W 76 7 s_76 (Nat.le_of_ble_eq_true rfl)) (hz42) <| Y_iload_n dX8_begin_45 rfl <| Y_aload_n dX8_begin_46 rfl <| Y_getI dX8_begin_47 f_7_52 ft_7_3 (xis W 76 7 s_76 (Nat.le_of_ble_eq_true rfl)) <| Y_eq 58 dX8_begin_50 rfl (fun q => X_le (xle_s (xle_n (xle_s (xle_s xle_0)))) (k1 q)) (fun q => X_le (xle_s (xle_s (xle_s (xle_s xle_0)))) (k2 q))
theorem bX8_begin_53 {d : Nat} {g : xSt} {r : Option Value × xSt} {a1 a2 a3 : Int32} {g55 : xSt} (W : xWf g) (hk55 : xCallM d mX8_numberPairs [.ref 76, .int a1] g = some (none, g55)) (W55 : xWf g55) (k : xX (d + 1) mX8_begin 58 [some (.ref 76), none, some (.int a2), some (.int a3)] [] g55 = some r) : xX (d + 1) mX8_begin 53 [some (.ref 76), some (.int a1), some (.int a2), some (.int a3)] [] g = some r :=
  Y_aload_n dX8_begin_53 rfl <| Y_iload_n dX8_begin_54 rfl <| Y_callV0 dX8_begin_55 cl_7_68 rfl rfl (xis W 76 7 s_76 (Nat.le_of_ble_eq_true rfl)) rfl rfl rfl (hk55) <| X_le (xle_s (xle_n (xle_s (xle_s xle_0)))) k
theorem bX8_begin_58 {d : Nat} {g : xSt} {r : Option Value × xSt} {a2 a3 : Int32} (W : xWf g) (hz60 : a2 = 0 ∨ a2 = 1) (k : r = (none, xWI (xWI g 76 4 a2) 76 5 a3)) : xX (d + 1) mX8_begin 58 [some (.ref 76), none, some (.int a2), some (.int a3)] [] g = some r :=
  Y_aload_n dX8_begin_58 rfl <| Y_iload_n dX8_begin_59 rfl <| Y_putZ dX8_begin_60 f_7_55 fn_7_4 ft_7_4 (xis W 76 7 s_76 (Nat.le_of_ble_eq_true rfl)) (hz60) <| Y_aload_n dX8_begin_63 rfl <| Y_iload_n dX8_begin_64 rfl <| Y_putI dX8_begin_65 f_7_59 fn_7_5 ft_7_5 (xis W 76 7 s_76 (Nat.le_of_ble_eq_true rfl)) <| Y_ret dX8_begin_68 rfl k
theorem bX8_numberPairs_0 {d : Nat} {g : xSt} {r : Option Value × xSt} {a1 : Int32} {g10 : xSt} (W : xWf g) (hk10 : xCallM d mX7_fill [.ref 83, .int 0] (xWI g 76 3 a1) = some (none, g10)) (W10 : xWf g10) (k : xX (d + 1) mX8_numberPairs 15 [some (.ref 76), none, some (.int 0), none] [] g10 = some r) : xX (d + 1) mX8_numberPairs 0 [some (.ref 76), some (.int a1), none, none] [] g = some r :=
  Y_aload_n dX8_numberPairs_0 rfl <| Y_iload_n dX8_numberPairs_1 rfl <| Y_putI dX8_numberPairs_2 f_7_52 fn_7_3 ft_7_3 (xis W 76 7 s_76 (Nat.le_of_ble_eq_true rfl)) <| Y_aload_n dX8_numberPairs_5 rfl <| Y_getR dX8_numberPairs_6 f_7_33 (by rw [ft_7_14]; rfl) (xis W 76 7 s_76 (Nat.le_of_ble_eq_true rfl)) (xptr W 76 14 p_76_14) <| Y_iconst 0 dX8_numberPairs_9 ic_0 <| Y_callS0 dX8_numberPairs_10 cl_7_72 rfl rfl rfl rfl rfl (hk10) <| Y_iconst 0 dX8_numberPairs_13 ic_0 <| Y_istore_n dX8_numberPairs_14 rfl rfl <| X_le (xle_s (xle_n (xle_s (xle_n xle_0)))) k
theorem bX8_numberPairs_15 {d : Nat} {g : xSt} {r : Option Value × xSt} {a2 : Int32} (W : xWf g) (k1 : (xI g 76 3) ≤ a2 → xX (d + 1) mX8_numberPairs 69 [none, none, none, none] [] g = some r) (k2 : ¬ ((xI g 76 3) ≤ a2) → xX (d + 1) mX8_numberPairs 23 [some (.ref 76), none, some (.int a2), none] [] g = some r) : xX (d + 1) mX8_numberPairs 15 [some (.ref 76), none, some (.int a2), none] [] g = some r :=
  Y_iload_n dX8_numberPairs_15 rfl <| Y_aload_n dX8_numberPairs_16 rfl <| Y_getI dX8_numberPairs_17 f_7_52 ft_7_3 (xis W 76 7 s_76 (Nat.le_of_ble_eq_true rfl)) <| Y_ge 69 dX8_numberPairs_20 rfl (fun q => X_le (xle_n (xle_n (xle_n (xle_n xle_0)))) (k1 q)) (fun q => X_le (xle_s (xle_n (xle_s (xle_n xle_0)))) (k2 q))
theorem bX8_numberPairs_23 {d : Nat} {g : xSt} {r : Option Value × xSt} {a2 : Int32} (k : xX (d + 1) mX8_numberPairs 27 [some (.ref 76), none, some (.int a2), some (.int (a2 + 1))] [] g = some r) : xX (d + 1) mX8_numberPairs 23 [some (.ref 76), none, some (.int a2), none] [] g = some r :=
  Y_iload_n dX8_numberPairs_23 rfl <| Y_iconst 1 dX8_numberPairs_24 ic_1 <| Y_iadd dX8_numberPairs_25 <| Y_istore_n dX8_numberPairs_26 rfl rfl <| X_le (xle_s (xle_n (xle_s (xle_s xle_0)))) k
theorem bX8_numberPairs_27 {d : Nat} {g : xSt} {r : Option Value × xSt} {a2 a3 : Int32} (W : xWf g) (k1 : (xI g 76 3) ≤ a3 → xX (d + 1) mX8_numberPairs 63 [some (.ref 76), none, some (.int a2), none] [] g = some r) (k2 : ¬ ((xI g 76 3) ≤ a3) → xX (d + 1) mX8_numberPairs 35 [some (.ref 76), none, some (.int a2), some (.int a3)] [] g = some r) : xX (d + 1) mX8_numberPairs 27 [some (.ref 76), none, some (.int a2), some (.int a3)] [] g = some r :=
  Y_iload_n dX8_numberPairs_27 rfl <| Y_aload_n dX8_numberPairs_28 rfl <| Y_getI dX8_numberPairs_29 f_7_52 ft_7_3 (xis W 76 7 s_76 (Nat.le_of_ble_eq_true rfl)) <| Y_ge 63 dX8_numberPairs_32 rfl (fun q => X_le (xle_s (xle_n (xle_s (xle_n xle_0)))) (k1 q)) (fun q => X_le (xle_s (xle_n (xle_s (xle_s xle_0)))) (k2 q))
theorem bX8_numberPairs_35 {d : Nat} {g : xSt} {r : Option Value × xSt} {a2 a3 r45 : Int32} {g45 : xSt} (W : xWf g) (hk45 : xCallM d mX5_pairOf [.int (xI g 76 3), .int a2, .int a3] g = some (some (.int r45), g45)) (W45 : xWf g45) (k : xX (d + 1) mX8_numberPairs 27 [some (.ref 76), none, some (.int a2), some (.int (a3 + 1))] [] (xput g45 82 10 r45 ((10 * a2) + a3)) = some r) : xX (d + 1) mX8_numberPairs 35 [some (.ref 76), none, some (.int a2), some (.int a3)] [] g = some r :=
  Y_aload_n dX8_numberPairs_35 rfl <| Y_getR dX8_numberPairs_36 f_7_30 (by rw [ft_7_13]; rfl) (xis W 76 7 s_76 (Nat.le_of_ble_eq_true rfl)) (xptr W 76 13 p_76_13) <| Y_aload_n dX8_numberPairs_39 rfl <| Y_getI dX8_numberPairs_40 f_7_52 ft_7_3 (xis W 76 7 s_76 (Nat.le_of_ble_eq_true rfl)) <| Y_iload_n dX8_numberPairs_43 rfl <| Y_iload_n dX8_numberPairs_44 rfl <| Y_callS1 dX8_numberPairs_45 cl_7_78 rfl rfl rfl rfl rfl (hk45) <| Y_bipush 10 dX8_numberPairs_48 bp_10 <| Y_iload_n dX8_numberPairs_50 rfl <| Y_imul dX8_numberPairs_51 <| Y_iload_n dX8_numberPairs_52 rfl <| Y_iadd dX8_numberPairs_53 <| Y_callS0 dX8_numberPairs_54 cl_7_82 rfl rfl rfl rfl rfl (c_put (xarr W45 (o := 82) s_82 (Nat.le_of_ble_eq_true rfl))) <| Y_iinc 1 dX8_numberPairs_57 rfl ic_1 rfl rfl <| Y_goto 27 dX8_numberPairs_60 rfl <| X_le (xle_s (xle_n (xle_s (xle_s xle_0)))) k
theorem bX8_numberPairs_63 {d : Nat} {g : xSt} {r : Option Value × xSt} {a2 : Int32} (k : xX (d + 1) mX8_numberPairs 15 [some (.ref 76), none, some (.int (a2 + 1)), none] [] g = some r) : xX (d + 1) mX8_numberPairs 63 [some (.ref 76), none, some (.int a2), none] [] g = some r :=
  Y_iinc 1 dX8_numberPairs_63 rfl ic_1 rfl rfl <| Y_goto 15 dX8_numberPairs_66 rfl <| X_le (xle_s (xle_n (xle_s (xle_n xle_0)))) k
theorem bX8_numberPairs_69 {d : Nat} {g : xSt} {r : Option Value × xSt}  (k : r = (none, g)) : xX (d + 1) mX8_numberPairs 69 [none, none, none, none] [] g = some r :=
  Y_ret dX8_numberPairs_69 rfl k
theorem bX8_add_0 {d : Nat} {g : xSt} {r : Option Value × xSt} {a1 a2 : Int32} (W : xWf g) (k1 : (xI g 76 6) < 0 → xX d mX8_add 16 [none, none, none] [] g = some r) (k2 : ¬ ((xI g 76 6) < 0) → xX d mX8_add 7 [some (.ref 76), some (.int a1), some (.int a2)] [] g = some r) : xX d mX8_add 0 [some (.ref 76), some (.int a1), some (.int a2)] [] g = some r :=
  Y_aload_n dX8_add_0 rfl <| Y_getI dX8_add_1 f_7_48 ft_7_6 (xis W 76 7 s_76 (Nat.le_of_ble_eq_true rfl)) <| Y_lt0 16 dX8_add_4 rfl (fun q => X_le (xle_n (xle_n (xle_n xle_0))) (k1 q)) (fun q => X_le (xle_s (xle_s (xle_s xle_0))) (k2 q))
theorem bX8_add_7 {d : Nat} {g : xSt} {r : Option Value × xSt} {a1 a2 : Int32} (W : xWf g) (k1 : (xI g 76 6) < 120 → xX d mX8_add 17 [some (.ref 76), some (.int a1), some (.int a2)] [] g = some r) (k2 : ¬ ((xI g 76 6) < 120) → xX d mX8_add 16 [none, none, none] [] g = some r) : xX d mX8_add 7 [some (.ref 76), some (.int a1), some (.int a2)] [] g = some r :=
  Y_aload_n dX8_add_7 rfl <| Y_getI dX8_add_8 f_7_48 ft_7_6 (xis W 76 7 s_76 (Nat.le_of_ble_eq_true rfl)) <| Y_bipush 120 dX8_add_11 bp_120 <| Y_lt 17 dX8_add_13 rfl (fun q => X_le (xle_s (xle_s (xle_s xle_0))) (k1 q)) (fun q => X_le (xle_n (xle_n (xle_n xle_0))) (k2 q))
theorem bX8_add_16 {d : Nat} {g : xSt} {r : Option Value × xSt}  (k : r = (none, g)) : xX d mX8_add 16 [none, none, none] [] g = some r :=
  Y_ret dX8_add_16 rfl k
theorem bX8_add_17 {d : Nat} {g : xSt} {r : Option Value × xSt} {a1 a2 : Int32} (W : xWf g) (hi25 : vp_in (xI g 76 6) 120) (k1 : (xI g 77 (xI g 76 6).toNatClampNeg) = a1 → xX d mX8_add 30 [some (.ref 76), some (.int a1), some (.int a2)] [] g = some r) (k2 : ¬ ((xI g 77 (xI g 76 6).toNatClampNeg) = a1) → xX d mX8_add 43 [some (.ref 76), some (.int a1), some (.int a2)] [] g = some r) : xX d mX8_add 17 [some (.ref 76), some (.int a1), some (.int a2)] [] g = some r :=
  Y_aload_n dX8_add_17 rfl <| Y_getR dX8_add_18 f_7_11 (by rw [ft_7_0]; rfl) (xis W 76 7 s_76 (Nat.le_of_ble_eq_true rfl)) (xptr W 76 0 p_76_0) <| Y_aload_n dX8_add_21 rfl <| Y_getI dX8_add_22 f_7_48 ft_7_6 (xis W 76 7 s_76 (Nat.le_of_ble_eq_true rfl)) <| Y_iald dX8_add_25 (xarr W (o := 77) s_77 (Nat.le_of_ble_eq_true rfl)) hi25 <| Y_iload_n dX8_add_26 rfl <| Y_ne 43 dX8_add_27 rfl (fun q => X_le (xle_s (xle_s (xle_s xle_0))) (k1 q)) (fun q => X_le (xle_s (xle_s (xle_s xle_0))) (k2 q))
theorem bX8_add_30 {d : Nat} {g : xSt} {r : Option Value × xSt} {a1 a2 : Int32} (W : xWf g) (hi38 : vp_in (xI g 76 6) 120) (k1 : (xI g 78 (xI g 76 6).toNatClampNeg) = a2 → xX d mX8_add 68 [some (.ref 76), none, none] [] g = some r) (k2 : ¬ ((xI g 78 (xI g 76 6).toNatClampNeg) = a2) → xX d mX8_add 43 [some (.ref 76), some (.int a1), some (.int a2)] [] g = some r) : xX d mX8_add 30 [some (.ref 76), some (.int a1), some (.int a2)] [] g = some r :=
  Y_aload_n dX8_add_30 rfl <| Y_getR dX8_add_31 f_7_15 (by rw [ft_7_1]; rfl) (xis W 76 7 s_76 (Nat.le_of_ble_eq_true rfl)) (xptr W 76 1 p_76_1) <| Y_aload_n dX8_add_34 rfl <| Y_getI dX8_add_35 f_7_48 ft_7_6 (xis W 76 7 s_76 (Nat.le_of_ble_eq_true rfl)) <| Y_iald dX8_add_38 (xarr W (o := 78) s_78 (Nat.le_of_ble_eq_true rfl)) hi38 <| Y_iload_n dX8_add_39 rfl <| Y_eq 68 dX8_add_40 rfl (fun q => X_le (xle_s (xle_n (xle_n xle_0))) (k1 q)) (fun q => X_le (xle_s (xle_s (xle_s xle_0))) (k2 q))
theorem bX8_add_43 {d : Nat} {g : xSt} {r : Option Value × xSt} {a1 a2 : Int32} (W : xWf g) (hi57 : vp_in (xI g 76 6) 120) (hi67 : vp_in (xI g 76 6) 120) (k : xX d mX8_add 68 [some (.ref 76), none, none] [] (xWI (xWI (xWI g 76 7 1) 77 (xI g 76 6).toNatClampNeg a1) 78 (xI g 76 6).toNatClampNeg a2) = some r) : xX d mX8_add 43 [some (.ref 76), some (.int a1), some (.int a2)] [] g = some r :=
  Y_aload_n dX8_add_43 rfl <| Y_iconst 1 dX8_add_44 ic_1 <| Y_putZ dX8_add_45 f_7_65 fn_7_7 ft_7_7 (xis W 76 7 s_76 (Nat.le_of_ble_eq_true rfl)) (by decide) <| Y_aload_n dX8_add_48 rfl <| Y_getR dX8_add_49 f_7_11 (by rw [ft_7_0]; rfl) (xis W 76 7 s_76 (Nat.le_of_ble_eq_true rfl)) (xptr W 76 0 p_76_0) <| Y_aload_n dX8_add_52 rfl <| Y_getI dX8_add_53 f_7_48 ft_7_6 (xis W 76 7 s_76 (Nat.le_of_ble_eq_true rfl)) <| Y_iload_n dX8_add_56 rfl <| Y_iast dX8_add_57 (xarr W (o := 77) s_77 (Nat.le_of_ble_eq_true rfl)) hi57 <| Y_aload_n dX8_add_58 rfl <| Y_getR dX8_add_59 f_7_15 (by rw [ft_7_1]; rfl) (xis W 76 7 s_76 (Nat.le_of_ble_eq_true rfl)) (xptr W 76 1 p_76_1) <| Y_aload_n dX8_add_62 rfl <| Y_getI dX8_add_63 f_7_48 ft_7_6 (xis W 76 7 s_76 (Nat.le_of_ble_eq_true rfl)) <| Y_iload_n dX8_add_66 rfl <| Y_iast dX8_add_67 (xarr W (o := 78) s_78 (Nat.le_of_ble_eq_true rfl)) hi67 <| X_le (xle_s (xle_n (xle_n xle_0))) k
theorem bX8_add_68 {d : Nat} {g : xSt} {r : Option Value × xSt}  (W : xWf g) (k : r = (none, xWI g 76 6 ((xI g 76 6) + 1))) : xX d mX8_add 68 [some (.ref 76), none, none] [] g = some r :=
  Y_aload_n dX8_add_68 rfl <| Y_dup dX8_add_69 rfl <| Y_getI dX8_add_70 f_7_48 ft_7_6 (xis W 76 7 s_76 (Nat.le_of_ble_eq_true rfl)) <| Y_iconst 1 dX8_add_73 ic_1 <| Y_iadd dX8_add_74 <| Y_putI dX8_add_75 f_7_48 fn_7_6 ft_7_6 (xis W 76 7 s_76 (Nat.le_of_ble_eq_true rfl)) <| Y_ret dX8_add_78 rfl k
theorem bX8_finish_0 {d : Nat} {g : xSt} {r : Option Value × xSt}  (W : xWf g) (k1 : (xI g 76 7) = 0 → xX (d + 1) mX8_finish 7 [some (.ref 76), none] [] g = some r) (k2 : ¬ ((xI g 76 7) = 0) → xX (d + 1) mX8_finish 19 [some (.ref 76), none] [] g = some r) : xX (d + 1) mX8_finish 0 [some (.ref 76), none] [] g = some r :=
  Y_aload_n dX8_finish_0 rfl <| Y_getZ dX8_finish_1 f_7_65 ft_7_7 (xis W 76 7 s_76 (Nat.le_of_ble_eq_true rfl)) <| Y_ne0 19 dX8_finish_4 rfl (fun q => X_le (xle_s (xle_n xle_0)) (k1 q)) (fun q => X_le (xle_s (xle_n xle_0)) (k2 q))
theorem bX8_finish_7 {d : Nat} {g : xSt} {r : Option Value × xSt}  (W : xWf g) (k1 : (xI g 76 6) = (xI g 76 2) → xX (d + 1) mX8_finish 18 [none, none] [] g = some r) (k2 : ¬ ((xI g 76 6) = (xI g 76 2)) → xX (d + 1) mX8_finish 19 [some (.ref 76), none] [] g = some r) : xX (d + 1) mX8_finish 7 [some (.ref 76), none] [] g = some r :=
  Y_aload_n dX8_finish_7 rfl <| Y_getI dX8_finish_8 f_7_48 ft_7_6 (xis W 76 7 s_76 (Nat.le_of_ble_eq_true rfl)) <| Y_aload_n dX8_finish_11 rfl <| Y_getI dX8_finish_12 f_7_86 ft_7_2 (xis W 76 7 s_76 (Nat.le_of_ble_eq_true rfl)) <| Y_ne 19 dX8_finish_15 rfl (fun q => X_le (xle_n (xle_n xle_0)) (k1 q)) (fun q => X_le (xle_s (xle_n xle_0)) (k2 q))
theorem bX8_finish_18 {d : Nat} {g : xSt} {r : Option Value × xSt}  (k : r = (none, g)) : xX (d + 1) mX8_finish 18 [none, none] [] g = some r :=
  Y_ret dX8_finish_18 rfl k
theorem bX8_finish_19 {d : Nat} {g : xSt} {r : Option Value × xSt}  (W : xWf g) (k : xX (d + 1) mX8_finish 49 [some (.ref 76), some (.int 0)] [] (xWI (xWI (xWI (xWI g 76 2 (xI g 76 6)) 76 15 ((xI g 76 15) + 1)) 76 9 0) 76 8 2) = some r) : xX (d + 1) mX8_finish 19 [some (.ref 76), none] [] g = some r :=
  Y_aload_n dX8_finish_19 rfl <| Y_aload_n dX8_finish_20 rfl <| Y_getI dX8_finish_21 f_7_48 ft_7_6 (xis W 76 7 s_76 (Nat.le_of_ble_eq_true rfl)) <| Y_putI dX8_finish_24 f_7_86 fn_7_2 ft_7_2 (xis W 76 7 s_76 (Nat.le_of_ble_eq_true rfl)) <| Y_aload_n dX8_finish_27 rfl <| Y_dup dX8_finish_28 rfl <| Y_getI dX8_finish_29 f_7_62 ft_7_15 (xis W 76 7 s_76 (Nat.le_of_ble_eq_true rfl)) <| Y_iconst 1 dX8_finish_32 ic_1 <| Y_iadd dX8_finish_33 <| Y_putI dX8_finish_34 f_7_62 fn_7_15 ft_7_15 (xis W 76 7 s_76 (Nat.le_of_ble_eq_true rfl)) <| Y_aload_n dX8_finish_37 rfl <| Y_iconst 0 dX8_finish_38 ic_0 <| Y_putI dX8_finish_39 f_7_89 fn_7_9 ft_7_9 (xis W 76 7 s_76 (Nat.le_of_ble_eq_true rfl)) <| Y_aload_n dX8_finish_42 rfl <| Y_iconst 2 dX8_finish_43 ic_2 <| Y_putI dX8_finish_44 f_7_92 fn_7_8 ft_7_8 (xis W 76 7 s_76 (Nat.le_of_ble_eq_true rfl)) <| Y_iconst 0 dX8_finish_47 ic_0 <| Y_istore_n dX8_finish_48 rfl rfl <| X_le (xle_s (xle_s xle_0)) k
theorem bX8_finish_49 {d : Nat} {g : xSt} {r : Option Value × xSt} {a1 : Int32} (W : xWf g) (k1 : 60 ≤ a1 → xX (d + 1) mX8_finish 73 [some (.ref 76), none] [] g = some r) (k2 : ¬ (60 ≤ a1) → xX (d + 1) mX8_finish 58 [some (.ref 76), some (.int a1)] [] g = some r) : xX (d + 1) mX8_finish 49 [some (.ref 76), some (.int a1)] [] g = some r :=
  Y_iload_n dX8_finish_49 rfl <| Y_aload_n dX8_finish_50 rfl <| Y_getR dX8_finish_51 f_7_27 (by rw [ft_7_12]; rfl) (xis W 76 7 s_76 (Nat.le_of_ble_eq_true rfl)) (xptr W 76 12 p_76_12) <| Y_alen 60 dX8_finish_54 (xarr W (o := 81) s_81 (Nat.le_of_ble_eq_true rfl)) on_60 rfl <| Y_ge 73 dX8_finish_55 rfl (fun q => X_le (xle_s (xle_n xle_0)) (k1 q)) (fun q => X_le (xle_s (xle_s xle_0)) (k2 q))
theorem bX8_finish_58 {d : Nat} {g : xSt} {r : Option Value × xSt} {a1 : Int32} (W : xWf g) (k : xX (d + 1) mX8_finish 49 [some (.ref 76), some (.int (a1 + 1))] [] (xputL g 81 60 a1 0) = some r) : xX (d + 1) mX8_finish 58 [some (.ref 76), some (.int a1)] [] g = some r :=
  Y_aload_n dX8_finish_58 rfl <| Y_getR dX8_finish_59 f_7_27 (by rw [ft_7_12]; rfl) (xis W 76 7 s_76 (Nat.le_of_ble_eq_true rfl)) (xptr W 76 12 p_76_12) <| Y_iload_n dX8_finish_62 rfl <| Y_lconst 0 dX8_finish_63 rfl <| Y_callS0 dX8_finish_64 cl_7_95 rfl rfl rfl rfl rfl (c_putL (xarr W (o := 81) s_81 (Nat.le_of_ble_eq_true rfl))) <| Y_iinc 1 dX8_finish_67 rfl ic_1 rfl rfl <| Y_goto 49 dX8_finish_70 rfl <| X_le (xle_s (xle_s xle_0)) k
theorem bX8_finish_73 {d : Nat} {g : xSt} {r : Option Value × xSt}  (k : xX (d + 1) mX8_finish 75 [some (.ref 76), some (.int 0)] [] g = some r) : xX (d + 1) mX8_finish 73 [some (.ref 76), none] [] g = some r :=
  Y_iconst 0 dX8_finish_73 ic_0 <| Y_istore_n dX8_finish_74 rfl rfl <| X_le (xle_s (xle_s xle_0)) k
theorem bX8_finish_75 {d : Nat} {g : xSt} {r : Option Value × xSt} {a1 : Int32} (W : xWf g) (k1 : (xI g 76 2) ≤ a1 → xX (d + 1) mX8_finish 94 [none, none] [] g = some r) (k2 : ¬ ((xI g 76 2) ≤ a1) → xX (d + 1) mX8_finish 83 [some (.ref 76), some (.int a1)] [] g = some r) : xX (d + 1) mX8_finish 75 [some (.ref 76), some (.int a1)] [] g = some r :=
  Y_iload_n dX8_finish_75 rfl <| Y_aload_n dX8_finish_76 rfl <| Y_getI dX8_finish_77 f_7_86 ft_7_2 (xis W 76 7 s_76 (Nat.le_of_ble_eq_true rfl)) <| Y_ge 94 dX8_finish_80 rfl (fun q => X_le (xle_n (xle_n xle_0)) (k1 q)) (fun q => X_le (xle_s (xle_s xle_0)) (k2 q))
theorem bX8_finish_83 {d : Nat} {g : xSt} {r : Option Value × xSt} {a1 : Int32} {g85 : xSt} (W : xWf g) (hk85 : xCallM d mX8_sortIn [.ref 76, .int a1] g = some (none, g85)) (W85 : xWf g85) (k : xX (d + 1) mX8_finish 75 [some (.ref 76), some (.int (a1 + 1))] [] g85 = some r) : xX (d + 1) mX8_finish 83 [some (.ref 76), some (.int a1)] [] g = some r :=
  Y_aload_n dX8_finish_83 rfl <| Y_iload_n dX8_finish_84 rfl <| Y_callV0 dX8_finish_85 cl_7_98 rfl rfl (xis W 76 7 s_76 (Nat.le_of_ble_eq_true rfl)) rfl rfl rfl (hk85) <| Y_iinc 1 dX8_finish_88 rfl ic_1 rfl rfl <| Y_goto 75 dX8_finish_91 rfl <| X_le (xle_s (xle_s xle_0)) k
theorem bX8_finish_94 {d : Nat} {g : xSt} {r : Option Value × xSt}  (k : r = (none, g)) : xX (d + 1) mX8_finish 94 [none, none] [] g = some r :=
  Y_ret dX8_finish_94 rfl k
theorem bX8_sortIn_0 {d : Nat} {g : xSt} {r : Option Value × xSt} {a1 : Int32} (W : xWf g) (k1 : ((xat (xI g 77) 120 a1) &&& 1023) = 0 → xX (d + 1) mX8_sortIn 22 [some (.ref 76), some (.int a1), some (.int (xat (xI g 77) 120 a1)), none] [] g = some r) (k2 : ¬ (((xat (xI g 77) 120 a1) &&& 1023) = 0) → xX (d + 1) mX8_sortIn 17 [some (.ref 76), some (.int a1), some (.int (xat (xI g 77) 120 a1)), none] [] g = some r) : xX (d + 1) mX8_sortIn 0 [some (.ref 76), some (.int a1), none, none] [] g = some r :=
  Y_aload_n dX8_sortIn_0 rfl <| Y_getR dX8_sortIn_1 f_7_11 (by rw [ft_7_0]; rfl) (xis W 76 7 s_76 (Nat.le_of_ble_eq_true rfl)) (xptr W 76 0 p_76_0) <| Y_iload_n dX8_sortIn_4 rfl <| Y_callS1 dX8_sortIn_5 cl_7_101 rfl rfl rfl rfl rfl (c_at (xarr W (o := 77) s_77 (Nat.le_of_ble_eq_true rfl))) <| Y_istore_n dX8_sortIn_8 rfl rfl <| Y_iload_n dX8_sortIn_9 rfl <| Y_sipush 1023 dX8_sortIn_10 sp_1023 <| Y_iand dX8_sortIn_13 <| Y_eq0 22 dX8_sortIn_14 rfl (fun q => X_le (xle_s (xle_s (xle_s (xle_n xle_0)))) (k1 q)) (fun q => X_le (xle_s (xle_s (xle_s (xle_n xle_0)))) (k2 q))
theorem bX8_sortIn_17 {d : Nat} {g : xSt} {r : Option Value × xSt} {a1 a2 : Int32} (W : xWf g) (k : xX (d + 1) mX8_sortIn 22 [some (.ref 76), some (.int a1), some (.int a2), none] [] (xWI g 76 8 3) = some r) : xX (d + 1) mX8_sortIn 17 [some (.ref 76), some (.int a1), some (.int a2), none] [] g = some r :=
  Y_aload_n dX8_sortIn_17 rfl <| Y_iconst 3 dX8_sortIn_18 ic_3 <| Y_putI dX8_sortIn_19 f_7_92 fn_7_8 ft_7_8 (xis W 76 7 s_76 (Nat.le_of_ble_eq_true rfl)) <| X_le (xle_s (xle_s (xle_s (xle_n xle_0)))) k
theorem bX8_sortIn_22 {d : Nat} {g : xSt} {r : Option Value × xSt} {a1 a2 : Int32} (k : xX (d + 1) mX8_sortIn 24 [some (.ref 76), some (.int a1), some (.int a2), some (.int 0)] [] g = some r) : xX (d + 1) mX8_sortIn 22 [some (.ref 76), some (.int a1), some (.int a2), none] [] g = some r :=
  Y_iconst 0 dX8_sortIn_22 ic_0 <| Y_istore_n dX8_sortIn_23 rfl rfl <| X_le (xle_s (xle_s (xle_s (xle_s xle_0)))) k
theorem bX8_sortIn_24 {d : Nat} {g : xSt} {r : Option Value × xSt} {a1 a2 a3 : Int32} (k1 : 30 ≤ a3 → xX (d + 1) mX8_sortIn 53 [some (.ref 76), some (.int a1), none, none] [] g = some r) (k2 : ¬ (30 ≤ a3) → xX (d + 1) mX8_sortIn 30 [some (.ref 76), some (.int a1), some (.int a2), some (.int a3)] [] g = some r) : xX (d + 1) mX8_sortIn 24 [some (.ref 76), some (.int a1), some (.int a2), some (.int a3)] [] g = some r :=
  Y_iload_n dX8_sortIn_24 rfl <| Y_bipush 30 dX8_sortIn_25 bp_30 <| Y_ge 53 dX8_sortIn_27 rfl (fun q => X_le (xle_s (xle_s (xle_n (xle_n xle_0)))) (k1 q)) (fun q => X_le (xle_s (xle_s (xle_s (xle_s xle_0)))) (k2 q))
theorem bX8_sortIn_30 {d : Nat} {g : xSt} {r : Option Value × xSt} {a1 a2 a3 : Int32} (k1 : (xbit a2 a3) = 0 → xX (d + 1) mX8_sortIn 47 [some (.ref 76), some (.int a1), some (.int a2), some (.int a3)] [] g = some r) (k2 : ¬ ((xbit a2 a3) = 0) → xX (d + 1) mX8_sortIn 38 [some (.ref 76), some (.int a1), some (.int a2), some (.int a3)] [] g = some r) : xX (d + 1) mX8_sortIn 30 [some (.ref 76), some (.int a1), some (.int a2), some (.int a3)] [] g = some r :=
  Y_iload_n dX8_sortIn_30 rfl <| Y_iload_n dX8_sortIn_31 rfl <| Y_callS1 dX8_sortIn_32 cl_7_105 rfl rfl rfl rfl rfl (c_xbit) <| Y_eq0 47 dX8_sortIn_35 rfl (fun q => X_le (xle_s (xle_s (xle_s (xle_s xle_0)))) (k1 q)) (fun q => X_le (xle_s (xle_s (xle_s (xle_s xle_0)))) (k2 q))
theorem bX8_sortIn_38 {d : Nat} {g : xSt} {r : Option Value × xSt} {a1 a2 a3 : Int32} {g44 : xSt} (W : xWf g) (hk44 : xCallM d mX8_putIn [.ref 81, .int a3, .int a1] g = some (none, g44)) (W44 : xWf g44) (k : xX (d + 1) mX8_sortIn 47 [some (.ref 76), some (.int a1), some (.int a2), some (.int a3)] [] g44 = some r) : xX (d + 1) mX8_sortIn 38 [some (.ref 76), some (.int a1), some (.int a2), some (.int a3)] [] g = some r :=
  Y_aload_n dX8_sortIn_38 rfl <| Y_getR dX8_sortIn_39 f_7_27 (by rw [ft_7_12]; rfl) (xis W 76 7 s_76 (Nat.le_of_ble_eq_true rfl)) (xptr W 76 12 p_76_12) <| Y_iload_n dX8_sortIn_42 rfl <| Y_iload_n dX8_sortIn_43 rfl <| Y_callS0 dX8_sortIn_44 cl_7_109 rfl rfl rfl rfl rfl (hk44) <| X_le (xle_s (xle_s (xle_s (xle_s xle_0)))) k
theorem bX8_sortIn_47 {d : Nat} {g : xSt} {r : Option Value × xSt} {a1 a2 a3 : Int32} (k : xX (d + 1) mX8_sortIn 24 [some (.ref 76), some (.int a1), some (.int a2), some (.int (a3 + 1))] [] g = some r) : xX (d + 1) mX8_sortIn 47 [some (.ref 76), some (.int a1), some (.int a2), some (.int a3)] [] g = some r :=
  Y_iinc 1 dX8_sortIn_47 rfl ic_1 rfl rfl <| Y_goto 24 dX8_sortIn_50 rfl <| X_le (xle_s (xle_s (xle_s (xle_s xle_0)))) k
theorem bX8_sortIn_53 {d : Nat} {g : xSt} {r : Option Value × xSt} {a1 r55 : Int32} {g55 g74 : xSt} (W : xWf g) (hk55 : xCallM d mX8_kindLike [.ref 76, .int a1] g = some (some (.int r55), g55)) (W55 : xWf g55) (hk74 : xCallM d mX8_putIn [.ref 80, .int r55, .int a1] (xput g55 79 120 a1 r55) = some (none, g74)) (W74 : xWf g74) (k : r = (none, g74)) : xX (d + 1) mX8_sortIn 53 [some (.ref 76), some (.int a1), none, none] [] g = some r :=
  Y_aload_n dX8_sortIn_53 rfl <| Y_iload_n dX8_sortIn_54 rfl <| Y_callV1 dX8_sortIn_55 cl_7_113 rfl rfl (xis W 76 7 s_76 (Nat.le_of_ble_eq_true rfl)) rfl rfl rfl (hk55) <| Y_istore_n dX8_sortIn_58 rfl rfl <| Y_aload_n dX8_sortIn_59 rfl <| Y_getR dX8_sortIn_60 f_7_18 (by rw [ft_7_10]; rfl) (xis W55 76 7 s_76 (Nat.le_of_ble_eq_true rfl)) (xptr W55 76 10 p_76_10) <| Y_iload_n dX8_sortIn_63 rfl <| Y_iload_n dX8_sortIn_64 rfl <| Y_callS0 dX8_sortIn_65 cl_7_82 rfl rfl rfl rfl rfl (c_put (xarr W55 (o := 79) s_79 (Nat.le_of_ble_eq_true rfl))) <| Y_aload_n dX8_sortIn_68 rfl <| Y_getR dX8_sortIn_69 f_7_21 (by rw [ft_7_11]; rfl) (xis (xWf_put W55) 76 7 s_76 (Nat.le_of_ble_eq_true rfl)) (xptr (xWf_put W55) 76 11 p_76_11) <| Y_iload_n dX8_sortIn_72 rfl <| Y_iload_n dX8_sortIn_73 rfl <| Y_callS0 dX8_sortIn_74 cl_7_109 rfl rfl rfl rfl rfl (hk74) <| Y_ret dX8_sortIn_77 rfl k
theorem bX8_putIn_0 {d : Nat} {g : xSt} {r : Option Value × xSt} {a1 a2 : Int32} {o n : Nat} (ho : xArr g o .long n) (k1 : 60 ≤ a2 → xX (d + 1) mX8_putIn 12 [some (.ref o), some (.int a1), some (.int a2), none] [] g = some r) (k2 : ¬ (60 ≤ a2) → xX (d + 1) mX8_putIn 6 [some (.ref o), some (.int a1), some (.int a2), none] [] g = some r) : xX (d + 1) mX8_putIn 0 [some (.ref o), some (.int a1), some (.int a2), none] [] g = some r :=
  Y_iload_n dX8_putIn_0 rfl <| Y_bipush 60 dX8_putIn_1 bp_60 <| Y_ge 12 dX8_putIn_3 rfl (fun q => X_le (xle_s (xle_s (xle_s (xle_n xle_0)))) (k1 q)) (fun q => X_le (xle_s (xle_s (xle_s (xle_n xle_0)))) (k2 q))
theorem bX8_putIn_6 {d : Nat} {g : xSt} {r : Option Value × xSt} {a1 a2 : Int32} {o n : Nat} (ho : xArr g o .long n) (k : xX (d + 1) mX8_putIn 17 [some (.ref o), none, some (.int a2), none] [.int (2 * a1)] g = some r) : xX (d + 1) mX8_putIn 6 [some (.ref o), some (.int a1), some (.int a2), none] [] g = some r :=
  Y_iconst 2 dX8_putIn_6 ic_2 <| Y_iload_n dX8_putIn_7 rfl <| Y_imul dX8_putIn_8 <| Y_goto 17 dX8_putIn_9 rfl <| X_le (xle_s (xle_n (xle_s (xle_n xle_0)))) k
theorem bX8_putIn_12 {d : Nat} {g : xSt} {r : Option Value × xSt} {a1 a2 : Int32} {o n : Nat} (ho : xArr g o .long n) (k : xX (d + 1) mX8_putIn 17 [some (.ref o), none, some (.int a2), none] [.int ((2 * a1) + 1)] g = some r) : xX (d + 1) mX8_putIn 12 [some (.ref o), some (.int a1), some (.int a2), none] [] g = some r :=
  Y_iconst 2 dX8_putIn_12 ic_2 <| Y_iload_n dX8_putIn_13 rfl <| Y_imul dX8_putIn_14 <| Y_iconst 1 dX8_putIn_15 ic_1 <| Y_iadd dX8_putIn_16 <| X_le (xle_s (xle_n (xle_s (xle_n xle_0)))) k
theorem bX8_putIn_17 {d : Nat} {g : xSt} {r : Option Value × xSt} {a2 s0 : Int32} {o n : Nat} (W : xWf g) (ho : xArr g o .long n) (hn : n < 2 ^ 31) (k : r = (none, xputL g o n s0 ((xatL (xL g o) n s0) ||| (1 <<< (Int32.toInt64 (a2 - a2 / 60 * 60) &&& 63))))) : xX (d + 1) mX8_putIn 17 [some (.ref o), none, some (.int a2), none] [.int s0] g = some r :=
  Y_istore_n dX8_putIn_17 rfl rfl <| Y_aload_n dX8_putIn_18 rfl <| Y_iload_n dX8_putIn_19 rfl <| Y_aload_n dX8_putIn_20 rfl <| Y_iload_n dX8_putIn_21 rfl <| Y_callS1 dX8_putIn_22 cl_7_117 rfl rfl rfl rfl rfl (c_atL (ho) hn) <| Y_lconst 1 dX8_putIn_25 rfl <| Y_iload_n dX8_putIn_26 rfl <| Y_bipush 60 dX8_putIn_27 bp_60 <| Y_irem dX8_putIn_29 (by decide) <| Y_lshl dX8_putIn_30 <| Y_lor dX8_putIn_31 <| Y_callS0 dX8_putIn_32 cl_7_95 rfl rfl rfl rfl rfl (c_putL (ho) hn) <| Y_ret dX8_putIn_35 rfl k
theorem bX8_kindLike_0 {d : Nat} {g : xSt} {r : Option Value × xSt} {a1 : Int32} (k : xX (d + 1) mX8_kindLike 2 [some (.ref 76), some (.int a1), some (.int 0)] [] g = some r) : xX (d + 1) mX8_kindLike 0 [some (.ref 76), some (.int a1), none] [] g = some r :=
  Y_iconst 0 dX8_kindLike_0 ic_0 <| Y_istore_n dX8_kindLike_1 rfl rfl <| X_le (xle_s (xle_s (xle_s xle_0))) k
theorem bX8_kindLike_2 {d : Nat} {g : xSt} {r : Option Value × xSt} {a1 a2 : Int32} (k1 : a1 ≤ a2 → xX (d + 1) mX8_kindLike 41 [some (.ref 76), none, none] [] g = some r) (k2 : ¬ (a1 ≤ a2) → xX (d + 1) mX8_kindLike 7 [some (.ref 76), some (.int a1), some (.int a2)] [] g = some r) : xX (d + 1) mX8_kindLike 2 [some (.ref 76), some (.int a1), some (.int a2)] [] g = some r :=
  Y_iload_n dX8_kindLike_2 rfl <| Y_iload_n dX8_kindLike_3 rfl <| Y_ge 41 dX8_kindLike_4 rfl (fun q => X_le (xle_s (xle_n (xle_n xle_0))) (k1 q)) (fun q => X_le (xle_s (xle_s (xle_s xle_0))) (k2 q))
theorem bX8_kindLike_7 {d : Nat} {g : xSt} {r : Option Value × xSt} {a1 a2 : Int32} (W : xWf g) (k1 : (xat (xI g 78) 120 a2) = (xat (xI g 78) 120 a1) → xX (d + 1) mX8_kindLike 26 [some (.ref 76), none, some (.int a2)] [] g = some r) (k2 : ¬ ((xat (xI g 78) 120 a2) = (xat (xI g 78) 120 a1)) → xX (d + 1) mX8_kindLike 35 [some (.ref 76), some (.int a1), some (.int a2)] [] g = some r) : xX (d + 1) mX8_kindLike 7 [some (.ref 76), some (.int a1), some (.int a2)] [] g = some r :=
  Y_aload_n dX8_kindLike_7 rfl <| Y_getR dX8_kindLike_8 f_7_15 (by rw [ft_7_1]; rfl) (xis W 76 7 s_76 (Nat.le_of_ble_eq_true rfl)) (xptr W 76 1 p_76_1) <| Y_iload_n dX8_kindLike_11 rfl <| Y_callS1 dX8_kindLike_12 cl_7_101 rfl rfl rfl rfl rfl (c_at (xarr W (o := 78) s_78 (Nat.le_of_ble_eq_true rfl))) <| Y_aload_n dX8_kindLike_15 rfl <| Y_getR dX8_kindLike_16 f_7_15 (by rw [ft_7_1]; rfl) (xis W 76 7 s_76 (Nat.le_of_ble_eq_true rfl)) (xptr W 76 1 p_76_1) <| Y_iload_n dX8_kindLike_19 rfl <| Y_callS1 dX8_kindLike_20 cl_7_101 rfl rfl rfl rfl rfl (c_at (xarr W (o := 78) s_78 (Nat.le_of_ble_eq_true rfl))) <| Y_ne 35 dX8_kindLike_23 rfl (fun q => X_le (xle_s (xle_n (xle_s xle_0))) (k1 q)) (fun q => X_le (xle_s (xle_s (xle_s xle_0))) (k2 q))
theorem bX8_kindLike_26 {d : Nat} {g : xSt} {r : Option Value × xSt} {a2 : Int32} (W : xWf g) (k : r = (some (.int (xat (xI g 79) 120 a2)), g)) : xX (d + 1) mX8_kindLike 26 [some (.ref 76), none, some (.int a2)] [] g = some r :=
  Y_aload_n dX8_kindLike_26 rfl <| Y_getR dX8_kindLike_27 f_7_18 (by rw [ft_7_10]; rfl) (xis W 76 7 s_76 (Nat.le_of_ble_eq_true rfl)) (xptr W 76 10 p_76_10) <| Y_iload_n dX8_kindLike_30 rfl <| Y_callS1 dX8_kindLike_31 cl_7_101 rfl rfl rfl rfl rfl (c_at (xarr W (o := 79) s_79 (Nat.le_of_ble_eq_true rfl))) <| Y_iret dX8_kindLike_34 rfl k
theorem bX8_kindLike_35 {d : Nat} {g : xSt} {r : Option Value × xSt} {a1 a2 : Int32} (k : xX (d + 1) mX8_kindLike 2 [some (.ref 76), some (.int a1), some (.int (a2 + 1))] [] g = some r) : xX (d + 1) mX8_kindLike 35 [some (.ref 76), some (.int a1), some (.int a2)] [] g = some r :=
  Y_iinc 1 dX8_kindLike_35 rfl ic_1 rfl rfl <| Y_goto 2 dX8_kindLike_38 rfl <| X_le (xle_s (xle_s (xle_s xle_0))) k
theorem bX8_kindLike_41 {d : Nat} {g : xSt} {r : Option Value × xSt}  (W : xWf g) (k : r = (some (.int (((xI (xputL (xputL g 80 240 (2 * (xI g 76 9)) 0) 80 240 ((2 * (xI (xputL g 80 240 (2 * (xI g 76 9)) 0) 76 9)) + 1) 0) 76 9) + 1) - 1)), xWI (xputL (xputL g 80 240 (2 * (xI g 76 9)) 0) 80 240 ((2 * (xI (xputL g 80 240 (2 * (xI g 76 9)) 0) 76 9)) + 1) 0) 76 9 ((xI (xputL (xputL g 80 240 (2 * (xI g 76 9)) 0) 80 240 ((2 * (xI (xputL g 80 240 (2 * (xI g 76 9)) 0) 76 9)) + 1) 0) 76 9) + 1))) : xX (d + 1) mX8_kindLike 41 [some (.ref 76), none, none] [] g = some r :=
  Y_aload_n dX8_kindLike_41 rfl <| Y_getR dX8_kindLike_42 f_7_21 (by rw [ft_7_11]; rfl) (xis W 76 7 s_76 (Nat.le_of_ble_eq_true rfl)) (xptr W 76 11 p_76_11) <| Y_iconst 2 dX8_kindLike_45 ic_2 <| Y_aload_n dX8_kindLike_46 rfl <| Y_getI dX8_kindLike_47 f_7_89 ft_7_9 (xis W 76 7 s_76 (Nat.le_of_ble_eq_true rfl)) <| Y_imul dX8_kindLike_50 <| Y_lconst 0 dX8_kindLike_51 rfl <| Y_callS0 dX8_kindLike_52 cl_7_95 rfl rfl rfl rfl rfl (c_putL (xarr W (o := 80) s_80 (Nat.le_of_ble_eq_true rfl))) <| Y_aload_n dX8_kindLike_55 rfl <| Y_getR dX8_kindLike_56 f_7_21 (by rw [ft_7_11]; rfl) (xis (xWf_putL W) 76 7 s_76 (Nat.le_of_ble_eq_true rfl)) (xptr (xWf_putL W) 76 11 p_76_11) <| Y_iconst 2 dX8_kindLike_59 ic_2 <| Y_aload_n dX8_kindLike_60 rfl <| Y_getI dX8_kindLike_61 f_7_89 ft_7_9 (xis (xWf_putL W) 76 7 s_76 (Nat.le_of_ble_eq_true rfl)) <| Y_imul dX8_kindLike_64 <| Y_iconst 1 dX8_kindLike_65 ic_1 <| Y_iadd dX8_kindLike_66 <| Y_lconst 0 dX8_kindLike_67 rfl <| Y_callS0 dX8_kindLike_68 cl_7_95 rfl rfl rfl rfl rfl (c_putL (xarr (xWf_putL W) (o := 80) s_80 (Nat.le_of_ble_eq_true rfl))) <| Y_aload_n dX8_kindLike_71 rfl <| Y_dup dX8_kindLike_72 rfl <| Y_getI dX8_kindLike_73 f_7_89 ft_7_9 (xis (xWf_putL (xWf_putL W)) 76 7 s_76 (Nat.le_of_ble_eq_true rfl)) <| Y_iconst 1 dX8_kindLike_76 ic_1 <| Y_iadd dX8_kindLike_77 <| Y_putI dX8_kindLike_78 f_7_89 fn_7_9 ft_7_9 (xis (xWf_putL (xWf_putL W)) 76 7 s_76 (Nat.le_of_ble_eq_true rfl)) <| Y_aload_n dX8_kindLike_81 rfl <| Y_getI dX8_kindLike_82 f_7_89 ft_7_9 (xis (xWf_putL (xWf_putL W)) 76 7 s_76 (Nat.le_of_ble_eq_true rfl)) <| Y_iconst 1 dX8_kindLike_85 ic_1 <| Y_isub dX8_kindLike_86 <| Y_iret dX8_kindLike_87 rfl k
theorem bX8_fewestOfAll_0 {d : Nat} {g : xSt} {r : Option Value × xSt}  (k : xX (d + 1) mX8_fewestOfAll 4 [some (.ref 76), some (.int 0), some (.int (-1))] [] g = some r) : xX (d + 1) mX8_fewestOfAll 0 [some (.ref 76), none, none] [] g = some r :=
  Y_iconst 0 dX8_fewestOfAll_0 ic_0 <| Y_istore_n dX8_fewestOfAll_1 rfl rfl <| Y_iconst (-1) dX8_fewestOfAll_2 ic_m1 <| Y_istore_n dX8_fewestOfAll_3 rfl rfl <| X_le (xle_s (xle_s (xle_s xle_0))) k
theorem bX8_fewestOfAll_4 {d : Nat} {g : xSt} {r : Option Value × xSt} {a1 a2 : Int32} (k1 : a1 ≤ a2 → xX (d + 1) mX8_fewestOfAll 40 [none, some (.int a1), none] [] g = some r) (k2 : ¬ (a1 ≤ a2) → xX (d + 1) mX8_fewestOfAll 9 [some (.ref 76), some (.int a1), some (.int a2)] [] g = some r) : xX (d + 1) mX8_fewestOfAll 4 [some (.ref 76), some (.int a1), some (.int a2)] [] g = some r :=
  Y_iload_n dX8_fewestOfAll_4 rfl <| Y_iload_n dX8_fewestOfAll_5 rfl <| Y_le 40 dX8_fewestOfAll_6 rfl (fun q => X_le (xle_n (xle_s (xle_n xle_0))) (k1 q)) (fun q => X_le (xle_s (xle_s (xle_s xle_0))) (k2 q))
theorem bX8_fewestOfAll_9 {d : Nat} {g : xSt} {r : Option Value × xSt} {a1 a2 : Int32} (k1 : 12 < a2 → xX (d + 1) mX8_fewestOfAll 40 [none, some (.int a1), none] [] g = some r) (k2 : ¬ (12 < a2) → xX (d + 1) mX8_fewestOfAll 15 [some (.ref 76), none, some (.int a2)] [] g = some r) : xX (d + 1) mX8_fewestOfAll 9 [some (.ref 76), some (.int a1), some (.int a2)] [] g = some r :=
  Y_iload_n dX8_fewestOfAll_9 rfl <| Y_bipush 12 dX8_fewestOfAll_10 bp_12 <| Y_gt 40 dX8_fewestOfAll_12 rfl (fun q => X_le (xle_n (xle_s (xle_n xle_0))) (k1 q)) (fun q => X_le (xle_s (xle_n (xle_s xle_0))) (k2 q))
theorem bX8_fewestOfAll_15 {d : Nat} {g : xSt} {r : Option Value × xSt} {a2 r28 r33 : Int32} {r20 r24 : Int64} {g20 g24 g28 g33 : xSt} (W : xWf g) (hk20 : xCallM d mX8_allLow [.ref 76] g = some (some (.long r20), g20)) (W20 : xWf g20) (hk24 : xCallM d mX8_allHigh [.ref 76] g20 = some (some (.long r24), g24)) (W24 : xWf g24) (hk28 : xCallM d mX8_surePairs [.ref 76] g24 = some (some (.int r28), g28)) (W28 : xWf g28) (hk33 : xCallM d mX8_worstFrom [.ref 76, .long r20, .long r24, .int r28, .int (a2 + 1), .int 0] g28 = some (some (.int r33), g33)) (W33 : xWf g33) (k : xX (d + 1) mX8_fewestOfAll 4 [some (.ref 76), some (.int r33), some (.int (a2 + 1))] [] g33 = some r) : xX (d + 1) mX8_fewestOfAll 15 [some (.ref 76), none, some (.int a2)] [] g = some r :=
  Y_iinc 1 dX8_fewestOfAll_15 rfl ic_1 rfl rfl <| Y_aload_n dX8_fewestOfAll_18 rfl <| Y_aload_n dX8_fewestOfAll_19 rfl <| Y_callV1 dX8_fewestOfAll_20 cl_7_133 rfl rfl (xis W 76 7 s_76 (Nat.le_of_ble_eq_true rfl)) rfl rfl rfl (hk20) <| Y_aload_n dX8_fewestOfAll_23 rfl <| Y_callV1 dX8_fewestOfAll_24 cl_7_137 rfl rfl (xis W20 76 7 s_76 (Nat.le_of_ble_eq_true rfl)) rfl rfl rfl (hk24) <| Y_aload_n dX8_fewestOfAll_27 rfl <| Y_callV1 dX8_fewestOfAll_28 cl_7_140 rfl rfl (xis W24 76 7 s_76 (Nat.le_of_ble_eq_true rfl)) rfl rfl rfl (hk28) <| Y_iload_n dX8_fewestOfAll_31 rfl <| Y_iconst 0 dX8_fewestOfAll_32 ic_0 <| Y_callS1 dX8_fewestOfAll_33 cl_7_143 rfl rfl rfl rfl rfl (hk33) <| Y_istore_n dX8_fewestOfAll_36 rfl rfl <| Y_goto 4 dX8_fewestOfAll_37 rfl <| X_le (xle_s (xle_s (xle_s xle_0))) k
theorem bX8_fewestOfAll_40 {d : Nat} {g : xSt} {r : Option Value × xSt} {a1 : Int32} (k : r = (some (.int a1), g)) : xX (d + 1) mX8_fewestOfAll 40 [none, some (.int a1), none] [] g = some r :=
  Y_iload_n dX8_fewestOfAll_40 rfl <| Y_iret dX8_fewestOfAll_41 rfl k
theorem bX8_allLow_0 {d : Nat} {g : xSt} {r : Option Value × xSt}  (W : xWf g) (k : r = (some (.long ((1 <<< (Int32.toInt64 (imin (xI g 76 2) 60) &&& 63)) - 1)), g)) : xX d mX8_allLow 0 [some (.ref 76)] [] g = some r :=
  Y_lconst 1 dX8_allLow_0 rfl <| Y_aload_n dX8_allLow_1 rfl <| Y_getI dX8_allLow_2 f_7_86 ft_7_2 (xis W 76 7 s_76 (Nat.le_of_ble_eq_true rfl)) <| Y_bipush 60 dX8_allLow_5 bp_60 <| Y_min dX8_allLow_7 km_7_120 kn_7_120 rfl <| Y_lshl dX8_allLow_10 <| Y_lconst 1 dX8_allLow_11 rfl <| Y_lsub dX8_allLow_12 <| Y_lret dX8_allLow_13 rfl k
theorem bX8_allHigh_0 {d : Nat} {g : xSt} {r : Option Value × xSt}  (W : xWf g) (k : r = (some (.long ((1 <<< (Int32.toInt64 (imax ((xI g 76 2) - 60) 0) &&& 63)) - 1)), g)) : xX d mX8_allHigh 0 [some (.ref 76)] [] g = some r :=
  Y_lconst 1 dX8_allHigh_0 rfl <| Y_aload_n dX8_allHigh_1 rfl <| Y_getI dX8_allHigh_2 f_7_86 ft_7_2 (xis W 76 7 s_76 (Nat.le_of_ble_eq_true rfl)) <| Y_bipush 60 dX8_allHigh_5 bp_60 <| Y_isub dX8_allHigh_7 <| Y_iconst 0 dX8_allHigh_8 ic_0 <| Y_max dX8_allHigh_9 km_7_126 kn_7_126 rfl <| Y_lshl dX8_allHigh_12 <| Y_lconst 1 dX8_allHigh_13 rfl <| Y_lsub dX8_allHigh_14 <| Y_lret dX8_allHigh_15 rfl k
theorem bX8_surePairs_0 {d : Nat} {g : xSt} {r : Option Value × xSt}  (k : xX (d + 1) mX8_surePairs 4 [some (.ref 76), some (.int (-1)), some (.int 0)] [] g = some r) : xX (d + 1) mX8_surePairs 0 [some (.ref 76), none, none] [] g = some r :=
  Y_iconst (-1) dX8_surePairs_0 ic_m1 <| Y_istore_n dX8_surePairs_1 rfl rfl <| Y_iconst 0 dX8_surePairs_2 ic_0 <| Y_istore_n dX8_surePairs_3 rfl rfl <| X_le (xle_s (xle_s (xle_s xle_0))) k
theorem bX8_surePairs_4 {d : Nat} {g : xSt} {r : Option Value × xSt} {a1 a2 : Int32} (W : xWf g) (k1 : (xI g 76 2) ≤ a2 → xX (d + 1) mX8_surePairs 29 [some (.ref 76), some (.int a1), none] [] g = some r) (k2 : ¬ ((xI g 76 2) ≤ a2) → xX (d + 1) mX8_surePairs 12 [some (.ref 76), some (.int a1), some (.int a2)] [] g = some r) : xX (d + 1) mX8_surePairs 4 [some (.ref 76), some (.int a1), some (.int a2)] [] g = some r :=
  Y_iload_n dX8_surePairs_4 rfl <| Y_aload_n dX8_surePairs_5 rfl <| Y_getI dX8_surePairs_6 f_7_86 ft_7_2 (xis W 76 7 s_76 (Nat.le_of_ble_eq_true rfl)) <| Y_ge 29 dX8_surePairs_9 rfl (fun q => X_le (xle_s (xle_s (xle_n xle_0))) (k1 q)) (fun q => X_le (xle_s (xle_s (xle_s xle_0))) (k2 q))
theorem bX8_surePairs_12 {d : Nat} {g : xSt} {r : Option Value × xSt} {a1 a2 : Int32} (W : xWf g) (k : xX (d + 1) mX8_surePairs 4 [some (.ref 76), some (.int (a1 &&& (xat (xI g 77) 120 a2))), some (.int (a2 + 1))] [] g = some r) : xX (d + 1) mX8_surePairs 12 [some (.ref 76), some (.int a1), some (.int a2)] [] g = some r :=
  Y_iload_n dX8_surePairs_12 rfl <| Y_aload_n dX8_surePairs_13 rfl <| Y_getR dX8_surePairs_14 f_7_11 (by rw [ft_7_0]; rfl) (xis W 76 7 s_76 (Nat.le_of_ble_eq_true rfl)) (xptr W 76 0 p_76_0) <| Y_iload_n dX8_surePairs_17 rfl <| Y_callS1 dX8_surePairs_18 cl_7_101 rfl rfl rfl rfl rfl (c_at (xarr W (o := 77) s_77 (Nat.le_of_ble_eq_true rfl))) <| Y_iand dX8_surePairs_21 <| Y_istore_n dX8_surePairs_22 rfl rfl <| Y_iinc 1 dX8_surePairs_23 rfl ic_1 rfl rfl <| Y_goto 4 dX8_surePairs_26 rfl <| X_le (xle_s (xle_s (xle_s xle_0))) k
theorem bX8_surePairs_29 {d : Nat} {g : xSt} {r : Option Value × xSt} {a1 r42 : Int32} {g42 : xSt} (W : xWf g) (hk42 : xCallM d mX8_pairs [.ref 76] g = some (some (.int r42), g42)) (W42 : xWf g42) (k : r = (some (.int (((a1 ||| (a1 >>> (10 &&& 31))) ||| (a1 >>> (20 &&& 31))) &&& ((1 <<< (r42 &&& 31)) - 1))), g42)) : xX (d + 1) mX8_surePairs 29 [some (.ref 76), some (.int a1), none] [] g = some r :=
  Y_iload_n dX8_surePairs_29 rfl <| Y_iload_n dX8_surePairs_30 rfl <| Y_bipush 10 dX8_surePairs_31 bp_10 <| Y_ishr dX8_surePairs_33 <| Y_ior dX8_surePairs_34 <| Y_iload_n dX8_surePairs_35 rfl <| Y_bipush 20 dX8_surePairs_36 bp_20 <| Y_ishr dX8_surePairs_38 <| Y_ior dX8_surePairs_39 <| Y_iconst 1 dX8_surePairs_40 ic_1 <| Y_aload_n dX8_surePairs_41 rfl <| Y_callV1 dX8_surePairs_42 cl_7_129 rfl rfl (xis W 76 7 s_76 (Nat.le_of_ble_eq_true rfl)) rfl rfl rfl (hk42) <| Y_ishl dX8_surePairs_45 <| Y_iconst 1 dX8_surePairs_46 ic_1 <| Y_isub dX8_surePairs_47 <| Y_iand dX8_surePairs_48 <| Y_iret dX8_surePairs_49 rfl k
theorem bX8_pairs_0 {d : Nat} {g : xSt} {r : Option Value × xSt}  (W : xWf g) (k : r = (some (.int (((xI g 76 3) * ((xI g 76 3) - 1)) / 2)), g)) : xX d mX8_pairs 0 [some (.ref 76)] [] g = some r :=
  Y_aload_n dX8_pairs_0 rfl <| Y_getI dX8_pairs_1 f_7_52 ft_7_3 (xis W 76 7 s_76 (Nat.le_of_ble_eq_true rfl)) <| Y_aload_n dX8_pairs_4 rfl <| Y_getI dX8_pairs_5 f_7_52 ft_7_3 (xis W 76 7 s_76 (Nat.le_of_ble_eq_true rfl)) <| Y_iconst 1 dX8_pairs_8 ic_1 <| Y_isub dX8_pairs_9 <| Y_imul dX8_pairs_10 <| Y_iconst 2 dX8_pairs_11 ic_2 <| Y_idiv dX8_pairs_12 (by decide) <| Y_iret dX8_pairs_13 rfl k
theorem bX8_worstFrom_0 {d : Nat} {g : xSt} {r : Option Value × xSt} {a1 a3 : Int64} {a5 a6 a7 r3 : Int32} {g3 : xSt} (W : xWf g) (hk3 : xCallM d mX8_isAlike [.ref 76, .long a1, .long a3] g = some (some (.int r3), g3)) (W3 : xWf g3) (k1 : r3 = 0 → xX (d + 1) mX8_worstFrom 11 [some (.ref 76), some (.long a1), none, some (.long a3), none, some (.int a5), some (.int a6), some (.int a7), none, none, none, none, none, none, none] [] g3 = some r) (k2 : ¬ (r3 = 0) → xX (d + 1) mX8_worstFrom 9 [none, none, none, none, none, none, none, none, none, none, none, none, none, none, none] [] g3 = some r) : xX (d + 1) mX8_worstFrom 0 [some (.ref 76), some (.long a1), none, some (.long a3), none, some (.int a5), some (.int a6), some (.int a7), none, none, none, none, none, none, none] [] g = some r :=
  Y_aload_n dX8_worstFrom_0 rfl <| Y_lload_n dX8_worstFrom_1 rfl <| Y_lload_n dX8_worstFrom_2 rfl <| Y_callV1 dX8_worstFrom_3 cl_7_167 rfl rfl (xis W 76 7 s_76 (Nat.le_of_ble_eq_true rfl)) rfl rfl rfl (hk3) <| Y_eq0 11 dX8_worstFrom_6 rfl (fun q => X_le (xle_s (xle_s (xle_n (xle_s (xle_n (xle_s (xle_s (xle_s (xle_n (xle_n (xle_n (xle_n (xle_n (xle_n (xle_n xle_0))))))))))))))) (k1 q)) (fun q => X_le (xle_n (xle_n (xle_n (xle_n (xle_n (xle_n (xle_n (xle_n (xle_n (xle_n (xle_n (xle_n (xle_n (xle_n (xle_n xle_0))))))))))))))) (k2 q))
theorem bX8_worstFrom_9 {d : Nat} {g : xSt} {r : Option Value × xSt}  (k : r = (some (.int 0), g)) : xX (d + 1) mX8_worstFrom 9 [none, none, none, none, none, none, none, none, none, none, none, none, none, none, none] [] g = some r :=
  Y_iconst 0 dX8_worstFrom_9 ic_0 <| Y_iret dX8_worstFrom_10 rfl k
theorem bX8_worstFrom_11 {d : Nat} {g : xSt} {r : Option Value × xSt} {a1 a3 : Int64} {a5 a6 a7 : Int32} (k1 : a7 ≤ 12 → xX (d + 1) mX8_worstFrom 21 [some (.ref 76), some (.long a1), none, some (.long a3), none, some (.int a5), some (.int a6), some (.int a7), none, none, none, none, none, none, none] [] g = some r) (k2 : ¬ (a7 ≤ 12) → xX (d + 1) mX8_worstFrom 18 [none, none, none, none, none, none, none, none, none, none, none, none, none, none, none] [] g = some r) : xX (d + 1) mX8_worstFrom 11 [some (.ref 76), some (.long a1), none, some (.long a3), none, some (.int a5), some (.int a6), some (.int a7), none, none, none, none, none, none, none] [] g = some r :=
  Y_iload dX8_worstFrom_11 rfl <| Y_bipush 12 dX8_worstFrom_13 bp_12 <| Y_le 21 dX8_worstFrom_15 rfl (fun q => X_le (xle_s (xle_s (xle_n (xle_s (xle_n (xle_s (xle_s (xle_s (xle_n (xle_n (xle_n (xle_n (xle_n (xle_n (xle_n xle_0))))))))))))))) (k1 q)) (fun q => X_le (xle_n (xle_n (xle_n (xle_n (xle_n (xle_n (xle_n (xle_n (xle_n (xle_n (xle_n (xle_n (xle_n (xle_n (xle_n xle_0))))))))))))))) (k2 q))
theorem bX8_worstFrom_18 {d : Nat} {g : xSt} {r : Option Value × xSt}  (k : r = (some (.int 1000000), g)) : xX (d + 1) mX8_worstFrom 18 [none, none, none, none, none, none, none, none, none, none, none, none, none, none, none] [] g = some r :=
  Y_ldc dX8_worstFrom_18 ki_7_150 <| Y_iret dX8_worstFrom_20 rfl k
theorem bX8_worstFrom_21 {d : Nat} {g : xSt} {r : Option Value × xSt} {a1 a3 : Int64} {a5 a6 a7 r24 r46 r49 : Int32} {g24 g46 g49 : xSt} (W : xWf g) (hk24 : xCallM d mX8_slotOf [.ref 76, .long a1, .long a3] g = some (some (.int r24), g24)) (W24 : xWf g24) (hk46 : xCallM d mX8_joinsFor [.ref 76, .int a5] g24 = some (some (.int r46), g46)) (W46 : xWf g46) (hk49 : xCallM d mX8_leastWorst [.ref 76, .long a1, .long a3, .int r46] g46 = some (some (.int r49), g49)) (W49 : xWf g49) (k1 : 0 < (xat (xI g24 86) 4096 r24) → xX (d + 1) mX8_worstFrom 72 [none, none, none, none, none, none, none, none, none, some (.int (xat (xI g24 86) 4096 r24)), some (.int (imax r49 (-(xat (xI g24 86) 4096 r24)))), none, none, none, none] [] g49 = some r) (k2 : ¬ (0 < (xat (xI g24 86) 4096 r24)) → xX (d + 1) mX8_worstFrom 65 [some (.ref 76), some (.long a1), none, some (.long a3), none, some (.int a5), some (.int a6), some (.int a7), some (.int r24), some (.int (xat (xI g24 86) 4096 r24)), some (.int (imax r49 (-(xat (xI g24 86) 4096 r24)))), none, none, none, none] [] g49 = some r) : xX (d + 1) mX8_worstFrom 21 [some (.ref 76), some (.long a1), none, some (.long a3), none, some (.int a5), some (.int a6), some (.int a7), none, none, none, none, none, none, none] [] g = some r :=
  Y_aload_n dX8_worstFrom_21 rfl <| Y_lload_n dX8_worstFrom_22 rfl <| Y_lload_n dX8_worstFrom_23 rfl <| Y_callV1 dX8_worstFrom_24 cl_7_171 rfl rfl (xis W 76 7 s_76 (Nat.le_of_ble_eq_true rfl)) rfl rfl rfl (hk24) <| Y_istore dX8_worstFrom_27 rfl rfl <| Y_aload_n dX8_worstFrom_29 rfl <| Y_getR dX8_worstFrom_30 f_7_42 (by rw [ft_7_18]; rfl) (xis W24 76 7 s_76 (Nat.le_of_ble_eq_true rfl)) (xptr W24 76 18 p_76_18) <| Y_iload dX8_worstFrom_33 rfl <| Y_callS1 dX8_worstFrom_35 cl_7_101 rfl rfl rfl rfl rfl (c_at (xarr W24 (o := 86) s_86 (Nat.le_of_ble_eq_true rfl))) <| Y_istore dX8_worstFrom_38 rfl rfl <| Y_aload_n dX8_worstFrom_40 rfl <| Y_lload_n dX8_worstFrom_41 rfl <| Y_lload_n dX8_worstFrom_42 rfl <| Y_aload_n dX8_worstFrom_43 rfl <| Y_iload dX8_worstFrom_44 rfl <| Y_callV1 dX8_worstFrom_46 cl_7_175 rfl rfl (xis W24 76 7 s_76 (Nat.le_of_ble_eq_true rfl)) rfl rfl rfl (hk46) <| Y_callV1 dX8_worstFrom_49 cl_7_178 rfl rfl (xis W46 76 7 s_76 (Nat.le_of_ble_eq_true rfl)) rfl rfl rfl (hk49) <| Y_iload dX8_worstFrom_52 rfl <| Y_ineg dX8_worstFrom_54 <| Y_max dX8_worstFrom_55 km_7_126 kn_7_126 rfl <| Y_istore dX8_worstFrom_58 rfl rfl <| Y_iload dX8_worstFrom_60 rfl <| Y_gt0 72 dX8_worstFrom_62 rfl (fun q => X_le (xle_n (xle_n (xle_n (xle_n (xle_n (xle_n (xle_n (xle_n (xle_n (xle_s (xle_s (xle_n (xle_n (xle_n (xle_n xle_0))))))))))))))) (k1 q)) (fun q => X_le (xle_s (xle_s (xle_n (xle_s (xle_n (xle_s (xle_s (xle_s (xle_s (xle_s (xle_s (xle_n (xle_n (xle_n (xle_n xle_0))))))))))))))) (k2 q))
theorem bX8_worstFrom_65 {d : Nat} {g : xSt} {r : Option Value × xSt} {a1 a3 : Int64} {a5 a6 a7 a8 a9 a10 : Int32} (k1 : a10 ≤ a6 → xX (d + 1) mX8_worstFrom 85 [some (.ref 76), some (.long a1), none, some (.long a3), none, some (.int a5), some (.int a6), some (.int a7), some (.int a8), none, some (.int a10), none, none, none, none] [] g = some r) (k2 : ¬ (a10 ≤ a6) → xX (d + 1) mX8_worstFrom 72 [none, none, none, none, none, none, none, none, none, some (.int a9), some (.int a10), none, none, none, none] [] g = some r) : xX (d + 1) mX8_worstFrom 65 [some (.ref 76), some (.long a1), none, some (.long a3), none, some (.int a5), some (.int a6), some (.int a7), some (.int a8), some (.int a9), some (.int a10), none, none, none, none] [] g = some r :=
  Y_iload dX8_worstFrom_65 rfl <| Y_iload dX8_worstFrom_67 rfl <| Y_le 85 dX8_worstFrom_69 rfl (fun q => X_le (xle_s (xle_s (xle_n (xle_s (xle_n (xle_s (xle_s (xle_s (xle_s (xle_n (xle_s (xle_n (xle_n (xle_n (xle_n xle_0))))))))))))))) (k1 q)) (fun q => X_le (xle_n (xle_n (xle_n (xle_n (xle_n (xle_n (xle_n (xle_n (xle_n (xle_s (xle_s (xle_n (xle_n (xle_n (xle_n xle_0))))))))))))))) (k2 q))
theorem bX8_worstFrom_72 {d : Nat} {g : xSt} {r : Option Value × xSt} {a9 a10 : Int32} (k1 : a9 ≤ 0 → xX (d + 1) mX8_worstFrom 82 [none, none, none, none, none, none, none, none, none, none, some (.int a10), none, none, none, none] [] g = some r) (k2 : ¬ (a9 ≤ 0) → xX (d + 1) mX8_worstFrom 77 [none, none, none, none, none, none, none, none, none, some (.int a9), none, none, none, none, none] [] g = some r) : xX (d + 1) mX8_worstFrom 72 [none, none, none, none, none, none, none, none, none, some (.int a9), some (.int a10), none, none, none, none] [] g = some r :=
  Y_iload dX8_worstFrom_72 rfl <| Y_le0 82 dX8_worstFrom_74 rfl (fun q => X_le (xle_n (xle_n (xle_n (xle_n (xle_n (xle_n (xle_n (xle_n (xle_n (xle_n (xle_s (xle_n (xle_n (xle_n (xle_n xle_0))))))))))))))) (k1 q)) (fun q => X_le (xle_n (xle_n (xle_n (xle_n (xle_n (xle_n (xle_n (xle_n (xle_n (xle_s (xle_n (xle_n (xle_n (xle_n (xle_n xle_0))))))))))))))) (k2 q))
theorem bX8_worstFrom_77 {d : Nat} {g : xSt} {r : Option Value × xSt} {a9 : Int32} (k : xX (d + 1) mX8_worstFrom 84 [none, none, none, none, none, none, none, none, none, none, none, none, none, none, none] [.int a9] g = some r) : xX (d + 1) mX8_worstFrom 77 [none, none, none, none, none, none, none, none, none, some (.int a9), none, none, none, none, none] [] g = some r :=
  Y_iload dX8_worstFrom_77 rfl <| Y_goto 84 dX8_worstFrom_79 rfl <| X_le (xle_n (xle_n (xle_n (xle_n (xle_n (xle_n (xle_n (xle_n (xle_n (xle_n (xle_n (xle_n (xle_n (xle_n (xle_n xle_0))))))))))))))) k
theorem bX8_worstFrom_82 {d : Nat} {g : xSt} {r : Option Value × xSt} {a10 : Int32} (k : xX (d + 1) mX8_worstFrom 84 [none, none, none, none, none, none, none, none, none, none, none, none, none, none, none] [.int a10] g = some r) : xX (d + 1) mX8_worstFrom 82 [none, none, none, none, none, none, none, none, none, none, some (.int a10), none, none, none, none] [] g = some r :=
  Y_iload dX8_worstFrom_82 rfl <| X_le (xle_n (xle_n (xle_n (xle_n (xle_n (xle_n (xle_n (xle_n (xle_n (xle_n (xle_n (xle_n (xle_n (xle_n (xle_n xle_0))))))))))))))) k
theorem bX8_worstFrom_84 {d : Nat} {g : xSt} {r : Option Value × xSt} {s0 : Int32} (k : r = (some (.int s0), g)) : xX (d + 1) mX8_worstFrom 84 [none, none, none, none, none, none, none, none, none, none, none, none, none, none, none] [.int s0] g = some r :=
  Y_iret dX8_worstFrom_84 rfl k
theorem bX8_worstFrom_85 {d : Nat} {g : xSt} {r : Option Value × xSt} {a1 a3 : Int64} {a5 a6 a7 a8 a10 r92 : Int32} {g92 : xSt} (W : xWf g) (hk92 : xCallM d mX8_freeThings [.ref 76, .int a5] g = some (some (.int r92), g92)) (W92 : xWf g92) (k : xX (d + 1) mX8_worstFrom 100 [some (.ref 76), some (.long a1), none, some (.long a3), none, some (.int a5), some (.int a6), some (.int a7), some (.int a8), none, some (.int a10), some (.int 1000000), some (.int r92), some (.int 0), none] [] g92 = some r) : xX (d + 1) mX8_worstFrom 85 [some (.ref 76), some (.long a1), none, some (.long a3), none, some (.int a5), some (.int a6), some (.int a7), some (.int a8), none, some (.int a10), none, none, none, none] [] g = some r :=
  Y_ldc dX8_worstFrom_85 ki_7_150 <| Y_istore dX8_worstFrom_87 rfl rfl <| Y_aload_n dX8_worstFrom_89 rfl <| Y_iload dX8_worstFrom_90 rfl <| Y_callV1 dX8_worstFrom_92 cl_7_182 rfl rfl (xis W 76 7 s_76 (Nat.le_of_ble_eq_true rfl)) rfl rfl rfl (hk92) <| Y_istore dX8_worstFrom_95 rfl rfl <| Y_iconst 0 dX8_worstFrom_97 ic_0 <| Y_istore dX8_worstFrom_98 rfl rfl <| X_le (xle_s (xle_s (xle_n (xle_s (xle_n (xle_s (xle_s (xle_s (xle_s (xle_n (xle_s (xle_s (xle_s (xle_s (xle_n xle_0))))))))))))))) k
theorem bX8_worstFrom_100 {d : Nat} {g : xSt} {r : Option Value × xSt} {a1 a3 : Int64} {a5 a6 a7 a8 a10 a11 a12 a13 r103 : Int32} {g103 : xSt} (W : xWf g) (hk103 : xCallM d mX8_pairs [.ref 76] g = some (some (.int r103), g103)) (W103 : xWf g103) (k1 : r103 ≤ a13 → xX (d + 1) mX8_worstFrom 165 [some (.ref 76), none, none, none, none, none, some (.int a6), none, some (.int a8), none, none, some (.int a11), none, none, none] [] g103 = some r) (k2 : ¬ (r103 ≤ a13) → xX (d + 1) mX8_worstFrom 109 [some (.ref 76), some (.long a1), none, some (.long a3), none, some (.int a5), some (.int a6), some (.int a7), some (.int a8), none, some (.int a10), some (.int a11), some (.int a12), some (.int a13), none] [] g103 = some r) : xX (d + 1) mX8_worstFrom 100 [some (.ref 76), some (.long a1), none, some (.long a3), none, some (.int a5), some (.int a6), some (.int a7), some (.int a8), none, some (.int a10), some (.int a11), some (.int a12), some (.int a13), none] [] g = some r :=
  Y_iload dX8_worstFrom_100 rfl <| Y_aload_n dX8_worstFrom_102 rfl <| Y_callV1 dX8_worstFrom_103 cl_7_129 rfl rfl (xis W 76 7 s_76 (Nat.le_of_ble_eq_true rfl)) rfl rfl rfl (hk103) <| Y_ge 165 dX8_worstFrom_106 rfl (fun q => X_le (xle_s (xle_n (xle_n (xle_n (xle_n (xle_n (xle_s (xle_n (xle_s (xle_n (xle_n (xle_s (xle_n (xle_n (xle_n xle_0))))))))))))))) (k1 q)) (fun q => X_le (xle_s (xle_s (xle_n (xle_s (xle_n (xle_s (xle_s (xle_s (xle_s (xle_n (xle_s (xle_s (xle_s (xle_s (xle_n xle_0))))))))))))))) (k2 q))
theorem bX8_worstFrom_109 {d : Nat} {g : xSt} {r : Option Value × xSt} {a1 a3 : Int64} {a5 a6 a7 a8 a10 a11 a12 a13 : Int32} (k1 : a11 ≤ a10 → xX (d + 1) mX8_worstFrom 165 [some (.ref 76), none, none, none, none, none, some (.int a6), none, some (.int a8), none, none, some (.int a11), none, none, none] [] g = some r) (k2 : ¬ (a11 ≤ a10) → xX (d + 1) mX8_worstFrom 116 [some (.ref 76), some (.long a1), none, some (.long a3), none, some (.int a5), some (.int a6), some (.int a7), some (.int a8), none, some (.int a10), some (.int a11), some (.int a12), some (.int a13), none] [] g = some r) : xX (d + 1) mX8_worstFrom 109 [some (.ref 76), some (.long a1), none, some (.long a3), none, some (.int a5), some (.int a6), some (.int a7), some (.int a8), none, some (.int a10), some (.int a11), some (.int a12), some (.int a13), none] [] g = some r :=
  Y_iload dX8_worstFrom_109 rfl <| Y_iload dX8_worstFrom_111 rfl <| Y_le 165 dX8_worstFrom_113 rfl (fun q => X_le (xle_s (xle_n (xle_n (xle_n (xle_n (xle_n (xle_s (xle_n (xle_s (xle_n (xle_n (xle_s (xle_n (xle_n (xle_n xle_0))))))))))))))) (k1 q)) (fun q => X_le (xle_s (xle_s (xle_n (xle_s (xle_n (xle_s (xle_s (xle_s (xle_s (xle_n (xle_s (xle_s (xle_s (xle_s (xle_n xle_0))))))))))))))) (k2 q))
theorem bX8_worstFrom_116 {d : Nat} {g : xSt} {r : Option Value × xSt} {a1 a3 : Int64} {a5 a6 a7 a8 a10 a11 a12 a13 r121 : Int32} {g121 : xSt} (W : xWf g) (hk121 : xCallM d mX8_isFirstLike [.ref 76, .int a13, .int a12] g = some (some (.int r121), g121)) (W121 : xWf g121) (k1 : r121 = 0 → xX (d + 1) mX8_worstFrom 159 [some (.ref 76), some (.long a1), none, some (.long a3), none, some (.int a5), some (.int a6), some (.int a7), some (.int a8), none, some (.int a10), some (.int a11), some (.int a12), some (.int a13), none] [] g121 = some r) (k2 : ¬ (r121 = 0) → xX (d + 1) mX8_worstFrom 127 [some (.ref 76), some (.long a1), none, some (.long a3), none, some (.int a5), some (.int a6), some (.int a7), some (.int a8), none, some (.int a10), some (.int a11), some (.int a12), some (.int a13), none] [] g121 = some r) : xX (d + 1) mX8_worstFrom 116 [some (.ref 76), some (.long a1), none, some (.long a3), none, some (.int a5), some (.int a6), some (.int a7), some (.int a8), none, some (.int a10), some (.int a11), some (.int a12), some (.int a13), none] [] g = some r :=
  Y_aload_n dX8_worstFrom_116 rfl <| Y_iload dX8_worstFrom_117 rfl <| Y_iload dX8_worstFrom_119 rfl <| Y_callV1 dX8_worstFrom_121 cl_7_185 rfl rfl (xis W 76 7 s_76 (Nat.le_of_ble_eq_true rfl)) rfl rfl rfl (hk121) <| Y_eq0 159 dX8_worstFrom_124 rfl (fun q => X_le (xle_s (xle_s (xle_n (xle_s (xle_n (xle_s (xle_s (xle_s (xle_s (xle_n (xle_s (xle_s (xle_s (xle_s (xle_n xle_0))))))))))))))) (k1 q)) (fun q => X_le (xle_s (xle_s (xle_n (xle_s (xle_n (xle_s (xle_s (xle_s (xle_s (xle_n (xle_s (xle_s (xle_s (xle_s (xle_n xle_0))))))))))))))) (k2 q))
theorem bX8_worstFrom_127 {d : Nat} {g : xSt} {r : Option Value × xSt} {a1 a3 : Int64} {a5 a6 a7 a8 a10 a11 a12 a13 r151 : Int32} {g151 : xSt} (hk151 : xCallM d mX8_worstBehind [.ref 76, .int a13, .long a1, .long a3, .int a5, .int (imin a6 (a11 - 1)), .int a7] g = some (some (.int r151), g151)) (W151 : xWf g151) (k : xX (d + 1) mX8_worstFrom 159 [some (.ref 76), some (.long a1), none, some (.long a3), none, some (.int a5), some (.int a6), some (.int a7), some (.int a8), none, some (.int a10), some (.int (imin a11 r151)), some (.int a12), some (.int a13), none] [] g151 = some r) : xX (d + 1) mX8_worstFrom 127 [some (.ref 76), some (.long a1), none, some (.long a3), none, some (.int a5), some (.int a6), some (.int a7), some (.int a8), none, some (.int a10), some (.int a11), some (.int a12), some (.int a13), none] [] g = some r :=
  Y_iload dX8_worstFrom_127 rfl <| Y_iload dX8_worstFrom_129 rfl <| Y_iconst 1 dX8_worstFrom_131 ic_1 <| Y_isub dX8_worstFrom_132 <| Y_min dX8_worstFrom_133 km_7_120 kn_7_120 rfl <| Y_istore dX8_worstFrom_136 rfl rfl <| Y_iload dX8_worstFrom_138 rfl <| Y_aload_n dX8_worstFrom_140 rfl <| Y_iload dX8_worstFrom_141 rfl <| Y_lload_n dX8_worstFrom_143 rfl <| Y_lload_n dX8_worstFrom_144 rfl <| Y_iload dX8_worstFrom_145 rfl <| Y_iload dX8_worstFrom_147 rfl <| Y_iload dX8_worstFrom_149 rfl <| Y_callS1 dX8_worstFrom_151 cl_7_154 rfl rfl rfl rfl rfl (hk151) <| Y_min dX8_worstFrom_154 km_7_120 kn_7_120 rfl <| Y_istore dX8_worstFrom_157 rfl rfl <| X_le (xle_s (xle_s (xle_n (xle_s (xle_n (xle_s (xle_s (xle_s (xle_s (xle_n (xle_s (xle_s (xle_s (xle_s (xle_n xle_0))))))))))))))) k
theorem bX8_worstFrom_159 {d : Nat} {g : xSt} {r : Option Value × xSt} {a1 a3 : Int64} {a5 a6 a7 a8 a10 a11 a12 a13 : Int32} (k : xX (d + 1) mX8_worstFrom 100 [some (.ref 76), some (.long a1), none, some (.long a3), none, some (.int a5), some (.int a6), some (.int a7), some (.int a8), none, some (.int a10), some (.int a11), some (.int a12), some (.int (a13 + 1)), none] [] g = some r) : xX (d + 1) mX8_worstFrom 159 [some (.ref 76), some (.long a1), none, some (.long a3), none, some (.int a5), some (.int a6), some (.int a7), some (.int a8), none, some (.int a10), some (.int a11), some (.int a12), some (.int a13), none] [] g = some r :=
  Y_iinc 1 dX8_worstFrom_159 rfl ic_1 rfl rfl <| Y_goto 100 dX8_worstFrom_162 rfl <| X_le (xle_s (xle_s (xle_n (xle_s (xle_n (xle_s (xle_s (xle_s (xle_s (xle_n (xle_s (xle_s (xle_s (xle_s (xle_n xle_0))))))))))))))) k
theorem bX8_worstFrom_165 {d : Nat} {g : xSt} {r : Option Value × xSt} {a6 a8 a11 : Int32} (W : xWf g) (k1 : a6 < a11 → xX (d + 1) mX8_worstFrom 183 [none, none, none, none, none, none, none, none, none, none, none, some (.int a11), none, none, none] [.int a8, .ref 86] g = some r) (k2 : ¬ (a6 < a11) → xX (d + 1) mX8_worstFrom 178 [none, none, none, none, none, none, none, none, none, none, none, some (.int a11), none, none, none] [.int a8, .ref 86] g = some r) : xX (d + 1) mX8_worstFrom 165 [some (.ref 76), none, none, none, none, none, some (.int a6), none, some (.int a8), none, none, some (.int a11), none, none, none] [] g = some r :=
  Y_aload_n dX8_worstFrom_165 rfl <| Y_getR dX8_worstFrom_166 f_7_42 (by rw [ft_7_18]; rfl) (xis W 76 7 s_76 (Nat.le_of_ble_eq_true rfl)) (xptr W 76 18 p_76_18) <| Y_iload dX8_worstFrom_169 rfl <| Y_iload dX8_worstFrom_171 rfl <| Y_iload dX8_worstFrom_173 rfl <| Y_gt 183 dX8_worstFrom_175 rfl (fun q => X_le (xle_n (xle_n (xle_n (xle_n (xle_n (xle_n (xle_n (xle_n (xle_n (xle_n (xle_n (xle_s (xle_n (xle_n (xle_n xle_0))))))))))))))) (k1 q)) (fun q => X_le (xle_n (xle_n (xle_n (xle_n (xle_n (xle_n (xle_n (xle_n (xle_n (xle_n (xle_n (xle_s (xle_n (xle_n (xle_n xle_0))))))))))))))) (k2 q))
theorem bX8_worstFrom_178 {d : Nat} {g : xSt} {r : Option Value × xSt} {a11 s0 : Int32} (k : xX (d + 1) mX8_worstFrom 186 [none, none, none, none, none, none, none, none, none, none, none, some (.int a11), none, none, none] [.int a11, .int s0, .ref 86] g = some r) : xX (d + 1) mX8_worstFrom 178 [none, none, none, none, none, none, none, none, none, none, none, some (.int a11), none, none, none] [.int s0, .ref 86] g = some r :=
  Y_iload dX8_worstFrom_178 rfl <| Y_goto 186 dX8_worstFrom_180 rfl <| X_le (xle_n (xle_n (xle_n (xle_n (xle_n (xle_n (xle_n (xle_n (xle_n (xle_n (xle_n (xle_s (xle_n (xle_n (xle_n xle_0))))))))))))))) k
theorem bX8_worstFrom_183 {d : Nat} {g : xSt} {r : Option Value × xSt} {a11 s0 : Int32} (k : xX (d + 1) mX8_worstFrom 186 [none, none, none, none, none, none, none, none, none, none, none, some (.int a11), none, none, none] [.int (-a11), .int s0, .ref 86] g = some r) : xX (d + 1) mX8_worstFrom 183 [none, none, none, none, none, none, none, none, none, none, none, some (.int a11), none, none, none] [.int s0, .ref 86] g = some r :=
  Y_iload dX8_worstFrom_183 rfl <| Y_ineg dX8_worstFrom_185 <| X_le (xle_n (xle_n (xle_n (xle_n (xle_n (xle_n (xle_n (xle_n (xle_n (xle_n (xle_n (xle_s (xle_n (xle_n (xle_n xle_0))))))))))))))) k
theorem bX8_worstFrom_186 {d : Nat} {g : xSt} {r : Option Value × xSt} {a11 s1 s0 : Int32} (W : xWf g) (k : r = (some (.int a11), xput g 86 4096 s1 s0)) : xX (d + 1) mX8_worstFrom 186 [none, none, none, none, none, none, none, none, none, none, none, some (.int a11), none, none, none] [.int s0, .int s1, .ref 86] g = some r :=
  Y_callS0 dX8_worstFrom_186 cl_7_82 rfl rfl rfl rfl rfl (c_put (xarr W (o := 86) s_86 (Nat.le_of_ble_eq_true rfl))) <| Y_iload dX8_worstFrom_189 rfl <| Y_iret dX8_worstFrom_191 rfl k
theorem bX8_isAlike_0 {d : Nat} {g : xSt} {r : Option Value × xSt} {a1 a3 : Int64} (k1 : (lg_cmp a1 0) = 0 → xX (d + 2) mX8_isAlike 6 [some (.ref 76), some (.long a1), none, some (.long a3), none, none, none] [] g = some r) (k2 : ¬ ((lg_cmp a1 0) = 0) → xX (d + 2) mX8_isAlike 14 [some (.ref 76), some (.long a1), none, some (.long a3), none, none, none] [] g = some r) : xX (d + 2) mX8_isAlike 0 [some (.ref 76), some (.long a1), none, some (.long a3), none, none, none] [] g = some r :=
  Y_lload_n dX8_isAlike_0 rfl <| Y_lconst 0 dX8_isAlike_1 rfl <| Y_lcmp dX8_isAlike_2 <| Y_ne0 14 dX8_isAlike_3 rfl (fun q => X_le (xle_s (xle_s (xle_n (xle_s (xle_n (xle_n (xle_n xle_0))))))) (k1 q)) (fun q => X_le (xle_s (xle_s (xle_n (xle_s (xle_n (xle_n (xle_n xle_0))))))) (k2 q))
theorem bX8_isAlike_6 {d : Nat} {g : xSt} {r : Option Value × xSt} {a1 a3 : Int64} (k1 : (lg_cmp a3 0) = 0 → xX (d + 2) mX8_isAlike 12 [none, none, none, none, none, none, none] [] g = some r) (k2 : ¬ ((lg_cmp a3 0) = 0) → xX (d + 2) mX8_isAlike 14 [some (.ref 76), some (.long a1), none, some (.long a3), none, none, none] [] g = some r) : xX (d + 2) mX8_isAlike 6 [some (.ref 76), some (.long a1), none, some (.long a3), none, none, none] [] g = some r :=
  Y_lload_n dX8_isAlike_6 rfl <| Y_lconst 0 dX8_isAlike_7 rfl <| Y_lcmp dX8_isAlike_8 <| Y_ne0 14 dX8_isAlike_9 rfl (fun q => X_le (xle_n (xle_n (xle_n (xle_n (xle_n (xle_n (xle_n xle_0))))))) (k1 q)) (fun q => X_le (xle_s (xle_s (xle_n (xle_s (xle_n (xle_n (xle_n xle_0))))))) (k2 q))
theorem bX8_isAlike_12 {d : Nat} {g : xSt} {r : Option Value × xSt}  (k : r = (some (.int 1), g)) : xX (d + 2) mX8_isAlike 12 [none, none, none, none, none, none, none] [] g = some r :=
  Y_iconst 1 dX8_isAlike_12 ic_1 <| Y_zret dX8_isAlike_13 rfl (by decide) k
theorem bX8_isAlike_14 {d : Nat} {g : xSt} {r : Option Value × xSt} {a1 a3 : Int64} (k1 : (lg_cmp a1 0) = 0 → xX (d + 2) mX8_isAlike 27 [some (.ref 76), some (.long a1), none, some (.long a3), none, none, none] [] g = some r) (k2 : ¬ ((lg_cmp a1 0) = 0) → xX (d + 2) mX8_isAlike 20 [some (.ref 76), some (.long a1), none, some (.long a3), none, none, none] [] g = some r) : xX (d + 2) mX8_isAlike 14 [some (.ref 76), some (.long a1), none, some (.long a3), none, none, none] [] g = some r :=
  Y_lload_n dX8_isAlike_14 rfl <| Y_lconst 0 dX8_isAlike_15 rfl <| Y_lcmp dX8_isAlike_16 <| Y_eq0 27 dX8_isAlike_17 rfl (fun q => X_le (xle_s (xle_s (xle_n (xle_s (xle_n (xle_n (xle_n xle_0))))))) (k1 q)) (fun q => X_le (xle_s (xle_s (xle_n (xle_s (xle_n (xle_n (xle_n xle_0))))))) (k2 q))
theorem bX8_isAlike_20 {d : Nat} {g : xSt} {r : Option Value × xSt} {a1 a3 : Int64} (k : xX (d + 2) mX8_isAlike 34 [some (.ref 76), some (.long a1), none, some (.long a3), none, none, none] [.int (xlow a1)] g = some r) : xX (d + 2) mX8_isAlike 20 [some (.ref 76), some (.long a1), none, some (.long a3), none, none, none] [] g = some r :=
  Y_lload_n dX8_isAlike_20 rfl <| Y_callS1 dX8_isAlike_21 cl_7_197 rfl rfl rfl rfl rfl (c_xlow) <| Y_goto 34 dX8_isAlike_24 rfl <| X_le (xle_s (xle_s (xle_n (xle_s (xle_n (xle_n (xle_n xle_0))))))) k
theorem bX8_isAlike_27 {d : Nat} {g : xSt} {r : Option Value × xSt} {a1 a3 : Int64} (k : xX (d + 2) mX8_isAlike 34 [some (.ref 76), some (.long a1), none, some (.long a3), none, none, none] [.int (60 + (xlow a3))] g = some r) : xX (d + 2) mX8_isAlike 27 [some (.ref 76), some (.long a1), none, some (.long a3), none, none, none] [] g = some r :=
  Y_bipush 60 dX8_isAlike_27 bp_60 <| Y_lload_n dX8_isAlike_29 rfl <| Y_callS1 dX8_isAlike_30 cl_7_197 rfl rfl rfl rfl rfl (c_xlow) <| Y_iadd dX8_isAlike_33 <| X_le (xle_s (xle_s (xle_n (xle_s (xle_n (xle_n (xle_n xle_0))))))) k
theorem bX8_isAlike_34 {d : Nat} {g : xSt} {r : Option Value × xSt} {a1 a3 : Int64} {s0 : Int32} (W : xWf g) (k1 : (lg_cmp (a1 &&& ((xatL (xL g 80) 240 (2 * (xat (xI g 79) 120 s0))) ^^^ (-1))) 0) = 0 → xX (d + 2) mX8_isAlike 69 [some (.ref 76), none, none, some (.long a3), none, none, some (.int (xat (xI g 79) 120 s0))] [] g = some r) (k2 : ¬ ((lg_cmp (a1 &&& ((xatL (xL g 80) 240 (2 * (xat (xI g 79) 120 s0))) ^^^ (-1))) 0) = 0) → xX (d + 2) mX8_isAlike 97 [none, none, none, none, none, none, none] [] g = some r) : xX (d + 2) mX8_isAlike 34 [some (.ref 76), some (.long a1), none, some (.long a3), none, none, none] [.int s0] g = some r :=
  Y_istore dX8_isAlike_34 rfl rfl <| Y_aload_n dX8_isAlike_36 rfl <| Y_getR dX8_isAlike_37 f_7_18 (by rw [ft_7_10]; rfl) (xis W 76 7 s_76 (Nat.le_of_ble_eq_true rfl)) (xptr W 76 10 p_76_10) <| Y_iload dX8_isAlike_40 rfl <| Y_callS1 dX8_isAlike_42 cl_7_101 rfl rfl rfl rfl rfl (c_at (xarr W (o := 79) s_79 (Nat.le_of_ble_eq_true rfl))) <| Y_istore dX8_isAlike_45 rfl rfl <| Y_lload_n dX8_isAlike_47 rfl <| Y_aload_n dX8_isAlike_48 rfl <| Y_getR dX8_isAlike_49 f_7_21 (by rw [ft_7_11]; rfl) (xis W 76 7 s_76 (Nat.le_of_ble_eq_true rfl)) (xptr W 76 11 p_76_11) <| Y_iconst 2 dX8_isAlike_52 ic_2 <| Y_iload dX8_isAlike_53 rfl <| Y_imul dX8_isAlike_55 <| Y_callS1 dX8_isAlike_56 cl_7_117 rfl rfl rfl rfl rfl (c_atL (xarr W (o := 80) s_80 (Nat.le_of_ble_eq_true rfl))) <| Y_ldc2 dX8_isAlike_59 kl_7_200 <| Y_lxor dX8_isAlike_62 <| Y_land dX8_isAlike_63 <| Y_lconst 0 dX8_isAlike_64 rfl <| Y_lcmp dX8_isAlike_65 <| Y_ne0 97 dX8_isAlike_66 rfl (fun q => X_le (xle_s (xle_n (xle_n (xle_s (xle_n (xle_n (xle_s xle_0))))))) (k1 q)) (fun q => X_le (xle_n (xle_n (xle_n (xle_n (xle_n (xle_n (xle_n xle_0))))))) (k2 q))
theorem bX8_isAlike_69 {d : Nat} {g : xSt} {r : Option Value × xSt} {a3 : Int64} {a6 : Int32} (W : xWf g) (k1 : (lg_cmp (a3 &&& ((xatL (xL g 80) 240 ((2 * a6) + 1)) ^^^ (-1))) 0) = 0 → xX (d + 2) mX8_isAlike 93 [none, none, none, none, none, none, none] [] g = some r) (k2 : ¬ ((lg_cmp (a3 &&& ((xatL (xL g 80) 240 ((2 * a6) + 1)) ^^^ (-1))) 0) = 0) → xX (d + 2) mX8_isAlike 97 [none, none, none, none, none, none, none] [] g = some r) : xX (d + 2) mX8_isAlike 69 [some (.ref 76), none, none, some (.long a3), none, none, some (.int a6)] [] g = some r :=
  Y_lload_n dX8_isAlike_69 rfl <| Y_aload_n dX8_isAlike_70 rfl <| Y_getR dX8_isAlike_71 f_7_21 (by rw [ft_7_11]; rfl) (xis W 76 7 s_76 (Nat.le_of_ble_eq_true rfl)) (xptr W 76 11 p_76_11) <| Y_iconst 2 dX8_isAlike_74 ic_2 <| Y_iload dX8_isAlike_75 rfl <| Y_imul dX8_isAlike_77 <| Y_iconst 1 dX8_isAlike_78 ic_1 <| Y_iadd dX8_isAlike_79 <| Y_callS1 dX8_isAlike_80 cl_7_117 rfl rfl rfl rfl rfl (c_atL (xarr W (o := 80) s_80 (Nat.le_of_ble_eq_true rfl))) <| Y_ldc2 dX8_isAlike_83 kl_7_200 <| Y_lxor dX8_isAlike_86 <| Y_land dX8_isAlike_87 <| Y_lconst 0 dX8_isAlike_88 rfl <| Y_lcmp dX8_isAlike_89 <| Y_ne0 97 dX8_isAlike_90 rfl (fun q => X_le (xle_n (xle_n (xle_n (xle_n (xle_n (xle_n (xle_n xle_0))))))) (k1 q)) (fun q => X_le (xle_n (xle_n (xle_n (xle_n (xle_n (xle_n (xle_n xle_0))))))) (k2 q))
theorem bX8_isAlike_93 {d : Nat} {g : xSt} {r : Option Value × xSt}  (k : xX (d + 2) mX8_isAlike 98 [none, none, none, none, none, none, none] [.int 1] g = some r) : xX (d + 2) mX8_isAlike 93 [none, none, none, none, none, none, none] [] g = some r :=
  Y_iconst 1 dX8_isAlike_93 ic_1 <| Y_goto 98 dX8_isAlike_94 rfl <| X_le (xle_n (xle_n (xle_n (xle_n (xle_n (xle_n (xle_n xle_0))))))) k
theorem bX8_isAlike_97 {d : Nat} {g : xSt} {r : Option Value × xSt}  (k : xX (d + 2) mX8_isAlike 98 [none, none, none, none, none, none, none] [.int 0] g = some r) : xX (d + 2) mX8_isAlike 97 [none, none, none, none, none, none, none] [] g = some r :=
  Y_iconst 0 dX8_isAlike_97 ic_0 <| X_le (xle_n (xle_n (xle_n (xle_n (xle_n (xle_n (xle_n xle_0))))))) k
theorem bX8_isAlike_98 {d : Nat} {g : xSt} {r : Option Value × xSt} {s0 : Int32} (hz98 : s0 = 0 ∨ s0 = 1) (k : r = (some (.int s0), g)) : xX (d + 2) mX8_isAlike 98 [none, none, none, none, none, none, none] [.int s0] g = some r :=
  Y_zret dX8_isAlike_98 rfl (hz98) k
theorem bX8_slotOf_0 {d : Nat} {g : xSt} {r : Option Value × xSt} {a1 a3 : Int64} (k : xX (d + 1) mX8_slotOf 28 [some (.ref 76), some (.long a1), none, some (.long a3), none, none, none, some (.int ((Int64.toInt32 ((Int64.toUInt64 (((a1 * 31) + a3) * (-7046029254386353131)) >>> ((Int32.toInt64 40).toUInt64 &&& Int64.toUInt64 63)).toInt64)) &&& 4095)), some (.int 0)] [] g = some r) : xX (d + 1) mX8_slotOf 0 [some (.ref 76), some (.long a1), none, some (.long a3), none, none, none, none, none] [] g = some r :=
  Y_lload_n dX8_slotOf_0 rfl <| Y_ldc2 dX8_slotOf_1 kl_7_212 <| Y_lmul dX8_slotOf_4 <| Y_lload_n dX8_slotOf_5 rfl <| Y_ladd dX8_slotOf_6 <| Y_ldc2 dX8_slotOf_7 kl_7_214 <| Y_lmul dX8_slotOf_10 <| Y_lstore dX8_slotOf_11 rfl rfl <| Y_lload dX8_slotOf_13 rfl <| Y_bipush 40 dX8_slotOf_15 bp_40 <| Y_lushr dX8_slotOf_17 <| Y_l2i dX8_slotOf_18 <| Y_sipush 4095 dX8_slotOf_19 sp_4095 <| Y_iand dX8_slotOf_22 <| Y_istore dX8_slotOf_23 rfl rfl <| Y_iconst 0 dX8_slotOf_25 ic_0 <| Y_istore dX8_slotOf_26 rfl rfl <| X_le (xle_s (xle_s (xle_n (xle_s (xle_n (xle_n (xle_n (xle_s (xle_s xle_0))))))))) k
theorem bX8_slotOf_28 {d : Nat} {g : xSt} {r : Option Value × xSt} {a1 a3 : Int64} {a7 a8 : Int32} (k1 : 64 ≤ a8 → xX (d + 1) mX8_slotOf 166 [none, none, none, none, none, none, none, none, none] [] g = some r) (k2 : ¬ (64 ≤ a8) → xX (d + 1) mX8_slotOf 35 [some (.ref 76), some (.long a1), none, some (.long a3), none, none, none, some (.int a7), some (.int a8)] [] g = some r) : xX (d + 1) mX8_slotOf 28 [some (.ref 76), some (.long a1), none, some (.long a3), none, none, none, some (.int a7), some (.int a8)] [] g = some r :=
  Y_iload dX8_slotOf_28 rfl <| Y_bipush 64 dX8_slotOf_30 bp_64 <| Y_ge 166 dX8_slotOf_32 rfl (fun q => X_le (xle_n (xle_n (xle_n (xle_n (xle_n (xle_n (xle_n (xle_n (xle_n xle_0))))))))) (k1 q)) (fun q => X_le (xle_s (xle_s (xle_n (xle_s (xle_n (xle_n (xle_n (xle_s (xle_s xle_0))))))))) (k2 q))
theorem bX8_slotOf_35 {d : Nat} {g : xSt} {r : Option Value × xSt} {a1 a3 : Int64} {a7 a8 : Int32} (W : xWf g) (k1 : (xat (xI g 84) 4096 a7) = (xI g 76 15) → xX (d + 1) mX8_slotOf 113 [some (.ref 76), some (.long a1), none, some (.long a3), none, none, none, some (.int a7), some (.int a8)] [] g = some r) (k2 : ¬ ((xat (xI g 84) 4096 a7) = (xI g 76 15)) → xX (d + 1) mX8_slotOf 51 [some (.ref 76), some (.long a1), none, some (.long a3), none, none, none, some (.int a7), none] [] g = some r) : xX (d + 1) mX8_slotOf 35 [some (.ref 76), some (.long a1), none, some (.long a3), none, none, none, some (.int a7), some (.int a8)] [] g = some r :=
  Y_aload_n dX8_slotOf_35 rfl <| Y_getR dX8_slotOf_36 f_7_36 (by rw [ft_7_16]; rfl) (xis W 76 7 s_76 (Nat.le_of_ble_eq_true rfl)) (xptr W 76 16 p_76_16) <| Y_iload dX8_slotOf_39 rfl <| Y_callS1 dX8_slotOf_41 cl_7_101 rfl rfl rfl rfl rfl (c_at (xarr W (o := 84) s_84 (Nat.le_of_ble_eq_true rfl))) <| Y_aload_n dX8_slotOf_44 rfl <| Y_getI dX8_slotOf_45 f_7_62 ft_7_15 (xis W 76 7 s_76 (Nat.le_of_ble_eq_true rfl)) <| Y_eq 113 dX8_slotOf_48 rfl (fun q => X_le (xle_s (xle_s (xle_n (xle_s (xle_n (xle_n (xle_n (xle_s (xle_s xle_0))))))))) (k1 q)) (fun q => X_le (xle_s (xle_s (xle_n (xle_s (xle_n (xle_n (xle_n (xle_s (xle_n xle_0))))))))) (k2 q))
theorem bX8_slotOf_51 {d : Nat} {g : xSt} {r : Option Value × xSt} {a1 a3 : Int64} {a7 : Int32} (W : xWf g) (k : r = (some (.int a7), xput (xput (xputL (xputL (xput g 84 4096 a7 (xI g 76 15)) 85 8192 (2 * a7) a1) 85 8192 ((2 * a7) + 1) a3) 86 4096 a7 0) 87 4096 a7 0)) : xX (d + 1) mX8_slotOf 51 [some (.ref 76), some (.long a1), none, some (.long a3), none, none, none, some (.int a7), none] [] g = some r :=
  Y_aload_n dX8_slotOf_51 rfl <| Y_getR dX8_slotOf_52 f_7_36 (by rw [ft_7_16]; rfl) (xis W 76 7 s_76 (Nat.le_of_ble_eq_true rfl)) (xptr W 76 16 p_76_16) <| Y_iload dX8_slotOf_55 rfl <| Y_aload_n dX8_slotOf_57 rfl <| Y_getI dX8_slotOf_58 f_7_62 ft_7_15 (xis W 76 7 s_76 (Nat.le_of_ble_eq_true rfl)) <| Y_callS0 dX8_slotOf_61 cl_7_82 rfl rfl rfl rfl rfl (c_put (xarr W (o := 84) s_84 (Nat.le_of_ble_eq_true rfl))) <| Y_aload_n dX8_slotOf_64 rfl <| Y_getR dX8_slotOf_65 f_7_39 (by rw [ft_7_17]; rfl) (xis (xWf_put W) 76 7 s_76 (Nat.le_of_ble_eq_true rfl)) (xptr (xWf_put W) 76 17 p_76_17) <| Y_iconst 2 dX8_slotOf_68 ic_2 <| Y_iload dX8_slotOf_69 rfl <| Y_imul dX8_slotOf_71 <| Y_lload_n dX8_slotOf_72 rfl <| Y_callS0 dX8_slotOf_73 cl_7_95 rfl rfl rfl rfl rfl (c_putL (xarr (xWf_put W) (o := 85) s_85 (Nat.le_of_ble_eq_true rfl))) <| Y_aload_n dX8_slotOf_76 rfl <| Y_getR dX8_slotOf_77 f_7_39 (by rw [ft_7_17]; rfl) (xis (xWf_putL (xWf_put W)) 76 7 s_76 (Nat.le_of_ble_eq_true rfl)) (xptr (xWf_putL (xWf_put W)) 76 17 p_76_17) <| Y_iconst 2 dX8_slotOf_80 ic_2 <| Y_iload dX8_slotOf_81 rfl <| Y_imul dX8_slotOf_83 <| Y_iconst 1 dX8_slotOf_84 ic_1 <| Y_iadd dX8_slotOf_85 <| Y_lload_n dX8_slotOf_86 rfl <| Y_callS0 dX8_slotOf_87 cl_7_95 rfl rfl rfl rfl rfl (c_putL (xarr (xWf_putL (xWf_put W)) (o := 85) s_85 (Nat.le_of_ble_eq_true rfl))) <| Y_aload_n dX8_slotOf_90 rfl <| Y_getR dX8_slotOf_91 f_7_42 (by rw [ft_7_18]; rfl) (xis (xWf_putL (xWf_putL (xWf_put W))) 76 7 s_76 (Nat.le_of_ble_eq_true rfl)) (xptr (xWf_putL (xWf_putL (xWf_put W))) 76 18 p_76_18) <| Y_iload dX8_slotOf_94 rfl <| Y_iconst 0 dX8_slotOf_96 ic_0 <| Y_callS0 dX8_slotOf_97 cl_7_82 rfl rfl rfl rfl rfl (c_put (xarr (xWf_putL (xWf_putL (xWf_put W))) (o := 86) s_86 (Nat.le_of_ble_eq_true rfl))) <| Y_aload_n dX8_slotOf_100 rfl <| Y_getR dX8_slotOf_101 f_7_45 (by rw [ft_7_19]; rfl) (xis (xWf_put (xWf_putL (xWf_putL (xWf_put W)))) 76 7 s_76 (Nat.le_of_ble_eq_true rfl)) (xptr (xWf_put (xWf_putL (xWf_putL (xWf_put W)))) 76 19 p_76_19) <| Y_iload dX8_slotOf_104 rfl <| Y_iconst 0 dX8_slotOf_106 ic_0 <| Y_callS0 dX8_slotOf_107 cl_7_82 rfl rfl rfl rfl rfl (c_put (xarr (xWf_put (xWf_putL (xWf_putL (xWf_put W)))) (o := 87) s_87 (Nat.le_of_ble_eq_true rfl))) <| Y_iload dX8_slotOf_110 rfl <| Y_iret dX8_slotOf_112 rfl k
theorem bX8_slotOf_113 {d : Nat} {g : xSt} {r : Option Value × xSt} {a1 a3 : Int64} {a7 a8 : Int32} (W : xWf g) (k1 : (lg_cmp (xatL (xL g 85) 8192 (2 * a7)) a1) = 0 → xX (d + 1) mX8_slotOf 129 [some (.ref 76), some (.long a1), none, some (.long a3), none, none, none, some (.int a7), some (.int a8)] [] g = some r) (k2 : ¬ ((lg_cmp (xatL (xL g 85) 8192 (2 * a7)) a1) = 0) → xX (d + 1) mX8_slotOf 150 [some (.ref 76), some (.long a1), none, some (.long a3), none, none, none, some (.int a7), some (.int a8)] [] g = some r) : xX (d + 1) mX8_slotOf 113 [some (.ref 76), some (.long a1), none, some (.long a3), none, none, none, some (.int a7), some (.int a8)] [] g = some r :=
  Y_aload_n dX8_slotOf_113 rfl <| Y_getR dX8_slotOf_114 f_7_39 (by rw [ft_7_17]; rfl) (xis W 76 7 s_76 (Nat.le_of_ble_eq_true rfl)) (xptr W 76 17 p_76_17) <| Y_iconst 2 dX8_slotOf_117 ic_2 <| Y_iload dX8_slotOf_118 rfl <| Y_imul dX8_slotOf_120 <| Y_callS1 dX8_slotOf_121 cl_7_117 rfl rfl rfl rfl rfl (c_atL (xarr W (o := 85) s_85 (Nat.le_of_ble_eq_true rfl))) <| Y_lload_n dX8_slotOf_124 rfl <| Y_lcmp dX8_slotOf_125 <| Y_ne0 150 dX8_slotOf_126 rfl (fun q => X_le (xle_s (xle_s (xle_n (xle_s (xle_n (xle_n (xle_n (xle_s (xle_s xle_0))))))))) (k1 q)) (fun q => X_le (xle_s (xle_s (xle_n (xle_s (xle_n (xle_n (xle_n (xle_s (xle_s xle_0))))))))) (k2 q))
theorem bX8_slotOf_129 {d : Nat} {g : xSt} {r : Option Value × xSt} {a1 a3 : Int64} {a7 a8 : Int32} (W : xWf g) (k1 : (lg_cmp (xatL (xL g 85) 8192 ((2 * a7) + 1)) a3) = 0 → xX (d + 1) mX8_slotOf 147 [none, none, none, none, none, none, none, some (.int a7), none] [] g = some r) (k2 : ¬ ((lg_cmp (xatL (xL g 85) 8192 ((2 * a7) + 1)) a3) = 0) → xX (d + 1) mX8_slotOf 150 [some (.ref 76), some (.long a1), none, some (.long a3), none, none, none, some (.int a7), some (.int a8)] [] g = some r) : xX (d + 1) mX8_slotOf 129 [some (.ref 76), some (.long a1), none, some (.long a3), none, none, none, some (.int a7), some (.int a8)] [] g = some r :=
  Y_aload_n dX8_slotOf_129 rfl <| Y_getR dX8_slotOf_130 f_7_39 (by rw [ft_7_17]; rfl) (xis W 76 7 s_76 (Nat.le_of_ble_eq_true rfl)) (xptr W 76 17 p_76_17) <| Y_iconst 2 dX8_slotOf_133 ic_2 <| Y_iload dX8_slotOf_134 rfl <| Y_imul dX8_slotOf_136 <| Y_iconst 1 dX8_slotOf_137 ic_1 <| Y_iadd dX8_slotOf_138 <| Y_callS1 dX8_slotOf_139 cl_7_117 rfl rfl rfl rfl rfl (c_atL (xarr W (o := 85) s_85 (Nat.le_of_ble_eq_true rfl))) <| Y_lload_n dX8_slotOf_142 rfl <| Y_lcmp dX8_slotOf_143 <| Y_ne0 150 dX8_slotOf_144 rfl (fun q => X_le (xle_n (xle_n (xle_n (xle_n (xle_n (xle_n (xle_n (xle_s (xle_n xle_0))))))))) (k1 q)) (fun q => X_le (xle_s (xle_s (xle_n (xle_s (xle_n (xle_n (xle_n (xle_s (xle_s xle_0))))))))) (k2 q))
theorem bX8_slotOf_147 {d : Nat} {g : xSt} {r : Option Value × xSt} {a7 : Int32} (k : r = (some (.int a7), g)) : xX (d + 1) mX8_slotOf 147 [none, none, none, none, none, none, none, some (.int a7), none] [] g = some r :=
  Y_iload dX8_slotOf_147 rfl <| Y_iret dX8_slotOf_149 rfl k
theorem bX8_slotOf_150 {d : Nat} {g : xSt} {r : Option Value × xSt} {a1 a3 : Int64} {a7 a8 : Int32} (k : xX (d + 1) mX8_slotOf 28 [some (.ref 76), some (.long a1), none, some (.long a3), none, none, none, some (.int ((a7 + 1) &&& 4095)), some (.int (a8 + 1))] [] g = some r) : xX (d + 1) mX8_slotOf 150 [some (.ref 76), some (.long a1), none, some (.long a3), none, none, none, some (.int a7), some (.int a8)] [] g = some r :=
  Y_iload dX8_slotOf_150 rfl <| Y_iconst 1 dX8_slotOf_152 ic_1 <| Y_iadd dX8_slotOf_153 <| Y_sipush 4095 dX8_slotOf_154 sp_4095 <| Y_iand dX8_slotOf_157 <| Y_istore dX8_slotOf_158 rfl rfl <| Y_iinc 1 dX8_slotOf_160 rfl ic_1 rfl rfl <| Y_goto 28 dX8_slotOf_163 rfl <| X_le (xle_s (xle_s (xle_n (xle_s (xle_n (xle_n (xle_n (xle_s (xle_s xle_0))))))))) k
theorem bX8_slotOf_166 {d : Nat} {g : xSt} {r : Option Value × xSt}  (k : r = (some (.int (-1)), g)) : xX (d + 1) mX8_slotOf 166 [none, none, none, none, none, none, none, none, none] [] g = some r :=
  Y_iconst (-1) dX8_slotOf_166 ic_m1 <| Y_iret dX8_slotOf_167 rfl k
theorem bX8_joinsFor_0 {d : Nat} {g : xSt} {r : Option Value × xSt} {a1 : Int32} (W : xWf g) (k1 : (xI g 76 4) = 0 → xX (d + 1) mX8_joinsFor 7 [none, none] [] g = some r) (k2 : ¬ ((xI g 76 4) = 0) → xX (d + 1) mX8_joinsFor 9 [some (.ref 76), some (.int a1)] [] g = some r) : xX (d + 1) mX8_joinsFor 0 [some (.ref 76), some (.int a1)] [] g = some r :=
  Y_aload_n dX8_joinsFor_0 rfl <| Y_getZ dX8_joinsFor_1 f_7_55 ft_7_4 (xis W 76 7 s_76 (Nat.le_of_ble_eq_true rfl)) <| Y_ne0 9 dX8_joinsFor_4 rfl (fun q => X_le (xle_n (xle_n xle_0)) (k1 q)) (fun q => X_le (xle_s (xle_s xle_0)) (k2 q))
theorem bX8_joinsFor_7 {d : Nat} {g : xSt} {r : Option Value × xSt}  (k : r = (some (.int 1), g)) : xX (d + 1) mX8_joinsFor 7 [none, none] [] g = some r :=
  Y_iconst 1 dX8_joinsFor_7 ic_1 <| Y_iret dX8_joinsFor_8 rfl k
theorem bX8_joinsFor_9 {d : Nat} {g : xSt} {r : Option Value × xSt} {a1 : Int32} (W : xWf g) (k1 : (xat (xI g 83) 1024 a1) = 0 → xX (d + 1) mX8_joinsFor 20 [some (.ref 76), some (.int a1)] [] g = some r) (k2 : ¬ ((xat (xI g 83) 1024 a1) = 0) → xX (d + 1) mX8_joinsFor 33 [some (.ref 76), some (.int a1)] [] g = some r) : xX (d + 1) mX8_joinsFor 9 [some (.ref 76), some (.int a1)] [] g = some r :=
  Y_aload_n dX8_joinsFor_9 rfl <| Y_getR dX8_joinsFor_10 f_7_33 (by rw [ft_7_14]; rfl) (xis W 76 7 s_76 (Nat.le_of_ble_eq_true rfl)) (xptr W 76 14 p_76_14) <| Y_iload_n dX8_joinsFor_13 rfl <| Y_callS1 dX8_joinsFor_14 cl_7_101 rfl rfl rfl rfl rfl (c_at (xarr W (o := 83) s_83 (Nat.le_of_ble_eq_true rfl))) <| Y_ne0 33 dX8_joinsFor_17 rfl (fun q => X_le (xle_s (xle_s xle_0)) (k1 q)) (fun q => X_le (xle_s (xle_s xle_0)) (k2 q))
theorem bX8_joinsFor_20 {d : Nat} {g : xSt} {r : Option Value × xSt} {a1 r27 : Int32} {g27 : xSt} (W : xWf g) (hk27 : xCallM d mX8_countGroups [.ref 76, .int a1] g = some (some (.int r27), g27)) (W27 : xWf g27) (k : xX (d + 1) mX8_joinsFor 33 [some (.ref 76), some (.int a1)] [] (xput g27 83 1024 a1 r27) = some r) : xX (d + 1) mX8_joinsFor 20 [some (.ref 76), some (.int a1)] [] g = some r :=
  Y_aload_n dX8_joinsFor_20 rfl <| Y_getR dX8_joinsFor_21 f_7_33 (by rw [ft_7_14]; rfl) (xis W 76 7 s_76 (Nat.le_of_ble_eq_true rfl)) (xptr W 76 14 p_76_14) <| Y_iload_n dX8_joinsFor_24 rfl <| Y_aload_n dX8_joinsFor_25 rfl <| Y_iload_n dX8_joinsFor_26 rfl <| Y_callV1 dX8_joinsFor_27 cl_7_208 rfl rfl (xis W 76 7 s_76 (Nat.le_of_ble_eq_true rfl)) rfl rfl rfl (hk27) <| Y_callS0 dX8_joinsFor_30 cl_7_82 rfl rfl rfl rfl rfl (c_put (xarr W27 (o := 83) s_83 (Nat.le_of_ble_eq_true rfl))) <| X_le (xle_s (xle_s xle_0)) k
theorem bX8_joinsFor_33 {d : Nat} {g : xSt} {r : Option Value × xSt} {a1 : Int32} (W : xWf g) (k : r = (some (.int (imax 1 ((xat (xI g 83) 1024 a1) - 1))), g)) : xX (d + 1) mX8_joinsFor 33 [some (.ref 76), some (.int a1)] [] g = some r :=
  Y_iconst 1 dX8_joinsFor_33 ic_1 <| Y_aload_n dX8_joinsFor_34 rfl <| Y_getR dX8_joinsFor_35 f_7_33 (by rw [ft_7_14]; rfl) (xis W 76 7 s_76 (Nat.le_of_ble_eq_true rfl)) (xptr W 76 14 p_76_14) <| Y_iload_n dX8_joinsFor_38 rfl <| Y_callS1 dX8_joinsFor_39 cl_7_101 rfl rfl rfl rfl rfl (c_at (xarr W (o := 83) s_83 (Nat.le_of_ble_eq_true rfl))) <| Y_iconst 1 dX8_joinsFor_42 ic_1 <| Y_isub dX8_joinsFor_43 <| Y_max dX8_joinsFor_44 km_7_126 kn_7_126 rfl <| Y_iret dX8_joinsFor_47 rfl k
theorem bX8_countGroups_0 {d : Nat} {g : xSt} {r : Option Value × xSt} {a1 : Int32} (W : xWf g) (k : xX (d + 1) mX8_countGroups 11 [some (.ref 76), some (.int a1), some (.int (xI g 76 3)), some (.int 274960), some (.int 0), none, none, none, none, none, none] [] g = some r) : xX (d + 1) mX8_countGroups 0 [some (.ref 76), some (.int a1), none, none, none, none, none, none, none, none, none] [] g = some r :=
  Y_aload_n dX8_countGroups_0 rfl <| Y_getI dX8_countGroups_1 f_7_52 ft_7_3 (xis W 76 7 s_76 (Nat.le_of_ble_eq_true rfl)) <| Y_istore_n dX8_countGroups_4 rfl rfl <| Y_ldc dX8_countGroups_5 ki_7_211 <| Y_istore_n dX8_countGroups_7 rfl rfl <| Y_iconst 0 dX8_countGroups_8 ic_0 <| Y_istore dX8_countGroups_9 rfl rfl <| X_le (xle_s (xle_s (xle_s (xle_s (xle_s (xle_n (xle_n (xle_n (xle_n (xle_n (xle_n xle_0))))))))))) k
theorem bX8_countGroups_11 {d : Nat} {g : xSt} {r : Option Value × xSt} {a1 a2 a3 a4 r14 : Int32} {g14 : xSt} (W : xWf g) (hk14 : xCallM d mX8_pairs [.ref 76] g = some (some (.int r14), g14)) (W14 : xWf g14) (k1 : r14 ≤ a4 → xX (d + 1) mX8_countGroups 167 [none, none, some (.int a2), none, none, none, none, none, none, none, none] [] g14 = some r) (k2 : ¬ (r14 ≤ a4) → xX (d + 1) mX8_countGroups 20 [some (.ref 76), some (.int a1), some (.int a2), some (.int a3), some (.int a4), none, none, none, none, none, none] [] g14 = some r) : xX (d + 1) mX8_countGroups 11 [some (.ref 76), some (.int a1), some (.int a2), some (.int a3), some (.int a4), none, none, none, none, none, none] [] g = some r :=
  Y_iload dX8_countGroups_11 rfl <| Y_aload_n dX8_countGroups_13 rfl <| Y_callV1 dX8_countGroups_14 cl_7_129 rfl rfl (xis W 76 7 s_76 (Nat.le_of_ble_eq_true rfl)) rfl rfl rfl (hk14) <| Y_ge 167 dX8_countGroups_17 rfl (fun q => X_le (xle_n (xle_n (xle_s (xle_n (xle_n (xle_n (xle_n (xle_n (xle_n (xle_n (xle_n xle_0))))))))))) (k1 q)) (fun q => X_le (xle_s (xle_s (xle_s (xle_s (xle_s (xle_n (xle_n (xle_n (xle_n (xle_n (xle_n xle_0))))))))))) (k2 q))
theorem bX8_countGroups_20 {d : Nat} {g : xSt} {r : Option Value × xSt} {a1 a2 a3 a4 : Int32} (W : xWf g) (k1 : (xbit a1 a4) = 0 → xX (d + 1) mX8_countGroups 79 [some (.ref 76), some (.int a1), some (.int a2), some (.int a3), some (.int a4), none, some (.int ((a3 >>> ((4 * ((xat (xI g 82) 10 a4) / 10)) &&& 31)) &&& 15)), some (.int ((a3 >>> ((4 * ((xat (xI g 82) 10 a4) - (xat (xI g 82) 10 a4) / 10 * 10)) &&& 31)) &&& 15)), none, none, none] [] g = some r) (k2 : ¬ ((xbit a1 a4) = 0) → xX (d + 1) mX8_countGroups 68 [some (.ref 76), some (.int a1), some (.int a2), some (.int a3), some (.int a4), none, some (.int ((a3 >>> ((4 * ((xat (xI g 82) 10 a4) / 10)) &&& 31)) &&& 15)), some (.int ((a3 >>> ((4 * ((xat (xI g 82) 10 a4) - (xat (xI g 82) 10 a4) / 10 * 10)) &&& 31)) &&& 15)), none, none, none] [] g = some r) : xX (d + 1) mX8_countGroups 20 [some (.ref 76), some (.int a1), some (.int a2), some (.int a3), some (.int a4), none, none, none, none, none, none] [] g = some r :=
  Y_aload_n dX8_countGroups_20 rfl <| Y_getR dX8_countGroups_21 f_7_30 (by rw [ft_7_13]; rfl) (xis W 76 7 s_76 (Nat.le_of_ble_eq_true rfl)) (xptr W 76 13 p_76_13) <| Y_iload dX8_countGroups_24 rfl <| Y_callS1 dX8_countGroups_26 cl_7_101 rfl rfl rfl rfl rfl (c_at (xarr W (o := 82) s_82 (Nat.le_of_ble_eq_true rfl))) <| Y_istore dX8_countGroups_29 rfl rfl <| Y_iload_n dX8_countGroups_31 rfl <| Y_iconst 4 dX8_countGroups_32 ic_4 <| Y_iload dX8_countGroups_33 rfl <| Y_bipush 10 dX8_countGroups_35 bp_10 <| Y_idiv dX8_countGroups_37 (by decide) <| Y_imul dX8_countGroups_38 <| Y_ishr dX8_countGroups_39 <| Y_bipush 15 dX8_countGroups_40 bp_15 <| Y_iand dX8_countGroups_42 <| Y_istore dX8_countGroups_43 rfl rfl <| Y_iload_n dX8_countGroups_45 rfl <| Y_iconst 4 dX8_countGroups_46 ic_4 <| Y_iload dX8_countGroups_47 rfl <| Y_bipush 10 dX8_countGroups_49 bp_10 <| Y_irem dX8_countGroups_51 (by decide) <| Y_imul dX8_countGroups_52 <| Y_ishr dX8_countGroups_53 <| Y_bipush 15 dX8_countGroups_54 bp_15 <| Y_iand dX8_countGroups_56 <| Y_istore dX8_countGroups_57 rfl rfl <| Y_iload_n dX8_countGroups_59 rfl <| Y_iload dX8_countGroups_60 rfl <| Y_callS1 dX8_countGroups_62 cl_7_105 rfl rfl rfl rfl rfl (c_xbit) <| Y_eq0 79 dX8_countGroups_65 rfl (fun q => X_le (xle_s (xle_s (xle_s (xle_s (xle_s (xle_n (xle_s (xle_s (xle_n (xle_n (xle_n xle_0))))))))))) (k1 q)) (fun q => X_le (xle_s (xle_s (xle_s (xle_s (xle_s (xle_n (xle_s (xle_s (xle_n (xle_n (xle_n xle_0))))))))))) (k2 q))
theorem bX8_countGroups_68 {d : Nat} {g : xSt} {r : Option Value × xSt} {a1 a2 a3 a4 a6 a7 : Int32} (k1 : a6 = a7 → xX (d + 1) mX8_countGroups 79 [some (.ref 76), some (.int a1), some (.int a2), some (.int a3), some (.int a4), none, some (.int a6), some (.int a7), none, none, none] [] g = some r) (k2 : ¬ (a6 = a7) → xX (d + 1) mX8_countGroups 75 [some (.ref 76), some (.int a1), some (.int a2), some (.int a3), some (.int a4), none, some (.int a6), some (.int a7), none, none, none] [] g = some r) : xX (d + 1) mX8_countGroups 68 [some (.ref 76), some (.int a1), some (.int a2), some (.int a3), some (.int a4), none, some (.int a6), some (.int a7), none, none, none] [] g = some r :=
  Y_iload dX8_countGroups_68 rfl <| Y_iload dX8_countGroups_70 rfl <| Y_eq 79 dX8_countGroups_72 rfl (fun q => X_le (xle_s (xle_s (xle_s (xle_s (xle_s (xle_n (xle_s (xle_s (xle_n (xle_n (xle_n xle_0))))))))))) (k1 q)) (fun q => X_le (xle_s (xle_s (xle_s (xle_s (xle_s (xle_n (xle_s (xle_s (xle_n (xle_n (xle_n xle_0))))))))))) (k2 q))
theorem bX8_countGroups_75 {d : Nat} {g : xSt} {r : Option Value × xSt} {a1 a2 a3 a4 a6 a7 : Int32} (k : xX (d + 1) mX8_countGroups 80 [some (.ref 76), some (.int a1), some (.int a2), some (.int a3), some (.int a4), none, some (.int a6), some (.int a7), none, none, none] [.int 1] g = some r) : xX (d + 1) mX8_countGroups 75 [some (.ref 76), some (.int a1), some (.int a2), some (.int a3), some (.int a4), none, some (.int a6), some (.int a7), none, none, none] [] g = some r :=
  Y_iconst 1 dX8_countGroups_75 ic_1 <| Y_goto 80 dX8_countGroups_76 rfl <| X_le (xle_s (xle_s (xle_s (xle_s (xle_s (xle_n (xle_s (xle_s (xle_n (xle_n (xle_n xle_0))))))))))) k
theorem bX8_countGroups_79 {d : Nat} {g : xSt} {r : Option Value × xSt} {a1 a2 a3 a4 a6 a7 : Int32} (k : xX (d + 1) mX8_countGroups 80 [some (.ref 76), some (.int a1), some (.int a2), some (.int a3), some (.int a4), none, some (.int a6), some (.int a7), none, none, none] [.int 0] g = some r) : xX (d + 1) mX8_countGroups 79 [some (.ref 76), some (.int a1), some (.int a2), some (.int a3), some (.int a4), none, some (.int a6), some (.int a7), none, none, none] [] g = some r :=
  Y_iconst 0 dX8_countGroups_79 ic_0 <| X_le (xle_s (xle_s (xle_s (xle_s (xle_s (xle_n (xle_s (xle_s (xle_n (xle_n (xle_n xle_0))))))))))) k
theorem bX8_countGroups_80 {d : Nat} {g : xSt} {r : Option Value × xSt} {a1 a2 a3 a4 a6 a7 s0 : Int32} (k1 : s0 = 0 → xX (d + 1) mX8_countGroups 92 [some (.ref 76), some (.int a1), none, some (.int a3), some (.int a4), none, some (.int a6), some (.int a7), some (.int s0), none, none] [.int a2] g = some r) (k2 : ¬ (s0 = 0) → xX (d + 1) mX8_countGroups 88 [some (.ref 76), some (.int a1), none, some (.int a3), some (.int a4), none, some (.int a6), some (.int a7), some (.int s0), none, none] [.int a2] g = some r) : xX (d + 1) mX8_countGroups 80 [some (.ref 76), some (.int a1), some (.int a2), some (.int a3), some (.int a4), none, some (.int a6), some (.int a7), none, none, none] [.int s0] g = some r :=
  Y_istore dX8_countGroups_80 rfl rfl <| Y_iload_n dX8_countGroups_82 rfl <| Y_iload dX8_countGroups_83 rfl <| Y_eq0 92 dX8_countGroups_85 rfl (fun q => X_le (xle_s (xle_s (xle_n (xle_s (xle_s (xle_n (xle_s (xle_s (xle_s (xle_n (xle_n xle_0))))))))))) (k1 q)) (fun q => X_le (xle_s (xle_s (xle_n (xle_s (xle_s (xle_n (xle_s (xle_s (xle_s (xle_n (xle_n xle_0))))))))))) (k2 q))
theorem bX8_countGroups_88 {d : Nat} {g : xSt} {r : Option Value × xSt} {a1 a3 a4 a6 a7 a8 s0 : Int32} (k : xX (d + 1) mX8_countGroups 93 [some (.ref 76), some (.int a1), none, some (.int a3), some (.int a4), none, some (.int a6), some (.int a7), some (.int a8), none, none] [.int 1, .int s0] g = some r) : xX (d + 1) mX8_countGroups 88 [some (.ref 76), some (.int a1), none, some (.int a3), some (.int a4), none, some (.int a6), some (.int a7), some (.int a8), none, none] [.int s0] g = some r :=
  Y_iconst 1 dX8_countGroups_88 ic_1 <| Y_goto 93 dX8_countGroups_89 rfl <| X_le (xle_s (xle_s (xle_n (xle_s (xle_s (xle_n (xle_s (xle_s (xle_s (xle_n (xle_n xle_0))))))))))) k
theorem bX8_countGroups_92 {d : Nat} {g : xSt} {r : Option Value × xSt} {a1 a3 a4 a6 a7 a8 s0 : Int32} (k : xX (d + 1) mX8_countGroups 93 [some (.ref 76), some (.int a1), none, some (.int a3), some (.int a4), none, some (.int a6), some (.int a7), some (.int a8), none, none] [.int 0, .int s0] g = some r) : xX (d + 1) mX8_countGroups 92 [some (.ref 76), some (.int a1), none, some (.int a3), some (.int a4), none, some (.int a6), some (.int a7), some (.int a8), none, none] [.int s0] g = some r :=
  Y_iconst 0 dX8_countGroups_92 ic_0 <| X_le (xle_s (xle_s (xle_n (xle_s (xle_s (xle_n (xle_s (xle_s (xle_s (xle_n (xle_n xle_0))))))))))) k
theorem bX8_countGroups_93 {d : Nat} {g : xSt} {r : Option Value × xSt} {a1 a3 a4 a6 a7 a8 s1 s0 : Int32} (k : xX (d + 1) mX8_countGroups 98 [some (.ref 76), some (.int a1), some (.int (s1 - s0)), some (.int a3), some (.int a4), none, some (.int a6), some (.int a7), some (.int a8), some (.int 0), none] [] g = some r) : xX (d + 1) mX8_countGroups 93 [some (.ref 76), some (.int a1), none, some (.int a3), some (.int a4), none, some (.int a6), some (.int a7), some (.int a8), none, none] [.int s0, .int s1] g = some r :=
  Y_isub dX8_countGroups_93 <| Y_istore_n dX8_countGroups_94 rfl rfl <| Y_iconst 0 dX8_countGroups_95 ic_0 <| Y_istore dX8_countGroups_96 rfl rfl <| X_le (xle_s (xle_s (xle_s (xle_s (xle_s (xle_n (xle_s (xle_s (xle_s (xle_s (xle_n xle_0))))))))))) k
theorem bX8_countGroups_98 {d : Nat} {g : xSt} {r : Option Value × xSt} {a1 a2 a3 a4 a6 a7 a8 a9 : Int32} (W : xWf g) (k1 : (xI g 76 3) ≤ a9 → xX (d + 1) mX8_countGroups 161 [some (.ref 76), some (.int a1), some (.int a2), some (.int a3), some (.int a4), none, none, none, none, none, none] [] g = some r) (k2 : ¬ ((xI g 76 3) ≤ a9) → xX (d + 1) mX8_countGroups 107 [some (.ref 76), some (.int a1), some (.int a2), some (.int a3), some (.int a4), none, some (.int a6), some (.int a7), some (.int a8), some (.int a9), none] [] g = some r) : xX (d + 1) mX8_countGroups 98 [some (.ref 76), some (.int a1), some (.int a2), some (.int a3), some (.int a4), none, some (.int a6), some (.int a7), some (.int a8), some (.int a9), none] [] g = some r :=
  Y_iload dX8_countGroups_98 rfl <| Y_aload_n dX8_countGroups_100 rfl <| Y_getI dX8_countGroups_101 f_7_52 ft_7_3 (xis W 76 7 s_76 (Nat.le_of_ble_eq_true rfl)) <| Y_ge 161 dX8_countGroups_104 rfl (fun q => X_le (xle_s (xle_s (xle_s (xle_s (xle_s (xle_n (xle_n (xle_n (xle_n (xle_n (xle_n xle_0))))))))))) (k1 q)) (fun q => X_le (xle_s (xle_s (xle_s (xle_s (xle_s (xle_n (xle_s (xle_s (xle_s (xle_s (xle_n xle_0))))))))))) (k2 q))
theorem bX8_countGroups_107 {d : Nat} {g : xSt} {r : Option Value × xSt} {a1 a2 a3 a4 a6 a7 a8 a9 : Int32} (k1 : a8 = 0 → xX (d + 1) mX8_countGroups 161 [some (.ref 76), some (.int a1), some (.int a2), some (.int a3), some (.int a4), none, none, none, none, none, none] [] g = some r) (k2 : ¬ (a8 = 0) → xX (d + 1) mX8_countGroups 112 [some (.ref 76), some (.int a1), some (.int a2), some (.int a3), some (.int a4), none, some (.int a6), some (.int a7), some (.int a8), some (.int a9), none] [] g = some r) : xX (d + 1) mX8_countGroups 107 [some (.ref 76), some (.int a1), some (.int a2), some (.int a3), some (.int a4), none, some (.int a6), some (.int a7), some (.int a8), some (.int a9), none] [] g = some r :=
  Y_iload dX8_countGroups_107 rfl <| Y_eq0 161 dX8_countGroups_109 rfl (fun q => X_le (xle_s (xle_s (xle_s (xle_s (xle_s (xle_n (xle_n (xle_n (xle_n (xle_n (xle_n xle_0))))))))))) (k1 q)) (fun q => X_le (xle_s (xle_s (xle_s (xle_s (xle_s (xle_n (xle_s (xle_s (xle_s (xle_s (xle_n xle_0))))))))))) (k2 q))
theorem bX8_countGroups_112 {d : Nat} {g : xSt} {r : Option Value × xSt} {a1 a2 a3 a4 a6 a7 a8 a9 : Int32} (k1 : ((a3 >>> ((4 * a9) &&& 31)) &&& 15) = a7 → xX (d + 1) mX8_countGroups 126 [some (.ref 76), some (.int a1), some (.int a2), some (.int a3), some (.int a4), none, some (.int a6), some (.int a7), some (.int a8), some (.int a9), none] [] g = some r) (k2 : ¬ (((a3 >>> ((4 * a9) &&& 31)) &&& 15) = a7) → xX (d + 1) mX8_countGroups 130 [some (.ref 76), some (.int a1), some (.int a2), some (.int a3), some (.int a4), none, some (.int a6), some (.int a7), some (.int a8), some (.int a9), none] [] g = some r) : xX (d + 1) mX8_countGroups 112 [some (.ref 76), some (.int a1), some (.int a2), some (.int a3), some (.int a4), none, some (.int a6), some (.int a7), some (.int a8), some (.int a9), none] [] g = some r :=
  Y_iload_n dX8_countGroups_112 rfl <| Y_iconst 4 dX8_countGroups_113 ic_4 <| Y_iload dX8_countGroups_114 rfl <| Y_imul dX8_countGroups_116 <| Y_ishr dX8_countGroups_117 <| Y_bipush 15 dX8_countGroups_118 bp_15 <| Y_iand dX8_countGroups_120 <| Y_iload dX8_countGroups_121 rfl <| Y_ne 130 dX8_countGroups_123 rfl (fun q => X_le (xle_s (xle_s (xle_s (xle_s (xle_s (xle_n (xle_s (xle_s (xle_s (xle_s (xle_n xle_0))))))))))) (k1 q)) (fun q => X_le (xle_s (xle_s (xle_s (xle_s (xle_s (xle_n (xle_s (xle_s (xle_s (xle_s (xle_n xle_0))))))))))) (k2 q))
theorem bX8_countGroups_126 {d : Nat} {g : xSt} {r : Option Value × xSt} {a1 a2 a3 a4 a6 a7 a8 a9 : Int32} (k : xX (d + 1) mX8_countGroups 131 [some (.ref 76), some (.int a1), some (.int a2), some (.int a3), some (.int a4), none, some (.int a6), some (.int a7), some (.int a8), some (.int a9), none] [.int 1] g = some r) : xX (d + 1) mX8_countGroups 126 [some (.ref 76), some (.int a1), some (.int a2), some (.int a3), some (.int a4), none, some (.int a6), some (.int a7), some (.int a8), some (.int a9), none] [] g = some r :=
  Y_iconst 1 dX8_countGroups_126 ic_1 <| Y_goto 131 dX8_countGroups_127 rfl <| X_le (xle_s (xle_s (xle_s (xle_s (xle_s (xle_n (xle_s (xle_s (xle_s (xle_s (xle_n xle_0))))))))))) k
theorem bX8_countGroups_130 {d : Nat} {g : xSt} {r : Option Value × xSt} {a1 a2 a3 a4 a6 a7 a8 a9 : Int32} (k : xX (d + 1) mX8_countGroups 131 [some (.ref 76), some (.int a1), some (.int a2), some (.int a3), some (.int a4), none, some (.int a6), some (.int a7), some (.int a8), some (.int a9), none] [.int 0] g = some r) : xX (d + 1) mX8_countGroups 130 [some (.ref 76), some (.int a1), some (.int a2), some (.int a3), some (.int a4), none, some (.int a6), some (.int a7), some (.int a8), some (.int a9), none] [] g = some r :=
  Y_iconst 0 dX8_countGroups_130 ic_0 <| X_le (xle_s (xle_s (xle_s (xle_s (xle_s (xle_n (xle_s (xle_s (xle_s (xle_s (xle_n xle_0))))))))))) k
theorem bX8_countGroups_131 {d : Nat} {g : xSt} {r : Option Value × xSt} {a1 a2 a3 a4 a6 a7 a8 a9 s0 : Int32} (k1 : s0 = 0 → xX (d + 1) mX8_countGroups 152 [some (.ref 76), some (.int a1), some (.int a2), none, some (.int a4), none, some (.int a6), some (.int a7), some (.int a8), some (.int a9), none] [.int a3] g = some r) (k2 : ¬ (s0 = 0) → xX (d + 1) mX8_countGroups 139 [some (.ref 76), some (.int a1), some (.int a2), none, some (.int a4), none, some (.int a6), some (.int a7), some (.int a8), some (.int a9), none] [.int a3] g = some r) : xX (d + 1) mX8_countGroups 131 [some (.ref 76), some (.int a1), some (.int a2), some (.int a3), some (.int a4), none, some (.int a6), some (.int a7), some (.int a8), some (.int a9), none] [.int s0] g = some r :=
  Y_istore dX8_countGroups_131 rfl rfl <| Y_iload_n dX8_countGroups_133 rfl <| Y_iload dX8_countGroups_134 rfl <| Y_eq0 152 dX8_countGroups_136 rfl (fun q => X_le (xle_s (xle_s (xle_s (xle_n (xle_s (xle_n (xle_s (xle_s (xle_s (xle_s (xle_n xle_0))))))))))) (k1 q)) (fun q => X_le (xle_s (xle_s (xle_s (xle_n (xle_s (xle_n (xle_s (xle_s (xle_s (xle_s (xle_n xle_0))))))))))) (k2 q))
theorem bX8_countGroups_139 {d : Nat} {g : xSt} {r : Option Value × xSt} {a1 a2 a4 a6 a7 a8 a9 s0 : Int32} (k : xX (d + 1) mX8_countGroups 153 [some (.ref 76), some (.int a1), some (.int a2), none, some (.int a4), none, some (.int a6), some (.int a7), some (.int a8), some (.int a9), none] [.int ((a6 - a7) <<< ((4 * a9) &&& 31)), .int s0] g = some r) : xX (d + 1) mX8_countGroups 139 [some (.ref 76), some (.int a1), some (.int a2), none, some (.int a4), none, some (.int a6), some (.int a7), some (.int a8), some (.int a9), none] [.int s0] g = some r :=
  Y_iload dX8_countGroups_139 rfl <| Y_iload dX8_countGroups_141 rfl <| Y_isub dX8_countGroups_143 <| Y_iconst 4 dX8_countGroups_144 ic_4 <| Y_iload dX8_countGroups_145 rfl <| Y_imul dX8_countGroups_147 <| Y_ishl dX8_countGroups_148 <| Y_goto 153 dX8_countGroups_149 rfl <| X_le (xle_s (xle_s (xle_s (xle_n (xle_s (xle_n (xle_s (xle_s (xle_s (xle_s (xle_n xle_0))))))))))) k
theorem bX8_countGroups_152 {d : Nat} {g : xSt} {r : Option Value × xSt} {a1 a2 a4 a6 a7 a8 a9 s0 : Int32} (k : xX (d + 1) mX8_countGroups 153 [some (.ref 76), some (.int a1), some (.int a2), none, some (.int a4), none, some (.int a6), some (.int a7), some (.int a8), some (.int a9), none] [.int 0, .int s0] g = some r) : xX (d + 1) mX8_countGroups 152 [some (.ref 76), some (.int a1), some (.int a2), none, some (.int a4), none, some (.int a6), some (.int a7), some (.int a8), some (.int a9), none] [.int s0] g = some r :=
  Y_iconst 0 dX8_countGroups_152 ic_0 <| X_le (xle_s (xle_s (xle_s (xle_n (xle_s (xle_n (xle_s (xle_s (xle_s (xle_s (xle_n xle_0))))))))))) k
theorem bX8_countGroups_153 {d : Nat} {g : xSt} {r : Option Value × xSt} {a1 a2 a4 a6 a7 a8 a9 s1 s0 : Int32} (k : xX (d + 1) mX8_countGroups 98 [some (.ref 76), some (.int a1), some (.int a2), some (.int (s1 + s0)), some (.int a4), none, some (.int a6), some (.int a7), some (.int a8), some (.int (a9 + 1)), none] [] g = some r) : xX (d + 1) mX8_countGroups 153 [some (.ref 76), some (.int a1), some (.int a2), none, some (.int a4), none, some (.int a6), some (.int a7), some (.int a8), some (.int a9), none] [.int s0, .int s1] g = some r :=
  Y_iadd dX8_countGroups_153 <| Y_istore_n dX8_countGroups_154 rfl rfl <| Y_iinc 1 dX8_countGroups_155 rfl ic_1 rfl rfl <| Y_goto 98 dX8_countGroups_158 rfl <| X_le (xle_s (xle_s (xle_s (xle_s (xle_s (xle_n (xle_s (xle_s (xle_s (xle_s (xle_n xle_0))))))))))) k
theorem bX8_countGroups_161 {d : Nat} {g : xSt} {r : Option Value × xSt} {a1 a2 a3 a4 : Int32} (k : xX (d + 1) mX8_countGroups 11 [some (.ref 76), some (.int a1), some (.int a2), some (.int a3), some (.int (a4 + 1)), none, none, none, none, none, none] [] g = some r) : xX (d + 1) mX8_countGroups 161 [some (.ref 76), some (.int a1), some (.int a2), some (.int a3), some (.int a4), none, none, none, none, none, none] [] g = some r :=
  Y_iinc 1 dX8_countGroups_161 rfl ic_1 rfl rfl <| Y_goto 11 dX8_countGroups_164 rfl <| X_le (xle_s (xle_s (xle_s (xle_s (xle_s (xle_n (xle_n (xle_n (xle_n (xle_n (xle_n xle_0))))))))))) k
theorem bX8_countGroups_167 {d : Nat} {g : xSt} {r : Option Value × xSt} {a2 : Int32} (k : r = (some (.int a2), g)) : xX (d + 1) mX8_countGroups 167 [none, none, some (.int a2), none, none, none, none, none, none, none, none] [] g = some r :=
  Y_iload_n dX8_countGroups_167 rfl <| Y_iret dX8_countGroups_168 rfl k
theorem bX8_leastWorst_0 {d : Nat} {g : xSt} {r : Option Value × xSt} {a1 a3 : Int64} {a5 r3 : Int32} {g3 : xSt} (W : xWf g) (hk3 : xCallM d mX8_isAlike [.ref 76, .long a1, .long a3] g = some (some (.int r3), g3)) (W3 : xWf g3) (k1 : r3 = 0 → xX (d + 1) mX8_leastWorst 11 [some (.ref 76), some (.long a1), none, some (.long a3), none, some (.int a5)] [] g3 = some r) (k2 : ¬ (r3 = 0) → xX (d + 1) mX8_leastWorst 9 [none, none, none, none, none, none] [] g3 = some r) : xX (d + 1) mX8_leastWorst 0 [some (.ref 76), some (.long a1), none, some (.long a3), none, some (.int a5)] [] g = some r :=
  Y_aload_n dX8_leastWorst_0 rfl <| Y_lload_n dX8_leastWorst_1 rfl <| Y_lload_n dX8_leastWorst_2 rfl <| Y_callV1 dX8_leastWorst_3 cl_7_167 rfl rfl (xis W 76 7 s_76 (Nat.le_of_ble_eq_true rfl)) rfl rfl rfl (hk3) <| Y_eq0 11 dX8_leastWorst_6 rfl (fun q => X_le (xle_s (xle_s (xle_n (xle_s (xle_n (xle_s xle_0)))))) (k1 q)) (fun q => X_le (xle_n (xle_n (xle_n (xle_n (xle_n (xle_n xle_0)))))) (k2 q))
theorem bX8_leastWorst_9 {d : Nat} {g : xSt} {r : Option Value × xSt}  (k : r = (some (.int 0), g)) : xX (d + 1) mX8_leastWorst 9 [none, none, none, none, none, none] [] g = some r :=
  Y_iconst 0 dX8_leastWorst_9 ic_0 <| Y_iret dX8_leastWorst_10 rfl k
theorem bX8_leastWorst_11 {d : Nat} {g : xSt} {r : Option Value × xSt} {a1 a3 : Int64} {a5 r14 r21 : Int32} {g14 g21 : xSt} (W : xWf g) (hk14 : xCallM d mX8_kindsIn [.ref 76, .long a1, .long a3] g = some (some (.int r14), g14)) (W14 : xWf g14) (hk21 : xCallM d mX8_depthOf [.int r14, .int (xI g14 76 8)] g14 = some (some (.int r21), g21)) (W21 : xWf g21) (k : r = (some (.int (imax r21 a5)), g21)) : xX (d + 1) mX8_leastWorst 11 [some (.ref 76), some (.long a1), none, some (.long a3), none, some (.int a5)] [] g = some r :=
  Y_aload_n dX8_leastWorst_11 rfl <| Y_lload_n dX8_leastWorst_12 rfl <| Y_lload_n dX8_leastWorst_13 rfl <| Y_callV1 dX8_leastWorst_14 cl_7_202 rfl rfl (xis W 76 7 s_76 (Nat.le_of_ble_eq_true rfl)) rfl rfl rfl (hk14) <| Y_aload_n dX8_leastWorst_17 rfl <| Y_getI dX8_leastWorst_18 f_7_92 ft_7_8 (xis W14 76 7 s_76 (Nat.le_of_ble_eq_true rfl)) <| Y_callS1 dX8_leastWorst_21 cl_7_205 rfl rfl rfl rfl rfl (hk21) <| Y_iload dX8_leastWorst_24 rfl <| Y_max dX8_leastWorst_26 km_7_126 kn_7_126 rfl <| Y_iret dX8_leastWorst_29 rfl k
theorem bX8_kindsIn_0 {d : Nat} {g : xSt} {r : Option Value × xSt} {a1 a3 : Int64} (W : xWf g) (k1 : (xI g 76 9) = (xI g 76 2) → xX (d + 1) mX8_kindsIn 11 [none, some (.long a1), none, some (.long a3), none, none, none] [] g = some r) (k2 : ¬ ((xI g 76 9) = (xI g 76 2)) → xX (d + 1) mX8_kindsIn 21 [some (.ref 76), some (.long a1), none, some (.long a3), none, none, none] [] g = some r) : xX (d + 1) mX8_kindsIn 0 [some (.ref 76), some (.long a1), none, some (.long a3), none, none, none] [] g = some r :=
  Y_aload_n dX8_kindsIn_0 rfl <| Y_getI dX8_kindsIn_1 f_7_89 ft_7_9 (xis W 76 7 s_76 (Nat.le_of_ble_eq_true rfl)) <| Y_aload_n dX8_kindsIn_4 rfl <| Y_getI dX8_kindsIn_5 f_7_86 ft_7_2 (xis W 76 7 s_76 (Nat.le_of_ble_eq_true rfl)) <| Y_ne 21 dX8_kindsIn_8 rfl (fun q => X_le (xle_n (xle_s (xle_n (xle_s (xle_n (xle_n (xle_n xle_0))))))) (k1 q)) (fun q => X_le (xle_s (xle_s (xle_n (xle_s (xle_n (xle_n (xle_n xle_0))))))) (k2 q))
theorem bX8_kindsIn_11 {d : Nat} {g : xSt} {r : Option Value × xSt} {a1 a3 : Int64} (k : r = (some (.int ((xbcl a1) + (xbcl a3))), g)) : xX (d + 1) mX8_kindsIn 11 [none, some (.long a1), none, some (.long a3), none, none, none] [] g = some r :=
  Y_lload_n dX8_kindsIn_11 rfl <| Y_callS1 dX8_kindsIn_12 cl_7_191 rfl rfl rfl rfl rfl (c_xbcl) <| Y_lload_n dX8_kindsIn_15 rfl <| Y_callS1 dX8_kindsIn_16 cl_7_191 rfl rfl rfl rfl rfl (c_xbcl) <| Y_iadd dX8_kindsIn_19 <| Y_iret dX8_kindsIn_20 rfl k
theorem bX8_kindsIn_21 {d : Nat} {g : xSt} {r : Option Value × xSt} {a1 a3 : Int64} (k : xX (d + 1) mX8_kindsIn 27 [some (.ref 76), some (.long a1), none, some (.long a3), none, some (.int 0), some (.int 0)] [] g = some r) : xX (d + 1) mX8_kindsIn 21 [some (.ref 76), some (.long a1), none, some (.long a3), none, none, none] [] g = some r :=
  Y_iconst 0 dX8_kindsIn_21 ic_0 <| Y_istore dX8_kindsIn_22 rfl rfl <| Y_iconst 0 dX8_kindsIn_24 ic_0 <| Y_istore dX8_kindsIn_25 rfl rfl <| X_le (xle_s (xle_s (xle_n (xle_s (xle_n (xle_s (xle_s xle_0))))))) k
theorem bX8_kindsIn_27 {d : Nat} {g : xSt} {r : Option Value × xSt} {a1 a3 : Int64} {a5 a6 : Int32} (W : xWf g) (k1 : (2 * (xI g 76 9)) ≤ a6 → xX (d + 1) mX8_kindsIn 88 [none, none, none, none, none, some (.int a5), none] [] g = some r) (k2 : ¬ ((2 * (xI g 76 9)) ≤ a6) → xX (d + 1) mX8_kindsIn 38 [some (.ref 76), some (.long a1), none, some (.long a3), none, some (.int a5), some (.int a6)] [] g = some r) : xX (d + 1) mX8_kindsIn 27 [some (.ref 76), some (.long a1), none, some (.long a3), none, some (.int a5), some (.int a6)] [] g = some r :=
  Y_iload dX8_kindsIn_27 rfl <| Y_iconst 2 dX8_kindsIn_29 ic_2 <| Y_aload_n dX8_kindsIn_30 rfl <| Y_getI dX8_kindsIn_31 f_7_89 ft_7_9 (xis W 76 7 s_76 (Nat.le_of_ble_eq_true rfl)) <| Y_imul dX8_kindsIn_34 <| Y_ge 88 dX8_kindsIn_35 rfl (fun q => X_le (xle_n (xle_n (xle_n (xle_n (xle_n (xle_s (xle_n xle_0))))))) (k1 q)) (fun q => X_le (xle_s (xle_s (xle_n (xle_s (xle_n (xle_s (xle_s xle_0))))))) (k2 q))
theorem bX8_kindsIn_38 {d : Nat} {g : xSt} {r : Option Value × xSt} {a1 a3 : Int64} {a5 a6 : Int32} (W : xWf g) (k1 : (lg_cmp (a1 &&& (xatL (xL g 80) 240 a6)) 0) = 0 → xX (d + 1) mX8_kindsIn 56 [some (.ref 76), some (.long a1), none, some (.long a3), none, none, some (.int a6)] [.int a5] g = some r) (k2 : ¬ ((lg_cmp (a1 &&& (xatL (xL g 80) 240 a6)) 0) = 0) → xX (d + 1) mX8_kindsIn 74 [some (.ref 76), some (.long a1), none, some (.long a3), none, none, some (.int a6)] [.int a5] g = some r) : xX (d + 1) mX8_kindsIn 38 [some (.ref 76), some (.long a1), none, some (.long a3), none, some (.int a5), some (.int a6)] [] g = some r :=
  Y_iload dX8_kindsIn_38 rfl <| Y_lload_n dX8_kindsIn_40 rfl <| Y_aload_n dX8_kindsIn_41 rfl <| Y_getR dX8_kindsIn_42 f_7_21 (by rw [ft_7_11]; rfl) (xis W 76 7 s_76 (Nat.le_of_ble_eq_true rfl)) (xptr W 76 11 p_76_11) <| Y_iload dX8_kindsIn_45 rfl <| Y_callS1 dX8_kindsIn_47 cl_7_117 rfl rfl rfl rfl rfl (c_atL (xarr W (o := 80) s_80 (Nat.le_of_ble_eq_true rfl))) <| Y_land dX8_kindsIn_50 <| Y_lconst 0 dX8_kindsIn_51 rfl <| Y_lcmp dX8_kindsIn_52 <| Y_ne0 74 dX8_kindsIn_53 rfl (fun q => X_le (xle_s (xle_s (xle_n (xle_s (xle_n (xle_n (xle_s xle_0))))))) (k1 q)) (fun q => X_le (xle_s (xle_s (xle_n (xle_s (xle_n (xle_n (xle_s xle_0))))))) (k2 q))
theorem bX8_kindsIn_56 {d : Nat} {g : xSt} {r : Option Value × xSt} {a1 a3 : Int64} {a6 s0 : Int32} (W : xWf g) (k1 : (lg_cmp (a3 &&& (xatL (xL g 80) 240 (a6 + 1))) 0) = 0 → xX (d + 1) mX8_kindsIn 78 [some (.ref 76), some (.long a1), none, some (.long a3), none, none, some (.int a6)] [.int s0] g = some r) (k2 : ¬ ((lg_cmp (a3 &&& (xatL (xL g 80) 240 (a6 + 1))) 0) = 0) → xX (d + 1) mX8_kindsIn 74 [some (.ref 76), some (.long a1), none, some (.long a3), none, none, some (.int a6)] [.int s0] g = some r) : xX (d + 1) mX8_kindsIn 56 [some (.ref 76), some (.long a1), none, some (.long a3), none, none, some (.int a6)] [.int s0] g = some r :=
  Y_lload_n dX8_kindsIn_56 rfl <| Y_aload_n dX8_kindsIn_57 rfl <| Y_getR dX8_kindsIn_58 f_7_21 (by rw [ft_7_11]; rfl) (xis W 76 7 s_76 (Nat.le_of_ble_eq_true rfl)) (xptr W 76 11 p_76_11) <| Y_iload dX8_kindsIn_61 rfl <| Y_iconst 1 dX8_kindsIn_63 ic_1 <| Y_iadd dX8_kindsIn_64 <| Y_callS1 dX8_kindsIn_65 cl_7_117 rfl rfl rfl rfl rfl (c_atL (xarr W (o := 80) s_80 (Nat.le_of_ble_eq_true rfl))) <| Y_land dX8_kindsIn_68 <| Y_lconst 0 dX8_kindsIn_69 rfl <| Y_lcmp dX8_kindsIn_70 <| Y_eq0 78 dX8_kindsIn_71 rfl (fun q => X_le (xle_s (xle_s (xle_n (xle_s (xle_n (xle_n (xle_s xle_0))))))) (k1 q)) (fun q => X_le (xle_s (xle_s (xle_n (xle_s (xle_n (xle_n (xle_s xle_0))))))) (k2 q))
theorem bX8_kindsIn_74 {d : Nat} {g : xSt} {r : Option Value × xSt} {a1 a3 : Int64} {a6 s0 : Int32} (k : xX (d + 1) mX8_kindsIn 79 [some (.ref 76), some (.long a1), none, some (.long a3), none, none, some (.int a6)] [.int 1, .int s0] g = some r) : xX (d + 1) mX8_kindsIn 74 [some (.ref 76), some (.long a1), none, some (.long a3), none, none, some (.int a6)] [.int s0] g = some r :=
  Y_iconst 1 dX8_kindsIn_74 ic_1 <| Y_goto 79 dX8_kindsIn_75 rfl <| X_le (xle_s (xle_s (xle_n (xle_s (xle_n (xle_n (xle_s xle_0))))))) k
theorem bX8_kindsIn_78 {d : Nat} {g : xSt} {r : Option Value × xSt} {a1 a3 : Int64} {a6 s0 : Int32} (k : xX (d + 1) mX8_kindsIn 79 [some (.ref 76), some (.long a1), none, some (.long a3), none, none, some (.int a6)] [.int 0, .int s0] g = some r) : xX (d + 1) mX8_kindsIn 78 [some (.ref 76), some (.long a1), none, some (.long a3), none, none, some (.int a6)] [.int s0] g = some r :=
  Y_iconst 0 dX8_kindsIn_78 ic_0 <| X_le (xle_s (xle_s (xle_n (xle_s (xle_n (xle_n (xle_s xle_0))))))) k
theorem bX8_kindsIn_79 {d : Nat} {g : xSt} {r : Option Value × xSt} {a1 a3 : Int64} {a6 s1 s0 : Int32} (k : xX (d + 1) mX8_kindsIn 27 [some (.ref 76), some (.long a1), none, some (.long a3), none, some (.int (s1 + s0)), some (.int (a6 + 2))] [] g = some r) : xX (d + 1) mX8_kindsIn 79 [some (.ref 76), some (.long a1), none, some (.long a3), none, none, some (.int a6)] [.int s0, .int s1] g = some r :=
  Y_iadd dX8_kindsIn_79 <| Y_istore dX8_kindsIn_80 rfl rfl <| Y_iinc 2 dX8_kindsIn_82 rfl ic_2 rfl rfl <| Y_goto 27 dX8_kindsIn_85 rfl <| X_le (xle_s (xle_s (xle_n (xle_s (xle_n (xle_s (xle_s xle_0))))))) k
theorem bX8_kindsIn_88 {d : Nat} {g : xSt} {r : Option Value × xSt} {a5 : Int32} (k : r = (some (.int a5), g)) : xX (d + 1) mX8_kindsIn 88 [none, none, none, none, none, some (.int a5), none] [] g = some r :=
  Y_iload dX8_kindsIn_88 rfl <| Y_iret dX8_kindsIn_90 rfl k
theorem bX8_depthOf_0 {d : Nat} {g : xSt} {r : Option Value × xSt} {a0 a1 : Int32} (k : xX d mX8_depthOf 4 [some (.int a0), some (.int a1), some (.int 0), some (.int 1)] [] g = some r) : xX d mX8_depthOf 0 [some (.int a0), some (.int a1), none, none] [] g = some r :=
  Y_iconst 0 dX8_depthOf_0 ic_0 <| Y_istore_n dX8_depthOf_1 rfl rfl <| Y_iconst 1 dX8_depthOf_2 ic_1 <| Y_istore_n dX8_depthOf_3 rfl rfl <| X_le (xle_s (xle_s (xle_s (xle_s xle_0)))) k
theorem bX8_depthOf_4 {d : Nat} {g : xSt} {r : Option Value × xSt} {a0 a1 a2 a3 : Int32} (k1 : a0 ≤ a3 → xX d mX8_depthOf 25 [none, none, some (.int a2), none] [] g = some r) (k2 : ¬ (a0 ≤ a3) → xX d mX8_depthOf 9 [some (.int a0), some (.int a1), some (.int a2), some (.int a3)] [] g = some r) : xX d mX8_depthOf 4 [some (.int a0), some (.int a1), some (.int a2), some (.int a3)] [] g = some r :=
  Y_iload_n dX8_depthOf_4 rfl <| Y_iload_n dX8_depthOf_5 rfl <| Y_ge 25 dX8_depthOf_6 rfl (fun q => X_le (xle_n (xle_n (xle_s (xle_n xle_0)))) (k1 q)) (fun q => X_le (xle_s (xle_s (xle_s (xle_s xle_0)))) (k2 q))
theorem bX8_depthOf_9 {d : Nat} {g : xSt} {r : Option Value × xSt} {a0 a1 a2 a3 : Int32} (k1 : 20 ≤ a2 → xX d mX8_depthOf 25 [none, none, some (.int a2), none] [] g = some r) (k2 : ¬ (20 ≤ a2) → xX d mX8_depthOf 15 [some (.int a0), some (.int a1), some (.int a2), some (.int a3)] [] g = some r) : xX d mX8_depthOf 9 [some (.int a0), some (.int a1), some (.int a2), some (.int a3)] [] g = some r :=
  Y_iload_n dX8_depthOf_9 rfl <| Y_bipush 20 dX8_depthOf_10 bp_20 <| Y_ge 25 dX8_depthOf_12 rfl (fun q => X_le (xle_n (xle_n (xle_s (xle_n xle_0)))) (k1 q)) (fun q => X_le (xle_s (xle_s (xle_s (xle_s xle_0)))) (k2 q))
theorem bX8_depthOf_15 {d : Nat} {g : xSt} {r : Option Value × xSt} {a0 a1 a2 a3 : Int32} (k : xX d mX8_depthOf 4 [some (.int a0), some (.int a1), some (.int (a2 + 1)), some (.int (a3 * a1))] [] g = some r) : xX d mX8_depthOf 15 [some (.int a0), some (.int a1), some (.int a2), some (.int a3)] [] g = some r :=
  Y_iload_n dX8_depthOf_15 rfl <| Y_iload_n dX8_depthOf_16 rfl <| Y_imul dX8_depthOf_17 <| Y_istore_n dX8_depthOf_18 rfl rfl <| Y_iinc 1 dX8_depthOf_19 rfl ic_1 rfl rfl <| Y_goto 4 dX8_depthOf_22 rfl <| X_le (xle_s (xle_s (xle_s (xle_s xle_0)))) k
theorem bX8_depthOf_25 {d : Nat} {g : xSt} {r : Option Value × xSt} {a2 : Int32} (k : r = (some (.int a2), g)) : xX d mX8_depthOf 25 [none, none, some (.int a2), none] [] g = some r :=
  Y_iload_n dX8_depthOf_25 rfl <| Y_iret dX8_depthOf_26 rfl k
theorem bX8_freeThings_0 {d : Nat} {g : xSt} {r : Option Value × xSt} {a1 : Int32} (W : xWf g) (k : xX (d + 1) mX8_freeThings 18 [some (.ref 76), some (.int a1), some (.int (((1 <<< ((xI g 76 3) &&& 31)) - 1) &&& ((xI g 76 5) ^^^ (-1)))), some (.int 0)] [] g = some r) : xX (d + 1) mX8_freeThings 0 [some (.ref 76), some (.int a1), none, none] [] g = some r :=
  Y_iconst 1 dX8_freeThings_0 ic_1 <| Y_aload_n dX8_freeThings_1 rfl <| Y_getI dX8_freeThings_2 f_7_52 ft_7_3 (xis W 76 7 s_76 (Nat.le_of_ble_eq_true rfl)) <| Y_ishl dX8_freeThings_5 <| Y_iconst 1 dX8_freeThings_6 ic_1 <| Y_isub dX8_freeThings_7 <| Y_aload_n dX8_freeThings_8 rfl <| Y_getI dX8_freeThings_9 f_7_59 ft_7_5 (xis W 76 7 s_76 (Nat.le_of_ble_eq_true rfl)) <| Y_iconst (-1) dX8_freeThings_12 ic_m1 <| Y_ixor dX8_freeThings_13 <| Y_iand dX8_freeThings_14 <| Y_istore_n dX8_freeThings_15 rfl rfl <| Y_iconst 0 dX8_freeThings_16 ic_0 <| Y_istore_n dX8_freeThings_17 rfl rfl <| X_le (xle_s (xle_s (xle_s (xle_s xle_0)))) k
theorem bX8_freeThings_18 {d : Nat} {g : xSt} {r : Option Value × xSt} {a1 a2 a3 r20 : Int32} {g20 : xSt} (W : xWf g) (hk20 : xCallM d mX8_pairs [.ref 76] g = some (some (.int r20), g20)) (W20 : xWf g20) (k1 : r20 ≤ a3 → xX (d + 1) mX8_freeThings 66 [none, none, some (.int a2), none] [] g20 = some r) (k2 : ¬ (r20 ≤ a3) → xX (d + 1) mX8_freeThings 26 [some (.ref 76), some (.int a1), some (.int a2), some (.int a3)] [] g20 = some r) : xX (d + 1) mX8_freeThings 18 [some (.ref 76), some (.int a1), some (.int a2), some (.int a3)] [] g = some r :=
  Y_iload_n dX8_freeThings_18 rfl <| Y_aload_n dX8_freeThings_19 rfl <| Y_callV1 dX8_freeThings_20 cl_7_129 rfl rfl (xis W 76 7 s_76 (Nat.le_of_ble_eq_true rfl)) rfl rfl rfl (hk20) <| Y_ge 66 dX8_freeThings_23 rfl (fun q => X_le (xle_n (xle_n (xle_s (xle_n xle_0)))) (k1 q)) (fun q => X_le (xle_s (xle_s (xle_s (xle_s xle_0)))) (k2 q))
theorem bX8_freeThings_26 {d : Nat} {g : xSt} {r : Option Value × xSt} {a1 a2 a3 : Int32} (k1 : (xbit a1 a3) = 0 → xX (d + 1) mX8_freeThings 60 [some (.ref 76), some (.int a1), some (.int a2), some (.int a3)] [] g = some r) (k2 : ¬ ((xbit a1 a3) = 0) → xX (d + 1) mX8_freeThings 34 [some (.ref 76), some (.int a1), some (.int a2), some (.int a3)] [] g = some r) : xX (d + 1) mX8_freeThings 26 [some (.ref 76), some (.int a1), some (.int a2), some (.int a3)] [] g = some r :=
  Y_iload_n dX8_freeThings_26 rfl <| Y_iload_n dX8_freeThings_27 rfl <| Y_callS1 dX8_freeThings_28 cl_7_105 rfl rfl rfl rfl rfl (c_xbit) <| Y_eq0 60 dX8_freeThings_31 rfl (fun q => X_le (xle_s (xle_s (xle_s (xle_s xle_0)))) (k1 q)) (fun q => X_le (xle_s (xle_s (xle_s (xle_s xle_0)))) (k2 q))
theorem bX8_freeThings_34 {d : Nat} {g : xSt} {r : Option Value × xSt} {a1 a2 a3 r38 r48 : Int32} {g38 g48 : xSt} (W : xWf g) (hk38 : xCallM d mX8_codeOf [.ref 76, .int a3] g = some (some (.int r38), g38)) (W38 : xWf g38) (hk48 : xCallM d mX8_codeOf [.ref 76, .int a3] g38 = some (some (.int r48), g48)) (W48 : xWf g48) (k : xX (d + 1) mX8_freeThings 60 [some (.ref 76), some (.int a1), some (.int (a2 &&& (((1 <<< ((r38 / 10) &&& 31)) ||| (1 <<< ((r48 - r48 / 10 * 10) &&& 31))) ^^^ (-1)))), some (.int a3)] [] g48 = some r) : xX (d + 1) mX8_freeThings 34 [some (.ref 76), some (.int a1), some (.int a2), some (.int a3)] [] g = some r :=
  Y_iload_n dX8_freeThings_34 rfl <| Y_iconst 1 dX8_freeThings_35 ic_1 <| Y_aload_n dX8_freeThings_36 rfl <| Y_iload_n dX8_freeThings_37 rfl <| Y_callV1 dX8_freeThings_38 cl_7_158 rfl rfl (xis W 76 7 s_76 (Nat.le_of_ble_eq_true rfl)) rfl rfl rfl (hk38) <| Y_bipush 10 dX8_freeThings_41 bp_10 <| Y_idiv dX8_freeThings_43 (by decide) <| Y_ishl dX8_freeThings_44 <| Y_iconst 1 dX8_freeThings_45 ic_1 <| Y_aload_n dX8_freeThings_46 rfl <| Y_iload_n dX8_freeThings_47 rfl <| Y_callV1 dX8_freeThings_48 cl_7_158 rfl rfl (xis W38 76 7 s_76 (Nat.le_of_ble_eq_true rfl)) rfl rfl rfl (hk48) <| Y_bipush 10 dX8_freeThings_51 bp_10 <| Y_irem dX8_freeThings_53 (by decide) <| Y_ishl dX8_freeThings_54 <| Y_ior dX8_freeThings_55 <| Y_iconst (-1) dX8_freeThings_56 ic_m1 <| Y_ixor dX8_freeThings_57 <| Y_iand dX8_freeThings_58 <| Y_istore_n dX8_freeThings_59 rfl rfl <| X_le (xle_s (xle_s (xle_s (xle_s xle_0)))) k
theorem bX8_freeThings_60 {d : Nat} {g : xSt} {r : Option Value × xSt} {a1 a2 a3 : Int32} (k : xX (d + 1) mX8_freeThings 18 [some (.ref 76), some (.int a1), some (.int a2), some (.int (a3 + 1))] [] g = some r) : xX (d + 1) mX8_freeThings 60 [some (.ref 76), some (.int a1), some (.int a2), some (.int a3)] [] g = some r :=
  Y_iinc 1 dX8_freeThings_60 rfl ic_1 rfl rfl <| Y_goto 18 dX8_freeThings_63 rfl <| X_le (xle_s (xle_s (xle_s (xle_s xle_0)))) k
theorem bX8_freeThings_66 {d : Nat} {g : xSt} {r : Option Value × xSt} {a2 : Int32} (k : r = (some (.int a2), g)) : xX (d + 1) mX8_freeThings 66 [none, none, some (.int a2), none] [] g = some r :=
  Y_iload_n dX8_freeThings_66 rfl <| Y_iret dX8_freeThings_67 rfl k
theorem bX8_codeOf_0 {d : Nat} {g : xSt} {r : Option Value × xSt} {a1 : Int32} (W : xWf g) (k : r = (some (.int (xat (xI g 82) 10 a1)), g)) : xX (d + 1) mX8_codeOf 0 [some (.ref 76), some (.int a1)] [] g = some r :=
  Y_aload_n dX8_codeOf_0 rfl <| Y_getR dX8_codeOf_1 f_7_30 (by rw [ft_7_13]; rfl) (xis W 76 7 s_76 (Nat.le_of_ble_eq_true rfl)) (xptr W 76 13 p_76_13) <| Y_iload_n dX8_codeOf_4 rfl <| Y_callS1 dX8_codeOf_5 cl_7_101 rfl rfl rfl rfl rfl (c_at (xarr W (o := 82) s_82 (Nat.le_of_ble_eq_true rfl))) <| Y_iret dX8_codeOf_8 rfl k
theorem bX8_isFirstLike_0 {d : Nat} {g : xSt} {r : Option Value × xSt} {a1 a2 r2 r11 : Int32} {g2 g11 : xSt} (W : xWf g) (hk2 : xCallM (d + 1) mX8_codeOf [.ref 76, .int a1] g = some (some (.int r2), g2)) (W2 : xWf g2) (hk11 : xCallM (d + 1) mX8_codeOf [.ref 76, .int a1] g2 = some (some (.int r11), g11)) (W11 : xWf g11) (k1 : (xbit a2 (r2 / 10)) = 0 → xX (d + 2) mX8_isFirstLike 36 [none, none, some (.int a2), some (.int (r2 / 10)), some (.int (r11 - r11 / 10 * 10)), none] [] g11 = some r) (k2 : ¬ ((xbit a2 (r2 / 10)) = 0) → xX (d + 2) mX8_isFirstLike 27 [none, none, some (.int a2), some (.int (r2 / 10)), some (.int (r11 - r11 / 10 * 10)), none] [] g11 = some r) : xX (d + 2) mX8_isFirstLike 0 [some (.ref 76), some (.int a1), some (.int a2), none, none, none] [] g = some r :=
  Y_aload_n dX8_isFirstLike_0 rfl <| Y_iload_n dX8_isFirstLike_1 rfl <| Y_callV1 dX8_isFirstLike_2 cl_7_158 rfl rfl (xis W 76 7 s_76 (Nat.le_of_ble_eq_true rfl)) rfl rfl rfl (hk2) <| Y_bipush 10 dX8_isFirstLike_5 bp_10 <| Y_idiv dX8_isFirstLike_7 (by decide) <| Y_istore_n dX8_isFirstLike_8 rfl rfl <| Y_aload_n dX8_isFirstLike_9 rfl <| Y_iload_n dX8_isFirstLike_10 rfl <| Y_callV1 dX8_isFirstLike_11 cl_7_158 rfl rfl (xis W2 76 7 s_76 (Nat.le_of_ble_eq_true rfl)) rfl rfl rfl (hk11) <| Y_bipush 10 dX8_isFirstLike_14 bp_10 <| Y_irem dX8_isFirstLike_16 (by decide) <| Y_istore dX8_isFirstLike_17 rfl rfl <| Y_iload_n dX8_isFirstLike_19 rfl <| Y_iload_n dX8_isFirstLike_20 rfl <| Y_callS1 dX8_isFirstLike_21 cl_7_105 rfl rfl rfl rfl rfl (c_xbit) <| Y_eq0 36 dX8_isFirstLike_24 rfl (fun q => X_le (xle_n (xle_n (xle_s (xle_s (xle_s (xle_n xle_0)))))) (k1 q)) (fun q => X_le (xle_n (xle_n (xle_s (xle_s (xle_s (xle_n xle_0)))))) (k2 q))
theorem bX8_isFirstLike_27 {d : Nat} {g : xSt} {r : Option Value × xSt} {a2 a3 a4 : Int32} (k1 : (xlow (Int32.toInt64 a2)) = a3 → xX (d + 2) mX8_isFirstLike 36 [none, none, some (.int a2), some (.int a3), some (.int a4), none] [] g = some r) (k2 : ¬ ((xlow (Int32.toInt64 a2)) = a3) → xX (d + 2) mX8_isFirstLike 40 [none, none, some (.int a2), some (.int a3), some (.int a4), none] [] g = some r) : xX (d + 2) mX8_isFirstLike 27 [none, none, some (.int a2), some (.int a3), some (.int a4), none] [] g = some r :=
  Y_iload_n dX8_isFirstLike_27 rfl <| Y_i2l dX8_isFirstLike_28 <| Y_callS1 dX8_isFirstLike_29 cl_7_197 rfl rfl rfl rfl rfl (c_xlow) <| Y_iload_n dX8_isFirstLike_32 rfl <| Y_ne 40 dX8_isFirstLike_33 rfl (fun q => X_le (xle_n (xle_n (xle_s (xle_s (xle_s (xle_n xle_0)))))) (k1 q)) (fun q => X_le (xle_n (xle_n (xle_s (xle_s (xle_s (xle_n xle_0)))))) (k2 q))
theorem bX8_isFirstLike_36 {d : Nat} {g : xSt} {r : Option Value × xSt} {a2 a3 a4 : Int32} (k : xX (d + 2) mX8_isFirstLike 41 [none, none, some (.int a2), some (.int a3), some (.int a4), none] [.int 1] g = some r) : xX (d + 2) mX8_isFirstLike 36 [none, none, some (.int a2), some (.int a3), some (.int a4), none] [] g = some r :=
  Y_iconst 1 dX8_isFirstLike_36 ic_1 <| Y_goto 41 dX8_isFirstLike_37 rfl <| X_le (xle_n (xle_n (xle_s (xle_s (xle_s (xle_n xle_0)))))) k
theorem bX8_isFirstLike_40 {d : Nat} {g : xSt} {r : Option Value × xSt} {a2 a3 a4 : Int32} (k : xX (d + 2) mX8_isFirstLike 41 [none, none, some (.int a2), some (.int a3), some (.int a4), none] [.int 0] g = some r) : xX (d + 2) mX8_isFirstLike 40 [none, none, some (.int a2), some (.int a3), some (.int a4), none] [] g = some r :=
  Y_iconst 0 dX8_isFirstLike_40 ic_0 <| X_le (xle_n (xle_n (xle_s (xle_s (xle_s (xle_n xle_0)))))) k
theorem bX8_isFirstLike_41 {d : Nat} {g : xSt} {r : Option Value × xSt} {a2 a3 a4 s0 : Int32} (k1 : s0 = 0 → xX (d + 2) mX8_isFirstLike 77 [none, none, none, none, none, none] [] g = some r) (k2 : ¬ (s0 = 0) → xX (d + 2) mX8_isFirstLike 48 [none, none, some (.int a2), some (.int a3), some (.int a4), none] [] g = some r) : xX (d + 2) mX8_isFirstLike 41 [none, none, some (.int a2), some (.int a3), some (.int a4), none] [.int s0] g = some r :=
  Y_istore dX8_isFirstLike_41 rfl rfl <| Y_iload dX8_isFirstLike_43 rfl <| Y_eq0 77 dX8_isFirstLike_45 rfl (fun q => X_le (xle_n (xle_n (xle_n (xle_n (xle_n (xle_n xle_0)))))) (k1 q)) (fun q => X_le (xle_n (xle_n (xle_s (xle_s (xle_s (xle_n xle_0)))))) (k2 q))
theorem bX8_isFirstLike_48 {d : Nat} {g : xSt} {r : Option Value × xSt} {a2 a3 a4 : Int32} (k1 : (xbit a2 a4) = 0 → xX (d + 2) mX8_isFirstLike 73 [none, none, none, none, none, none] [] g = some r) (k2 : ¬ ((xbit a2 a4) = 0) → xX (d + 2) mX8_isFirstLike 57 [none, none, some (.int a2), some (.int a3), some (.int a4), none] [] g = some r) : xX (d + 2) mX8_isFirstLike 48 [none, none, some (.int a2), some (.int a3), some (.int a4), none] [] g = some r :=
  Y_iload_n dX8_isFirstLike_48 rfl <| Y_iload dX8_isFirstLike_49 rfl <| Y_callS1 dX8_isFirstLike_51 cl_7_105 rfl rfl rfl rfl rfl (c_xbit) <| Y_eq0 73 dX8_isFirstLike_54 rfl (fun q => X_le (xle_n (xle_n (xle_n (xle_n (xle_n (xle_n xle_0)))))) (k1 q)) (fun q => X_le (xle_n (xle_n (xle_s (xle_s (xle_s (xle_n xle_0)))))) (k2 q))
theorem bX8_isFirstLike_57 {d : Nat} {g : xSt} {r : Option Value × xSt} {a2 a3 a4 : Int32} (k1 : (xlow (Int32.toInt64 (a2 &&& ((1 <<< (a3 &&& 31)) ^^^ (-1))))) = a4 → xX (d + 2) mX8_isFirstLike 73 [none, none, none, none, none, none] [] g = some r) (k2 : ¬ ((xlow (Int32.toInt64 (a2 &&& ((1 <<< (a3 &&& 31)) ^^^ (-1))))) = a4) → xX (d + 2) mX8_isFirstLike 77 [none, none, none, none, none, none] [] g = some r) : xX (d + 2) mX8_isFirstLike 57 [none, none, some (.int a2), some (.int a3), some (.int a4), none] [] g = some r :=
  Y_iload_n dX8_isFirstLike_57 rfl <| Y_iconst 1 dX8_isFirstLike_58 ic_1 <| Y_iload_n dX8_isFirstLike_59 rfl <| Y_ishl dX8_isFirstLike_60 <| Y_iconst (-1) dX8_isFirstLike_61 ic_m1 <| Y_ixor dX8_isFirstLike_62 <| Y_iand dX8_isFirstLike_63 <| Y_i2l dX8_isFirstLike_64 <| Y_callS1 dX8_isFirstLike_65 cl_7_197 rfl rfl rfl rfl rfl (c_xlow) <| Y_iload dX8_isFirstLike_68 rfl <| Y_ne 77 dX8_isFirstLike_70 rfl (fun q => X_le (xle_n (xle_n (xle_n (xle_n (xle_n (xle_n xle_0)))))) (k1 q)) (fun q => X_le (xle_n (xle_n (xle_n (xle_n (xle_n (xle_n xle_0)))))) (k2 q))
theorem bX8_isFirstLike_73 {d : Nat} {g : xSt} {r : Option Value × xSt}  (k : xX (d + 2) mX8_isFirstLike 78 [none, none, none, none, none, none] [.int 1] g = some r) : xX (d + 2) mX8_isFirstLike 73 [none, none, none, none, none, none] [] g = some r :=
  Y_iconst 1 dX8_isFirstLike_73 ic_1 <| Y_goto 78 dX8_isFirstLike_74 rfl <| X_le (xle_n (xle_n (xle_n (xle_n (xle_n (xle_n xle_0)))))) k
theorem bX8_isFirstLike_77 {d : Nat} {g : xSt} {r : Option Value × xSt}  (k : xX (d + 2) mX8_isFirstLike 78 [none, none, none, none, none, none] [.int 0] g = some r) : xX (d + 2) mX8_isFirstLike 77 [none, none, none, none, none, none] [] g = some r :=
  Y_iconst 0 dX8_isFirstLike_77 ic_0 <| X_le (xle_n (xle_n (xle_n (xle_n (xle_n (xle_n xle_0)))))) k
theorem bX8_isFirstLike_78 {d : Nat} {g : xSt} {r : Option Value × xSt} {s0 : Int32} (hz78 : s0 = 0 ∨ s0 = 1) (k : r = (some (.int s0), g)) : xX (d + 2) mX8_isFirstLike 78 [none, none, none, none, none, none] [.int s0] g = some r :=
  Y_zret dX8_isFirstLike_78 rfl (hz78) k
theorem bX8_worstBehind_0 {d : Nat} {g : xSt} {r : Option Value × xSt} {a1 a6 a7 a8 r11 : Int32} {a2 a4 : Int64} {g11 : xSt} (W : xWf g) (hk11 : xCallM d mX8_joinsFor [.ref 76, .int (a6 ||| (1 <<< (a1 &&& 31)))] g = some (some (.int r11), g11)) (W11 : xWf g11) (k : xX (d + 1) mX8_worstBehind 22 [some (.ref 76), some (.int a1), some (.long a2), none, some (.long a4), none, none, some (.int a7), some (.int a8), some (.int (a6 ||| (1 <<< (a1 &&& 31)))), some (.int r11), some (.int 0), some (.int a1), none, none, none, none] [] g11 = some r) : xX (d + 1) mX8_worstBehind 0 [some (.ref 76), some (.int a1), some (.long a2), none, some (.long a4), none, some (.int a6), some (.int a7), some (.int a8), none, none, none, none, none, none, none, none] [] g = some r :=
  Y_iload dX8_worstBehind_0 rfl <| Y_iconst 1 dX8_worstBehind_2 ic_1 <| Y_iload_n dX8_worstBehind_3 rfl <| Y_ishl dX8_worstBehind_4 <| Y_ior dX8_worstBehind_5 <| Y_istore dX8_worstBehind_6 rfl rfl <| Y_aload_n dX8_worstBehind_8 rfl <| Y_iload dX8_worstBehind_9 rfl <| Y_callV1 dX8_worstBehind_11 cl_7_175 rfl rfl (xis W 76 7 s_76 (Nat.le_of_ble_eq_true rfl)) rfl rfl rfl (hk11) <| Y_istore dX8_worstBehind_14 rfl rfl <| Y_iconst 0 dX8_worstBehind_16 ic_0 <| Y_istore dX8_worstBehind_17 rfl rfl <| Y_iload_n dX8_worstBehind_19 rfl <| Y_istore dX8_worstBehind_20 rfl rfl <| X_le (xle_s (xle_s (xle_s (xle_n (xle_s (xle_n (xle_n (xle_s (xle_s (xle_s (xle_s (xle_s (xle_s (xle_n (xle_n (xle_n (xle_n xle_0))))))))))))))))) k
theorem bX8_worstBehind_22 {d : Nat} {g : xSt} {r : Option Value × xSt} {a1 a7 a8 a9 a10 a11 a12 : Int32} {a2 a4 : Int64} (k1 : 30 ≤ a12 → xX (d + 1) mX8_worstBehind 103 [some (.ref 76), some (.int a1), some (.long a2), none, some (.long a4), none, none, some (.int a7), some (.int a8), some (.int a9), none, some (.int a11), none, none, none, none, none] [] g = some r) (k2 : ¬ (30 ≤ a12) → xX (d + 1) mX8_worstBehind 29 [some (.ref 76), some (.int a1), some (.long a2), none, some (.long a4), none, none, some (.int a7), some (.int a8), some (.int a9), some (.int a10), some (.int a11), some (.int a12), none, none, none, none] [] g = some r) : xX (d + 1) mX8_worstBehind 22 [some (.ref 76), some (.int a1), some (.long a2), none, some (.long a4), none, none, some (.int a7), some (.int a8), some (.int a9), some (.int a10), some (.int a11), some (.int a12), none, none, none, none] [] g = some r :=
  Y_iload dX8_worstBehind_22 rfl <| Y_bipush 30 dX8_worstBehind_24 bp_30 <| Y_ge 103 dX8_worstBehind_26 rfl (fun q => X_le (xle_s (xle_s (xle_s (xle_n (xle_s (xle_n (xle_n (xle_s (xle_s (xle_s (xle_n (xle_s (xle_n (xle_n (xle_n (xle_n (xle_n xle_0))))))))))))))))) (k1 q)) (fun q => X_le (xle_s (xle_s (xle_s (xle_n (xle_s (xle_n (xle_n (xle_s (xle_s (xle_s (xle_s (xle_s (xle_s (xle_n (xle_n (xle_n (xle_n xle_0))))))))))))))))) (k2 q))
theorem bX8_worstBehind_29 {d : Nat} {g : xSt} {r : Option Value × xSt} {a1 a7 a8 a9 a10 a11 a12 : Int32} {a2 a4 : Int64} (W : xWf g) (k1 : (lg_cmp (a2 &&& (xatL (xL g 81) 60 (2 * a12))) a2) = 0 → xX (d + 1) mX8_worstBehind 69 [some (.ref 76), some (.int a1), some (.long a2), none, some (.long a4), none, none, some (.int a7), some (.int a8), some (.int a9), some (.int a10), some (.int a11), some (.int a12), some (.long (a2 &&& (xatL (xL g 81) 60 (2 * a12)))), none, some (.long (a4 &&& (xatL (xL g 81) 60 ((2 * a12) + 1)))), none] [] g = some r) (k2 : ¬ ((lg_cmp (a2 &&& (xatL (xL g 81) 60 (2 * a12))) a2) = 0) → xX (d + 1) mX8_worstBehind 80 [some (.ref 76), some (.int a1), some (.long a2), none, some (.long a4), none, none, some (.int a7), some (.int a8), some (.int a9), some (.int a10), some (.int a11), some (.int a12), some (.long (a2 &&& (xatL (xL g 81) 60 (2 * a12)))), none, some (.long (a4 &&& (xatL (xL g 81) 60 ((2 * a12) + 1)))), none] [] g = some r) : xX (d + 1) mX8_worstBehind 29 [some (.ref 76), some (.int a1), some (.long a2), none, some (.long a4), none, none, some (.int a7), some (.int a8), some (.int a9), some (.int a10), some (.int a11), some (.int a12), none, none, none, none] [] g = some r :=
  Y_lload_n dX8_worstBehind_29 rfl <| Y_aload_n dX8_worstBehind_30 rfl <| Y_getR dX8_worstBehind_31 f_7_27 (by rw [ft_7_12]; rfl) (xis W 76 7 s_76 (Nat.le_of_ble_eq_true rfl)) (xptr W 76 12 p_76_12) <| Y_iconst 2 dX8_worstBehind_34 ic_2 <| Y_iload dX8_worstBehind_35 rfl <| Y_imul dX8_worstBehind_37 <| Y_callS1 dX8_worstBehind_38 cl_7_117 rfl rfl rfl rfl rfl (c_atL (xarr W (o := 81) s_81 (Nat.le_of_ble_eq_true rfl))) <| Y_land dX8_worstBehind_41 <| Y_lstore dX8_worstBehind_42 rfl rfl <| Y_lload dX8_worstBehind_44 rfl <| Y_aload_n dX8_worstBehind_46 rfl <| Y_getR dX8_worstBehind_47 f_7_27 (by rw [ft_7_12]; rfl) (xis W 76 7 s_76 (Nat.le_of_ble_eq_true rfl)) (xptr W 76 12 p_76_12) <| Y_iconst 2 dX8_worstBehind_50 ic_2 <| Y_iload dX8_worstBehind_51 rfl <| Y_imul dX8_worstBehind_53 <| Y_iconst 1 dX8_worstBehind_54 ic_1 <| Y_iadd dX8_worstBehind_55 <| Y_callS1 dX8_worstBehind_56 cl_7_117 rfl rfl rfl rfl rfl (c_atL (xarr W (o := 81) s_81 (Nat.le_of_ble_eq_true rfl))) <| Y_land dX8_worstBehind_59 <| Y_lstore dX8_worstBehind_60 rfl rfl <| Y_lload dX8_worstBehind_62 rfl <| Y_lload_n dX8_worstBehind_64 rfl <| Y_lcmp dX8_worstBehind_65 <| Y_ne0 80 dX8_worstBehind_66 rfl (fun q => X_le (xle_s (xle_s (xle_s (xle_n (xle_s (xle_n (xle_n (xle_s (xle_s (xle_s (xle_s (xle_s (xle_s (xle_s (xle_n (xle_s (xle_n xle_0))))))))))))))))) (k1 q)) (fun q => X_le (xle_s (xle_s (xle_s (xle_n (xle_s (xle_n (xle_n (xle_s (xle_s (xle_s (xle_s (xle_s (xle_s (xle_s (xle_n (xle_s (xle_n xle_0))))))))))))))))) (k2 q))
theorem bX8_worstBehind_69 {d : Nat} {g : xSt} {r : Option Value × xSt} {a1 a7 a8 a9 a10 a11 a12 : Int32} {a2 a4 a13 a15 : Int64} (k1 : (lg_cmp a15 a4) = 0 → xX (d + 1) mX8_worstBehind 77 [none, none, none, none, none, none, none, none, none, none, none, none, none, none, none, none, none] [] g = some r) (k2 : ¬ ((lg_cmp a15 a4) = 0) → xX (d + 1) mX8_worstBehind 80 [some (.ref 76), some (.int a1), some (.long a2), none, some (.long a4), none, none, some (.int a7), some (.int a8), some (.int a9), some (.int a10), some (.int a11), some (.int a12), some (.long a13), none, some (.long a15), none] [] g = some r) : xX (d + 1) mX8_worstBehind 69 [some (.ref 76), some (.int a1), some (.long a2), none, some (.long a4), none, none, some (.int a7), some (.int a8), some (.int a9), some (.int a10), some (.int a11), some (.int a12), some (.long a13), none, some (.long a15), none] [] g = some r :=
  Y_lload dX8_worstBehind_69 rfl <| Y_lload dX8_worstBehind_71 rfl <| Y_lcmp dX8_worstBehind_73 <| Y_ne0 80 dX8_worstBehind_74 rfl (fun q => X_le (xle_n (xle_n (xle_n (xle_n (xle_n (xle_n (xle_n (xle_n (xle_n (xle_n (xle_n (xle_n (xle_n (xle_n (xle_n (xle_n (xle_n xle_0))))))))))))))))) (k1 q)) (fun q => X_le (xle_s (xle_s (xle_s (xle_n (xle_s (xle_n (xle_n (xle_s (xle_s (xle_s (xle_s (xle_s (xle_s (xle_s (xle_n (xle_s (xle_n xle_0))))))))))))))))) (k2 q))
theorem bX8_worstBehind_77 {d : Nat} {g : xSt} {r : Option Value × xSt}  (k : r = (some (.int 1000000), g)) : xX (d + 1) mX8_worstBehind 77 [none, none, none, none, none, none, none, none, none, none, none, none, none, none, none, none, none] [] g = some r :=
  Y_ldc dX8_worstBehind_77 ki_7_150 <| Y_iret dX8_worstBehind_79 rfl k
theorem bX8_worstBehind_80 {d : Nat} {g : xSt} {r : Option Value × xSt} {a1 a7 a8 a9 a10 a11 a12 r89 : Int32} {a2 a4 a13 a15 : Int64} {g89 : xSt} (W : xWf g) (hk89 : xCallM d mX8_leastWorst [.ref 76, .long a13, .long a15, .int a10] g = some (some (.int r89), g89)) (W89 : xWf g89) (k : xX (d + 1) mX8_worstBehind 22 [some (.ref 76), some (.int a1), some (.long a2), none, some (.long a4), none, none, some (.int a7), some (.int a8), some (.int a9), some (.int a10), some (.int (imax a11 r89)), some (.int (a12 + 10)), none, none, none, none] [] g89 = some r) : xX (d + 1) mX8_worstBehind 80 [some (.ref 76), some (.int a1), some (.long a2), none, some (.long a4), none, none, some (.int a7), some (.int a8), some (.int a9), some (.int a10), some (.int a11), some (.int a12), some (.long a13), none, some (.long a15), none] [] g = some r :=
  Y_iload dX8_worstBehind_80 rfl <| Y_aload_n dX8_worstBehind_82 rfl <| Y_lload dX8_worstBehind_83 rfl <| Y_lload dX8_worstBehind_85 rfl <| Y_iload dX8_worstBehind_87 rfl <| Y_callV1 dX8_worstBehind_89 cl_7_178 rfl rfl (xis W 76 7 s_76 (Nat.le_of_ble_eq_true rfl)) rfl rfl rfl (hk89) <| Y_max dX8_worstBehind_92 km_7_126 kn_7_126 rfl <| Y_istore dX8_worstBehind_95 rfl rfl <| Y_iinc 10 dX8_worstBehind_97 rfl ic_10 rfl rfl <| Y_goto 22 dX8_worstBehind_100 rfl <| X_le (xle_s (xle_s (xle_s (xle_n (xle_s (xle_n (xle_n (xle_s (xle_s (xle_s (xle_s (xle_s (xle_s (xle_n (xle_n (xle_n (xle_n xle_0))))))))))))))))) k
theorem bX8_worstBehind_103 {d : Nat} {g : xSt} {r : Option Value × xSt} {a1 a7 a8 a9 a11 : Int32} {a2 a4 : Int64} (k : xX (d + 1) mX8_worstBehind 106 [some (.ref 76), none, some (.long a2), none, some (.long a4), none, none, some (.int a7), some (.int a8), some (.int a9), none, some (.int a11), some (.int a1), none, none, none, none] [] g = some r) : xX (d + 1) mX8_worstBehind 103 [some (.ref 76), some (.int a1), some (.long a2), none, some (.long a4), none, none, some (.int a7), some (.int a8), some (.int a9), none, some (.int a11), none, none, none, none, none] [] g = some r :=
  Y_iload_n dX8_worstBehind_103 rfl <| Y_istore dX8_worstBehind_104 rfl rfl <| X_le (xle_s (xle_n (xle_s (xle_n (xle_s (xle_n (xle_n (xle_s (xle_s (xle_s (xle_n (xle_s (xle_s (xle_n (xle_n (xle_n (xle_n xle_0))))))))))))))))) k
theorem bX8_worstBehind_106 {d : Nat} {g : xSt} {r : Option Value × xSt} {a2 a4 : Int64} {a7 a8 a9 a11 a12 : Int32} (k1 : 30 ≤ a12 → xX (d + 1) mX8_worstBehind 184 [none, none, none, none, none, none, none, none, none, none, none, some (.int a11), none, none, none, none, none] [] g = some r) (k2 : ¬ (30 ≤ a12) → xX (d + 1) mX8_worstBehind 113 [some (.ref 76), none, some (.long a2), none, some (.long a4), none, none, some (.int a7), some (.int a8), some (.int a9), none, some (.int a11), some (.int a12), none, none, none, none] [] g = some r) : xX (d + 1) mX8_worstBehind 106 [some (.ref 76), none, some (.long a2), none, some (.long a4), none, none, some (.int a7), some (.int a8), some (.int a9), none, some (.int a11), some (.int a12), none, none, none, none] [] g = some r :=
  Y_iload dX8_worstBehind_106 rfl <| Y_bipush 30 dX8_worstBehind_108 bp_30 <| Y_ge 184 dX8_worstBehind_110 rfl (fun q => X_le (xle_n (xle_n (xle_n (xle_n (xle_n (xle_n (xle_n (xle_n (xle_n (xle_n (xle_n (xle_s (xle_n (xle_n (xle_n (xle_n (xle_n xle_0))))))))))))))))) (k1 q)) (fun q => X_le (xle_s (xle_n (xle_s (xle_n (xle_s (xle_n (xle_n (xle_s (xle_s (xle_s (xle_n (xle_s (xle_s (xle_n (xle_n (xle_n (xle_n xle_0))))))))))))))))) (k2 q))
theorem bX8_worstBehind_113 {d : Nat} {g : xSt} {r : Option Value × xSt} {a2 a4 : Int64} {a7 a8 a9 a11 a12 : Int32} (k1 : a7 ≤ a11 → xX (d + 1) mX8_worstBehind 184 [none, none, none, none, none, none, none, none, none, none, none, some (.int a11), none, none, none, none, none] [] g = some r) (k2 : ¬ (a7 ≤ a11) → xX (d + 1) mX8_worstBehind 120 [some (.ref 76), none, some (.long a2), none, some (.long a4), none, none, some (.int a7), some (.int a8), some (.int a9), none, some (.int a11), some (.int a12), none, none, none, none] [] g = some r) : xX (d + 1) mX8_worstBehind 113 [some (.ref 76), none, some (.long a2), none, some (.long a4), none, none, some (.int a7), some (.int a8), some (.int a9), none, some (.int a11), some (.int a12), none, none, none, none] [] g = some r :=
  Y_iload dX8_worstBehind_113 rfl <| Y_iload dX8_worstBehind_115 rfl <| Y_ge 184 dX8_worstBehind_117 rfl (fun q => X_le (xle_n (xle_n (xle_n (xle_n (xle_n (xle_n (xle_n (xle_n (xle_n (xle_n (xle_n (xle_s (xle_n (xle_n (xle_n (xle_n (xle_n xle_0))))))))))))))))) (k1 q)) (fun q => X_le (xle_s (xle_n (xle_s (xle_n (xle_s (xle_n (xle_n (xle_s (xle_s (xle_s (xle_n (xle_s (xle_s (xle_n (xle_n (xle_n (xle_n xle_0))))))))))))))))) (k2 q))
theorem bX8_worstBehind_120 {d : Nat} {g : xSt} {r : Option Value × xSt} {a2 a4 : Int64} {a7 a8 a9 a11 a12 r170 : Int32} {g170 : xSt} (W : xWf g) (hk170 : xCallM d mX8_worstFrom [.ref 76, .long (a2 &&& (xatL (xL g 81) 60 (2 * a12))), .long (a4 &&& (xatL (xL g 81) 60 ((2 * a12) + 1))), .int a9, .int (a7 - 1), .int (a8 + 1)] g = some (some (.int r170), g170)) (W170 : xWf g170) (k : xX (d + 1) mX8_worstBehind 106 [some (.ref 76), none, some (.long a2), none, some (.long a4), none, none, some (.int a7), some (.int a8), some (.int a9), none, some (.int (imax a11 r170)), some (.int (a12 + 10)), none, none, none, none] [] g170 = some r) : xX (d + 1) mX8_worstBehind 120 [some (.ref 76), none, some (.long a2), none, some (.long a4), none, none, some (.int a7), some (.int a8), some (.int a9), none, some (.int a11), some (.int a12), none, none, none, none] [] g = some r :=
  Y_lload_n dX8_worstBehind_120 rfl <| Y_aload_n dX8_worstBehind_121 rfl <| Y_getR dX8_worstBehind_122 f_7_27 (by rw [ft_7_12]; rfl) (xis W 76 7 s_76 (Nat.le_of_ble_eq_true rfl)) (xptr W 76 12 p_76_12) <| Y_iconst 2 dX8_worstBehind_125 ic_2 <| Y_iload dX8_worstBehind_126 rfl <| Y_imul dX8_worstBehind_128 <| Y_callS1 dX8_worstBehind_129 cl_7_117 rfl rfl rfl rfl rfl (c_atL (xarr W (o := 81) s_81 (Nat.le_of_ble_eq_true rfl))) <| Y_land dX8_worstBehind_132 <| Y_lstore dX8_worstBehind_133 rfl rfl <| Y_lload dX8_worstBehind_135 rfl <| Y_aload_n dX8_worstBehind_137 rfl <| Y_getR dX8_worstBehind_138 f_7_27 (by rw [ft_7_12]; rfl) (xis W 76 7 s_76 (Nat.le_of_ble_eq_true rfl)) (xptr W 76 12 p_76_12) <| Y_iconst 2 dX8_worstBehind_141 ic_2 <| Y_iload dX8_worstBehind_142 rfl <| Y_imul dX8_worstBehind_144 <| Y_iconst 1 dX8_worstBehind_145 ic_1 <| Y_iadd dX8_worstBehind_146 <| Y_callS1 dX8_worstBehind_147 cl_7_117 rfl rfl rfl rfl rfl (c_atL (xarr W (o := 81) s_81 (Nat.le_of_ble_eq_true rfl))) <| Y_land dX8_worstBehind_150 <| Y_lstore dX8_worstBehind_151 rfl rfl <| Y_iload dX8_worstBehind_153 rfl <| Y_aload_n dX8_worstBehind_155 rfl <| Y_lload dX8_worstBehind_156 rfl <| Y_lload dX8_worstBehind_158 rfl <| Y_iload dX8_worstBehind_160 rfl <| Y_iload dX8_worstBehind_162 rfl <| Y_iconst 1 dX8_worstBehind_164 ic_1 <| Y_isub dX8_worstBehind_165 <| Y_iload dX8_worstBehind_166 rfl <| Y_iconst 1 dX8_worstBehind_168 ic_1 <| Y_iadd dX8_worstBehind_169 <| Y_callS1 dX8_worstBehind_170 cl_7_143 rfl rfl rfl rfl rfl (hk170) <| Y_max dX8_worstBehind_173 km_7_126 kn_7_126 rfl <| Y_istore dX8_worstBehind_176 rfl rfl <| Y_iinc 10 dX8_worstBehind_178 rfl ic_10 rfl rfl <| Y_goto 106 dX8_worstBehind_181 rfl <| X_le (xle_s (xle_n (xle_s (xle_n (xle_s (xle_n (xle_n (xle_s (xle_s (xle_s (xle_n (xle_s (xle_s (xle_n (xle_n (xle_n (xle_n xle_0))))))))))))))))) k
theorem bX8_worstBehind_184 {d : Nat} {g : xSt} {r : Option Value × xSt} {a11 : Int32} (k : r = (some (.int (1 + a11)), g)) : xX (d + 1) mX8_worstBehind 184 [none, none, none, none, none, none, none, none, none, none, none, some (.int a11), none, none, none, none, none] [] g = some r :=
  Y_iconst 1 dX8_worstBehind_184 ic_1 <| Y_iload dX8_worstBehind_185 rfl <| Y_iadd dX8_worstBehind_187 <| Y_iret dX8_worstBehind_188 rfl k
theorem bX8_nextOfFewest_0 {d : Nat} {g : xSt} {r : Option Value × xSt} {r1 : Int32} {g1 : xSt} (W : xWf g) (hk1 : xCallM d mX8_fewestOfAll [.ref 76] g = some (some (.int r1), g1)) (W1 : xWf g1) (k : xX (d + 1) mX8_nextOfFewest 7 [some (.ref 76), some (.int r1), some (.int 0)] [] g1 = some r) : xX (d + 1) mX8_nextOfFewest 0 [some (.ref 76), none, none] [] g = some r :=
  Y_aload_n dX8_nextOfFewest_0 rfl <| Y_callV1 dX8_nextOfFewest_1 cl_7_151 rfl rfl (xis W 76 7 s_76 (Nat.le_of_ble_eq_true rfl)) rfl rfl rfl (hk1) <| Y_istore_n dX8_nextOfFewest_4 rfl rfl <| Y_iconst 0 dX8_nextOfFewest_5 ic_0 <| Y_istore_n dX8_nextOfFewest_6 rfl rfl <| X_le (xle_s (xle_s (xle_s xle_0))) k
theorem bX8_nextOfFewest_7 {d : Nat} {g : xSt} {r : Option Value × xSt} {a1 a2 r9 : Int32} {g9 : xSt} (W : xWf g) (hk9 : xCallM d mX8_pairs [.ref 76] g = some (some (.int r9), g9)) (W9 : xWf g9) (k1 : r9 ≤ a2 → xX (d + 1) mX8_nextOfFewest 54 [none, none, none] [] g9 = some r) (k2 : ¬ (r9 ≤ a2) → xX (d + 1) mX8_nextOfFewest 15 [some (.ref 76), some (.int a1), some (.int a2)] [] g9 = some r) : xX (d + 1) mX8_nextOfFewest 7 [some (.ref 76), some (.int a1), some (.int a2)] [] g = some r :=
  Y_iload_n dX8_nextOfFewest_7 rfl <| Y_aload_n dX8_nextOfFewest_8 rfl <| Y_callV1 dX8_nextOfFewest_9 cl_7_129 rfl rfl (xis W 76 7 s_76 (Nat.le_of_ble_eq_true rfl)) rfl rfl rfl (hk9) <| Y_ge 54 dX8_nextOfFewest_12 rfl (fun q => X_le (xle_n (xle_n (xle_n xle_0))) (k1 q)) (fun q => X_le (xle_s (xle_s (xle_s xle_0))) (k2 q))
theorem bX8_nextOfFewest_15 {d : Nat} {g : xSt} {r : Option Value × xSt} {a1 a2 : Int32} (k1 : a1 ≤ 0 → xX (d + 1) mX8_nextOfFewest 54 [none, none, none] [] g = some r) (k2 : ¬ (a1 ≤ 0) → xX (d + 1) mX8_nextOfFewest 19 [some (.ref 76), some (.int a1), some (.int a2)] [] g = some r) : xX (d + 1) mX8_nextOfFewest 15 [some (.ref 76), some (.int a1), some (.int a2)] [] g = some r :=
  Y_iload_n dX8_nextOfFewest_15 rfl <| Y_le0 54 dX8_nextOfFewest_16 rfl (fun q => X_le (xle_n (xle_n (xle_n xle_0))) (k1 q)) (fun q => X_le (xle_s (xle_s (xle_s xle_0))) (k2 q))
theorem bX8_nextOfFewest_19 {d : Nat} {g : xSt} {r : Option Value × xSt} {a1 a2 r30 r35 : Int32} {r22 r26 : Int64} {g22 g26 g30 g35 : xSt} (W : xWf g) (hk22 : xCallM d mX8_allLow [.ref 76] g = some (some (.long r22), g22)) (W22 : xWf g22) (hk26 : xCallM d mX8_allHigh [.ref 76] g22 = some (some (.long r26), g26)) (W26 : xWf g26) (hk30 : xCallM d mX8_surePairs [.ref 76] g26 = some (some (.int r30), g30)) (W30 : xWf g30) (hk35 : xCallM d mX8_worstBehind [.ref 76, .int a2, .long r22, .long r26, .int r30, .int a1, .int 0] g30 = some (some (.int r35), g35)) (W35 : xWf g35) (k1 : a1 < r35 → xX (d + 1) mX8_nextOfFewest 48 [some (.ref 76), some (.int a1), some (.int a2)] [] g35 = some r) (k2 : ¬ (a1 < r35) → xX (d + 1) mX8_nextOfFewest 42 [some (.ref 76), none, some (.int a2)] [] g35 = some r) : xX (d + 1) mX8_nextOfFewest 19 [some (.ref 76), some (.int a1), some (.int a2)] [] g = some r :=
  Y_aload_n dX8_nextOfFewest_19 rfl <| Y_iload_n dX8_nextOfFewest_20 rfl <| Y_aload_n dX8_nextOfFewest_21 rfl <| Y_callV1 dX8_nextOfFewest_22 cl_7_133 rfl rfl (xis W 76 7 s_76 (Nat.le_of_ble_eq_true rfl)) rfl rfl rfl (hk22) <| Y_aload_n dX8_nextOfFewest_25 rfl <| Y_callV1 dX8_nextOfFewest_26 cl_7_137 rfl rfl (xis W22 76 7 s_76 (Nat.le_of_ble_eq_true rfl)) rfl rfl rfl (hk26) <| Y_aload_n dX8_nextOfFewest_29 rfl <| Y_callV1 dX8_nextOfFewest_30 cl_7_140 rfl rfl (xis W26 76 7 s_76 (Nat.le_of_ble_eq_true rfl)) rfl rfl rfl (hk30) <| Y_iload_n dX8_nextOfFewest_33 rfl <| Y_iconst 0 dX8_nextOfFewest_34 ic_0 <| Y_callS1 dX8_nextOfFewest_35 cl_7_154 rfl rfl rfl rfl rfl (hk35) <| Y_iload_n dX8_nextOfFewest_38 rfl <| Y_gt 48 dX8_nextOfFewest_39 rfl (fun q => X_le (xle_s (xle_s (xle_s xle_0))) (k1 q)) (fun q => X_le (xle_s (xle_n (xle_s xle_0))) (k2 q))
theorem bX8_nextOfFewest_42 {d : Nat} {g : xSt} {r : Option Value × xSt} {a2 r44 : Int32} {g44 : xSt} (W : xWf g) (hk44 : xCallM d mX8_codeOf [.ref 76, .int a2] g = some (some (.int r44), g44)) (W44 : xWf g44) (k : r = (some (.int r44), g44)) : xX (d + 1) mX8_nextOfFewest 42 [some (.ref 76), none, some (.int a2)] [] g = some r :=
  Y_aload_n dX8_nextOfFewest_42 rfl <| Y_iload_n dX8_nextOfFewest_43 rfl <| Y_callV1 dX8_nextOfFewest_44 cl_7_158 rfl rfl (xis W 76 7 s_76 (Nat.le_of_ble_eq_true rfl)) rfl rfl rfl (hk44) <| Y_iret dX8_nextOfFewest_47 rfl k
theorem bX8_nextOfFewest_48 {d : Nat} {g : xSt} {r : Option Value × xSt} {a1 a2 : Int32} (k : xX (d + 1) mX8_nextOfFewest 7 [some (.ref 76), some (.int a1), some (.int (a2 + 1))] [] g = some r) : xX (d + 1) mX8_nextOfFewest 48 [some (.ref 76), some (.int a1), some (.int a2)] [] g = some r :=
  Y_iinc 1 dX8_nextOfFewest_48 rfl ic_1 rfl rfl <| Y_goto 7 dX8_nextOfFewest_51 rfl <| X_le (xle_s (xle_s (xle_s xle_0))) k
theorem bX8_nextOfFewest_54 {d : Nat} {g : xSt} {r : Option Value × xSt}  (k : r = (some (.int (-1)), g)) : xX (d + 1) mX8_nextOfFewest 54 [none, none, none] [] g = some r :=
  Y_iconst (-1) dX8_nextOfFewest_54 ic_m1 <| Y_iret dX8_nextOfFewest_55 rfl k
theorem bX8_sumOfAll_0 {d : Nat} {g : xSt} {r : Option Value × xSt} {r2 r6 r21 r25 : Int64} {g2 g6 g10 g15 g21 g25 g29 g34 : xSt} {r10 r15 r29 r34 : Int32} (W : xWf g) (hk2 : xCallM d mX8_allLow [.ref 76] g = some (some (.long r2), g2)) (W2 : xWf g2) (hk6 : xCallM d mX8_allHigh [.ref 76] g2 = some (some (.long r6), g6)) (W6 : xWf g6) (hk10 : xCallM d mX8_surePairs [.ref 76] g6 = some (some (.int r10), g10)) (W10 : xWf g10) (hk15 : xCallM d mX8_sumFrom [.ref 76, .long r2, .long r6, .int r10, .int 0, .int 0] g10 = some (some (.int r15), g15)) (W15 : xWf g15) (hk21 : xCallM d mX8_allLow [.ref 76] g15 = some (some (.long r21), g21)) (W21 : xWf g21) (hk25 : xCallM d mX8_allHigh [.ref 76] g21 = some (some (.long r25), g25)) (W25 : xWf g25) (hk29 : xCallM d mX8_surePairs [.ref 76] g25 = some (some (.int r29), g29)) (W29 : xWf g29) (hk34 : xCallM d mX8_sumFrom [.ref 76, .long r21, .long r25, .int r29, .int r15, .int 0] g29 = some (some (.int r34), g34)) (W34 : xWf g34) (k1 : r15 < r34 → xX (d + 1) mX8_sumOfAll 47 [some (.ref 76), none, none] [] g34 = some r) (k2 : ¬ (r15 < r34) → xX (d + 1) mX8_sumOfAll 43 [none, none, some (.int r34)] [] g34 = some r) : xX (d + 1) mX8_sumOfAll 0 [some (.ref 76), none, none] [] g = some r :=
  Y_aload_n dX8_sumOfAll_0 rfl <| Y_aload_n dX8_sumOfAll_1 rfl <| Y_callV1 dX8_sumOfAll_2 cl_7_133 rfl rfl (xis W 76 7 s_76 (Nat.le_of_ble_eq_true rfl)) rfl rfl rfl (hk2) <| Y_aload_n dX8_sumOfAll_5 rfl <| Y_callV1 dX8_sumOfAll_6 cl_7_137 rfl rfl (xis W2 76 7 s_76 (Nat.le_of_ble_eq_true rfl)) rfl rfl rfl (hk6) <| Y_aload_n dX8_sumOfAll_9 rfl <| Y_callV1 dX8_sumOfAll_10 cl_7_140 rfl rfl (xis W6 76 7 s_76 (Nat.le_of_ble_eq_true rfl)) rfl rfl rfl (hk10) <| Y_iconst 0 dX8_sumOfAll_13 ic_0 <| Y_iconst 0 dX8_sumOfAll_14 ic_0 <| Y_callS1 dX8_sumOfAll_15 cl_7_147 rfl rfl rfl rfl rfl (hk15) <| Y_istore_n dX8_sumOfAll_18 rfl rfl <| Y_aload_n dX8_sumOfAll_19 rfl <| Y_aload_n dX8_sumOfAll_20 rfl <| Y_callV1 dX8_sumOfAll_21 cl_7_133 rfl rfl (xis W15 76 7 s_76 (Nat.le_of_ble_eq_true rfl)) rfl rfl rfl (hk21) <| Y_aload_n dX8_sumOfAll_24 rfl <| Y_callV1 dX8_sumOfAll_25 cl_7_137 rfl rfl (xis W21 76 7 s_76 (Nat.le_of_ble_eq_true rfl)) rfl rfl rfl (hk25) <| Y_aload_n dX8_sumOfAll_28 rfl <| Y_callV1 dX8_sumOfAll_29 cl_7_140 rfl rfl (xis W25 76 7 s_76 (Nat.le_of_ble_eq_true rfl)) rfl rfl rfl (hk29) <| Y_iload_n dX8_sumOfAll_32 rfl <| Y_iconst 0 dX8_sumOfAll_33 ic_0 <| Y_callS1 dX8_sumOfAll_34 cl_7_147 rfl rfl rfl rfl rfl (hk34) <| Y_istore_n dX8_sumOfAll_37 rfl rfl <| Y_iload_n dX8_sumOfAll_38 rfl <| Y_iload_n dX8_sumOfAll_39 rfl <| Y_gt 47 dX8_sumOfAll_40 rfl (fun q => X_le (xle_s (xle_n (xle_n xle_0))) (k1 q)) (fun q => X_le (xle_n (xle_n (xle_s xle_0))) (k2 q))
theorem bX8_sumOfAll_43 {d : Nat} {g : xSt} {r : Option Value × xSt} {a2 : Int32} (k : xX (d + 1) mX8_sumOfAll 66 [none, none, none] [.int a2] g = some r) : xX (d + 1) mX8_sumOfAll 43 [none, none, some (.int a2)] [] g = some r :=
  Y_iload_n dX8_sumOfAll_43 rfl <| Y_goto 66 dX8_sumOfAll_44 rfl <| X_le (xle_n (xle_n (xle_n xle_0))) k
theorem bX8_sumOfAll_47 {d : Nat} {g : xSt} {r : Option Value × xSt} {r49 r53 : Int64} {g49 g53 g57 g63 : xSt} {r57 r63 : Int32} (W : xWf g) (hk49 : xCallM d mX8_allLow [.ref 76] g = some (some (.long r49), g49)) (W49 : xWf g49) (hk53 : xCallM d mX8_allHigh [.ref 76] g49 = some (some (.long r53), g53)) (W53 : xWf g53) (hk57 : xCallM d mX8_surePairs [.ref 76] g53 = some (some (.int r57), g57)) (W57 : xWf g57) (hk63 : xCallM d mX8_sumFrom [.ref 76, .long r49, .long r53, .int r57, .int 1000000, .int 0] g57 = some (some (.int r63), g63)) (W63 : xWf g63) (k : xX (d + 1) mX8_sumOfAll 66 [none, none, none] [.int r63] g63 = some r) : xX (d + 1) mX8_sumOfAll 47 [some (.ref 76), none, none] [] g = some r :=
  Y_aload_n dX8_sumOfAll_47 rfl <| Y_aload_n dX8_sumOfAll_48 rfl <| Y_callV1 dX8_sumOfAll_49 cl_7_133 rfl rfl (xis W 76 7 s_76 (Nat.le_of_ble_eq_true rfl)) rfl rfl rfl (hk49) <| Y_aload_n dX8_sumOfAll_52 rfl <| Y_callV1 dX8_sumOfAll_53 cl_7_137 rfl rfl (xis W49 76 7 s_76 (Nat.le_of_ble_eq_true rfl)) rfl rfl rfl (hk53) <| Y_aload_n dX8_sumOfAll_56 rfl <| Y_callV1 dX8_sumOfAll_57 cl_7_140 rfl rfl (xis W53 76 7 s_76 (Nat.le_of_ble_eq_true rfl)) rfl rfl rfl (hk57) <| Y_ldc dX8_sumOfAll_60 ki_7_150 <| Y_iconst 0 dX8_sumOfAll_62 ic_0 <| Y_callS1 dX8_sumOfAll_63 cl_7_147 rfl rfl rfl rfl rfl (hk63) <| X_le (xle_n (xle_n (xle_n xle_0))) k
theorem bX8_sumOfAll_66 {d : Nat} {g : xSt} {r : Option Value × xSt} {s0 : Int32} (k : r = (some (.int s0), g)) : xX (d + 1) mX8_sumOfAll 66 [none, none, none] [.int s0] g = some r :=
  Y_iret dX8_sumOfAll_66 rfl k
theorem bX8_sumFrom_0 {d : Nat} {g : xSt} {r : Option Value × xSt} {a1 a3 : Int64} {a5 a6 a7 r3 : Int32} {g3 : xSt} (W : xWf g) (hk3 : xCallM d mX8_isAlike [.ref 76, .long a1, .long a3] g = some (some (.int r3), g3)) (W3 : xWf g3) (k1 : r3 = 0 → xX (d + 1) mX8_sumFrom 11 [some (.ref 76), some (.long a1), none, some (.long a3), none, some (.int a5), some (.int a6), some (.int a7), none, none, none, none, none, none, none] [] g3 = some r) (k2 : ¬ (r3 = 0) → xX (d + 1) mX8_sumFrom 9 [none, none, none, none, none, none, none, none, none, none, none, none, none, none, none] [] g3 = some r) : xX (d + 1) mX8_sumFrom 0 [some (.ref 76), some (.long a1), none, some (.long a3), none, some (.int a5), some (.int a6), some (.int a7), none, none, none, none, none, none, none] [] g = some r :=
  Y_aload_n dX8_sumFrom_0 rfl <| Y_lload_n dX8_sumFrom_1 rfl <| Y_lload_n dX8_sumFrom_2 rfl <| Y_callV1 dX8_sumFrom_3 cl_7_167 rfl rfl (xis W 76 7 s_76 (Nat.le_of_ble_eq_true rfl)) rfl rfl rfl (hk3) <| Y_eq0 11 dX8_sumFrom_6 rfl (fun q => X_le (xle_s (xle_s (xle_n (xle_s (xle_n (xle_s (xle_s (xle_s (xle_n (xle_n (xle_n (xle_n (xle_n (xle_n (xle_n xle_0))))))))))))))) (k1 q)) (fun q => X_le (xle_n (xle_n (xle_n (xle_n (xle_n (xle_n (xle_n (xle_n (xle_n (xle_n (xle_n (xle_n (xle_n (xle_n (xle_n xle_0))))))))))))))) (k2 q))
theorem bX8_sumFrom_9 {d : Nat} {g : xSt} {r : Option Value × xSt}  (k : r = (some (.int 0), g)) : xX (d + 1) mX8_sumFrom 9 [none, none, none, none, none, none, none, none, none, none, none, none, none, none, none] [] g = some r :=
  Y_iconst 0 dX8_sumFrom_9 ic_0 <| Y_iret dX8_sumFrom_10 rfl k
theorem bX8_sumFrom_11 {d : Nat} {g : xSt} {r : Option Value × xSt} {a1 a3 : Int64} {a5 a6 a7 : Int32} (k1 : a7 ≤ 12 → xX (d + 1) mX8_sumFrom 21 [some (.ref 76), some (.long a1), none, some (.long a3), none, some (.int a5), some (.int a6), some (.int a7), none, none, none, none, none, none, none] [] g = some r) (k2 : ¬ (a7 ≤ 12) → xX (d + 1) mX8_sumFrom 18 [none, none, none, none, none, none, none, none, none, none, none, none, none, none, none] [] g = some r) : xX (d + 1) mX8_sumFrom 11 [some (.ref 76), some (.long a1), none, some (.long a3), none, some (.int a5), some (.int a6), some (.int a7), none, none, none, none, none, none, none] [] g = some r :=
  Y_iload dX8_sumFrom_11 rfl <| Y_bipush 12 dX8_sumFrom_13 bp_12 <| Y_le 21 dX8_sumFrom_15 rfl (fun q => X_le (xle_s (xle_s (xle_n (xle_s (xle_n (xle_s (xle_s (xle_s (xle_n (xle_n (xle_n (xle_n (xle_n (xle_n (xle_n xle_0))))))))))))))) (k1 q)) (fun q => X_le (xle_n (xle_n (xle_n (xle_n (xle_n (xle_n (xle_n (xle_n (xle_n (xle_n (xle_n (xle_n (xle_n (xle_n (xle_n xle_0))))))))))))))) (k2 q))
theorem bX8_sumFrom_18 {d : Nat} {g : xSt} {r : Option Value × xSt}  (k : r = (some (.int 1000000), g)) : xX (d + 1) mX8_sumFrom 18 [none, none, none, none, none, none, none, none, none, none, none, none, none, none, none] [] g = some r :=
  Y_ldc dX8_sumFrom_18 ki_7_150 <| Y_iret dX8_sumFrom_20 rfl k
theorem bX8_sumFrom_21 {d : Nat} {g : xSt} {r : Option Value × xSt} {a1 a3 : Int64} {a5 a6 a7 r24 r46 r49 : Int32} {g24 g46 g49 : xSt} (W : xWf g) (hk24 : xCallM d mX8_slotOf [.ref 76, .long a1, .long a3] g = some (some (.int r24), g24)) (W24 : xWf g24) (hk46 : xCallM d mX8_joinsFor [.ref 76, .int a5] g24 = some (some (.int r46), g46)) (W46 : xWf g46) (hk49 : xCallM d mX8_leastSum [.ref 76, .long a1, .long a3, .int r46] g46 = some (some (.int r49), g49)) (W49 : xWf g49) (k1 : 0 < (xat (xI g24 87) 4096 r24) → xX (d + 1) mX8_sumFrom 72 [none, none, none, none, none, none, none, none, none, some (.int (xat (xI g24 87) 4096 r24)), some (.int (imax r49 (-(xat (xI g24 87) 4096 r24)))), none, none, none, none] [] g49 = some r) (k2 : ¬ (0 < (xat (xI g24 87) 4096 r24)) → xX (d + 1) mX8_sumFrom 65 [some (.ref 76), some (.long a1), none, some (.long a3), none, some (.int a5), some (.int a6), some (.int a7), some (.int r24), some (.int (xat (xI g24 87) 4096 r24)), some (.int (imax r49 (-(xat (xI g24 87) 4096 r24)))), none, none, none, none] [] g49 = some r) : xX (d + 1) mX8_sumFrom 21 [some (.ref 76), some (.long a1), none, some (.long a3), none, some (.int a5), some (.int a6), some (.int a7), none, none, none, none, none, none, none] [] g = some r :=
  Y_aload_n dX8_sumFrom_21 rfl <| Y_lload_n dX8_sumFrom_22 rfl <| Y_lload_n dX8_sumFrom_23 rfl <| Y_callV1 dX8_sumFrom_24 cl_7_171 rfl rfl (xis W 76 7 s_76 (Nat.le_of_ble_eq_true rfl)) rfl rfl rfl (hk24) <| Y_istore dX8_sumFrom_27 rfl rfl <| Y_aload_n dX8_sumFrom_29 rfl <| Y_getR dX8_sumFrom_30 f_7_45 (by rw [ft_7_19]; rfl) (xis W24 76 7 s_76 (Nat.le_of_ble_eq_true rfl)) (xptr W24 76 19 p_76_19) <| Y_iload dX8_sumFrom_33 rfl <| Y_callS1 dX8_sumFrom_35 cl_7_101 rfl rfl rfl rfl rfl (c_at (xarr W24 (o := 87) s_87 (Nat.le_of_ble_eq_true rfl))) <| Y_istore dX8_sumFrom_38 rfl rfl <| Y_aload_n dX8_sumFrom_40 rfl <| Y_lload_n dX8_sumFrom_41 rfl <| Y_lload_n dX8_sumFrom_42 rfl <| Y_aload_n dX8_sumFrom_43 rfl <| Y_iload dX8_sumFrom_44 rfl <| Y_callV1 dX8_sumFrom_46 cl_7_175 rfl rfl (xis W24 76 7 s_76 (Nat.le_of_ble_eq_true rfl)) rfl rfl rfl (hk46) <| Y_callV1 dX8_sumFrom_49 cl_7_188 rfl rfl (xis W46 76 7 s_76 (Nat.le_of_ble_eq_true rfl)) rfl rfl rfl (hk49) <| Y_iload dX8_sumFrom_52 rfl <| Y_ineg dX8_sumFrom_54 <| Y_max dX8_sumFrom_55 km_7_126 kn_7_126 rfl <| Y_istore dX8_sumFrom_58 rfl rfl <| Y_iload dX8_sumFrom_60 rfl <| Y_gt0 72 dX8_sumFrom_62 rfl (fun q => X_le (xle_n (xle_n (xle_n (xle_n (xle_n (xle_n (xle_n (xle_n (xle_n (xle_s (xle_s (xle_n (xle_n (xle_n (xle_n xle_0))))))))))))))) (k1 q)) (fun q => X_le (xle_s (xle_s (xle_n (xle_s (xle_n (xle_s (xle_s (xle_s (xle_s (xle_s (xle_s (xle_n (xle_n (xle_n (xle_n xle_0))))))))))))))) (k2 q))
theorem bX8_sumFrom_65 {d : Nat} {g : xSt} {r : Option Value × xSt} {a1 a3 : Int64} {a5 a6 a7 a8 a9 a10 : Int32} (k1 : a10 ≤ a6 → xX (d + 1) mX8_sumFrom 85 [some (.ref 76), some (.long a1), none, some (.long a3), none, some (.int a5), some (.int a6), some (.int a7), some (.int a8), none, some (.int a10), none, none, none, none] [] g = some r) (k2 : ¬ (a10 ≤ a6) → xX (d + 1) mX8_sumFrom 72 [none, none, none, none, none, none, none, none, none, some (.int a9), some (.int a10), none, none, none, none] [] g = some r) : xX (d + 1) mX8_sumFrom 65 [some (.ref 76), some (.long a1), none, some (.long a3), none, some (.int a5), some (.int a6), some (.int a7), some (.int a8), some (.int a9), some (.int a10), none, none, none, none] [] g = some r :=
  Y_iload dX8_sumFrom_65 rfl <| Y_iload dX8_sumFrom_67 rfl <| Y_le 85 dX8_sumFrom_69 rfl (fun q => X_le (xle_s (xle_s (xle_n (xle_s (xle_n (xle_s (xle_s (xle_s (xle_s (xle_n (xle_s (xle_n (xle_n (xle_n (xle_n xle_0))))))))))))))) (k1 q)) (fun q => X_le (xle_n (xle_n (xle_n (xle_n (xle_n (xle_n (xle_n (xle_n (xle_n (xle_s (xle_s (xle_n (xle_n (xle_n (xle_n xle_0))))))))))))))) (k2 q))
theorem bX8_sumFrom_72 {d : Nat} {g : xSt} {r : Option Value × xSt} {a9 a10 : Int32} (k1 : a9 ≤ 0 → xX (d + 1) mX8_sumFrom 82 [none, none, none, none, none, none, none, none, none, none, some (.int a10), none, none, none, none] [] g = some r) (k2 : ¬ (a9 ≤ 0) → xX (d + 1) mX8_sumFrom 77 [none, none, none, none, none, none, none, none, none, some (.int a9), none, none, none, none, none] [] g = some r) : xX (d + 1) mX8_sumFrom 72 [none, none, none, none, none, none, none, none, none, some (.int a9), some (.int a10), none, none, none, none] [] g = some r :=
  Y_iload dX8_sumFrom_72 rfl <| Y_le0 82 dX8_sumFrom_74 rfl (fun q => X_le (xle_n (xle_n (xle_n (xle_n (xle_n (xle_n (xle_n (xle_n (xle_n (xle_n (xle_s (xle_n (xle_n (xle_n (xle_n xle_0))))))))))))))) (k1 q)) (fun q => X_le (xle_n (xle_n (xle_n (xle_n (xle_n (xle_n (xle_n (xle_n (xle_n (xle_s (xle_n (xle_n (xle_n (xle_n (xle_n xle_0))))))))))))))) (k2 q))
theorem bX8_sumFrom_77 {d : Nat} {g : xSt} {r : Option Value × xSt} {a9 : Int32} (k : xX (d + 1) mX8_sumFrom 84 [none, none, none, none, none, none, none, none, none, none, none, none, none, none, none] [.int a9] g = some r) : xX (d + 1) mX8_sumFrom 77 [none, none, none, none, none, none, none, none, none, some (.int a9), none, none, none, none, none] [] g = some r :=
  Y_iload dX8_sumFrom_77 rfl <| Y_goto 84 dX8_sumFrom_79 rfl <| X_le (xle_n (xle_n (xle_n (xle_n (xle_n (xle_n (xle_n (xle_n (xle_n (xle_n (xle_n (xle_n (xle_n (xle_n (xle_n xle_0))))))))))))))) k
theorem bX8_sumFrom_82 {d : Nat} {g : xSt} {r : Option Value × xSt} {a10 : Int32} (k : xX (d + 1) mX8_sumFrom 84 [none, none, none, none, none, none, none, none, none, none, none, none, none, none, none] [.int a10] g = some r) : xX (d + 1) mX8_sumFrom 82 [none, none, none, none, none, none, none, none, none, none, some (.int a10), none, none, none, none] [] g = some r :=
  Y_iload dX8_sumFrom_82 rfl <| X_le (xle_n (xle_n (xle_n (xle_n (xle_n (xle_n (xle_n (xle_n (xle_n (xle_n (xle_n (xle_n (xle_n (xle_n (xle_n xle_0))))))))))))))) k
theorem bX8_sumFrom_84 {d : Nat} {g : xSt} {r : Option Value × xSt} {s0 : Int32} (k : r = (some (.int s0), g)) : xX (d + 1) mX8_sumFrom 84 [none, none, none, none, none, none, none, none, none, none, none, none, none, none, none] [.int s0] g = some r :=
  Y_iret dX8_sumFrom_84 rfl k
theorem bX8_sumFrom_85 {d : Nat} {g : xSt} {r : Option Value × xSt} {a1 a3 : Int64} {a5 a6 a7 a8 a10 r92 : Int32} {g92 : xSt} (W : xWf g) (hk92 : xCallM d mX8_freeThings [.ref 76, .int a5] g = some (some (.int r92), g92)) (W92 : xWf g92) (k : xX (d + 1) mX8_sumFrom 100 [some (.ref 76), some (.long a1), none, some (.long a3), none, some (.int a5), some (.int a6), some (.int a7), some (.int a8), none, some (.int a10), some (.int 1000000), some (.int r92), some (.int 0), none] [] g92 = some r) : xX (d + 1) mX8_sumFrom 85 [some (.ref 76), some (.long a1), none, some (.long a3), none, some (.int a5), some (.int a6), some (.int a7), some (.int a8), none, some (.int a10), none, none, none, none] [] g = some r :=
  Y_ldc dX8_sumFrom_85 ki_7_150 <| Y_istore dX8_sumFrom_87 rfl rfl <| Y_aload_n dX8_sumFrom_89 rfl <| Y_iload dX8_sumFrom_90 rfl <| Y_callV1 dX8_sumFrom_92 cl_7_182 rfl rfl (xis W 76 7 s_76 (Nat.le_of_ble_eq_true rfl)) rfl rfl rfl (hk92) <| Y_istore dX8_sumFrom_95 rfl rfl <| Y_iconst 0 dX8_sumFrom_97 ic_0 <| Y_istore dX8_sumFrom_98 rfl rfl <| X_le (xle_s (xle_s (xle_n (xle_s (xle_n (xle_s (xle_s (xle_s (xle_s (xle_n (xle_s (xle_s (xle_s (xle_s (xle_n xle_0))))))))))))))) k
theorem bX8_sumFrom_100 {d : Nat} {g : xSt} {r : Option Value × xSt} {a1 a3 : Int64} {a5 a6 a7 a8 a10 a11 a12 a13 r103 : Int32} {g103 : xSt} (W : xWf g) (hk103 : xCallM d mX8_pairs [.ref 76] g = some (some (.int r103), g103)) (W103 : xWf g103) (k1 : r103 ≤ a13 → xX (d + 1) mX8_sumFrom 165 [some (.ref 76), none, none, none, none, none, some (.int a6), none, some (.int a8), none, none, some (.int a11), none, none, none] [] g103 = some r) (k2 : ¬ (r103 ≤ a13) → xX (d + 1) mX8_sumFrom 109 [some (.ref 76), some (.long a1), none, some (.long a3), none, some (.int a5), some (.int a6), some (.int a7), some (.int a8), none, some (.int a10), some (.int a11), some (.int a12), some (.int a13), none] [] g103 = some r) : xX (d + 1) mX8_sumFrom 100 [some (.ref 76), some (.long a1), none, some (.long a3), none, some (.int a5), some (.int a6), some (.int a7), some (.int a8), none, some (.int a10), some (.int a11), some (.int a12), some (.int a13), none] [] g = some r :=
  Y_iload dX8_sumFrom_100 rfl <| Y_aload_n dX8_sumFrom_102 rfl <| Y_callV1 dX8_sumFrom_103 cl_7_129 rfl rfl (xis W 76 7 s_76 (Nat.le_of_ble_eq_true rfl)) rfl rfl rfl (hk103) <| Y_ge 165 dX8_sumFrom_106 rfl (fun q => X_le (xle_s (xle_n (xle_n (xle_n (xle_n (xle_n (xle_s (xle_n (xle_s (xle_n (xle_n (xle_s (xle_n (xle_n (xle_n xle_0))))))))))))))) (k1 q)) (fun q => X_le (xle_s (xle_s (xle_n (xle_s (xle_n (xle_s (xle_s (xle_s (xle_s (xle_n (xle_s (xle_s (xle_s (xle_s (xle_n xle_0))))))))))))))) (k2 q))
theorem bX8_sumFrom_109 {d : Nat} {g : xSt} {r : Option Value × xSt} {a1 a3 : Int64} {a5 a6 a7 a8 a10 a11 a12 a13 : Int32} (k1 : a11 ≤ a10 → xX (d + 1) mX8_sumFrom 165 [some (.ref 76), none, none, none, none, none, some (.int a6), none, some (.int a8), none, none, some (.int a11), none, none, none] [] g = some r) (k2 : ¬ (a11 ≤ a10) → xX (d + 1) mX8_sumFrom 116 [some (.ref 76), some (.long a1), none, some (.long a3), none, some (.int a5), some (.int a6), some (.int a7), some (.int a8), none, some (.int a10), some (.int a11), some (.int a12), some (.int a13), none] [] g = some r) : xX (d + 1) mX8_sumFrom 109 [some (.ref 76), some (.long a1), none, some (.long a3), none, some (.int a5), some (.int a6), some (.int a7), some (.int a8), none, some (.int a10), some (.int a11), some (.int a12), some (.int a13), none] [] g = some r :=
  Y_iload dX8_sumFrom_109 rfl <| Y_iload dX8_sumFrom_111 rfl <| Y_le 165 dX8_sumFrom_113 rfl (fun q => X_le (xle_s (xle_n (xle_n (xle_n (xle_n (xle_n (xle_s (xle_n (xle_s (xle_n (xle_n (xle_s (xle_n (xle_n (xle_n xle_0))))))))))))))) (k1 q)) (fun q => X_le (xle_s (xle_s (xle_n (xle_s (xle_n (xle_s (xle_s (xle_s (xle_s (xle_n (xle_s (xle_s (xle_s (xle_s (xle_n xle_0))))))))))))))) (k2 q))
theorem bX8_sumFrom_116 {d : Nat} {g : xSt} {r : Option Value × xSt} {a1 a3 : Int64} {a5 a6 a7 a8 a10 a11 a12 a13 r121 : Int32} {g121 : xSt} (W : xWf g) (hk121 : xCallM d mX8_isFirstLike [.ref 76, .int a13, .int a12] g = some (some (.int r121), g121)) (W121 : xWf g121) (k1 : r121 = 0 → xX (d + 1) mX8_sumFrom 159 [some (.ref 76), some (.long a1), none, some (.long a3), none, some (.int a5), some (.int a6), some (.int a7), some (.int a8), none, some (.int a10), some (.int a11), some (.int a12), some (.int a13), none] [] g121 = some r) (k2 : ¬ (r121 = 0) → xX (d + 1) mX8_sumFrom 127 [some (.ref 76), some (.long a1), none, some (.long a3), none, some (.int a5), some (.int a6), some (.int a7), some (.int a8), none, some (.int a10), some (.int a11), some (.int a12), some (.int a13), none] [] g121 = some r) : xX (d + 1) mX8_sumFrom 116 [some (.ref 76), some (.long a1), none, some (.long a3), none, some (.int a5), some (.int a6), some (.int a7), some (.int a8), none, some (.int a10), some (.int a11), some (.int a12), some (.int a13), none] [] g = some r :=
  Y_aload_n dX8_sumFrom_116 rfl <| Y_iload dX8_sumFrom_117 rfl <| Y_iload dX8_sumFrom_119 rfl <| Y_callV1 dX8_sumFrom_121 cl_7_185 rfl rfl (xis W 76 7 s_76 (Nat.le_of_ble_eq_true rfl)) rfl rfl rfl (hk121) <| Y_eq0 159 dX8_sumFrom_124 rfl (fun q => X_le (xle_s (xle_s (xle_n (xle_s (xle_n (xle_s (xle_s (xle_s (xle_s (xle_n (xle_s (xle_s (xle_s (xle_s (xle_n xle_0))))))))))))))) (k1 q)) (fun q => X_le (xle_s (xle_s (xle_n (xle_s (xle_n (xle_s (xle_s (xle_s (xle_s (xle_n (xle_s (xle_s (xle_s (xle_s (xle_n xle_0))))))))))))))) (k2 q))
theorem bX8_sumFrom_127 {d : Nat} {g : xSt} {r : Option Value × xSt} {a1 a3 : Int64} {a5 a6 a7 a8 a10 a11 a12 a13 r151 : Int32} {g151 : xSt} (hk151 : xCallM d mX8_sumBehind [.ref 76, .int a13, .long a1, .long a3, .int a5, .int (imin a6 (a11 - 1)), .int a7] g = some (some (.int r151), g151)) (W151 : xWf g151) (k : xX (d + 1) mX8_sumFrom 159 [some (.ref 76), some (.long a1), none, some (.long a3), none, some (.int a5), some (.int a6), some (.int a7), some (.int a8), none, some (.int a10), some (.int (imin a11 r151)), some (.int a12), some (.int a13), none] [] g151 = some r) : xX (d + 1) mX8_sumFrom 127 [some (.ref 76), some (.long a1), none, some (.long a3), none, some (.int a5), some (.int a6), some (.int a7), some (.int a8), none, some (.int a10), some (.int a11), some (.int a12), some (.int a13), none] [] g = some r :=
  Y_iload dX8_sumFrom_127 rfl <| Y_iload dX8_sumFrom_129 rfl <| Y_iconst 1 dX8_sumFrom_131 ic_1 <| Y_isub dX8_sumFrom_132 <| Y_min dX8_sumFrom_133 km_7_120 kn_7_120 rfl <| Y_istore dX8_sumFrom_136 rfl rfl <| Y_iload dX8_sumFrom_138 rfl <| Y_aload_n dX8_sumFrom_140 rfl <| Y_iload dX8_sumFrom_141 rfl <| Y_lload_n dX8_sumFrom_143 rfl <| Y_lload_n dX8_sumFrom_144 rfl <| Y_iload dX8_sumFrom_145 rfl <| Y_iload dX8_sumFrom_147 rfl <| Y_iload dX8_sumFrom_149 rfl <| Y_callS1 dX8_sumFrom_151 cl_7_164 rfl rfl rfl rfl rfl (hk151) <| Y_min dX8_sumFrom_154 km_7_120 kn_7_120 rfl <| Y_istore dX8_sumFrom_157 rfl rfl <| X_le (xle_s (xle_s (xle_n (xle_s (xle_n (xle_s (xle_s (xle_s (xle_s (xle_n (xle_s (xle_s (xle_s (xle_s (xle_n xle_0))))))))))))))) k
theorem bX8_sumFrom_159 {d : Nat} {g : xSt} {r : Option Value × xSt} {a1 a3 : Int64} {a5 a6 a7 a8 a10 a11 a12 a13 : Int32} (k : xX (d + 1) mX8_sumFrom 100 [some (.ref 76), some (.long a1), none, some (.long a3), none, some (.int a5), some (.int a6), some (.int a7), some (.int a8), none, some (.int a10), some (.int a11), some (.int a12), some (.int (a13 + 1)), none] [] g = some r) : xX (d + 1) mX8_sumFrom 159 [some (.ref 76), some (.long a1), none, some (.long a3), none, some (.int a5), some (.int a6), some (.int a7), some (.int a8), none, some (.int a10), some (.int a11), some (.int a12), some (.int a13), none] [] g = some r :=
  Y_iinc 1 dX8_sumFrom_159 rfl ic_1 rfl rfl <| Y_goto 100 dX8_sumFrom_162 rfl <| X_le (xle_s (xle_s (xle_n (xle_s (xle_n (xle_s (xle_s (xle_s (xle_s (xle_n (xle_s (xle_s (xle_s (xle_s (xle_n xle_0))))))))))))))) k
theorem bX8_sumFrom_165 {d : Nat} {g : xSt} {r : Option Value × xSt} {a6 a8 a11 : Int32} (W : xWf g) (k1 : a6 < a11 → xX (d + 1) mX8_sumFrom 183 [none, none, none, none, none, none, none, none, none, none, none, some (.int a11), none, none, none] [.int a8, .ref 87] g = some r) (k2 : ¬ (a6 < a11) → xX (d + 1) mX8_sumFrom 178 [none, none, none, none, none, none, none, none, none, none, none, some (.int a11), none, none, none] [.int a8, .ref 87] g = some r) : xX (d + 1) mX8_sumFrom 165 [some (.ref 76), none, none, none, none, none, some (.int a6), none, some (.int a8), none, none, some (.int a11), none, none, none] [] g = some r :=
  Y_aload_n dX8_sumFrom_165 rfl <| Y_getR dX8_sumFrom_166 f_7_45 (by rw [ft_7_19]; rfl) (xis W 76 7 s_76 (Nat.le_of_ble_eq_true rfl)) (xptr W 76 19 p_76_19) <| Y_iload dX8_sumFrom_169 rfl <| Y_iload dX8_sumFrom_171 rfl <| Y_iload dX8_sumFrom_173 rfl <| Y_gt 183 dX8_sumFrom_175 rfl (fun q => X_le (xle_n (xle_n (xle_n (xle_n (xle_n (xle_n (xle_n (xle_n (xle_n (xle_n (xle_n (xle_s (xle_n (xle_n (xle_n xle_0))))))))))))))) (k1 q)) (fun q => X_le (xle_n (xle_n (xle_n (xle_n (xle_n (xle_n (xle_n (xle_n (xle_n (xle_n (xle_n (xle_s (xle_n (xle_n (xle_n xle_0))))))))))))))) (k2 q))
theorem bX8_sumFrom_178 {d : Nat} {g : xSt} {r : Option Value × xSt} {a11 s0 : Int32} (k : xX (d + 1) mX8_sumFrom 186 [none, none, none, none, none, none, none, none, none, none, none, some (.int a11), none, none, none] [.int a11, .int s0, .ref 87] g = some r) : xX (d + 1) mX8_sumFrom 178 [none, none, none, none, none, none, none, none, none, none, none, some (.int a11), none, none, none] [.int s0, .ref 87] g = some r :=
  Y_iload dX8_sumFrom_178 rfl <| Y_goto 186 dX8_sumFrom_180 rfl <| X_le (xle_n (xle_n (xle_n (xle_n (xle_n (xle_n (xle_n (xle_n (xle_n (xle_n (xle_n (xle_s (xle_n (xle_n (xle_n xle_0))))))))))))))) k
theorem bX8_sumFrom_183 {d : Nat} {g : xSt} {r : Option Value × xSt} {a11 s0 : Int32} (k : xX (d + 1) mX8_sumFrom 186 [none, none, none, none, none, none, none, none, none, none, none, some (.int a11), none, none, none] [.int (-a11), .int s0, .ref 87] g = some r) : xX (d + 1) mX8_sumFrom 183 [none, none, none, none, none, none, none, none, none, none, none, some (.int a11), none, none, none] [.int s0, .ref 87] g = some r :=
  Y_iload dX8_sumFrom_183 rfl <| Y_ineg dX8_sumFrom_185 <| X_le (xle_n (xle_n (xle_n (xle_n (xle_n (xle_n (xle_n (xle_n (xle_n (xle_n (xle_n (xle_s (xle_n (xle_n (xle_n xle_0))))))))))))))) k
theorem bX8_sumFrom_186 {d : Nat} {g : xSt} {r : Option Value × xSt} {a11 s1 s0 : Int32} (W : xWf g) (k : r = (some (.int a11), xput g 87 4096 s1 s0)) : xX (d + 1) mX8_sumFrom 186 [none, none, none, none, none, none, none, none, none, none, none, some (.int a11), none, none, none] [.int s0, .int s1, .ref 87] g = some r :=
  Y_callS0 dX8_sumFrom_186 cl_7_82 rfl rfl rfl rfl rfl (c_put (xarr W (o := 87) s_87 (Nat.le_of_ble_eq_true rfl))) <| Y_iload dX8_sumFrom_189 rfl <| Y_iret dX8_sumFrom_191 rfl k
theorem bX8_leastSum_0 {d : Nat} {g : xSt} {r : Option Value × xSt} {a1 a3 : Int64} {a5 : Int32} (W : xWf g) (k1 : (xI g 76 9) = (xI g 76 2) → xX (d + 1) mX8_leastSum 41 [some (.ref 76), none, none, none, none, none, some (.int ((xbcl a1) + (xbcl a3))), none, none, none, none] [] g = some r) (k2 : ¬ ((xI g 76 9) = (xI g 76 2)) → xX (d + 1) mX8_leastSum 22 [some (.ref 76), some (.long a1), none, some (.long a3), none, some (.int a5), some (.int ((xbcl a1) + (xbcl a3))), none, none, none, none] [] g = some r) : xX (d + 1) mX8_leastSum 0 [some (.ref 76), some (.long a1), none, some (.long a3), none, some (.int a5), none, none, none, none, none] [] g = some r :=
  Y_lload_n dX8_leastSum_0 rfl <| Y_callS1 dX8_leastSum_1 cl_7_191 rfl rfl rfl rfl rfl (c_xbcl) <| Y_lload_n dX8_leastSum_4 rfl <| Y_callS1 dX8_leastSum_5 cl_7_191 rfl rfl rfl rfl rfl (c_xbcl) <| Y_iadd dX8_leastSum_8 <| Y_istore dX8_leastSum_9 rfl rfl <| Y_aload_n dX8_leastSum_11 rfl <| Y_getI dX8_leastSum_12 f_7_89 ft_7_9 (xis W 76 7 s_76 (Nat.le_of_ble_eq_true rfl)) <| Y_aload_n dX8_leastSum_15 rfl <| Y_getI dX8_leastSum_16 f_7_86 ft_7_2 (xis W 76 7 s_76 (Nat.le_of_ble_eq_true rfl)) <| Y_eq 41 dX8_leastSum_19 rfl (fun q => X_le (xle_s (xle_n (xle_n (xle_n (xle_n (xle_n (xle_s (xle_n (xle_n (xle_n (xle_n xle_0))))))))))) (k1 q)) (fun q => X_le (xle_s (xle_s (xle_n (xle_s (xle_n (xle_s (xle_s (xle_n (xle_n (xle_n (xle_n xle_0))))))))))) (k2 q))
theorem bX8_leastSum_22 {d : Nat} {g : xSt} {r : Option Value × xSt} {a1 a3 : Int64} {a5 a6 r25 : Int32} {g25 : xSt} (W : xWf g) (hk25 : xCallM d mX8_isAlike [.ref 76, .long a1, .long a3] g = some (some (.int r25), g25)) (W25 : xWf g25) (k1 : r25 = 0 → xX (d + 1) mX8_leastSum 35 [none, none, none, none, none, some (.int a5), some (.int a6), none, none, none, none] [] g25 = some r) (k2 : ¬ (r25 = 0) → xX (d + 1) mX8_leastSum 31 [none, none, none, none, none, none, none, none, none, none, none] [] g25 = some r) : xX (d + 1) mX8_leastSum 22 [some (.ref 76), some (.long a1), none, some (.long a3), none, some (.int a5), some (.int a6), none, none, none, none] [] g = some r :=
  Y_aload_n dX8_leastSum_22 rfl <| Y_lload_n dX8_leastSum_23 rfl <| Y_lload_n dX8_leastSum_24 rfl <| Y_callV1 dX8_leastSum_25 cl_7_167 rfl rfl (xis W 76 7 s_76 (Nat.le_of_ble_eq_true rfl)) rfl rfl rfl (hk25) <| Y_eq0 35 dX8_leastSum_28 rfl (fun q => X_le (xle_n (xle_n (xle_n (xle_n (xle_n (xle_s (xle_s (xle_n (xle_n (xle_n (xle_n xle_0))))))))))) (k1 q)) (fun q => X_le (xle_n (xle_n (xle_n (xle_n (xle_n (xle_n (xle_n (xle_n (xle_n (xle_n (xle_n xle_0))))))))))) (k2 q))
theorem bX8_leastSum_31 {d : Nat} {g : xSt} {r : Option Value × xSt}  (k : xX (d + 1) mX8_leastSum 40 [none, none, none, none, none, none, none, none, none, none, none] [.int 0] g = some r) : xX (d + 1) mX8_leastSum 31 [none, none, none, none, none, none, none, none, none, none, none] [] g = some r :=
  Y_iconst 0 dX8_leastSum_31 ic_0 <| Y_goto 40 dX8_leastSum_32 rfl <| X_le (xle_n (xle_n (xle_n (xle_n (xle_n (xle_n (xle_n (xle_n (xle_n (xle_n (xle_n xle_0))))))))))) k
theorem bX8_leastSum_35 {d : Nat} {g : xSt} {r : Option Value × xSt} {a5 a6 : Int32} (k : xX (d + 1) mX8_leastSum 40 [none, none, none, none, none, none, none, none, none, none, none] [.int (a6 * a5)] g = some r) : xX (d + 1) mX8_leastSum 35 [none, none, none, none, none, some (.int a5), some (.int a6), none, none, none, none] [] g = some r :=
  Y_iload dX8_leastSum_35 rfl <| Y_iload dX8_leastSum_37 rfl <| Y_imul dX8_leastSum_39 <| X_le (xle_n (xle_n (xle_n (xle_n (xle_n (xle_n (xle_n (xle_n (xle_n (xle_n (xle_n xle_0))))))))))) k
theorem bX8_leastSum_40 {d : Nat} {g : xSt} {r : Option Value × xSt} {s0 : Int32} (k : r = (some (.int s0), g)) : xX (d + 1) mX8_leastSum 40 [none, none, none, none, none, none, none, none, none, none, none] [.int s0] g = some r :=
  Y_iret dX8_leastSum_40 rfl k
theorem bX8_leastSum_41 {d : Nat} {g : xSt} {r : Option Value × xSt} {a6 : Int32} (k : xX (d + 1) mX8_leastSum 47 [some (.ref 76), none, none, none, none, none, some (.int a6), some (.int 0), some (.int 1), none, none] [] g = some r) : xX (d + 1) mX8_leastSum 41 [some (.ref 76), none, none, none, none, none, some (.int a6), none, none, none, none] [] g = some r :=
  Y_iconst 0 dX8_leastSum_41 ic_0 <| Y_istore dX8_leastSum_42 rfl rfl <| Y_iconst 1 dX8_leastSum_44 ic_1 <| Y_istore dX8_leastSum_45 rfl rfl <| X_le (xle_s (xle_n (xle_n (xle_n (xle_n (xle_n (xle_s (xle_s (xle_s (xle_n (xle_n xle_0))))))))))) k
theorem bX8_leastSum_47 {d : Nat} {g : xSt} {r : Option Value × xSt} {a6 a7 a8 : Int32} (W : xWf g) (k1 : a6 < (a8 * (xI g 76 8)) → xX (d + 1) mX8_leastSum 81 [some (.ref 76), none, none, none, none, none, some (.int a6), some (.int a7), some (.int a8), none, none] [] g = some r) (k2 : ¬ (a6 < (a8 * (xI g 76 8))) → xX (d + 1) mX8_leastSum 59 [some (.ref 76), none, none, none, none, none, some (.int a6), some (.int a7), some (.int a8), none, none] [] g = some r) : xX (d + 1) mX8_leastSum 47 [some (.ref 76), none, none, none, none, none, some (.int a6), some (.int a7), some (.int a8), none, none] [] g = some r :=
  Y_iload dX8_leastSum_47 rfl <| Y_aload_n dX8_leastSum_49 rfl <| Y_getI dX8_leastSum_50 f_7_92 ft_7_8 (xis W 76 7 s_76 (Nat.le_of_ble_eq_true rfl)) <| Y_imul dX8_leastSum_53 <| Y_iload dX8_leastSum_54 rfl <| Y_gt 81 dX8_leastSum_56 rfl (fun q => X_le (xle_s (xle_n (xle_n (xle_n (xle_n (xle_n (xle_s (xle_s (xle_s (xle_n (xle_n xle_0))))))))))) (k1 q)) (fun q => X_le (xle_s (xle_n (xle_n (xle_n (xle_n (xle_n (xle_s (xle_s (xle_s (xle_n (xle_n xle_0))))))))))) (k2 q))
theorem bX8_leastSum_59 {d : Nat} {g : xSt} {r : Option Value × xSt} {a6 a7 a8 : Int32} (k1 : 20 ≤ a7 → xX (d + 1) mX8_leastSum 81 [some (.ref 76), none, none, none, none, none, some (.int a6), some (.int a7), some (.int a8), none, none] [] g = some r) (k2 : ¬ (20 ≤ a7) → xX (d + 1) mX8_leastSum 66 [some (.ref 76), none, none, none, none, none, some (.int a6), some (.int a7), some (.int a8), none, none] [] g = some r) : xX (d + 1) mX8_leastSum 59 [some (.ref 76), none, none, none, none, none, some (.int a6), some (.int a7), some (.int a8), none, none] [] g = some r :=
  Y_iload dX8_leastSum_59 rfl <| Y_bipush 20 dX8_leastSum_61 bp_20 <| Y_ge 81 dX8_leastSum_63 rfl (fun q => X_le (xle_s (xle_n (xle_n (xle_n (xle_n (xle_n (xle_s (xle_s (xle_s (xle_n (xle_n xle_0))))))))))) (k1 q)) (fun q => X_le (xle_s (xle_n (xle_n (xle_n (xle_n (xle_n (xle_s (xle_s (xle_s (xle_n (xle_n xle_0))))))))))) (k2 q))
theorem bX8_leastSum_66 {d : Nat} {g : xSt} {r : Option Value × xSt} {a6 a7 a8 : Int32} (W : xWf g) (k : xX (d + 1) mX8_leastSum 47 [some (.ref 76), none, none, none, none, none, some (.int a6), some (.int (a7 + 1)), some (.int (a8 * (xI g 76 8))), none, none] [] g = some r) : xX (d + 1) mX8_leastSum 66 [some (.ref 76), none, none, none, none, none, some (.int a6), some (.int a7), some (.int a8), none, none] [] g = some r :=
  Y_iload dX8_leastSum_66 rfl <| Y_aload_n dX8_leastSum_68 rfl <| Y_getI dX8_leastSum_69 f_7_92 ft_7_8 (xis W 76 7 s_76 (Nat.le_of_ble_eq_true rfl)) <| Y_imul dX8_leastSum_72 <| Y_istore dX8_leastSum_73 rfl rfl <| Y_iinc 1 dX8_leastSum_75 rfl ic_1 rfl rfl <| Y_goto 47 dX8_leastSum_78 rfl <| X_le (xle_s (xle_n (xle_n (xle_n (xle_n (xle_n (xle_s (xle_s (xle_s (xle_n (xle_n xle_0))))))))))) k
theorem bX8_leastSum_81 {d : Nat} {g : xSt} {r : Option Value × xSt} {a6 a7 a8 : Int32} (W : xWf g) (k1 : (xI g 76 8) = 3 → xX (d + 1) mX8_leastSum 100 [none, none, none, none, none, none, some (.int a6), some (.int a7), none, some (.int (imax (a6 - a8) 0)), none] [] g = some r) (k2 : ¬ ((xI g 76 8) = 3) → xX (d + 1) mX8_leastSum 109 [none, none, none, none, none, none, some (.int a6), some (.int a7), none, some (.int (imax (a6 - a8) 0)), none] [] g = some r) : xX (d + 1) mX8_leastSum 81 [some (.ref 76), none, none, none, none, none, some (.int a6), some (.int a7), some (.int a8), none, none] [] g = some r :=
  Y_iload dX8_leastSum_81 rfl <| Y_iload dX8_leastSum_83 rfl <| Y_isub dX8_leastSum_85 <| Y_iconst 0 dX8_leastSum_86 ic_0 <| Y_max dX8_leastSum_87 km_7_126 kn_7_126 rfl <| Y_istore dX8_leastSum_90 rfl rfl <| Y_aload_n dX8_leastSum_92 rfl <| Y_getI dX8_leastSum_93 f_7_92 ft_7_8 (xis W 76 7 s_76 (Nat.le_of_ble_eq_true rfl)) <| Y_iconst 3 dX8_leastSum_96 ic_3 <| Y_ne 109 dX8_leastSum_97 rfl (fun q => X_le (xle_n (xle_n (xle_n (xle_n (xle_n (xle_n (xle_s (xle_s (xle_n (xle_s (xle_n xle_0))))))))))) (k1 q)) (fun q => X_le (xle_n (xle_n (xle_n (xle_n (xle_n (xle_n (xle_s (xle_s (xle_n (xle_s (xle_n xle_0))))))))))) (k2 q))
theorem bX8_leastSum_100 {d : Nat} {g : xSt} {r : Option Value × xSt} {a6 a7 a9 : Int32} (k : xX (d + 1) mX8_leastSum 111 [none, none, none, none, none, none, some (.int a6), some (.int a7), none, some (.int a9), none] [.int ((a9 + 1) / 2)] g = some r) : xX (d + 1) mX8_leastSum 100 [none, none, none, none, none, none, some (.int a6), some (.int a7), none, some (.int a9), none] [] g = some r :=
  Y_iload dX8_leastSum_100 rfl <| Y_iconst 1 dX8_leastSum_102 ic_1 <| Y_iadd dX8_leastSum_103 <| Y_iconst 2 dX8_leastSum_104 ic_2 <| Y_idiv dX8_leastSum_105 (by decide) <| Y_goto 111 dX8_leastSum_106 rfl <| X_le (xle_n (xle_n (xle_n (xle_n (xle_n (xle_n (xle_s (xle_s (xle_n (xle_s (xle_n xle_0))))))))))) k
theorem bX8_leastSum_109 {d : Nat} {g : xSt} {r : Option Value × xSt} {a6 a7 a9 : Int32} (k : xX (d + 1) mX8_leastSum 111 [none, none, none, none, none, none, some (.int a6), some (.int a7), none, some (.int a9), none] [.int a9] g = some r) : xX (d + 1) mX8_leastSum 109 [none, none, none, none, none, none, some (.int a6), some (.int a7), none, some (.int a9), none] [] g = some r :=
  Y_iload dX8_leastSum_109 rfl <| X_le (xle_n (xle_n (xle_n (xle_n (xle_n (xle_n (xle_s (xle_s (xle_n (xle_s (xle_n xle_0))))))))))) k
theorem bX8_leastSum_111 {d : Nat} {g : xSt} {r : Option Value × xSt} {a6 a7 a9 s0 : Int32} (k : r = (some (.int (((a6 * a7) + a9) + s0)), g)) : xX (d + 1) mX8_leastSum 111 [none, none, none, none, none, none, some (.int a6), some (.int a7), none, some (.int a9), none] [.int s0] g = some r :=
  Y_istore dX8_leastSum_111 rfl rfl <| Y_iload dX8_leastSum_113 rfl <| Y_iload dX8_leastSum_115 rfl <| Y_imul dX8_leastSum_117 <| Y_iload dX8_leastSum_118 rfl <| Y_iadd dX8_leastSum_120 <| Y_iload dX8_leastSum_121 rfl <| Y_iadd dX8_leastSum_123 <| Y_iret dX8_leastSum_124 rfl k
