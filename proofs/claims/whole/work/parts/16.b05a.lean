/-! stretches of HeavierRow$Orders, by program (wip/whole/genall.py) -/
theorem dX5_refill_0 : decode mX5_refill.2.1 0 = .ok (.aload_n 0, 1) := by decide +kernel
theorem dX5_refill_1 : decode mX5_refill.2.1 1 = .ok (.aload_n 1, 1) := by decide +kernel
theorem dX5_refill_2 : decode mX5_refill.2.1 2 = .ok (.getfield 45, 3) := by decide +kernel
theorem dX5_refill_5 : decode mX5_refill.2.1 5 = .ok (.putfield 49, 3) := by decide +kernel
theorem dX5_refill_8 : decode mX5_refill.2.1 8 = .ok (.aload_n 0, 1) := by decide +kernel
theorem dX5_refill_9 : decode mX5_refill.2.1 9 = .ok (.iconst 0, 1) := by decide +kernel
theorem dX5_refill_10 : decode mX5_refill.2.1 10 = .ok (.putfield 50, 3) := by decide +kernel
theorem dX5_refill_13 : decode mX5_refill.2.1 13 = .ok (.iconst 1, 1) := by decide +kernel
theorem dX5_refill_14 : decode mX5_refill.2.1 14 = .ok (.istore_n 2, 1) := by decide +kernel
theorem dX5_refill_15 : decode mX5_refill.2.1 15 = .ok (.iconst 0, 1) := by decide +kernel
theorem dX5_refill_16 : decode mX5_refill.2.1 16 = .ok (.istore_n 3, 1) := by decide +kernel
theorem dX5_refill_17 : decode mX5_refill.2.1 17 = .ok (.iload_n 3, 1) := by decide +kernel
theorem dX5_refill_18 : decode mX5_refill.2.1 18 = .ok (.aload_n 0, 1) := by decide +kernel
theorem dX5_refill_19 : decode mX5_refill.2.1 19 = .ok (.getfield 49, 3) := by decide +kernel
theorem dX5_refill_22 : decode mX5_refill.2.1 22 = .ok (.if_icmp .ge 25, 3) := by decide +kernel
theorem dX5_refill_25 : decode mX5_refill.2.1 25 = .ok (.iload_n 2, 1) := by decide +kernel
theorem dX5_refill_26 : decode mX5_refill.2.1 26 = .ok (.aload_n 0, 1) := by decide +kernel
theorem dX5_refill_27 : decode mX5_refill.2.1 27 = .ok (.getfield 49, 3) := by decide +kernel
theorem dX5_refill_30 : decode mX5_refill.2.1 30 = .ok (.imul, 1) := by decide +kernel
theorem dX5_refill_31 : decode mX5_refill.2.1 31 = .ok (.istore_n 2, 1) := by decide +kernel
theorem dX5_refill_32 : decode mX5_refill.2.1 32 = .ok (.aload_n 0, 1) := by decide +kernel
theorem dX5_refill_33 : decode mX5_refill.2.1 33 = .ok (.getfield 29, 3) := by decide +kernel
theorem dX5_refill_36 : decode mX5_refill.2.1 36 = .ok (.iload_n 3, 1) := by decide +kernel
theorem dX5_refill_37 : decode mX5_refill.2.1 37 = .ok (.iconst 0, 1) := by decide +kernel
theorem dX5_refill_38 : decode mX5_refill.2.1 38 = .ok (.invokestatic 53, 3) := by decide +kernel
theorem dX5_refill_41 : decode mX5_refill.2.1 41 = .ok (.iinc 3 1, 3) := by decide +kernel
theorem dX5_refill_44 : decode mX5_refill.2.1 44 = .ok (.goto (-27), 3) := by decide +kernel
theorem dX5_refill_47 : decode mX5_refill.2.1 47 = .ok (.iconst 0, 1) := by decide +kernel
theorem dX5_refill_48 : decode mX5_refill.2.1 48 = .ok (.istore_n 3, 1) := by decide +kernel
theorem dX5_refill_49 : decode mX5_refill.2.1 49 = .ok (.iload_n 3, 1) := by decide +kernel
theorem dX5_refill_50 : decode mX5_refill.2.1 50 = .ok (.iload_n 2, 1) := by decide +kernel
theorem dX5_refill_51 : decode mX5_refill.2.1 51 = .ok (.if_icmp .ge 28, 3) := by decide +kernel
theorem dX5_refill_54 : decode mX5_refill.2.1 54 = .ok (.aload_n 0, 1) := by decide +kernel
theorem dX5_refill_55 : decode mX5_refill.2.1 55 = .ok (.aload_n 1, 1) := by decide +kernel
theorem dX5_refill_56 : decode mX5_refill.2.1 56 = .ok (.getfield 59, 3) := by decide +kernel
theorem dX5_refill_59 : decode mX5_refill.2.1 59 = .ok (.invokevirtual 63, 3) := by decide +kernel
theorem dX5_refill_62 : decode mX5_refill.2.1 62 = .ok (.ifCond .eq 7, 3) := by decide +kernel
theorem dX5_refill_65 : decode mX5_refill.2.1 65 = .ok (.aload_n 0, 1) := by decide +kernel
theorem dX5_refill_66 : decode mX5_refill.2.1 66 = .ok (.invokevirtual 67, 3) := by decide +kernel
theorem dX5_refill_69 : decode mX5_refill.2.1 69 = .ok (.aload_n 0, 1) := by decide +kernel
theorem dX5_refill_70 : decode mX5_refill.2.1 70 = .ok (.invokevirtual 70, 3) := by decide +kernel
theorem dX5_refill_73 : decode mX5_refill.2.1 73 = .ok (.iinc 3 1, 3) := by decide +kernel
theorem dX5_refill_76 : decode mX5_refill.2.1 76 = .ok (.goto (-27), 3) := by decide +kernel
theorem dX5_refill_79 : decode mX5_refill.2.1 79 = .ok (.return_, 1) := by decide +kernel
theorem dX5_isOrder_0 : decode mX5_isOrder.2.1 0 = .ok (.iconst 0, 1) := by decide +kernel
theorem dX5_isOrder_1 : decode mX5_isOrder.2.1 1 = .ok (.istore_n 2, 1) := by decide +kernel
theorem dX5_isOrder_2 : decode mX5_isOrder.2.1 2 = .ok (.iload_n 2, 1) := by decide +kernel
theorem dX5_isOrder_3 : decode mX5_isOrder.2.1 3 = .ok (.aload_n 0, 1) := by decide +kernel
theorem dX5_isOrder_4 : decode mX5_isOrder.2.1 4 = .ok (.getfield 49, 3) := by decide +kernel
theorem dX5_isOrder_7 : decode mX5_isOrder.2.1 7 = .ok (.if_icmp .ge 104, 3) := by decide +kernel
theorem dX5_isOrder_10 : decode mX5_isOrder.2.1 10 = .ok (.iconst 0, 1) := by decide +kernel
theorem dX5_isOrder_11 : decode mX5_isOrder.2.1 11 = .ok (.istore_n 3, 1) := by decide +kernel
theorem dX5_isOrder_12 : decode mX5_isOrder.2.1 12 = .ok (.iconst 0, 1) := by decide +kernel
theorem dX5_isOrder_13 : decode mX5_isOrder.2.1 13 = .ok (.istore 4, 2) := by decide +kernel
theorem dX5_isOrder_15 : decode mX5_isOrder.2.1 15 = .ok (.iconst 0, 1) := by decide +kernel
theorem dX5_isOrder_16 : decode mX5_isOrder.2.1 16 = .ok (.istore 5, 2) := by decide +kernel
theorem dX5_isOrder_18 : decode mX5_isOrder.2.1 18 = .ok (.iload 5, 2) := by decide +kernel
theorem dX5_isOrder_20 : decode mX5_isOrder.2.1 20 = .ok (.aload_n 0, 1) := by decide +kernel
theorem dX5_isOrder_21 : decode mX5_isOrder.2.1 21 = .ok (.getfield 49, 3) := by decide +kernel
theorem dX5_isOrder_24 : decode mX5_isOrder.2.1 24 = .ok (.if_icmp .ge 57, 3) := by decide +kernel
theorem dX5_isOrder_27 : decode mX5_isOrder.2.1 27 = .ok (.aload_n 0, 1) := by decide +kernel
theorem dX5_isOrder_28 : decode mX5_isOrder.2.1 28 = .ok (.getfield 29, 3) := by decide +kernel
theorem dX5_isOrder_31 : decode mX5_isOrder.2.1 31 = .ok (.iload_n 2, 1) := by decide +kernel
theorem dX5_isOrder_32 : decode mX5_isOrder.2.1 32 = .ok (.invokestatic 73, 3) := by decide +kernel
theorem dX5_isOrder_35 : decode mX5_isOrder.2.1 35 = .ok (.aload_n 0, 1) := by decide +kernel
theorem dX5_isOrder_36 : decode mX5_isOrder.2.1 36 = .ok (.getfield 29, 3) := by decide +kernel
theorem dX5_isOrder_39 : decode mX5_isOrder.2.1 39 = .ok (.iload 5, 2) := by decide +kernel
theorem dX5_isOrder_41 : decode mX5_isOrder.2.1 41 = .ok (.invokestatic 73, 3) := by decide +kernel
theorem dX5_isOrder_44 : decode mX5_isOrder.2.1 44 = .ok (.isub, 1) := by decide +kernel
theorem dX5_isOrder_45 : decode mX5_isOrder.2.1 45 = .ok (.istore 6, 2) := by decide +kernel
theorem dX5_isOrder_47 : decode mX5_isOrder.2.1 47 = .ok (.iload_n 3, 1) := by decide +kernel
theorem dX5_isOrder_48 : decode mX5_isOrder.2.1 48 = .ok (.iload 6, 2) := by decide +kernel
theorem dX5_isOrder_50 : decode mX5_isOrder.2.1 50 = .ok (.ifCond .le 7, 3) := by decide +kernel
theorem dX5_isOrder_53 : decode mX5_isOrder.2.1 53 = .ok (.iconst 1, 1) := by decide +kernel
theorem dX5_isOrder_54 : decode mX5_isOrder.2.1 54 = .ok (.goto 4, 3) := by decide +kernel
theorem dX5_isOrder_57 : decode mX5_isOrder.2.1 57 = .ok (.iconst 0, 1) := by decide +kernel
theorem dX5_isOrder_58 : decode mX5_isOrder.2.1 58 = .ok (.iadd, 1) := by decide +kernel
theorem dX5_isOrder_59 : decode mX5_isOrder.2.1 59 = .ok (.istore_n 3, 1) := by decide +kernel
theorem dX5_isOrder_60 : decode mX5_isOrder.2.1 60 = .ok (.iload 4, 2) := by decide +kernel
theorem dX5_isOrder_62 : decode mX5_isOrder.2.1 62 = .ok (.iload 6, 2) := by decide +kernel
theorem dX5_isOrder_64 : decode mX5_isOrder.2.1 64 = .ok (.ifCond .ne 7, 3) := by decide +kernel
theorem dX5_isOrder_67 : decode mX5_isOrder.2.1 67 = .ok (.iconst 1, 1) := by decide +kernel
theorem dX5_isOrder_68 : decode mX5_isOrder.2.1 68 = .ok (.goto 4, 3) := by decide +kernel
theorem dX5_isOrder_71 : decode mX5_isOrder.2.1 71 = .ok (.iconst 0, 1) := by decide +kernel
theorem dX5_isOrder_72 : decode mX5_isOrder.2.1 72 = .ok (.iadd, 1) := by decide +kernel
theorem dX5_isOrder_73 : decode mX5_isOrder.2.1 73 = .ok (.istore 4, 2) := by decide +kernel
theorem dX5_isOrder_75 : decode mX5_isOrder.2.1 75 = .ok (.iinc 5 1, 3) := by decide +kernel
theorem dX5_isOrder_78 : decode mX5_isOrder.2.1 78 = .ok (.goto (-60), 3) := by decide +kernel
theorem dX5_isOrder_81 : decode mX5_isOrder.2.1 81 = .ok (.iload_n 3, 1) := by decide +kernel
theorem dX5_isOrder_82 : decode mX5_isOrder.2.1 82 = .ok (.aload_n 0, 1) := by decide +kernel
theorem dX5_isOrder_83 : decode mX5_isOrder.2.1 83 = .ok (.getfield 29, 3) := by decide +kernel
theorem dX5_isOrder_86 : decode mX5_isOrder.2.1 86 = .ok (.iload_n 2, 1) := by decide +kernel
theorem dX5_isOrder_87 : decode mX5_isOrder.2.1 87 = .ok (.invokestatic 73, 3) := by decide +kernel
theorem dX5_isOrder_90 : decode mX5_isOrder.2.1 90 = .ok (.if_icmp .ne 13, 3) := by decide +kernel
theorem dX5_isOrder_93 : decode mX5_isOrder.2.1 93 = .ok (.iload 4, 2) := by decide +kernel
theorem dX5_isOrder_95 : decode mX5_isOrder.2.1 95 = .ok (.iconst 1, 1) := by decide +kernel
theorem dX5_isOrder_96 : decode mX5_isOrder.2.1 96 = .ok (.if_icmp .le 9, 3) := by decide +kernel
theorem dX5_isOrder_99 : decode mX5_isOrder.2.1 99 = .ok (.iload_n 1, 1) := by decide +kernel
theorem dX5_isOrder_100 : decode mX5_isOrder.2.1 100 = .ok (.ifCond .ne 5, 3) := by decide +kernel
theorem dX5_isOrder_103 : decode mX5_isOrder.2.1 103 = .ok (.iconst 0, 1) := by decide +kernel
theorem dX5_isOrder_104 : decode mX5_isOrder.2.1 104 = .ok (.ireturn, 1) := by decide +kernel
theorem dX5_isOrder_105 : decode mX5_isOrder.2.1 105 = .ok (.iinc 2 1, 3) := by decide +kernel
theorem dX5_isOrder_108 : decode mX5_isOrder.2.1 108 = .ok (.goto (-106), 3) := by decide +kernel
theorem dX5_isOrder_111 : decode mX5_isOrder.2.1 111 = .ok (.iconst 1, 1) := by decide +kernel
theorem dX5_isOrder_112 : decode mX5_isOrder.2.1 112 = .ok (.ireturn, 1) := by decide +kernel
theorem dX5_keepOrder_0 : decode mX5_keepOrder.2.1 0 = .ok (.iconst 0, 1) := by decide +kernel
theorem dX5_keepOrder_1 : decode mX5_keepOrder.2.1 1 = .ok (.istore_n 1, 1) := by decide +kernel
theorem dX5_keepOrder_2 : decode mX5_keepOrder.2.1 2 = .ok (.iconst 0, 1) := by decide +kernel
theorem dX5_keepOrder_3 : decode mX5_keepOrder.2.1 3 = .ok (.istore_n 2, 1) := by decide +kernel
theorem dX5_keepOrder_4 : decode mX5_keepOrder.2.1 4 = .ok (.iload_n 2, 1) := by decide +kernel
theorem dX5_keepOrder_5 : decode mX5_keepOrder.2.1 5 = .ok (.aload_n 0, 1) := by decide +kernel
theorem dX5_keepOrder_6 : decode mX5_keepOrder.2.1 6 = .ok (.getfield 49, 3) := by decide +kernel
theorem dX5_keepOrder_9 : decode mX5_keepOrder.2.1 9 = .ok (.if_icmp .ge 24, 3) := by decide +kernel
theorem dX5_keepOrder_12 : decode mX5_keepOrder.2.1 12 = .ok (.iload_n 1, 1) := by decide +kernel
theorem dX5_keepOrder_13 : decode mX5_keepOrder.2.1 13 = .ok (.aload_n 0, 1) := by decide +kernel
theorem dX5_keepOrder_14 : decode mX5_keepOrder.2.1 14 = .ok (.getfield 29, 3) := by decide +kernel
theorem dX5_keepOrder_17 : decode mX5_keepOrder.2.1 17 = .ok (.iload_n 2, 1) := by decide +kernel
theorem dX5_keepOrder_18 : decode mX5_keepOrder.2.1 18 = .ok (.invokestatic 73, 3) := by decide +kernel
theorem dX5_keepOrder_21 : decode mX5_keepOrder.2.1 21 = .ok (.iconst 3, 1) := by decide +kernel
theorem dX5_keepOrder_22 : decode mX5_keepOrder.2.1 22 = .ok (.iload_n 2, 1) := by decide +kernel
theorem dX5_keepOrder_23 : decode mX5_keepOrder.2.1 23 = .ok (.imul, 1) := by decide +kernel
theorem dX5_keepOrder_24 : decode mX5_keepOrder.2.1 24 = .ok (.ishl, 1) := by decide +kernel
theorem dX5_keepOrder_25 : decode mX5_keepOrder.2.1 25 = .ok (.ior, 1) := by decide +kernel
theorem dX5_keepOrder_26 : decode mX5_keepOrder.2.1 26 = .ok (.istore_n 1, 1) := by decide +kernel
theorem dX5_keepOrder_27 : decode mX5_keepOrder.2.1 27 = .ok (.iinc 2 1, 3) := by decide +kernel
theorem dX5_keepOrder_30 : decode mX5_keepOrder.2.1 30 = .ok (.goto (-26), 3) := by decide +kernel
theorem dX5_keepOrder_33 : decode mX5_keepOrder.2.1 33 = .ok (.aload_n 0, 1) := by decide +kernel
theorem dX5_keepOrder_34 : decode mX5_keepOrder.2.1 34 = .ok (.getfield 11, 3) := by decide +kernel
theorem dX5_keepOrder_37 : decode mX5_keepOrder.2.1 37 = .ok (.aload_n 0, 1) := by decide +kernel
theorem dX5_keepOrder_38 : decode mX5_keepOrder.2.1 38 = .ok (.getfield 50, 3) := by decide +kernel
theorem dX5_keepOrder_41 : decode mX5_keepOrder.2.1 41 = .ok (.iload_n 1, 1) := by decide +kernel
theorem dX5_keepOrder_42 : decode mX5_keepOrder.2.1 42 = .ok (.invokestatic 53, 3) := by decide +kernel
theorem dX5_keepOrder_45 : decode mX5_keepOrder.2.1 45 = .ok (.aload_n 0, 1) := by decide +kernel
theorem dX5_keepOrder_46 : decode mX5_keepOrder.2.1 46 = .ok (.getfield 15, 3) := by decide +kernel
theorem dX5_keepOrder_49 : decode mX5_keepOrder.2.1 49 = .ok (.aload_n 0, 1) := by decide +kernel
theorem dX5_keepOrder_50 : decode mX5_keepOrder.2.1 50 = .ok (.getfield 50, 3) := by decide +kernel
theorem dX5_keepOrder_53 : decode mX5_keepOrder.2.1 53 = .ok (.aload_n 0, 1) := by decide +kernel
theorem dX5_keepOrder_54 : decode mX5_keepOrder.2.1 54 = .ok (.invokevirtual 77, 3) := by decide +kernel
theorem dX5_keepOrder_57 : decode mX5_keepOrder.2.1 57 = .ok (.invokestatic 53, 3) := by decide +kernel
theorem dX5_keepOrder_60 : decode mX5_keepOrder.2.1 60 = .ok (.aload_n 0, 1) := by decide +kernel
theorem dX5_keepOrder_61 : decode mX5_keepOrder.2.1 61 = .ok (.dup, 1) := by decide +kernel
theorem dX5_keepOrder_62 : decode mX5_keepOrder.2.1 62 = .ok (.getfield 50, 3) := by decide +kernel
theorem dX5_keepOrder_65 : decode mX5_keepOrder.2.1 65 = .ok (.iconst 1, 1) := by decide +kernel
theorem dX5_keepOrder_66 : decode mX5_keepOrder.2.1 66 = .ok (.iadd, 1) := by decide +kernel
theorem dX5_keepOrder_67 : decode mX5_keepOrder.2.1 67 = .ok (.putfield 50, 3) := by decide +kernel
theorem dX5_keepOrder_70 : decode mX5_keepOrder.2.1 70 = .ok (.return_, 1) := by decide +kernel
theorem dX5_markOfDigits_0 : decode mX5_markOfDigits.2.1 0 = .ok (.iconst 0, 1) := by decide +kernel
theorem dX5_markOfDigits_1 : decode mX5_markOfDigits.2.1 1 = .ok (.istore_n 1, 1) := by decide +kernel
theorem dX5_markOfDigits_2 : decode mX5_markOfDigits.2.1 2 = .ok (.iconst 0, 1) := by decide +kernel
theorem dX5_markOfDigits_3 : decode mX5_markOfDigits.2.1 3 = .ok (.istore_n 2, 1) := by decide +kernel
theorem dX5_markOfDigits_4 : decode mX5_markOfDigits.2.1 4 = .ok (.iload_n 2, 1) := by decide +kernel
theorem dX5_markOfDigits_5 : decode mX5_markOfDigits.2.1 5 = .ok (.aload_n 0, 1) := by decide +kernel
theorem dX5_markOfDigits_6 : decode mX5_markOfDigits.2.1 6 = .ok (.getfield 49, 3) := by decide +kernel
theorem dX5_markOfDigits_9 : decode mX5_markOfDigits.2.1 9 = .ok (.if_icmp .ge 83, 3) := by decide +kernel
theorem dX5_markOfDigits_12 : decode mX5_markOfDigits.2.1 12 = .ok (.iload_n 2, 1) := by decide +kernel
theorem dX5_markOfDigits_13 : decode mX5_markOfDigits.2.1 13 = .ok (.iconst 1, 1) := by decide +kernel
theorem dX5_markOfDigits_14 : decode mX5_markOfDigits.2.1 14 = .ok (.iadd, 1) := by decide +kernel
theorem dX5_markOfDigits_15 : decode mX5_markOfDigits.2.1 15 = .ok (.istore_n 3, 1) := by decide +kernel
theorem dX5_markOfDigits_16 : decode mX5_markOfDigits.2.1 16 = .ok (.iload_n 3, 1) := by decide +kernel
theorem dX5_markOfDigits_17 : decode mX5_markOfDigits.2.1 17 = .ok (.aload_n 0, 1) := by decide +kernel
theorem dX5_markOfDigits_18 : decode mX5_markOfDigits.2.1 18 = .ok (.getfield 49, 3) := by decide +kernel
theorem dX5_markOfDigits_21 : decode mX5_markOfDigits.2.1 21 = .ok (.if_icmp .ge 65, 3) := by decide +kernel
theorem dX5_markOfDigits_24 : decode mX5_markOfDigits.2.1 24 = .ok (.aload_n 0, 1) := by decide +kernel
theorem dX5_markOfDigits_25 : decode mX5_markOfDigits.2.1 25 = .ok (.getfield 29, 3) := by decide +kernel
theorem dX5_markOfDigits_28 : decode mX5_markOfDigits.2.1 28 = .ok (.iload_n 2, 1) := by decide +kernel
theorem dX5_markOfDigits_29 : decode mX5_markOfDigits.2.1 29 = .ok (.invokestatic 73, 3) := by decide +kernel
theorem dX5_markOfDigits_32 : decode mX5_markOfDigits.2.1 32 = .ok (.aload_n 0, 1) := by decide +kernel
theorem dX5_markOfDigits_33 : decode mX5_markOfDigits.2.1 33 = .ok (.getfield 29, 3) := by decide +kernel
theorem dX5_markOfDigits_36 : decode mX5_markOfDigits.2.1 36 = .ok (.iload_n 3, 1) := by decide +kernel
theorem dX5_markOfDigits_37 : decode mX5_markOfDigits.2.1 37 = .ok (.invokestatic 73, 3) := by decide +kernel
theorem dX5_markOfDigits_40 : decode mX5_markOfDigits.2.1 40 = .ok (.isub, 1) := by decide +kernel
theorem dX5_markOfDigits_41 : decode mX5_markOfDigits.2.1 41 = .ok (.istore 4, 2) := by decide +kernel
theorem dX5_markOfDigits_43 : decode mX5_markOfDigits.2.1 43 = .ok (.iload 4, 2) := by decide +kernel
theorem dX5_markOfDigits_45 : decode mX5_markOfDigits.2.1 45 = .ok (.ifCond .ge 7, 3) := by decide +kernel
theorem dX5_markOfDigits_48 : decode mX5_markOfDigits.2.1 48 = .ok (.iconst 1, 1) := by decide +kernel
theorem dX5_markOfDigits_49 : decode mX5_markOfDigits.2.1 49 = .ok (.goto 13, 3) := by decide +kernel
theorem dX5_markOfDigits_52 : decode mX5_markOfDigits.2.1 52 = .ok (.iload 4, 2) := by decide +kernel
theorem dX5_markOfDigits_54 : decode mX5_markOfDigits.2.1 54 = .ok (.ifCond .le 7, 3) := by decide +kernel
theorem dX5_markOfDigits_57 : decode mX5_markOfDigits.2.1 57 = .ok (.iconst 2, 1) := by decide +kernel
theorem dX5_markOfDigits_58 : decode mX5_markOfDigits.2.1 58 = .ok (.goto 4, 3) := by decide +kernel
theorem dX5_markOfDigits_61 : decode mX5_markOfDigits.2.1 61 = .ok (.iconst 0, 1) := by decide +kernel
theorem dX5_markOfDigits_62 : decode mX5_markOfDigits.2.1 62 = .ok (.istore 5, 2) := by decide +kernel
theorem dX5_markOfDigits_64 : decode mX5_markOfDigits.2.1 64 = .ok (.iload_n 1, 1) := by decide +kernel
theorem dX5_markOfDigits_65 : decode mX5_markOfDigits.2.1 65 = .ok (.iconst 1, 1) := by decide +kernel
theorem dX5_markOfDigits_66 : decode mX5_markOfDigits.2.1 66 = .ok (.aload_n 0, 1) := by decide +kernel
theorem dX5_markOfDigits_67 : decode mX5_markOfDigits.2.1 67 = .ok (.getfield 49, 3) := by decide +kernel
theorem dX5_markOfDigits_70 : decode mX5_markOfDigits.2.1 70 = .ok (.iload_n 2, 1) := by decide +kernel
theorem dX5_markOfDigits_71 : decode mX5_markOfDigits.2.1 71 = .ok (.iload_n 3, 1) := by decide +kernel
theorem dX5_markOfDigits_72 : decode mX5_markOfDigits.2.1 72 = .ok (.iload 5, 2) := by decide +kernel
theorem dX5_markOfDigits_74 : decode mX5_markOfDigits.2.1 74 = .ok (.invokestatic 81, 3) := by decide +kernel
theorem dX5_markOfDigits_77 : decode mX5_markOfDigits.2.1 77 = .ok (.ishl, 1) := by decide +kernel
theorem dX5_markOfDigits_78 : decode mX5_markOfDigits.2.1 78 = .ok (.ior, 1) := by decide +kernel
theorem dX5_markOfDigits_79 : decode mX5_markOfDigits.2.1 79 = .ok (.istore_n 1, 1) := by decide +kernel
theorem dX5_markOfDigits_80 : decode mX5_markOfDigits.2.1 80 = .ok (.iinc 3 1, 3) := by decide +kernel
theorem dX5_markOfDigits_83 : decode mX5_markOfDigits.2.1 83 = .ok (.goto (-67), 3) := by decide +kernel
theorem dX5_markOfDigits_86 : decode mX5_markOfDigits.2.1 86 = .ok (.iinc 2 1, 3) := by decide +kernel
theorem dX5_markOfDigits_89 : decode mX5_markOfDigits.2.1 89 = .ok (.goto (-85), 3) := by decide +kernel
theorem dX5_markOfDigits_92 : decode mX5_markOfDigits.2.1 92 = .ok (.iload_n 1, 1) := by decide +kernel
theorem dX5_markOfDigits_93 : decode mX5_markOfDigits.2.1 93 = .ok (.ireturn, 1) := by decide +kernel
theorem dX5_bitOf_0 : decode mX5_bitOf.2.1 0 = .ok (.iload_n 3, 1) := by decide +kernel
theorem dX5_bitOf_1 : decode mX5_bitOf.2.1 1 = .ok (.ifCond .eq 8, 3) := by decide +kernel
theorem dX5_bitOf_4 : decode mX5_bitOf.2.1 4 = .ok (.iload_n 1, 1) := by decide +kernel
theorem dX5_bitOf_5 : decode mX5_bitOf.2.1 5 = .ok (.iload_n 2, 1) := by decide +kernel
theorem dX5_bitOf_6 : decode mX5_bitOf.2.1 6 = .ok (.if_icmp .ge 7, 3) := by decide +kernel
theorem dX5_bitOf_9 : decode mX5_bitOf.2.1 9 = .ok (.iload_n 3, 1) := by decide +kernel
theorem dX5_bitOf_10 : decode mX5_bitOf.2.1 10 = .ok (.goto 6, 3) := by decide +kernel
theorem dX5_bitOf_13 : decode mX5_bitOf.2.1 13 = .ok (.iconst 3, 1) := by decide +kernel
theorem dX5_bitOf_14 : decode mX5_bitOf.2.1 14 = .ok (.iload_n 3, 1) := by decide +kernel
theorem dX5_bitOf_15 : decode mX5_bitOf.2.1 15 = .ok (.isub, 1) := by decide +kernel
theorem dX5_bitOf_16 : decode mX5_bitOf.2.1 16 = .ok (.istore 4, 2) := by decide +kernel
theorem dX5_bitOf_18 : decode mX5_bitOf.2.1 18 = .ok (.bipush 10, 2) := by decide +kernel
theorem dX5_bitOf_20 : decode mX5_bitOf.2.1 20 = .ok (.iload 4, 2) := by decide +kernel
theorem dX5_bitOf_22 : decode mX5_bitOf.2.1 22 = .ok (.imul, 1) := by decide +kernel
theorem dX5_bitOf_23 : decode mX5_bitOf.2.1 23 = .ok (.iload_n 0, 1) := by decide +kernel
theorem dX5_bitOf_24 : decode mX5_bitOf.2.1 24 = .ok (.iload_n 1, 1) := by decide +kernel
theorem dX5_bitOf_25 : decode mX5_bitOf.2.1 25 = .ok (.iload_n 2, 1) := by decide +kernel
theorem dX5_bitOf_26 : decode mX5_bitOf.2.1 26 = .ok (.invokestatic 41, 3) := by decide +kernel
theorem dX5_bitOf_29 : decode mX5_bitOf.2.1 29 = .ok (.iadd, 1) := by decide +kernel
theorem dX5_bitOf_30 : decode mX5_bitOf.2.1 30 = .ok (.ireturn, 1) := by decide +kernel
theorem dX5_pairOf_0 : decode mX5_pairOf.2.1 0 = .ok (.iload_n 1, 1) := by decide +kernel
theorem dX5_pairOf_1 : decode mX5_pairOf.2.1 1 = .ok (.iload_n 2, 1) := by decide +kernel
theorem dX5_pairOf_2 : decode mX5_pairOf.2.1 2 = .ok (.invokestatic 32, 3) := by decide +kernel
theorem dX5_pairOf_5 : decode mX5_pairOf.2.1 5 = .ok (.istore_n 3, 1) := by decide +kernel
theorem dX5_pairOf_6 : decode mX5_pairOf.2.1 6 = .ok (.iload_n 3, 1) := by decide +kernel
theorem dX5_pairOf_7 : decode mX5_pairOf.2.1 7 = .ok (.iload_n 0, 1) := by decide +kernel
theorem dX5_pairOf_8 : decode mX5_pairOf.2.1 8 = .ok (.imul, 1) := by decide +kernel
theorem dX5_pairOf_9 : decode mX5_pairOf.2.1 9 = .ok (.iload_n 3, 1) := by decide +kernel
theorem dX5_pairOf_10 : decode mX5_pairOf.2.1 10 = .ok (.iload_n 3, 1) := by decide +kernel
theorem dX5_pairOf_11 : decode mX5_pairOf.2.1 11 = .ok (.iconst 1, 1) := by decide +kernel
theorem dX5_pairOf_12 : decode mX5_pairOf.2.1 12 = .ok (.iadd, 1) := by decide +kernel
theorem dX5_pairOf_13 : decode mX5_pairOf.2.1 13 = .ok (.imul, 1) := by decide +kernel
theorem dX5_pairOf_14 : decode mX5_pairOf.2.1 14 = .ok (.iconst 2, 1) := by decide +kernel
theorem dX5_pairOf_15 : decode mX5_pairOf.2.1 15 = .ok (.idiv, 1) := by decide +kernel
theorem dX5_pairOf_16 : decode mX5_pairOf.2.1 16 = .ok (.isub, 1) := by decide +kernel
theorem dX5_pairOf_17 : decode mX5_pairOf.2.1 17 = .ok (.iload_n 1, 1) := by decide +kernel
theorem dX5_pairOf_18 : decode mX5_pairOf.2.1 18 = .ok (.iload_n 2, 1) := by decide +kernel
theorem dX5_pairOf_19 : decode mX5_pairOf.2.1 19 = .ok (.invokestatic 38, 3) := by decide +kernel
theorem dX5_pairOf_22 : decode mX5_pairOf.2.1 22 = .ok (.iadd, 1) := by decide +kernel
theorem dX5_pairOf_23 : decode mX5_pairOf.2.1 23 = .ok (.iload_n 3, 1) := by decide +kernel
theorem dX5_pairOf_24 : decode mX5_pairOf.2.1 24 = .ok (.isub, 1) := by decide +kernel
theorem dX5_pairOf_25 : decode mX5_pairOf.2.1 25 = .ok (.iconst 1, 1) := by decide +kernel
theorem dX5_pairOf_26 : decode mX5_pairOf.2.1 26 = .ok (.isub, 1) := by decide +kernel
theorem dX5_pairOf_27 : decode mX5_pairOf.2.1 27 = .ok (.ireturn, 1) := by decide +kernel
theorem dX5_stepDigits_0 : decode mX5_stepDigits.2.1 0 = .ok (.iconst 1, 1) := by decide +kernel
theorem dX5_stepDigits_1 : decode mX5_stepDigits.2.1 1 = .ok (.istore_n 1, 1) := by decide +kernel
theorem dX5_stepDigits_2 : decode mX5_stepDigits.2.1 2 = .ok (.aload_n 0, 1) := by decide +kernel
theorem dX5_stepDigits_3 : decode mX5_stepDigits.2.1 3 = .ok (.getfield 49, 3) := by decide +kernel
theorem dX5_stepDigits_6 : decode mX5_stepDigits.2.1 6 = .ok (.iconst 1, 1) := by decide +kernel
theorem dX5_stepDigits_7 : decode mX5_stepDigits.2.1 7 = .ok (.isub, 1) := by decide +kernel
theorem dX5_stepDigits_8 : decode mX5_stepDigits.2.1 8 = .ok (.istore_n 2, 1) := by decide +kernel
theorem dX5_stepDigits_9 : decode mX5_stepDigits.2.1 9 = .ok (.iload_n 2, 1) := by decide +kernel
theorem dX5_stepDigits_10 : decode mX5_stepDigits.2.1 10 = .ok (.ifCond .lt 55, 3) := by decide +kernel
theorem dX5_stepDigits_13 : decode mX5_stepDigits.2.1 13 = .ok (.iload_n 1, 1) := by decide +kernel
theorem dX5_stepDigits_14 : decode mX5_stepDigits.2.1 14 = .ok (.ifCond .eq 51, 3) := by decide +kernel
theorem dX5_stepDigits_17 : decode mX5_stepDigits.2.1 17 = .ok (.aload_n 0, 1) := by decide +kernel
theorem dX5_stepDigits_18 : decode mX5_stepDigits.2.1 18 = .ok (.getfield 29, 3) := by decide +kernel
theorem dX5_stepDigits_21 : decode mX5_stepDigits.2.1 21 = .ok (.iload_n 2, 1) := by decide +kernel
theorem dX5_stepDigits_22 : decode mX5_stepDigits.2.1 22 = .ok (.invokestatic 73, 3) := by decide +kernel
theorem dX5_stepDigits_25 : decode mX5_stepDigits.2.1 25 = .ok (.iconst 1, 1) := by decide +kernel
theorem dX5_stepDigits_26 : decode mX5_stepDigits.2.1 26 = .ok (.iadd, 1) := by decide +kernel
theorem dX5_stepDigits_27 : decode mX5_stepDigits.2.1 27 = .ok (.istore_n 3, 1) := by decide +kernel
theorem dX5_stepDigits_28 : decode mX5_stepDigits.2.1 28 = .ok (.iload_n 3, 1) := by decide +kernel
theorem dX5_stepDigits_29 : decode mX5_stepDigits.2.1 29 = .ok (.aload_n 0, 1) := by decide +kernel
theorem dX5_stepDigits_30 : decode mX5_stepDigits.2.1 30 = .ok (.getfield 49, 3) := by decide +kernel
theorem dX5_stepDigits_33 : decode mX5_stepDigits.2.1 33 = .ok (.if_icmp .lt 7, 3) := by decide +kernel
theorem dX5_stepDigits_36 : decode mX5_stepDigits.2.1 36 = .ok (.iconst 1, 1) := by decide +kernel
theorem dX5_stepDigits_37 : decode mX5_stepDigits.2.1 37 = .ok (.goto 4, 3) := by decide +kernel
theorem dX5_stepDigits_40 : decode mX5_stepDigits.2.1 40 = .ok (.iconst 0, 1) := by decide +kernel
theorem dX5_stepDigits_41 : decode mX5_stepDigits.2.1 41 = .ok (.istore_n 1, 1) := by decide +kernel
theorem dX5_stepDigits_42 : decode mX5_stepDigits.2.1 42 = .ok (.aload_n 0, 1) := by decide +kernel
theorem dX5_stepDigits_43 : decode mX5_stepDigits.2.1 43 = .ok (.getfield 29, 3) := by decide +kernel
theorem dX5_stepDigits_46 : decode mX5_stepDigits.2.1 46 = .ok (.iload_n 2, 1) := by decide +kernel
theorem dX5_stepDigits_47 : decode mX5_stepDigits.2.1 47 = .ok (.iload_n 1, 1) := by decide +kernel
theorem dX5_stepDigits_48 : decode mX5_stepDigits.2.1 48 = .ok (.ifCond .eq 7, 3) := by decide +kernel
theorem dX5_stepDigits_51 : decode mX5_stepDigits.2.1 51 = .ok (.iconst 0, 1) := by decide +kernel
theorem dX5_stepDigits_52 : decode mX5_stepDigits.2.1 52 = .ok (.goto 4, 3) := by decide +kernel
theorem dX5_stepDigits_55 : decode mX5_stepDigits.2.1 55 = .ok (.iload_n 3, 1) := by decide +kernel
theorem dX5_stepDigits_56 : decode mX5_stepDigits.2.1 56 = .ok (.invokestatic 53, 3) := by decide +kernel
theorem dX5_stepDigits_59 : decode mX5_stepDigits.2.1 59 = .ok (.iinc 2 (-1), 3) := by decide +kernel
theorem dX5_stepDigits_62 : decode mX5_stepDigits.2.1 62 = .ok (.goto (-53), 3) := by decide +kernel
theorem dX5_stepDigits_65 : decode mX5_stepDigits.2.1 65 = .ok (.return_, 1) := by decide +kernel
theorem dX5_heed_0 : decode mX5_heed.2.1 0 = .ok (.aload_n 0, 1) := by decide +kernel
theorem dX5_heed_1 : decode mX5_heed.2.1 1 = .ok (.getfield 21, 3) := by decide +kernel
theorem dX5_heed_4 : decode mX5_heed.2.1 4 = .ok (.iconst 0, 1) := by decide +kernel
theorem dX5_heed_5 : decode mX5_heed.2.1 5 = .ok (.invokestatic 85, 3) := by decide +kernel
theorem dX5_heed_8 : decode mX5_heed.2.1 8 = .ok (.aload_n 0, 1) := by decide +kernel
theorem dX5_heed_9 : decode mX5_heed.2.1 9 = .ok (.iconst 0, 1) := by decide +kernel
theorem dX5_heed_10 : decode mX5_heed.2.1 10 = .ok (.putfield 89, 3) := by decide +kernel
theorem dX5_heed_13 : decode mX5_heed.2.1 13 = .ok (.aload_n 0, 1) := by decide +kernel
theorem dX5_heed_14 : decode mX5_heed.2.1 14 = .ok (.iconst 0, 1) := by decide +kernel
theorem dX5_heed_15 : decode mX5_heed.2.1 15 = .ok (.putfield 92, 3) := by decide +kernel
theorem dX5_heed_18 : decode mX5_heed.2.1 18 = .ok (.iconst 0, 1) := by decide +kernel
theorem dX5_heed_19 : decode mX5_heed.2.1 19 = .ok (.istore_n 3, 1) := by decide +kernel
theorem dX5_heed_20 : decode mX5_heed.2.1 20 = .ok (.iload_n 3, 1) := by decide +kernel
theorem dX5_heed_21 : decode mX5_heed.2.1 21 = .ok (.aload_n 1, 1) := by decide +kernel
theorem dX5_heed_22 : decode mX5_heed.2.1 22 = .ok (.getfield 95, 3) := by decide +kernel
theorem dX5_heed_25 : decode mX5_heed.2.1 25 = .ok (.if_icmp .ge 108, 3) := by decide +kernel
theorem dX5_heed_28 : decode mX5_heed.2.1 28 = .ok (.aload_n 1, 1) := by decide +kernel
theorem dX5_heed_29 : decode mX5_heed.2.1 29 = .ok (.iload_n 3, 1) := by decide +kernel
theorem dX5_heed_30 : decode mX5_heed.2.1 30 = .ok (.iload_n 2, 1) := by decide +kernel
theorem dX5_heed_31 : decode mX5_heed.2.1 31 = .ok (.invokevirtual 100, 3) := by decide +kernel
theorem dX5_heed_34 : decode mX5_heed.2.1 34 = .ok (.ifCond .eq 93, 3) := by decide +kernel
theorem dX5_heed_37 : decode mX5_heed.2.1 37 = .ok (.aload_n 1, 1) := by decide +kernel
theorem dX5_heed_38 : decode mX5_heed.2.1 38 = .ok (.iload_n 3, 1) := by decide +kernel
theorem dX5_heed_39 : decode mX5_heed.2.1 39 = .ok (.invokevirtual 104, 3) := by decide +kernel
theorem dX5_heed_42 : decode mX5_heed.2.1 42 = .ok (.ifCond .eq 85, 3) := by decide +kernel
theorem dX5_heed_45 : decode mX5_heed.2.1 45 = .ok (.aload_n 1, 1) := by decide +kernel
theorem dX5_heed_46 : decode mX5_heed.2.1 46 = .ok (.getfield 108, 3) := by decide +kernel
theorem dX5_heed_49 : decode mX5_heed.2.1 49 = .ok (.iload_n 3, 1) := by decide +kernel
theorem dX5_heed_50 : decode mX5_heed.2.1 50 = .ok (.invokestatic 73, 3) := by decide +kernel
theorem dX5_heed_53 : decode mX5_heed.2.1 53 = .ok (.i2l, 1) := by decide +kernel
theorem dX5_heed_54 : decode mX5_heed.2.1 54 = .ok (.invokestatic 111, 3) := by decide +kernel
theorem dX5_heed_57 : decode mX5_heed.2.1 57 = .ok (.istore 4, 2) := by decide +kernel
theorem dX5_heed_59 : decode mX5_heed.2.1 59 = .ok (.aload_n 1, 1) := by decide +kernel
theorem dX5_heed_60 : decode mX5_heed.2.1 60 = .ok (.getfield 115, 3) := by decide +kernel
theorem dX5_heed_63 : decode mX5_heed.2.1 63 = .ok (.iload_n 3, 1) := by decide +kernel
theorem dX5_heed_64 : decode mX5_heed.2.1 64 = .ok (.invokestatic 73, 3) := by decide +kernel
theorem dX5_heed_67 : decode mX5_heed.2.1 67 = .ok (.i2l, 1) := by decide +kernel
theorem dX5_heed_68 : decode mX5_heed.2.1 68 = .ok (.invokestatic 111, 3) := by decide +kernel
theorem dX5_heed_71 : decode mX5_heed.2.1 71 = .ok (.istore 5, 2) := by decide +kernel
theorem dX5_heed_73 : decode mX5_heed.2.1 73 = .ok (.aload_n 0, 1) := by decide +kernel
theorem dX5_heed_74 : decode mX5_heed.2.1 74 = .ok (.getfield 49, 3) := by decide +kernel
theorem dX5_heed_77 : decode mX5_heed.2.1 77 = .ok (.iload 4, 2) := by decide +kernel
theorem dX5_heed_79 : decode mX5_heed.2.1 79 = .ok (.iload 5, 2) := by decide +kernel
theorem dX5_heed_81 : decode mX5_heed.2.1 81 = .ok (.aload_n 1, 1) := by decide +kernel
theorem dX5_heed_82 : decode mX5_heed.2.1 82 = .ok (.getfield 118, 3) := by decide +kernel
theorem dX5_heed_85 : decode mX5_heed.2.1 85 = .ok (.iload_n 3, 1) := by decide +kernel
theorem dX5_heed_86 : decode mX5_heed.2.1 86 = .ok (.invokestatic 73, 3) := by decide +kernel
theorem dX5_heed_89 : decode mX5_heed.2.1 89 = .ok (.invokestatic 81, 3) := by decide +kernel
theorem dX5_heed_92 : decode mX5_heed.2.1 92 = .ok (.istore 6, 2) := by decide +kernel
theorem dX5_heed_94 : decode mX5_heed.2.1 94 = .ok (.aload_n 0, 1) := by decide +kernel
theorem dX5_heed_95 : decode mX5_heed.2.1 95 = .ok (.getfield 21, 3) := by decide +kernel
theorem dX5_heed_98 : decode mX5_heed.2.1 98 = .ok (.iload 6, 2) := by decide +kernel
theorem dX5_heed_100 : decode mX5_heed.2.1 100 = .ok (.iconst 1, 1) := by decide +kernel
theorem dX5_heed_101 : decode mX5_heed.2.1 101 = .ok (.invokestatic 121, 3) := by decide +kernel
theorem dX5_heed_104 : decode mX5_heed.2.1 104 = .ok (.aload_n 0, 1) := by decide +kernel
theorem dX5_heed_105 : decode mX5_heed.2.1 105 = .ok (.dup, 1) := by decide +kernel
theorem dX5_heed_106 : decode mX5_heed.2.1 106 = .ok (.getfield 89, 3) := by decide +kernel
theorem dX5_heed_109 : decode mX5_heed.2.1 109 = .ok (.iconst 1, 1) := by decide +kernel
theorem dX5_heed_110 : decode mX5_heed.2.1 110 = .ok (.iload 6, 2) := by decide +kernel
theorem dX5_heed_112 : decode mX5_heed.2.1 112 = .ok (.ishl, 1) := by decide +kernel
theorem dX5_heed_113 : decode mX5_heed.2.1 113 = .ok (.ior, 1) := by decide +kernel
theorem dX5_heed_114 : decode mX5_heed.2.1 114 = .ok (.putfield 89, 3) := by decide +kernel
theorem dX5_heed_117 : decode mX5_heed.2.1 117 = .ok (.aload_n 0, 1) := by decide +kernel
theorem dX5_heed_118 : decode mX5_heed.2.1 118 = .ok (.dup, 1) := by decide +kernel
theorem dX5_heed_119 : decode mX5_heed.2.1 119 = .ok (.getfield 92, 3) := by decide +kernel
theorem dX5_heed_122 : decode mX5_heed.2.1 122 = .ok (.iconst 1, 1) := by decide +kernel
theorem dX5_heed_123 : decode mX5_heed.2.1 123 = .ok (.iadd, 1) := by decide +kernel
theorem dX5_heed_124 : decode mX5_heed.2.1 124 = .ok (.putfield 92, 3) := by decide +kernel
theorem dX5_heed_127 : decode mX5_heed.2.1 127 = .ok (.iinc 3 1, 3) := by decide +kernel
theorem dX5_heed_130 : decode mX5_heed.2.1 130 = .ok (.goto (-110), 3) := by decide +kernel
theorem dX5_heed_133 : decode mX5_heed.2.1 133 = .ok (.return_, 1) := by decide +kernel
theorem dX5_sift_0 : decode mX5_sift.2.1 0 = .ok (.aload_n 0, 1) := by decide +kernel
theorem dX5_sift_1 : decode mX5_sift.2.1 1 = .ok (.iconst 0, 1) := by decide +kernel
theorem dX5_sift_2 : decode mX5_sift.2.1 2 = .ok (.putfield 124, 3) := by decide +kernel
theorem dX5_sift_5 : decode mX5_sift.2.1 5 = .ok (.aload_n 0, 1) := by decide +kernel
theorem dX5_sift_6 : decode mX5_sift.2.1 6 = .ok (.iconst (-1), 1) := by decide +kernel
theorem dX5_sift_7 : decode mX5_sift.2.1 7 = .ok (.putfield 127, 3) := by decide +kernel
theorem dX5_sift_10 : decode mX5_sift.2.1 10 = .ok (.iconst 0, 1) := by decide +kernel
theorem dX5_sift_11 : decode mX5_sift.2.1 11 = .ok (.istore_n 2, 1) := by decide +kernel
theorem dX5_sift_12 : decode mX5_sift.2.1 12 = .ok (.iload_n 2, 1) := by decide +kernel
theorem dX5_sift_13 : decode mX5_sift.2.1 13 = .ok (.aload_n 0, 1) := by decide +kernel
theorem dX5_sift_14 : decode mX5_sift.2.1 14 = .ok (.getfield 50, 3) := by decide +kernel
theorem dX5_sift_17 : decode mX5_sift.2.1 17 = .ok (.if_icmp .ge 76, 3) := by decide +kernel
theorem dX5_sift_20 : decode mX5_sift.2.1 20 = .ok (.aload_n 0, 1) := by decide +kernel
theorem dX5_sift_21 : decode mX5_sift.2.1 21 = .ok (.getfield 15, 3) := by decide +kernel
theorem dX5_sift_24 : decode mX5_sift.2.1 24 = .ok (.iload_n 2, 1) := by decide +kernel
theorem dX5_sift_25 : decode mX5_sift.2.1 25 = .ok (.invokestatic 73, 3) := by decide +kernel
theorem dX5_sift_28 : decode mX5_sift.2.1 28 = .ok (.istore_n 3, 1) := by decide +kernel
theorem dX5_sift_29 : decode mX5_sift.2.1 29 = .ok (.iload_n 3, 1) := by decide +kernel
theorem dX5_sift_30 : decode mX5_sift.2.1 30 = .ok (.aload_n 0, 1) := by decide +kernel
theorem dX5_sift_31 : decode mX5_sift.2.1 31 = .ok (.getfield 89, 3) := by decide +kernel
theorem dX5_sift_34 : decode mX5_sift.2.1 34 = .ok (.iand, 1) := by decide +kernel
theorem dX5_sift_35 : decode mX5_sift.2.1 35 = .ok (.aload_n 0, 1) := by decide +kernel
theorem dX5_sift_36 : decode mX5_sift.2.1 36 = .ok (.getfield 89, 3) := by decide +kernel
theorem dX5_sift_39 : decode mX5_sift.2.1 39 = .ok (.if_icmp .eq 16, 3) := by decide +kernel
theorem dX5_sift_42 : decode mX5_sift.2.1 42 = .ok (.iload_n 1, 1) := by decide +kernel
theorem dX5_sift_43 : decode mX5_sift.2.1 43 = .ok (.ifCond .le 44, 3) := by decide +kernel
theorem dX5_sift_46 : decode mX5_sift.2.1 46 = .ok (.aload_n 0, 1) := by decide +kernel
theorem dX5_sift_47 : decode mX5_sift.2.1 47 = .ok (.iload_n 3, 1) := by decide +kernel
theorem dX5_sift_48 : decode mX5_sift.2.1 48 = .ok (.invokevirtual 130, 3) := by decide +kernel
theorem dX5_sift_51 : decode mX5_sift.2.1 51 = .ok (.iload_n 1, 1) := by decide +kernel
theorem dX5_sift_52 : decode mX5_sift.2.1 52 = .ok (.if_icmp .gt 35, 3) := by decide +kernel
theorem dX5_sift_55 : decode mX5_sift.2.1 55 = .ok (.aload_n 0, 1) := by decide +kernel
theorem dX5_sift_56 : decode mX5_sift.2.1 56 = .ok (.getfield 18, 3) := by decide +kernel
theorem dX5_sift_59 : decode mX5_sift.2.1 59 = .ok (.aload_n 0, 1) := by decide +kernel
theorem dX5_sift_60 : decode mX5_sift.2.1 60 = .ok (.getfield 124, 3) := by decide +kernel
theorem dX5_sift_63 : decode mX5_sift.2.1 63 = .ok (.iload_n 2, 1) := by decide +kernel
theorem dX5_sift_64 : decode mX5_sift.2.1 64 = .ok (.invokestatic 53, 3) := by decide +kernel
theorem dX5_sift_67 : decode mX5_sift.2.1 67 = .ok (.aload_n 0, 1) := by decide +kernel
theorem dX5_sift_68 : decode mX5_sift.2.1 68 = .ok (.dup, 1) := by decide +kernel
theorem dX5_sift_69 : decode mX5_sift.2.1 69 = .ok (.getfield 124, 3) := by decide +kernel
theorem dX5_sift_72 : decode mX5_sift.2.1 72 = .ok (.iconst 1, 1) := by decide +kernel
theorem dX5_sift_73 : decode mX5_sift.2.1 73 = .ok (.iadd, 1) := by decide +kernel
theorem dX5_sift_74 : decode mX5_sift.2.1 74 = .ok (.putfield 124, 3) := by decide +kernel
theorem dX5_sift_77 : decode mX5_sift.2.1 77 = .ok (.aload_n 0, 1) := by decide +kernel
theorem dX5_sift_78 : decode mX5_sift.2.1 78 = .ok (.dup, 1) := by decide +kernel
theorem dX5_sift_79 : decode mX5_sift.2.1 79 = .ok (.getfield 127, 3) := by decide +kernel
theorem dX5_sift_82 : decode mX5_sift.2.1 82 = .ok (.iload_n 3, 1) := by decide +kernel
theorem dX5_sift_83 : decode mX5_sift.2.1 83 = .ok (.iand, 1) := by decide +kernel
theorem dX5_sift_84 : decode mX5_sift.2.1 84 = .ok (.putfield 127, 3) := by decide +kernel
theorem dX5_sift_87 : decode mX5_sift.2.1 87 = .ok (.iinc 2 1, 3) := by decide +kernel
theorem dX5_sift_90 : decode mX5_sift.2.1 90 = .ok (.goto (-78), 3) := by decide +kernel
theorem dX5_sift_93 : decode mX5_sift.2.1 93 = .ok (.return_, 1) := by decide +kernel
theorem dX5_missesBy_0 : decode mX5_missesBy.2.1 0 = .ok (.aload_n 0, 1) := by decide +kernel
theorem dX5_missesBy_1 : decode mX5_missesBy.2.1 1 = .ok (.getfield 92, 3) := by decide +kernel
theorem dX5_missesBy_4 : decode mX5_missesBy.2.1 4 = .ok (.istore_n 2, 1) := by decide +kernel
theorem dX5_missesBy_5 : decode mX5_missesBy.2.1 5 = .ok (.iconst 0, 1) := by decide +kernel
theorem dX5_missesBy_6 : decode mX5_missesBy.2.1 6 = .ok (.istore_n 3, 1) := by decide +kernel
theorem dX5_missesBy_7 : decode mX5_missesBy.2.1 7 = .ok (.iload_n 3, 1) := by decide +kernel
theorem dX5_missesBy_8 : decode mX5_missesBy.2.1 8 = .ok (.aload_n 0, 1) := by decide +kernel
theorem dX5_missesBy_9 : decode mX5_missesBy.2.1 9 = .ok (.getfield 21, 3) := by decide +kernel
theorem dX5_missesBy_12 : decode mX5_missesBy.2.1 12 = .ok (.arraylength, 1) := by decide +kernel
theorem dX5_missesBy_13 : decode mX5_missesBy.2.1 13 = .ok (.if_icmp .ge 26, 3) := by decide +kernel
theorem dX5_missesBy_16 : decode mX5_missesBy.2.1 16 = .ok (.iload_n 1, 1) := by decide +kernel
theorem dX5_missesBy_17 : decode mX5_missesBy.2.1 17 = .ok (.iload_n 3, 1) := by decide +kernel
theorem dX5_missesBy_18 : decode mX5_missesBy.2.1 18 = .ok (.invokestatic 142, 3) := by decide +kernel
theorem dX5_missesBy_21 : decode mX5_missesBy.2.1 21 = .ok (.ifCond .eq 12, 3) := by decide +kernel
theorem dX5_missesBy_24 : decode mX5_missesBy.2.1 24 = .ok (.iload_n 2, 1) := by decide +kernel
theorem dX5_missesBy_25 : decode mX5_missesBy.2.1 25 = .ok (.aload_n 0, 1) := by decide +kernel
theorem dX5_missesBy_26 : decode mX5_missesBy.2.1 26 = .ok (.getfield 21, 3) := by decide +kernel
theorem dX5_missesBy_29 : decode mX5_missesBy.2.1 29 = .ok (.iload_n 3, 1) := by decide +kernel
theorem dX5_missesBy_30 : decode mX5_missesBy.2.1 30 = .ok (.iaload, 1) := by decide +kernel
theorem dX5_missesBy_31 : decode mX5_missesBy.2.1 31 = .ok (.isub, 1) := by decide +kernel
theorem dX5_missesBy_32 : decode mX5_missesBy.2.1 32 = .ok (.istore_n 2, 1) := by decide +kernel
theorem dX5_missesBy_33 : decode mX5_missesBy.2.1 33 = .ok (.iinc 3 1, 3) := by decide +kernel
theorem dX5_missesBy_36 : decode mX5_missesBy.2.1 36 = .ok (.goto (-29), 3) := by decide +kernel
theorem dX5_missesBy_39 : decode mX5_missesBy.2.1 39 = .ok (.iload_n 2, 1) := by decide +kernel
theorem dX5_missesBy_40 : decode mX5_missesBy.2.1 40 = .ok (.ireturn, 1) := by decide +kernel
theorem dX5_leftAt_0 : decode mX5_leftAt.2.1 0 = .ok (.aload_n 0, 1) := by decide +kernel
theorem dX5_leftAt_1 : decode mX5_leftAt.2.1 1 = .ok (.getfield 18, 3) := by decide +kernel
theorem dX5_leftAt_4 : decode mX5_leftAt.2.1 4 = .ok (.iload_n 1, 1) := by decide +kernel
theorem dX5_leftAt_5 : decode mX5_leftAt.2.1 5 = .ok (.invokestatic 73, 3) := by decide +kernel
theorem dX5_leftAt_8 : decode mX5_leftAt.2.1 8 = .ok (.ireturn, 1) := by decide +kernel
theorem dX5_placeOf_0 : decode mX5_placeOf.2.1 0 = .ok (.aload_n 0, 1) := by decide +kernel
theorem dX5_placeOf_1 : decode mX5_placeOf.2.1 1 = .ok (.getfield 11, 3) := by decide +kernel
theorem dX5_placeOf_4 : decode mX5_placeOf.2.1 4 = .ok (.iload_n 1, 1) := by decide +kernel
theorem dX5_placeOf_5 : decode mX5_placeOf.2.1 5 = .ok (.invokestatic 73, 3) := by decide +kernel
theorem dX5_placeOf_8 : decode mX5_placeOf.2.1 8 = .ok (.iconst 3, 1) := by decide +kernel
theorem dX5_placeOf_9 : decode mX5_placeOf.2.1 9 = .ok (.iload_n 2, 1) := by decide +kernel
theorem dX5_placeOf_10 : decode mX5_placeOf.2.1 10 = .ok (.imul, 1) := by decide +kernel
theorem dX5_placeOf_11 : decode mX5_placeOf.2.1 11 = .ok (.ishr, 1) := by decide +kernel
theorem dX5_placeOf_12 : decode mX5_placeOf.2.1 12 = .ok (.bipush 7, 2) := by decide +kernel
theorem dX5_placeOf_14 : decode mX5_placeOf.2.1 14 = .ok (.iand, 1) := by decide +kernel
theorem dX5_placeOf_15 : decode mX5_placeOf.2.1 15 = .ok (.ireturn, 1) := by decide +kernel
theorem dX5_firstOfFewestMisses_0 : decode mX5_firstOfFewestMisses.2.1 0 = .ok (.iconst 0, 1) := by decide +kernel
theorem dX5_firstOfFewestMisses_1 : decode mX5_firstOfFewestMisses.2.1 1 = .ok (.istore_n 1, 1) := by decide +kernel
theorem dX5_firstOfFewestMisses_2 : decode mX5_firstOfFewestMisses.2.1 2 = .ok (.aload_n 0, 1) := by decide +kernel
theorem dX5_firstOfFewestMisses_3 : decode mX5_firstOfFewestMisses.2.1 3 = .ok (.iconst 0, 1) := by decide +kernel
theorem dX5_firstOfFewestMisses_4 : decode mX5_firstOfFewestMisses.2.1 4 = .ok (.invokevirtual 148, 3) := by decide +kernel
theorem dX5_firstOfFewestMisses_7 : decode mX5_firstOfFewestMisses.2.1 7 = .ok (.istore_n 2, 1) := by decide +kernel
theorem dX5_firstOfFewestMisses_8 : decode mX5_firstOfFewestMisses.2.1 8 = .ok (.iconst 1, 1) := by decide +kernel
theorem dX5_firstOfFewestMisses_9 : decode mX5_firstOfFewestMisses.2.1 9 = .ok (.istore_n 3, 1) := by decide +kernel
theorem dX5_firstOfFewestMisses_10 : decode mX5_firstOfFewestMisses.2.1 10 = .ok (.iload_n 3, 1) := by decide +kernel
theorem dX5_firstOfFewestMisses_11 : decode mX5_firstOfFewestMisses.2.1 11 = .ok (.aload_n 0, 1) := by decide +kernel
theorem dX5_firstOfFewestMisses_12 : decode mX5_firstOfFewestMisses.2.1 12 = .ok (.getfield 50, 3) := by decide +kernel
theorem dX5_firstOfFewestMisses_15 : decode mX5_firstOfFewestMisses.2.1 15 = .ok (.if_icmp .ge 31, 3) := by decide +kernel
theorem dX5_firstOfFewestMisses_18 : decode mX5_firstOfFewestMisses.2.1 18 = .ok (.iload_n 2, 1) := by decide +kernel
theorem dX5_firstOfFewestMisses_19 : decode mX5_firstOfFewestMisses.2.1 19 = .ok (.ifCond .le 27, 3) := by decide +kernel
theorem dX5_firstOfFewestMisses_22 : decode mX5_firstOfFewestMisses.2.1 22 = .ok (.aload_n 0, 1) := by decide +kernel
theorem dX5_firstOfFewestMisses_23 : decode mX5_firstOfFewestMisses.2.1 23 = .ok (.iload_n 3, 1) := by decide +kernel
theorem dX5_firstOfFewestMisses_24 : decode mX5_firstOfFewestMisses.2.1 24 = .ok (.invokevirtual 148, 3) := by decide +kernel
theorem dX5_firstOfFewestMisses_27 : decode mX5_firstOfFewestMisses.2.1 27 = .ok (.istore 4, 2) := by decide +kernel
theorem dX5_firstOfFewestMisses_29 : decode mX5_firstOfFewestMisses.2.1 29 = .ok (.iload 4, 2) := by decide +kernel
theorem dX5_firstOfFewestMisses_31 : decode mX5_firstOfFewestMisses.2.1 31 = .ok (.iload_n 2, 1) := by decide +kernel
theorem dX5_firstOfFewestMisses_32 : decode mX5_firstOfFewestMisses.2.1 32 = .ok (.if_icmp .ge 8, 3) := by decide +kernel
theorem dX5_firstOfFewestMisses_35 : decode mX5_firstOfFewestMisses.2.1 35 = .ok (.iload_n 3, 1) := by decide +kernel
theorem dX5_firstOfFewestMisses_36 : decode mX5_firstOfFewestMisses.2.1 36 = .ok (.istore_n 1, 1) := by decide +kernel
theorem dX5_firstOfFewestMisses_37 : decode mX5_firstOfFewestMisses.2.1 37 = .ok (.iload 4, 2) := by decide +kernel
theorem dX5_firstOfFewestMisses_39 : decode mX5_firstOfFewestMisses.2.1 39 = .ok (.istore_n 2, 1) := by decide +kernel
theorem dX5_firstOfFewestMisses_40 : decode mX5_firstOfFewestMisses.2.1 40 = .ok (.iinc 3 1, 3) := by decide +kernel
theorem dX5_firstOfFewestMisses_43 : decode mX5_firstOfFewestMisses.2.1 43 = .ok (.goto (-33), 3) := by decide +kernel
theorem dX5_firstOfFewestMisses_46 : decode mX5_firstOfFewestMisses.2.1 46 = .ok (.iload_n 1, 1) := by decide +kernel
theorem dX5_firstOfFewestMisses_47 : decode mX5_firstOfFewestMisses.2.1 47 = .ok (.ireturn, 1) := by decide +kernel
theorem dX5_missesOf_0 : decode mX5_missesOf.2.1 0 = .ok (.aload_n 0, 1) := by decide +kernel
theorem dX5_missesOf_1 : decode mX5_missesOf.2.1 1 = .ok (.aload_n 0, 1) := by decide +kernel
theorem dX5_missesOf_2 : decode mX5_missesOf.2.1 2 = .ok (.iload_n 1, 1) := by decide +kernel
theorem dX5_missesOf_3 : decode mX5_missesOf.2.1 3 = .ok (.invokevirtual 145, 3) := by decide +kernel
theorem dX5_missesOf_6 : decode mX5_missesOf.2.1 6 = .ok (.invokevirtual 130, 3) := by decide +kernel
theorem dX5_missesOf_9 : decode mX5_missesOf.2.1 9 = .ok (.ireturn, 1) := by decide +kernel
theorem dX5_markOf_0 : decode mX5_markOf.2.1 0 = .ok (.aload_n 0, 1) := by decide +kernel
theorem dX5_markOf_1 : decode mX5_markOf.2.1 1 = .ok (.getfield 15, 3) := by decide +kernel
theorem dX5_markOf_4 : decode mX5_markOf.2.1 4 = .ok (.iload_n 1, 1) := by decide +kernel
theorem dX5_markOf_5 : decode mX5_markOf.2.1 5 = .ok (.invokestatic 73, 3) := by decide +kernel
theorem dX5_markOf_8 : decode mX5_markOf.2.1 8 = .ok (.ireturn, 1) := by decide +kernel
theorem dX5_know_0 : decode mX5_know.2.1 0 = .ok (.aload_n 0, 1) := by decide +kernel
theorem dX5_know_1 : decode mX5_know.2.1 1 = .ok (.aload_n 1, 1) := by decide +kernel
theorem dX5_know_2 : decode mX5_know.2.1 2 = .ok (.iload_n 2, 1) := by decide +kernel
theorem dX5_know_3 : decode mX5_know.2.1 3 = .ok (.invokevirtual 134, 3) := by decide +kernel
theorem dX5_know_6 : decode mX5_know.2.1 6 = .ok (.aload_n 0, 1) := by decide +kernel
theorem dX5_know_7 : decode mX5_know.2.1 7 = .ok (.iconst 0, 1) := by decide +kernel
theorem dX5_know_8 : decode mX5_know.2.1 8 = .ok (.invokevirtual 138, 3) := by decide +kernel
theorem dX5_know_11 : decode mX5_know.2.1 11 = .ok (.aload_n 0, 1) := by decide +kernel
theorem dX5_know_12 : decode mX5_know.2.1 12 = .ok (.getfield 124, 3) := by decide +kernel
theorem dX5_know_15 : decode mX5_know.2.1 15 = .ok (.ireturn, 1) := by decide +kernel
theorem dX5_extremePlace_0 : decode mX5_extremePlace.2.1 0 = .ok (.aload_n 0, 1) := by decide +kernel
theorem dX5_extremePlace_1 : decode mX5_extremePlace.2.1 1 = .ok (.aload_n 0, 1) := by decide +kernel
theorem dX5_extremePlace_2 : decode mX5_extremePlace.2.1 2 = .ok (.iconst 0, 1) := by decide +kernel
theorem dX5_extremePlace_3 : decode mX5_extremePlace.2.1 3 = .ok (.invokevirtual 154, 3) := by decide +kernel
theorem dX5_extremePlace_6 : decode mX5_extremePlace.2.1 6 = .ok (.iload_n 1, 1) := by decide +kernel
theorem dX5_extremePlace_7 : decode mX5_extremePlace.2.1 7 = .ok (.invokevirtual 151, 3) := by decide +kernel
theorem dX5_extremePlace_10 : decode mX5_extremePlace.2.1 10 = .ok (.istore_n 3, 1) := by decide +kernel
theorem dX5_extremePlace_11 : decode mX5_extremePlace.2.1 11 = .ok (.iconst 1, 1) := by decide +kernel
theorem dX5_extremePlace_12 : decode mX5_extremePlace.2.1 12 = .ok (.istore 4, 2) := by decide +kernel
theorem dX5_extremePlace_14 : decode mX5_extremePlace.2.1 14 = .ok (.iload 4, 2) := by decide +kernel
theorem dX5_extremePlace_16 : decode mX5_extremePlace.2.1 16 = .ok (.aload_n 0, 1) := by decide +kernel
theorem dX5_extremePlace_17 : decode mX5_extremePlace.2.1 17 = .ok (.getfield 124, 3) := by decide +kernel
theorem dX5_extremePlace_20 : decode mX5_extremePlace.2.1 20 = .ok (.if_icmp .ge 42, 3) := by decide +kernel
theorem dX5_extremePlace_23 : decode mX5_extremePlace.2.1 23 = .ok (.aload_n 0, 1) := by decide +kernel
theorem dX5_extremePlace_24 : decode mX5_extremePlace.2.1 24 = .ok (.aload_n 0, 1) := by decide +kernel
theorem dX5_extremePlace_25 : decode mX5_extremePlace.2.1 25 = .ok (.iload 4, 2) := by decide +kernel
theorem dX5_extremePlace_27 : decode mX5_extremePlace.2.1 27 = .ok (.invokevirtual 154, 3) := by decide +kernel
theorem dX5_extremePlace_30 : decode mX5_extremePlace.2.1 30 = .ok (.iload_n 1, 1) := by decide +kernel
theorem dX5_extremePlace_31 : decode mX5_extremePlace.2.1 31 = .ok (.invokevirtual 151, 3) := by decide +kernel
theorem dX5_extremePlace_34 : decode mX5_extremePlace.2.1 34 = .ok (.istore 5, 2) := by decide +kernel
theorem dX5_extremePlace_36 : decode mX5_extremePlace.2.1 36 = .ok (.iload_n 2, 1) := by decide +kernel
theorem dX5_extremePlace_37 : decode mX5_extremePlace.2.1 37 = .ok (.ifCond .eq 12, 3) := by decide +kernel
theorem dX5_extremePlace_40 : decode mX5_extremePlace.2.1 40 = .ok (.iload_n 3, 1) := by decide +kernel
theorem dX5_extremePlace_41 : decode mX5_extremePlace.2.1 41 = .ok (.iload 5, 2) := by decide +kernel
theorem dX5_extremePlace_43 : decode mX5_extremePlace.2.1 43 = .ok (.invokestatic 38, 3) := by decide +kernel
theorem dX5_extremePlace_46 : decode mX5_extremePlace.2.1 46 = .ok (.goto 9, 3) := by decide +kernel
theorem dX5_extremePlace_49 : decode mX5_extremePlace.2.1 49 = .ok (.iload_n 3, 1) := by decide +kernel
theorem dX5_extremePlace_50 : decode mX5_extremePlace.2.1 50 = .ok (.iload 5, 2) := by decide +kernel
theorem dX5_extremePlace_52 : decode mX5_extremePlace.2.1 52 = .ok (.invokestatic 32, 3) := by decide +kernel
theorem dX5_extremePlace_55 : decode mX5_extremePlace.2.1 55 = .ok (.istore_n 3, 1) := by decide +kernel
theorem dX5_extremePlace_56 : decode mX5_extremePlace.2.1 56 = .ok (.iinc 4 1, 3) := by decide +kernel
theorem dX5_extremePlace_59 : decode mX5_extremePlace.2.1 59 = .ok (.goto (-45), 3) := by decide +kernel
theorem dX5_extremePlace_62 : decode mX5_extremePlace.2.1 62 = .ok (.iload_n 3, 1) := by decide +kernel
theorem dX5_extremePlace_63 : decode mX5_extremePlace.2.1 63 = .ok (.ireturn, 1) := by decide +kernel
theorem dX5_standing_0 : decode mX5_standing.2.1 0 = .ok (.iload_n 2, 1) := by decide +kernel
theorem dX5_standing_1 : decode mX5_standing.2.1 1 = .ok (.ifCond .eq 7, 3) := by decide +kernel
theorem dX5_standing_4 : decode mX5_standing.2.1 4 = .ok (.iconst 0, 1) := by decide +kernel
theorem dX5_standing_5 : decode mX5_standing.2.1 5 = .ok (.goto 11, 3) := by decide +kernel
theorem dX5_standing_8 : decode mX5_standing.2.1 8 = .ok (.iconst 1, 1) := by decide +kernel
theorem dX5_standing_9 : decode mX5_standing.2.1 9 = .ok (.aload_n 0, 1) := by decide +kernel
theorem dX5_standing_10 : decode mX5_standing.2.1 10 = .ok (.getfield 49, 3) := by decide +kernel
theorem dX5_standing_13 : decode mX5_standing.2.1 13 = .ok (.ishl, 1) := by decide +kernel
theorem dX5_standing_14 : decode mX5_standing.2.1 14 = .ok (.iconst 1, 1) := by decide +kernel
theorem dX5_standing_15 : decode mX5_standing.2.1 15 = .ok (.isub, 1) := by decide +kernel
theorem dX5_standing_16 : decode mX5_standing.2.1 16 = .ok (.istore_n 3, 1) := by decide +kernel
theorem dX5_standing_17 : decode mX5_standing.2.1 17 = .ok (.iconst 0, 1) := by decide +kernel
theorem dX5_standing_18 : decode mX5_standing.2.1 18 = .ok (.istore 4, 2) := by decide +kernel
theorem dX5_standing_20 : decode mX5_standing.2.1 20 = .ok (.iload 4, 2) := by decide +kernel
theorem dX5_standing_22 : decode mX5_standing.2.1 22 = .ok (.aload_n 0, 1) := by decide +kernel
theorem dX5_standing_23 : decode mX5_standing.2.1 23 = .ok (.getfield 124, 3) := by decide +kernel
theorem dX5_standing_26 : decode mX5_standing.2.1 26 = .ok (.if_icmp .ge 39, 3) := by decide +kernel
theorem dX5_standing_29 : decode mX5_standing.2.1 29 = .ok (.aload_n 0, 1) := by decide +kernel
theorem dX5_standing_30 : decode mX5_standing.2.1 30 = .ok (.aload_n 0, 1) := by decide +kernel
theorem dX5_standing_31 : decode mX5_standing.2.1 31 = .ok (.iload 4, 2) := by decide +kernel
theorem dX5_standing_33 : decode mX5_standing.2.1 33 = .ok (.invokevirtual 154, 3) := by decide +kernel
theorem dX5_standing_36 : decode mX5_standing.2.1 36 = .ok (.iconst 1, 1) := by decide +kernel
theorem dX5_standing_37 : decode mX5_standing.2.1 37 = .ok (.iload_n 1, 1) := by decide +kernel
theorem dX5_standing_38 : decode mX5_standing.2.1 38 = .ok (.invokevirtual 157, 3) := by decide +kernel
theorem dX5_standing_41 : decode mX5_standing.2.1 41 = .ok (.istore 5, 2) := by decide +kernel
theorem dX5_standing_43 : decode mX5_standing.2.1 43 = .ok (.iload_n 2, 1) := by decide +kernel
theorem dX5_standing_44 : decode mX5_standing.2.1 44 = .ok (.ifCond .eq 10, 3) := by decide +kernel
theorem dX5_standing_47 : decode mX5_standing.2.1 47 = .ok (.iload_n 3, 1) := by decide +kernel
theorem dX5_standing_48 : decode mX5_standing.2.1 48 = .ok (.iload 5, 2) := by decide +kernel
theorem dX5_standing_50 : decode mX5_standing.2.1 50 = .ok (.ior, 1) := by decide +kernel
theorem dX5_standing_51 : decode mX5_standing.2.1 51 = .ok (.goto 7, 3) := by decide +kernel
theorem dX5_standing_54 : decode mX5_standing.2.1 54 = .ok (.iload_n 3, 1) := by decide +kernel
theorem dX5_standing_55 : decode mX5_standing.2.1 55 = .ok (.iload 5, 2) := by decide +kernel
theorem dX5_standing_57 : decode mX5_standing.2.1 57 = .ok (.iand, 1) := by decide +kernel
theorem dX5_standing_58 : decode mX5_standing.2.1 58 = .ok (.istore_n 3, 1) := by decide +kernel
theorem dX5_standing_59 : decode mX5_standing.2.1 59 = .ok (.iinc 4 1, 3) := by decide +kernel
theorem dX5_standing_62 : decode mX5_standing.2.1 62 = .ok (.goto (-42), 3) := by decide +kernel
theorem dX5_standing_65 : decode mX5_standing.2.1 65 = .ok (.iload_n 3, 1) := by decide +kernel
theorem dX5_standing_66 : decode mX5_standing.2.1 66 = .ok (.ireturn, 1) := by decide +kernel
theorem dX5_goalOf_0 : decode mX5_goalOf.2.1 0 = .ok (.iload_n 2, 1) := by decide +kernel
theorem dX5_goalOf_1 : decode mX5_goalOf.2.1 1 = .ok (.iconst 2, 1) := by decide +kernel
theorem dX5_goalOf_2 : decode mX5_goalOf.2.1 2 = .ok (.if_icmp .ne 10, 3) := by decide +kernel
theorem dX5_goalOf_5 : decode mX5_goalOf.2.1 5 = .ok (.aload_n 0, 1) := by decide +kernel
theorem dX5_goalOf_6 : decode mX5_goalOf.2.1 6 = .ok (.iload_n 1, 1) := by decide +kernel
theorem dX5_goalOf_7 : decode mX5_goalOf.2.1 7 = .ok (.iload_n 3, 1) := by decide +kernel
theorem dX5_goalOf_8 : decode mX5_goalOf.2.1 8 = .ok (.invokevirtual 151, 3) := by decide +kernel
theorem dX5_goalOf_11 : decode mX5_goalOf.2.1 11 = .ok (.ireturn, 1) := by decide +kernel
theorem dX5_goalOf_12 : decode mX5_goalOf.2.1 12 = .ok (.iconst 0, 1) := by decide +kernel
theorem dX5_goalOf_13 : decode mX5_goalOf.2.1 13 = .ok (.istore 4, 2) := by decide +kernel
theorem dX5_goalOf_15 : decode mX5_goalOf.2.1 15 = .ok (.iconst 0, 1) := by decide +kernel
theorem dX5_goalOf_16 : decode mX5_goalOf.2.1 16 = .ok (.istore 5, 2) := by decide +kernel
theorem dX5_goalOf_18 : decode mX5_goalOf.2.1 18 = .ok (.iload 5, 2) := by decide +kernel
theorem dX5_goalOf_20 : decode mX5_goalOf.2.1 20 = .ok (.aload_n 0, 1) := by decide +kernel
theorem dX5_goalOf_21 : decode mX5_goalOf.2.1 21 = .ok (.getfield 49, 3) := by decide +kernel
theorem dX5_goalOf_24 : decode mX5_goalOf.2.1 24 = .ok (.if_icmp .ge 50, 3) := by decide +kernel
theorem dX5_goalOf_27 : decode mX5_goalOf.2.1 27 = .ok (.aload_n 0, 1) := by decide +kernel
theorem dX5_goalOf_28 : decode mX5_goalOf.2.1 28 = .ok (.iload_n 1, 1) := by decide +kernel
theorem dX5_goalOf_29 : decode mX5_goalOf.2.1 29 = .ok (.iload 5, 2) := by decide +kernel
theorem dX5_goalOf_31 : decode mX5_goalOf.2.1 31 = .ok (.invokevirtual 151, 3) := by decide +kernel
theorem dX5_goalOf_34 : decode mX5_goalOf.2.1 34 = .ok (.istore 6, 2) := by decide +kernel
theorem dX5_goalOf_36 : decode mX5_goalOf.2.1 36 = .ok (.iload_n 2, 1) := by decide +kernel
theorem dX5_goalOf_37 : decode mX5_goalOf.2.1 37 = .ok (.ifCond .ne 16, 3) := by decide +kernel
theorem dX5_goalOf_40 : decode mX5_goalOf.2.1 40 = .ok (.bipush 10, 2) := by decide +kernel
theorem dX5_goalOf_42 : decode mX5_goalOf.2.1 42 = .ok (.iload 4, 2) := by decide +kernel
theorem dX5_goalOf_44 : decode mX5_goalOf.2.1 44 = .ok (.imul, 1) := by decide +kernel
theorem dX5_goalOf_45 : decode mX5_goalOf.2.1 45 = .ok (.iload 6, 2) := by decide +kernel
theorem dX5_goalOf_47 : decode mX5_goalOf.2.1 47 = .ok (.iadd, 1) := by decide +kernel
theorem dX5_goalOf_48 : decode mX5_goalOf.2.1 48 = .ok (.istore 4, 2) := by decide +kernel
theorem dX5_goalOf_50 : decode mX5_goalOf.2.1 50 = .ok (.goto 18, 3) := by decide +kernel
theorem dX5_goalOf_53 : decode mX5_goalOf.2.1 53 = .ok (.iload 6, 2) := by decide +kernel
theorem dX5_goalOf_55 : decode mX5_goalOf.2.1 55 = .ok (.iload_n 3, 1) := by decide +kernel
theorem dX5_goalOf_56 : decode mX5_goalOf.2.1 56 = .ok (.if_icmp .ne 12, 3) := by decide +kernel
theorem dX5_goalOf_59 : decode mX5_goalOf.2.1 59 = .ok (.iload 4, 2) := by decide +kernel
theorem dX5_goalOf_61 : decode mX5_goalOf.2.1 61 = .ok (.iconst 1, 1) := by decide +kernel
theorem dX5_goalOf_62 : decode mX5_goalOf.2.1 62 = .ok (.iload 5, 2) := by decide +kernel
theorem dX5_goalOf_64 : decode mX5_goalOf.2.1 64 = .ok (.ishl, 1) := by decide +kernel
theorem dX5_goalOf_65 : decode mX5_goalOf.2.1 65 = .ok (.ior, 1) := by decide +kernel
theorem dX5_goalOf_66 : decode mX5_goalOf.2.1 66 = .ok (.istore 4, 2) := by decide +kernel
theorem dX5_goalOf_68 : decode mX5_goalOf.2.1 68 = .ok (.iinc 5 1, 3) := by decide +kernel
theorem dX5_goalOf_71 : decode mX5_goalOf.2.1 71 = .ok (.goto (-53), 3) := by decide +kernel
theorem dX5_goalOf_74 : decode mX5_goalOf.2.1 74 = .ok (.iload 4, 2) := by decide +kernel
theorem dX5_goalOf_76 : decode mX5_goalOf.2.1 76 = .ok (.ireturn, 1) := by decide +kernel
theorem dX5_isSure_0 : decode mX5_isSure.2.1 0 = .ok (.iload_n 1, 1) := by decide +kernel
theorem dX5_isSure_1 : decode mX5_isSure.2.1 1 = .ok (.iload_n 2, 1) := by decide +kernel
theorem dX5_isSure_2 : decode mX5_isSure.2.1 2 = .ok (.if_icmp .eq 27, 3) := by decide +kernel
theorem dX5_isSure_5 : decode mX5_isSure.2.1 5 = .ok (.aload_n 0, 1) := by decide +kernel
theorem dX5_isSure_6 : decode mX5_isSure.2.1 6 = .ok (.getfield 127, 3) := by decide +kernel
theorem dX5_isSure_9 : decode mX5_isSure.2.1 9 = .ok (.aload_n 0, 1) := by decide +kernel
theorem dX5_isSure_10 : decode mX5_isSure.2.1 10 = .ok (.getfield 49, 3) := by decide +kernel
theorem dX5_isSure_13 : decode mX5_isSure.2.1 13 = .ok (.iload_n 1, 1) := by decide +kernel
theorem dX5_isSure_14 : decode mX5_isSure.2.1 14 = .ok (.iload_n 2, 1) := by decide +kernel
theorem dX5_isSure_15 : decode mX5_isSure.2.1 15 = .ok (.iload_n 3, 1) := by decide +kernel
theorem dX5_isSure_16 : decode mX5_isSure.2.1 16 = .ok (.invokestatic 81, 3) := by decide +kernel
theorem dX5_isSure_19 : decode mX5_isSure.2.1 19 = .ok (.invokestatic 142, 3) := by decide +kernel
theorem dX5_isSure_22 : decode mX5_isSure.2.1 22 = .ok (.ifCond .eq 7, 3) := by decide +kernel
theorem dX5_isSure_25 : decode mX5_isSure.2.1 25 = .ok (.iconst 1, 1) := by decide +kernel
theorem dX5_isSure_26 : decode mX5_isSure.2.1 26 = .ok (.goto 4, 3) := by decide +kernel
theorem dX5_isSure_29 : decode mX5_isSure.2.1 29 = .ok (.iconst 0, 1) := by decide +kernel
theorem dX5_isSure_30 : decode mX5_isSure.2.1 30 = .ok (.ireturn, 1) := by decide +kernel
theorem dX5_answer_0 : decode mX5_answer.2.1 0 = .ok (.iload_n 1, 1) := by decide +kernel
theorem dX5_answer_1 : decode mX5_answer.2.1 1 = .ok (.ifCond .ne 35, 3) := by decide +kernel
theorem dX5_answer_4 : decode mX5_answer.2.1 4 = .ok (.iload_n 3, 1) := by decide +kernel
theorem dX5_answer_5 : decode mX5_answer.2.1 5 = .ok (.ifCond .ne 10, 3) := by decide +kernel
theorem dX5_answer_8 : decode mX5_answer.2.1 8 = .ok (.aload_n 0, 1) := by decide +kernel
theorem dX5_answer_9 : decode mX5_answer.2.1 9 = .ok (.getfield 124, 3) := by decide +kernel
theorem dX5_answer_12 : decode mX5_answer.2.1 12 = .ok (.goto 23, 3) := by decide +kernel
theorem dX5_answer_15 : decode mX5_answer.2.1 15 = .ok (.iload_n 3, 1) := by decide +kernel
theorem dX5_answer_16 : decode mX5_answer.2.1 16 = .ok (.iconst 1, 1) := by decide +kernel
theorem dX5_answer_17 : decode mX5_answer.2.1 17 = .ok (.if_icmp .ne 7, 3) := by decide +kernel
theorem dX5_answer_20 : decode mX5_answer.2.1 20 = .ok (.iconst 1, 1) := by decide +kernel
theorem dX5_answer_21 : decode mX5_answer.2.1 21 = .ok (.goto 14, 3) := by decide +kernel
theorem dX5_answer_24 : decode mX5_answer.2.1 24 = .ok (.aload_n 0, 1) := by decide +kernel
theorem dX5_answer_25 : decode mX5_answer.2.1 25 = .ok (.aload_n 0, 1) := by decide +kernel
theorem dX5_answer_26 : decode mX5_answer.2.1 26 = .ok (.iconst 0, 1) := by decide +kernel
theorem dX5_answer_27 : decode mX5_answer.2.1 27 = .ok (.invokevirtual 154, 3) := by decide +kernel
theorem dX5_answer_30 : decode mX5_answer.2.1 30 = .ok (.iconst 0, 1) := by decide +kernel
theorem dX5_answer_31 : decode mX5_answer.2.1 31 = .ok (.iconst 0, 1) := by decide +kernel
theorem dX5_answer_32 : decode mX5_answer.2.1 32 = .ok (.invokevirtual 157, 3) := by decide +kernel
theorem dX5_answer_35 : decode mX5_answer.2.1 35 = .ok (.ireturn, 1) := by decide +kernel
theorem dX5_answer_36 : decode mX5_answer.2.1 36 = .ok (.aload_n 0, 1) := by decide +kernel
theorem dX5_answer_37 : decode mX5_answer.2.1 37 = .ok (.getfield 24, 3) := by decide +kernel
theorem dX5_answer_40 : decode mX5_answer.2.1 40 = .ok (.iconst 0, 1) := by decide +kernel
theorem dX5_answer_41 : decode mX5_answer.2.1 41 = .ok (.invokestatic 85, 3) := by decide +kernel
theorem dX5_answer_44 : decode mX5_answer.2.1 44 = .ok (.iconst 0, 1) := by decide +kernel
theorem dX5_answer_45 : decode mX5_answer.2.1 45 = .ok (.istore 4, 2) := by decide +kernel
theorem dX5_answer_47 : decode mX5_answer.2.1 47 = .ok (.iload 4, 2) := by decide +kernel
theorem dX5_answer_49 : decode mX5_answer.2.1 49 = .ok (.aload_n 0, 1) := by decide +kernel
theorem dX5_answer_50 : decode mX5_answer.2.1 50 = .ok (.getfield 124, 3) := by decide +kernel
theorem dX5_answer_53 : decode mX5_answer.2.1 53 = .ok (.if_icmp .ge 29, 3) := by decide +kernel
theorem dX5_answer_56 : decode mX5_answer.2.1 56 = .ok (.aload_n 0, 1) := by decide +kernel
theorem dX5_answer_57 : decode mX5_answer.2.1 57 = .ok (.getfield 24, 3) := by decide +kernel
theorem dX5_answer_60 : decode mX5_answer.2.1 60 = .ok (.aload_n 0, 1) := by decide +kernel
theorem dX5_answer_61 : decode mX5_answer.2.1 61 = .ok (.aload_n 0, 1) := by decide +kernel
theorem dX5_answer_62 : decode mX5_answer.2.1 62 = .ok (.iload 4, 2) := by decide +kernel
theorem dX5_answer_64 : decode mX5_answer.2.1 64 = .ok (.invokevirtual 154, 3) := by decide +kernel
theorem dX5_answer_67 : decode mX5_answer.2.1 67 = .ok (.iload_n 1, 1) := by decide +kernel
theorem dX5_answer_68 : decode mX5_answer.2.1 68 = .ok (.iload_n 2, 1) := by decide +kernel
theorem dX5_answer_69 : decode mX5_answer.2.1 69 = .ok (.invokevirtual 157, 3) := by decide +kernel
theorem dX5_answer_72 : decode mX5_answer.2.1 72 = .ok (.iconst 1, 1) := by decide +kernel
theorem dX5_answer_73 : decode mX5_answer.2.1 73 = .ok (.invokestatic 121, 3) := by decide +kernel
theorem dX5_answer_76 : decode mX5_answer.2.1 76 = .ok (.iinc 4 1, 3) := by decide +kernel
theorem dX5_answer_79 : decode mX5_answer.2.1 79 = .ok (.goto (-32), 3) := by decide +kernel
theorem dX5_answer_82 : decode mX5_answer.2.1 82 = .ok (.iconst 0, 1) := by decide +kernel
theorem dX5_answer_83 : decode mX5_answer.2.1 83 = .ok (.istore 4, 2) := by decide +kernel
theorem dX5_answer_85 : decode mX5_answer.2.1 85 = .ok (.iconst 0, 1) := by decide +kernel
theorem dX5_answer_86 : decode mX5_answer.2.1 86 = .ok (.istore 5, 2) := by decide +kernel
theorem dX5_answer_88 : decode mX5_answer.2.1 88 = .ok (.iconst 0, 1) := by decide +kernel
theorem dX5_answer_89 : decode mX5_answer.2.1 89 = .ok (.istore 6, 2) := by decide +kernel
theorem dX5_answer_91 : decode mX5_answer.2.1 91 = .ok (.iload 6, 2) := by decide +kernel
theorem dX5_answer_93 : decode mX5_answer.2.1 93 = .ok (.aload_n 0, 1) := by decide +kernel
theorem dX5_answer_94 : decode mX5_answer.2.1 94 = .ok (.getfield 24, 3) := by decide +kernel
theorem dX5_answer_97 : decode mX5_answer.2.1 97 = .ok (.arraylength, 1) := by decide +kernel
theorem dX5_answer_98 : decode mX5_answer.2.1 98 = .ok (.if_icmp .ge 57, 3) := by decide +kernel
theorem dX5_answer_101 : decode mX5_answer.2.1 101 = .ok (.iload 4, 2) := by decide +kernel
theorem dX5_answer_103 : decode mX5_answer.2.1 103 = .ok (.aload_n 0, 1) := by decide +kernel
theorem dX5_answer_104 : decode mX5_answer.2.1 104 = .ok (.getfield 24, 3) := by decide +kernel
theorem dX5_answer_107 : decode mX5_answer.2.1 107 = .ok (.iload 6, 2) := by decide +kernel
theorem dX5_answer_109 : decode mX5_answer.2.1 109 = .ok (.iaload, 1) := by decide +kernel
theorem dX5_answer_110 : decode mX5_answer.2.1 110 = .ok (.ifCond .le 7, 3) := by decide +kernel
theorem dX5_answer_113 : decode mX5_answer.2.1 113 = .ok (.iconst 1, 1) := by decide +kernel
theorem dX5_answer_114 : decode mX5_answer.2.1 114 = .ok (.goto 4, 3) := by decide +kernel
theorem dX5_answer_117 : decode mX5_answer.2.1 117 = .ok (.iconst 0, 1) := by decide +kernel
theorem dX5_answer_118 : decode mX5_answer.2.1 118 = .ok (.iadd, 1) := by decide +kernel
theorem dX5_answer_119 : decode mX5_answer.2.1 119 = .ok (.istore 4, 2) := by decide +kernel
theorem dX5_answer_121 : decode mX5_answer.2.1 121 = .ok (.aload_n 0, 1) := by decide +kernel
theorem dX5_answer_122 : decode mX5_answer.2.1 122 = .ok (.getfield 24, 3) := by decide +kernel
theorem dX5_answer_125 : decode mX5_answer.2.1 125 = .ok (.iload 6, 2) := by decide +kernel
theorem dX5_answer_127 : decode mX5_answer.2.1 127 = .ok (.iaload, 1) := by decide +kernel
theorem dX5_answer_128 : decode mX5_answer.2.1 128 = .ok (.aload_n 0, 1) := by decide +kernel
theorem dX5_answer_129 : decode mX5_answer.2.1 129 = .ok (.getfield 24, 3) := by decide +kernel
theorem dX5_answer_132 : decode mX5_answer.2.1 132 = .ok (.iload 5, 2) := by decide +kernel
theorem dX5_answer_134 : decode mX5_answer.2.1 134 = .ok (.invokestatic 73, 3) := by decide +kernel
theorem dX5_answer_137 : decode mX5_answer.2.1 137 = .ok (.if_icmp .le 8, 3) := by decide +kernel
theorem dX5_answer_140 : decode mX5_answer.2.1 140 = .ok (.iload 6, 2) := by decide +kernel
theorem dX5_answer_142 : decode mX5_answer.2.1 142 = .ok (.goto 5, 3) := by decide +kernel
theorem dX5_answer_145 : decode mX5_answer.2.1 145 = .ok (.iload 5, 2) := by decide +kernel
theorem dX5_answer_147 : decode mX5_answer.2.1 147 = .ok (.istore 5, 2) := by decide +kernel
theorem dX5_answer_149 : decode mX5_answer.2.1 149 = .ok (.iinc 6 1, 3) := by decide +kernel
theorem dX5_answer_152 : decode mX5_answer.2.1 152 = .ok (.goto (-61), 3) := by decide +kernel
theorem dX5_answer_155 : decode mX5_answer.2.1 155 = .ok (.iload_n 3, 1) := by decide +kernel
theorem dX5_answer_156 : decode mX5_answer.2.1 156 = .ok (.ifCond .ne 8, 3) := by decide +kernel
theorem dX5_answer_159 : decode mX5_answer.2.1 159 = .ok (.iload 4, 2) := by decide +kernel
theorem dX5_answer_161 : decode mX5_answer.2.1 161 = .ok (.goto 22, 3) := by decide +kernel
theorem dX5_answer_164 : decode mX5_answer.2.1 164 = .ok (.iload_n 3, 1) := by decide +kernel
theorem dX5_answer_165 : decode mX5_answer.2.1 165 = .ok (.iconst 1, 1) := by decide +kernel
theorem dX5_answer_166 : decode mX5_answer.2.1 166 = .ok (.if_icmp .ne 15, 3) := by decide +kernel
theorem dX5_answer_169 : decode mX5_answer.2.1 169 = .ok (.aload_n 0, 1) := by decide +kernel
theorem dX5_answer_170 : decode mX5_answer.2.1 170 = .ok (.getfield 24, 3) := by decide +kernel
theorem dX5_answer_173 : decode mX5_answer.2.1 173 = .ok (.iload 5, 2) := by decide +kernel
theorem dX5_answer_175 : decode mX5_answer.2.1 175 = .ok (.invokestatic 73, 3) := by decide +kernel
theorem dX5_answer_178 : decode mX5_answer.2.1 178 = .ok (.goto 5, 3) := by decide +kernel
theorem dX5_answer_181 : decode mX5_answer.2.1 181 = .ok (.iload 5, 2) := by decide +kernel
theorem dX5_answer_183 : decode mX5_answer.2.1 183 = .ok (.ireturn, 1) := by decide +kernel
theorem dX5_saidBy_0 : decode mX5_saidBy.2.1 0 = .ok (.aload_n 0, 1) := by decide +kernel
theorem dX5_saidBy_1 : decode mX5_saidBy.2.1 1 = .ok (.iload_n 1, 1) := by decide +kernel
theorem dX5_saidBy_2 : decode mX5_saidBy.2.1 2 = .ok (.iload_n 2, 1) := by decide +kernel
theorem dX5_saidBy_3 : decode mX5_saidBy.2.1 3 = .ok (.invokevirtual 151, 3) := by decide +kernel
theorem dX5_saidBy_6 : decode mX5_saidBy.2.1 6 = .ok (.aload_n 0, 1) := by decide +kernel
theorem dX5_saidBy_7 : decode mX5_saidBy.2.1 7 = .ok (.iload_n 1, 1) := by decide +kernel
theorem dX5_saidBy_8 : decode mX5_saidBy.2.1 8 = .ok (.iload_n 3, 1) := by decide +kernel
theorem dX5_saidBy_9 : decode mX5_saidBy.2.1 9 = .ok (.invokevirtual 151, 3) := by decide +kernel
theorem dX5_saidBy_12 : decode mX5_saidBy.2.1 12 = .ok (.isub, 1) := by decide +kernel
theorem dX5_saidBy_13 : decode mX5_saidBy.2.1 13 = .ok (.istore 4, 2) := by decide +kernel
theorem dX5_saidBy_15 : decode mX5_saidBy.2.1 15 = .ok (.iload 4, 2) := by decide +kernel
theorem dX5_saidBy_17 : decode mX5_saidBy.2.1 17 = .ok (.ifCond .ge 7, 3) := by decide +kernel
theorem dX5_saidBy_20 : decode mX5_saidBy.2.1 20 = .ok (.iconst 1, 1) := by decide +kernel
theorem dX5_saidBy_21 : decode mX5_saidBy.2.1 21 = .ok (.goto 13, 3) := by decide +kernel
theorem dX5_saidBy_24 : decode mX5_saidBy.2.1 24 = .ok (.iload 4, 2) := by decide +kernel
theorem dX5_saidBy_26 : decode mX5_saidBy.2.1 26 = .ok (.ifCond .le 7, 3) := by decide +kernel
theorem dX5_saidBy_29 : decode mX5_saidBy.2.1 29 = .ok (.iconst 2, 1) := by decide +kernel
theorem dX5_saidBy_30 : decode mX5_saidBy.2.1 30 = .ok (.goto 4, 3) := by decide +kernel
theorem dX5_saidBy_33 : decode mX5_saidBy.2.1 33 = .ok (.iconst 0, 1) := by decide +kernel
theorem dX5_saidBy_34 : decode mX5_saidBy.2.1 34 = .ok (.ireturn, 1) := by decide +kernel
theorem dX5_heavierIn_0 : decode mX5_heavierIn.2.1 0 = .ok (.aload_n 0, 1) := by decide +kernel
theorem dX5_heavierIn_1 : decode mX5_heavierIn.2.1 1 = .ok (.getfield 49, 3) := by decide +kernel
theorem dX5_heavierIn_4 : decode mX5_heavierIn.2.1 4 = .ok (.iload_n 1, 1) := by decide +kernel
theorem dX5_heavierIn_5 : decode mX5_heavierIn.2.1 5 = .ok (.iload_n 2, 1) := by decide +kernel
theorem dX5_heavierIn_6 : decode mX5_heavierIn.2.1 6 = .ok (.iconst 1, 1) := by decide +kernel
theorem dX5_heavierIn_7 : decode mX5_heavierIn.2.1 7 = .ok (.invokestatic 81, 3) := by decide +kernel
theorem dX5_heavierIn_10 : decode mX5_heavierIn.2.1 10 = .ok (.istore_n 3, 1) := by decide +kernel
theorem dX5_heavierIn_11 : decode mX5_heavierIn.2.1 11 = .ok (.iconst 0, 1) := by decide +kernel
theorem dX5_heavierIn_12 : decode mX5_heavierIn.2.1 12 = .ok (.istore 4, 2) := by decide +kernel
theorem dX5_heavierIn_14 : decode mX5_heavierIn.2.1 14 = .ok (.iconst 0, 1) := by decide +kernel
theorem dX5_heavierIn_15 : decode mX5_heavierIn.2.1 15 = .ok (.istore 5, 2) := by decide +kernel
theorem dX5_heavierIn_17 : decode mX5_heavierIn.2.1 17 = .ok (.iload 5, 2) := by decide +kernel
theorem dX5_heavierIn_19 : decode mX5_heavierIn.2.1 19 = .ok (.aload_n 0, 1) := by decide +kernel
theorem dX5_heavierIn_20 : decode mX5_heavierIn.2.1 20 = .ok (.getfield 124, 3) := by decide +kernel
theorem dX5_heavierIn_23 : decode mX5_heavierIn.2.1 23 = .ok (.if_icmp .ge 36, 3) := by decide +kernel
theorem dX5_heavierIn_26 : decode mX5_heavierIn.2.1 26 = .ok (.iload 4, 2) := by decide +kernel
theorem dX5_heavierIn_28 : decode mX5_heavierIn.2.1 28 = .ok (.aload_n 0, 1) := by decide +kernel
theorem dX5_heavierIn_29 : decode mX5_heavierIn.2.1 29 = .ok (.aload_n 0, 1) := by decide +kernel
theorem dX5_heavierIn_30 : decode mX5_heavierIn.2.1 30 = .ok (.iload 5, 2) := by decide +kernel
theorem dX5_heavierIn_32 : decode mX5_heavierIn.2.1 32 = .ok (.invokevirtual 154, 3) := by decide +kernel
theorem dX5_heavierIn_35 : decode mX5_heavierIn.2.1 35 = .ok (.invokevirtual 145, 3) := by decide +kernel
theorem dX5_heavierIn_38 : decode mX5_heavierIn.2.1 38 = .ok (.iload_n 3, 1) := by decide +kernel
theorem dX5_heavierIn_39 : decode mX5_heavierIn.2.1 39 = .ok (.invokestatic 142, 3) := by decide +kernel
theorem dX5_heavierIn_42 : decode mX5_heavierIn.2.1 42 = .ok (.ifCond .eq 7, 3) := by decide +kernel
theorem dX5_heavierIn_45 : decode mX5_heavierIn.2.1 45 = .ok (.iconst 1, 1) := by decide +kernel
theorem dX5_heavierIn_46 : decode mX5_heavierIn.2.1 46 = .ok (.goto 4, 3) := by decide +kernel
theorem dX5_heavierIn_49 : decode mX5_heavierIn.2.1 49 = .ok (.iconst 0, 1) := by decide +kernel
theorem dX5_heavierIn_50 : decode mX5_heavierIn.2.1 50 = .ok (.iadd, 1) := by decide +kernel
theorem dX5_heavierIn_51 : decode mX5_heavierIn.2.1 51 = .ok (.istore 4, 2) := by decide +kernel
theorem dX5_heavierIn_53 : decode mX5_heavierIn.2.1 53 = .ok (.iinc 5 1, 3) := by decide +kernel
theorem dX5_heavierIn_56 : decode mX5_heavierIn.2.1 56 = .ok (.goto (-39), 3) := by decide +kernel
theorem dX5_heavierIn_59 : decode mX5_heavierIn.2.1 59 = .ok (.iload 4, 2) := by decide +kernel
theorem dX5_heavierIn_61 : decode mX5_heavierIn.2.1 61 = .ok (.ireturn, 1) := by decide +kernel
theorem dX5_evenestTwo_0 : decode mX5_evenestTwo.2.1 0 = .ok (.iconst (-1), 1) := by decide +kernel
theorem dX5_evenestTwo_1 : decode mX5_evenestTwo.2.1 1 = .ok (.istore_n 1, 1) := by decide +kernel
theorem dX5_evenestTwo_2 : decode mX5_evenestTwo.2.1 2 = .ok (.iconst (-1), 1) := by decide +kernel
theorem dX5_evenestTwo_3 : decode mX5_evenestTwo.2.1 3 = .ok (.istore_n 2, 1) := by decide +kernel
theorem dX5_evenestTwo_4 : decode mX5_evenestTwo.2.1 4 = .ok (.iconst 0, 1) := by decide +kernel
theorem dX5_evenestTwo_5 : decode mX5_evenestTwo.2.1 5 = .ok (.istore_n 3, 1) := by decide +kernel
theorem dX5_evenestTwo_6 : decode mX5_evenestTwo.2.1 6 = .ok (.iload_n 3, 1) := by decide +kernel
theorem dX5_evenestTwo_7 : decode mX5_evenestTwo.2.1 7 = .ok (.aload_n 0, 1) := by decide +kernel
theorem dX5_evenestTwo_8 : decode mX5_evenestTwo.2.1 8 = .ok (.getfield 49, 3) := by decide +kernel
theorem dX5_evenestTwo_11 : decode mX5_evenestTwo.2.1 11 = .ok (.if_icmp .ge 65, 3) := by decide +kernel
theorem dX5_evenestTwo_14 : decode mX5_evenestTwo.2.1 14 = .ok (.iload_n 3, 1) := by decide +kernel
theorem dX5_evenestTwo_15 : decode mX5_evenestTwo.2.1 15 = .ok (.iconst 1, 1) := by decide +kernel
theorem dX5_evenestTwo_16 : decode mX5_evenestTwo.2.1 16 = .ok (.iadd, 1) := by decide +kernel
theorem dX5_evenestTwo_17 : decode mX5_evenestTwo.2.1 17 = .ok (.istore 4, 2) := by decide +kernel
theorem dX5_evenestTwo_19 : decode mX5_evenestTwo.2.1 19 = .ok (.iload 4, 2) := by decide +kernel
theorem dX5_evenestTwo_21 : decode mX5_evenestTwo.2.1 21 = .ok (.aload_n 0, 1) := by decide +kernel
theorem dX5_evenestTwo_22 : decode mX5_evenestTwo.2.1 22 = .ok (.getfield 49, 3) := by decide +kernel
theorem dX5_evenestTwo_25 : decode mX5_evenestTwo.2.1 25 = .ok (.if_icmp .ge 45, 3) := by decide +kernel
theorem dX5_evenestTwo_28 : decode mX5_evenestTwo.2.1 28 = .ok (.aload_n 0, 1) := by decide +kernel
theorem dX5_evenestTwo_29 : decode mX5_evenestTwo.2.1 29 = .ok (.iload_n 3, 1) := by decide +kernel
theorem dX5_evenestTwo_30 : decode mX5_evenestTwo.2.1 30 = .ok (.iload 4, 2) := by decide +kernel
theorem dX5_evenestTwo_32 : decode mX5_evenestTwo.2.1 32 = .ok (.invokevirtual 164, 3) := by decide +kernel
theorem dX5_evenestTwo_35 : decode mX5_evenestTwo.2.1 35 = .ok (.aload_n 0, 1) := by decide +kernel
theorem dX5_evenestTwo_36 : decode mX5_evenestTwo.2.1 36 = .ok (.iload 4, 2) := by decide +kernel
theorem dX5_evenestTwo_38 : decode mX5_evenestTwo.2.1 38 = .ok (.iload_n 3, 1) := by decide +kernel
theorem dX5_evenestTwo_39 : decode mX5_evenestTwo.2.1 39 = .ok (.invokevirtual 164, 3) := by decide +kernel
theorem dX5_evenestTwo_42 : decode mX5_evenestTwo.2.1 42 = .ok (.invokestatic 32, 3) := by decide +kernel
theorem dX5_evenestTwo_45 : decode mX5_evenestTwo.2.1 45 = .ok (.istore 5, 2) := by decide +kernel
theorem dX5_evenestTwo_47 : decode mX5_evenestTwo.2.1 47 = .ok (.iload 5, 2) := by decide +kernel
theorem dX5_evenestTwo_49 : decode mX5_evenestTwo.2.1 49 = .ok (.iload_n 1, 1) := by decide +kernel
theorem dX5_evenestTwo_50 : decode mX5_evenestTwo.2.1 50 = .ok (.if_icmp .le 14, 3) := by decide +kernel
theorem dX5_evenestTwo_53 : decode mX5_evenestTwo.2.1 53 = .ok (.iload 5, 2) := by decide +kernel
theorem dX5_evenestTwo_55 : decode mX5_evenestTwo.2.1 55 = .ok (.istore_n 1, 1) := by decide +kernel
theorem dX5_evenestTwo_56 : decode mX5_evenestTwo.2.1 56 = .ok (.bipush 10, 2) := by decide +kernel
theorem dX5_evenestTwo_58 : decode mX5_evenestTwo.2.1 58 = .ok (.iload_n 3, 1) := by decide +kernel
theorem dX5_evenestTwo_59 : decode mX5_evenestTwo.2.1 59 = .ok (.imul, 1) := by decide +kernel
theorem dX5_evenestTwo_60 : decode mX5_evenestTwo.2.1 60 = .ok (.iload 4, 2) := by decide +kernel
theorem dX5_evenestTwo_62 : decode mX5_evenestTwo.2.1 62 = .ok (.iadd, 1) := by decide +kernel
theorem dX5_evenestTwo_63 : decode mX5_evenestTwo.2.1 63 = .ok (.istore_n 2, 1) := by decide +kernel
theorem dX5_evenestTwo_64 : decode mX5_evenestTwo.2.1 64 = .ok (.iinc 4 1, 3) := by decide +kernel
theorem dX5_evenestTwo_67 : decode mX5_evenestTwo.2.1 67 = .ok (.goto (-48), 3) := by decide +kernel
theorem dX5_evenestTwo_70 : decode mX5_evenestTwo.2.1 70 = .ok (.iinc 3 1, 3) := by decide +kernel
theorem dX5_evenestTwo_73 : decode mX5_evenestTwo.2.1 73 = .ok (.goto (-67), 3) := by decide +kernel
theorem dX5_evenestTwo_76 : decode mX5_evenestTwo.2.1 76 = .ok (.iload_n 2, 1) := by decide +kernel
theorem dX5_evenestTwo_77 : decode mX5_evenestTwo.2.1 77 = .ok (.ireturn, 1) := by decide +kernel
theorem dX5_isCover_0 : decode mX5_isCover.2.1 0 = .ok (.aload_n 0, 1) := by decide +kernel
theorem dX5_isCover_1 : decode mX5_isCover.2.1 1 = .ok (.iload_n 1, 1) := by decide +kernel
theorem dX5_isCover_2 : decode mX5_isCover.2.1 2 = .ok (.iload_n 2, 1) := by decide +kernel
theorem dX5_isCover_3 : decode mX5_isCover.2.1 3 = .ok (.iconst 1, 1) := by decide +kernel
theorem dX5_isCover_4 : decode mX5_isCover.2.1 4 = .ok (.invokevirtual 160, 3) := by decide +kernel
theorem dX5_isCover_7 : decode mX5_isCover.2.1 7 = .ok (.istore_n 3, 1) := by decide +kernel
theorem dX5_isCover_8 : decode mX5_isCover.2.1 8 = .ok (.iconst 0, 1) := by decide +kernel
theorem dX5_isCover_9 : decode mX5_isCover.2.1 9 = .ok (.istore 4, 2) := by decide +kernel
theorem dX5_isCover_11 : decode mX5_isCover.2.1 11 = .ok (.iload 4, 2) := by decide +kernel
theorem dX5_isCover_13 : decode mX5_isCover.2.1 13 = .ok (.aload_n 0, 1) := by decide +kernel
theorem dX5_isCover_14 : decode mX5_isCover.2.1 14 = .ok (.getfield 49, 3) := by decide +kernel
theorem dX5_isCover_17 : decode mX5_isCover.2.1 17 = .ok (.if_icmp .ge 41, 3) := by decide +kernel
theorem dX5_isCover_20 : decode mX5_isCover.2.1 20 = .ok (.iload_n 3, 1) := by decide +kernel
theorem dX5_isCover_21 : decode mX5_isCover.2.1 21 = .ok (.ifCond .eq 37, 3) := by decide +kernel
theorem dX5_isCover_24 : decode mX5_isCover.2.1 24 = .ok (.aload_n 0, 1) := by decide +kernel
theorem dX5_isCover_25 : decode mX5_isCover.2.1 25 = .ok (.iload_n 1, 1) := by decide +kernel
theorem dX5_isCover_26 : decode mX5_isCover.2.1 26 = .ok (.iload 4, 2) := by decide +kernel
theorem dX5_isCover_28 : decode mX5_isCover.2.1 28 = .ok (.iconst 1, 1) := by decide +kernel
theorem dX5_isCover_29 : decode mX5_isCover.2.1 29 = .ok (.invokevirtual 160, 3) := by decide +kernel
theorem dX5_isCover_32 : decode mX5_isCover.2.1 32 = .ok (.ifCond .eq 14, 3) := by decide +kernel
theorem dX5_isCover_35 : decode mX5_isCover.2.1 35 = .ok (.aload_n 0, 1) := by decide +kernel
theorem dX5_isCover_36 : decode mX5_isCover.2.1 36 = .ok (.iload 4, 2) := by decide +kernel
theorem dX5_isCover_38 : decode mX5_isCover.2.1 38 = .ok (.iload_n 2, 1) := by decide +kernel
theorem dX5_isCover_39 : decode mX5_isCover.2.1 39 = .ok (.iconst 1, 1) := by decide +kernel
theorem dX5_isCover_40 : decode mX5_isCover.2.1 40 = .ok (.invokevirtual 160, 3) := by decide +kernel
theorem dX5_isCover_43 : decode mX5_isCover.2.1 43 = .ok (.ifCond .ne 7, 3) := by decide +kernel
theorem dX5_isCover_46 : decode mX5_isCover.2.1 46 = .ok (.iconst 1, 1) := by decide +kernel
theorem dX5_isCover_47 : decode mX5_isCover.2.1 47 = .ok (.goto 4, 3) := by decide +kernel
theorem dX5_isCover_50 : decode mX5_isCover.2.1 50 = .ok (.iconst 0, 1) := by decide +kernel
theorem dX5_isCover_51 : decode mX5_isCover.2.1 51 = .ok (.istore_n 3, 1) := by decide +kernel
theorem dX5_isCover_52 : decode mX5_isCover.2.1 52 = .ok (.iinc 4 1, 3) := by decide +kernel
theorem dX5_isCover_55 : decode mX5_isCover.2.1 55 = .ok (.goto (-44), 3) := by decide +kernel
theorem dX5_isCover_58 : decode mX5_isCover.2.1 58 = .ok (.iload_n 3, 1) := by decide +kernel
theorem dX5_isCover_59 : decode mX5_isCover.2.1 59 = .ok (.ireturn, 1) := by decide +kernel
theorem dX5_surelySaying_0 : decode mX5_surelySaying.2.1 0 = .ok (.iconst 0, 1) := by decide +kernel
theorem dX5_surelySaying_1 : decode mX5_surelySaying.2.1 1 = .ok (.istore_n 3, 1) := by decide +kernel
theorem dX5_surelySaying_2 : decode mX5_surelySaying.2.1 2 = .ok (.iconst 0, 1) := by decide +kernel
theorem dX5_surelySaying_3 : decode mX5_surelySaying.2.1 3 = .ok (.istore 4, 2) := by decide +kernel
theorem dX5_surelySaying_5 : decode mX5_surelySaying.2.1 5 = .ok (.iload 4, 2) := by decide +kernel
theorem dX5_surelySaying_7 : decode mX5_surelySaying.2.1 7 = .ok (.aload_n 0, 1) := by decide +kernel
theorem dX5_surelySaying_8 : decode mX5_surelySaying.2.1 8 = .ok (.getfield 49, 3) := by decide +kernel
theorem dX5_surelySaying_11 : decode mX5_surelySaying.2.1 11 = .ok (.if_icmp .ge 27, 3) := by decide +kernel
theorem dX5_surelySaying_14 : decode mX5_surelySaying.2.1 14 = .ok (.aload_n 0, 1) := by decide +kernel
theorem dX5_surelySaying_15 : decode mX5_surelySaying.2.1 15 = .ok (.iload_n 1, 1) := by decide +kernel
theorem dX5_surelySaying_16 : decode mX5_surelySaying.2.1 16 = .ok (.iload 4, 2) := by decide +kernel
theorem dX5_surelySaying_18 : decode mX5_surelySaying.2.1 18 = .ok (.iload_n 2, 1) := by decide +kernel
theorem dX5_surelySaying_19 : decode mX5_surelySaying.2.1 19 = .ok (.invokevirtual 160, 3) := by decide +kernel
theorem dX5_surelySaying_22 : decode mX5_surelySaying.2.1 22 = .ok (.ifCond .eq 10, 3) := by decide +kernel
theorem dX5_surelySaying_25 : decode mX5_surelySaying.2.1 25 = .ok (.iload_n 3, 1) := by decide +kernel
theorem dX5_surelySaying_26 : decode mX5_surelySaying.2.1 26 = .ok (.iconst 1, 1) := by decide +kernel
theorem dX5_surelySaying_27 : decode mX5_surelySaying.2.1 27 = .ok (.iload 4, 2) := by decide +kernel
theorem dX5_surelySaying_29 : decode mX5_surelySaying.2.1 29 = .ok (.ishl, 1) := by decide +kernel
theorem dX5_surelySaying_30 : decode mX5_surelySaying.2.1 30 = .ok (.ior, 1) := by decide +kernel
theorem dX5_surelySaying_31 : decode mX5_surelySaying.2.1 31 = .ok (.istore_n 3, 1) := by decide +kernel
theorem dX5_surelySaying_32 : decode mX5_surelySaying.2.1 32 = .ok (.iinc 4 1, 3) := by decide +kernel
theorem dX5_surelySaying_35 : decode mX5_surelySaying.2.1 35 = .ok (.goto (-30), 3) := by decide +kernel
theorem dX5_surelySaying_38 : decode mX5_surelySaying.2.1 38 = .ok (.iload_n 3, 1) := by decide +kernel
theorem dX5_surelySaying_39 : decode mX5_surelySaying.2.1 39 = .ok (.ireturn, 1) := by decide +kernel
theorem dX5_weighingsWith_0 : decode mX5_weighingsWith.2.1 0 = .ok (.iconst 0, 1) := by decide +kernel
theorem dX5_weighingsWith_1 : decode mX5_weighingsWith.2.1 1 = .ok (.istore_n 3, 1) := by decide +kernel
theorem dX5_weighingsWith_2 : decode mX5_weighingsWith.2.1 2 = .ok (.iconst 0, 1) := by decide +kernel
theorem dX5_weighingsWith_3 : decode mX5_weighingsWith.2.1 3 = .ok (.istore 4, 2) := by decide +kernel
theorem dX5_weighingsWith_5 : decode mX5_weighingsWith.2.1 5 = .ok (.iload 4, 2) := by decide +kernel
theorem dX5_weighingsWith_7 : decode mX5_weighingsWith.2.1 7 = .ok (.aload_n 0, 1) := by decide +kernel
theorem dX5_weighingsWith_8 : decode mX5_weighingsWith.2.1 8 = .ok (.getfield 49, 3) := by decide +kernel
theorem dX5_weighingsWith_11 : decode mX5_weighingsWith.2.1 11 = .ok (.if_icmp .ge 76, 3) := by decide +kernel
theorem dX5_weighingsWith_14 : decode mX5_weighingsWith.2.1 14 = .ok (.iload 4, 2) := by decide +kernel
theorem dX5_weighingsWith_16 : decode mX5_weighingsWith.2.1 16 = .ok (.iload_n 1, 1) := by decide +kernel
theorem dX5_weighingsWith_17 : decode mX5_weighingsWith.2.1 17 = .ok (.if_icmp .eq 64, 3) := by decide +kernel
theorem dX5_weighingsWith_20 : decode mX5_weighingsWith.2.1 20 = .ok (.iload 4, 2) := by decide +kernel
theorem dX5_weighingsWith_22 : decode mX5_weighingsWith.2.1 22 = .ok (.iload_n 2, 1) := by decide +kernel
theorem dX5_weighingsWith_23 : decode mX5_weighingsWith.2.1 23 = .ok (.if_icmp .eq 8, 3) := by decide +kernel
theorem dX5_weighingsWith_26 : decode mX5_weighingsWith.2.1 26 = .ok (.iload_n 1, 1) := by decide +kernel
theorem dX5_weighingsWith_27 : decode mX5_weighingsWith.2.1 27 = .ok (.iload_n 2, 1) := by decide +kernel
theorem dX5_weighingsWith_28 : decode mX5_weighingsWith.2.1 28 = .ok (.if_icmp .ne 53, 3) := by decide +kernel
theorem dX5_weighingsWith_31 : decode mX5_weighingsWith.2.1 31 = .ok (.aload_n 0, 1) := by decide +kernel
theorem dX5_weighingsWith_32 : decode mX5_weighingsWith.2.1 32 = .ok (.getfield 49, 3) := by decide +kernel
theorem dX5_weighingsWith_35 : decode mX5_weighingsWith.2.1 35 = .ok (.iload_n 1, 1) := by decide +kernel
theorem dX5_weighingsWith_36 : decode mX5_weighingsWith.2.1 36 = .ok (.iload 4, 2) := by decide +kernel
theorem dX5_weighingsWith_38 : decode mX5_weighingsWith.2.1 38 = .ok (.invokestatic 41, 3) := by decide +kernel
theorem dX5_weighingsWith_41 : decode mX5_weighingsWith.2.1 41 = .ok (.istore 5, 2) := by decide +kernel
theorem dX5_weighingsWith_43 : decode mX5_weighingsWith.2.1 43 = .ok (.iload_n 3, 1) := by decide +kernel
theorem dX5_weighingsWith_44 : decode mX5_weighingsWith.2.1 44 = .ok (.aload_n 0, 1) := by decide +kernel
theorem dX5_weighingsWith_45 : decode mX5_weighingsWith.2.1 45 = .ok (.getfield 21, 3) := by decide +kernel
theorem dX5_weighingsWith_48 : decode mX5_weighingsWith.2.1 48 = .ok (.iload 5, 2) := by decide +kernel
theorem dX5_weighingsWith_50 : decode mX5_weighingsWith.2.1 50 = .ok (.invokestatic 73, 3) := by decide +kernel
theorem dX5_weighingsWith_53 : decode mX5_weighingsWith.2.1 53 = .ok (.aload_n 0, 1) := by decide +kernel
theorem dX5_weighingsWith_54 : decode mX5_weighingsWith.2.1 54 = .ok (.getfield 21, 3) := by decide +kernel
theorem dX5_weighingsWith_57 : decode mX5_weighingsWith.2.1 57 = .ok (.bipush 10, 2) := by decide +kernel
theorem dX5_weighingsWith_59 : decode mX5_weighingsWith.2.1 59 = .ok (.iload 5, 2) := by decide +kernel
theorem dX5_weighingsWith_61 : decode mX5_weighingsWith.2.1 61 = .ok (.iadd, 1) := by decide +kernel
theorem dX5_weighingsWith_62 : decode mX5_weighingsWith.2.1 62 = .ok (.invokestatic 73, 3) := by decide +kernel
theorem dX5_weighingsWith_65 : decode mX5_weighingsWith.2.1 65 = .ok (.iadd, 1) := by decide +kernel
theorem dX5_weighingsWith_66 : decode mX5_weighingsWith.2.1 66 = .ok (.aload_n 0, 1) := by decide +kernel
theorem dX5_weighingsWith_67 : decode mX5_weighingsWith.2.1 67 = .ok (.getfield 21, 3) := by decide +kernel
theorem dX5_weighingsWith_70 : decode mX5_weighingsWith.2.1 70 = .ok (.bipush 20, 2) := by decide +kernel
theorem dX5_weighingsWith_72 : decode mX5_weighingsWith.2.1 72 = .ok (.iload 5, 2) := by decide +kernel
theorem dX5_weighingsWith_74 : decode mX5_weighingsWith.2.1 74 = .ok (.iadd, 1) := by decide +kernel
theorem dX5_weighingsWith_75 : decode mX5_weighingsWith.2.1 75 = .ok (.invokestatic 73, 3) := by decide +kernel
theorem dX5_weighingsWith_78 : decode mX5_weighingsWith.2.1 78 = .ok (.iadd, 1) := by decide +kernel
theorem dX5_weighingsWith_79 : decode mX5_weighingsWith.2.1 79 = .ok (.iadd, 1) := by decide +kernel
theorem dX5_weighingsWith_80 : decode mX5_weighingsWith.2.1 80 = .ok (.istore_n 3, 1) := by decide +kernel
theorem dX5_weighingsWith_81 : decode mX5_weighingsWith.2.1 81 = .ok (.iinc 4 1, 3) := by decide +kernel
theorem dX5_weighingsWith_84 : decode mX5_weighingsWith.2.1 84 = .ok (.goto (-79), 3) := by decide +kernel
theorem dX5_weighingsWith_87 : decode mX5_weighingsWith.2.1 87 = .ok (.iload_n 3, 1) := by decide +kernel
theorem dX5_weighingsWith_88 : decode mX5_weighingsWith.2.1 88 = .ok (.ireturn, 1) := by decide +kernel
theorem dX5_markOfRow_0 : decode mX5_markOfRow.2.1 0 = .ok (.iconst 0, 1) := by decide +kernel
theorem dX5_markOfRow_1 : decode mX5_markOfRow.2.1 1 = .ok (.istore_n 2, 1) := by decide +kernel
theorem dX5_markOfRow_2 : decode mX5_markOfRow.2.1 2 = .ok (.iload_n 2, 1) := by decide +kernel
theorem dX5_markOfRow_3 : decode mX5_markOfRow.2.1 3 = .ok (.aload_n 0, 1) := by decide +kernel
theorem dX5_markOfRow_4 : decode mX5_markOfRow.2.1 4 = .ok (.getfield 49, 3) := by decide +kernel
theorem dX5_markOfRow_7 : decode mX5_markOfRow.2.1 7 = .ok (.if_icmp .ge 22, 3) := by decide +kernel
theorem dX5_markOfRow_10 : decode mX5_markOfRow.2.1 10 = .ok (.aload_n 0, 1) := by decide +kernel
theorem dX5_markOfRow_11 : decode mX5_markOfRow.2.1 11 = .ok (.getfield 29, 3) := by decide +kernel
theorem dX5_markOfRow_14 : decode mX5_markOfRow.2.1 14 = .ok (.aload_n 1, 1) := by decide +kernel
theorem dX5_markOfRow_15 : decode mX5_markOfRow.2.1 15 = .ok (.iload_n 2, 1) := by decide +kernel
theorem dX5_markOfRow_16 : decode mX5_markOfRow.2.1 16 = .ok (.invokestatic 73, 3) := by decide +kernel
theorem dX5_markOfRow_19 : decode mX5_markOfRow.2.1 19 = .ok (.iload_n 2, 1) := by decide +kernel
theorem dX5_markOfRow_20 : decode mX5_markOfRow.2.1 20 = .ok (.invokestatic 53, 3) := by decide +kernel
theorem dX5_markOfRow_23 : decode mX5_markOfRow.2.1 23 = .ok (.iinc 2 1, 3) := by decide +kernel
theorem dX5_markOfRow_26 : decode mX5_markOfRow.2.1 26 = .ok (.goto (-24), 3) := by decide +kernel
theorem dX5_markOfRow_29 : decode mX5_markOfRow.2.1 29 = .ok (.aload_n 0, 1) := by decide +kernel
theorem dX5_markOfRow_30 : decode mX5_markOfRow.2.1 30 = .ok (.invokevirtual 77, 3) := by decide +kernel
theorem dX5_markOfRow_33 : decode mX5_markOfRow.2.1 33 = .ok (.ireturn, 1) := by decide +kernel
theorem dX5_largestSet_0 : decode mX5_largestSet.2.1 0 = .ok (.iconst 0, 1) := by decide +kernel
theorem dX5_largestSet_1 : decode mX5_largestSet.2.1 1 = .ok (.istore_n 2, 1) := by decide +kernel
theorem dX5_largestSet_2 : decode mX5_largestSet.2.1 2 = .ok (.iconst 1, 1) := by decide +kernel
theorem dX5_largestSet_3 : decode mX5_largestSet.2.1 3 = .ok (.istore_n 3, 1) := by decide +kernel
theorem dX5_largestSet_4 : decode mX5_largestSet.2.1 4 = .ok (.iload_n 3, 1) := by decide +kernel
theorem dX5_largestSet_5 : decode mX5_largestSet.2.1 5 = .ok (.iconst 1, 1) := by decide +kernel
theorem dX5_largestSet_6 : decode mX5_largestSet.2.1 6 = .ok (.aload_n 0, 1) := by decide +kernel
theorem dX5_largestSet_7 : decode mX5_largestSet.2.1 7 = .ok (.getfield 49, 3) := by decide +kernel
theorem dX5_largestSet_10 : decode mX5_largestSet.2.1 10 = .ok (.ishl, 1) := by decide +kernel
theorem dX5_largestSet_11 : decode mX5_largestSet.2.1 11 = .ok (.if_icmp .ge 31, 3) := by decide +kernel
theorem dX5_largestSet_14 : decode mX5_largestSet.2.1 14 = .ok (.iload_n 3, 1) := by decide +kernel
theorem dX5_largestSet_15 : decode mX5_largestSet.2.1 15 = .ok (.invokestatic 167, 3) := by decide +kernel
theorem dX5_largestSet_18 : decode mX5_largestSet.2.1 18 = .ok (.iload_n 2, 1) := by decide +kernel
theorem dX5_largestSet_19 : decode mX5_largestSet.2.1 19 = .ok (.invokestatic 167, 3) := by decide +kernel
theorem dX5_largestSet_22 : decode mX5_largestSet.2.1 22 = .ok (.if_icmp .le 14, 3) := by decide +kernel
theorem dX5_largestSet_25 : decode mX5_largestSet.2.1 25 = .ok (.aload_n 0, 1) := by decide +kernel
theorem dX5_largestSet_26 : decode mX5_largestSet.2.1 26 = .ok (.iload_n 3, 1) := by decide +kernel
theorem dX5_largestSet_27 : decode mX5_largestSet.2.1 27 = .ok (.iload_n 1, 1) := by decide +kernel
theorem dX5_largestSet_28 : decode mX5_largestSet.2.1 28 = .ok (.invokevirtual 172, 3) := by decide +kernel
theorem dX5_largestSet_31 : decode mX5_largestSet.2.1 31 = .ok (.ifCond .eq 5, 3) := by decide +kernel
theorem dX5_largestSet_34 : decode mX5_largestSet.2.1 34 = .ok (.iload_n 3, 1) := by decide +kernel
theorem dX5_largestSet_35 : decode mX5_largestSet.2.1 35 = .ok (.istore_n 2, 1) := by decide +kernel
theorem dX5_largestSet_36 : decode mX5_largestSet.2.1 36 = .ok (.iinc 3 1, 3) := by decide +kernel
theorem dX5_largestSet_39 : decode mX5_largestSet.2.1 39 = .ok (.goto (-35), 3) := by decide +kernel
theorem dX5_largestSet_42 : decode mX5_largestSet.2.1 42 = .ok (.iload_n 2, 1) := by decide +kernel
theorem dX5_largestSet_43 : decode mX5_largestSet.2.1 43 = .ok (.ireturn, 1) := by decide +kernel
theorem dX5_isSet_0 : decode mX5_isSet.2.1 0 = .ok (.iconst 0, 1) := by decide +kernel
theorem dX5_isSet_1 : decode mX5_isSet.2.1 1 = .ok (.istore_n 3, 1) := by decide +kernel
theorem dX5_isSet_2 : decode mX5_isSet.2.1 2 = .ok (.iload_n 3, 1) := by decide +kernel
theorem dX5_isSet_3 : decode mX5_isSet.2.1 3 = .ok (.aload_n 0, 1) := by decide +kernel
theorem dX5_isSet_4 : decode mX5_isSet.2.1 4 = .ok (.getfield 49, 3) := by decide +kernel
theorem dX5_isSet_7 : decode mX5_isSet.2.1 7 = .ok (.if_icmp .ge 114, 3) := by decide +kernel
theorem dX5_isSet_10 : decode mX5_isSet.2.1 10 = .ok (.iload_n 3, 1) := by decide +kernel
theorem dX5_isSet_11 : decode mX5_isSet.2.1 11 = .ok (.iconst 1, 1) := by decide +kernel
theorem dX5_isSet_12 : decode mX5_isSet.2.1 12 = .ok (.iadd, 1) := by decide +kernel
theorem dX5_isSet_13 : decode mX5_isSet.2.1 13 = .ok (.istore 4, 2) := by decide +kernel
theorem dX5_isSet_15 : decode mX5_isSet.2.1 15 = .ok (.iload 4, 2) := by decide +kernel
theorem dX5_isSet_17 : decode mX5_isSet.2.1 17 = .ok (.aload_n 0, 1) := by decide +kernel
theorem dX5_isSet_18 : decode mX5_isSet.2.1 18 = .ok (.getfield 49, 3) := by decide +kernel
theorem dX5_isSet_21 : decode mX5_isSet.2.1 21 = .ok (.if_icmp .ge 94, 3) := by decide +kernel
theorem dX5_isSet_24 : decode mX5_isSet.2.1 24 = .ok (.aload_n 0, 1) := by decide +kernel
theorem dX5_isSet_25 : decode mX5_isSet.2.1 25 = .ok (.iload_n 3, 1) := by decide +kernel
theorem dX5_isSet_26 : decode mX5_isSet.2.1 26 = .ok (.iload 4, 2) := by decide +kernel
theorem dX5_isSet_28 : decode mX5_isSet.2.1 28 = .ok (.iconst 1, 1) := by decide +kernel
theorem dX5_isSet_29 : decode mX5_isSet.2.1 29 = .ok (.invokevirtual 160, 3) := by decide +kernel
theorem dX5_isSet_32 : decode mX5_isSet.2.1 32 = .ok (.ifCond .ne 14, 3) := by decide +kernel
theorem dX5_isSet_35 : decode mX5_isSet.2.1 35 = .ok (.aload_n 0, 1) := by decide +kernel
theorem dX5_isSet_36 : decode mX5_isSet.2.1 36 = .ok (.iload_n 3, 1) := by decide +kernel
theorem dX5_isSet_37 : decode mX5_isSet.2.1 37 = .ok (.iload 4, 2) := by decide +kernel
theorem dX5_isSet_39 : decode mX5_isSet.2.1 39 = .ok (.iconst 2, 1) := by decide +kernel
theorem dX5_isSet_40 : decode mX5_isSet.2.1 40 = .ok (.invokevirtual 160, 3) := by decide +kernel
theorem dX5_isSet_43 : decode mX5_isSet.2.1 43 = .ok (.ifCond .eq 7, 3) := by decide +kernel
theorem dX5_isSet_46 : decode mX5_isSet.2.1 46 = .ok (.iconst 1, 1) := by decide +kernel
theorem dX5_isSet_47 : decode mX5_isSet.2.1 47 = .ok (.goto 4, 3) := by decide +kernel
theorem dX5_isSet_50 : decode mX5_isSet.2.1 50 = .ok (.iconst 0, 1) := by decide +kernel
theorem dX5_isSet_51 : decode mX5_isSet.2.1 51 = .ok (.istore 5, 2) := by decide +kernel
theorem dX5_isSet_53 : decode mX5_isSet.2.1 53 = .ok (.iload_n 2, 1) := by decide +kernel
theorem dX5_isSet_54 : decode mX5_isSet.2.1 54 = .ok (.ifCond .eq 27, 3) := by decide +kernel
theorem dX5_isSet_57 : decode mX5_isSet.2.1 57 = .ok (.iload 5, 2) := by decide +kernel
theorem dX5_isSet_59 : decode mX5_isSet.2.1 59 = .ok (.ifCond .ne 18, 3) := by decide +kernel
theorem dX5_isSet_62 : decode mX5_isSet.2.1 62 = .ok (.aload_n 0, 1) := by decide +kernel
theorem dX5_isSet_63 : decode mX5_isSet.2.1 63 = .ok (.iload_n 3, 1) := by decide +kernel
theorem dX5_isSet_64 : decode mX5_isSet.2.1 64 = .ok (.iload 4, 2) := by decide +kernel
theorem dX5_isSet_66 : decode mX5_isSet.2.1 66 = .ok (.iconst 0, 1) := by decide +kernel
theorem dX5_isSet_67 : decode mX5_isSet.2.1 67 = .ok (.invokevirtual 160, 3) := by decide +kernel
theorem dX5_isSet_70 : decode mX5_isSet.2.1 70 = .ok (.ifCond .ne 7, 3) := by decide +kernel
theorem dX5_isSet_73 : decode mX5_isSet.2.1 73 = .ok (.iconst 1, 1) := by decide +kernel
theorem dX5_isSet_74 : decode mX5_isSet.2.1 74 = .ok (.goto 9, 3) := by decide +kernel
theorem dX5_isSet_77 : decode mX5_isSet.2.1 77 = .ok (.iconst 0, 1) := by decide +kernel
theorem dX5_isSet_78 : decode mX5_isSet.2.1 78 = .ok (.goto 5, 3) := by decide +kernel
theorem dX5_isSet_81 : decode mX5_isSet.2.1 81 = .ok (.iload 5, 2) := by decide +kernel
theorem dX5_isSet_83 : decode mX5_isSet.2.1 83 = .ok (.istore 6, 2) := by decide +kernel
theorem dX5_isSet_85 : decode mX5_isSet.2.1 85 = .ok (.iload_n 1, 1) := by decide +kernel
theorem dX5_isSet_86 : decode mX5_isSet.2.1 86 = .ok (.iload_n 3, 1) := by decide +kernel
theorem dX5_isSet_87 : decode mX5_isSet.2.1 87 = .ok (.invokestatic 142, 3) := by decide +kernel
theorem dX5_isSet_90 : decode mX5_isSet.2.1 90 = .ok (.ifCond .eq 19, 3) := by decide +kernel
theorem dX5_isSet_93 : decode mX5_isSet.2.1 93 = .ok (.iload_n 1, 1) := by decide +kernel
theorem dX5_isSet_94 : decode mX5_isSet.2.1 94 = .ok (.iload 4, 2) := by decide +kernel
theorem dX5_isSet_96 : decode mX5_isSet.2.1 96 = .ok (.invokestatic 142, 3) := by decide +kernel
theorem dX5_isSet_99 : decode mX5_isSet.2.1 99 = .ok (.ifCond .eq 10, 3) := by decide +kernel
theorem dX5_isSet_102 : decode mX5_isSet.2.1 102 = .ok (.iload 6, 2) := by decide +kernel
theorem dX5_isSet_104 : decode mX5_isSet.2.1 104 = .ok (.ifCond .ne 5, 3) := by decide +kernel
theorem dX5_isSet_107 : decode mX5_isSet.2.1 107 = .ok (.iconst 0, 1) := by decide +kernel
theorem dX5_isSet_108 : decode mX5_isSet.2.1 108 = .ok (.ireturn, 1) := by decide +kernel
theorem dX5_isSet_109 : decode mX5_isSet.2.1 109 = .ok (.iinc 4 1, 3) := by decide +kernel
theorem dX5_isSet_112 : decode mX5_isSet.2.1 112 = .ok (.goto (-97), 3) := by decide +kernel
theorem dX5_isSet_115 : decode mX5_isSet.2.1 115 = .ok (.iinc 3 1, 3) := by decide +kernel
theorem dX5_isSet_118 : decode mX5_isSet.2.1 118 = .ok (.goto (-116), 3) := by decide +kernel
theorem dX5_isSet_121 : decode mX5_isSet.2.1 121 = .ok (.iconst 1, 1) := by decide +kernel
theorem dX5_isSet_122 : decode mX5_isSet.2.1 122 = .ok (.ireturn, 1) := by decide +kernel
theorem dX5_addSwapped_0 : decode mX5_addSwapped.2.1 0 = .ok (.iconst 0, 1) := by decide +kernel
theorem dX5_addSwapped_1 : decode mX5_addSwapped.2.1 1 = .ok (.istore 4, 2) := by decide +kernel
theorem dX5_addSwapped_3 : decode mX5_addSwapped.2.1 3 = .ok (.iload 4, 2) := by decide +kernel
theorem dX5_addSwapped_5 : decode mX5_addSwapped.2.1 5 = .ok (.iconst 1, 1) := by decide +kernel
theorem dX5_addSwapped_6 : decode mX5_addSwapped.2.1 6 = .ok (.aload_n 0, 1) := by decide +kernel
theorem dX5_addSwapped_7 : decode mX5_addSwapped.2.1 7 = .ok (.getfield 49, 3) := by decide +kernel
theorem dX5_addSwapped_10 : decode mX5_addSwapped.2.1 10 = .ok (.iconst 1, 1) := by decide +kernel
theorem dX5_addSwapped_11 : decode mX5_addSwapped.2.1 11 = .ok (.isub, 1) := by decide +kernel
theorem dX5_addSwapped_12 : decode mX5_addSwapped.2.1 12 = .ok (.iconst 0, 1) := by decide +kernel
theorem dX5_addSwapped_13 : decode mX5_addSwapped.2.1 13 = .ok (.invokestatic 38, 3) := by decide +kernel
theorem dX5_addSwapped_16 : decode mX5_addSwapped.2.1 16 = .ok (.ishl, 1) := by decide +kernel
theorem dX5_addSwapped_17 : decode mX5_addSwapped.2.1 17 = .ok (.if_icmp .ge 111, 3) := by decide +kernel
theorem dX5_addSwapped_20 : decode mX5_addSwapped.2.1 20 = .ok (.iload 4, 2) := by decide +kernel
theorem dX5_addSwapped_22 : decode mX5_addSwapped.2.1 22 = .ok (.invokestatic 167, 3) := by decide +kernel
theorem dX5_addSwapped_25 : decode mX5_addSwapped.2.1 25 = .ok (.iload_n 3, 1) := by decide +kernel
theorem dX5_addSwapped_26 : decode mX5_addSwapped.2.1 26 = .ok (.if_icmp .gt 96, 3) := by decide +kernel
theorem dX5_addSwapped_29 : decode mX5_addSwapped.2.1 29 = .ok (.iload 4, 2) := by decide +kernel
theorem dX5_addSwapped_31 : decode mX5_addSwapped.2.1 31 = .ok (.iload 4, 2) := by decide +kernel
theorem dX5_addSwapped_33 : decode mX5_addSwapped.2.1 33 = .ok (.iconst 1, 1) := by decide +kernel
theorem dX5_addSwapped_34 : decode mX5_addSwapped.2.1 34 = .ok (.ishl, 1) := by decide +kernel
theorem dX5_addSwapped_35 : decode mX5_addSwapped.2.1 35 = .ok (.iand, 1) := by decide +kernel
theorem dX5_addSwapped_36 : decode mX5_addSwapped.2.1 36 = .ok (.ifCond .ne 86, 3) := by decide +kernel
theorem dX5_addSwapped_39 : decode mX5_addSwapped.2.1 39 = .ok (.iconst 0, 1) := by decide +kernel
theorem dX5_addSwapped_40 : decode mX5_addSwapped.2.1 40 = .ok (.istore 5, 2) := by decide +kernel
theorem dX5_addSwapped_42 : decode mX5_addSwapped.2.1 42 = .ok (.iload 5, 2) := by decide +kernel
theorem dX5_addSwapped_44 : decode mX5_addSwapped.2.1 44 = .ok (.aload_n 0, 1) := by decide +kernel
theorem dX5_addSwapped_45 : decode mX5_addSwapped.2.1 45 = .ok (.getfield 49, 3) := by decide +kernel
theorem dX5_addSwapped_48 : decode mX5_addSwapped.2.1 48 = .ok (.if_icmp .ge 64, 3) := by decide +kernel
theorem dX5_addSwapped_51 : decode mX5_addSwapped.2.1 51 = .ok (.iload 4, 2) := by decide +kernel
theorem dX5_addSwapped_53 : decode mX5_addSwapped.2.1 53 = .ok (.iload 5, 2) := by decide +kernel
theorem dX5_addSwapped_55 : decode mX5_addSwapped.2.1 55 = .ok (.invokestatic 142, 3) := by decide +kernel
theorem dX5_addSwapped_58 : decode mX5_addSwapped.2.1 58 = .ok (.ifCond .eq 10, 3) := by decide +kernel
theorem dX5_addSwapped_61 : decode mX5_addSwapped.2.1 61 = .ok (.iload 5, 2) := by decide +kernel
theorem dX5_addSwapped_63 : decode mX5_addSwapped.2.1 63 = .ok (.iconst 1, 1) := by decide +kernel
theorem dX5_addSwapped_64 : decode mX5_addSwapped.2.1 64 = .ok (.iadd, 1) := by decide +kernel
theorem dX5_addSwapped_65 : decode mX5_addSwapped.2.1 65 = .ok (.goto 24, 3) := by decide +kernel
theorem dX5_addSwapped_68 : decode mX5_addSwapped.2.1 68 = .ok (.iload 4, 2) := by decide +kernel
theorem dX5_addSwapped_70 : decode mX5_addSwapped.2.1 70 = .ok (.iload 5, 2) := by decide +kernel
theorem dX5_addSwapped_72 : decode mX5_addSwapped.2.1 72 = .ok (.iconst 1, 1) := by decide +kernel
theorem dX5_addSwapped_73 : decode mX5_addSwapped.2.1 73 = .ok (.isub, 1) := by decide +kernel
theorem dX5_addSwapped_74 : decode mX5_addSwapped.2.1 74 = .ok (.invokestatic 142, 3) := by decide +kernel
theorem dX5_addSwapped_77 : decode mX5_addSwapped.2.1 77 = .ok (.ifCond .eq 10, 3) := by decide +kernel
theorem dX5_addSwapped_80 : decode mX5_addSwapped.2.1 80 = .ok (.iload 5, 2) := by decide +kernel
theorem dX5_addSwapped_82 : decode mX5_addSwapped.2.1 82 = .ok (.iconst 1, 1) := by decide +kernel
theorem dX5_addSwapped_83 : decode mX5_addSwapped.2.1 83 = .ok (.isub, 1) := by decide +kernel
theorem dX5_addSwapped_84 : decode mX5_addSwapped.2.1 84 = .ok (.goto 5, 3) := by decide +kernel
theorem dX5_addSwapped_87 : decode mX5_addSwapped.2.1 87 = .ok (.iload 5, 2) := by decide +kernel
theorem dX5_addSwapped_89 : decode mX5_addSwapped.2.1 89 = .ok (.istore 6, 2) := by decide +kernel
theorem dX5_addSwapped_91 : decode mX5_addSwapped.2.1 91 = .ok (.aload_n 0, 1) := by decide +kernel
theorem dX5_addSwapped_92 : decode mX5_addSwapped.2.1 92 = .ok (.getfield 29, 3) := by decide +kernel
theorem dX5_addSwapped_95 : decode mX5_addSwapped.2.1 95 = .ok (.aload_n 2, 1) := by decide +kernel
theorem dX5_addSwapped_96 : decode mX5_addSwapped.2.1 96 = .ok (.iload 5, 2) := by decide +kernel
theorem dX5_addSwapped_98 : decode mX5_addSwapped.2.1 98 = .ok (.invokestatic 73, 3) := by decide +kernel
theorem dX5_addSwapped_101 : decode mX5_addSwapped.2.1 101 = .ok (.iload 6, 2) := by decide +kernel
theorem dX5_addSwapped_103 : decode mX5_addSwapped.2.1 103 = .ok (.invokestatic 53, 3) := by decide +kernel
theorem dX5_addSwapped_106 : decode mX5_addSwapped.2.1 106 = .ok (.iinc 5 1, 3) := by decide +kernel
theorem dX5_addSwapped_109 : decode mX5_addSwapped.2.1 109 = .ok (.goto (-67), 3) := by decide +kernel
theorem dX5_addSwapped_112 : decode mX5_addSwapped.2.1 112 = .ok (.aload_n 1, 1) := by decide +kernel
theorem dX5_addSwapped_113 : decode mX5_addSwapped.2.1 113 = .ok (.aload_n 0, 1) := by decide +kernel
theorem dX5_addSwapped_114 : decode mX5_addSwapped.2.1 114 = .ok (.invokevirtual 77, 3) := by decide +kernel
theorem dX5_addSwapped_117 : decode mX5_addSwapped.2.1 117 = .ok (.iload 4, 2) := by decide +kernel
theorem dX5_addSwapped_119 : decode mX5_addSwapped.2.1 119 = .ok (.invokevirtual 176, 3) := by decide +kernel
theorem dX5_addSwapped_122 : decode mX5_addSwapped.2.1 122 = .ok (.iinc 4 1, 3) := by decide +kernel
theorem dX5_addSwapped_125 : decode mX5_addSwapped.2.1 125 = .ok (.goto (-122), 3) := by decide +kernel
theorem dX5_addSwapped_128 : decode mX5_addSwapped.2.1 128 = .ok (.return_, 1) := by decide +kernel
theorem bX5_refill_0 {d : Nat} {g : xSt} {r : Option Value × xSt} {t : Nat} (W : xWf g) (ht : xTw t) (k : xX (d + 1) mX5_refill 17 [some (.ref 69), some (.ref t), some (.int 1), some (.int 0)] [] (xWI (xWI g 69 0 (xI g t 0)) 69 1 0) = some r) : xX (d + 1) mX5_refill 0 [some (.ref 69), some (.ref t), none, none] [] g = some r :=
  Y_aload_n dX5_refill_0 rfl <| Y_aload_n dX5_refill_1 rfl <| Y_getI dX5_refill_2 f_5_45 ft_9_0 (xisS W ht) <| Y_putI dX5_refill_5 f_5_49 fn_5_0 ft_5_0 (xis W 69 5 s_69 (Nat.le_of_ble_eq_true rfl)) <| Y_aload_n dX5_refill_8 rfl <| Y_iconst 0 dX5_refill_9 ic_0 <| Y_putI dX5_refill_10 f_5_50 fn_5_1 ft_5_1 (xis W 69 5 s_69 (Nat.le_of_ble_eq_true rfl)) <| Y_iconst 1 dX5_refill_13 ic_1 <| Y_istore_n dX5_refill_14 rfl rfl <| Y_iconst 0 dX5_refill_15 ic_0 <| Y_istore_n dX5_refill_16 rfl rfl <| X_le (xle_s (xle_s (xle_s (xle_s xle_0)))) k
theorem bX5_refill_17 {d : Nat} {g : xSt} {r : Option Value × xSt} {a2 a3 : Int32} {t : Nat} (W : xWf g) (ht : xTw t) (k1 : (xI g 69 0) ≤ a3 → xX (d + 1) mX5_refill 47 [some (.ref 69), some (.ref t), some (.int a2), none] [] g = some r) (k2 : ¬ ((xI g 69 0) ≤ a3) → xX (d + 1) mX5_refill 25 [some (.ref 69), some (.ref t), some (.int a2), some (.int a3)] [] g = some r) : xX (d + 1) mX5_refill 17 [some (.ref 69), some (.ref t), some (.int a2), some (.int a3)] [] g = some r :=
  Y_iload_n dX5_refill_17 rfl <| Y_aload_n dX5_refill_18 rfl <| Y_getI dX5_refill_19 f_5_49 ft_5_0 (xis W 69 5 s_69 (Nat.le_of_ble_eq_true rfl)) <| Y_ge 47 dX5_refill_22 rfl (fun q => X_le (xle_s (xle_s (xle_s (xle_n xle_0)))) (k1 q)) (fun q => X_le (xle_s (xle_s (xle_s (xle_s xle_0)))) (k2 q))
theorem bX5_refill_25 {d : Nat} {g : xSt} {r : Option Value × xSt} {a2 a3 : Int32} {t : Nat} (W : xWf g) (ht : xTw t) (k : xX (d + 1) mX5_refill 17 [some (.ref 69), some (.ref t), some (.int (a2 * (xI g 69 0))), some (.int (a3 + 1))] [] (xput g 75 5 a3 0) = some r) : xX (d + 1) mX5_refill 25 [some (.ref 69), some (.ref t), some (.int a2), some (.int a3)] [] g = some r :=
  Y_iload_n dX5_refill_25 rfl <| Y_aload_n dX5_refill_26 rfl <| Y_getI dX5_refill_27 f_5_49 ft_5_0 (xis W 69 5 s_69 (Nat.le_of_ble_eq_true rfl)) <| Y_imul dX5_refill_30 <| Y_istore_n dX5_refill_31 rfl rfl <| Y_aload_n dX5_refill_32 rfl <| Y_getR dX5_refill_33 f_5_29 (by rw [ft_5_11]; rfl) (xis W 69 5 s_69 (Nat.le_of_ble_eq_true rfl)) (xptr W 69 11 p_69_11) <| Y_iload_n dX5_refill_36 rfl <| Y_iconst 0 dX5_refill_37 ic_0 <| Y_callS0 dX5_refill_38 cl_5_53 rfl rfl rfl rfl rfl (c_put (xarr W (o := 75) s_75 (Nat.le_of_ble_eq_true rfl))) <| Y_iinc 1 dX5_refill_41 rfl ic_1 rfl rfl <| Y_goto 17 dX5_refill_44 rfl <| X_le (xle_s (xle_s (xle_s (xle_s xle_0)))) k
theorem bX5_refill_47 {d : Nat} {g : xSt} {r : Option Value × xSt} {a2 : Int32} {t : Nat} (ht : xTw t) (k : xX (d + 1) mX5_refill 49 [some (.ref 69), some (.ref t), some (.int a2), some (.int 0)] [] g = some r) : xX (d + 1) mX5_refill 47 [some (.ref 69), some (.ref t), some (.int a2), none] [] g = some r :=
  Y_iconst 0 dX5_refill_47 ic_0 <| Y_istore_n dX5_refill_48 rfl rfl <| X_le (xle_s (xle_s (xle_s (xle_s xle_0)))) k
theorem bX5_refill_49 {d : Nat} {g : xSt} {r : Option Value × xSt} {a2 a3 : Int32} {t : Nat} (ht : xTw t) (k1 : a2 ≤ a3 → xX (d + 1) mX5_refill 79 [none, none, none, none] [] g = some r) (k2 : ¬ (a2 ≤ a3) → xX (d + 1) mX5_refill 54 [some (.ref 69), some (.ref t), some (.int a2), some (.int a3)] [] g = some r) : xX (d + 1) mX5_refill 49 [some (.ref 69), some (.ref t), some (.int a2), some (.int a3)] [] g = some r :=
  Y_iload_n dX5_refill_49 rfl <| Y_iload_n dX5_refill_50 rfl <| Y_ge 79 dX5_refill_51 rfl (fun q => X_le (xle_n (xle_n (xle_n (xle_n xle_0)))) (k1 q)) (fun q => X_le (xle_s (xle_s (xle_s (xle_s xle_0)))) (k2 q))
theorem bX5_refill_54 {d : Nat} {g : xSt} {r : Option Value × xSt} {a2 a3 r59 : Int32} {g59 : xSt} {t : Nat} (W : xWf g) (ht : xTw t) (hk59 : xCallM d mX5_isOrder [.ref 69, .int (xI g t 3)] g = some (some (.int r59), g59)) (W59 : xWf g59) (k1 : r59 = 0 → xX (d + 1) mX5_refill 69 [some (.ref 69), some (.ref t), some (.int a2), some (.int a3)] [] g59 = some r) (k2 : ¬ (r59 = 0) → xX (d + 1) mX5_refill 65 [some (.ref 69), some (.ref t), some (.int a2), some (.int a3)] [] g59 = some r) : xX (d + 1) mX5_refill 54 [some (.ref 69), some (.ref t), some (.int a2), some (.int a3)] [] g = some r :=
  Y_aload_n dX5_refill_54 rfl <| Y_aload_n dX5_refill_55 rfl <| Y_getZ dX5_refill_56 f_5_59 ft_9_3 (xisS W ht) <| Y_callV1 dX5_refill_59 cl_5_63 rfl rfl (xis W 69 5 s_69 (Nat.le_of_ble_eq_true rfl)) rfl rfl rfl (hk59) <| Y_eq0 69 dX5_refill_62 rfl (fun q => X_le (xle_s (xle_s (xle_s (xle_s xle_0)))) (k1 q)) (fun q => X_le (xle_s (xle_s (xle_s (xle_s xle_0)))) (k2 q))
theorem bX5_refill_65 {d : Nat} {g : xSt} {r : Option Value × xSt} {a2 a3 : Int32} {g66 : xSt} {t : Nat} (W : xWf g) (ht : xTw t) (hk66 : xCallM d mX5_keepOrder [.ref 69] g = some (none, g66)) (W66 : xWf g66) (k : xX (d + 1) mX5_refill 69 [some (.ref 69), some (.ref t), some (.int a2), some (.int a3)] [] g66 = some r) : xX (d + 1) mX5_refill 65 [some (.ref 69), some (.ref t), some (.int a2), some (.int a3)] [] g = some r :=
  Y_aload_n dX5_refill_65 rfl <| Y_callV0 dX5_refill_66 cl_5_67 rfl rfl (xis W 69 5 s_69 (Nat.le_of_ble_eq_true rfl)) rfl rfl rfl (hk66) <| X_le (xle_s (xle_s (xle_s (xle_s xle_0)))) k
theorem bX5_refill_69 {d : Nat} {g : xSt} {r : Option Value × xSt} {a2 a3 : Int32} {g70 : xSt} {t : Nat} (W : xWf g) (ht : xTw t) (hk70 : xCallM d mX5_stepDigits [.ref 69] g = some (none, g70)) (W70 : xWf g70) (k : xX (d + 1) mX5_refill 49 [some (.ref 69), some (.ref t), some (.int a2), some (.int (a3 + 1))] [] g70 = some r) : xX (d + 1) mX5_refill 69 [some (.ref 69), some (.ref t), some (.int a2), some (.int a3)] [] g = some r :=
  Y_aload_n dX5_refill_69 rfl <| Y_callV0 dX5_refill_70 cl_5_70 rfl rfl (xis W 69 5 s_69 (Nat.le_of_ble_eq_true rfl)) rfl rfl rfl (hk70) <| Y_iinc 1 dX5_refill_73 rfl ic_1 rfl rfl <| Y_goto 49 dX5_refill_76 rfl <| X_le (xle_s (xle_s (xle_s (xle_s xle_0)))) k
theorem bX5_refill_79 {d : Nat} {g : xSt} {r : Option Value × xSt}  (k : r = (none, g)) : xX (d + 1) mX5_refill 79 [none, none, none, none] [] g = some r :=
  Y_ret dX5_refill_79 rfl k
theorem bX5_isOrder_0 {d : Nat} {g : xSt} {r : Option Value × xSt} {a1 : Int32} (k : xX (d + 1) mX5_isOrder 2 [some (.ref 69), some (.int a1), some (.int 0), none, none, none, none] [] g = some r) : xX (d + 1) mX5_isOrder 0 [some (.ref 69), some (.int a1), none, none, none, none, none] [] g = some r :=
  Y_iconst 0 dX5_isOrder_0 ic_0 <| Y_istore_n dX5_isOrder_1 rfl rfl <| X_le (xle_s (xle_s (xle_s (xle_n (xle_n (xle_n (xle_n xle_0))))))) k
theorem bX5_isOrder_2 {d : Nat} {g : xSt} {r : Option Value × xSt} {a1 a2 : Int32} (W : xWf g) (k1 : (xI g 69 0) ≤ a2 → xX (d + 1) mX5_isOrder 111 [none, none, none, none, none, none, none] [] g = some r) (k2 : ¬ ((xI g 69 0) ≤ a2) → xX (d + 1) mX5_isOrder 10 [some (.ref 69), some (.int a1), some (.int a2), none, none, none, none] [] g = some r) : xX (d + 1) mX5_isOrder 2 [some (.ref 69), some (.int a1), some (.int a2), none, none, none, none] [] g = some r :=
  Y_iload_n dX5_isOrder_2 rfl <| Y_aload_n dX5_isOrder_3 rfl <| Y_getI dX5_isOrder_4 f_5_49 ft_5_0 (xis W 69 5 s_69 (Nat.le_of_ble_eq_true rfl)) <| Y_ge 111 dX5_isOrder_7 rfl (fun q => X_le (xle_n (xle_n (xle_n (xle_n (xle_n (xle_n (xle_n xle_0))))))) (k1 q)) (fun q => X_le (xle_s (xle_s (xle_s (xle_n (xle_n (xle_n (xle_n xle_0))))))) (k2 q))
theorem bX5_isOrder_10 {d : Nat} {g : xSt} {r : Option Value × xSt} {a1 a2 : Int32} (k : xX (d + 1) mX5_isOrder 18 [some (.ref 69), some (.int a1), some (.int a2), some (.int 0), some (.int 0), some (.int 0), none] [] g = some r) : xX (d + 1) mX5_isOrder 10 [some (.ref 69), some (.int a1), some (.int a2), none, none, none, none] [] g = some r :=
  Y_iconst 0 dX5_isOrder_10 ic_0 <| Y_istore_n dX5_isOrder_11 rfl rfl <| Y_iconst 0 dX5_isOrder_12 ic_0 <| Y_istore dX5_isOrder_13 rfl rfl <| Y_iconst 0 dX5_isOrder_15 ic_0 <| Y_istore dX5_isOrder_16 rfl rfl <| X_le (xle_s (xle_s (xle_s (xle_s (xle_s (xle_s (xle_n xle_0))))))) k
theorem bX5_isOrder_18 {d : Nat} {g : xSt} {r : Option Value × xSt} {a1 a2 a3 a4 a5 : Int32} (W : xWf g) (k1 : (xI g 69 0) ≤ a5 → xX (d + 1) mX5_isOrder 81 [some (.ref 69), some (.int a1), some (.int a2), some (.int a3), some (.int a4), none, none] [] g = some r) (k2 : ¬ ((xI g 69 0) ≤ a5) → xX (d + 1) mX5_isOrder 27 [some (.ref 69), some (.int a1), some (.int a2), some (.int a3), some (.int a4), some (.int a5), none] [] g = some r) : xX (d + 1) mX5_isOrder 18 [some (.ref 69), some (.int a1), some (.int a2), some (.int a3), some (.int a4), some (.int a5), none] [] g = some r :=
  Y_iload dX5_isOrder_18 rfl <| Y_aload_n dX5_isOrder_20 rfl <| Y_getI dX5_isOrder_21 f_5_49 ft_5_0 (xis W 69 5 s_69 (Nat.le_of_ble_eq_true rfl)) <| Y_ge 81 dX5_isOrder_24 rfl (fun q => X_le (xle_s (xle_s (xle_s (xle_s (xle_s (xle_n (xle_n xle_0))))))) (k1 q)) (fun q => X_le (xle_s (xle_s (xle_s (xle_s (xle_s (xle_s (xle_n xle_0))))))) (k2 q))
theorem bX5_isOrder_27 {d : Nat} {g : xSt} {r : Option Value × xSt} {a1 a2 a3 a4 a5 : Int32} (W : xWf g) (k1 : ((xat (xI g 75) 5 a2) - (xat (xI g 75) 5 a5)) ≤ 0 → xX (d + 1) mX5_isOrder 57 [some (.ref 69), some (.int a1), some (.int a2), none, some (.int a4), some (.int a5), some (.int ((xat (xI g 75) 5 a2) - (xat (xI g 75) 5 a5)))] [.int a3] g = some r) (k2 : ¬ (((xat (xI g 75) 5 a2) - (xat (xI g 75) 5 a5)) ≤ 0) → xX (d + 1) mX5_isOrder 53 [some (.ref 69), some (.int a1), some (.int a2), none, some (.int a4), some (.int a5), some (.int ((xat (xI g 75) 5 a2) - (xat (xI g 75) 5 a5)))] [.int a3] g = some r) : xX (d + 1) mX5_isOrder 27 [some (.ref 69), some (.int a1), some (.int a2), some (.int a3), some (.int a4), some (.int a5), none] [] g = some r :=
  Y_aload_n dX5_isOrder_27 rfl <| Y_getR dX5_isOrder_28 f_5_29 (by rw [ft_5_11]; rfl) (xis W 69 5 s_69 (Nat.le_of_ble_eq_true rfl)) (xptr W 69 11 p_69_11) <| Y_iload_n dX5_isOrder_31 rfl <| Y_callS1 dX5_isOrder_32 cl_5_73 rfl rfl rfl rfl rfl (c_at (xarr W (o := 75) s_75 (Nat.le_of_ble_eq_true rfl))) <| Y_aload_n dX5_isOrder_35 rfl <| Y_getR dX5_isOrder_36 f_5_29 (by rw [ft_5_11]; rfl) (xis W 69 5 s_69 (Nat.le_of_ble_eq_true rfl)) (xptr W 69 11 p_69_11) <| Y_iload dX5_isOrder_39 rfl <| Y_callS1 dX5_isOrder_41 cl_5_73 rfl rfl rfl rfl rfl (c_at (xarr W (o := 75) s_75 (Nat.le_of_ble_eq_true rfl))) <| Y_isub dX5_isOrder_44 <| Y_istore dX5_isOrder_45 rfl rfl <| Y_iload_n dX5_isOrder_47 rfl <| Y_iload dX5_isOrder_48 rfl <| Y_le0 57 dX5_isOrder_50 rfl (fun q => X_le (xle_s (xle_s (xle_s (xle_n (xle_s (xle_s (xle_s xle_0))))))) (k1 q)) (fun q => X_le (xle_s (xle_s (xle_s (xle_n (xle_s (xle_s (xle_s xle_0))))))) (k2 q))
theorem bX5_isOrder_53 {d : Nat} {g : xSt} {r : Option Value × xSt} {a1 a2 a4 a5 a6 s0 : Int32} (k : xX (d + 1) mX5_isOrder 58 [some (.ref 69), some (.int a1), some (.int a2), none, some (.int a4), some (.int a5), some (.int a6)] [.int 1, .int s0] g = some r) : xX (d + 1) mX5_isOrder 53 [some (.ref 69), some (.int a1), some (.int a2), none, some (.int a4), some (.int a5), some (.int a6)] [.int s0] g = some r :=
  Y_iconst 1 dX5_isOrder_53 ic_1 <| Y_goto 58 dX5_isOrder_54 rfl <| X_le (xle_s (xle_s (xle_s (xle_n (xle_s (xle_s (xle_s xle_0))))))) k
theorem bX5_isOrder_57 {d : Nat} {g : xSt} {r : Option Value × xSt} {a1 a2 a4 a5 a6 s0 : Int32} (k : xX (d + 1) mX5_isOrder 58 [some (.ref 69), some (.int a1), some (.int a2), none, some (.int a4), some (.int a5), some (.int a6)] [.int 0, .int s0] g = some r) : xX (d + 1) mX5_isOrder 57 [some (.ref 69), some (.int a1), some (.int a2), none, some (.int a4), some (.int a5), some (.int a6)] [.int s0] g = some r :=
  Y_iconst 0 dX5_isOrder_57 ic_0 <| X_le (xle_s (xle_s (xle_s (xle_n (xle_s (xle_s (xle_s xle_0))))))) k
theorem bX5_isOrder_58 {d : Nat} {g : xSt} {r : Option Value × xSt} {a1 a2 a4 a5 a6 s1 s0 : Int32} (k1 : a6 = 0 → xX (d + 1) mX5_isOrder 67 [some (.ref 69), some (.int a1), some (.int a2), some (.int (s1 + s0)), none, some (.int a5), none] [.int a4] g = some r) (k2 : ¬ (a6 = 0) → xX (d + 1) mX5_isOrder 71 [some (.ref 69), some (.int a1), some (.int a2), some (.int (s1 + s0)), none, some (.int a5), none] [.int a4] g = some r) : xX (d + 1) mX5_isOrder 58 [some (.ref 69), some (.int a1), some (.int a2), none, some (.int a4), some (.int a5), some (.int a6)] [.int s0, .int s1] g = some r :=
  Y_iadd dX5_isOrder_58 <| Y_istore_n dX5_isOrder_59 rfl rfl <| Y_iload dX5_isOrder_60 rfl <| Y_iload dX5_isOrder_62 rfl <| Y_ne0 71 dX5_isOrder_64 rfl (fun q => X_le (xle_s (xle_s (xle_s (xle_s (xle_n (xle_s (xle_n xle_0))))))) (k1 q)) (fun q => X_le (xle_s (xle_s (xle_s (xle_s (xle_n (xle_s (xle_n xle_0))))))) (k2 q))
theorem bX5_isOrder_67 {d : Nat} {g : xSt} {r : Option Value × xSt} {a1 a2 a3 a5 s0 : Int32} (k : xX (d + 1) mX5_isOrder 72 [some (.ref 69), some (.int a1), some (.int a2), some (.int a3), none, some (.int a5), none] [.int 1, .int s0] g = some r) : xX (d + 1) mX5_isOrder 67 [some (.ref 69), some (.int a1), some (.int a2), some (.int a3), none, some (.int a5), none] [.int s0] g = some r :=
  Y_iconst 1 dX5_isOrder_67 ic_1 <| Y_goto 72 dX5_isOrder_68 rfl <| X_le (xle_s (xle_s (xle_s (xle_s (xle_n (xle_s (xle_n xle_0))))))) k
theorem bX5_isOrder_71 {d : Nat} {g : xSt} {r : Option Value × xSt} {a1 a2 a3 a5 s0 : Int32} (k : xX (d + 1) mX5_isOrder 72 [some (.ref 69), some (.int a1), some (.int a2), some (.int a3), none, some (.int a5), none] [.int 0, .int s0] g = some r) : xX (d + 1) mX5_isOrder 71 [some (.ref 69), some (.int a1), some (.int a2), some (.int a3), none, some (.int a5), none] [.int s0] g = some r :=
  Y_iconst 0 dX5_isOrder_71 ic_0 <| X_le (xle_s (xle_s (xle_s (xle_s (xle_n (xle_s (xle_n xle_0))))))) k
theorem bX5_isOrder_72 {d : Nat} {g : xSt} {r : Option Value × xSt} {a1 a2 a3 a5 s1 s0 : Int32} (k : xX (d + 1) mX5_isOrder 18 [some (.ref 69), some (.int a1), some (.int a2), some (.int a3), some (.int (s1 + s0)), some (.int (a5 + 1)), none] [] g = some r) : xX (d + 1) mX5_isOrder 72 [some (.ref 69), some (.int a1), some (.int a2), some (.int a3), none, some (.int a5), none] [.int s0, .int s1] g = some r :=
  Y_iadd dX5_isOrder_72 <| Y_istore dX5_isOrder_73 rfl rfl <| Y_iinc 1 dX5_isOrder_75 rfl ic_1 rfl rfl <| Y_goto 18 dX5_isOrder_78 rfl <| X_le (xle_s (xle_s (xle_s (xle_s (xle_s (xle_s (xle_n xle_0))))))) k
theorem bX5_isOrder_81 {d : Nat} {g : xSt} {r : Option Value × xSt} {a1 a2 a3 a4 : Int32} (W : xWf g) (k1 : a3 = (xat (xI g 75) 5 a2) → xX (d + 1) mX5_isOrder 93 [some (.ref 69), some (.int a1), some (.int a2), none, some (.int a4), none, none] [] g = some r) (k2 : ¬ (a3 = (xat (xI g 75) 5 a2)) → xX (d + 1) mX5_isOrder 103 [none, none, none, none, none, none, none] [] g = some r) : xX (d + 1) mX5_isOrder 81 [some (.ref 69), some (.int a1), some (.int a2), some (.int a3), some (.int a4), none, none] [] g = some r :=
  Y_iload_n dX5_isOrder_81 rfl <| Y_aload_n dX5_isOrder_82 rfl <| Y_getR dX5_isOrder_83 f_5_29 (by rw [ft_5_11]; rfl) (xis W 69 5 s_69 (Nat.le_of_ble_eq_true rfl)) (xptr W 69 11 p_69_11) <| Y_iload_n dX5_isOrder_86 rfl <| Y_callS1 dX5_isOrder_87 cl_5_73 rfl rfl rfl rfl rfl (c_at (xarr W (o := 75) s_75 (Nat.le_of_ble_eq_true rfl))) <| Y_ne 103 dX5_isOrder_90 rfl (fun q => X_le (xle_s (xle_s (xle_s (xle_n (xle_s (xle_n (xle_n xle_0))))))) (k1 q)) (fun q => X_le (xle_n (xle_n (xle_n (xle_n (xle_n (xle_n (xle_n xle_0))))))) (k2 q))
theorem bX5_isOrder_93 {d : Nat} {g : xSt} {r : Option Value × xSt} {a1 a2 a4 : Int32} (k1 : a4 ≤ 1 → xX (d + 1) mX5_isOrder 105 [some (.ref 69), some (.int a1), some (.int a2), none, none, none, none] [] g = some r) (k2 : ¬ (a4 ≤ 1) → xX (d + 1) mX5_isOrder 99 [some (.ref 69), some (.int a1), some (.int a2), none, none, none, none] [] g = some r) : xX (d + 1) mX5_isOrder 93 [some (.ref 69), some (.int a1), some (.int a2), none, some (.int a4), none, none] [] g = some r :=
  Y_iload dX5_isOrder_93 rfl <| Y_iconst 1 dX5_isOrder_95 ic_1 <| Y_le 105 dX5_isOrder_96 rfl (fun q => X_le (xle_s (xle_s (xle_s (xle_n (xle_n (xle_n (xle_n xle_0))))))) (k1 q)) (fun q => X_le (xle_s (xle_s (xle_s (xle_n (xle_n (xle_n (xle_n xle_0))))))) (k2 q))
theorem bX5_isOrder_99 {d : Nat} {g : xSt} {r : Option Value × xSt} {a1 a2 : Int32} (k1 : a1 = 0 → xX (d + 1) mX5_isOrder 103 [none, none, none, none, none, none, none] [] g = some r) (k2 : ¬ (a1 = 0) → xX (d + 1) mX5_isOrder 105 [some (.ref 69), some (.int a1), some (.int a2), none, none, none, none] [] g = some r) : xX (d + 1) mX5_isOrder 99 [some (.ref 69), some (.int a1), some (.int a2), none, none, none, none] [] g = some r :=
  Y_iload_n dX5_isOrder_99 rfl <| Y_ne0 105 dX5_isOrder_100 rfl (fun q => X_le (xle_n (xle_n (xle_n (xle_n (xle_n (xle_n (xle_n xle_0))))))) (k1 q)) (fun q => X_le (xle_s (xle_s (xle_s (xle_n (xle_n (xle_n (xle_n xle_0))))))) (k2 q))
theorem bX5_isOrder_103 {d : Nat} {g : xSt} {r : Option Value × xSt}  (k : r = (some (.int 0), g)) : xX (d + 1) mX5_isOrder 103 [none, none, none, none, none, none, none] [] g = some r :=
  Y_iconst 0 dX5_isOrder_103 ic_0 <| Y_zret dX5_isOrder_104 rfl (by decide) k
theorem bX5_isOrder_105 {d : Nat} {g : xSt} {r : Option Value × xSt} {a1 a2 : Int32} (k : xX (d + 1) mX5_isOrder 2 [some (.ref 69), some (.int a1), some (.int (a2 + 1)), none, none, none, none] [] g = some r) : xX (d + 1) mX5_isOrder 105 [some (.ref 69), some (.int a1), some (.int a2), none, none, none, none] [] g = some r :=
  Y_iinc 1 dX5_isOrder_105 rfl ic_1 rfl rfl <| Y_goto 2 dX5_isOrder_108 rfl <| X_le (xle_s (xle_s (xle_s (xle_n (xle_n (xle_n (xle_n xle_0))))))) k
theorem bX5_isOrder_111 {d : Nat} {g : xSt} {r : Option Value × xSt}  (k : r = (some (.int 1), g)) : xX (d + 1) mX5_isOrder 111 [none, none, none, none, none, none, none] [] g = some r :=
  Y_iconst 1 dX5_isOrder_111 ic_1 <| Y_zret dX5_isOrder_112 rfl (by decide) k
theorem bX5_keepOrder_0 {d : Nat} {g : xSt} {r : Option Value × xSt}  (k : xX (d + 1) mX5_keepOrder 4 [some (.ref 69), some (.int 0), some (.int 0)] [] g = some r) : xX (d + 1) mX5_keepOrder 0 [some (.ref 69), none, none] [] g = some r :=
  Y_iconst 0 dX5_keepOrder_0 ic_0 <| Y_istore_n dX5_keepOrder_1 rfl rfl <| Y_iconst 0 dX5_keepOrder_2 ic_0 <| Y_istore_n dX5_keepOrder_3 rfl rfl <| X_le (xle_s (xle_s (xle_s xle_0))) k
theorem bX5_keepOrder_4 {d : Nat} {g : xSt} {r : Option Value × xSt} {a1 a2 : Int32} (W : xWf g) (k1 : (xI g 69 0) ≤ a2 → xX (d + 1) mX5_keepOrder 33 [some (.ref 69), some (.int a1), none] [] g = some r) (k2 : ¬ ((xI g 69 0) ≤ a2) → xX (d + 1) mX5_keepOrder 12 [some (.ref 69), some (.int a1), some (.int a2)] [] g = some r) : xX (d + 1) mX5_keepOrder 4 [some (.ref 69), some (.int a1), some (.int a2)] [] g = some r :=
  Y_iload_n dX5_keepOrder_4 rfl <| Y_aload_n dX5_keepOrder_5 rfl <| Y_getI dX5_keepOrder_6 f_5_49 ft_5_0 (xis W 69 5 s_69 (Nat.le_of_ble_eq_true rfl)) <| Y_ge 33 dX5_keepOrder_9 rfl (fun q => X_le (xle_s (xle_s (xle_n xle_0))) (k1 q)) (fun q => X_le (xle_s (xle_s (xle_s xle_0))) (k2 q))
theorem bX5_keepOrder_12 {d : Nat} {g : xSt} {r : Option Value × xSt} {a1 a2 : Int32} (W : xWf g) (k : xX (d + 1) mX5_keepOrder 4 [some (.ref 69), some (.int (a1 ||| ((xat (xI g 75) 5 a2) <<< ((3 * a2) &&& 31)))), some (.int (a2 + 1))] [] g = some r) : xX (d + 1) mX5_keepOrder 12 [some (.ref 69), some (.int a1), some (.int a2)] [] g = some r :=
  Y_iload_n dX5_keepOrder_12 rfl <| Y_aload_n dX5_keepOrder_13 rfl <| Y_getR dX5_keepOrder_14 f_5_29 (by rw [ft_5_11]; rfl) (xis W 69 5 s_69 (Nat.le_of_ble_eq_true rfl)) (xptr W 69 11 p_69_11) <| Y_iload_n dX5_keepOrder_17 rfl <| Y_callS1 dX5_keepOrder_18 cl_5_73 rfl rfl rfl rfl rfl (c_at (xarr W (o := 75) s_75 (Nat.le_of_ble_eq_true rfl))) <| Y_iconst 3 dX5_keepOrder_21 ic_3 <| Y_iload_n dX5_keepOrder_22 rfl <| Y_imul dX5_keepOrder_23 <| Y_ishl dX5_keepOrder_24 <| Y_ior dX5_keepOrder_25 <| Y_istore_n dX5_keepOrder_26 rfl rfl <| Y_iinc 1 dX5_keepOrder_27 rfl ic_1 rfl rfl <| Y_goto 4 dX5_keepOrder_30 rfl <| X_le (xle_s (xle_s (xle_s xle_0))) k
theorem bX5_keepOrder_33 {d : Nat} {g : xSt} {r : Option Value × xSt} {a1 r54 : Int32} {g54 : xSt} (W : xWf g) (hk54 : xCallM d mX5_markOfDigits [.ref 69] (xput g 70 541 (xI g 69 1) a1) = some (some (.int r54), g54)) (W54 : xWf g54) (k : r = (none, xWI (xput g54 71 541 (xI (xput g 70 541 (xI g 69 1) a1) 69 1) r54) 69 1 ((xI (xput g54 71 541 (xI (xput g 70 541 (xI g 69 1) a1) 69 1) r54) 69 1) + 1))) : xX (d + 1) mX5_keepOrder 33 [some (.ref 69), some (.int a1), none] [] g = some r :=
  Y_aload_n dX5_keepOrder_33 rfl <| Y_getR dX5_keepOrder_34 f_5_11 (by rw [ft_5_2]; rfl) (xis W 69 5 s_69 (Nat.le_of_ble_eq_true rfl)) (xptr W 69 2 p_69_2) <| Y_aload_n dX5_keepOrder_37 rfl <| Y_getI dX5_keepOrder_38 f_5_50 ft_5_1 (xis W 69 5 s_69 (Nat.le_of_ble_eq_true rfl)) <| Y_iload_n dX5_keepOrder_41 rfl <| Y_callS0 dX5_keepOrder_42 cl_5_53 rfl rfl rfl rfl rfl (c_put (xarr W (o := 70) s_70 (Nat.le_of_ble_eq_true rfl))) <| Y_aload_n dX5_keepOrder_45 rfl <| Y_getR dX5_keepOrder_46 f_5_15 (by rw [ft_5_3]; rfl) (xis (xWf_put W) 69 5 s_69 (Nat.le_of_ble_eq_true rfl)) (xptr (xWf_put W) 69 3 p_69_3) <| Y_aload_n dX5_keepOrder_49 rfl <| Y_getI dX5_keepOrder_50 f_5_50 ft_5_1 (xis (xWf_put W) 69 5 s_69 (Nat.le_of_ble_eq_true rfl)) <| Y_aload_n dX5_keepOrder_53 rfl <| Y_callV1 dX5_keepOrder_54 cl_5_77 rfl rfl (xis (xWf_put W) 69 5 s_69 (Nat.le_of_ble_eq_true rfl)) rfl rfl rfl (hk54) <| Y_callS0 dX5_keepOrder_57 cl_5_53 rfl rfl rfl rfl rfl (c_put (xarr W54 (o := 71) s_71 (Nat.le_of_ble_eq_true rfl))) <| Y_aload_n dX5_keepOrder_60 rfl <| Y_dup dX5_keepOrder_61 rfl <| Y_getI dX5_keepOrder_62 f_5_50 ft_5_1 (xis (xWf_put W54) 69 5 s_69 (Nat.le_of_ble_eq_true rfl)) <| Y_iconst 1 dX5_keepOrder_65 ic_1 <| Y_iadd dX5_keepOrder_66 <| Y_putI dX5_keepOrder_67 f_5_50 fn_5_1 ft_5_1 (xis (xWf_put W54) 69 5 s_69 (Nat.le_of_ble_eq_true rfl)) <| Y_ret dX5_keepOrder_70 rfl k
theorem bX5_markOfDigits_0 {d : Nat} {g : xSt} {r : Option Value × xSt}  (k : xX (d + 1) mX5_markOfDigits 4 [some (.ref 69), some (.int 0), some (.int 0), none, none, none] [] g = some r) : xX (d + 1) mX5_markOfDigits 0 [some (.ref 69), none, none, none, none, none] [] g = some r :=
  Y_iconst 0 dX5_markOfDigits_0 ic_0 <| Y_istore_n dX5_markOfDigits_1 rfl rfl <| Y_iconst 0 dX5_markOfDigits_2 ic_0 <| Y_istore_n dX5_markOfDigits_3 rfl rfl <| X_le (xle_s (xle_s (xle_s (xle_n (xle_n (xle_n xle_0)))))) k
theorem bX5_markOfDigits_4 {d : Nat} {g : xSt} {r : Option Value × xSt} {a1 a2 : Int32} (W : xWf g) (k1 : (xI g 69 0) ≤ a2 → xX (d + 1) mX5_markOfDigits 92 [none, some (.int a1), none, none, none, none] [] g = some r) (k2 : ¬ ((xI g 69 0) ≤ a2) → xX (d + 1) mX5_markOfDigits 12 [some (.ref 69), some (.int a1), some (.int a2), none, none, none] [] g = some r) : xX (d + 1) mX5_markOfDigits 4 [some (.ref 69), some (.int a1), some (.int a2), none, none, none] [] g = some r :=
  Y_iload_n dX5_markOfDigits_4 rfl <| Y_aload_n dX5_markOfDigits_5 rfl <| Y_getI dX5_markOfDigits_6 f_5_49 ft_5_0 (xis W 69 5 s_69 (Nat.le_of_ble_eq_true rfl)) <| Y_ge 92 dX5_markOfDigits_9 rfl (fun q => X_le (xle_n (xle_s (xle_n (xle_n (xle_n (xle_n xle_0)))))) (k1 q)) (fun q => X_le (xle_s (xle_s (xle_s (xle_n (xle_n (xle_n xle_0)))))) (k2 q))
theorem bX5_markOfDigits_12 {d : Nat} {g : xSt} {r : Option Value × xSt} {a1 a2 : Int32} (k : xX (d + 1) mX5_markOfDigits 16 [some (.ref 69), some (.int a1), some (.int a2), some (.int (a2 + 1)), none, none] [] g = some r) : xX (d + 1) mX5_markOfDigits 12 [some (.ref 69), some (.int a1), some (.int a2), none, none, none] [] g = some r :=
  Y_iload_n dX5_markOfDigits_12 rfl <| Y_iconst 1 dX5_markOfDigits_13 ic_1 <| Y_iadd dX5_markOfDigits_14 <| Y_istore_n dX5_markOfDigits_15 rfl rfl <| X_le (xle_s (xle_s (xle_s (xle_s (xle_n (xle_n xle_0)))))) k
theorem bX5_markOfDigits_16 {d : Nat} {g : xSt} {r : Option Value × xSt} {a1 a2 a3 : Int32} (W : xWf g) (k1 : (xI g 69 0) ≤ a3 → xX (d + 1) mX5_markOfDigits 86 [some (.ref 69), some (.int a1), some (.int a2), none, none, none] [] g = some r) (k2 : ¬ ((xI g 69 0) ≤ a3) → xX (d + 1) mX5_markOfDigits 24 [some (.ref 69), some (.int a1), some (.int a2), some (.int a3), none, none] [] g = some r) : xX (d + 1) mX5_markOfDigits 16 [some (.ref 69), some (.int a1), some (.int a2), some (.int a3), none, none] [] g = some r :=
  Y_iload_n dX5_markOfDigits_16 rfl <| Y_aload_n dX5_markOfDigits_17 rfl <| Y_getI dX5_markOfDigits_18 f_5_49 ft_5_0 (xis W 69 5 s_69 (Nat.le_of_ble_eq_true rfl)) <| Y_ge 86 dX5_markOfDigits_21 rfl (fun q => X_le (xle_s (xle_s (xle_s (xle_n (xle_n (xle_n xle_0)))))) (k1 q)) (fun q => X_le (xle_s (xle_s (xle_s (xle_s (xle_n (xle_n xle_0)))))) (k2 q))
theorem bX5_markOfDigits_24 {d : Nat} {g : xSt} {r : Option Value × xSt} {a1 a2 a3 : Int32} (W : xWf g) (k1 : 0 ≤ ((xat (xI g 75) 5 a2) - (xat (xI g 75) 5 a3)) → xX (d + 1) mX5_markOfDigits 52 [some (.ref 69), some (.int a1), some (.int a2), some (.int a3), some (.int ((xat (xI g 75) 5 a2) - (xat (xI g 75) 5 a3))), none] [] g = some r) (k2 : ¬ (0 ≤ ((xat (xI g 75) 5 a2) - (xat (xI g 75) 5 a3))) → xX (d + 1) mX5_markOfDigits 48 [some (.ref 69), some (.int a1), some (.int a2), some (.int a3), none, none] [] g = some r) : xX (d + 1) mX5_markOfDigits 24 [some (.ref 69), some (.int a1), some (.int a2), some (.int a3), none, none] [] g = some r :=
  Y_aload_n dX5_markOfDigits_24 rfl <| Y_getR dX5_markOfDigits_25 f_5_29 (by rw [ft_5_11]; rfl) (xis W 69 5 s_69 (Nat.le_of_ble_eq_true rfl)) (xptr W 69 11 p_69_11) <| Y_iload_n dX5_markOfDigits_28 rfl <| Y_callS1 dX5_markOfDigits_29 cl_5_73 rfl rfl rfl rfl rfl (c_at (xarr W (o := 75) s_75 (Nat.le_of_ble_eq_true rfl))) <| Y_aload_n dX5_markOfDigits_32 rfl <| Y_getR dX5_markOfDigits_33 f_5_29 (by rw [ft_5_11]; rfl) (xis W 69 5 s_69 (Nat.le_of_ble_eq_true rfl)) (xptr W 69 11 p_69_11) <| Y_iload_n dX5_markOfDigits_36 rfl <| Y_callS1 dX5_markOfDigits_37 cl_5_73 rfl rfl rfl rfl rfl (c_at (xarr W (o := 75) s_75 (Nat.le_of_ble_eq_true rfl))) <| Y_isub dX5_markOfDigits_40 <| Y_istore dX5_markOfDigits_41 rfl rfl <| Y_iload dX5_markOfDigits_43 rfl <| Y_ge0 52 dX5_markOfDigits_45 rfl (fun q => X_le (xle_s (xle_s (xle_s (xle_s (xle_s (xle_n xle_0)))))) (k1 q)) (fun q => X_le (xle_s (xle_s (xle_s (xle_s (xle_n (xle_n xle_0)))))) (k2 q))
theorem bX5_markOfDigits_48 {d : Nat} {g : xSt} {r : Option Value × xSt} {a1 a2 a3 : Int32} (k : xX (d + 1) mX5_markOfDigits 62 [some (.ref 69), some (.int a1), some (.int a2), some (.int a3), none, none] [.int 1] g = some r) : xX (d + 1) mX5_markOfDigits 48 [some (.ref 69), some (.int a1), some (.int a2), some (.int a3), none, none] [] g = some r :=
  Y_iconst 1 dX5_markOfDigits_48 ic_1 <| Y_goto 62 dX5_markOfDigits_49 rfl <| X_le (xle_s (xle_s (xle_s (xle_s (xle_n (xle_n xle_0)))))) k
theorem bX5_markOfDigits_52 {d : Nat} {g : xSt} {r : Option Value × xSt} {a1 a2 a3 a4 : Int32} (k1 : a4 ≤ 0 → xX (d + 1) mX5_markOfDigits 61 [some (.ref 69), some (.int a1), some (.int a2), some (.int a3), none, none] [] g = some r) (k2 : ¬ (a4 ≤ 0) → xX (d + 1) mX5_markOfDigits 57 [some (.ref 69), some (.int a1), some (.int a2), some (.int a3), none, none] [] g = some r) : xX (d + 1) mX5_markOfDigits 52 [some (.ref 69), some (.int a1), some (.int a2), some (.int a3), some (.int a4), none] [] g = some r :=
  Y_iload dX5_markOfDigits_52 rfl <| Y_le0 61 dX5_markOfDigits_54 rfl (fun q => X_le (xle_s (xle_s (xle_s (xle_s (xle_n (xle_n xle_0)))))) (k1 q)) (fun q => X_le (xle_s (xle_s (xle_s (xle_s (xle_n (xle_n xle_0)))))) (k2 q))
theorem bX5_markOfDigits_57 {d : Nat} {g : xSt} {r : Option Value × xSt} {a1 a2 a3 : Int32} (k : xX (d + 1) mX5_markOfDigits 62 [some (.ref 69), some (.int a1), some (.int a2), some (.int a3), none, none] [.int 2] g = some r) : xX (d + 1) mX5_markOfDigits 57 [some (.ref 69), some (.int a1), some (.int a2), some (.int a3), none, none] [] g = some r :=
  Y_iconst 2 dX5_markOfDigits_57 ic_2 <| Y_goto 62 dX5_markOfDigits_58 rfl <| X_le (xle_s (xle_s (xle_s (xle_s (xle_n (xle_n xle_0)))))) k
theorem bX5_markOfDigits_61 {d : Nat} {g : xSt} {r : Option Value × xSt} {a1 a2 a3 : Int32} (k : xX (d + 1) mX5_markOfDigits 62 [some (.ref 69), some (.int a1), some (.int a2), some (.int a3), none, none] [.int 0] g = some r) : xX (d + 1) mX5_markOfDigits 61 [some (.ref 69), some (.int a1), some (.int a2), some (.int a3), none, none] [] g = some r :=
  Y_iconst 0 dX5_markOfDigits_61 ic_0 <| X_le (xle_s (xle_s (xle_s (xle_s (xle_n (xle_n xle_0)))))) k
theorem bX5_markOfDigits_62 {d : Nat} {g : xSt} {r : Option Value × xSt} {a1 a2 a3 s0 r74 : Int32} {g74 : xSt} (W : xWf g) (hk74 : xCallM d mX5_bitOf [.int (xI g 69 0), .int a2, .int a3, .int s0] g = some (some (.int r74), g74)) (W74 : xWf g74) (k : xX (d + 1) mX5_markOfDigits 16 [some (.ref 69), some (.int (a1 ||| (1 <<< (r74 &&& 31)))), some (.int a2), some (.int (a3 + 1)), none, none] [] g74 = some r) : xX (d + 1) mX5_markOfDigits 62 [some (.ref 69), some (.int a1), some (.int a2), some (.int a3), none, none] [.int s0] g = some r :=
  Y_istore dX5_markOfDigits_62 rfl rfl <| Y_iload_n dX5_markOfDigits_64 rfl <| Y_iconst 1 dX5_markOfDigits_65 ic_1 <| Y_aload_n dX5_markOfDigits_66 rfl <| Y_getI dX5_markOfDigits_67 f_5_49 ft_5_0 (xis W 69 5 s_69 (Nat.le_of_ble_eq_true rfl)) <| Y_iload_n dX5_markOfDigits_70 rfl <| Y_iload_n dX5_markOfDigits_71 rfl <| Y_iload dX5_markOfDigits_72 rfl <| Y_callS1 dX5_markOfDigits_74 cl_5_81 rfl rfl rfl rfl rfl (hk74) <| Y_ishl dX5_markOfDigits_77 <| Y_ior dX5_markOfDigits_78 <| Y_istore_n dX5_markOfDigits_79 rfl rfl <| Y_iinc 1 dX5_markOfDigits_80 rfl ic_1 rfl rfl <| Y_goto 16 dX5_markOfDigits_83 rfl <| X_le (xle_s (xle_s (xle_s (xle_s (xle_n (xle_n xle_0)))))) k
theorem bX5_markOfDigits_86 {d : Nat} {g : xSt} {r : Option Value × xSt} {a1 a2 : Int32} (k : xX (d + 1) mX5_markOfDigits 4 [some (.ref 69), some (.int a1), some (.int (a2 + 1)), none, none, none] [] g = some r) : xX (d + 1) mX5_markOfDigits 86 [some (.ref 69), some (.int a1), some (.int a2), none, none, none] [] g = some r :=
  Y_iinc 1 dX5_markOfDigits_86 rfl ic_1 rfl rfl <| Y_goto 4 dX5_markOfDigits_89 rfl <| X_le (xle_s (xle_s (xle_s (xle_n (xle_n (xle_n xle_0)))))) k
theorem bX5_markOfDigits_92 {d : Nat} {g : xSt} {r : Option Value × xSt} {a1 : Int32} (k : r = (some (.int a1), g)) : xX (d + 1) mX5_markOfDigits 92 [none, some (.int a1), none, none, none, none] [] g = some r :=
  Y_iload_n dX5_markOfDigits_92 rfl <| Y_iret dX5_markOfDigits_93 rfl k
theorem bX5_bitOf_0 {d : Nat} {g : xSt} {r : Option Value × xSt} {a0 a1 a2 a3 : Int32} (k1 : a3 = 0 → xX (d + 1) mX5_bitOf 9 [some (.int a0), some (.int a1), some (.int a2), some (.int a3), none] [] g = some r) (k2 : ¬ (a3 = 0) → xX (d + 1) mX5_bitOf 4 [some (.int a0), some (.int a1), some (.int a2), some (.int a3), none] [] g = some r) : xX (d + 1) mX5_bitOf 0 [some (.int a0), some (.int a1), some (.int a2), some (.int a3), none] [] g = some r :=
  Y_iload_n dX5_bitOf_0 rfl <| Y_eq0 9 dX5_bitOf_1 rfl (fun q => X_le (xle_s (xle_s (xle_s (xle_s (xle_n xle_0))))) (k1 q)) (fun q => X_le (xle_s (xle_s (xle_s (xle_s (xle_n xle_0))))) (k2 q))
theorem bX5_bitOf_4 {d : Nat} {g : xSt} {r : Option Value × xSt} {a0 a1 a2 a3 : Int32} (k1 : a2 ≤ a1 → xX (d + 1) mX5_bitOf 13 [some (.int a0), some (.int a1), some (.int a2), some (.int a3), none] [] g = some r) (k2 : ¬ (a2 ≤ a1) → xX (d + 1) mX5_bitOf 9 [some (.int a0), some (.int a1), some (.int a2), some (.int a3), none] [] g = some r) : xX (d + 1) mX5_bitOf 4 [some (.int a0), some (.int a1), some (.int a2), some (.int a3), none] [] g = some r :=
  Y_iload_n dX5_bitOf_4 rfl <| Y_iload_n dX5_bitOf_5 rfl <| Y_ge 13 dX5_bitOf_6 rfl (fun q => X_le (xle_s (xle_s (xle_s (xle_s (xle_n xle_0))))) (k1 q)) (fun q => X_le (xle_s (xle_s (xle_s (xle_s (xle_n xle_0))))) (k2 q))
theorem bX5_bitOf_9 {d : Nat} {g : xSt} {r : Option Value × xSt} {a0 a1 a2 a3 : Int32} (k : xX (d + 1) mX5_bitOf 16 [some (.int a0), some (.int a1), some (.int a2), none, none] [.int a3] g = some r) : xX (d + 1) mX5_bitOf 9 [some (.int a0), some (.int a1), some (.int a2), some (.int a3), none] [] g = some r :=
  Y_iload_n dX5_bitOf_9 rfl <| Y_goto 16 dX5_bitOf_10 rfl <| X_le (xle_s (xle_s (xle_s (xle_n (xle_n xle_0))))) k
theorem bX5_bitOf_13 {d : Nat} {g : xSt} {r : Option Value × xSt} {a0 a1 a2 a3 : Int32} (k : xX (d + 1) mX5_bitOf 16 [some (.int a0), some (.int a1), some (.int a2), none, none] [.int (3 - a3)] g = some r) : xX (d + 1) mX5_bitOf 13 [some (.int a0), some (.int a1), some (.int a2), some (.int a3), none] [] g = some r :=
  Y_iconst 3 dX5_bitOf_13 ic_3 <| Y_iload_n dX5_bitOf_14 rfl <| Y_isub dX5_bitOf_15 <| X_le (xle_s (xle_s (xle_s (xle_n (xle_n xle_0))))) k
theorem bX5_bitOf_16 {d : Nat} {g : xSt} {r : Option Value × xSt} {a0 a1 a2 s0 r26 : Int32} {g26 : xSt} (hk26 : xCallM d mX5_pairOf [.int a0, .int a1, .int a2] g = some (some (.int r26), g26)) (W26 : xWf g26) (k : r = (some (.int ((10 * s0) + r26)), g26)) : xX (d + 1) mX5_bitOf 16 [some (.int a0), some (.int a1), some (.int a2), none, none] [.int s0] g = some r :=
  Y_istore dX5_bitOf_16 rfl rfl <| Y_bipush 10 dX5_bitOf_18 bp_10 <| Y_iload dX5_bitOf_20 rfl <| Y_imul dX5_bitOf_22 <| Y_iload_n dX5_bitOf_23 rfl <| Y_iload_n dX5_bitOf_24 rfl <| Y_iload_n dX5_bitOf_25 rfl <| Y_callS1 dX5_bitOf_26 cl_5_41 rfl rfl rfl rfl rfl (hk26) <| Y_iadd dX5_bitOf_29 <| Y_iret dX5_bitOf_30 rfl k
theorem bX5_pairOf_0 {d : Nat} {g : xSt} {r : Option Value × xSt} {a0 a1 a2 : Int32} (k : r = (some (.int ((((((imin a1 a2) * a0) - (((imin a1 a2) * ((imin a1 a2) + 1)) / 2)) + (imax a1 a2)) - (imin a1 a2)) - 1)), g)) : xX d mX5_pairOf 0 [some (.int a0), some (.int a1), some (.int a2), none] [] g = some r :=
  Y_iload_n dX5_pairOf_0 rfl <| Y_iload_n dX5_pairOf_1 rfl <| Y_min dX5_pairOf_2 km_5_32 kn_5_32 rfl <| Y_istore_n dX5_pairOf_5 rfl rfl <| Y_iload_n dX5_pairOf_6 rfl <| Y_iload_n dX5_pairOf_7 rfl <| Y_imul dX5_pairOf_8 <| Y_iload_n dX5_pairOf_9 rfl <| Y_iload_n dX5_pairOf_10 rfl <| Y_iconst 1 dX5_pairOf_11 ic_1 <| Y_iadd dX5_pairOf_12 <| Y_imul dX5_pairOf_13 <| Y_iconst 2 dX5_pairOf_14 ic_2 <| Y_idiv dX5_pairOf_15 (by decide) <| Y_isub dX5_pairOf_16 <| Y_iload_n dX5_pairOf_17 rfl <| Y_iload_n dX5_pairOf_18 rfl <| Y_max dX5_pairOf_19 km_5_38 kn_5_38 rfl <| Y_iadd dX5_pairOf_22 <| Y_iload_n dX5_pairOf_23 rfl <| Y_isub dX5_pairOf_24 <| Y_iconst 1 dX5_pairOf_25 ic_1 <| Y_isub dX5_pairOf_26 <| Y_iret dX5_pairOf_27 rfl k
theorem bX5_stepDigits_0 {d : Nat} {g : xSt} {r : Option Value × xSt}  (W : xWf g) (k : xX (d + 1) mX5_stepDigits 9 [some (.ref 69), some (.int 1), some (.int ((xI g 69 0) - 1)), none] [] g = some r) : xX (d + 1) mX5_stepDigits 0 [some (.ref 69), none, none, none] [] g = some r :=
  Y_iconst 1 dX5_stepDigits_0 ic_1 <| Y_istore_n dX5_stepDigits_1 rfl rfl <| Y_aload_n dX5_stepDigits_2 rfl <| Y_getI dX5_stepDigits_3 f_5_49 ft_5_0 (xis W 69 5 s_69 (Nat.le_of_ble_eq_true rfl)) <| Y_iconst 1 dX5_stepDigits_6 ic_1 <| Y_isub dX5_stepDigits_7 <| Y_istore_n dX5_stepDigits_8 rfl rfl <| X_le (xle_s (xle_s (xle_s (xle_n xle_0)))) k
theorem bX5_stepDigits_9 {d : Nat} {g : xSt} {r : Option Value × xSt} {a1 a2 : Int32} (k1 : a2 < 0 → xX (d + 1) mX5_stepDigits 65 [none, none, none, none] [] g = some r) (k2 : ¬ (a2 < 0) → xX (d + 1) mX5_stepDigits 13 [some (.ref 69), some (.int a1), some (.int a2), none] [] g = some r) : xX (d + 1) mX5_stepDigits 9 [some (.ref 69), some (.int a1), some (.int a2), none] [] g = some r :=
  Y_iload_n dX5_stepDigits_9 rfl <| Y_lt0 65 dX5_stepDigits_10 rfl (fun q => X_le (xle_n (xle_n (xle_n (xle_n xle_0)))) (k1 q)) (fun q => X_le (xle_s (xle_s (xle_s (xle_n xle_0)))) (k2 q))
theorem bX5_stepDigits_13 {d : Nat} {g : xSt} {r : Option Value × xSt} {a1 a2 : Int32} (k1 : a1 = 0 → xX (d + 1) mX5_stepDigits 65 [none, none, none, none] [] g = some r) (k2 : ¬ (a1 = 0) → xX (d + 1) mX5_stepDigits 17 [some (.ref 69), none, some (.int a2), none] [] g = some r) : xX (d + 1) mX5_stepDigits 13 [some (.ref 69), some (.int a1), some (.int a2), none] [] g = some r :=
  Y_iload_n dX5_stepDigits_13 rfl <| Y_eq0 65 dX5_stepDigits_14 rfl (fun q => X_le (xle_n (xle_n (xle_n (xle_n xle_0)))) (k1 q)) (fun q => X_le (xle_s (xle_n (xle_s (xle_n xle_0)))) (k2 q))
theorem bX5_stepDigits_17 {d : Nat} {g : xSt} {r : Option Value × xSt} {a2 : Int32} (W : xWf g) (k1 : ((xat (xI g 75) 5 a2) + 1) < (xI g 69 0) → xX (d + 1) mX5_stepDigits 40 [some (.ref 69), none, some (.int a2), some (.int ((xat (xI g 75) 5 a2) + 1))] [] g = some r) (k2 : ¬ (((xat (xI g 75) 5 a2) + 1) < (xI g 69 0)) → xX (d + 1) mX5_stepDigits 36 [some (.ref 69), none, some (.int a2), some (.int ((xat (xI g 75) 5 a2) + 1))] [] g = some r) : xX (d + 1) mX5_stepDigits 17 [some (.ref 69), none, some (.int a2), none] [] g = some r :=
  Y_aload_n dX5_stepDigits_17 rfl <| Y_getR dX5_stepDigits_18 f_5_29 (by rw [ft_5_11]; rfl) (xis W 69 5 s_69 (Nat.le_of_ble_eq_true rfl)) (xptr W 69 11 p_69_11) <| Y_iload_n dX5_stepDigits_21 rfl <| Y_callS1 dX5_stepDigits_22 cl_5_73 rfl rfl rfl rfl rfl (c_at (xarr W (o := 75) s_75 (Nat.le_of_ble_eq_true rfl))) <| Y_iconst 1 dX5_stepDigits_25 ic_1 <| Y_iadd dX5_stepDigits_26 <| Y_istore_n dX5_stepDigits_27 rfl rfl <| Y_iload_n dX5_stepDigits_28 rfl <| Y_aload_n dX5_stepDigits_29 rfl <| Y_getI dX5_stepDigits_30 f_5_49 ft_5_0 (xis W 69 5 s_69 (Nat.le_of_ble_eq_true rfl)) <| Y_lt 40 dX5_stepDigits_33 rfl (fun q => X_le (xle_s (xle_n (xle_s (xle_s xle_0)))) (k1 q)) (fun q => X_le (xle_s (xle_n (xle_s (xle_s xle_0)))) (k2 q))
theorem bX5_stepDigits_36 {d : Nat} {g : xSt} {r : Option Value × xSt} {a2 a3 : Int32} (k : xX (d + 1) mX5_stepDigits 41 [some (.ref 69), none, some (.int a2), some (.int a3)] [.int 1] g = some r) : xX (d + 1) mX5_stepDigits 36 [some (.ref 69), none, some (.int a2), some (.int a3)] [] g = some r :=
  Y_iconst 1 dX5_stepDigits_36 ic_1 <| Y_goto 41 dX5_stepDigits_37 rfl <| X_le (xle_s (xle_n (xle_s (xle_s xle_0)))) k
theorem bX5_stepDigits_40 {d : Nat} {g : xSt} {r : Option Value × xSt} {a2 a3 : Int32} (k : xX (d + 1) mX5_stepDigits 41 [some (.ref 69), none, some (.int a2), some (.int a3)] [.int 0] g = some r) : xX (d + 1) mX5_stepDigits 40 [some (.ref 69), none, some (.int a2), some (.int a3)] [] g = some r :=
  Y_iconst 0 dX5_stepDigits_40 ic_0 <| X_le (xle_s (xle_n (xle_s (xle_s xle_0)))) k
theorem bX5_stepDigits_41 {d : Nat} {g : xSt} {r : Option Value × xSt} {a2 a3 s0 : Int32} (W : xWf g) (k1 : s0 = 0 → xX (d + 1) mX5_stepDigits 55 [some (.ref 69), some (.int s0), some (.int a2), some (.int a3)] [.int a2, .ref 75] g = some r) (k2 : ¬ (s0 = 0) → xX (d + 1) mX5_stepDigits 51 [some (.ref 69), some (.int s0), some (.int a2), none] [.int a2, .ref 75] g = some r) : xX (d + 1) mX5_stepDigits 41 [some (.ref 69), none, some (.int a2), some (.int a3)] [.int s0] g = some r :=
  Y_istore_n dX5_stepDigits_41 rfl rfl <| Y_aload_n dX5_stepDigits_42 rfl <| Y_getR dX5_stepDigits_43 f_5_29 (by rw [ft_5_11]; rfl) (xis W 69 5 s_69 (Nat.le_of_ble_eq_true rfl)) (xptr W 69 11 p_69_11) <| Y_iload_n dX5_stepDigits_46 rfl <| Y_iload_n dX5_stepDigits_47 rfl <| Y_eq0 55 dX5_stepDigits_48 rfl (fun q => X_le (xle_s (xle_s (xle_s (xle_s xle_0)))) (k1 q)) (fun q => X_le (xle_s (xle_s (xle_s (xle_n xle_0)))) (k2 q))
theorem bX5_stepDigits_51 {d : Nat} {g : xSt} {r : Option Value × xSt} {a1 a2 s0 : Int32} (k : xX (d + 1) mX5_stepDigits 56 [some (.ref 69), some (.int a1), some (.int a2), none] [.int 0, .int s0, .ref 75] g = some r) : xX (d + 1) mX5_stepDigits 51 [some (.ref 69), some (.int a1), some (.int a2), none] [.int s0, .ref 75] g = some r :=
  Y_iconst 0 dX5_stepDigits_51 ic_0 <| Y_goto 56 dX5_stepDigits_52 rfl <| X_le (xle_s (xle_s (xle_s (xle_n xle_0)))) k
theorem bX5_stepDigits_55 {d : Nat} {g : xSt} {r : Option Value × xSt} {a1 a2 a3 s0 : Int32} (k : xX (d + 1) mX5_stepDigits 56 [some (.ref 69), some (.int a1), some (.int a2), none] [.int a3, .int s0, .ref 75] g = some r) : xX (d + 1) mX5_stepDigits 55 [some (.ref 69), some (.int a1), some (.int a2), some (.int a3)] [.int s0, .ref 75] g = some r :=
  Y_iload_n dX5_stepDigits_55 rfl <| X_le (xle_s (xle_s (xle_s (xle_n xle_0)))) k
theorem bX5_stepDigits_56 {d : Nat} {g : xSt} {r : Option Value × xSt} {a1 a2 s1 s0 : Int32} (W : xWf g) (k : xX (d + 1) mX5_stepDigits 9 [some (.ref 69), some (.int a1), some (.int (a2 + (-1))), none] [] (xput g 75 5 s1 s0) = some r) : xX (d + 1) mX5_stepDigits 56 [some (.ref 69), some (.int a1), some (.int a2), none] [.int s0, .int s1, .ref 75] g = some r :=
  Y_callS0 dX5_stepDigits_56 cl_5_53 rfl rfl rfl rfl rfl (c_put (xarr W (o := 75) s_75 (Nat.le_of_ble_eq_true rfl))) <| Y_iinc (-1) dX5_stepDigits_59 rfl ic_m1 rfl rfl <| Y_goto 9 dX5_stepDigits_62 rfl <| X_le (xle_s (xle_s (xle_s (xle_n xle_0)))) k
theorem bX5_stepDigits_65 {d : Nat} {g : xSt} {r : Option Value × xSt}  (k : r = (none, g)) : xX (d + 1) mX5_stepDigits 65 [none, none, none, none] [] g = some r :=
  Y_ret dX5_stepDigits_65 rfl k
theorem bX5_heed_0 {d : Nat} {g : xSt} {r : Option Value × xSt} {a2 : Int32} {g5 : xSt} (W : xWf g) (hk5 : xCallM (d + 1) mX7_fill [.ref 73, .int 0] g = some (none, g5)) (W5 : xWf g5) (k : xX (d + 2) mX5_heed 20 [some (.ref 69), some (.ref 32), some (.int a2), some (.int 0), none, none, none] [] (xWI (xWI g5 69 7 0) 69 8 0) = some r) : xX (d + 2) mX5_heed 0 [some (.ref 69), some (.ref 32), some (.int a2), none, none, none, none] [] g = some r :=
  Y_aload_n dX5_heed_0 rfl <| Y_getR dX5_heed_1 f_5_21 (by rw [ft_5_9]; rfl) (xis W 69 5 s_69 (Nat.le_of_ble_eq_true rfl)) (xptr W 69 9 p_69_9) <| Y_iconst 0 dX5_heed_4 ic_0 <| Y_callS0 dX5_heed_5 cl_5_85 rfl rfl rfl rfl rfl (hk5) <| Y_aload_n dX5_heed_8 rfl <| Y_iconst 0 dX5_heed_9 ic_0 <| Y_putI dX5_heed_10 f_5_89 fn_5_7 ft_5_7 (xis W5 69 5 s_69 (Nat.le_of_ble_eq_true rfl)) <| Y_aload_n dX5_heed_13 rfl <| Y_iconst 0 dX5_heed_14 ic_0 <| Y_putI dX5_heed_15 f_5_92 fn_5_8 ft_5_8 (xis W5 69 5 s_69 (Nat.le_of_ble_eq_true rfl)) <| Y_iconst 0 dX5_heed_18 ic_0 <| Y_istore_n dX5_heed_19 rfl rfl <| X_le (xle_s (xle_s (xle_s (xle_s (xle_n (xle_n (xle_n xle_0))))))) k
theorem bX5_heed_20 {d : Nat} {g : xSt} {r : Option Value × xSt} {a2 a3 : Int32} (W : xWf g) (k1 : (xI g 32 0) ≤ a3 → xX (d + 2) mX5_heed 133 [none, none, none, none, none, none, none] [] g = some r) (k2 : ¬ ((xI g 32 0) ≤ a3) → xX (d + 2) mX5_heed 28 [some (.ref 69), some (.ref 32), some (.int a2), some (.int a3), none, none, none] [] g = some r) : xX (d + 2) mX5_heed 20 [some (.ref 69), some (.ref 32), some (.int a2), some (.int a3), none, none, none] [] g = some r :=
  Y_iload_n dX5_heed_20 rfl <| Y_aload_n dX5_heed_21 rfl <| Y_getI dX5_heed_22 f_5_95 ft_0_0 (xis W 32 0 s_32 (Nat.le_of_ble_eq_true rfl)) <| Y_ge 133 dX5_heed_25 rfl (fun q => X_le (xle_n (xle_n (xle_n (xle_n (xle_n (xle_n (xle_n xle_0))))))) (k1 q)) (fun q => X_le (xle_s (xle_s (xle_s (xle_s (xle_n (xle_n (xle_n xle_0))))))) (k2 q))
theorem bX5_heed_28 {d : Nat} {g : xSt} {r : Option Value × xSt} {a2 a3 r31 : Int32} {g31 : xSt} (W : xWf g) (hk31 : xCallM (d + 1) mX0_counts [.ref 32, .int a3, .int a2] g = some (some (.int r31), g31)) (W31 : xWf g31) (k1 : r31 = 0 → xX (d + 2) mX5_heed 127 [some (.ref 69), some (.ref 32), some (.int a2), some (.int a3), none, none, none] [] g31 = some r) (k2 : ¬ (r31 = 0) → xX (d + 2) mX5_heed 37 [some (.ref 69), some (.ref 32), some (.int a2), some (.int a3), none, none, none] [] g31 = some r) : xX (d + 2) mX5_heed 28 [some (.ref 69), some (.ref 32), some (.int a2), some (.int a3), none, none, none] [] g = some r :=
  Y_aload_n dX5_heed_28 rfl <| Y_iload_n dX5_heed_29 rfl <| Y_iload_n dX5_heed_30 rfl <| Y_callV1 dX5_heed_31 cl_5_100 rfl rfl (xis W 32 0 s_32 (Nat.le_of_ble_eq_true rfl)) rfl rfl rfl (hk31) <| Y_eq0 127 dX5_heed_34 rfl (fun q => X_le (xle_s (xle_s (xle_s (xle_s (xle_n (xle_n (xle_n xle_0))))))) (k1 q)) (fun q => X_le (xle_s (xle_s (xle_s (xle_s (xle_n (xle_n (xle_n xle_0))))))) (k2 q))
theorem bX5_heed_37 {d : Nat} {g : xSt} {r : Option Value × xSt} {a2 a3 r39 : Int32} {g39 : xSt} (W : xWf g) (hk39 : xCallM (d + 1) mX0_isSingle [.ref 32, .int a3] g = some (some (.int r39), g39)) (W39 : xWf g39) (k1 : r39 = 0 → xX (d + 2) mX5_heed 127 [some (.ref 69), some (.ref 32), some (.int a2), some (.int a3), none, none, none] [] g39 = some r) (k2 : ¬ (r39 = 0) → xX (d + 2) mX5_heed 45 [some (.ref 69), some (.ref 32), some (.int a2), some (.int a3), none, none, none] [] g39 = some r) : xX (d + 2) mX5_heed 37 [some (.ref 69), some (.ref 32), some (.int a2), some (.int a3), none, none, none] [] g = some r :=
  Y_aload_n dX5_heed_37 rfl <| Y_iload_n dX5_heed_38 rfl <| Y_callV1 dX5_heed_39 cl_5_104 rfl rfl (xis W 32 0 s_32 (Nat.le_of_ble_eq_true rfl)) rfl rfl rfl (hk39) <| Y_eq0 127 dX5_heed_42 rfl (fun q => X_le (xle_s (xle_s (xle_s (xle_s (xle_n (xle_n (xle_n xle_0))))))) (k1 q)) (fun q => X_le (xle_s (xle_s (xle_s (xle_s (xle_n (xle_n (xle_n xle_0))))))) (k2 q))
theorem bX5_heed_45 {d : Nat} {g : xSt} {r : Option Value × xSt} {a2 a3 r89 : Int32} {g89 : xSt} (W : xWf g) (hk89 : xCallM (d + 1) mX5_bitOf [.int (xI g 69 0), .int (xlow (Int32.toInt64 (xat (xI g 33) 60 a3))), .int (xlow (Int32.toInt64 (xat (xI g 34) 60 a3))), .int (xat (xI g 35) 60 a3)] g = some (some (.int r89), g89)) (W89 : xWf g89) (k : xX (d + 2) mX5_heed 127 [some (.ref 69), some (.ref 32), some (.int a2), some (.int a3), none, none, none] [] (xWI (xWI (xadd g89 73 30 r89 1) 69 7 ((xI (xadd g89 73 30 r89 1) 69 7) ||| (1 <<< (r89 &&& 31)))) 69 8 ((xI (xadd g89 73 30 r89 1) 69 8) + 1)) = some r) : xX (d + 2) mX5_heed 45 [some (.ref 69), some (.ref 32), some (.int a2), some (.int a3), none, none, none] [] g = some r :=
  Y_aload_n dX5_heed_45 rfl <| Y_getR dX5_heed_46 f_5_108 (by rw [ft_0_5]; rfl) (xis W 32 0 s_32 (Nat.le_of_ble_eq_true rfl)) (xptr W 32 5 p_32_5) <| Y_iload_n dX5_heed_49 rfl <| Y_callS1 dX5_heed_50 cl_5_73 rfl rfl rfl rfl rfl (c_at (xarr W (o := 33) s_33 (Nat.le_of_ble_eq_true rfl))) <| Y_i2l dX5_heed_53 <| Y_callS1 dX5_heed_54 cl_5_111 rfl rfl rfl rfl rfl (c_xlow) <| Y_istore dX5_heed_57 rfl rfl <| Y_aload_n dX5_heed_59 rfl <| Y_getR dX5_heed_60 f_5_115 (by rw [ft_0_6]; rfl) (xis W 32 0 s_32 (Nat.le_of_ble_eq_true rfl)) (xptr W 32 6 p_32_6) <| Y_iload_n dX5_heed_63 rfl <| Y_callS1 dX5_heed_64 cl_5_73 rfl rfl rfl rfl rfl (c_at (xarr W (o := 34) s_34 (Nat.le_of_ble_eq_true rfl))) <| Y_i2l dX5_heed_67 <| Y_callS1 dX5_heed_68 cl_5_111 rfl rfl rfl rfl rfl (c_xlow) <| Y_istore dX5_heed_71 rfl rfl <| Y_aload_n dX5_heed_73 rfl <| Y_getI dX5_heed_74 f_5_49 ft_5_0 (xis W 69 5 s_69 (Nat.le_of_ble_eq_true rfl)) <| Y_iload dX5_heed_77 rfl <| Y_iload dX5_heed_79 rfl <| Y_aload_n dX5_heed_81 rfl <| Y_getR dX5_heed_82 f_5_118 (by rw [ft_0_7]; rfl) (xis W 32 0 s_32 (Nat.le_of_ble_eq_true rfl)) (xptr W 32 7 p_32_7) <| Y_iload_n dX5_heed_85 rfl <| Y_callS1 dX5_heed_86 cl_5_73 rfl rfl rfl rfl rfl (c_at (xarr W (o := 35) s_35 (Nat.le_of_ble_eq_true rfl))) <| Y_callS1 dX5_heed_89 cl_5_81 rfl rfl rfl rfl rfl (hk89) <| Y_istore dX5_heed_92 rfl rfl <| Y_aload_n dX5_heed_94 rfl <| Y_getR dX5_heed_95 f_5_21 (by rw [ft_5_9]; rfl) (xis W89 69 5 s_69 (Nat.le_of_ble_eq_true rfl)) (xptr W89 69 9 p_69_9) <| Y_iload dX5_heed_98 rfl <| Y_iconst 1 dX5_heed_100 ic_1 <| Y_callS0 dX5_heed_101 cl_5_121 rfl rfl rfl rfl rfl (c_add (xarr W89 (o := 73) s_73 (Nat.le_of_ble_eq_true rfl))) <| Y_aload_n dX5_heed_104 rfl <| Y_dup dX5_heed_105 rfl <| Y_getI dX5_heed_106 f_5_89 ft_5_7 (xis (xWf_add W89) 69 5 s_69 (Nat.le_of_ble_eq_true rfl)) <| Y_iconst 1 dX5_heed_109 ic_1 <| Y_iload dX5_heed_110 rfl <| Y_ishl dX5_heed_112 <| Y_ior dX5_heed_113 <| Y_putI dX5_heed_114 f_5_89 fn_5_7 ft_5_7 (xis (xWf_add W89) 69 5 s_69 (Nat.le_of_ble_eq_true rfl)) <| Y_aload_n dX5_heed_117 rfl <| Y_dup dX5_heed_118 rfl <| Y_getI dX5_heed_119 f_5_92 ft_5_8 (xis (xWf_add W89) 69 5 s_69 (Nat.le_of_ble_eq_true rfl)) <| Y_iconst 1 dX5_heed_122 ic_1 <| Y_iadd dX5_heed_123 <| Y_putI dX5_heed_124 f_5_92 fn_5_8 ft_5_8 (xis (xWf_add W89) 69 5 s_69 (Nat.le_of_ble_eq_true rfl)) <| X_le (xle_s (xle_s (xle_s (xle_s (xle_n (xle_n (xle_n xle_0))))))) k
theorem bX5_heed_127 {d : Nat} {g : xSt} {r : Option Value × xSt} {a2 a3 : Int32} (k : xX (d + 2) mX5_heed 20 [some (.ref 69), some (.ref 32), some (.int a2), some (.int (a3 + 1)), none, none, none] [] g = some r) : xX (d + 2) mX5_heed 127 [some (.ref 69), some (.ref 32), some (.int a2), some (.int a3), none, none, none] [] g = some r :=
  Y_iinc 1 dX5_heed_127 rfl ic_1 rfl rfl <| Y_goto 20 dX5_heed_130 rfl <| X_le (xle_s (xle_s (xle_s (xle_s (xle_n (xle_n (xle_n xle_0))))))) k
theorem bX5_heed_133 {d : Nat} {g : xSt} {r : Option Value × xSt}  (k : r = (none, g)) : xX (d + 2) mX5_heed 133 [none, none, none, none, none, none, none] [] g = some r :=
  Y_ret dX5_heed_133 rfl k
theorem bX5_sift_0 {d : Nat} {g : xSt} {r : Option Value × xSt} {a1 : Int32} (W : xWf g) (k : xX (d + 1) mX5_sift 12 [some (.ref 69), some (.int a1), some (.int 0), none] [] (xWI (xWI g 69 5 0) 69 6 (-1)) = some r) : xX (d + 1) mX5_sift 0 [some (.ref 69), some (.int a1), none, none] [] g = some r :=
  Y_aload_n dX5_sift_0 rfl <| Y_iconst 0 dX5_sift_1 ic_0 <| Y_putI dX5_sift_2 f_5_124 fn_5_5 ft_5_5 (xis W 69 5 s_69 (Nat.le_of_ble_eq_true rfl)) <| Y_aload_n dX5_sift_5 rfl <| Y_iconst (-1) dX5_sift_6 ic_m1 <| Y_putI dX5_sift_7 f_5_127 fn_5_6 ft_5_6 (xis W 69 5 s_69 (Nat.le_of_ble_eq_true rfl)) <| Y_iconst 0 dX5_sift_10 ic_0 <| Y_istore_n dX5_sift_11 rfl rfl <| X_le (xle_s (xle_s (xle_s (xle_n xle_0)))) k
theorem bX5_sift_12 {d : Nat} {g : xSt} {r : Option Value × xSt} {a1 a2 : Int32} (W : xWf g) (k1 : (xI g 69 1) ≤ a2 → xX (d + 1) mX5_sift 93 [none, none, none, none] [] g = some r) (k2 : ¬ ((xI g 69 1) ≤ a2) → xX (d + 1) mX5_sift 20 [some (.ref 69), some (.int a1), some (.int a2), none] [] g = some r) : xX (d + 1) mX5_sift 12 [some (.ref 69), some (.int a1), some (.int a2), none] [] g = some r :=
  Y_iload_n dX5_sift_12 rfl <| Y_aload_n dX5_sift_13 rfl <| Y_getI dX5_sift_14 f_5_50 ft_5_1 (xis W 69 5 s_69 (Nat.le_of_ble_eq_true rfl)) <| Y_ge 93 dX5_sift_17 rfl (fun q => X_le (xle_n (xle_n (xle_n (xle_n xle_0)))) (k1 q)) (fun q => X_le (xle_s (xle_s (xle_s (xle_n xle_0)))) (k2 q))
theorem bX5_sift_20 {d : Nat} {g : xSt} {r : Option Value × xSt} {a1 a2 : Int32} (W : xWf g) (k1 : ((xat (xI g 71) 541 a2) &&& (xI g 69 7)) = (xI g 69 7) → xX (d + 1) mX5_sift 55 [some (.ref 69), some (.int a1), some (.int a2), some (.int (xat (xI g 71) 541 a2))] [] g = some r) (k2 : ¬ (((xat (xI g 71) 541 a2) &&& (xI g 69 7)) = (xI g 69 7)) → xX (d + 1) mX5_sift 42 [some (.ref 69), some (.int a1), some (.int a2), some (.int (xat (xI g 71) 541 a2))] [] g = some r) : xX (d + 1) mX5_sift 20 [some (.ref 69), some (.int a1), some (.int a2), none] [] g = some r :=
  Y_aload_n dX5_sift_20 rfl <| Y_getR dX5_sift_21 f_5_15 (by rw [ft_5_3]; rfl) (xis W 69 5 s_69 (Nat.le_of_ble_eq_true rfl)) (xptr W 69 3 p_69_3) <| Y_iload_n dX5_sift_24 rfl <| Y_callS1 dX5_sift_25 cl_5_73 rfl rfl rfl rfl rfl (c_at (xarr W (o := 71) s_71 (Nat.le_of_ble_eq_true rfl))) <| Y_istore_n dX5_sift_28 rfl rfl <| Y_iload_n dX5_sift_29 rfl <| Y_aload_n dX5_sift_30 rfl <| Y_getI dX5_sift_31 f_5_89 ft_5_7 (xis W 69 5 s_69 (Nat.le_of_ble_eq_true rfl)) <| Y_iand dX5_sift_34 <| Y_aload_n dX5_sift_35 rfl <| Y_getI dX5_sift_36 f_5_89 ft_5_7 (xis W 69 5 s_69 (Nat.le_of_ble_eq_true rfl)) <| Y_eq 55 dX5_sift_39 rfl (fun q => X_le (xle_s (xle_s (xle_s (xle_s xle_0)))) (k1 q)) (fun q => X_le (xle_s (xle_s (xle_s (xle_s xle_0)))) (k2 q))
theorem bX5_sift_42 {d : Nat} {g : xSt} {r : Option Value × xSt} {a1 a2 a3 : Int32} (k1 : a1 ≤ 0 → xX (d + 1) mX5_sift 87 [some (.ref 69), some (.int a1), some (.int a2), none] [] g = some r) (k2 : ¬ (a1 ≤ 0) → xX (d + 1) mX5_sift 46 [some (.ref 69), some (.int a1), some (.int a2), some (.int a3)] [] g = some r) : xX (d + 1) mX5_sift 42 [some (.ref 69), some (.int a1), some (.int a2), some (.int a3)] [] g = some r :=
  Y_iload_n dX5_sift_42 rfl <| Y_le0 87 dX5_sift_43 rfl (fun q => X_le (xle_s (xle_s (xle_s (xle_n xle_0)))) (k1 q)) (fun q => X_le (xle_s (xle_s (xle_s (xle_s xle_0)))) (k2 q))
theorem bX5_sift_46 {d : Nat} {g : xSt} {r : Option Value × xSt} {a1 a2 a3 r48 : Int32} {g48 : xSt} (W : xWf g) (hk48 : xCallM d mX5_missesBy [.ref 69, .int a3] g = some (some (.int r48), g48)) (W48 : xWf g48) (k1 : a1 < r48 → xX (d + 1) mX5_sift 87 [some (.ref 69), some (.int a1), some (.int a2), none] [] g48 = some r) (k2 : ¬ (a1 < r48) → xX (d + 1) mX5_sift 55 [some (.ref 69), some (.int a1), some (.int a2), some (.int a3)] [] g48 = some r) : xX (d + 1) mX5_sift 46 [some (.ref 69), some (.int a1), some (.int a2), some (.int a3)] [] g = some r :=
  Y_aload_n dX5_sift_46 rfl <| Y_iload_n dX5_sift_47 rfl <| Y_callV1 dX5_sift_48 cl_5_130 rfl rfl (xis W 69 5 s_69 (Nat.le_of_ble_eq_true rfl)) rfl rfl rfl (hk48) <| Y_iload_n dX5_sift_51 rfl <| Y_gt 87 dX5_sift_52 rfl (fun q => X_le (xle_s (xle_s (xle_s (xle_n xle_0)))) (k1 q)) (fun q => X_le (xle_s (xle_s (xle_s (xle_s xle_0)))) (k2 q))
theorem bX5_sift_55 {d : Nat} {g : xSt} {r : Option Value × xSt} {a1 a2 a3 : Int32} (W : xWf g) (k : xX (d + 1) mX5_sift 87 [some (.ref 69), some (.int a1), some (.int a2), none] [] (xWI (xWI (xput g 72 541 (xI g 69 5) a2) 69 5 ((xI (xput g 72 541 (xI g 69 5) a2) 69 5) + 1)) 69 6 ((xI (xput g 72 541 (xI g 69 5) a2) 69 6) &&& a3)) = some r) : xX (d + 1) mX5_sift 55 [some (.ref 69), some (.int a1), some (.int a2), some (.int a3)] [] g = some r :=
  Y_aload_n dX5_sift_55 rfl <| Y_getR dX5_sift_56 f_5_18 (by rw [ft_5_4]; rfl) (xis W 69 5 s_69 (Nat.le_of_ble_eq_true rfl)) (xptr W 69 4 p_69_4) <| Y_aload_n dX5_sift_59 rfl <| Y_getI dX5_sift_60 f_5_124 ft_5_5 (xis W 69 5 s_69 (Nat.le_of_ble_eq_true rfl)) <| Y_iload_n dX5_sift_63 rfl <| Y_callS0 dX5_sift_64 cl_5_53 rfl rfl rfl rfl rfl (c_put (xarr W (o := 72) s_72 (Nat.le_of_ble_eq_true rfl))) <| Y_aload_n dX5_sift_67 rfl <| Y_dup dX5_sift_68 rfl <| Y_getI dX5_sift_69 f_5_124 ft_5_5 (xis (xWf_put W) 69 5 s_69 (Nat.le_of_ble_eq_true rfl)) <| Y_iconst 1 dX5_sift_72 ic_1 <| Y_iadd dX5_sift_73 <| Y_putI dX5_sift_74 f_5_124 fn_5_5 ft_5_5 (xis (xWf_put W) 69 5 s_69 (Nat.le_of_ble_eq_true rfl)) <| Y_aload_n dX5_sift_77 rfl <| Y_dup dX5_sift_78 rfl <| Y_getI dX5_sift_79 f_5_127 ft_5_6 (xis (xWf_put W) 69 5 s_69 (Nat.le_of_ble_eq_true rfl)) <| Y_iload_n dX5_sift_82 rfl <| Y_iand dX5_sift_83 <| Y_putI dX5_sift_84 f_5_127 fn_5_6 ft_5_6 (xis (xWf_put W) 69 5 s_69 (Nat.le_of_ble_eq_true rfl)) <| X_le (xle_s (xle_s (xle_s (xle_n xle_0)))) k
theorem bX5_sift_87 {d : Nat} {g : xSt} {r : Option Value × xSt} {a1 a2 : Int32} (k : xX (d + 1) mX5_sift 12 [some (.ref 69), some (.int a1), some (.int (a2 + 1)), none] [] g = some r) : xX (d + 1) mX5_sift 87 [some (.ref 69), some (.int a1), some (.int a2), none] [] g = some r :=
  Y_iinc 1 dX5_sift_87 rfl ic_1 rfl rfl <| Y_goto 12 dX5_sift_90 rfl <| X_le (xle_s (xle_s (xle_s (xle_n xle_0)))) k
theorem bX5_sift_93 {d : Nat} {g : xSt} {r : Option Value × xSt}  (k : r = (none, g)) : xX (d + 1) mX5_sift 93 [none, none, none, none] [] g = some r :=
  Y_ret dX5_sift_93 rfl k
theorem bX5_missesBy_0 {d : Nat} {g : xSt} {r : Option Value × xSt} {a1 : Int32} (W : xWf g) (k : xX (d + 1) mX5_missesBy 7 [some (.ref 69), some (.int a1), some (.int (xI g 69 8)), some (.int 0)] [] g = some r) : xX (d + 1) mX5_missesBy 0 [some (.ref 69), some (.int a1), none, none] [] g = some r :=
  Y_aload_n dX5_missesBy_0 rfl <| Y_getI dX5_missesBy_1 f_5_92 ft_5_8 (xis W 69 5 s_69 (Nat.le_of_ble_eq_true rfl)) <| Y_istore_n dX5_missesBy_4 rfl rfl <| Y_iconst 0 dX5_missesBy_5 ic_0 <| Y_istore_n dX5_missesBy_6 rfl rfl <| X_le (xle_s (xle_s (xle_s (xle_s xle_0)))) k
theorem bX5_missesBy_7 {d : Nat} {g : xSt} {r : Option Value × xSt} {a1 a2 a3 : Int32} (W : xWf g) (k1 : 30 ≤ a3 → xX (d + 1) mX5_missesBy 39 [none, none, some (.int a2), none] [] g = some r) (k2 : ¬ (30 ≤ a3) → xX (d + 1) mX5_missesBy 16 [some (.ref 69), some (.int a1), some (.int a2), some (.int a3)] [] g = some r) : xX (d + 1) mX5_missesBy 7 [some (.ref 69), some (.int a1), some (.int a2), some (.int a3)] [] g = some r :=
  Y_iload_n dX5_missesBy_7 rfl <| Y_aload_n dX5_missesBy_8 rfl <| Y_getR dX5_missesBy_9 f_5_21 (by rw [ft_5_9]; rfl) (xis W 69 5 s_69 (Nat.le_of_ble_eq_true rfl)) (xptr W 69 9 p_69_9) <| Y_alen 30 dX5_missesBy_12 (xarr W (o := 73) s_73 (Nat.le_of_ble_eq_true rfl)) on_30 rfl <| Y_ge 39 dX5_missesBy_13 rfl (fun q => X_le (xle_n (xle_n (xle_s (xle_n xle_0)))) (k1 q)) (fun q => X_le (xle_s (xle_s (xle_s (xle_s xle_0)))) (k2 q))
theorem bX5_missesBy_16 {d : Nat} {g : xSt} {r : Option Value × xSt} {a1 a2 a3 : Int32} (k1 : (xbit a1 a3) = 0 → xX (d + 1) mX5_missesBy 33 [some (.ref 69), some (.int a1), some (.int a2), some (.int a3)] [] g = some r) (k2 : ¬ ((xbit a1 a3) = 0) → xX (d + 1) mX5_missesBy 24 [some (.ref 69), some (.int a1), some (.int a2), some (.int a3)] [] g = some r) : xX (d + 1) mX5_missesBy 16 [some (.ref 69), some (.int a1), some (.int a2), some (.int a3)] [] g = some r :=
  Y_iload_n dX5_missesBy_16 rfl <| Y_iload_n dX5_missesBy_17 rfl <| Y_callS1 dX5_missesBy_18 cl_5_142 rfl rfl rfl rfl rfl (c_xbit) <| Y_eq0 33 dX5_missesBy_21 rfl (fun q => X_le (xle_s (xle_s (xle_s (xle_s xle_0)))) (k1 q)) (fun q => X_le (xle_s (xle_s (xle_s (xle_s xle_0)))) (k2 q))
theorem bX5_missesBy_24 {d : Nat} {g : xSt} {r : Option Value × xSt} {a1 a2 a3 : Int32} (W : xWf g) (hi30 : vp_in a3 30) (k : xX (d + 1) mX5_missesBy 33 [some (.ref 69), some (.int a1), some (.int (a2 - (xI g 73 a3.toNatClampNeg))), some (.int a3)] [] g = some r) : xX (d + 1) mX5_missesBy 24 [some (.ref 69), some (.int a1), some (.int a2), some (.int a3)] [] g = some r :=
  Y_iload_n dX5_missesBy_24 rfl <| Y_aload_n dX5_missesBy_25 rfl <| Y_getR dX5_missesBy_26 f_5_21 (by rw [ft_5_9]; rfl) (xis W 69 5 s_69 (Nat.le_of_ble_eq_true rfl)) (xptr W 69 9 p_69_9) <| Y_iload_n dX5_missesBy_29 rfl <| Y_iald dX5_missesBy_30 (xarr W (o := 73) s_73 (Nat.le_of_ble_eq_true rfl)) hi30 <| Y_isub dX5_missesBy_31 <| Y_istore_n dX5_missesBy_32 rfl rfl <| X_le (xle_s (xle_s (xle_s (xle_s xle_0)))) k
theorem bX5_missesBy_33 {d : Nat} {g : xSt} {r : Option Value × xSt} {a1 a2 a3 : Int32} (k : xX (d + 1) mX5_missesBy 7 [some (.ref 69), some (.int a1), some (.int a2), some (.int (a3 + 1))] [] g = some r) : xX (d + 1) mX5_missesBy 33 [some (.ref 69), some (.int a1), some (.int a2), some (.int a3)] [] g = some r :=
  Y_iinc 1 dX5_missesBy_33 rfl ic_1 rfl rfl <| Y_goto 7 dX5_missesBy_36 rfl <| X_le (xle_s (xle_s (xle_s (xle_s xle_0)))) k
theorem bX5_missesBy_39 {d : Nat} {g : xSt} {r : Option Value × xSt} {a2 : Int32} (k : r = (some (.int a2), g)) : xX (d + 1) mX5_missesBy 39 [none, none, some (.int a2), none] [] g = some r :=
  Y_iload_n dX5_missesBy_39 rfl <| Y_iret dX5_missesBy_40 rfl k
theorem bX5_leftAt_0 {d : Nat} {g : xSt} {r : Option Value × xSt} {a1 : Int32} (W : xWf g) (k : r = (some (.int (xat (xI g 72) 541 a1)), g)) : xX (d + 1) mX5_leftAt 0 [some (.ref 69), some (.int a1)] [] g = some r :=
  Y_aload_n dX5_leftAt_0 rfl <| Y_getR dX5_leftAt_1 f_5_18 (by rw [ft_5_4]; rfl) (xis W 69 5 s_69 (Nat.le_of_ble_eq_true rfl)) (xptr W 69 4 p_69_4) <| Y_iload_n dX5_leftAt_4 rfl <| Y_callS1 dX5_leftAt_5 cl_5_73 rfl rfl rfl rfl rfl (c_at (xarr W (o := 72) s_72 (Nat.le_of_ble_eq_true rfl))) <| Y_iret dX5_leftAt_8 rfl k
theorem bX5_placeOf_0 {d : Nat} {g : xSt} {r : Option Value × xSt} {a1 a2 : Int32} (W : xWf g) (k : r = (some (.int (((xat (xI g 70) 541 a1) >>> ((3 * a2) &&& 31)) &&& 7)), g)) : xX (d + 1) mX5_placeOf 0 [some (.ref 69), some (.int a1), some (.int a2)] [] g = some r :=
  Y_aload_n dX5_placeOf_0 rfl <| Y_getR dX5_placeOf_1 f_5_11 (by rw [ft_5_2]; rfl) (xis W 69 5 s_69 (Nat.le_of_ble_eq_true rfl)) (xptr W 69 2 p_69_2) <| Y_iload_n dX5_placeOf_4 rfl <| Y_callS1 dX5_placeOf_5 cl_5_73 rfl rfl rfl rfl rfl (c_at (xarr W (o := 70) s_70 (Nat.le_of_ble_eq_true rfl))) <| Y_iconst 3 dX5_placeOf_8 ic_3 <| Y_iload_n dX5_placeOf_9 rfl <| Y_imul dX5_placeOf_10 <| Y_ishr dX5_placeOf_11 <| Y_bipush 7 dX5_placeOf_12 bp_7 <| Y_iand dX5_placeOf_14 <| Y_iret dX5_placeOf_15 rfl k
theorem bX5_firstOfFewestMisses_0 {d : Nat} {g : xSt} {r : Option Value × xSt} {r4 : Int32} {g4 : xSt} (W : xWf g) (hk4 : xCallM d mX5_missesOf [.ref 69, .int 0] g = some (some (.int r4), g4)) (W4 : xWf g4) (k : xX (d + 1) mX5_firstOfFewestMisses 10 [some (.ref 69), some (.int 0), some (.int r4), some (.int 1), none] [] g4 = some r) : xX (d + 1) mX5_firstOfFewestMisses 0 [some (.ref 69), none, none, none, none] [] g = some r :=
  Y_iconst 0 dX5_firstOfFewestMisses_0 ic_0 <| Y_istore_n dX5_firstOfFewestMisses_1 rfl rfl <| Y_aload_n dX5_firstOfFewestMisses_2 rfl <| Y_iconst 0 dX5_firstOfFewestMisses_3 ic_0 <| Y_callV1 dX5_firstOfFewestMisses_4 cl_5_148 rfl rfl (xis W 69 5 s_69 (Nat.le_of_ble_eq_true rfl)) rfl rfl rfl (hk4) <| Y_istore_n dX5_firstOfFewestMisses_7 rfl rfl <| Y_iconst 1 dX5_firstOfFewestMisses_8 ic_1 <| Y_istore_n dX5_firstOfFewestMisses_9 rfl rfl <| X_le (xle_s (xle_s (xle_s (xle_s (xle_n xle_0))))) k
theorem bX5_firstOfFewestMisses_10 {d : Nat} {g : xSt} {r : Option Value × xSt} {a1 a2 a3 : Int32} (W : xWf g) (k1 : (xI g 69 1) ≤ a3 → xX (d + 1) mX5_firstOfFewestMisses 46 [none, some (.int a1), none, none, none] [] g = some r) (k2 : ¬ ((xI g 69 1) ≤ a3) → xX (d + 1) mX5_firstOfFewestMisses 18 [some (.ref 69), some (.int a1), some (.int a2), some (.int a3), none] [] g = some r) : xX (d + 1) mX5_firstOfFewestMisses 10 [some (.ref 69), some (.int a1), some (.int a2), some (.int a3), none] [] g = some r :=
  Y_iload_n dX5_firstOfFewestMisses_10 rfl <| Y_aload_n dX5_firstOfFewestMisses_11 rfl <| Y_getI dX5_firstOfFewestMisses_12 f_5_50 ft_5_1 (xis W 69 5 s_69 (Nat.le_of_ble_eq_true rfl)) <| Y_ge 46 dX5_firstOfFewestMisses_15 rfl (fun q => X_le (xle_n (xle_s (xle_n (xle_n (xle_n xle_0))))) (k1 q)) (fun q => X_le (xle_s (xle_s (xle_s (xle_s (xle_n xle_0))))) (k2 q))
theorem bX5_firstOfFewestMisses_18 {d : Nat} {g : xSt} {r : Option Value × xSt} {a1 a2 a3 : Int32} (k1 : a2 ≤ 0 → xX (d + 1) mX5_firstOfFewestMisses 46 [none, some (.int a1), none, none, none] [] g = some r) (k2 : ¬ (a2 ≤ 0) → xX (d + 1) mX5_firstOfFewestMisses 22 [some (.ref 69), some (.int a1), some (.int a2), some (.int a3), none] [] g = some r) : xX (d + 1) mX5_firstOfFewestMisses 18 [some (.ref 69), some (.int a1), some (.int a2), some (.int a3), none] [] g = some r :=
  Y_iload_n dX5_firstOfFewestMisses_18 rfl <| Y_le0 46 dX5_firstOfFewestMisses_19 rfl (fun q => X_le (xle_n (xle_s (xle_n (xle_n (xle_n xle_0))))) (k1 q)) (fun q => X_le (xle_s (xle_s (xle_s (xle_s (xle_n xle_0))))) (k2 q))
theorem bX5_firstOfFewestMisses_22 {d : Nat} {g : xSt} {r : Option Value × xSt} {a1 a2 a3 r24 : Int32} {g24 : xSt} (W : xWf g) (hk24 : xCallM d mX5_missesOf [.ref 69, .int a3] g = some (some (.int r24), g24)) (W24 : xWf g24) (k1 : a2 ≤ r24 → xX (d + 1) mX5_firstOfFewestMisses 40 [some (.ref 69), some (.int a1), some (.int a2), some (.int a3), none] [] g24 = some r) (k2 : ¬ (a2 ≤ r24) → xX (d + 1) mX5_firstOfFewestMisses 35 [some (.ref 69), none, none, some (.int a3), some (.int r24)] [] g24 = some r) : xX (d + 1) mX5_firstOfFewestMisses 22 [some (.ref 69), some (.int a1), some (.int a2), some (.int a3), none] [] g = some r :=
  Y_aload_n dX5_firstOfFewestMisses_22 rfl <| Y_iload_n dX5_firstOfFewestMisses_23 rfl <| Y_callV1 dX5_firstOfFewestMisses_24 cl_5_148 rfl rfl (xis W 69 5 s_69 (Nat.le_of_ble_eq_true rfl)) rfl rfl rfl (hk24) <| Y_istore dX5_firstOfFewestMisses_27 rfl rfl <| Y_iload dX5_firstOfFewestMisses_29 rfl <| Y_iload_n dX5_firstOfFewestMisses_31 rfl <| Y_ge 40 dX5_firstOfFewestMisses_32 rfl (fun q => X_le (xle_s (xle_s (xle_s (xle_s (xle_n xle_0))))) (k1 q)) (fun q => X_le (xle_s (xle_n (xle_n (xle_s (xle_s xle_0))))) (k2 q))
theorem bX5_firstOfFewestMisses_35 {d : Nat} {g : xSt} {r : Option Value × xSt} {a3 a4 : Int32} (k : xX (d + 1) mX5_firstOfFewestMisses 40 [some (.ref 69), some (.int a3), some (.int a4), some (.int a3), none] [] g = some r) : xX (d + 1) mX5_firstOfFewestMisses 35 [some (.ref 69), none, none, some (.int a3), some (.int a4)] [] g = some r :=
  Y_iload_n dX5_firstOfFewestMisses_35 rfl <| Y_istore_n dX5_firstOfFewestMisses_36 rfl rfl <| Y_iload dX5_firstOfFewestMisses_37 rfl <| Y_istore_n dX5_firstOfFewestMisses_39 rfl rfl <| X_le (xle_s (xle_s (xle_s (xle_s (xle_n xle_0))))) k
theorem bX5_firstOfFewestMisses_40 {d : Nat} {g : xSt} {r : Option Value × xSt} {a1 a2 a3 : Int32} (k : xX (d + 1) mX5_firstOfFewestMisses 10 [some (.ref 69), some (.int a1), some (.int a2), some (.int (a3 + 1)), none] [] g = some r) : xX (d + 1) mX5_firstOfFewestMisses 40 [some (.ref 69), some (.int a1), some (.int a2), some (.int a3), none] [] g = some r :=
  Y_iinc 1 dX5_firstOfFewestMisses_40 rfl ic_1 rfl rfl <| Y_goto 10 dX5_firstOfFewestMisses_43 rfl <| X_le (xle_s (xle_s (xle_s (xle_s (xle_n xle_0))))) k
theorem bX5_firstOfFewestMisses_46 {d : Nat} {g : xSt} {r : Option Value × xSt} {a1 : Int32} (k : r = (some (.int a1), g)) : xX (d + 1) mX5_firstOfFewestMisses 46 [none, some (.int a1), none, none, none] [] g = some r :=
  Y_iload_n dX5_firstOfFewestMisses_46 rfl <| Y_iret dX5_firstOfFewestMisses_47 rfl k
theorem bX5_missesOf_0 {d : Nat} {g : xSt} {r : Option Value × xSt} {a1 r3 r6 : Int32} {g3 g6 : xSt} (W : xWf g) (hk3 : xCallM d mX5_markOf [.ref 69, .int a1] g = some (some (.int r3), g3)) (W3 : xWf g3) (hk6 : xCallM d mX5_missesBy [.ref 69, .int r3] g3 = some (some (.int r6), g6)) (W6 : xWf g6) (k : r = (some (.int r6), g6)) : xX (d + 1) mX5_missesOf 0 [some (.ref 69), some (.int a1)] [] g = some r :=
  Y_aload_n dX5_missesOf_0 rfl <| Y_aload_n dX5_missesOf_1 rfl <| Y_iload_n dX5_missesOf_2 rfl <| Y_callV1 dX5_missesOf_3 cl_5_145 rfl rfl (xis W 69 5 s_69 (Nat.le_of_ble_eq_true rfl)) rfl rfl rfl (hk3) <| Y_callV1 dX5_missesOf_6 cl_5_130 rfl rfl (xis W3 69 5 s_69 (Nat.le_of_ble_eq_true rfl)) rfl rfl rfl (hk6) <| Y_iret dX5_missesOf_9 rfl k
theorem bX5_markOf_0 {d : Nat} {g : xSt} {r : Option Value × xSt} {a1 : Int32} (W : xWf g) (k : r = (some (.int (xat (xI g 71) 541 a1)), g)) : xX (d + 1) mX5_markOf 0 [some (.ref 69), some (.int a1)] [] g = some r :=
  Y_aload_n dX5_markOf_0 rfl <| Y_getR dX5_markOf_1 f_5_15 (by rw [ft_5_3]; rfl) (xis W 69 5 s_69 (Nat.le_of_ble_eq_true rfl)) (xptr W 69 3 p_69_3) <| Y_iload_n dX5_markOf_4 rfl <| Y_callS1 dX5_markOf_5 cl_5_73 rfl rfl rfl rfl rfl (c_at (xarr W (o := 71) s_71 (Nat.le_of_ble_eq_true rfl))) <| Y_iret dX5_markOf_8 rfl k
theorem bX5_know_0 {d : Nat} {g : xSt} {r : Option Value × xSt} {a2 : Int32} {g3 g8 : xSt} (W : xWf g) (hk3 : xCallM d mX5_heed [.ref 69, .ref 32, .int a2] g = some (none, g3)) (W3 : xWf g3) (hk8 : xCallM d mX5_sift [.ref 69, .int 0] g3 = some (none, g8)) (W8 : xWf g8) (k : r = (some (.int (xI g8 69 5)), g8)) : xX (d + 1) mX5_know 0 [some (.ref 69), some (.ref 32), some (.int a2)] [] g = some r :=
  Y_aload_n dX5_know_0 rfl <| Y_aload_n dX5_know_1 rfl <| Y_iload_n dX5_know_2 rfl <| Y_callV0 dX5_know_3 cl_5_134 rfl rfl (xis W 69 5 s_69 (Nat.le_of_ble_eq_true rfl)) rfl rfl rfl (hk3) <| Y_aload_n dX5_know_6 rfl <| Y_iconst 0 dX5_know_7 ic_0 <| Y_callV0 dX5_know_8 cl_5_138 rfl rfl (xis W3 69 5 s_69 (Nat.le_of_ble_eq_true rfl)) rfl rfl rfl (hk8) <| Y_aload_n dX5_know_11 rfl <| Y_getI dX5_know_12 f_5_124 ft_5_5 (xis W8 69 5 s_69 (Nat.le_of_ble_eq_true rfl)) <| Y_iret dX5_know_15 rfl k
theorem bX5_extremePlace_0 {d : Nat} {g : xSt} {r : Option Value × xSt} {a1 a2 r3 r7 : Int32} {g3 g7 : xSt} (W : xWf g) (hk3 : xCallM d mX5_leftAt [.ref 69, .int 0] g = some (some (.int r3), g3)) (W3 : xWf g3) (hk7 : xCallM d mX5_placeOf [.ref 69, .int r3, .int a1] g3 = some (some (.int r7), g7)) (W7 : xWf g7) (k : xX (d + 1) mX5_extremePlace 14 [some (.ref 69), some (.int a1), some (.int a2), some (.int r7), some (.int 1), none] [] g7 = some r) : xX (d + 1) mX5_extremePlace 0 [some (.ref 69), some (.int a1), some (.int a2), none, none, none] [] g = some r :=
  Y_aload_n dX5_extremePlace_0 rfl <| Y_aload_n dX5_extremePlace_1 rfl <| Y_iconst 0 dX5_extremePlace_2 ic_0 <| Y_callV1 dX5_extremePlace_3 cl_5_154 rfl rfl (xis W 69 5 s_69 (Nat.le_of_ble_eq_true rfl)) rfl rfl rfl (hk3) <| Y_iload_n dX5_extremePlace_6 rfl <| Y_callV1 dX5_extremePlace_7 cl_5_151 rfl rfl (xis W3 69 5 s_69 (Nat.le_of_ble_eq_true rfl)) rfl rfl rfl (hk7) <| Y_istore_n dX5_extremePlace_10 rfl rfl <| Y_iconst 1 dX5_extremePlace_11 ic_1 <| Y_istore dX5_extremePlace_12 rfl rfl <| X_le (xle_s (xle_s (xle_s (xle_s (xle_s (xle_n xle_0)))))) k
theorem bX5_extremePlace_14 {d : Nat} {g : xSt} {r : Option Value × xSt} {a1 a2 a3 a4 : Int32} (W : xWf g) (k1 : (xI g 69 5) ≤ a4 → xX (d + 1) mX5_extremePlace 62 [none, none, none, some (.int a3), none, none] [] g = some r) (k2 : ¬ ((xI g 69 5) ≤ a4) → xX (d + 1) mX5_extremePlace 23 [some (.ref 69), some (.int a1), some (.int a2), some (.int a3), some (.int a4), none] [] g = some r) : xX (d + 1) mX5_extremePlace 14 [some (.ref 69), some (.int a1), some (.int a2), some (.int a3), some (.int a4), none] [] g = some r :=
  Y_iload dX5_extremePlace_14 rfl <| Y_aload_n dX5_extremePlace_16 rfl <| Y_getI dX5_extremePlace_17 f_5_124 ft_5_5 (xis W 69 5 s_69 (Nat.le_of_ble_eq_true rfl)) <| Y_ge 62 dX5_extremePlace_20 rfl (fun q => X_le (xle_n (xle_n (xle_n (xle_s (xle_n (xle_n xle_0)))))) (k1 q)) (fun q => X_le (xle_s (xle_s (xle_s (xle_s (xle_s (xle_n xle_0)))))) (k2 q))
theorem bX5_extremePlace_23 {d : Nat} {g : xSt} {r : Option Value × xSt} {a1 a2 a3 a4 r27 r31 : Int32} {g27 g31 : xSt} (W : xWf g) (hk27 : xCallM d mX5_leftAt [.ref 69, .int a4] g = some (some (.int r27), g27)) (W27 : xWf g27) (hk31 : xCallM d mX5_placeOf [.ref 69, .int r27, .int a1] g27 = some (some (.int r31), g31)) (W31 : xWf g31) (k1 : a2 = 0 → xX (d + 1) mX5_extremePlace 49 [some (.ref 69), some (.int a1), some (.int a2), some (.int a3), some (.int a4), some (.int r31)] [] g31 = some r) (k2 : ¬ (a2 = 0) → xX (d + 1) mX5_extremePlace 40 [some (.ref 69), some (.int a1), some (.int a2), some (.int a3), some (.int a4), some (.int r31)] [] g31 = some r) : xX (d + 1) mX5_extremePlace 23 [some (.ref 69), some (.int a1), some (.int a2), some (.int a3), some (.int a4), none] [] g = some r :=
  Y_aload_n dX5_extremePlace_23 rfl <| Y_aload_n dX5_extremePlace_24 rfl <| Y_iload dX5_extremePlace_25 rfl <| Y_callV1 dX5_extremePlace_27 cl_5_154 rfl rfl (xis W 69 5 s_69 (Nat.le_of_ble_eq_true rfl)) rfl rfl rfl (hk27) <| Y_iload_n dX5_extremePlace_30 rfl <| Y_callV1 dX5_extremePlace_31 cl_5_151 rfl rfl (xis W27 69 5 s_69 (Nat.le_of_ble_eq_true rfl)) rfl rfl rfl (hk31) <| Y_istore dX5_extremePlace_34 rfl rfl <| Y_iload_n dX5_extremePlace_36 rfl <| Y_eq0 49 dX5_extremePlace_37 rfl (fun q => X_le (xle_s (xle_s (xle_s (xle_s (xle_s (xle_s xle_0)))))) (k1 q)) (fun q => X_le (xle_s (xle_s (xle_s (xle_s (xle_s (xle_s xle_0)))))) (k2 q))
theorem bX5_extremePlace_40 {d : Nat} {g : xSt} {r : Option Value × xSt} {a1 a2 a3 a4 a5 : Int32} (k : xX (d + 1) mX5_extremePlace 55 [some (.ref 69), some (.int a1), some (.int a2), none, some (.int a4), none] [.int (imax a3 a5)] g = some r) : xX (d + 1) mX5_extremePlace 40 [some (.ref 69), some (.int a1), some (.int a2), some (.int a3), some (.int a4), some (.int a5)] [] g = some r :=
  Y_iload_n dX5_extremePlace_40 rfl <| Y_iload dX5_extremePlace_41 rfl <| Y_max dX5_extremePlace_43 km_5_38 kn_5_38 rfl <| Y_goto 55 dX5_extremePlace_46 rfl <| X_le (xle_s (xle_s (xle_s (xle_n (xle_s (xle_n xle_0)))))) k
theorem bX5_extremePlace_49 {d : Nat} {g : xSt} {r : Option Value × xSt} {a1 a2 a3 a4 a5 : Int32} (k : xX (d + 1) mX5_extremePlace 55 [some (.ref 69), some (.int a1), some (.int a2), none, some (.int a4), none] [.int (imin a3 a5)] g = some r) : xX (d + 1) mX5_extremePlace 49 [some (.ref 69), some (.int a1), some (.int a2), some (.int a3), some (.int a4), some (.int a5)] [] g = some r :=
  Y_iload_n dX5_extremePlace_49 rfl <| Y_iload dX5_extremePlace_50 rfl <| Y_min dX5_extremePlace_52 km_5_32 kn_5_32 rfl <| X_le (xle_s (xle_s (xle_s (xle_n (xle_s (xle_n xle_0)))))) k
theorem bX5_extremePlace_55 {d : Nat} {g : xSt} {r : Option Value × xSt} {a1 a2 a4 s0 : Int32} (k : xX (d + 1) mX5_extremePlace 14 [some (.ref 69), some (.int a1), some (.int a2), some (.int s0), some (.int (a4 + 1)), none] [] g = some r) : xX (d + 1) mX5_extremePlace 55 [some (.ref 69), some (.int a1), some (.int a2), none, some (.int a4), none] [.int s0] g = some r :=
  Y_istore_n dX5_extremePlace_55 rfl rfl <| Y_iinc 1 dX5_extremePlace_56 rfl ic_1 rfl rfl <| Y_goto 14 dX5_extremePlace_59 rfl <| X_le (xle_s (xle_s (xle_s (xle_s (xle_s (xle_n xle_0)))))) k
theorem bX5_extremePlace_62 {d : Nat} {g : xSt} {r : Option Value × xSt} {a3 : Int32} (k : r = (some (.int a3), g)) : xX (d + 1) mX5_extremePlace 62 [none, none, none, some (.int a3), none, none] [] g = some r :=
  Y_iload_n dX5_extremePlace_62 rfl <| Y_iret dX5_extremePlace_63 rfl k
theorem bX5_standing_0 {d : Nat} {g : xSt} {r : Option Value × xSt} {a1 a2 : Int32} (k1 : a2 = 0 → xX (d + 1) mX5_standing 8 [some (.ref 69), some (.int a1), some (.int a2), none, none, none] [] g = some r) (k2 : ¬ (a2 = 0) → xX (d + 1) mX5_standing 4 [some (.ref 69), some (.int a1), some (.int a2), none, none, none] [] g = some r) : xX (d + 1) mX5_standing 0 [some (.ref 69), some (.int a1), some (.int a2), none, none, none] [] g = some r :=
  Y_iload_n dX5_standing_0 rfl <| Y_eq0 8 dX5_standing_1 rfl (fun q => X_le (xle_s (xle_s (xle_s (xle_n (xle_n (xle_n xle_0)))))) (k1 q)) (fun q => X_le (xle_s (xle_s (xle_s (xle_n (xle_n (xle_n xle_0)))))) (k2 q))
theorem bX5_standing_4 {d : Nat} {g : xSt} {r : Option Value × xSt} {a1 a2 : Int32} (k : xX (d + 1) mX5_standing 16 [some (.ref 69), some (.int a1), some (.int a2), none, none, none] [.int 0] g = some r) : xX (d + 1) mX5_standing 4 [some (.ref 69), some (.int a1), some (.int a2), none, none, none] [] g = some r :=
  Y_iconst 0 dX5_standing_4 ic_0 <| Y_goto 16 dX5_standing_5 rfl <| X_le (xle_s (xle_s (xle_s (xle_n (xle_n (xle_n xle_0)))))) k
theorem bX5_standing_8 {d : Nat} {g : xSt} {r : Option Value × xSt} {a1 a2 : Int32} (W : xWf g) (k : xX (d + 1) mX5_standing 16 [some (.ref 69), some (.int a1), some (.int a2), none, none, none] [.int ((1 <<< ((xI g 69 0) &&& 31)) - 1)] g = some r) : xX (d + 1) mX5_standing 8 [some (.ref 69), some (.int a1), some (.int a2), none, none, none] [] g = some r :=
  Y_iconst 1 dX5_standing_8 ic_1 <| Y_aload_n dX5_standing_9 rfl <| Y_getI dX5_standing_10 f_5_49 ft_5_0 (xis W 69 5 s_69 (Nat.le_of_ble_eq_true rfl)) <| Y_ishl dX5_standing_13 <| Y_iconst 1 dX5_standing_14 ic_1 <| Y_isub dX5_standing_15 <| X_le (xle_s (xle_s (xle_s (xle_n (xle_n (xle_n xle_0)))))) k
theorem bX5_standing_16 {d : Nat} {g : xSt} {r : Option Value × xSt} {a1 a2 s0 : Int32} (k : xX (d + 1) mX5_standing 20 [some (.ref 69), some (.int a1), some (.int a2), some (.int s0), some (.int 0), none] [] g = some r) : xX (d + 1) mX5_standing 16 [some (.ref 69), some (.int a1), some (.int a2), none, none, none] [.int s0] g = some r :=
  Y_istore_n dX5_standing_16 rfl rfl <| Y_iconst 0 dX5_standing_17 ic_0 <| Y_istore dX5_standing_18 rfl rfl <| X_le (xle_s (xle_s (xle_s (xle_s (xle_s (xle_n xle_0)))))) k
theorem bX5_standing_20 {d : Nat} {g : xSt} {r : Option Value × xSt} {a1 a2 a3 a4 : Int32} (W : xWf g) (k1 : (xI g 69 5) ≤ a4 → xX (d + 1) mX5_standing 65 [none, none, none, some (.int a3), none, none] [] g = some r) (k2 : ¬ ((xI g 69 5) ≤ a4) → xX (d + 1) mX5_standing 29 [some (.ref 69), some (.int a1), some (.int a2), some (.int a3), some (.int a4), none] [] g = some r) : xX (d + 1) mX5_standing 20 [some (.ref 69), some (.int a1), some (.int a2), some (.int a3), some (.int a4), none] [] g = some r :=
  Y_iload dX5_standing_20 rfl <| Y_aload_n dX5_standing_22 rfl <| Y_getI dX5_standing_23 f_5_124 ft_5_5 (xis W 69 5 s_69 (Nat.le_of_ble_eq_true rfl)) <| Y_ge 65 dX5_standing_26 rfl (fun q => X_le (xle_n (xle_n (xle_n (xle_s (xle_n (xle_n xle_0)))))) (k1 q)) (fun q => X_le (xle_s (xle_s (xle_s (xle_s (xle_s (xle_n xle_0)))))) (k2 q))
theorem bX5_standing_29 {d : Nat} {g : xSt} {r : Option Value × xSt} {a1 a2 a3 a4 r33 r38 : Int32} {g33 g38 : xSt} (W : xWf g) (hk33 : xCallM d mX5_leftAt [.ref 69, .int a4] g = some (some (.int r33), g33)) (W33 : xWf g33) (hk38 : xCallM d mX5_goalOf [.ref 69, .int r33, .int 1, .int a1] g33 = some (some (.int r38), g38)) (W38 : xWf g38) (k1 : a2 = 0 → xX (d + 1) mX5_standing 54 [some (.ref 69), some (.int a1), some (.int a2), some (.int a3), some (.int a4), some (.int r38)] [] g38 = some r) (k2 : ¬ (a2 = 0) → xX (d + 1) mX5_standing 47 [some (.ref 69), some (.int a1), some (.int a2), some (.int a3), some (.int a4), some (.int r38)] [] g38 = some r) : xX (d + 1) mX5_standing 29 [some (.ref 69), some (.int a1), some (.int a2), some (.int a3), some (.int a4), none] [] g = some r :=
  Y_aload_n dX5_standing_29 rfl <| Y_aload_n dX5_standing_30 rfl <| Y_iload dX5_standing_31 rfl <| Y_callV1 dX5_standing_33 cl_5_154 rfl rfl (xis W 69 5 s_69 (Nat.le_of_ble_eq_true rfl)) rfl rfl rfl (hk33) <| Y_iconst 1 dX5_standing_36 ic_1 <| Y_iload_n dX5_standing_37 rfl <| Y_callV1 dX5_standing_38 cl_5_157 rfl rfl (xis W33 69 5 s_69 (Nat.le_of_ble_eq_true rfl)) rfl rfl rfl (hk38) <| Y_istore dX5_standing_41 rfl rfl <| Y_iload_n dX5_standing_43 rfl <| Y_eq0 54 dX5_standing_44 rfl (fun q => X_le (xle_s (xle_s (xle_s (xle_s (xle_s (xle_s xle_0)))))) (k1 q)) (fun q => X_le (xle_s (xle_s (xle_s (xle_s (xle_s (xle_s xle_0)))))) (k2 q))
theorem bX5_standing_47 {d : Nat} {g : xSt} {r : Option Value × xSt} {a1 a2 a3 a4 a5 : Int32} (k : xX (d + 1) mX5_standing 58 [some (.ref 69), some (.int a1), some (.int a2), none, some (.int a4), none] [.int (a3 ||| a5)] g = some r) : xX (d + 1) mX5_standing 47 [some (.ref 69), some (.int a1), some (.int a2), some (.int a3), some (.int a4), some (.int a5)] [] g = some r :=
  Y_iload_n dX5_standing_47 rfl <| Y_iload dX5_standing_48 rfl <| Y_ior dX5_standing_50 <| Y_goto 58 dX5_standing_51 rfl <| X_le (xle_s (xle_s (xle_s (xle_n (xle_s (xle_n xle_0)))))) k
theorem bX5_standing_54 {d : Nat} {g : xSt} {r : Option Value × xSt} {a1 a2 a3 a4 a5 : Int32} (k : xX (d + 1) mX5_standing 58 [some (.ref 69), some (.int a1), some (.int a2), none, some (.int a4), none] [.int (a3 &&& a5)] g = some r) : xX (d + 1) mX5_standing 54 [some (.ref 69), some (.int a1), some (.int a2), some (.int a3), some (.int a4), some (.int a5)] [] g = some r :=
  Y_iload_n dX5_standing_54 rfl <| Y_iload dX5_standing_55 rfl <| Y_iand dX5_standing_57 <| X_le (xle_s (xle_s (xle_s (xle_n (xle_s (xle_n xle_0)))))) k
theorem bX5_standing_58 {d : Nat} {g : xSt} {r : Option Value × xSt} {a1 a2 a4 s0 : Int32} (k : xX (d + 1) mX5_standing 20 [some (.ref 69), some (.int a1), some (.int a2), some (.int s0), some (.int (a4 + 1)), none] [] g = some r) : xX (d + 1) mX5_standing 58 [some (.ref 69), some (.int a1), some (.int a2), none, some (.int a4), none] [.int s0] g = some r :=
  Y_istore_n dX5_standing_58 rfl rfl <| Y_iinc 1 dX5_standing_59 rfl ic_1 rfl rfl <| Y_goto 20 dX5_standing_62 rfl <| X_le (xle_s (xle_s (xle_s (xle_s (xle_s (xle_n xle_0)))))) k
theorem bX5_standing_65 {d : Nat} {g : xSt} {r : Option Value × xSt} {a3 : Int32} (k : r = (some (.int a3), g)) : xX (d + 1) mX5_standing 65 [none, none, none, some (.int a3), none, none] [] g = some r :=
  Y_iload_n dX5_standing_65 rfl <| Y_iret dX5_standing_66 rfl k
theorem bX5_goalOf_0 {d : Nat} {g : xSt} {r : Option Value × xSt} {a1 a2 a3 : Int32} (k1 : a2 = 2 → xX (d + 1) mX5_goalOf 5 [some (.ref 69), some (.int a1), none, some (.int a3), none, none, none] [] g = some r) (k2 : ¬ (a2 = 2) → xX (d + 1) mX5_goalOf 12 [some (.ref 69), some (.int a1), some (.int a2), some (.int a3), none, none, none] [] g = some r) : xX (d + 1) mX5_goalOf 0 [some (.ref 69), some (.int a1), some (.int a2), some (.int a3), none, none, none] [] g = some r :=
  Y_iload_n dX5_goalOf_0 rfl <| Y_iconst 2 dX5_goalOf_1 ic_2 <| Y_ne 12 dX5_goalOf_2 rfl (fun q => X_le (xle_s (xle_s (xle_n (xle_s (xle_n (xle_n (xle_n xle_0))))))) (k1 q)) (fun q => X_le (xle_s (xle_s (xle_s (xle_s (xle_n (xle_n (xle_n xle_0))))))) (k2 q))
theorem bX5_goalOf_5 {d : Nat} {g : xSt} {r : Option Value × xSt} {a1 a3 r8 : Int32} {g8 : xSt} (W : xWf g) (hk8 : xCallM d mX5_placeOf [.ref 69, .int a1, .int a3] g = some (some (.int r8), g8)) (W8 : xWf g8) (k : r = (some (.int r8), g8)) : xX (d + 1) mX5_goalOf 5 [some (.ref 69), some (.int a1), none, some (.int a3), none, none, none] [] g = some r :=
  Y_aload_n dX5_goalOf_5 rfl <| Y_iload_n dX5_goalOf_6 rfl <| Y_iload_n dX5_goalOf_7 rfl <| Y_callV1 dX5_goalOf_8 cl_5_151 rfl rfl (xis W 69 5 s_69 (Nat.le_of_ble_eq_true rfl)) rfl rfl rfl (hk8) <| Y_iret dX5_goalOf_11 rfl k
theorem bX5_goalOf_12 {d : Nat} {g : xSt} {r : Option Value × xSt} {a1 a2 a3 : Int32} (k : xX (d + 1) mX5_goalOf 18 [some (.ref 69), some (.int a1), some (.int a2), some (.int a3), some (.int 0), some (.int 0), none] [] g = some r) : xX (d + 1) mX5_goalOf 12 [some (.ref 69), some (.int a1), some (.int a2), some (.int a3), none, none, none] [] g = some r :=
  Y_iconst 0 dX5_goalOf_12 ic_0 <| Y_istore dX5_goalOf_13 rfl rfl <| Y_iconst 0 dX5_goalOf_15 ic_0 <| Y_istore dX5_goalOf_16 rfl rfl <| X_le (xle_s (xle_s (xle_s (xle_s (xle_s (xle_s (xle_n xle_0))))))) k
theorem bX5_goalOf_18 {d : Nat} {g : xSt} {r : Option Value × xSt} {a1 a2 a3 a4 a5 : Int32} (W : xWf g) (k1 : (xI g 69 0) ≤ a5 → xX (d + 1) mX5_goalOf 74 [none, none, none, none, some (.int a4), none, none] [] g = some r) (k2 : ¬ ((xI g 69 0) ≤ a5) → xX (d + 1) mX5_goalOf 27 [some (.ref 69), some (.int a1), some (.int a2), some (.int a3), some (.int a4), some (.int a5), none] [] g = some r) : xX (d + 1) mX5_goalOf 18 [some (.ref 69), some (.int a1), some (.int a2), some (.int a3), some (.int a4), some (.int a5), none] [] g = some r :=
  Y_iload dX5_goalOf_18 rfl <| Y_aload_n dX5_goalOf_20 rfl <| Y_getI dX5_goalOf_21 f_5_49 ft_5_0 (xis W 69 5 s_69 (Nat.le_of_ble_eq_true rfl)) <| Y_ge 74 dX5_goalOf_24 rfl (fun q => X_le (xle_n (xle_n (xle_n (xle_n (xle_s (xle_n (xle_n xle_0))))))) (k1 q)) (fun q => X_le (xle_s (xle_s (xle_s (xle_s (xle_s (xle_s (xle_n xle_0))))))) (k2 q))
theorem bX5_goalOf_27 {d : Nat} {g : xSt} {r : Option Value × xSt} {a1 a2 a3 a4 a5 r31 : Int32} {g31 : xSt} (W : xWf g) (hk31 : xCallM d mX5_placeOf [.ref 69, .int a1, .int a5] g = some (some (.int r31), g31)) (W31 : xWf g31) (k1 : a2 = 0 → xX (d + 1) mX5_goalOf 40 [some (.ref 69), some (.int a1), some (.int a2), some (.int a3), some (.int a4), some (.int a5), some (.int r31)] [] g31 = some r) (k2 : ¬ (a2 = 0) → xX (d + 1) mX5_goalOf 53 [some (.ref 69), some (.int a1), some (.int a2), some (.int a3), some (.int a4), some (.int a5), some (.int r31)] [] g31 = some r) : xX (d + 1) mX5_goalOf 27 [some (.ref 69), some (.int a1), some (.int a2), some (.int a3), some (.int a4), some (.int a5), none] [] g = some r :=
  Y_aload_n dX5_goalOf_27 rfl <| Y_iload_n dX5_goalOf_28 rfl <| Y_iload dX5_goalOf_29 rfl <| Y_callV1 dX5_goalOf_31 cl_5_151 rfl rfl (xis W 69 5 s_69 (Nat.le_of_ble_eq_true rfl)) rfl rfl rfl (hk31) <| Y_istore dX5_goalOf_34 rfl rfl <| Y_iload_n dX5_goalOf_36 rfl <| Y_ne0 53 dX5_goalOf_37 rfl (fun q => X_le (xle_s (xle_s (xle_s (xle_s (xle_s (xle_s (xle_s xle_0))))))) (k1 q)) (fun q => X_le (xle_s (xle_s (xle_s (xle_s (xle_s (xle_s (xle_s xle_0))))))) (k2 q))
theorem bX5_goalOf_40 {d : Nat} {g : xSt} {r : Option Value × xSt} {a1 a2 a3 a4 a5 a6 : Int32} (k : xX (d + 1) mX5_goalOf 68 [some (.ref 69), some (.int a1), some (.int a2), some (.int a3), some (.int ((10 * a4) + a6)), some (.int a5), none] [] g = some r) : xX (d + 1) mX5_goalOf 40 [some (.ref 69), some (.int a1), some (.int a2), some (.int a3), some (.int a4), some (.int a5), some (.int a6)] [] g = some r :=
  Y_bipush 10 dX5_goalOf_40 bp_10 <| Y_iload dX5_goalOf_42 rfl <| Y_imul dX5_goalOf_44 <| Y_iload dX5_goalOf_45 rfl <| Y_iadd dX5_goalOf_47 <| Y_istore dX5_goalOf_48 rfl rfl <| Y_goto 68 dX5_goalOf_50 rfl <| X_le (xle_s (xle_s (xle_s (xle_s (xle_s (xle_s (xle_n xle_0))))))) k
theorem bX5_goalOf_53 {d : Nat} {g : xSt} {r : Option Value × xSt} {a1 a2 a3 a4 a5 a6 : Int32} (k1 : a6 = a3 → xX (d + 1) mX5_goalOf 59 [some (.ref 69), some (.int a1), some (.int a2), some (.int a3), some (.int a4), some (.int a5), none] [] g = some r) (k2 : ¬ (a6 = a3) → xX (d + 1) mX5_goalOf 68 [some (.ref 69), some (.int a1), some (.int a2), some (.int a3), some (.int a4), some (.int a5), none] [] g = some r) : xX (d + 1) mX5_goalOf 53 [some (.ref 69), some (.int a1), some (.int a2), some (.int a3), some (.int a4), some (.int a5), some (.int a6)] [] g = some r :=
  Y_iload dX5_goalOf_53 rfl <| Y_iload_n dX5_goalOf_55 rfl <| Y_ne 68 dX5_goalOf_56 rfl (fun q => X_le (xle_s (xle_s (xle_s (xle_s (xle_s (xle_s (xle_n xle_0))))))) (k1 q)) (fun q => X_le (xle_s (xle_s (xle_s (xle_s (xle_s (xle_s (xle_n xle_0))))))) (k2 q))
theorem bX5_goalOf_59 {d : Nat} {g : xSt} {r : Option Value × xSt} {a1 a2 a3 a4 a5 : Int32} (k : xX (d + 1) mX5_goalOf 68 [some (.ref 69), some (.int a1), some (.int a2), some (.int a3), some (.int (a4 ||| (1 <<< (a5 &&& 31)))), some (.int a5), none] [] g = some r) : xX (d + 1) mX5_goalOf 59 [some (.ref 69), some (.int a1), some (.int a2), some (.int a3), some (.int a4), some (.int a5), none] [] g = some r :=
  Y_iload dX5_goalOf_59 rfl <| Y_iconst 1 dX5_goalOf_61 ic_1 <| Y_iload dX5_goalOf_62 rfl <| Y_ishl dX5_goalOf_64 <| Y_ior dX5_goalOf_65 <| Y_istore dX5_goalOf_66 rfl rfl <| X_le (xle_s (xle_s (xle_s (xle_s (xle_s (xle_s (xle_n xle_0))))))) k
theorem bX5_goalOf_68 {d : Nat} {g : xSt} {r : Option Value × xSt} {a1 a2 a3 a4 a5 : Int32} (k : xX (d + 1) mX5_goalOf 18 [some (.ref 69), some (.int a1), some (.int a2), some (.int a3), some (.int a4), some (.int (a5 + 1)), none] [] g = some r) : xX (d + 1) mX5_goalOf 68 [some (.ref 69), some (.int a1), some (.int a2), some (.int a3), some (.int a4), some (.int a5), none] [] g = some r :=
  Y_iinc 1 dX5_goalOf_68 rfl ic_1 rfl rfl <| Y_goto 18 dX5_goalOf_71 rfl <| X_le (xle_s (xle_s (xle_s (xle_s (xle_s (xle_s (xle_n xle_0))))))) k
theorem bX5_goalOf_74 {d : Nat} {g : xSt} {r : Option Value × xSt} {a4 : Int32} (k : r = (some (.int a4), g)) : xX (d + 1) mX5_goalOf 74 [none, none, none, none, some (.int a4), none, none] [] g = some r :=
  Y_iload dX5_goalOf_74 rfl <| Y_iret dX5_goalOf_76 rfl k
theorem bX5_isSure_0 {d : Nat} {g : xSt} {r : Option Value × xSt} {a1 a2 a3 : Int32} (k1 : a1 = a2 → xX (d + 1) mX5_isSure 29 [none, none, none, none] [] g = some r) (k2 : ¬ (a1 = a2) → xX (d + 1) mX5_isSure 5 [some (.ref 69), some (.int a1), some (.int a2), some (.int a3)] [] g = some r) : xX (d + 1) mX5_isSure 0 [some (.ref 69), some (.int a1), some (.int a2), some (.int a3)] [] g = some r :=
  Y_iload_n dX5_isSure_0 rfl <| Y_iload_n dX5_isSure_1 rfl <| Y_eq 29 dX5_isSure_2 rfl (fun q => X_le (xle_n (xle_n (xle_n (xle_n xle_0)))) (k1 q)) (fun q => X_le (xle_s (xle_s (xle_s (xle_s xle_0)))) (k2 q))
theorem bX5_isSure_5 {d : Nat} {g : xSt} {r : Option Value × xSt} {a1 a2 a3 r16 : Int32} {g16 : xSt} (W : xWf g) (hk16 : xCallM d mX5_bitOf [.int (xI g 69 0), .int a1, .int a2, .int a3] g = some (some (.int r16), g16)) (W16 : xWf g16) (k1 : (xbit (xI g 69 6) r16) = 0 → xX (d + 1) mX5_isSure 29 [none, none, none, none] [] g16 = some r) (k2 : ¬ ((xbit (xI g 69 6) r16) = 0) → xX (d + 1) mX5_isSure 25 [none, none, none, none] [] g16 = some r) : xX (d + 1) mX5_isSure 5 [some (.ref 69), some (.int a1), some (.int a2), some (.int a3)] [] g = some r :=
  Y_aload_n dX5_isSure_5 rfl <| Y_getI dX5_isSure_6 f_5_127 ft_5_6 (xis W 69 5 s_69 (Nat.le_of_ble_eq_true rfl)) <| Y_aload_n dX5_isSure_9 rfl <| Y_getI dX5_isSure_10 f_5_49 ft_5_0 (xis W 69 5 s_69 (Nat.le_of_ble_eq_true rfl)) <| Y_iload_n dX5_isSure_13 rfl <| Y_iload_n dX5_isSure_14 rfl <| Y_iload_n dX5_isSure_15 rfl <| Y_callS1 dX5_isSure_16 cl_5_81 rfl rfl rfl rfl rfl (hk16) <| Y_callS1 dX5_isSure_19 cl_5_142 rfl rfl rfl rfl rfl (c_xbit) <| Y_eq0 29 dX5_isSure_22 rfl (fun q => X_le (xle_n (xle_n (xle_n (xle_n xle_0)))) (k1 q)) (fun q => X_le (xle_n (xle_n (xle_n (xle_n xle_0)))) (k2 q))
theorem bX5_isSure_25 {d : Nat} {g : xSt} {r : Option Value × xSt}  (k : xX (d + 1) mX5_isSure 30 [none, none, none, none] [.int 1] g = some r) : xX (d + 1) mX5_isSure 25 [none, none, none, none] [] g = some r :=
  Y_iconst 1 dX5_isSure_25 ic_1 <| Y_goto 30 dX5_isSure_26 rfl <| X_le (xle_n (xle_n (xle_n (xle_n xle_0)))) k
theorem bX5_isSure_29 {d : Nat} {g : xSt} {r : Option Value × xSt}  (k : xX (d + 1) mX5_isSure 30 [none, none, none, none] [.int 0] g = some r) : xX (d + 1) mX5_isSure 29 [none, none, none, none] [] g = some r :=
  Y_iconst 0 dX5_isSure_29 ic_0 <| X_le (xle_n (xle_n (xle_n (xle_n xle_0)))) k
theorem bX5_isSure_30 {d : Nat} {g : xSt} {r : Option Value × xSt} {s0 : Int32} (hz30 : s0 = 0 ∨ s0 = 1) (k : r = (some (.int s0), g)) : xX (d + 1) mX5_isSure 30 [none, none, none, none] [.int s0] g = some r :=
  Y_zret dX5_isSure_30 rfl (hz30) k
theorem bX5_answer_0 {d : Nat} {g : xSt} {r : Option Value × xSt} {a1 a2 a3 : Int32} (k1 : a1 = 0 → xX (d + 1) mX5_answer 4 [some (.ref 69), none, none, some (.int a3), none, none, none] [] g = some r) (k2 : ¬ (a1 = 0) → xX (d + 1) mX5_answer 36 [some (.ref 69), some (.int a1), some (.int a2), some (.int a3), none, none, none] [] g = some r) : xX (d + 1) mX5_answer 0 [some (.ref 69), some (.int a1), some (.int a2), some (.int a3), none, none, none] [] g = some r :=
  Y_iload_n dX5_answer_0 rfl <| Y_ne0 36 dX5_answer_1 rfl (fun q => X_le (xle_s (xle_n (xle_n (xle_s (xle_n (xle_n (xle_n xle_0))))))) (k1 q)) (fun q => X_le (xle_s (xle_s (xle_s (xle_s (xle_n (xle_n (xle_n xle_0))))))) (k2 q))
theorem bX5_answer_4 {d : Nat} {g : xSt} {r : Option Value × xSt} {a3 : Int32} (k1 : a3 = 0 → xX (d + 1) mX5_answer 8 [some (.ref 69), none, none, none, none, none, none] [] g = some r) (k2 : ¬ (a3 = 0) → xX (d + 1) mX5_answer 15 [some (.ref 69), none, none, some (.int a3), none, none, none] [] g = some r) : xX (d + 1) mX5_answer 4 [some (.ref 69), none, none, some (.int a3), none, none, none] [] g = some r :=
  Y_iload_n dX5_answer_4 rfl <| Y_ne0 15 dX5_answer_5 rfl (fun q => X_le (xle_s (xle_n (xle_n (xle_n (xle_n (xle_n (xle_n xle_0))))))) (k1 q)) (fun q => X_le (xle_s (xle_n (xle_n (xle_s (xle_n (xle_n (xle_n xle_0))))))) (k2 q))
theorem bX5_answer_8 {d : Nat} {g : xSt} {r : Option Value × xSt}  (W : xWf g) (k : xX (d + 1) mX5_answer 35 [none, none, none, none, none, none, none] [.int (xI g 69 5)] g = some r) : xX (d + 1) mX5_answer 8 [some (.ref 69), none, none, none, none, none, none] [] g = some r :=
  Y_aload_n dX5_answer_8 rfl <| Y_getI dX5_answer_9 f_5_124 ft_5_5 (xis W 69 5 s_69 (Nat.le_of_ble_eq_true rfl)) <| Y_goto 35 dX5_answer_12 rfl <| X_le (xle_n (xle_n (xle_n (xle_n (xle_n (xle_n (xle_n xle_0))))))) k
theorem bX5_answer_15 {d : Nat} {g : xSt} {r : Option Value × xSt} {a3 : Int32} (k1 : a3 = 1 → xX (d + 1) mX5_answer 20 [none, none, none, none, none, none, none] [] g = some r) (k2 : ¬ (a3 = 1) → xX (d + 1) mX5_answer 24 [some (.ref 69), none, none, none, none, none, none] [] g = some r) : xX (d + 1) mX5_answer 15 [some (.ref 69), none, none, some (.int a3), none, none, none] [] g = some r :=
  Y_iload_n dX5_answer_15 rfl <| Y_iconst 1 dX5_answer_16 ic_1 <| Y_ne 24 dX5_answer_17 rfl (fun q => X_le (xle_n (xle_n (xle_n (xle_n (xle_n (xle_n (xle_n xle_0))))))) (k1 q)) (fun q => X_le (xle_s (xle_n (xle_n (xle_n (xle_n (xle_n (xle_n xle_0))))))) (k2 q))
theorem bX5_answer_20 {d : Nat} {g : xSt} {r : Option Value × xSt}  (k : xX (d + 1) mX5_answer 35 [none, none, none, none, none, none, none] [.int 1] g = some r) : xX (d + 1) mX5_answer 20 [none, none, none, none, none, none, none] [] g = some r :=
  Y_iconst 1 dX5_answer_20 ic_1 <| Y_goto 35 dX5_answer_21 rfl <| X_le (xle_n (xle_n (xle_n (xle_n (xle_n (xle_n (xle_n xle_0))))))) k
theorem bX5_answer_24 {d : Nat} {g : xSt} {r : Option Value × xSt} {r27 r32 : Int32} {g27 g32 : xSt} (W : xWf g) (hk27 : xCallM d mX5_leftAt [.ref 69, .int 0] g = some (some (.int r27), g27)) (W27 : xWf g27) (hk32 : xCallM d mX5_goalOf [.ref 69, .int r27, .int 0, .int 0] g27 = some (some (.int r32), g32)) (W32 : xWf g32) (k : xX (d + 1) mX5_answer 35 [none, none, none, none, none, none, none] [.int r32] g32 = some r) : xX (d + 1) mX5_answer 24 [some (.ref 69), none, none, none, none, none, none] [] g = some r :=
  Y_aload_n dX5_answer_24 rfl <| Y_aload_n dX5_answer_25 rfl <| Y_iconst 0 dX5_answer_26 ic_0 <| Y_callV1 dX5_answer_27 cl_5_154 rfl rfl (xis W 69 5 s_69 (Nat.le_of_ble_eq_true rfl)) rfl rfl rfl (hk27) <| Y_iconst 0 dX5_answer_30 ic_0 <| Y_iconst 0 dX5_answer_31 ic_0 <| Y_callV1 dX5_answer_32 cl_5_157 rfl rfl (xis W27 69 5 s_69 (Nat.le_of_ble_eq_true rfl)) rfl rfl rfl (hk32) <| X_le (xle_n (xle_n (xle_n (xle_n (xle_n (xle_n (xle_n xle_0))))))) k
theorem bX5_answer_35 {d : Nat} {g : xSt} {r : Option Value × xSt} {s0 : Int32} (k : r = (some (.int s0), g)) : xX (d + 1) mX5_answer 35 [none, none, none, none, none, none, none] [.int s0] g = some r :=
  Y_iret dX5_answer_35 rfl k
theorem bX5_answer_36 {d : Nat} {g : xSt} {r : Option Value × xSt} {a1 a2 a3 : Int32} {g41 : xSt} (W : xWf g) (hk41 : xCallM d mX7_fill [.ref 74, .int 0] g = some (none, g41)) (W41 : xWf g41) (k : xX (d + 1) mX5_answer 47 [some (.ref 69), some (.int a1), some (.int a2), some (.int a3), some (.int 0), none, none] [] g41 = some r) : xX (d + 1) mX5_answer 36 [some (.ref 69), some (.int a1), some (.int a2), some (.int a3), none, none, none] [] g = some r :=
  Y_aload_n dX5_answer_36 rfl <| Y_getR dX5_answer_37 f_5_24 (by rw [ft_5_10]; rfl) (xis W 69 5 s_69 (Nat.le_of_ble_eq_true rfl)) (xptr W 69 10 p_69_10) <| Y_iconst 0 dX5_answer_40 ic_0 <| Y_callS0 dX5_answer_41 cl_5_85 rfl rfl rfl rfl rfl (hk41) <| Y_iconst 0 dX5_answer_44 ic_0 <| Y_istore dX5_answer_45 rfl rfl <| X_le (xle_s (xle_s (xle_s (xle_s (xle_s (xle_n (xle_n xle_0))))))) k
theorem bX5_answer_47 {d : Nat} {g : xSt} {r : Option Value × xSt} {a1 a2 a3 a4 : Int32} (W : xWf g) (k1 : (xI g 69 5) ≤ a4 → xX (d + 1) mX5_answer 82 [some (.ref 69), none, none, some (.int a3), none, none, none] [] g = some r) (k2 : ¬ ((xI g 69 5) ≤ a4) → xX (d + 1) mX5_answer 56 [some (.ref 69), some (.int a1), some (.int a2), some (.int a3), some (.int a4), none, none] [] g = some r) : xX (d + 1) mX5_answer 47 [some (.ref 69), some (.int a1), some (.int a2), some (.int a3), some (.int a4), none, none] [] g = some r :=
  Y_iload dX5_answer_47 rfl <| Y_aload_n dX5_answer_49 rfl <| Y_getI dX5_answer_50 f_5_124 ft_5_5 (xis W 69 5 s_69 (Nat.le_of_ble_eq_true rfl)) <| Y_ge 82 dX5_answer_53 rfl (fun q => X_le (xle_s (xle_n (xle_n (xle_s (xle_n (xle_n (xle_n xle_0))))))) (k1 q)) (fun q => X_le (xle_s (xle_s (xle_s (xle_s (xle_s (xle_n (xle_n xle_0))))))) (k2 q))
theorem bX5_answer_56 {d : Nat} {g : xSt} {r : Option Value × xSt} {a1 a2 a3 a4 r64 r69 : Int32} {g64 g69 : xSt} (W : xWf g) (hk64 : xCallM d mX5_leftAt [.ref 69, .int a4] g = some (some (.int r64), g64)) (W64 : xWf g64) (hk69 : xCallM d mX5_goalOf [.ref 69, .int r64, .int a1, .int a2] g64 = some (some (.int r69), g69)) (W69 : xWf g69) (k : xX (d + 1) mX5_answer 47 [some (.ref 69), some (.int a1), some (.int a2), some (.int a3), some (.int (a4 + 1)), none, none] [] (xadd g69 74 32 r69 1) = some r) : xX (d + 1) mX5_answer 56 [some (.ref 69), some (.int a1), some (.int a2), some (.int a3), some (.int a4), none, none] [] g = some r :=
  Y_aload_n dX5_answer_56 rfl <| Y_getR dX5_answer_57 f_5_24 (by rw [ft_5_10]; rfl) (xis W 69 5 s_69 (Nat.le_of_ble_eq_true rfl)) (xptr W 69 10 p_69_10) <| Y_aload_n dX5_answer_60 rfl <| Y_aload_n dX5_answer_61 rfl <| Y_iload dX5_answer_62 rfl <| Y_callV1 dX5_answer_64 cl_5_154 rfl rfl (xis W 69 5 s_69 (Nat.le_of_ble_eq_true rfl)) rfl rfl rfl (hk64) <| Y_iload_n dX5_answer_67 rfl <| Y_iload_n dX5_answer_68 rfl <| Y_callV1 dX5_answer_69 cl_5_157 rfl rfl (xis W64 69 5 s_69 (Nat.le_of_ble_eq_true rfl)) rfl rfl rfl (hk69) <| Y_iconst 1 dX5_answer_72 ic_1 <| Y_callS0 dX5_answer_73 cl_5_121 rfl rfl rfl rfl rfl (c_add (xarr W69 (o := 74) s_74 (Nat.le_of_ble_eq_true rfl))) <| Y_iinc 1 dX5_answer_76 rfl ic_1 rfl rfl <| Y_goto 47 dX5_answer_79 rfl <| X_le (xle_s (xle_s (xle_s (xle_s (xle_s (xle_n (xle_n xle_0))))))) k
theorem bX5_answer_82 {d : Nat} {g : xSt} {r : Option Value × xSt} {a3 : Int32} (k : xX (d + 1) mX5_answer 91 [some (.ref 69), none, none, some (.int a3), some (.int 0), some (.int 0), some (.int 0)] [] g = some r) : xX (d + 1) mX5_answer 82 [some (.ref 69), none, none, some (.int a3), none, none, none] [] g = some r :=
  Y_iconst 0 dX5_answer_82 ic_0 <| Y_istore dX5_answer_83 rfl rfl <| Y_iconst 0 dX5_answer_85 ic_0 <| Y_istore dX5_answer_86 rfl rfl <| Y_iconst 0 dX5_answer_88 ic_0 <| Y_istore dX5_answer_89 rfl rfl <| X_le (xle_s (xle_n (xle_n (xle_s (xle_s (xle_s (xle_s xle_0))))))) k
theorem bX5_answer_91 {d : Nat} {g : xSt} {r : Option Value × xSt} {a3 a4 a5 a6 : Int32} (W : xWf g) (k1 : 32 ≤ a6 → xX (d + 1) mX5_answer 155 [some (.ref 69), none, none, some (.int a3), some (.int a4), some (.int a5), none] [] g = some r) (k2 : ¬ (32 ≤ a6) → xX (d + 1) mX5_answer 101 [some (.ref 69), none, none, some (.int a3), some (.int a4), some (.int a5), some (.int a6)] [] g = some r) : xX (d + 1) mX5_answer 91 [some (.ref 69), none, none, some (.int a3), some (.int a4), some (.int a5), some (.int a6)] [] g = some r :=
  Y_iload dX5_answer_91 rfl <| Y_aload_n dX5_answer_93 rfl <| Y_getR dX5_answer_94 f_5_24 (by rw [ft_5_10]; rfl) (xis W 69 5 s_69 (Nat.le_of_ble_eq_true rfl)) (xptr W 69 10 p_69_10) <| Y_alen 32 dX5_answer_97 (xarr W (o := 74) s_74 (Nat.le_of_ble_eq_true rfl)) on_32 rfl <| Y_ge 155 dX5_answer_98 rfl (fun q => X_le (xle_s (xle_n (xle_n (xle_s (xle_s (xle_s (xle_n xle_0))))))) (k1 q)) (fun q => X_le (xle_s (xle_n (xle_n (xle_s (xle_s (xle_s (xle_s xle_0))))))) (k2 q))
theorem bX5_answer_101 {d : Nat} {g : xSt} {r : Option Value × xSt} {a3 a4 a5 a6 : Int32} (W : xWf g) (hi109 : vp_in a6 32) (k1 : (xI g 74 a6.toNatClampNeg) ≤ 0 → xX (d + 1) mX5_answer 117 [some (.ref 69), none, none, some (.int a3), none, some (.int a5), some (.int a6)] [.int a4] g = some r) (k2 : ¬ ((xI g 74 a6.toNatClampNeg) ≤ 0) → xX (d + 1) mX5_answer 113 [some (.ref 69), none, none, some (.int a3), none, some (.int a5), some (.int a6)] [.int a4] g = some r) : xX (d + 1) mX5_answer 101 [some (.ref 69), none, none, some (.int a3), some (.int a4), some (.int a5), some (.int a6)] [] g = some r :=
  Y_iload dX5_answer_101 rfl <| Y_aload_n dX5_answer_103 rfl <| Y_getR dX5_answer_104 f_5_24 (by rw [ft_5_10]; rfl) (xis W 69 5 s_69 (Nat.le_of_ble_eq_true rfl)) (xptr W 69 10 p_69_10) <| Y_iload dX5_answer_107 rfl <| Y_iald dX5_answer_109 (xarr W (o := 74) s_74 (Nat.le_of_ble_eq_true rfl)) hi109 <| Y_le0 117 dX5_answer_110 rfl (fun q => X_le (xle_s (xle_n (xle_n (xle_s (xle_n (xle_s (xle_s xle_0))))))) (k1 q)) (fun q => X_le (xle_s (xle_n (xle_n (xle_s (xle_n (xle_s (xle_s xle_0))))))) (k2 q))
theorem bX5_answer_113 {d : Nat} {g : xSt} {r : Option Value × xSt} {a3 a5 a6 s0 : Int32} (k : xX (d + 1) mX5_answer 118 [some (.ref 69), none, none, some (.int a3), none, some (.int a5), some (.int a6)] [.int 1, .int s0] g = some r) : xX (d + 1) mX5_answer 113 [some (.ref 69), none, none, some (.int a3), none, some (.int a5), some (.int a6)] [.int s0] g = some r :=
  Y_iconst 1 dX5_answer_113 ic_1 <| Y_goto 118 dX5_answer_114 rfl <| X_le (xle_s (xle_n (xle_n (xle_s (xle_n (xle_s (xle_s xle_0))))))) k
theorem bX5_answer_117 {d : Nat} {g : xSt} {r : Option Value × xSt} {a3 a5 a6 s0 : Int32} (k : xX (d + 1) mX5_answer 118 [some (.ref 69), none, none, some (.int a3), none, some (.int a5), some (.int a6)] [.int 0, .int s0] g = some r) : xX (d + 1) mX5_answer 117 [some (.ref 69), none, none, some (.int a3), none, some (.int a5), some (.int a6)] [.int s0] g = some r :=
  Y_iconst 0 dX5_answer_117 ic_0 <| X_le (xle_s (xle_n (xle_n (xle_s (xle_n (xle_s (xle_s xle_0))))))) k
theorem bX5_answer_118 {d : Nat} {g : xSt} {r : Option Value × xSt} {a3 a5 a6 s1 s0 : Int32} (W : xWf g) (hi127 : vp_in a6 32) (k1 : (xI g 74 a6.toNatClampNeg) ≤ (xat (xI g 74) 32 a5) → xX (d + 1) mX5_answer 145 [some (.ref 69), none, none, some (.int a3), some (.int (s1 + s0)), some (.int a5), some (.int a6)] [] g = some r) (k2 : ¬ ((xI g 74 a6.toNatClampNeg) ≤ (xat (xI g 74) 32 a5)) → xX (d + 1) mX5_answer 140 [some (.ref 69), none, none, some (.int a3), some (.int (s1 + s0)), none, some (.int a6)] [] g = some r) : xX (d + 1) mX5_answer 118 [some (.ref 69), none, none, some (.int a3), none, some (.int a5), some (.int a6)] [.int s0, .int s1] g = some r :=
  Y_iadd dX5_answer_118 <| Y_istore dX5_answer_119 rfl rfl <| Y_aload_n dX5_answer_121 rfl <| Y_getR dX5_answer_122 f_5_24 (by rw [ft_5_10]; rfl) (xis W 69 5 s_69 (Nat.le_of_ble_eq_true rfl)) (xptr W 69 10 p_69_10) <| Y_iload dX5_answer_125 rfl <| Y_iald dX5_answer_127 (xarr W (o := 74) s_74 (Nat.le_of_ble_eq_true rfl)) hi127 <| Y_aload_n dX5_answer_128 rfl <| Y_getR dX5_answer_129 f_5_24 (by rw [ft_5_10]; rfl) (xis W 69 5 s_69 (Nat.le_of_ble_eq_true rfl)) (xptr W 69 10 p_69_10) <| Y_iload dX5_answer_132 rfl <| Y_callS1 dX5_answer_134 cl_5_73 rfl rfl rfl rfl rfl (c_at (xarr W (o := 74) s_74 (Nat.le_of_ble_eq_true rfl))) <| Y_le 145 dX5_answer_137 rfl (fun q => X_le (xle_s (xle_n (xle_n (xle_s (xle_s (xle_s (xle_s xle_0))))))) (k1 q)) (fun q => X_le (xle_s (xle_n (xle_n (xle_s (xle_s (xle_n (xle_s xle_0))))))) (k2 q))
theorem bX5_answer_140 {d : Nat} {g : xSt} {r : Option Value × xSt} {a3 a4 a6 : Int32} (k : xX (d + 1) mX5_answer 147 [some (.ref 69), none, none, some (.int a3), some (.int a4), none, some (.int a6)] [.int a6] g = some r) : xX (d + 1) mX5_answer 140 [some (.ref 69), none, none, some (.int a3), some (.int a4), none, some (.int a6)] [] g = some r :=
  Y_iload dX5_answer_140 rfl <| Y_goto 147 dX5_answer_142 rfl <| X_le (xle_s (xle_n (xle_n (xle_s (xle_s (xle_n (xle_s xle_0))))))) k
theorem bX5_answer_145 {d : Nat} {g : xSt} {r : Option Value × xSt} {a3 a4 a5 a6 : Int32} (k : xX (d + 1) mX5_answer 147 [some (.ref 69), none, none, some (.int a3), some (.int a4), none, some (.int a6)] [.int a5] g = some r) : xX (d + 1) mX5_answer 145 [some (.ref 69), none, none, some (.int a3), some (.int a4), some (.int a5), some (.int a6)] [] g = some r :=
  Y_iload dX5_answer_145 rfl <| X_le (xle_s (xle_n (xle_n (xle_s (xle_s (xle_n (xle_s xle_0))))))) k
theorem bX5_answer_147 {d : Nat} {g : xSt} {r : Option Value × xSt} {a3 a4 a6 s0 : Int32} (k : xX (d + 1) mX5_answer 91 [some (.ref 69), none, none, some (.int a3), some (.int a4), some (.int s0), some (.int (a6 + 1))] [] g = some r) : xX (d + 1) mX5_answer 147 [some (.ref 69), none, none, some (.int a3), some (.int a4), none, some (.int a6)] [.int s0] g = some r :=
  Y_istore dX5_answer_147 rfl rfl <| Y_iinc 1 dX5_answer_149 rfl ic_1 rfl rfl <| Y_goto 91 dX5_answer_152 rfl <| X_le (xle_s (xle_n (xle_n (xle_s (xle_s (xle_s (xle_s xle_0))))))) k
theorem bX5_answer_155 {d : Nat} {g : xSt} {r : Option Value × xSt} {a3 a4 a5 : Int32} (k1 : a3 = 0 → xX (d + 1) mX5_answer 159 [none, none, none, none, some (.int a4), none, none] [] g = some r) (k2 : ¬ (a3 = 0) → xX (d + 1) mX5_answer 164 [some (.ref 69), none, none, some (.int a3), none, some (.int a5), none] [] g = some r) : xX (d + 1) mX5_answer 155 [some (.ref 69), none, none, some (.int a3), some (.int a4), some (.int a5), none] [] g = some r :=
  Y_iload_n dX5_answer_155 rfl <| Y_ne0 164 dX5_answer_156 rfl (fun q => X_le (xle_n (xle_n (xle_n (xle_n (xle_s (xle_n (xle_n xle_0))))))) (k1 q)) (fun q => X_le (xle_s (xle_n (xle_n (xle_s (xle_n (xle_s (xle_n xle_0))))))) (k2 q))
theorem bX5_answer_159 {d : Nat} {g : xSt} {r : Option Value × xSt} {a4 : Int32} (k : xX (d + 1) mX5_answer 183 [none, none, none, none, none, none, none] [.int a4] g = some r) : xX (d + 1) mX5_answer 159 [none, none, none, none, some (.int a4), none, none] [] g = some r :=
  Y_iload dX5_answer_159 rfl <| Y_goto 183 dX5_answer_161 rfl <| X_le (xle_n (xle_n (xle_n (xle_n (xle_n (xle_n (xle_n xle_0))))))) k
theorem bX5_answer_164 {d : Nat} {g : xSt} {r : Option Value × xSt} {a3 a5 : Int32} (k1 : a3 = 1 → xX (d + 1) mX5_answer 169 [some (.ref 69), none, none, none, none, some (.int a5), none] [] g = some r) (k2 : ¬ (a3 = 1) → xX (d + 1) mX5_answer 181 [none, none, none, none, none, some (.int a5), none] [] g = some r) : xX (d + 1) mX5_answer 164 [some (.ref 69), none, none, some (.int a3), none, some (.int a5), none] [] g = some r :=
  Y_iload_n dX5_answer_164 rfl <| Y_iconst 1 dX5_answer_165 ic_1 <| Y_ne 181 dX5_answer_166 rfl (fun q => X_le (xle_s (xle_n (xle_n (xle_n (xle_n (xle_s (xle_n xle_0))))))) (k1 q)) (fun q => X_le (xle_n (xle_n (xle_n (xle_n (xle_n (xle_s (xle_n xle_0))))))) (k2 q))
theorem bX5_answer_169 {d : Nat} {g : xSt} {r : Option Value × xSt} {a5 : Int32} (W : xWf g) (k : xX (d + 1) mX5_answer 183 [none, none, none, none, none, none, none] [.int (xat (xI g 74) 32 a5)] g = some r) : xX (d + 1) mX5_answer 169 [some (.ref 69), none, none, none, none, some (.int a5), none] [] g = some r :=
  Y_aload_n dX5_answer_169 rfl <| Y_getR dX5_answer_170 f_5_24 (by rw [ft_5_10]; rfl) (xis W 69 5 s_69 (Nat.le_of_ble_eq_true rfl)) (xptr W 69 10 p_69_10) <| Y_iload dX5_answer_173 rfl <| Y_callS1 dX5_answer_175 cl_5_73 rfl rfl rfl rfl rfl (c_at (xarr W (o := 74) s_74 (Nat.le_of_ble_eq_true rfl))) <| Y_goto 183 dX5_answer_178 rfl <| X_le (xle_n (xle_n (xle_n (xle_n (xle_n (xle_n (xle_n xle_0))))))) k
theorem bX5_answer_181 {d : Nat} {g : xSt} {r : Option Value × xSt} {a5 : Int32} (k : xX (d + 1) mX5_answer 183 [none, none, none, none, none, none, none] [.int a5] g = some r) : xX (d + 1) mX5_answer 181 [none, none, none, none, none, some (.int a5), none] [] g = some r :=
  Y_iload dX5_answer_181 rfl <| X_le (xle_n (xle_n (xle_n (xle_n (xle_n (xle_n (xle_n xle_0))))))) k
theorem bX5_answer_183 {d : Nat} {g : xSt} {r : Option Value × xSt} {s0 : Int32} (k : r = (some (.int s0), g)) : xX (d + 1) mX5_answer 183 [none, none, none, none, none, none, none] [.int s0] g = some r :=
  Y_iret dX5_answer_183 rfl k
theorem bX5_saidBy_0 {d : Nat} {g : xSt} {r : Option Value × xSt} {a1 a2 a3 r3 r9 : Int32} {g3 g9 : xSt} (W : xWf g) (hk3 : xCallM d mX5_placeOf [.ref 69, .int a1, .int a2] g = some (some (.int r3), g3)) (W3 : xWf g3) (hk9 : xCallM d mX5_placeOf [.ref 69, .int a1, .int a3] g3 = some (some (.int r9), g9)) (W9 : xWf g9) (k1 : 0 ≤ (r3 - r9) → xX (d + 1) mX5_saidBy 24 [none, none, none, none, some (.int (r3 - r9))] [] g9 = some r) (k2 : ¬ (0 ≤ (r3 - r9)) → xX (d + 1) mX5_saidBy 20 [none, none, none, none, none] [] g9 = some r) : xX (d + 1) mX5_saidBy 0 [some (.ref 69), some (.int a1), some (.int a2), some (.int a3), none] [] g = some r :=
  Y_aload_n dX5_saidBy_0 rfl <| Y_iload_n dX5_saidBy_1 rfl <| Y_iload_n dX5_saidBy_2 rfl <| Y_callV1 dX5_saidBy_3 cl_5_151 rfl rfl (xis W 69 5 s_69 (Nat.le_of_ble_eq_true rfl)) rfl rfl rfl (hk3) <| Y_aload_n dX5_saidBy_6 rfl <| Y_iload_n dX5_saidBy_7 rfl <| Y_iload_n dX5_saidBy_8 rfl <| Y_callV1 dX5_saidBy_9 cl_5_151 rfl rfl (xis W3 69 5 s_69 (Nat.le_of_ble_eq_true rfl)) rfl rfl rfl (hk9) <| Y_isub dX5_saidBy_12 <| Y_istore dX5_saidBy_13 rfl rfl <| Y_iload dX5_saidBy_15 rfl <| Y_ge0 24 dX5_saidBy_17 rfl (fun q => X_le (xle_n (xle_n (xle_n (xle_n (xle_s xle_0))))) (k1 q)) (fun q => X_le (xle_n (xle_n (xle_n (xle_n (xle_n xle_0))))) (k2 q))
theorem bX5_saidBy_20 {d : Nat} {g : xSt} {r : Option Value × xSt}  (k : xX (d + 1) mX5_saidBy 34 [none, none, none, none, none] [.int 1] g = some r) : xX (d + 1) mX5_saidBy 20 [none, none, none, none, none] [] g = some r :=
  Y_iconst 1 dX5_saidBy_20 ic_1 <| Y_goto 34 dX5_saidBy_21 rfl <| X_le (xle_n (xle_n (xle_n (xle_n (xle_n xle_0))))) k
theorem bX5_saidBy_24 {d : Nat} {g : xSt} {r : Option Value × xSt} {a4 : Int32} (k1 : a4 ≤ 0 → xX (d + 1) mX5_saidBy 33 [none, none, none, none, none] [] g = some r) (k2 : ¬ (a4 ≤ 0) → xX (d + 1) mX5_saidBy 29 [none, none, none, none, none] [] g = some r) : xX (d + 1) mX5_saidBy 24 [none, none, none, none, some (.int a4)] [] g = some r :=
  Y_iload dX5_saidBy_24 rfl <| Y_le0 33 dX5_saidBy_26 rfl (fun q => X_le (xle_n (xle_n (xle_n (xle_n (xle_n xle_0))))) (k1 q)) (fun q => X_le (xle_n (xle_n (xle_n (xle_n (xle_n xle_0))))) (k2 q))
theorem bX5_saidBy_29 {d : Nat} {g : xSt} {r : Option Value × xSt}  (k : xX (d + 1) mX5_saidBy 34 [none, none, none, none, none] [.int 2] g = some r) : xX (d + 1) mX5_saidBy 29 [none, none, none, none, none] [] g = some r :=
  Y_iconst 2 dX5_saidBy_29 ic_2 <| Y_goto 34 dX5_saidBy_30 rfl <| X_le (xle_n (xle_n (xle_n (xle_n (xle_n xle_0))))) k
theorem bX5_saidBy_33 {d : Nat} {g : xSt} {r : Option Value × xSt}  (k : xX (d + 1) mX5_saidBy 34 [none, none, none, none, none] [.int 0] g = some r) : xX (d + 1) mX5_saidBy 33 [none, none, none, none, none] [] g = some r :=
  Y_iconst 0 dX5_saidBy_33 ic_0 <| X_le (xle_n (xle_n (xle_n (xle_n (xle_n xle_0))))) k
theorem bX5_saidBy_34 {d : Nat} {g : xSt} {r : Option Value × xSt} {s0 : Int32} (k : r = (some (.int s0), g)) : xX (d + 1) mX5_saidBy 34 [none, none, none, none, none] [.int s0] g = some r :=
  Y_iret dX5_saidBy_34 rfl k
theorem bX5_heavierIn_0 {d : Nat} {g : xSt} {r : Option Value × xSt} {a1 a2 r7 : Int32} {g7 : xSt} (W : xWf g) (hk7 : xCallM d mX5_bitOf [.int (xI g 69 0), .int a1, .int a2, .int 1] g = some (some (.int r7), g7)) (W7 : xWf g7) (k : xX (d + 1) mX5_heavierIn 17 [some (.ref 69), none, none, some (.int r7), some (.int 0), some (.int 0)] [] g7 = some r) : xX (d + 1) mX5_heavierIn 0 [some (.ref 69), some (.int a1), some (.int a2), none, none, none] [] g = some r :=
  Y_aload_n dX5_heavierIn_0 rfl <| Y_getI dX5_heavierIn_1 f_5_49 ft_5_0 (xis W 69 5 s_69 (Nat.le_of_ble_eq_true rfl)) <| Y_iload_n dX5_heavierIn_4 rfl <| Y_iload_n dX5_heavierIn_5 rfl <| Y_iconst 1 dX5_heavierIn_6 ic_1 <| Y_callS1 dX5_heavierIn_7 cl_5_81 rfl rfl rfl rfl rfl (hk7) <| Y_istore_n dX5_heavierIn_10 rfl rfl <| Y_iconst 0 dX5_heavierIn_11 ic_0 <| Y_istore dX5_heavierIn_12 rfl rfl <| Y_iconst 0 dX5_heavierIn_14 ic_0 <| Y_istore dX5_heavierIn_15 rfl rfl <| X_le (xle_s (xle_n (xle_n (xle_s (xle_s (xle_s xle_0)))))) k
theorem bX5_heavierIn_17 {d : Nat} {g : xSt} {r : Option Value × xSt} {a3 a4 a5 : Int32} (W : xWf g) (k1 : (xI g 69 5) ≤ a5 → xX (d + 1) mX5_heavierIn 59 [none, none, none, none, some (.int a4), none] [] g = some r) (k2 : ¬ ((xI g 69 5) ≤ a5) → xX (d + 1) mX5_heavierIn 26 [some (.ref 69), none, none, some (.int a3), some (.int a4), some (.int a5)] [] g = some r) : xX (d + 1) mX5_heavierIn 17 [some (.ref 69), none, none, some (.int a3), some (.int a4), some (.int a5)] [] g = some r :=
  Y_iload dX5_heavierIn_17 rfl <| Y_aload_n dX5_heavierIn_19 rfl <| Y_getI dX5_heavierIn_20 f_5_124 ft_5_5 (xis W 69 5 s_69 (Nat.le_of_ble_eq_true rfl)) <| Y_ge 59 dX5_heavierIn_23 rfl (fun q => X_le (xle_n (xle_n (xle_n (xle_n (xle_s (xle_n xle_0)))))) (k1 q)) (fun q => X_le (xle_s (xle_n (xle_n (xle_s (xle_s (xle_s xle_0)))))) (k2 q))
theorem bX5_heavierIn_26 {d : Nat} {g : xSt} {r : Option Value × xSt} {a3 a4 a5 r32 r35 : Int32} {g32 g35 : xSt} (W : xWf g) (hk32 : xCallM d mX5_leftAt [.ref 69, .int a5] g = some (some (.int r32), g32)) (W32 : xWf g32) (hk35 : xCallM d mX5_markOf [.ref 69, .int r32] g32 = some (some (.int r35), g35)) (W35 : xWf g35) (k1 : (xbit r35 a3) = 0 → xX (d + 1) mX5_heavierIn 49 [some (.ref 69), none, none, some (.int a3), none, some (.int a5)] [.int a4] g35 = some r) (k2 : ¬ ((xbit r35 a3) = 0) → xX (d + 1) mX5_heavierIn 45 [some (.ref 69), none, none, some (.int a3), none, some (.int a5)] [.int a4] g35 = some r) : xX (d + 1) mX5_heavierIn 26 [some (.ref 69), none, none, some (.int a3), some (.int a4), some (.int a5)] [] g = some r :=
  Y_iload dX5_heavierIn_26 rfl <| Y_aload_n dX5_heavierIn_28 rfl <| Y_aload_n dX5_heavierIn_29 rfl <| Y_iload dX5_heavierIn_30 rfl <| Y_callV1 dX5_heavierIn_32 cl_5_154 rfl rfl (xis W 69 5 s_69 (Nat.le_of_ble_eq_true rfl)) rfl rfl rfl (hk32) <| Y_callV1 dX5_heavierIn_35 cl_5_145 rfl rfl (xis W32 69 5 s_69 (Nat.le_of_ble_eq_true rfl)) rfl rfl rfl (hk35) <| Y_iload_n dX5_heavierIn_38 rfl <| Y_callS1 dX5_heavierIn_39 cl_5_142 rfl rfl rfl rfl rfl (c_xbit) <| Y_eq0 49 dX5_heavierIn_42 rfl (fun q => X_le (xle_s (xle_n (xle_n (xle_s (xle_n (xle_s xle_0)))))) (k1 q)) (fun q => X_le (xle_s (xle_n (xle_n (xle_s (xle_n (xle_s xle_0)))))) (k2 q))
theorem bX5_heavierIn_45 {d : Nat} {g : xSt} {r : Option Value × xSt} {a3 a5 s0 : Int32} (k : xX (d + 1) mX5_heavierIn 50 [some (.ref 69), none, none, some (.int a3), none, some (.int a5)] [.int 1, .int s0] g = some r) : xX (d + 1) mX5_heavierIn 45 [some (.ref 69), none, none, some (.int a3), none, some (.int a5)] [.int s0] g = some r :=
  Y_iconst 1 dX5_heavierIn_45 ic_1 <| Y_goto 50 dX5_heavierIn_46 rfl <| X_le (xle_s (xle_n (xle_n (xle_s (xle_n (xle_s xle_0)))))) k
theorem bX5_heavierIn_49 {d : Nat} {g : xSt} {r : Option Value × xSt} {a3 a5 s0 : Int32} (k : xX (d + 1) mX5_heavierIn 50 [some (.ref 69), none, none, some (.int a3), none, some (.int a5)] [.int 0, .int s0] g = some r) : xX (d + 1) mX5_heavierIn 49 [some (.ref 69), none, none, some (.int a3), none, some (.int a5)] [.int s0] g = some r :=
  Y_iconst 0 dX5_heavierIn_49 ic_0 <| X_le (xle_s (xle_n (xle_n (xle_s (xle_n (xle_s xle_0)))))) k
theorem bX5_heavierIn_50 {d : Nat} {g : xSt} {r : Option Value × xSt} {a3 a5 s1 s0 : Int32} (k : xX (d + 1) mX5_heavierIn 17 [some (.ref 69), none, none, some (.int a3), some (.int (s1 + s0)), some (.int (a5 + 1))] [] g = some r) : xX (d + 1) mX5_heavierIn 50 [some (.ref 69), none, none, some (.int a3), none, some (.int a5)] [.int s0, .int s1] g = some r :=
  Y_iadd dX5_heavierIn_50 <| Y_istore dX5_heavierIn_51 rfl rfl <| Y_iinc 1 dX5_heavierIn_53 rfl ic_1 rfl rfl <| Y_goto 17 dX5_heavierIn_56 rfl <| X_le (xle_s (xle_n (xle_n (xle_s (xle_s (xle_s xle_0)))))) k
theorem bX5_heavierIn_59 {d : Nat} {g : xSt} {r : Option Value × xSt} {a4 : Int32} (k : r = (some (.int a4), g)) : xX (d + 1) mX5_heavierIn 59 [none, none, none, none, some (.int a4), none] [] g = some r :=
  Y_iload dX5_heavierIn_59 rfl <| Y_iret dX5_heavierIn_61 rfl k
theorem bX5_evenestTwo_0 {d : Nat} {g : xSt} {r : Option Value × xSt}  (k : xX (d + 1) mX5_evenestTwo 6 [some (.ref 69), some (.int (-1)), some (.int (-1)), some (.int 0), none, none] [] g = some r) : xX (d + 1) mX5_evenestTwo 0 [some (.ref 69), none, none, none, none, none] [] g = some r :=
  Y_iconst (-1) dX5_evenestTwo_0 ic_m1 <| Y_istore_n dX5_evenestTwo_1 rfl rfl <| Y_iconst (-1) dX5_evenestTwo_2 ic_m1 <| Y_istore_n dX5_evenestTwo_3 rfl rfl <| Y_iconst 0 dX5_evenestTwo_4 ic_0 <| Y_istore_n dX5_evenestTwo_5 rfl rfl <| X_le (xle_s (xle_s (xle_s (xle_s (xle_n (xle_n xle_0)))))) k
theorem bX5_evenestTwo_6 {d : Nat} {g : xSt} {r : Option Value × xSt} {a1 a2 a3 : Int32} (W : xWf g) (k1 : (xI g 69 0) ≤ a3 → xX (d + 1) mX5_evenestTwo 76 [none, none, some (.int a2), none, none, none] [] g = some r) (k2 : ¬ ((xI g 69 0) ≤ a3) → xX (d + 1) mX5_evenestTwo 14 [some (.ref 69), some (.int a1), some (.int a2), some (.int a3), none, none] [] g = some r) : xX (d + 1) mX5_evenestTwo 6 [some (.ref 69), some (.int a1), some (.int a2), some (.int a3), none, none] [] g = some r :=
  Y_iload_n dX5_evenestTwo_6 rfl <| Y_aload_n dX5_evenestTwo_7 rfl <| Y_getI dX5_evenestTwo_8 f_5_49 ft_5_0 (xis W 69 5 s_69 (Nat.le_of_ble_eq_true rfl)) <| Y_ge 76 dX5_evenestTwo_11 rfl (fun q => X_le (xle_n (xle_n (xle_s (xle_n (xle_n (xle_n xle_0)))))) (k1 q)) (fun q => X_le (xle_s (xle_s (xle_s (xle_s (xle_n (xle_n xle_0)))))) (k2 q))
theorem bX5_evenestTwo_14 {d : Nat} {g : xSt} {r : Option Value × xSt} {a1 a2 a3 : Int32} (k : xX (d + 1) mX5_evenestTwo 19 [some (.ref 69), some (.int a1), some (.int a2), some (.int a3), some (.int (a3 + 1)), none] [] g = some r) : xX (d + 1) mX5_evenestTwo 14 [some (.ref 69), some (.int a1), some (.int a2), some (.int a3), none, none] [] g = some r :=
  Y_iload_n dX5_evenestTwo_14 rfl <| Y_iconst 1 dX5_evenestTwo_15 ic_1 <| Y_iadd dX5_evenestTwo_16 <| Y_istore dX5_evenestTwo_17 rfl rfl <| X_le (xle_s (xle_s (xle_s (xle_s (xle_s (xle_n xle_0)))))) k
theorem bX5_evenestTwo_19 {d : Nat} {g : xSt} {r : Option Value × xSt} {a1 a2 a3 a4 : Int32} (W : xWf g) (k1 : (xI g 69 0) ≤ a4 → xX (d + 1) mX5_evenestTwo 70 [some (.ref 69), some (.int a1), some (.int a2), some (.int a3), none, none] [] g = some r) (k2 : ¬ ((xI g 69 0) ≤ a4) → xX (d + 1) mX5_evenestTwo 28 [some (.ref 69), some (.int a1), some (.int a2), some (.int a3), some (.int a4), none] [] g = some r) : xX (d + 1) mX5_evenestTwo 19 [some (.ref 69), some (.int a1), some (.int a2), some (.int a3), some (.int a4), none] [] g = some r :=
  Y_iload dX5_evenestTwo_19 rfl <| Y_aload_n dX5_evenestTwo_21 rfl <| Y_getI dX5_evenestTwo_22 f_5_49 ft_5_0 (xis W 69 5 s_69 (Nat.le_of_ble_eq_true rfl)) <| Y_ge 70 dX5_evenestTwo_25 rfl (fun q => X_le (xle_s (xle_s (xle_s (xle_s (xle_n (xle_n xle_0)))))) (k1 q)) (fun q => X_le (xle_s (xle_s (xle_s (xle_s (xle_s (xle_n xle_0)))))) (k2 q))
theorem bX5_evenestTwo_28 {d : Nat} {g : xSt} {r : Option Value × xSt} {a1 a2 a3 a4 r32 r39 : Int32} {g32 g39 : xSt} (W : xWf g) (hk32 : xCallM d mX5_heavierIn [.ref 69, .int a3, .int a4] g = some (some (.int r32), g32)) (W32 : xWf g32) (hk39 : xCallM d mX5_heavierIn [.ref 69, .int a4, .int a3] g32 = some (some (.int r39), g39)) (W39 : xWf g39) (k1 : (imin r32 r39) ≤ a1 → xX (d + 1) mX5_evenestTwo 64 [some (.ref 69), some (.int a1), some (.int a2), some (.int a3), some (.int a4), none] [] g39 = some r) (k2 : ¬ ((imin r32 r39) ≤ a1) → xX (d + 1) mX5_evenestTwo 53 [some (.ref 69), none, none, some (.int a3), some (.int a4), some (.int (imin r32 r39))] [] g39 = some r) : xX (d + 1) mX5_evenestTwo 28 [some (.ref 69), some (.int a1), some (.int a2), some (.int a3), some (.int a4), none] [] g = some r :=
  Y_aload_n dX5_evenestTwo_28 rfl <| Y_iload_n dX5_evenestTwo_29 rfl <| Y_iload dX5_evenestTwo_30 rfl <| Y_callV1 dX5_evenestTwo_32 cl_5_164 rfl rfl (xis W 69 5 s_69 (Nat.le_of_ble_eq_true rfl)) rfl rfl rfl (hk32) <| Y_aload_n dX5_evenestTwo_35 rfl <| Y_iload dX5_evenestTwo_36 rfl <| Y_iload_n dX5_evenestTwo_38 rfl <| Y_callV1 dX5_evenestTwo_39 cl_5_164 rfl rfl (xis W32 69 5 s_69 (Nat.le_of_ble_eq_true rfl)) rfl rfl rfl (hk39) <| Y_min dX5_evenestTwo_42 km_5_32 kn_5_32 rfl <| Y_istore dX5_evenestTwo_45 rfl rfl <| Y_iload dX5_evenestTwo_47 rfl <| Y_iload_n dX5_evenestTwo_49 rfl <| Y_le 64 dX5_evenestTwo_50 rfl (fun q => X_le (xle_s (xle_s (xle_s (xle_s (xle_s (xle_n xle_0)))))) (k1 q)) (fun q => X_le (xle_s (xle_n (xle_n (xle_s (xle_s (xle_s xle_0)))))) (k2 q))
theorem bX5_evenestTwo_53 {d : Nat} {g : xSt} {r : Option Value × xSt} {a3 a4 a5 : Int32} (k : xX (d + 1) mX5_evenestTwo 64 [some (.ref 69), some (.int a5), some (.int ((10 * a3) + a4)), some (.int a3), some (.int a4), none] [] g = some r) : xX (d + 1) mX5_evenestTwo 53 [some (.ref 69), none, none, some (.int a3), some (.int a4), some (.int a5)] [] g = some r :=
  Y_iload dX5_evenestTwo_53 rfl <| Y_istore_n dX5_evenestTwo_55 rfl rfl <| Y_bipush 10 dX5_evenestTwo_56 bp_10 <| Y_iload_n dX5_evenestTwo_58 rfl <| Y_imul dX5_evenestTwo_59 <| Y_iload dX5_evenestTwo_60 rfl <| Y_iadd dX5_evenestTwo_62 <| Y_istore_n dX5_evenestTwo_63 rfl rfl <| X_le (xle_s (xle_s (xle_s (xle_s (xle_s (xle_n xle_0)))))) k
theorem bX5_evenestTwo_64 {d : Nat} {g : xSt} {r : Option Value × xSt} {a1 a2 a3 a4 : Int32} (k : xX (d + 1) mX5_evenestTwo 19 [some (.ref 69), some (.int a1), some (.int a2), some (.int a3), some (.int (a4 + 1)), none] [] g = some r) : xX (d + 1) mX5_evenestTwo 64 [some (.ref 69), some (.int a1), some (.int a2), some (.int a3), some (.int a4), none] [] g = some r :=
  Y_iinc 1 dX5_evenestTwo_64 rfl ic_1 rfl rfl <| Y_goto 19 dX5_evenestTwo_67 rfl <| X_le (xle_s (xle_s (xle_s (xle_s (xle_s (xle_n xle_0)))))) k
theorem bX5_evenestTwo_70 {d : Nat} {g : xSt} {r : Option Value × xSt} {a1 a2 a3 : Int32} (k : xX (d + 1) mX5_evenestTwo 6 [some (.ref 69), some (.int a1), some (.int a2), some (.int (a3 + 1)), none, none] [] g = some r) : xX (d + 1) mX5_evenestTwo 70 [some (.ref 69), some (.int a1), some (.int a2), some (.int a3), none, none] [] g = some r :=
  Y_iinc 1 dX5_evenestTwo_70 rfl ic_1 rfl rfl <| Y_goto 6 dX5_evenestTwo_73 rfl <| X_le (xle_s (xle_s (xle_s (xle_s (xle_n (xle_n xle_0)))))) k
theorem bX5_evenestTwo_76 {d : Nat} {g : xSt} {r : Option Value × xSt} {a2 : Int32} (k : r = (some (.int a2), g)) : xX (d + 1) mX5_evenestTwo 76 [none, none, some (.int a2), none, none, none] [] g = some r :=
  Y_iload_n dX5_evenestTwo_76 rfl <| Y_iret dX5_evenestTwo_77 rfl k
theorem bX5_isCover_0 {d : Nat} {g : xSt} {r : Option Value × xSt} {a1 a2 r4 : Int32} {g4 : xSt} (W : xWf g) (hk4 : xCallM d mX5_isSure [.ref 69, .int a1, .int a2, .int 1] g = some (some (.int r4), g4)) (W4 : xWf g4) (k : xX (d + 1) mX5_isCover 11 [some (.ref 69), some (.int a1), some (.int a2), some (.int r4), some (.int 0)] [] g4 = some r) : xX (d + 1) mX5_isCover 0 [some (.ref 69), some (.int a1), some (.int a2), none, none] [] g = some r :=
  Y_aload_n dX5_isCover_0 rfl <| Y_iload_n dX5_isCover_1 rfl <| Y_iload_n dX5_isCover_2 rfl <| Y_iconst 1 dX5_isCover_3 ic_1 <| Y_callV1 dX5_isCover_4 cl_5_160 rfl rfl (xis W 69 5 s_69 (Nat.le_of_ble_eq_true rfl)) rfl rfl rfl (hk4) <| Y_istore_n dX5_isCover_7 rfl rfl <| Y_iconst 0 dX5_isCover_8 ic_0 <| Y_istore dX5_isCover_9 rfl rfl <| X_le (xle_s (xle_s (xle_s (xle_s (xle_s xle_0))))) k
theorem bX5_isCover_11 {d : Nat} {g : xSt} {r : Option Value × xSt} {a1 a2 a3 a4 : Int32} (W : xWf g) (k1 : (xI g 69 0) ≤ a4 → xX (d + 1) mX5_isCover 58 [none, none, none, some (.int a3), none] [] g = some r) (k2 : ¬ ((xI g 69 0) ≤ a4) → xX (d + 1) mX5_isCover 20 [some (.ref 69), some (.int a1), some (.int a2), some (.int a3), some (.int a4)] [] g = some r) : xX (d + 1) mX5_isCover 11 [some (.ref 69), some (.int a1), some (.int a2), some (.int a3), some (.int a4)] [] g = some r :=
  Y_iload dX5_isCover_11 rfl <| Y_aload_n dX5_isCover_13 rfl <| Y_getI dX5_isCover_14 f_5_49 ft_5_0 (xis W 69 5 s_69 (Nat.le_of_ble_eq_true rfl)) <| Y_ge 58 dX5_isCover_17 rfl (fun q => X_le (xle_n (xle_n (xle_n (xle_s (xle_n xle_0))))) (k1 q)) (fun q => X_le (xle_s (xle_s (xle_s (xle_s (xle_s xle_0))))) (k2 q))
theorem bX5_isCover_20 {d : Nat} {g : xSt} {r : Option Value × xSt} {a1 a2 a3 a4 : Int32} (k1 : a3 = 0 → xX (d + 1) mX5_isCover 58 [none, none, none, some (.int a3), none] [] g = some r) (k2 : ¬ (a3 = 0) → xX (d + 1) mX5_isCover 24 [some (.ref 69), some (.int a1), some (.int a2), none, some (.int a4)] [] g = some r) : xX (d + 1) mX5_isCover 20 [some (.ref 69), some (.int a1), some (.int a2), some (.int a3), some (.int a4)] [] g = some r :=
  Y_iload_n dX5_isCover_20 rfl <| Y_eq0 58 dX5_isCover_21 rfl (fun q => X_le (xle_n (xle_n (xle_n (xle_s (xle_n xle_0))))) (k1 q)) (fun q => X_le (xle_s (xle_s (xle_s (xle_n (xle_s xle_0))))) (k2 q))
theorem bX5_isCover_24 {d : Nat} {g : xSt} {r : Option Value × xSt} {a1 a2 a4 r29 : Int32} {g29 : xSt} (W : xWf g) (hk29 : xCallM d mX5_isSure [.ref 69, .int a1, .int a4, .int 1] g = some (some (.int r29), g29)) (W29 : xWf g29) (k1 : r29 = 0 → xX (d + 1) mX5_isCover 46 [some (.ref 69), some (.int a1), some (.int a2), none, some (.int a4)] [] g29 = some r) (k2 : ¬ (r29 = 0) → xX (d + 1) mX5_isCover 35 [some (.ref 69), some (.int a1), some (.int a2), none, some (.int a4)] [] g29 = some r) : xX (d + 1) mX5_isCover 24 [some (.ref 69), some (.int a1), some (.int a2), none, some (.int a4)] [] g = some r :=
  Y_aload_n dX5_isCover_24 rfl <| Y_iload_n dX5_isCover_25 rfl <| Y_iload dX5_isCover_26 rfl <| Y_iconst 1 dX5_isCover_28 ic_1 <| Y_callV1 dX5_isCover_29 cl_5_160 rfl rfl (xis W 69 5 s_69 (Nat.le_of_ble_eq_true rfl)) rfl rfl rfl (hk29) <| Y_eq0 46 dX5_isCover_32 rfl (fun q => X_le (xle_s (xle_s (xle_s (xle_n (xle_s xle_0))))) (k1 q)) (fun q => X_le (xle_s (xle_s (xle_s (xle_n (xle_s xle_0))))) (k2 q))
theorem bX5_isCover_35 {d : Nat} {g : xSt} {r : Option Value × xSt} {a1 a2 a4 r40 : Int32} {g40 : xSt} (W : xWf g) (hk40 : xCallM d mX5_isSure [.ref 69, .int a4, .int a2, .int 1] g = some (some (.int r40), g40)) (W40 : xWf g40) (k1 : r40 = 0 → xX (d + 1) mX5_isCover 46 [some (.ref 69), some (.int a1), some (.int a2), none, some (.int a4)] [] g40 = some r) (k2 : ¬ (r40 = 0) → xX (d + 1) mX5_isCover 50 [some (.ref 69), some (.int a1), some (.int a2), none, some (.int a4)] [] g40 = some r) : xX (d + 1) mX5_isCover 35 [some (.ref 69), some (.int a1), some (.int a2), none, some (.int a4)] [] g = some r :=
  Y_aload_n dX5_isCover_35 rfl <| Y_iload dX5_isCover_36 rfl <| Y_iload_n dX5_isCover_38 rfl <| Y_iconst 1 dX5_isCover_39 ic_1 <| Y_callV1 dX5_isCover_40 cl_5_160 rfl rfl (xis W 69 5 s_69 (Nat.le_of_ble_eq_true rfl)) rfl rfl rfl (hk40) <| Y_ne0 50 dX5_isCover_43 rfl (fun q => X_le (xle_s (xle_s (xle_s (xle_n (xle_s xle_0))))) (k1 q)) (fun q => X_le (xle_s (xle_s (xle_s (xle_n (xle_s xle_0))))) (k2 q))
theorem bX5_isCover_46 {d : Nat} {g : xSt} {r : Option Value × xSt} {a1 a2 a4 : Int32} (k : xX (d + 1) mX5_isCover 51 [some (.ref 69), some (.int a1), some (.int a2), none, some (.int a4)] [.int 1] g = some r) : xX (d + 1) mX5_isCover 46 [some (.ref 69), some (.int a1), some (.int a2), none, some (.int a4)] [] g = some r :=
  Y_iconst 1 dX5_isCover_46 ic_1 <| Y_goto 51 dX5_isCover_47 rfl <| X_le (xle_s (xle_s (xle_s (xle_n (xle_s xle_0))))) k
theorem bX5_isCover_50 {d : Nat} {g : xSt} {r : Option Value × xSt} {a1 a2 a4 : Int32} (k : xX (d + 1) mX5_isCover 51 [some (.ref 69), some (.int a1), some (.int a2), none, some (.int a4)] [.int 0] g = some r) : xX (d + 1) mX5_isCover 50 [some (.ref 69), some (.int a1), some (.int a2), none, some (.int a4)] [] g = some r :=
  Y_iconst 0 dX5_isCover_50 ic_0 <| X_le (xle_s (xle_s (xle_s (xle_n (xle_s xle_0))))) k
theorem bX5_isCover_51 {d : Nat} {g : xSt} {r : Option Value × xSt} {a1 a2 a4 s0 : Int32} (k : xX (d + 1) mX5_isCover 11 [some (.ref 69), some (.int a1), some (.int a2), some (.int s0), some (.int (a4 + 1))] [] g = some r) : xX (d + 1) mX5_isCover 51 [some (.ref 69), some (.int a1), some (.int a2), none, some (.int a4)] [.int s0] g = some r :=
  Y_istore_n dX5_isCover_51 rfl rfl <| Y_iinc 1 dX5_isCover_52 rfl ic_1 rfl rfl <| Y_goto 11 dX5_isCover_55 rfl <| X_le (xle_s (xle_s (xle_s (xle_s (xle_s xle_0))))) k
theorem bX5_isCover_58 {d : Nat} {g : xSt} {r : Option Value × xSt} {a3 : Int32} (hz59 : a3 = 0 ∨ a3 = 1) (k : r = (some (.int a3), g)) : xX (d + 1) mX5_isCover 58 [none, none, none, some (.int a3), none] [] g = some r :=
  Y_iload_n dX5_isCover_58 rfl <| Y_zret dX5_isCover_59 rfl (hz59) k
theorem bX5_surelySaying_0 {d : Nat} {g : xSt} {r : Option Value × xSt} {a1 a2 : Int32} (k : xX (d + 1) mX5_surelySaying 5 [some (.ref 69), some (.int a1), some (.int a2), some (.int 0), some (.int 0)] [] g = some r) : xX (d + 1) mX5_surelySaying 0 [some (.ref 69), some (.int a1), some (.int a2), none, none] [] g = some r :=
  Y_iconst 0 dX5_surelySaying_0 ic_0 <| Y_istore_n dX5_surelySaying_1 rfl rfl <| Y_iconst 0 dX5_surelySaying_2 ic_0 <| Y_istore dX5_surelySaying_3 rfl rfl <| X_le (xle_s (xle_s (xle_s (xle_s (xle_s xle_0))))) k
theorem bX5_surelySaying_5 {d : Nat} {g : xSt} {r : Option Value × xSt} {a1 a2 a3 a4 : Int32} (W : xWf g) (k1 : (xI g 69 0) ≤ a4 → xX (d + 1) mX5_surelySaying 38 [none, none, none, some (.int a3), none] [] g = some r) (k2 : ¬ ((xI g 69 0) ≤ a4) → xX (d + 1) mX5_surelySaying 14 [some (.ref 69), some (.int a1), some (.int a2), some (.int a3), some (.int a4)] [] g = some r) : xX (d + 1) mX5_surelySaying 5 [some (.ref 69), some (.int a1), some (.int a2), some (.int a3), some (.int a4)] [] g = some r :=
  Y_iload dX5_surelySaying_5 rfl <| Y_aload_n dX5_surelySaying_7 rfl <| Y_getI dX5_surelySaying_8 f_5_49 ft_5_0 (xis W 69 5 s_69 (Nat.le_of_ble_eq_true rfl)) <| Y_ge 38 dX5_surelySaying_11 rfl (fun q => X_le (xle_n (xle_n (xle_n (xle_s (xle_n xle_0))))) (k1 q)) (fun q => X_le (xle_s (xle_s (xle_s (xle_s (xle_s xle_0))))) (k2 q))
theorem bX5_surelySaying_14 {d : Nat} {g : xSt} {r : Option Value × xSt} {a1 a2 a3 a4 r19 : Int32} {g19 : xSt} (W : xWf g) (hk19 : xCallM d mX5_isSure [.ref 69, .int a1, .int a4, .int a2] g = some (some (.int r19), g19)) (W19 : xWf g19) (k1 : r19 = 0 → xX (d + 1) mX5_surelySaying 32 [some (.ref 69), some (.int a1), some (.int a2), some (.int a3), some (.int a4)] [] g19 = some r) (k2 : ¬ (r19 = 0) → xX (d + 1) mX5_surelySaying 25 [some (.ref 69), some (.int a1), some (.int a2), some (.int a3), some (.int a4)] [] g19 = some r) : xX (d + 1) mX5_surelySaying 14 [some (.ref 69), some (.int a1), some (.int a2), some (.int a3), some (.int a4)] [] g = some r :=
  Y_aload_n dX5_surelySaying_14 rfl <| Y_iload_n dX5_surelySaying_15 rfl <| Y_iload dX5_surelySaying_16 rfl <| Y_iload_n dX5_surelySaying_18 rfl <| Y_callV1 dX5_surelySaying_19 cl_5_160 rfl rfl (xis W 69 5 s_69 (Nat.le_of_ble_eq_true rfl)) rfl rfl rfl (hk19) <| Y_eq0 32 dX5_surelySaying_22 rfl (fun q => X_le (xle_s (xle_s (xle_s (xle_s (xle_s xle_0))))) (k1 q)) (fun q => X_le (xle_s (xle_s (xle_s (xle_s (xle_s xle_0))))) (k2 q))
theorem bX5_surelySaying_25 {d : Nat} {g : xSt} {r : Option Value × xSt} {a1 a2 a3 a4 : Int32} (k : xX (d + 1) mX5_surelySaying 32 [some (.ref 69), some (.int a1), some (.int a2), some (.int (a3 ||| (1 <<< (a4 &&& 31)))), some (.int a4)] [] g = some r) : xX (d + 1) mX5_surelySaying 25 [some (.ref 69), some (.int a1), some (.int a2), some (.int a3), some (.int a4)] [] g = some r :=
  Y_iload_n dX5_surelySaying_25 rfl <| Y_iconst 1 dX5_surelySaying_26 ic_1 <| Y_iload dX5_surelySaying_27 rfl <| Y_ishl dX5_surelySaying_29 <| Y_ior dX5_surelySaying_30 <| Y_istore_n dX5_surelySaying_31 rfl rfl <| X_le (xle_s (xle_s (xle_s (xle_s (xle_s xle_0))))) k
theorem bX5_surelySaying_32 {d : Nat} {g : xSt} {r : Option Value × xSt} {a1 a2 a3 a4 : Int32} (k : xX (d + 1) mX5_surelySaying 5 [some (.ref 69), some (.int a1), some (.int a2), some (.int a3), some (.int (a4 + 1))] [] g = some r) : xX (d + 1) mX5_surelySaying 32 [some (.ref 69), some (.int a1), some (.int a2), some (.int a3), some (.int a4)] [] g = some r :=
  Y_iinc 1 dX5_surelySaying_32 rfl ic_1 rfl rfl <| Y_goto 5 dX5_surelySaying_35 rfl <| X_le (xle_s (xle_s (xle_s (xle_s (xle_s xle_0))))) k
theorem bX5_surelySaying_38 {d : Nat} {g : xSt} {r : Option Value × xSt} {a3 : Int32} (k : r = (some (.int a3), g)) : xX (d + 1) mX5_surelySaying 38 [none, none, none, some (.int a3), none] [] g = some r :=
  Y_iload_n dX5_surelySaying_38 rfl <| Y_iret dX5_surelySaying_39 rfl k
theorem bX5_weighingsWith_0 {d : Nat} {g : xSt} {r : Option Value × xSt} {a1 a2 : Int32} (k : xX (d + 1) mX5_weighingsWith 5 [some (.ref 69), some (.int a1), some (.int a2), some (.int 0), some (.int 0), none] [] g = some r) : xX (d + 1) mX5_weighingsWith 0 [some (.ref 69), some (.int a1), some (.int a2), none, none, none] [] g = some r :=
  Y_iconst 0 dX5_weighingsWith_0 ic_0 <| Y_istore_n dX5_weighingsWith_1 rfl rfl <| Y_iconst 0 dX5_weighingsWith_2 ic_0 <| Y_istore dX5_weighingsWith_3 rfl rfl <| X_le (xle_s (xle_s (xle_s (xle_s (xle_s (xle_n xle_0)))))) k
theorem bX5_weighingsWith_5 {d : Nat} {g : xSt} {r : Option Value × xSt} {a1 a2 a3 a4 : Int32} (W : xWf g) (k1 : (xI g 69 0) ≤ a4 → xX (d + 1) mX5_weighingsWith 87 [none, none, none, some (.int a3), none, none] [] g = some r) (k2 : ¬ ((xI g 69 0) ≤ a4) → xX (d + 1) mX5_weighingsWith 14 [some (.ref 69), some (.int a1), some (.int a2), some (.int a3), some (.int a4), none] [] g = some r) : xX (d + 1) mX5_weighingsWith 5 [some (.ref 69), some (.int a1), some (.int a2), some (.int a3), some (.int a4), none] [] g = some r :=
  Y_iload dX5_weighingsWith_5 rfl <| Y_aload_n dX5_weighingsWith_7 rfl <| Y_getI dX5_weighingsWith_8 f_5_49 ft_5_0 (xis W 69 5 s_69 (Nat.le_of_ble_eq_true rfl)) <| Y_ge 87 dX5_weighingsWith_11 rfl (fun q => X_le (xle_n (xle_n (xle_n (xle_s (xle_n (xle_n xle_0)))))) (k1 q)) (fun q => X_le (xle_s (xle_s (xle_s (xle_s (xle_s (xle_n xle_0)))))) (k2 q))
theorem bX5_weighingsWith_14 {d : Nat} {g : xSt} {r : Option Value × xSt} {a1 a2 a3 a4 : Int32} (k1 : a4 = a1 → xX (d + 1) mX5_weighingsWith 81 [some (.ref 69), some (.int a1), some (.int a2), some (.int a3), some (.int a4), none] [] g = some r) (k2 : ¬ (a4 = a1) → xX (d + 1) mX5_weighingsWith 20 [some (.ref 69), some (.int a1), some (.int a2), some (.int a3), some (.int a4), none] [] g = some r) : xX (d + 1) mX5_weighingsWith 14 [some (.ref 69), some (.int a1), some (.int a2), some (.int a3), some (.int a4), none] [] g = some r :=
  Y_iload dX5_weighingsWith_14 rfl <| Y_iload_n dX5_weighingsWith_16 rfl <| Y_eq 81 dX5_weighingsWith_17 rfl (fun q => X_le (xle_s (xle_s (xle_s (xle_s (xle_s (xle_n xle_0)))))) (k1 q)) (fun q => X_le (xle_s (xle_s (xle_s (xle_s (xle_s (xle_n xle_0)))))) (k2 q))
theorem bX5_weighingsWith_20 {d : Nat} {g : xSt} {r : Option Value × xSt} {a1 a2 a3 a4 : Int32} (k1 : a4 = a2 → xX (d + 1) mX5_weighingsWith 31 [some (.ref 69), some (.int a1), some (.int a2), some (.int a3), some (.int a4), none] [] g = some r) (k2 : ¬ (a4 = a2) → xX (d + 1) mX5_weighingsWith 26 [some (.ref 69), some (.int a1), some (.int a2), some (.int a3), some (.int a4), none] [] g = some r) : xX (d + 1) mX5_weighingsWith 20 [some (.ref 69), some (.int a1), some (.int a2), some (.int a3), some (.int a4), none] [] g = some r :=
  Y_iload dX5_weighingsWith_20 rfl <| Y_iload_n dX5_weighingsWith_22 rfl <| Y_eq 31 dX5_weighingsWith_23 rfl (fun q => X_le (xle_s (xle_s (xle_s (xle_s (xle_s (xle_n xle_0)))))) (k1 q)) (fun q => X_le (xle_s (xle_s (xle_s (xle_s (xle_s (xle_n xle_0)))))) (k2 q))
theorem bX5_weighingsWith_26 {d : Nat} {g : xSt} {r : Option Value × xSt} {a1 a2 a3 a4 : Int32} (k1 : a1 = a2 → xX (d + 1) mX5_weighingsWith 31 [some (.ref 69), some (.int a1), some (.int a2), some (.int a3), some (.int a4), none] [] g = some r) (k2 : ¬ (a1 = a2) → xX (d + 1) mX5_weighingsWith 81 [some (.ref 69), some (.int a1), some (.int a2), some (.int a3), some (.int a4), none] [] g = some r) : xX (d + 1) mX5_weighingsWith 26 [some (.ref 69), some (.int a1), some (.int a2), some (.int a3), some (.int a4), none] [] g = some r :=
  Y_iload_n dX5_weighingsWith_26 rfl <| Y_iload_n dX5_weighingsWith_27 rfl <| Y_ne 81 dX5_weighingsWith_28 rfl (fun q => X_le (xle_s (xle_s (xle_s (xle_s (xle_s (xle_n xle_0)))))) (k1 q)) (fun q => X_le (xle_s (xle_s (xle_s (xle_s (xle_s (xle_n xle_0)))))) (k2 q))
theorem bX5_weighingsWith_31 {d : Nat} {g : xSt} {r : Option Value × xSt} {a1 a2 a3 a4 r38 : Int32} {g38 : xSt} (W : xWf g) (hk38 : xCallM d mX5_pairOf [.int (xI g 69 0), .int a1, .int a4] g = some (some (.int r38), g38)) (W38 : xWf g38) (k : xX (d + 1) mX5_weighingsWith 81 [some (.ref 69), some (.int a1), some (.int a2), some (.int (a3 + (((xat (xI g38 73) 30 r38) + (xat (xI g38 73) 30 (10 + r38))) + (xat (xI g38 73) 30 (20 + r38))))), some (.int a4), none] [] g38 = some r) : xX (d + 1) mX5_weighingsWith 31 [some (.ref 69), some (.int a1), some (.int a2), some (.int a3), some (.int a4), none] [] g = some r :=
  Y_aload_n dX5_weighingsWith_31 rfl <| Y_getI dX5_weighingsWith_32 f_5_49 ft_5_0 (xis W 69 5 s_69 (Nat.le_of_ble_eq_true rfl)) <| Y_iload_n dX5_weighingsWith_35 rfl <| Y_iload dX5_weighingsWith_36 rfl <| Y_callS1 dX5_weighingsWith_38 cl_5_41 rfl rfl rfl rfl rfl (hk38) <| Y_istore dX5_weighingsWith_41 rfl rfl <| Y_iload_n dX5_weighingsWith_43 rfl <| Y_aload_n dX5_weighingsWith_44 rfl <| Y_getR dX5_weighingsWith_45 f_5_21 (by rw [ft_5_9]; rfl) (xis W38 69 5 s_69 (Nat.le_of_ble_eq_true rfl)) (xptr W38 69 9 p_69_9) <| Y_iload dX5_weighingsWith_48 rfl <| Y_callS1 dX5_weighingsWith_50 cl_5_73 rfl rfl rfl rfl rfl (c_at (xarr W38 (o := 73) s_73 (Nat.le_of_ble_eq_true rfl))) <| Y_aload_n dX5_weighingsWith_53 rfl <| Y_getR dX5_weighingsWith_54 f_5_21 (by rw [ft_5_9]; rfl) (xis W38 69 5 s_69 (Nat.le_of_ble_eq_true rfl)) (xptr W38 69 9 p_69_9) <| Y_bipush 10 dX5_weighingsWith_57 bp_10 <| Y_iload dX5_weighingsWith_59 rfl <| Y_iadd dX5_weighingsWith_61 <| Y_callS1 dX5_weighingsWith_62 cl_5_73 rfl rfl rfl rfl rfl (c_at (xarr W38 (o := 73) s_73 (Nat.le_of_ble_eq_true rfl))) <| Y_iadd dX5_weighingsWith_65 <| Y_aload_n dX5_weighingsWith_66 rfl <| Y_getR dX5_weighingsWith_67 f_5_21 (by rw [ft_5_9]; rfl) (xis W38 69 5 s_69 (Nat.le_of_ble_eq_true rfl)) (xptr W38 69 9 p_69_9) <| Y_bipush 20 dX5_weighingsWith_70 bp_20 <| Y_iload dX5_weighingsWith_72 rfl <| Y_iadd dX5_weighingsWith_74 <| Y_callS1 dX5_weighingsWith_75 cl_5_73 rfl rfl rfl rfl rfl (c_at (xarr W38 (o := 73) s_73 (Nat.le_of_ble_eq_true rfl))) <| Y_iadd dX5_weighingsWith_78 <| Y_iadd dX5_weighingsWith_79 <| Y_istore_n dX5_weighingsWith_80 rfl rfl <| X_le (xle_s (xle_s (xle_s (xle_s (xle_s (xle_n xle_0)))))) k
theorem bX5_weighingsWith_81 {d : Nat} {g : xSt} {r : Option Value × xSt} {a1 a2 a3 a4 : Int32} (k : xX (d + 1) mX5_weighingsWith 5 [some (.ref 69), some (.int a1), some (.int a2), some (.int a3), some (.int (a4 + 1)), none] [] g = some r) : xX (d + 1) mX5_weighingsWith 81 [some (.ref 69), some (.int a1), some (.int a2), some (.int a3), some (.int a4), none] [] g = some r :=
  Y_iinc 1 dX5_weighingsWith_81 rfl ic_1 rfl rfl <| Y_goto 5 dX5_weighingsWith_84 rfl <| X_le (xle_s (xle_s (xle_s (xle_s (xle_s (xle_n xle_0)))))) k
theorem bX5_weighingsWith_87 {d : Nat} {g : xSt} {r : Option Value × xSt} {a3 : Int32} (k : r = (some (.int a3), g)) : xX (d + 1) mX5_weighingsWith 87 [none, none, none, some (.int a3), none, none] [] g = some r :=
  Y_iload_n dX5_weighingsWith_87 rfl <| Y_iret dX5_weighingsWith_88 rfl k
theorem bX5_markOfRow_0 {d : Nat} {g : xSt} {r : Option Value × xSt} {o : Nat} (ho : xArr g o .int 5) (k : xX (d + 1) mX5_markOfRow 2 [some (.ref 69), some (.ref o), some (.int 0)] [] g = some r) : xX (d + 1) mX5_markOfRow 0 [some (.ref 69), some (.ref o), none] [] g = some r :=
  Y_iconst 0 dX5_markOfRow_0 ic_0 <| Y_istore_n dX5_markOfRow_1 rfl rfl <| X_le (xle_s (xle_s (xle_s xle_0))) k
theorem bX5_markOfRow_2 {d : Nat} {g : xSt} {r : Option Value × xSt} {a2 : Int32} {o : Nat} (W : xWf g) (ho : xArr g o .int 5) (k1 : (xI g 69 0) ≤ a2 → xX (d + 1) mX5_markOfRow 29 [some (.ref 69), none, none] [] g = some r) (k2 : ¬ ((xI g 69 0) ≤ a2) → xX (d + 1) mX5_markOfRow 10 [some (.ref 69), some (.ref o), some (.int a2)] [] g = some r) : xX (d + 1) mX5_markOfRow 2 [some (.ref 69), some (.ref o), some (.int a2)] [] g = some r :=
  Y_iload_n dX5_markOfRow_2 rfl <| Y_aload_n dX5_markOfRow_3 rfl <| Y_getI dX5_markOfRow_4 f_5_49 ft_5_0 (xis W 69 5 s_69 (Nat.le_of_ble_eq_true rfl)) <| Y_ge 29 dX5_markOfRow_7 rfl (fun q => X_le (xle_s (xle_n (xle_n xle_0))) (k1 q)) (fun q => X_le (xle_s (xle_s (xle_s xle_0))) (k2 q))
theorem bX5_markOfRow_10 {d : Nat} {g : xSt} {r : Option Value × xSt} {a2 : Int32} {o : Nat} (W : xWf g) (ho : xArr g o .int 5) (k : xX (d + 1) mX5_markOfRow 2 [some (.ref 69), some (.ref o), some (.int (a2 + 1))] [] (xput g 75 5 (xat (xI g o) 5 a2) a2) = some r) : xX (d + 1) mX5_markOfRow 10 [some (.ref 69), some (.ref o), some (.int a2)] [] g = some r :=
  Y_aload_n dX5_markOfRow_10 rfl <| Y_getR dX5_markOfRow_11 f_5_29 (by rw [ft_5_11]; rfl) (xis W 69 5 s_69 (Nat.le_of_ble_eq_true rfl)) (xptr W 69 11 p_69_11) <| Y_aload_n dX5_markOfRow_14 rfl <| Y_iload_n dX5_markOfRow_15 rfl <| Y_callS1 dX5_markOfRow_16 cl_5_73 rfl rfl rfl rfl rfl (c_at (ho)) <| Y_iload_n dX5_markOfRow_19 rfl <| Y_callS0 dX5_markOfRow_20 cl_5_53 rfl rfl rfl rfl rfl (c_put (xarr W (o := 75) s_75 (Nat.le_of_ble_eq_true rfl))) <| Y_iinc 1 dX5_markOfRow_23 rfl ic_1 rfl rfl <| Y_goto 2 dX5_markOfRow_26 rfl <| X_le (xle_s (xle_s (xle_s xle_0))) k
theorem bX5_markOfRow_29 {d : Nat} {g : xSt} {r : Option Value × xSt} {r30 : Int32} {g30 : xSt} (W : xWf g) (hk30 : xCallM d mX5_markOfDigits [.ref 69] g = some (some (.int r30), g30)) (W30 : xWf g30) (k : r = (some (.int r30), g30)) : xX (d + 1) mX5_markOfRow 29 [some (.ref 69), none, none] [] g = some r :=
  Y_aload_n dX5_markOfRow_29 rfl <| Y_callV1 dX5_markOfRow_30 cl_5_77 rfl rfl (xis W 69 5 s_69 (Nat.le_of_ble_eq_true rfl)) rfl rfl rfl (hk30) <| Y_iret dX5_markOfRow_33 rfl k
theorem bX5_largestSet_0 {d : Nat} {g : xSt} {r : Option Value × xSt} {a1 : Int32} (k : xX (d + 1) mX5_largestSet 4 [some (.ref 69), some (.int a1), some (.int 0), some (.int 1)] [] g = some r) : xX (d + 1) mX5_largestSet 0 [some (.ref 69), some (.int a1), none, none] [] g = some r :=
  Y_iconst 0 dX5_largestSet_0 ic_0 <| Y_istore_n dX5_largestSet_1 rfl rfl <| Y_iconst 1 dX5_largestSet_2 ic_1 <| Y_istore_n dX5_largestSet_3 rfl rfl <| X_le (xle_s (xle_s (xle_s (xle_s xle_0)))) k
theorem bX5_largestSet_4 {d : Nat} {g : xSt} {r : Option Value × xSt} {a1 a2 a3 : Int32} (W : xWf g) (k1 : (1 <<< ((xI g 69 0) &&& 31)) ≤ a3 → xX (d + 1) mX5_largestSet 42 [none, none, some (.int a2), none] [] g = some r) (k2 : ¬ ((1 <<< ((xI g 69 0) &&& 31)) ≤ a3) → xX (d + 1) mX5_largestSet 14 [some (.ref 69), some (.int a1), some (.int a2), some (.int a3)] [] g = some r) : xX (d + 1) mX5_largestSet 4 [some (.ref 69), some (.int a1), some (.int a2), some (.int a3)] [] g = some r :=
  Y_iload_n dX5_largestSet_4 rfl <| Y_iconst 1 dX5_largestSet_5 ic_1 <| Y_aload_n dX5_largestSet_6 rfl <| Y_getI dX5_largestSet_7 f_5_49 ft_5_0 (xis W 69 5 s_69 (Nat.le_of_ble_eq_true rfl)) <| Y_ishl dX5_largestSet_10 <| Y_ge 42 dX5_largestSet_11 rfl (fun q => X_le (xle_n (xle_n (xle_s (xle_n xle_0)))) (k1 q)) (fun q => X_le (xle_s (xle_s (xle_s (xle_s xle_0)))) (k2 q))
theorem bX5_largestSet_14 {d : Nat} {g : xSt} {r : Option Value × xSt} {a1 a2 a3 : Int32} (k1 : (xbci a3) ≤ (xbci a2) → xX (d + 1) mX5_largestSet 36 [some (.ref 69), some (.int a1), some (.int a2), some (.int a3)] [] g = some r) (k2 : ¬ ((xbci a3) ≤ (xbci a2)) → xX (d + 1) mX5_largestSet 25 [some (.ref 69), some (.int a1), some (.int a2), some (.int a3)] [] g = some r) : xX (d + 1) mX5_largestSet 14 [some (.ref 69), some (.int a1), some (.int a2), some (.int a3)] [] g = some r :=
  Y_iload_n dX5_largestSet_14 rfl <| Y_callS1 dX5_largestSet_15 cl_5_167 rfl rfl rfl rfl rfl (c_xbci) <| Y_iload_n dX5_largestSet_18 rfl <| Y_callS1 dX5_largestSet_19 cl_5_167 rfl rfl rfl rfl rfl (c_xbci) <| Y_le 36 dX5_largestSet_22 rfl (fun q => X_le (xle_s (xle_s (xle_s (xle_s xle_0)))) (k1 q)) (fun q => X_le (xle_s (xle_s (xle_s (xle_s xle_0)))) (k2 q))
theorem bX5_largestSet_25 {d : Nat} {g : xSt} {r : Option Value × xSt} {a1 a2 a3 r28 : Int32} {g28 : xSt} (W : xWf g) (hk28 : xCallM d mX5_isSet [.ref 69, .int a3, .int a1] g = some (some (.int r28), g28)) (W28 : xWf g28) (k1 : r28 = 0 → xX (d + 1) mX5_largestSet 36 [some (.ref 69), some (.int a1), some (.int a2), some (.int a3)] [] g28 = some r) (k2 : ¬ (r28 = 0) → xX (d + 1) mX5_largestSet 34 [some (.ref 69), some (.int a1), none, some (.int a3)] [] g28 = some r) : xX (d + 1) mX5_largestSet 25 [some (.ref 69), some (.int a1), some (.int a2), some (.int a3)] [] g = some r :=
  Y_aload_n dX5_largestSet_25 rfl <| Y_iload_n dX5_largestSet_26 rfl <| Y_iload_n dX5_largestSet_27 rfl <| Y_callV1 dX5_largestSet_28 cl_5_172 rfl rfl (xis W 69 5 s_69 (Nat.le_of_ble_eq_true rfl)) rfl rfl rfl (hk28) <| Y_eq0 36 dX5_largestSet_31 rfl (fun q => X_le (xle_s (xle_s (xle_s (xle_s xle_0)))) (k1 q)) (fun q => X_le (xle_s (xle_s (xle_n (xle_s xle_0)))) (k2 q))
theorem bX5_largestSet_34 {d : Nat} {g : xSt} {r : Option Value × xSt} {a1 a3 : Int32} (k : xX (d + 1) mX5_largestSet 36 [some (.ref 69), some (.int a1), some (.int a3), some (.int a3)] [] g = some r) : xX (d + 1) mX5_largestSet 34 [some (.ref 69), some (.int a1), none, some (.int a3)] [] g = some r :=
  Y_iload_n dX5_largestSet_34 rfl <| Y_istore_n dX5_largestSet_35 rfl rfl <| X_le (xle_s (xle_s (xle_s (xle_s xle_0)))) k
theorem bX5_largestSet_36 {d : Nat} {g : xSt} {r : Option Value × xSt} {a1 a2 a3 : Int32} (k : xX (d + 1) mX5_largestSet 4 [some (.ref 69), some (.int a1), some (.int a2), some (.int (a3 + 1))] [] g = some r) : xX (d + 1) mX5_largestSet 36 [some (.ref 69), some (.int a1), some (.int a2), some (.int a3)] [] g = some r :=
  Y_iinc 1 dX5_largestSet_36 rfl ic_1 rfl rfl <| Y_goto 4 dX5_largestSet_39 rfl <| X_le (xle_s (xle_s (xle_s (xle_s xle_0)))) k
theorem bX5_largestSet_42 {d : Nat} {g : xSt} {r : Option Value × xSt} {a2 : Int32} (k : r = (some (.int a2), g)) : xX (d + 1) mX5_largestSet 42 [none, none, some (.int a2), none] [] g = some r :=
  Y_iload_n dX5_largestSet_42 rfl <| Y_iret dX5_largestSet_43 rfl k
theorem bX5_isSet_0 {d : Nat} {g : xSt} {r : Option Value × xSt} {a1 a2 : Int32} (k : xX (d + 1) mX5_isSet 2 [some (.ref 69), some (.int a1), some (.int a2), some (.int 0), none, none, none] [] g = some r) : xX (d + 1) mX5_isSet 0 [some (.ref 69), some (.int a1), some (.int a2), none, none, none, none] [] g = some r :=
  Y_iconst 0 dX5_isSet_0 ic_0 <| Y_istore_n dX5_isSet_1 rfl rfl <| X_le (xle_s (xle_s (xle_s (xle_s (xle_n (xle_n (xle_n xle_0))))))) k
theorem bX5_isSet_2 {d : Nat} {g : xSt} {r : Option Value × xSt} {a1 a2 a3 : Int32} (W : xWf g) (k1 : (xI g 69 0) ≤ a3 → xX (d + 1) mX5_isSet 121 [none, none, none, none, none, none, none] [] g = some r) (k2 : ¬ ((xI g 69 0) ≤ a3) → xX (d + 1) mX5_isSet 10 [some (.ref 69), some (.int a1), some (.int a2), some (.int a3), none, none, none] [] g = some r) : xX (d + 1) mX5_isSet 2 [some (.ref 69), some (.int a1), some (.int a2), some (.int a3), none, none, none] [] g = some r :=
  Y_iload_n dX5_isSet_2 rfl <| Y_aload_n dX5_isSet_3 rfl <| Y_getI dX5_isSet_4 f_5_49 ft_5_0 (xis W 69 5 s_69 (Nat.le_of_ble_eq_true rfl)) <| Y_ge 121 dX5_isSet_7 rfl (fun q => X_le (xle_n (xle_n (xle_n (xle_n (xle_n (xle_n (xle_n xle_0))))))) (k1 q)) (fun q => X_le (xle_s (xle_s (xle_s (xle_s (xle_n (xle_n (xle_n xle_0))))))) (k2 q))
theorem bX5_isSet_10 {d : Nat} {g : xSt} {r : Option Value × xSt} {a1 a2 a3 : Int32} (k : xX (d + 1) mX5_isSet 15 [some (.ref 69), some (.int a1), some (.int a2), some (.int a3), some (.int (a3 + 1)), none, none] [] g = some r) : xX (d + 1) mX5_isSet 10 [some (.ref 69), some (.int a1), some (.int a2), some (.int a3), none, none, none] [] g = some r :=
  Y_iload_n dX5_isSet_10 rfl <| Y_iconst 1 dX5_isSet_11 ic_1 <| Y_iadd dX5_isSet_12 <| Y_istore dX5_isSet_13 rfl rfl <| X_le (xle_s (xle_s (xle_s (xle_s (xle_s (xle_n (xle_n xle_0))))))) k
theorem bX5_isSet_15 {d : Nat} {g : xSt} {r : Option Value × xSt} {a1 a2 a3 a4 : Int32} (W : xWf g) (k1 : (xI g 69 0) ≤ a4 → xX (d + 1) mX5_isSet 115 [some (.ref 69), some (.int a1), some (.int a2), some (.int a3), none, none, none] [] g = some r) (k2 : ¬ ((xI g 69 0) ≤ a4) → xX (d + 1) mX5_isSet 24 [some (.ref 69), some (.int a1), some (.int a2), some (.int a3), some (.int a4), none, none] [] g = some r) : xX (d + 1) mX5_isSet 15 [some (.ref 69), some (.int a1), some (.int a2), some (.int a3), some (.int a4), none, none] [] g = some r :=
  Y_iload dX5_isSet_15 rfl <| Y_aload_n dX5_isSet_17 rfl <| Y_getI dX5_isSet_18 f_5_49 ft_5_0 (xis W 69 5 s_69 (Nat.le_of_ble_eq_true rfl)) <| Y_ge 115 dX5_isSet_21 rfl (fun q => X_le (xle_s (xle_s (xle_s (xle_s (xle_n (xle_n (xle_n xle_0))))))) (k1 q)) (fun q => X_le (xle_s (xle_s (xle_s (xle_s (xle_s (xle_n (xle_n xle_0))))))) (k2 q))
theorem bX5_isSet_24 {d : Nat} {g : xSt} {r : Option Value × xSt} {a1 a2 a3 a4 r29 : Int32} {g29 : xSt} (W : xWf g) (hk29 : xCallM d mX5_isSure [.ref 69, .int a3, .int a4, .int 1] g = some (some (.int r29), g29)) (W29 : xWf g29) (k1 : r29 = 0 → xX (d + 1) mX5_isSet 35 [some (.ref 69), some (.int a1), some (.int a2), some (.int a3), some (.int a4), none, none] [] g29 = some r) (k2 : ¬ (r29 = 0) → xX (d + 1) mX5_isSet 46 [some (.ref 69), some (.int a1), some (.int a2), some (.int a3), some (.int a4), none, none] [] g29 = some r) : xX (d + 1) mX5_isSet 24 [some (.ref 69), some (.int a1), some (.int a2), some (.int a3), some (.int a4), none, none] [] g = some r :=
  Y_aload_n dX5_isSet_24 rfl <| Y_iload_n dX5_isSet_25 rfl <| Y_iload dX5_isSet_26 rfl <| Y_iconst 1 dX5_isSet_28 ic_1 <| Y_callV1 dX5_isSet_29 cl_5_160 rfl rfl (xis W 69 5 s_69 (Nat.le_of_ble_eq_true rfl)) rfl rfl rfl (hk29) <| Y_ne0 46 dX5_isSet_32 rfl (fun q => X_le (xle_s (xle_s (xle_s (xle_s (xle_s (xle_n (xle_n xle_0))))))) (k1 q)) (fun q => X_le (xle_s (xle_s (xle_s (xle_s (xle_s (xle_n (xle_n xle_0))))))) (k2 q))
theorem bX5_isSet_35 {d : Nat} {g : xSt} {r : Option Value × xSt} {a1 a2 a3 a4 r40 : Int32} {g40 : xSt} (W : xWf g) (hk40 : xCallM d mX5_isSure [.ref 69, .int a3, .int a4, .int 2] g = some (some (.int r40), g40)) (W40 : xWf g40) (k1 : r40 = 0 → xX (d + 1) mX5_isSet 50 [some (.ref 69), some (.int a1), some (.int a2), some (.int a3), some (.int a4), none, none] [] g40 = some r) (k2 : ¬ (r40 = 0) → xX (d + 1) mX5_isSet 46 [some (.ref 69), some (.int a1), some (.int a2), some (.int a3), some (.int a4), none, none] [] g40 = some r) : xX (d + 1) mX5_isSet 35 [some (.ref 69), some (.int a1), some (.int a2), some (.int a3), some (.int a4), none, none] [] g = some r :=
  Y_aload_n dX5_isSet_35 rfl <| Y_iload_n dX5_isSet_36 rfl <| Y_iload dX5_isSet_37 rfl <| Y_iconst 2 dX5_isSet_39 ic_2 <| Y_callV1 dX5_isSet_40 cl_5_160 rfl rfl (xis W 69 5 s_69 (Nat.le_of_ble_eq_true rfl)) rfl rfl rfl (hk40) <| Y_eq0 50 dX5_isSet_43 rfl (fun q => X_le (xle_s (xle_s (xle_s (xle_s (xle_s (xle_n (xle_n xle_0))))))) (k1 q)) (fun q => X_le (xle_s (xle_s (xle_s (xle_s (xle_s (xle_n (xle_n xle_0))))))) (k2 q))
theorem bX5_isSet_46 {d : Nat} {g : xSt} {r : Option Value × xSt} {a1 a2 a3 a4 : Int32} (k : xX (d + 1) mX5_isSet 51 [some (.ref 69), some (.int a1), some (.int a2), some (.int a3), some (.int a4), none, none] [.int 1] g = some r) : xX (d + 1) mX5_isSet 46 [some (.ref 69), some (.int a1), some (.int a2), some (.int a3), some (.int a4), none, none] [] g = some r :=
  Y_iconst 1 dX5_isSet_46 ic_1 <| Y_goto 51 dX5_isSet_47 rfl <| X_le (xle_s (xle_s (xle_s (xle_s (xle_s (xle_n (xle_n xle_0))))))) k
theorem bX5_isSet_50 {d : Nat} {g : xSt} {r : Option Value × xSt} {a1 a2 a3 a4 : Int32} (k : xX (d + 1) mX5_isSet 51 [some (.ref 69), some (.int a1), some (.int a2), some (.int a3), some (.int a4), none, none] [.int 0] g = some r) : xX (d + 1) mX5_isSet 50 [some (.ref 69), some (.int a1), some (.int a2), some (.int a3), some (.int a4), none, none] [] g = some r :=
  Y_iconst 0 dX5_isSet_50 ic_0 <| X_le (xle_s (xle_s (xle_s (xle_s (xle_s (xle_n (xle_n xle_0))))))) k
theorem bX5_isSet_51 {d : Nat} {g : xSt} {r : Option Value × xSt} {a1 a2 a3 a4 s0 : Int32} (k1 : a2 = 0 → xX (d + 1) mX5_isSet 81 [some (.ref 69), some (.int a1), some (.int a2), some (.int a3), some (.int a4), some (.int s0), none] [] g = some r) (k2 : ¬ (a2 = 0) → xX (d + 1) mX5_isSet 57 [some (.ref 69), some (.int a1), some (.int a2), some (.int a3), some (.int a4), some (.int s0), none] [] g = some r) : xX (d + 1) mX5_isSet 51 [some (.ref 69), some (.int a1), some (.int a2), some (.int a3), some (.int a4), none, none] [.int s0] g = some r :=
  Y_istore dX5_isSet_51 rfl rfl <| Y_iload_n dX5_isSet_53 rfl <| Y_eq0 81 dX5_isSet_54 rfl (fun q => X_le (xle_s (xle_s (xle_s (xle_s (xle_s (xle_s (xle_n xle_0))))))) (k1 q)) (fun q => X_le (xle_s (xle_s (xle_s (xle_s (xle_s (xle_s (xle_n xle_0))))))) (k2 q))
theorem bX5_isSet_57 {d : Nat} {g : xSt} {r : Option Value × xSt} {a1 a2 a3 a4 a5 : Int32} (k1 : a5 = 0 → xX (d + 1) mX5_isSet 62 [some (.ref 69), some (.int a1), some (.int a2), some (.int a3), some (.int a4), none, none] [] g = some r) (k2 : ¬ (a5 = 0) → xX (d + 1) mX5_isSet 77 [some (.ref 69), some (.int a1), some (.int a2), some (.int a3), some (.int a4), none, none] [] g = some r) : xX (d + 1) mX5_isSet 57 [some (.ref 69), some (.int a1), some (.int a2), some (.int a3), some (.int a4), some (.int a5), none] [] g = some r :=
  Y_iload dX5_isSet_57 rfl <| Y_ne0 77 dX5_isSet_59 rfl (fun q => X_le (xle_s (xle_s (xle_s (xle_s (xle_s (xle_n (xle_n xle_0))))))) (k1 q)) (fun q => X_le (xle_s (xle_s (xle_s (xle_s (xle_s (xle_n (xle_n xle_0))))))) (k2 q))
theorem bX5_isSet_62 {d : Nat} {g : xSt} {r : Option Value × xSt} {a1 a2 a3 a4 r67 : Int32} {g67 : xSt} (W : xWf g) (hk67 : xCallM d mX5_isSure [.ref 69, .int a3, .int a4, .int 0] g = some (some (.int r67), g67)) (W67 : xWf g67) (k1 : r67 = 0 → xX (d + 1) mX5_isSet 73 [some (.ref 69), some (.int a1), some (.int a2), some (.int a3), some (.int a4), none, none] [] g67 = some r) (k2 : ¬ (r67 = 0) → xX (d + 1) mX5_isSet 77 [some (.ref 69), some (.int a1), some (.int a2), some (.int a3), some (.int a4), none, none] [] g67 = some r) : xX (d + 1) mX5_isSet 62 [some (.ref 69), some (.int a1), some (.int a2), some (.int a3), some (.int a4), none, none] [] g = some r :=
  Y_aload_n dX5_isSet_62 rfl <| Y_iload_n dX5_isSet_63 rfl <| Y_iload dX5_isSet_64 rfl <| Y_iconst 0 dX5_isSet_66 ic_0 <| Y_callV1 dX5_isSet_67 cl_5_160 rfl rfl (xis W 69 5 s_69 (Nat.le_of_ble_eq_true rfl)) rfl rfl rfl (hk67) <| Y_ne0 77 dX5_isSet_70 rfl (fun q => X_le (xle_s (xle_s (xle_s (xle_s (xle_s (xle_n (xle_n xle_0))))))) (k1 q)) (fun q => X_le (xle_s (xle_s (xle_s (xle_s (xle_s (xle_n (xle_n xle_0))))))) (k2 q))
theorem bX5_isSet_73 {d : Nat} {g : xSt} {r : Option Value × xSt} {a1 a2 a3 a4 : Int32} (k : xX (d + 1) mX5_isSet 83 [some (.ref 69), some (.int a1), some (.int a2), some (.int a3), some (.int a4), none, none] [.int 1] g = some r) : xX (d + 1) mX5_isSet 73 [some (.ref 69), some (.int a1), some (.int a2), some (.int a3), some (.int a4), none, none] [] g = some r :=
  Y_iconst 1 dX5_isSet_73 ic_1 <| Y_goto 83 dX5_isSet_74 rfl <| X_le (xle_s (xle_s (xle_s (xle_s (xle_s (xle_n (xle_n xle_0))))))) k
theorem bX5_isSet_77 {d : Nat} {g : xSt} {r : Option Value × xSt} {a1 a2 a3 a4 : Int32} (k : xX (d + 1) mX5_isSet 83 [some (.ref 69), some (.int a1), some (.int a2), some (.int a3), some (.int a4), none, none] [.int 0] g = some r) : xX (d + 1) mX5_isSet 77 [some (.ref 69), some (.int a1), some (.int a2), some (.int a3), some (.int a4), none, none] [] g = some r :=
  Y_iconst 0 dX5_isSet_77 ic_0 <| Y_goto 83 dX5_isSet_78 rfl <| X_le (xle_s (xle_s (xle_s (xle_s (xle_s (xle_n (xle_n xle_0))))))) k
theorem bX5_isSet_81 {d : Nat} {g : xSt} {r : Option Value × xSt} {a1 a2 a3 a4 a5 : Int32} (k : xX (d + 1) mX5_isSet 83 [some (.ref 69), some (.int a1), some (.int a2), some (.int a3), some (.int a4), none, none] [.int a5] g = some r) : xX (d + 1) mX5_isSet 81 [some (.ref 69), some (.int a1), some (.int a2), some (.int a3), some (.int a4), some (.int a5), none] [] g = some r :=
  Y_iload dX5_isSet_81 rfl <| X_le (xle_s (xle_s (xle_s (xle_s (xle_s (xle_n (xle_n xle_0))))))) k
theorem bX5_isSet_83 {d : Nat} {g : xSt} {r : Option Value × xSt} {a1 a2 a3 a4 s0 : Int32} (k1 : (xbit a1 a3) = 0 → xX (d + 1) mX5_isSet 109 [some (.ref 69), some (.int a1), some (.int a2), some (.int a3), some (.int a4), none, none] [] g = some r) (k2 : ¬ ((xbit a1 a3) = 0) → xX (d + 1) mX5_isSet 93 [some (.ref 69), some (.int a1), some (.int a2), some (.int a3), some (.int a4), none, some (.int s0)] [] g = some r) : xX (d + 1) mX5_isSet 83 [some (.ref 69), some (.int a1), some (.int a2), some (.int a3), some (.int a4), none, none] [.int s0] g = some r :=
  Y_istore dX5_isSet_83 rfl rfl <| Y_iload_n dX5_isSet_85 rfl <| Y_iload_n dX5_isSet_86 rfl <| Y_callS1 dX5_isSet_87 cl_5_142 rfl rfl rfl rfl rfl (c_xbit) <| Y_eq0 109 dX5_isSet_90 rfl (fun q => X_le (xle_s (xle_s (xle_s (xle_s (xle_s (xle_n (xle_n xle_0))))))) (k1 q)) (fun q => X_le (xle_s (xle_s (xle_s (xle_s (xle_s (xle_n (xle_s xle_0))))))) (k2 q))
theorem bX5_isSet_93 {d : Nat} {g : xSt} {r : Option Value × xSt} {a1 a2 a3 a4 a6 : Int32} (k1 : (xbit a1 a4) = 0 → xX (d + 1) mX5_isSet 109 [some (.ref 69), some (.int a1), some (.int a2), some (.int a3), some (.int a4), none, none] [] g = some r) (k2 : ¬ ((xbit a1 a4) = 0) → xX (d + 1) mX5_isSet 102 [some (.ref 69), some (.int a1), some (.int a2), some (.int a3), some (.int a4), none, some (.int a6)] [] g = some r) : xX (d + 1) mX5_isSet 93 [some (.ref 69), some (.int a1), some (.int a2), some (.int a3), some (.int a4), none, some (.int a6)] [] g = some r :=
  Y_iload_n dX5_isSet_93 rfl <| Y_iload dX5_isSet_94 rfl <| Y_callS1 dX5_isSet_96 cl_5_142 rfl rfl rfl rfl rfl (c_xbit) <| Y_eq0 109 dX5_isSet_99 rfl (fun q => X_le (xle_s (xle_s (xle_s (xle_s (xle_s (xle_n (xle_n xle_0))))))) (k1 q)) (fun q => X_le (xle_s (xle_s (xle_s (xle_s (xle_s (xle_n (xle_s xle_0))))))) (k2 q))
theorem bX5_isSet_102 {d : Nat} {g : xSt} {r : Option Value × xSt} {a1 a2 a3 a4 a6 : Int32} (k1 : a6 = 0 → xX (d + 1) mX5_isSet 107 [none, none, none, none, none, none, none] [] g = some r) (k2 : ¬ (a6 = 0) → xX (d + 1) mX5_isSet 109 [some (.ref 69), some (.int a1), some (.int a2), some (.int a3), some (.int a4), none, none] [] g = some r) : xX (d + 1) mX5_isSet 102 [some (.ref 69), some (.int a1), some (.int a2), some (.int a3), some (.int a4), none, some (.int a6)] [] g = some r :=
  Y_iload dX5_isSet_102 rfl <| Y_ne0 109 dX5_isSet_104 rfl (fun q => X_le (xle_n (xle_n (xle_n (xle_n (xle_n (xle_n (xle_n xle_0))))))) (k1 q)) (fun q => X_le (xle_s (xle_s (xle_s (xle_s (xle_s (xle_n (xle_n xle_0))))))) (k2 q))
theorem bX5_isSet_107 {d : Nat} {g : xSt} {r : Option Value × xSt}  (k : r = (some (.int 0), g)) : xX (d + 1) mX5_isSet 107 [none, none, none, none, none, none, none] [] g = some r :=
  Y_iconst 0 dX5_isSet_107 ic_0 <| Y_zret dX5_isSet_108 rfl (by decide) k
theorem bX5_isSet_109 {d : Nat} {g : xSt} {r : Option Value × xSt} {a1 a2 a3 a4 : Int32} (k : xX (d + 1) mX5_isSet 15 [some (.ref 69), some (.int a1), some (.int a2), some (.int a3), some (.int (a4 + 1)), none, none] [] g = some r) : xX (d + 1) mX5_isSet 109 [some (.ref 69), some (.int a1), some (.int a2), some (.int a3), some (.int a4), none, none] [] g = some r :=
  Y_iinc 1 dX5_isSet_109 rfl ic_1 rfl rfl <| Y_goto 15 dX5_isSet_112 rfl <| X_le (xle_s (xle_s (xle_s (xle_s (xle_s (xle_n (xle_n xle_0))))))) k
theorem bX5_isSet_115 {d : Nat} {g : xSt} {r : Option Value × xSt} {a1 a2 a3 : Int32} (k : xX (d + 1) mX5_isSet 2 [some (.ref 69), some (.int a1), some (.int a2), some (.int (a3 + 1)), none, none, none] [] g = some r) : xX (d + 1) mX5_isSet 115 [some (.ref 69), some (.int a1), some (.int a2), some (.int a3), none, none, none] [] g = some r :=
  Y_iinc 1 dX5_isSet_115 rfl ic_1 rfl rfl <| Y_goto 2 dX5_isSet_118 rfl <| X_le (xle_s (xle_s (xle_s (xle_s (xle_n (xle_n (xle_n xle_0))))))) k
theorem bX5_isSet_121 {d : Nat} {g : xSt} {r : Option Value × xSt}  (k : r = (some (.int 1), g)) : xX (d + 1) mX5_isSet 121 [none, none, none, none, none, none, none] [] g = some r :=
  Y_iconst 1 dX5_isSet_121 ic_1 <| Y_zret dX5_isSet_122 rfl (by decide) k
theorem bX5_addSwapped_0 {d : Nat} {g : xSt} {r : Option Value × xSt} {a3 : Int32} {o : Nat} (ho : xArr g o .int 5) (k : xX (d + 1) mX5_addSwapped 3 [some (.ref 69), some (.ref 76), some (.ref o), some (.int a3), some (.int 0), none, none] [] g = some r) : xX (d + 1) mX5_addSwapped 0 [some (.ref 69), some (.ref 76), some (.ref o), some (.int a3), none, none, none] [] g = some r :=
  Y_iconst 0 dX5_addSwapped_0 ic_0 <| Y_istore dX5_addSwapped_1 rfl rfl <| X_le (xle_s (xle_s (xle_s (xle_s (xle_s (xle_n (xle_n xle_0))))))) k
theorem bX5_addSwapped_3 {d : Nat} {g : xSt} {r : Option Value × xSt} {a3 a4 : Int32} {o : Nat} (W : xWf g) (ho : xArr g o .int 5) (k1 : (1 <<< ((imax ((xI g 69 0) - 1) 0) &&& 31)) ≤ a4 → xX (d + 1) mX5_addSwapped 128 [none, none, none, none, none, none, none] [] g = some r) (k2 : ¬ ((1 <<< ((imax ((xI g 69 0) - 1) 0) &&& 31)) ≤ a4) → xX (d + 1) mX5_addSwapped 20 [some (.ref 69), some (.ref 76), some (.ref o), some (.int a3), some (.int a4), none, none] [] g = some r) : xX (d + 1) mX5_addSwapped 3 [some (.ref 69), some (.ref 76), some (.ref o), some (.int a3), some (.int a4), none, none] [] g = some r :=
  Y_iload dX5_addSwapped_3 rfl <| Y_iconst 1 dX5_addSwapped_5 ic_1 <| Y_aload_n dX5_addSwapped_6 rfl <| Y_getI dX5_addSwapped_7 f_5_49 ft_5_0 (xis W 69 5 s_69 (Nat.le_of_ble_eq_true rfl)) <| Y_iconst 1 dX5_addSwapped_10 ic_1 <| Y_isub dX5_addSwapped_11 <| Y_iconst 0 dX5_addSwapped_12 ic_0 <| Y_max dX5_addSwapped_13 km_5_38 kn_5_38 rfl <| Y_ishl dX5_addSwapped_16 <| Y_ge 128 dX5_addSwapped_17 rfl (fun q => X_le (xle_n (xle_n (xle_n (xle_n (xle_n (xle_n (xle_n xle_0))))))) (k1 q)) (fun q => X_le (xle_s (xle_s (xle_s (xle_s (xle_s (xle_n (xle_n xle_0))))))) (k2 q))
theorem bX5_addSwapped_20 {d : Nat} {g : xSt} {r : Option Value × xSt} {a3 a4 : Int32} {o : Nat} (ho : xArr g o .int 5) (k1 : a3 < (xbci a4) → xX (d + 1) mX5_addSwapped 122 [some (.ref 69), some (.ref 76), some (.ref o), some (.int a3), some (.int a4), none, none] [] g = some r) (k2 : ¬ (a3 < (xbci a4)) → xX (d + 1) mX5_addSwapped 29 [some (.ref 69), some (.ref 76), some (.ref o), some (.int a3), some (.int a4), none, none] [] g = some r) : xX (d + 1) mX5_addSwapped 20 [some (.ref 69), some (.ref 76), some (.ref o), some (.int a3), some (.int a4), none, none] [] g = some r :=
  Y_iload dX5_addSwapped_20 rfl <| Y_callS1 dX5_addSwapped_22 cl_5_167 rfl rfl rfl rfl rfl (c_xbci) <| Y_iload_n dX5_addSwapped_25 rfl <| Y_gt 122 dX5_addSwapped_26 rfl (fun q => X_le (xle_s (xle_s (xle_s (xle_s (xle_s (xle_n (xle_n xle_0))))))) (k1 q)) (fun q => X_le (xle_s (xle_s (xle_s (xle_s (xle_s (xle_n (xle_n xle_0))))))) (k2 q))
theorem bX5_addSwapped_29 {d : Nat} {g : xSt} {r : Option Value × xSt} {a3 a4 : Int32} {o : Nat} (ho : xArr g o .int 5) (k1 : (a4 &&& (a4 <<< (1 &&& 31))) = 0 → xX (d + 1) mX5_addSwapped 39 [some (.ref 69), some (.ref 76), some (.ref o), some (.int a3), some (.int a4), none, none] [] g = some r) (k2 : ¬ ((a4 &&& (a4 <<< (1 &&& 31))) = 0) → xX (d + 1) mX5_addSwapped 122 [some (.ref 69), some (.ref 76), some (.ref o), some (.int a3), some (.int a4), none, none] [] g = some r) : xX (d + 1) mX5_addSwapped 29 [some (.ref 69), some (.ref 76), some (.ref o), some (.int a3), some (.int a4), none, none] [] g = some r :=
  Y_iload dX5_addSwapped_29 rfl <| Y_iload dX5_addSwapped_31 rfl <| Y_iconst 1 dX5_addSwapped_33 ic_1 <| Y_ishl dX5_addSwapped_34 <| Y_iand dX5_addSwapped_35 <| Y_ne0 122 dX5_addSwapped_36 rfl (fun q => X_le (xle_s (xle_s (xle_s (xle_s (xle_s (xle_n (xle_n xle_0))))))) (k1 q)) (fun q => X_le (xle_s (xle_s (xle_s (xle_s (xle_s (xle_n (xle_n xle_0))))))) (k2 q))
theorem bX5_addSwapped_39 {d : Nat} {g : xSt} {r : Option Value × xSt} {a3 a4 : Int32} {o : Nat} (ho : xArr g o .int 5) (k : xX (d + 1) mX5_addSwapped 42 [some (.ref 69), some (.ref 76), some (.ref o), some (.int a3), some (.int a4), some (.int 0), none] [] g = some r) : xX (d + 1) mX5_addSwapped 39 [some (.ref 69), some (.ref 76), some (.ref o), some (.int a3), some (.int a4), none, none] [] g = some r :=
  Y_iconst 0 dX5_addSwapped_39 ic_0 <| Y_istore dX5_addSwapped_40 rfl rfl <| X_le (xle_s (xle_s (xle_s (xle_s (xle_s (xle_s (xle_n xle_0))))))) k
theorem bX5_addSwapped_42 {d : Nat} {g : xSt} {r : Option Value × xSt} {a3 a4 a5 : Int32} {o : Nat} (W : xWf g) (ho : xArr g o .int 5) (k1 : (xI g 69 0) ≤ a5 → xX (d + 1) mX5_addSwapped 112 [some (.ref 69), some (.ref 76), some (.ref o), some (.int a3), some (.int a4), none, none] [] g = some r) (k2 : ¬ ((xI g 69 0) ≤ a5) → xX (d + 1) mX5_addSwapped 51 [some (.ref 69), some (.ref 76), some (.ref o), some (.int a3), some (.int a4), some (.int a5), none] [] g = some r) : xX (d + 1) mX5_addSwapped 42 [some (.ref 69), some (.ref 76), some (.ref o), some (.int a3), some (.int a4), some (.int a5), none] [] g = some r :=
  Y_iload dX5_addSwapped_42 rfl <| Y_aload_n dX5_addSwapped_44 rfl <| Y_getI dX5_addSwapped_45 f_5_49 ft_5_0 (xis W 69 5 s_69 (Nat.le_of_ble_eq_true rfl)) <| Y_ge 112 dX5_addSwapped_48 rfl (fun q => X_le (xle_s (xle_s (xle_s (xle_s (xle_s (xle_n (xle_n xle_0))))))) (k1 q)) (fun q => X_le (xle_s (xle_s (xle_s (xle_s (xle_s (xle_s (xle_n xle_0))))))) (k2 q))
theorem bX5_addSwapped_51 {d : Nat} {g : xSt} {r : Option Value × xSt} {a3 a4 a5 : Int32} {o : Nat} (ho : xArr g o .int 5) (k1 : (xbit a4 a5) = 0 → xX (d + 1) mX5_addSwapped 68 [some (.ref 69), some (.ref 76), some (.ref o), some (.int a3), some (.int a4), some (.int a5), none] [] g = some r) (k2 : ¬ ((xbit a4 a5) = 0) → xX (d + 1) mX5_addSwapped 61 [some (.ref 69), some (.ref 76), some (.ref o), some (.int a3), some (.int a4), some (.int a5), none] [] g = some r) : xX (d + 1) mX5_addSwapped 51 [some (.ref 69), some (.ref 76), some (.ref o), some (.int a3), some (.int a4), some (.int a5), none] [] g = some r :=
  Y_iload dX5_addSwapped_51 rfl <| Y_iload dX5_addSwapped_53 rfl <| Y_callS1 dX5_addSwapped_55 cl_5_142 rfl rfl rfl rfl rfl (c_xbit) <| Y_eq0 68 dX5_addSwapped_58 rfl (fun q => X_le (xle_s (xle_s (xle_s (xle_s (xle_s (xle_s (xle_n xle_0))))))) (k1 q)) (fun q => X_le (xle_s (xle_s (xle_s (xle_s (xle_s (xle_s (xle_n xle_0))))))) (k2 q))
theorem bX5_addSwapped_61 {d : Nat} {g : xSt} {r : Option Value × xSt} {a3 a4 a5 : Int32} {o : Nat} (ho : xArr g o .int 5) (k : xX (d + 1) mX5_addSwapped 89 [some (.ref 69), some (.ref 76), some (.ref o), some (.int a3), some (.int a4), some (.int a5), none] [.int (a5 + 1)] g = some r) : xX (d + 1) mX5_addSwapped 61 [some (.ref 69), some (.ref 76), some (.ref o), some (.int a3), some (.int a4), some (.int a5), none] [] g = some r :=
  Y_iload dX5_addSwapped_61 rfl <| Y_iconst 1 dX5_addSwapped_63 ic_1 <| Y_iadd dX5_addSwapped_64 <| Y_goto 89 dX5_addSwapped_65 rfl <| X_le (xle_s (xle_s (xle_s (xle_s (xle_s (xle_s (xle_n xle_0))))))) k
theorem bX5_addSwapped_68 {d : Nat} {g : xSt} {r : Option Value × xSt} {a3 a4 a5 : Int32} {o : Nat} (ho : xArr g o .int 5) (k1 : (xbit a4 (a5 - 1)) = 0 → xX (d + 1) mX5_addSwapped 87 [some (.ref 69), some (.ref 76), some (.ref o), some (.int a3), some (.int a4), some (.int a5), none] [] g = some r) (k2 : ¬ ((xbit a4 (a5 - 1)) = 0) → xX (d + 1) mX5_addSwapped 80 [some (.ref 69), some (.ref 76), some (.ref o), some (.int a3), some (.int a4), some (.int a5), none] [] g = some r) : xX (d + 1) mX5_addSwapped 68 [some (.ref 69), some (.ref 76), some (.ref o), some (.int a3), some (.int a4), some (.int a5), none] [] g = some r :=
  Y_iload dX5_addSwapped_68 rfl <| Y_iload dX5_addSwapped_70 rfl <| Y_iconst 1 dX5_addSwapped_72 ic_1 <| Y_isub dX5_addSwapped_73 <| Y_callS1 dX5_addSwapped_74 cl_5_142 rfl rfl rfl rfl rfl (c_xbit) <| Y_eq0 87 dX5_addSwapped_77 rfl (fun q => X_le (xle_s (xle_s (xle_s (xle_s (xle_s (xle_s (xle_n xle_0))))))) (k1 q)) (fun q => X_le (xle_s (xle_s (xle_s (xle_s (xle_s (xle_s (xle_n xle_0))))))) (k2 q))
theorem bX5_addSwapped_80 {d : Nat} {g : xSt} {r : Option Value × xSt} {a3 a4 a5 : Int32} {o : Nat} (ho : xArr g o .int 5) (k : xX (d + 1) mX5_addSwapped 89 [some (.ref 69), some (.ref 76), some (.ref o), some (.int a3), some (.int a4), some (.int a5), none] [.int (a5 - 1)] g = some r) : xX (d + 1) mX5_addSwapped 80 [some (.ref 69), some (.ref 76), some (.ref o), some (.int a3), some (.int a4), some (.int a5), none] [] g = some r :=
  Y_iload dX5_addSwapped_80 rfl <| Y_iconst 1 dX5_addSwapped_82 ic_1 <| Y_isub dX5_addSwapped_83 <| Y_goto 89 dX5_addSwapped_84 rfl <| X_le (xle_s (xle_s (xle_s (xle_s (xle_s (xle_s (xle_n xle_0))))))) k
theorem bX5_addSwapped_87 {d : Nat} {g : xSt} {r : Option Value × xSt} {a3 a4 a5 : Int32} {o : Nat} (ho : xArr g o .int 5) (k : xX (d + 1) mX5_addSwapped 89 [some (.ref 69), some (.ref 76), some (.ref o), some (.int a3), some (.int a4), some (.int a5), none] [.int a5] g = some r) : xX (d + 1) mX5_addSwapped 87 [some (.ref 69), some (.ref 76), some (.ref o), some (.int a3), some (.int a4), some (.int a5), none] [] g = some r :=
  Y_iload dX5_addSwapped_87 rfl <| X_le (xle_s (xle_s (xle_s (xle_s (xle_s (xle_s (xle_n xle_0))))))) k
theorem bX5_addSwapped_89 {d : Nat} {g : xSt} {r : Option Value × xSt} {a3 a4 a5 s0 : Int32} {o : Nat} (W : xWf g) (ho : xArr g o .int 5) (k : xX (d + 1) mX5_addSwapped 42 [some (.ref 69), some (.ref 76), some (.ref o), some (.int a3), some (.int a4), some (.int (a5 + 1)), none] [] (xput g 75 5 (xat (xI g o) 5 a5) s0) = some r) : xX (d + 1) mX5_addSwapped 89 [some (.ref 69), some (.ref 76), some (.ref o), some (.int a3), some (.int a4), some (.int a5), none] [.int s0] g = some r :=
  Y_istore dX5_addSwapped_89 rfl rfl <| Y_aload_n dX5_addSwapped_91 rfl <| Y_getR dX5_addSwapped_92 f_5_29 (by rw [ft_5_11]; rfl) (xis W 69 5 s_69 (Nat.le_of_ble_eq_true rfl)) (xptr W 69 11 p_69_11) <| Y_aload_n dX5_addSwapped_95 rfl <| Y_iload dX5_addSwapped_96 rfl <| Y_callS1 dX5_addSwapped_98 cl_5_73 rfl rfl rfl rfl rfl (c_at (ho)) <| Y_iload dX5_addSwapped_101 rfl <| Y_callS0 dX5_addSwapped_103 cl_5_53 rfl rfl rfl rfl rfl (c_put (xarr W (o := 75) s_75 (Nat.le_of_ble_eq_true rfl))) <| Y_iinc 1 dX5_addSwapped_106 rfl ic_1 rfl rfl <| Y_goto 42 dX5_addSwapped_109 rfl <| X_le (xle_s (xle_s (xle_s (xle_s (xle_s (xle_s (xle_n xle_0))))))) k
theorem bX5_addSwapped_112 {d : Nat} {g : xSt} {r : Option Value × xSt} {a3 a4 r114 : Int32} {g114 g119 : xSt} {o : Nat} (W : xWf g) (ho : xArr g o .int 5) (hk114 : xCallM d mX5_markOfDigits [.ref 69] g = some (some (.int r114), g114)) (W114 : xWf g114) (hk119 : xCallM d mX8_add [.ref 76, .int r114, .int a4] g114 = some (none, g119)) (W119 : xWf g119) (k : xX (d + 1) mX5_addSwapped 122 [some (.ref 69), some (.ref 76), some (.ref o), some (.int a3), some (.int a4), none, none] [] g119 = some r) : xX (d + 1) mX5_addSwapped 112 [some (.ref 69), some (.ref 76), some (.ref o), some (.int a3), some (.int a4), none, none] [] g = some r :=
  Y_aload_n dX5_addSwapped_112 rfl <| Y_aload_n dX5_addSwapped_113 rfl <| Y_callV1 dX5_addSwapped_114 cl_5_77 rfl rfl (xis W 69 5 s_69 (Nat.le_of_ble_eq_true rfl)) rfl rfl rfl (hk114) <| Y_iload dX5_addSwapped_117 rfl <| Y_callV0 dX5_addSwapped_119 cl_5_176 rfl rfl (xis W114 76 7 s_76 (Nat.le_of_ble_eq_true rfl)) rfl rfl rfl (hk119) <| X_le (xle_s (xle_s (xle_s (xle_s (xle_s (xle_n (xle_n xle_0))))))) k
theorem bX5_addSwapped_122 {d : Nat} {g : xSt} {r : Option Value × xSt} {a3 a4 : Int32} {o : Nat} (ho : xArr g o .int 5) (k : xX (d + 1) mX5_addSwapped 3 [some (.ref 69), some (.ref 76), some (.ref o), some (.int a3), some (.int (a4 + 1)), none, none] [] g = some r) : xX (d + 1) mX5_addSwapped 122 [some (.ref 69), some (.ref 76), some (.ref o), some (.int a3), some (.int a4), none, none] [] g = some r :=
  Y_iinc 1 dX5_addSwapped_122 rfl ic_1 rfl rfl <| Y_goto 3 dX5_addSwapped_125 rfl <| X_le (xle_s (xle_s (xle_s (xle_s (xle_s (xle_n (xle_n xle_0))))))) k
theorem bX5_addSwapped_128 {d : Nat} {g : xSt} {r : Option Value × xSt}  (k : r = (none, g)) : xX (d + 1) mX5_addSwapped 128 [none, none, none, none, none, none, none] [] g = some r :=
  Y_ret dX5_addSwapped_128 rfl k
