/-! stretches of HeavierRow$Book, by program (wip/whole/genall.py) -/
theorem dX0_begin_0 : decode mX0_begin.2.1 0 = .ok (.aload_n 0, 1) := by decide +kernel
theorem dX0_begin_1 : decode mX0_begin.2.1 1 = .ok (.iconst 0, 1) := by decide +kernel
theorem dX0_begin_2 : decode mX0_begin.2.1 2 = .ok (.putfield 38, 3) := by decide +kernel
theorem dX0_begin_5 : decode mX0_begin.2.1 5 = .ok (.aload_n 0, 1) := by decide +kernel
theorem dX0_begin_6 : decode mX0_begin.2.1 6 = .ok (.iconst 0, 1) := by decide +kernel
theorem dX0_begin_7 : decode mX0_begin.2.1 7 = .ok (.putfield 42, 3) := by decide +kernel
theorem dX0_begin_10 : decode mX0_begin.2.1 10 = .ok (.aload_n 0, 1) := by decide +kernel
theorem dX0_begin_11 : decode mX0_begin.2.1 11 = .ok (.iconst 0, 1) := by decide +kernel
theorem dX0_begin_12 : decode mX0_begin.2.1 12 = .ok (.putfield 45, 3) := by decide +kernel
theorem dX0_begin_15 : decode mX0_begin.2.1 15 = .ok (.aload_n 1, 1) := by decide +kernel
theorem dX0_begin_16 : decode mX0_begin.2.1 16 = .ok (.getfield 48, 3) := by decide +kernel
theorem dX0_begin_19 : decode mX0_begin.2.1 19 = .ok (.aload_n 0, 1) := by decide +kernel
theorem dX0_begin_20 : decode mX0_begin.2.1 20 = .ok (.getfield 35, 3) := by decide +kernel
theorem dX0_begin_23 : decode mX0_begin.2.1 23 = .ok (.invokestatic 51, 3) := by decide +kernel
theorem dX0_begin_26 : decode mX0_begin.2.1 26 = .ok (.return_, 1) := by decide +kernel
theorem dX0_isFull_0 : decode mX0_isFull.2.1 0 = .ok (.aload_n 0, 1) := by decide +kernel
theorem dX0_isFull_1 : decode mX0_isFull.2.1 1 = .ok (.getfield 38, 3) := by decide +kernel
theorem dX0_isFull_4 : decode mX0_isFull.2.1 4 = .ok (.bipush 60, 2) := by decide +kernel
theorem dX0_isFull_6 : decode mX0_isFull.2.1 6 = .ok (.if_icmp .lt 7, 3) := by decide +kernel
theorem dX0_isFull_9 : decode mX0_isFull.2.1 9 = .ok (.iconst 1, 1) := by decide +kernel
theorem dX0_isFull_10 : decode mX0_isFull.2.1 10 = .ok (.goto 4, 3) := by decide +kernel
theorem dX0_isFull_13 : decode mX0_isFull.2.1 13 = .ok (.iconst 0, 1) := by decide +kernel
theorem dX0_isFull_14 : decode mX0_isFull.2.1 14 = .ok (.ireturn, 1) := by decide +kernel
theorem dX0_balance_0 : decode mX0_balance.2.1 0 = .ok (.aload_n 0, 1) := by decide +kernel
theorem dX0_balance_1 : decode mX0_balance.2.1 1 = .ok (.iload_n 1, 1) := by decide +kernel
theorem dX0_balance_2 : decode mX0_balance.2.1 2 = .ok (.invokevirtual 60, 3) := by decide +kernel
theorem dX0_balance_5 : decode mX0_balance.2.1 5 = .ok (.aload_n 0, 1) := by decide +kernel
theorem dX0_balance_6 : decode mX0_balance.2.1 6 = .ok (.iload_n 2, 1) := by decide +kernel
theorem dX0_balance_7 : decode mX0_balance.2.1 7 = .ok (.invokevirtual 60, 3) := by decide +kernel
theorem dX0_balance_10 : decode mX0_balance.2.1 10 = .ok (.isub, 1) := by decide +kernel
theorem dX0_balance_11 : decode mX0_balance.2.1 11 = .ok (.istore 4, 2) := by decide +kernel
theorem dX0_balance_13 : decode mX0_balance.2.1 13 = .ok (.iload 4, 2) := by decide +kernel
theorem dX0_balance_15 : decode mX0_balance.2.1 15 = .ok (.aload_n 3, 1) := by decide +kernel
theorem dX0_balance_16 : decode mX0_balance.2.1 16 = .ok (.getfield 64, 3) := by decide +kernel
theorem dX0_balance_19 : decode mX0_balance.2.1 19 = .ok (.if_icmp .le 7, 3) := by decide +kernel
theorem dX0_balance_22 : decode mX0_balance.2.1 22 = .ok (.iconst 1, 1) := by decide +kernel
theorem dX0_balance_23 : decode mX0_balance.2.1 23 = .ok (.goto 18, 3) := by decide +kernel
theorem dX0_balance_26 : decode mX0_balance.2.1 26 = .ok (.iload 4, 2) := by decide +kernel
theorem dX0_balance_28 : decode mX0_balance.2.1 28 = .ok (.ineg, 1) := by decide +kernel
theorem dX0_balance_29 : decode mX0_balance.2.1 29 = .ok (.aload_n 3, 1) := by decide +kernel
theorem dX0_balance_30 : decode mX0_balance.2.1 30 = .ok (.getfield 64, 3) := by decide +kernel
theorem dX0_balance_33 : decode mX0_balance.2.1 33 = .ok (.if_icmp .le 7, 3) := by decide +kernel
theorem dX0_balance_36 : decode mX0_balance.2.1 36 = .ok (.iconst 2, 1) := by decide +kernel
theorem dX0_balance_37 : decode mX0_balance.2.1 37 = .ok (.goto 4, 3) := by decide +kernel
theorem dX0_balance_40 : decode mX0_balance.2.1 40 = .ok (.iconst 0, 1) := by decide +kernel
theorem dX0_balance_41 : decode mX0_balance.2.1 41 = .ok (.ireturn, 1) := by decide +kernel
theorem dX0_heapOf_0 : decode mX0_heapOf.2.1 0 = .ok (.iconst 0, 1) := by decide +kernel
theorem dX0_heapOf_1 : decode mX0_heapOf.2.1 1 = .ok (.istore_n 2, 1) := by decide +kernel
theorem dX0_heapOf_2 : decode mX0_heapOf.2.1 2 = .ok (.iconst 0, 1) := by decide +kernel
theorem dX0_heapOf_3 : decode mX0_heapOf.2.1 3 = .ok (.istore_n 3, 1) := by decide +kernel
theorem dX0_heapOf_4 : decode mX0_heapOf.2.1 4 = .ok (.iload_n 3, 1) := by decide +kernel
theorem dX0_heapOf_5 : decode mX0_heapOf.2.1 5 = .ok (.iconst 5, 1) := by decide +kernel
theorem dX0_heapOf_6 : decode mX0_heapOf.2.1 6 = .ok (.if_icmp .ge 28, 3) := by decide +kernel
theorem dX0_heapOf_9 : decode mX0_heapOf.2.1 9 = .ok (.iload_n 1, 1) := by decide +kernel
theorem dX0_heapOf_10 : decode mX0_heapOf.2.1 10 = .ok (.iload_n 3, 1) := by decide +kernel
theorem dX0_heapOf_11 : decode mX0_heapOf.2.1 11 = .ok (.invokestatic 67, 3) := by decide +kernel
theorem dX0_heapOf_14 : decode mX0_heapOf.2.1 14 = .ok (.ifCond .eq 14, 3) := by decide +kernel
theorem dX0_heapOf_17 : decode mX0_heapOf.2.1 17 = .ok (.iload_n 2, 1) := by decide +kernel
theorem dX0_heapOf_18 : decode mX0_heapOf.2.1 18 = .ok (.aload_n 0, 1) := by decide +kernel
theorem dX0_heapOf_19 : decode mX0_heapOf.2.1 19 = .ok (.getfield 35, 3) := by decide +kernel
theorem dX0_heapOf_22 : decode mX0_heapOf.2.1 22 = .ok (.iload_n 3, 1) := by decide +kernel
theorem dX0_heapOf_23 : decode mX0_heapOf.2.1 23 = .ok (.invokestatic 71, 3) := by decide +kernel
theorem dX0_heapOf_26 : decode mX0_heapOf.2.1 26 = .ok (.iadd, 1) := by decide +kernel
theorem dX0_heapOf_27 : decode mX0_heapOf.2.1 27 = .ok (.istore_n 2, 1) := by decide +kernel
theorem dX0_heapOf_28 : decode mX0_heapOf.2.1 28 = .ok (.iinc 3 1, 3) := by decide +kernel
theorem dX0_heapOf_31 : decode mX0_heapOf.2.1 31 = .ok (.goto (-27), 3) := by decide +kernel
theorem dX0_heapOf_34 : decode mX0_heapOf.2.1 34 = .ok (.iload_n 2, 1) := by decide +kernel
theorem dX0_heapOf_35 : decode mX0_heapOf.2.1 35 = .ok (.ireturn, 1) := by decide +kernel
theorem dX0_write_0 : decode mX0_write.2.1 0 = .ok (.aload_n 0, 1) := by decide +kernel
theorem dX0_write_1 : decode mX0_write.2.1 1 = .ok (.getfield 38, 3) := by decide +kernel
theorem dX0_write_4 : decode mX0_write.2.1 4 = .ok (.istore 4, 2) := by decide +kernel
theorem dX0_write_6 : decode mX0_write.2.1 6 = .ok (.aload_n 0, 1) := by decide +kernel
theorem dX0_write_7 : decode mX0_write.2.1 7 = .ok (.getfield 9, 3) := by decide +kernel
theorem dX0_write_10 : decode mX0_write.2.1 10 = .ok (.iload 4, 2) := by decide +kernel
theorem dX0_write_12 : decode mX0_write.2.1 12 = .ok (.iload_n 1, 1) := by decide +kernel
theorem dX0_write_13 : decode mX0_write.2.1 13 = .ok (.invokestatic 75, 3) := by decide +kernel
theorem dX0_write_16 : decode mX0_write.2.1 16 = .ok (.aload_n 0, 1) := by decide +kernel
theorem dX0_write_17 : decode mX0_write.2.1 17 = .ok (.getfield 15, 3) := by decide +kernel
theorem dX0_write_20 : decode mX0_write.2.1 20 = .ok (.iload 4, 2) := by decide +kernel
theorem dX0_write_22 : decode mX0_write.2.1 22 = .ok (.iload_n 2, 1) := by decide +kernel
theorem dX0_write_23 : decode mX0_write.2.1 23 = .ok (.invokestatic 75, 3) := by decide +kernel
theorem dX0_write_26 : decode mX0_write.2.1 26 = .ok (.aload_n 0, 1) := by decide +kernel
theorem dX0_write_27 : decode mX0_write.2.1 27 = .ok (.getfield 18, 3) := by decide +kernel
theorem dX0_write_30 : decode mX0_write.2.1 30 = .ok (.iload 4, 2) := by decide +kernel
theorem dX0_write_32 : decode mX0_write.2.1 32 = .ok (.iload_n 3, 1) := by decide +kernel
theorem dX0_write_33 : decode mX0_write.2.1 33 = .ok (.invokestatic 75, 3) := by decide +kernel
theorem dX0_write_36 : decode mX0_write.2.1 36 = .ok (.aload_n 0, 1) := by decide +kernel
theorem dX0_write_37 : decode mX0_write.2.1 37 = .ok (.getfield 21, 3) := by decide +kernel
theorem dX0_write_40 : decode mX0_write.2.1 40 = .ok (.iload 4, 2) := by decide +kernel
theorem dX0_write_42 : decode mX0_write.2.1 42 = .ok (.aload_n 0, 1) := by decide +kernel
theorem dX0_write_43 : decode mX0_write.2.1 43 = .ok (.getfield 57, 3) := by decide +kernel
theorem dX0_write_46 : decode mX0_write.2.1 46 = .ok (.invokestatic 75, 3) := by decide +kernel
theorem dX0_write_49 : decode mX0_write.2.1 49 = .ok (.aload_n 0, 1) := by decide +kernel
theorem dX0_write_50 : decode mX0_write.2.1 50 = .ok (.getfield 24, 3) := by decide +kernel
theorem dX0_write_53 : decode mX0_write.2.1 53 = .ok (.iload 4, 2) := by decide +kernel
theorem dX0_write_55 : decode mX0_write.2.1 55 = .ok (.iconst (-1), 1) := by decide +kernel
theorem dX0_write_56 : decode mX0_write.2.1 56 = .ok (.invokestatic 75, 3) := by decide +kernel
theorem dX0_write_59 : decode mX0_write.2.1 59 = .ok (.aload_n 0, 1) := by decide +kernel
theorem dX0_write_60 : decode mX0_write.2.1 60 = .ok (.getfield 27, 3) := by decide +kernel
theorem dX0_write_63 : decode mX0_write.2.1 63 = .ok (.iload 4, 2) := by decide +kernel
theorem dX0_write_65 : decode mX0_write.2.1 65 = .ok (.aload_n 0, 1) := by decide +kernel
theorem dX0_write_66 : decode mX0_write.2.1 66 = .ok (.getfield 42, 3) := by decide +kernel
theorem dX0_write_69 : decode mX0_write.2.1 69 = .ok (.invokestatic 75, 3) := by decide +kernel
theorem dX0_write_72 : decode mX0_write.2.1 72 = .ok (.aload_n 0, 1) := by decide +kernel
theorem dX0_write_73 : decode mX0_write.2.1 73 = .ok (.dup, 1) := by decide +kernel
theorem dX0_write_74 : decode mX0_write.2.1 74 = .ok (.getfield 38, 3) := by decide +kernel
theorem dX0_write_77 : decode mX0_write.2.1 77 = .ok (.iconst 1, 1) := by decide +kernel
theorem dX0_write_78 : decode mX0_write.2.1 78 = .ok (.iadd, 1) := by decide +kernel
theorem dX0_write_79 : decode mX0_write.2.1 79 = .ok (.putfield 38, 3) := by decide +kernel
theorem dX0_write_82 : decode mX0_write.2.1 82 = .ok (.iload 4, 2) := by decide +kernel
theorem dX0_write_84 : decode mX0_write.2.1 84 = .ok (.ireturn, 1) := by decide +kernel
theorem dX0_look_0 : decode mX0_look.2.1 0 = .ok (.aload_n 0, 1) := by decide +kernel
theorem dX0_look_1 : decode mX0_look.2.1 1 = .ok (.iload_n 1, 1) := by decide +kernel
theorem dX0_look_2 : decode mX0_look.2.1 2 = .ok (.invokevirtual 79, 3) := by decide +kernel
theorem dX0_look_5 : decode mX0_look.2.1 5 = .ok (.ifCond .ne 5, 3) := by decide +kernel
theorem dX0_look_8 : decode mX0_look.2.1 8 = .ok (.iconst (-1), 1) := by decide +kernel
theorem dX0_look_9 : decode mX0_look.2.1 9 = .ok (.ireturn, 1) := by decide +kernel
theorem dX0_look_10 : decode mX0_look.2.1 10 = .ok (.iload_n 2, 1) := by decide +kernel
theorem dX0_look_11 : decode mX0_look.2.1 11 = .ok (.tableswitch 70 0 3 #[29, 38, 47, 56], 29) := by decide +kernel
theorem dX0_look_40 : decode mX0_look.2.1 40 = .ok (.aload_n 0, 1) := by decide +kernel
theorem dX0_look_41 : decode mX0_look.2.1 41 = .ok (.getfield 9, 3) := by decide +kernel
theorem dX0_look_44 : decode mX0_look.2.1 44 = .ok (.iload_n 1, 1) := by decide +kernel
theorem dX0_look_45 : decode mX0_look.2.1 45 = .ok (.invokestatic 71, 3) := by decide +kernel
theorem dX0_look_48 : decode mX0_look.2.1 48 = .ok (.ireturn, 1) := by decide +kernel
theorem dX0_look_49 : decode mX0_look.2.1 49 = .ok (.aload_n 0, 1) := by decide +kernel
theorem dX0_look_50 : decode mX0_look.2.1 50 = .ok (.getfield 15, 3) := by decide +kernel
theorem dX0_look_53 : decode mX0_look.2.1 53 = .ok (.iload_n 1, 1) := by decide +kernel
theorem dX0_look_54 : decode mX0_look.2.1 54 = .ok (.invokestatic 71, 3) := by decide +kernel
theorem dX0_look_57 : decode mX0_look.2.1 57 = .ok (.ireturn, 1) := by decide +kernel
theorem dX0_look_58 : decode mX0_look.2.1 58 = .ok (.aload_n 0, 1) := by decide +kernel
theorem dX0_look_59 : decode mX0_look.2.1 59 = .ok (.getfield 18, 3) := by decide +kernel
theorem dX0_look_62 : decode mX0_look.2.1 62 = .ok (.iload_n 1, 1) := by decide +kernel
theorem dX0_look_63 : decode mX0_look.2.1 63 = .ok (.invokestatic 71, 3) := by decide +kernel
theorem dX0_look_66 : decode mX0_look.2.1 66 = .ok (.ireturn, 1) := by decide +kernel
theorem dX0_look_67 : decode mX0_look.2.1 67 = .ok (.aload_n 0, 1) := by decide +kernel
theorem dX0_look_68 : decode mX0_look.2.1 68 = .ok (.iload_n 1, 1) := by decide +kernel
theorem dX0_look_69 : decode mX0_look.2.1 69 = .ok (.invokevirtual 83, 3) := by decide +kernel
theorem dX0_look_72 : decode mX0_look.2.1 72 = .ok (.ifCond .eq 7, 3) := by decide +kernel
theorem dX0_look_75 : decode mX0_look.2.1 75 = .ok (.iconst 1, 1) := by decide +kernel
theorem dX0_look_76 : decode mX0_look.2.1 76 = .ok (.goto 4, 3) := by decide +kernel
theorem dX0_look_79 : decode mX0_look.2.1 79 = .ok (.iconst 0, 1) := by decide +kernel
theorem dX0_look_80 : decode mX0_look.2.1 80 = .ok (.ireturn, 1) := by decide +kernel
theorem dX0_look_81 : decode mX0_look.2.1 81 = .ok (.iconst (-1), 1) := by decide +kernel
theorem dX0_look_82 : decode mX0_look.2.1 82 = .ok (.ireturn, 1) := by decide +kernel
theorem dX0_has_0 : decode mX0_has.2.1 0 = .ok (.iload_n 1, 1) := by decide +kernel
theorem dX0_has_1 : decode mX0_has.2.1 1 = .ok (.ifCond .lt 15, 3) := by decide +kernel
theorem dX0_has_4 : decode mX0_has.2.1 4 = .ok (.iload_n 1, 1) := by decide +kernel
theorem dX0_has_5 : decode mX0_has.2.1 5 = .ok (.aload_n 0, 1) := by decide +kernel
theorem dX0_has_6 : decode mX0_has.2.1 6 = .ok (.getfield 38, 3) := by decide +kernel
theorem dX0_has_9 : decode mX0_has.2.1 9 = .ok (.if_icmp .ge 7, 3) := by decide +kernel
theorem dX0_has_12 : decode mX0_has.2.1 12 = .ok (.iconst 1, 1) := by decide +kernel
theorem dX0_has_13 : decode mX0_has.2.1 13 = .ok (.goto 4, 3) := by decide +kernel
theorem dX0_has_16 : decode mX0_has.2.1 16 = .ok (.iconst 0, 1) := by decide +kernel
theorem dX0_has_17 : decode mX0_has.2.1 17 = .ok (.ireturn, 1) := by decide +kernel
theorem dX0_isUntold_0 : decode mX0_isUntold.2.1 0 = .ok (.aload_n 0, 1) := by decide +kernel
theorem dX0_isUntold_1 : decode mX0_isUntold.2.1 1 = .ok (.getfield 24, 3) := by decide +kernel
theorem dX0_isUntold_4 : decode mX0_isUntold.2.1 4 = .ok (.iload_n 1, 1) := by decide +kernel
theorem dX0_isUntold_5 : decode mX0_isUntold.2.1 5 = .ok (.invokestatic 71, 3) := by decide +kernel
theorem dX0_isUntold_8 : decode mX0_isUntold.2.1 8 = .ok (.iconst (-1), 1) := by decide +kernel
theorem dX0_isUntold_9 : decode mX0_isUntold.2.1 9 = .ok (.if_icmp .eq 7, 3) := by decide +kernel
theorem dX0_isUntold_12 : decode mX0_isUntold.2.1 12 = .ok (.iconst 1, 1) := by decide +kernel
theorem dX0_isUntold_13 : decode mX0_isUntold.2.1 13 = .ok (.goto 4, 3) := by decide +kernel
theorem dX0_isUntold_16 : decode mX0_isUntold.2.1 16 = .ok (.iconst 0, 1) := by decide +kernel
theorem dX0_isUntold_17 : decode mX0_isUntold.2.1 17 = .ok (.ireturn, 1) := by decide +kernel
theorem dX0_rain_0 : decode mX0_rain.2.1 0 = .ok (.iload_n 1, 1) := by decide +kernel
theorem dX0_rain_1 : decode mX0_rain.2.1 1 = .ok (.iconst 2, 1) := by decide +kernel
theorem dX0_rain_2 : decode mX0_rain.2.1 2 = .ok (.if_icmp .lt 12, 3) := by decide +kernel
theorem dX0_rain_5 : decode mX0_rain.2.1 5 = .ok (.aload_n 0, 1) := by decide +kernel
theorem dX0_rain_6 : decode mX0_rain.2.1 6 = .ok (.getfield 42, 3) := by decide +kernel
theorem dX0_rain_9 : decode mX0_rain.2.1 9 = .ok (.bipush 40, 2) := by decide +kernel
theorem dX0_rain_11 : decode mX0_rain.2.1 11 = .ok (.if_icmp .lt 5, 3) := by decide +kernel
theorem dX0_rain_14 : decode mX0_rain.2.1 14 = .ok (.iconst (-1), 1) := by decide +kernel
theorem dX0_rain_15 : decode mX0_rain.2.1 15 = .ok (.ireturn, 1) := by decide +kernel
theorem dX0_rain_16 : decode mX0_rain.2.1 16 = .ok (.aload_n 0, 1) := by decide +kernel
theorem dX0_rain_17 : decode mX0_rain.2.1 17 = .ok (.aload_n 0, 1) := by decide +kernel
theorem dX0_rain_18 : decode mX0_rain.2.1 18 = .ok (.getfield 45, 3) := by decide +kernel
theorem dX0_rain_21 : decode mX0_rain.2.1 21 = .ok (.sipush 137, 3) := by decide +kernel
theorem dX0_rain_24 : decode mX0_rain.2.1 24 = .ok (.imul, 1) := by decide +kernel
theorem dX0_rain_25 : decode mX0_rain.2.1 25 = .ok (.bipush 71, 2) := by decide +kernel
theorem dX0_rain_27 : decode mX0_rain.2.1 27 = .ok (.iadd, 1) := by decide +kernel
theorem dX0_rain_28 : decode mX0_rain.2.1 28 = .ok (.sipush 1000, 3) := by decide +kernel
theorem dX0_rain_31 : decode mX0_rain.2.1 31 = .ok (.irem, 1) := by decide +kernel
theorem dX0_rain_32 : decode mX0_rain.2.1 32 = .ok (.putfield 45, 3) := by decide +kernel
theorem dX0_rain_35 : decode mX0_rain.2.1 35 = .ok (.aload_n 0, 1) := by decide +kernel
theorem dX0_rain_36 : decode mX0_rain.2.1 36 = .ok (.getfield 45, 3) := by decide +kernel
theorem dX0_rain_39 : decode mX0_rain.2.1 39 = .ok (.iload_n 1, 1) := by decide +kernel
theorem dX0_rain_40 : decode mX0_rain.2.1 40 = .ok (.iconst 1, 1) := by decide +kernel
theorem dX0_rain_41 : decode mX0_rain.2.1 41 = .ok (.isub, 1) := by decide +kernel
theorem dX0_rain_42 : decode mX0_rain.2.1 42 = .ok (.irem, 1) := by decide +kernel
theorem dX0_rain_43 : decode mX0_rain.2.1 43 = .ok (.istore_n 2, 1) := by decide +kernel
theorem dX0_rain_44 : decode mX0_rain.2.1 44 = .ok (.aload_n 0, 1) := by decide +kernel
theorem dX0_rain_45 : decode mX0_rain.2.1 45 = .ok (.iload_n 2, 1) := by decide +kernel
theorem dX0_rain_46 : decode mX0_rain.2.1 46 = .ok (.iload_n 1, 1) := by decide +kernel
theorem dX0_rain_47 : decode mX0_rain.2.1 47 = .ok (.invokevirtual 87, 3) := by decide +kernel
theorem dX0_rain_50 : decode mX0_rain.2.1 50 = .ok (.istore_n 3, 1) := by decide +kernel
theorem dX0_rain_51 : decode mX0_rain.2.1 51 = .ok (.aload_n 0, 1) := by decide +kernel
theorem dX0_rain_52 : decode mX0_rain.2.1 52 = .ok (.iload_n 2, 1) := by decide +kernel
theorem dX0_rain_53 : decode mX0_rain.2.1 53 = .ok (.iconst 1, 1) := by decide +kernel
theorem dX0_rain_54 : decode mX0_rain.2.1 54 = .ok (.iadd, 1) := by decide +kernel
theorem dX0_rain_55 : decode mX0_rain.2.1 55 = .ok (.iload_n 1, 1) := by decide +kernel
theorem dX0_rain_56 : decode mX0_rain.2.1 56 = .ok (.invokevirtual 87, 3) := by decide +kernel
theorem dX0_rain_59 : decode mX0_rain.2.1 59 = .ok (.istore 4, 2) := by decide +kernel
theorem dX0_rain_61 : decode mX0_rain.2.1 61 = .ok (.aload_n 0, 1) := by decide +kernel
theorem dX0_rain_62 : decode mX0_rain.2.1 62 = .ok (.getfield 35, 3) := by decide +kernel
theorem dX0_rain_65 : decode mX0_rain.2.1 65 = .ok (.iload_n 3, 1) := by decide +kernel
theorem dX0_rain_66 : decode mX0_rain.2.1 66 = .ok (.invokestatic 71, 3) := by decide +kernel
theorem dX0_rain_69 : decode mX0_rain.2.1 69 = .ok (.istore 5, 2) := by decide +kernel
theorem dX0_rain_71 : decode mX0_rain.2.1 71 = .ok (.aload_n 0, 1) := by decide +kernel
theorem dX0_rain_72 : decode mX0_rain.2.1 72 = .ok (.getfield 35, 3) := by decide +kernel
theorem dX0_rain_75 : decode mX0_rain.2.1 75 = .ok (.iload_n 3, 1) := by decide +kernel
theorem dX0_rain_76 : decode mX0_rain.2.1 76 = .ok (.aload_n 0, 1) := by decide +kernel
theorem dX0_rain_77 : decode mX0_rain.2.1 77 = .ok (.getfield 35, 3) := by decide +kernel
theorem dX0_rain_80 : decode mX0_rain.2.1 80 = .ok (.iload 4, 2) := by decide +kernel
theorem dX0_rain_82 : decode mX0_rain.2.1 82 = .ok (.invokestatic 71, 3) := by decide +kernel
theorem dX0_rain_85 : decode mX0_rain.2.1 85 = .ok (.invokestatic 75, 3) := by decide +kernel
theorem dX0_rain_88 : decode mX0_rain.2.1 88 = .ok (.aload_n 0, 1) := by decide +kernel
theorem dX0_rain_89 : decode mX0_rain.2.1 89 = .ok (.getfield 35, 3) := by decide +kernel
theorem dX0_rain_92 : decode mX0_rain.2.1 92 = .ok (.iload 4, 2) := by decide +kernel
theorem dX0_rain_94 : decode mX0_rain.2.1 94 = .ok (.iload 5, 2) := by decide +kernel
theorem dX0_rain_96 : decode mX0_rain.2.1 96 = .ok (.invokestatic 75, 3) := by decide +kernel
theorem dX0_rain_99 : decode mX0_rain.2.1 99 = .ok (.aload_n 0, 1) := by decide +kernel
theorem dX0_rain_100 : decode mX0_rain.2.1 100 = .ok (.getfield 30, 3) := by decide +kernel
theorem dX0_rain_103 : decode mX0_rain.2.1 103 = .ok (.aload_n 0, 1) := by decide +kernel
theorem dX0_rain_104 : decode mX0_rain.2.1 104 = .ok (.getfield 42, 3) := by decide +kernel
theorem dX0_rain_107 : decode mX0_rain.2.1 107 = .ok (.aload_n 0, 1) := by decide +kernel
theorem dX0_rain_108 : decode mX0_rain.2.1 108 = .ok (.getfield 57, 3) := by decide +kernel
theorem dX0_rain_111 : decode mX0_rain.2.1 111 = .ok (.invokestatic 75, 3) := by decide +kernel
theorem dX0_rain_114 : decode mX0_rain.2.1 114 = .ok (.aload_n 0, 1) := by decide +kernel
theorem dX0_rain_115 : decode mX0_rain.2.1 115 = .ok (.dup, 1) := by decide +kernel
theorem dX0_rain_116 : decode mX0_rain.2.1 116 = .ok (.getfield 42, 3) := by decide +kernel
theorem dX0_rain_119 : decode mX0_rain.2.1 119 = .ok (.iconst 1, 1) := by decide +kernel
theorem dX0_rain_120 : decode mX0_rain.2.1 120 = .ok (.iadd, 1) := by decide +kernel
theorem dX0_rain_121 : decode mX0_rain.2.1 121 = .ok (.putfield 42, 3) := by decide +kernel
theorem dX0_rain_124 : decode mX0_rain.2.1 124 = .ok (.iload_n 2, 1) := by decide +kernel
theorem dX0_rain_125 : decode mX0_rain.2.1 125 = .ok (.ireturn, 1) := by decide +kernel
theorem dX0_thingAtRank_0 : decode mX0_thingAtRank.2.1 0 = .ok (.iconst 0, 1) := by decide +kernel
theorem dX0_thingAtRank_1 : decode mX0_thingAtRank.2.1 1 = .ok (.istore_n 3, 1) := by decide +kernel
theorem dX0_thingAtRank_2 : decode mX0_thingAtRank.2.1 2 = .ok (.iload_n 3, 1) := by decide +kernel
theorem dX0_thingAtRank_3 : decode mX0_thingAtRank.2.1 3 = .ok (.iload_n 2, 1) := by decide +kernel
theorem dX0_thingAtRank_4 : decode mX0_thingAtRank.2.1 4 = .ok (.if_icmp .ge 81, 3) := by decide +kernel
theorem dX0_thingAtRank_7 : decode mX0_thingAtRank.2.1 7 = .ok (.iconst 0, 1) := by decide +kernel
theorem dX0_thingAtRank_8 : decode mX0_thingAtRank.2.1 8 = .ok (.istore 4, 2) := by decide +kernel
theorem dX0_thingAtRank_10 : decode mX0_thingAtRank.2.1 10 = .ok (.iconst 0, 1) := by decide +kernel
theorem dX0_thingAtRank_11 : decode mX0_thingAtRank.2.1 11 = .ok (.istore 5, 2) := by decide +kernel
theorem dX0_thingAtRank_13 : decode mX0_thingAtRank.2.1 13 = .ok (.iload 5, 2) := by decide +kernel
theorem dX0_thingAtRank_15 : decode mX0_thingAtRank.2.1 15 = .ok (.iload_n 2, 1) := by decide +kernel
theorem dX0_thingAtRank_16 : decode mX0_thingAtRank.2.1 16 = .ok (.if_icmp .ge 55, 3) := by decide +kernel
theorem dX0_thingAtRank_19 : decode mX0_thingAtRank.2.1 19 = .ok (.aload_n 0, 1) := by decide +kernel
theorem dX0_thingAtRank_20 : decode mX0_thingAtRank.2.1 20 = .ok (.getfield 35, 3) := by decide +kernel
theorem dX0_thingAtRank_23 : decode mX0_thingAtRank.2.1 23 = .ok (.iload 5, 2) := by decide +kernel
theorem dX0_thingAtRank_25 : decode mX0_thingAtRank.2.1 25 = .ok (.invokestatic 71, 3) := by decide +kernel
theorem dX0_thingAtRank_28 : decode mX0_thingAtRank.2.1 28 = .ok (.aload_n 0, 1) := by decide +kernel
theorem dX0_thingAtRank_29 : decode mX0_thingAtRank.2.1 29 = .ok (.getfield 35, 3) := by decide +kernel
theorem dX0_thingAtRank_32 : decode mX0_thingAtRank.2.1 32 = .ok (.iload_n 3, 1) := by decide +kernel
theorem dX0_thingAtRank_33 : decode mX0_thingAtRank.2.1 33 = .ok (.invokestatic 71, 3) := by decide +kernel
theorem dX0_thingAtRank_36 : decode mX0_thingAtRank.2.1 36 = .ok (.isub, 1) := by decide +kernel
theorem dX0_thingAtRank_37 : decode mX0_thingAtRank.2.1 37 = .ok (.istore 6, 2) := by decide +kernel
theorem dX0_thingAtRank_39 : decode mX0_thingAtRank.2.1 39 = .ok (.iload 4, 2) := by decide +kernel
theorem dX0_thingAtRank_41 : decode mX0_thingAtRank.2.1 41 = .ok (.iload 6, 2) := by decide +kernel
theorem dX0_thingAtRank_43 : decode mX0_thingAtRank.2.1 43 = .ok (.ifCond .gt 14, 3) := by decide +kernel
theorem dX0_thingAtRank_46 : decode mX0_thingAtRank.2.1 46 = .ok (.iload 6, 2) := by decide +kernel
theorem dX0_thingAtRank_48 : decode mX0_thingAtRank.2.1 48 = .ok (.ifCond .ne 13, 3) := by decide +kernel
theorem dX0_thingAtRank_51 : decode mX0_thingAtRank.2.1 51 = .ok (.iload 5, 2) := by decide +kernel
theorem dX0_thingAtRank_53 : decode mX0_thingAtRank.2.1 53 = .ok (.iload_n 3, 1) := by decide +kernel
theorem dX0_thingAtRank_54 : decode mX0_thingAtRank.2.1 54 = .ok (.if_icmp .ge 7, 3) := by decide +kernel
theorem dX0_thingAtRank_57 : decode mX0_thingAtRank.2.1 57 = .ok (.iconst 1, 1) := by decide +kernel
theorem dX0_thingAtRank_58 : decode mX0_thingAtRank.2.1 58 = .ok (.goto 4, 3) := by decide +kernel
theorem dX0_thingAtRank_61 : decode mX0_thingAtRank.2.1 61 = .ok (.iconst 0, 1) := by decide +kernel
theorem dX0_thingAtRank_62 : decode mX0_thingAtRank.2.1 62 = .ok (.iadd, 1) := by decide +kernel
theorem dX0_thingAtRank_63 : decode mX0_thingAtRank.2.1 63 = .ok (.istore 4, 2) := by decide +kernel
theorem dX0_thingAtRank_65 : decode mX0_thingAtRank.2.1 65 = .ok (.iinc 5 1, 3) := by decide +kernel
theorem dX0_thingAtRank_68 : decode mX0_thingAtRank.2.1 68 = .ok (.goto (-55), 3) := by decide +kernel
theorem dX0_thingAtRank_71 : decode mX0_thingAtRank.2.1 71 = .ok (.iload 4, 2) := by decide +kernel
theorem dX0_thingAtRank_73 : decode mX0_thingAtRank.2.1 73 = .ok (.iload_n 1, 1) := by decide +kernel
theorem dX0_thingAtRank_74 : decode mX0_thingAtRank.2.1 74 = .ok (.if_icmp .ne 5, 3) := by decide +kernel
theorem dX0_thingAtRank_77 : decode mX0_thingAtRank.2.1 77 = .ok (.iload_n 3, 1) := by decide +kernel
theorem dX0_thingAtRank_78 : decode mX0_thingAtRank.2.1 78 = .ok (.ireturn, 1) := by decide +kernel
theorem dX0_thingAtRank_79 : decode mX0_thingAtRank.2.1 79 = .ok (.iinc 3 1, 3) := by decide +kernel
theorem dX0_thingAtRank_82 : decode mX0_thingAtRank.2.1 82 = .ok (.goto (-80), 3) := by decide +kernel
theorem dX0_thingAtRank_85 : decode mX0_thingAtRank.2.1 85 = .ok (.iconst 0, 1) := by decide +kernel
theorem dX0_thingAtRank_86 : decode mX0_thingAtRank.2.1 86 = .ok (.ireturn, 1) := by decide +kernel
theorem dX0_strike_0 : decode mX0_strike.2.1 0 = .ok (.aload_n 0, 1) := by decide +kernel
theorem dX0_strike_1 : decode mX0_strike.2.1 1 = .ok (.iload_n 1, 1) := by decide +kernel
theorem dX0_strike_2 : decode mX0_strike.2.1 2 = .ok (.invokevirtual 79, 3) := by decide +kernel
theorem dX0_strike_5 : decode mX0_strike.2.1 5 = .ok (.ifCond .eq 11, 3) := by decide +kernel
theorem dX0_strike_8 : decode mX0_strike.2.1 8 = .ok (.aload_n 0, 1) := by decide +kernel
theorem dX0_strike_9 : decode mX0_strike.2.1 9 = .ok (.iload_n 1, 1) := by decide +kernel
theorem dX0_strike_10 : decode mX0_strike.2.1 10 = .ok (.invokevirtual 83, 3) := by decide +kernel
theorem dX0_strike_13 : decode mX0_strike.2.1 13 = .ok (.ifCond .eq 5, 3) := by decide +kernel
theorem dX0_strike_16 : decode mX0_strike.2.1 16 = .ok (.iconst 0, 1) := by decide +kernel
theorem dX0_strike_17 : decode mX0_strike.2.1 17 = .ok (.ireturn, 1) := by decide +kernel
theorem dX0_strike_18 : decode mX0_strike.2.1 18 = .ok (.aload_n 0, 1) := by decide +kernel
theorem dX0_strike_19 : decode mX0_strike.2.1 19 = .ok (.getfield 24, 3) := by decide +kernel
theorem dX0_strike_22 : decode mX0_strike.2.1 22 = .ok (.iload_n 1, 1) := by decide +kernel
theorem dX0_strike_23 : decode mX0_strike.2.1 23 = .ok (.aload_n 0, 1) := by decide +kernel
theorem dX0_strike_24 : decode mX0_strike.2.1 24 = .ok (.getfield 57, 3) := by decide +kernel
theorem dX0_strike_27 : decode mX0_strike.2.1 27 = .ok (.invokestatic 75, 3) := by decide +kernel
theorem dX0_strike_30 : decode mX0_strike.2.1 30 = .ok (.iconst 1, 1) := by decide +kernel
theorem dX0_strike_31 : decode mX0_strike.2.1 31 = .ok (.ireturn, 1) := by decide +kernel
theorem dX0_pass_0 : decode mX0_pass.2.1 0 = .ok (.iload_n 1, 1) := by decide +kernel
theorem dX0_pass_1 : decode mX0_pass.2.1 1 = .ok (.ifCond .lt 21, 3) := by decide +kernel
theorem dX0_pass_4 : decode mX0_pass.2.1 4 = .ok (.iload_n 1, 1) := by decide +kernel
theorem dX0_pass_5 : decode mX0_pass.2.1 5 = .ok (.sipush 1000, 3) := by decide +kernel
theorem dX0_pass_8 : decode mX0_pass.2.1 8 = .ok (.if_icmp .gt 14, 3) := by decide +kernel
theorem dX0_pass_11 : decode mX0_pass.2.1 11 = .ok (.aload_n 0, 1) := by decide +kernel
theorem dX0_pass_12 : decode mX0_pass.2.1 12 = .ok (.getfield 57, 3) := by decide +kernel
theorem dX0_pass_15 : decode mX0_pass.2.1 15 = .ok (.iload_n 1, 1) := by decide +kernel
theorem dX0_pass_16 : decode mX0_pass.2.1 16 = .ok (.iadd, 1) := by decide +kernel
theorem dX0_pass_17 : decode mX0_pass.2.1 17 = .ok (.ldc 86, 2) := by decide +kernel
theorem dX0_pass_19 : decode mX0_pass.2.1 19 = .ok (.if_icmp .le 5, 3) := by decide +kernel
theorem dX0_pass_22 : decode mX0_pass.2.1 22 = .ok (.iconst (-1), 1) := by decide +kernel
theorem dX0_pass_23 : decode mX0_pass.2.1 23 = .ok (.ireturn, 1) := by decide +kernel
theorem dX0_pass_24 : decode mX0_pass.2.1 24 = .ok (.aload_n 0, 1) := by decide +kernel
theorem dX0_pass_25 : decode mX0_pass.2.1 25 = .ok (.dup, 1) := by decide +kernel
theorem dX0_pass_26 : decode mX0_pass.2.1 26 = .ok (.getfield 57, 3) := by decide +kernel
theorem dX0_pass_29 : decode mX0_pass.2.1 29 = .ok (.iload_n 1, 1) := by decide +kernel
theorem dX0_pass_30 : decode mX0_pass.2.1 30 = .ok (.iadd, 1) := by decide +kernel
theorem dX0_pass_31 : decode mX0_pass.2.1 31 = .ok (.putfield 57, 3) := by decide +kernel
theorem dX0_pass_34 : decode mX0_pass.2.1 34 = .ok (.aload_n 0, 1) := by decide +kernel
theorem dX0_pass_35 : decode mX0_pass.2.1 35 = .ok (.getfield 57, 3) := by decide +kernel
theorem dX0_pass_38 : decode mX0_pass.2.1 38 = .ok (.ireturn, 1) := by decide +kernel
theorem dX0_counts_0 : decode mX0_counts.2.1 0 = .ok (.aload_n 0, 1) := by decide +kernel
theorem dX0_counts_1 : decode mX0_counts.2.1 1 = .ok (.getfield 27, 3) := by decide +kernel
theorem dX0_counts_4 : decode mX0_counts.2.1 4 = .ok (.iload_n 1, 1) := by decide +kernel
theorem dX0_counts_5 : decode mX0_counts.2.1 5 = .ok (.invokestatic 71, 3) := by decide +kernel
theorem dX0_counts_8 : decode mX0_counts.2.1 8 = .ok (.istore_n 3, 1) := by decide +kernel
theorem dX0_counts_9 : decode mX0_counts.2.1 9 = .ok (.iload_n 3, 1) := by decide +kernel
theorem dX0_counts_10 : decode mX0_counts.2.1 10 = .ok (.aload_n 0, 1) := by decide +kernel
theorem dX0_counts_11 : decode mX0_counts.2.1 11 = .ok (.getfield 42, 3) := by decide +kernel
theorem dX0_counts_14 : decode mX0_counts.2.1 14 = .ok (.if_icmp .ge 19, 3) := by decide +kernel
theorem dX0_counts_17 : decode mX0_counts.2.1 17 = .ok (.aload_n 0, 1) := by decide +kernel
theorem dX0_counts_18 : decode mX0_counts.2.1 18 = .ok (.getfield 30, 3) := by decide +kernel
theorem dX0_counts_21 : decode mX0_counts.2.1 21 = .ok (.iload_n 3, 1) := by decide +kernel
theorem dX0_counts_22 : decode mX0_counts.2.1 22 = .ok (.invokestatic 71, 3) := by decide +kernel
theorem dX0_counts_25 : decode mX0_counts.2.1 25 = .ok (.iload_n 2, 1) := by decide +kernel
theorem dX0_counts_26 : decode mX0_counts.2.1 26 = .ok (.if_icmp .gt 7, 3) := by decide +kernel
theorem dX0_counts_29 : decode mX0_counts.2.1 29 = .ok (.iconst 1, 1) := by decide +kernel
theorem dX0_counts_30 : decode mX0_counts.2.1 30 = .ok (.goto 4, 3) := by decide +kernel
theorem dX0_counts_33 : decode mX0_counts.2.1 33 = .ok (.iconst 0, 1) := by decide +kernel
theorem dX0_counts_34 : decode mX0_counts.2.1 34 = .ok (.istore 4, 2) := by decide +kernel
theorem dX0_counts_36 : decode mX0_counts.2.1 36 = .ok (.aload_n 0, 1) := by decide +kernel
theorem dX0_counts_37 : decode mX0_counts.2.1 37 = .ok (.iload_n 1, 1) := by decide +kernel
theorem dX0_counts_38 : decode mX0_counts.2.1 38 = .ok (.invokevirtual 83, 3) := by decide +kernel
theorem dX0_counts_41 : decode mX0_counts.2.1 41 = .ok (.ifCond .eq 19, 3) := by decide +kernel
theorem dX0_counts_44 : decode mX0_counts.2.1 44 = .ok (.aload_n 0, 1) := by decide +kernel
theorem dX0_counts_45 : decode mX0_counts.2.1 45 = .ok (.getfield 24, 3) := by decide +kernel
theorem dX0_counts_48 : decode mX0_counts.2.1 48 = .ok (.iload_n 1, 1) := by decide +kernel
theorem dX0_counts_49 : decode mX0_counts.2.1 49 = .ok (.invokestatic 71, 3) := by decide +kernel
theorem dX0_counts_52 : decode mX0_counts.2.1 52 = .ok (.iload_n 2, 1) := by decide +kernel
theorem dX0_counts_53 : decode mX0_counts.2.1 53 = .ok (.if_icmp .gt 7, 3) := by decide +kernel
theorem dX0_counts_56 : decode mX0_counts.2.1 56 = .ok (.iconst 1, 1) := by decide +kernel
theorem dX0_counts_57 : decode mX0_counts.2.1 57 = .ok (.goto 4, 3) := by decide +kernel
theorem dX0_counts_60 : decode mX0_counts.2.1 60 = .ok (.iconst 0, 1) := by decide +kernel
theorem dX0_counts_61 : decode mX0_counts.2.1 61 = .ok (.istore 5, 2) := by decide +kernel
theorem dX0_counts_63 : decode mX0_counts.2.1 63 = .ok (.aload_n 0, 1) := by decide +kernel
theorem dX0_counts_64 : decode mX0_counts.2.1 64 = .ok (.getfield 21, 3) := by decide +kernel
theorem dX0_counts_67 : decode mX0_counts.2.1 67 = .ok (.iload_n 1, 1) := by decide +kernel
theorem dX0_counts_68 : decode mX0_counts.2.1 68 = .ok (.invokestatic 71, 3) := by decide +kernel
theorem dX0_counts_71 : decode mX0_counts.2.1 71 = .ok (.iload_n 2, 1) := by decide +kernel
theorem dX0_counts_72 : decode mX0_counts.2.1 72 = .ok (.if_icmp .gt 17, 3) := by decide +kernel
theorem dX0_counts_75 : decode mX0_counts.2.1 75 = .ok (.iload 4, 2) := by decide +kernel
theorem dX0_counts_77 : decode mX0_counts.2.1 77 = .ok (.ifCond .ne 12, 3) := by decide +kernel
theorem dX0_counts_80 : decode mX0_counts.2.1 80 = .ok (.iload 5, 2) := by decide +kernel
theorem dX0_counts_82 : decode mX0_counts.2.1 82 = .ok (.ifCond .ne 7, 3) := by decide +kernel
theorem dX0_counts_85 : decode mX0_counts.2.1 85 = .ok (.iconst 1, 1) := by decide +kernel
theorem dX0_counts_86 : decode mX0_counts.2.1 86 = .ok (.goto 4, 3) := by decide +kernel
theorem dX0_counts_89 : decode mX0_counts.2.1 89 = .ok (.iconst 0, 1) := by decide +kernel
theorem dX0_counts_90 : decode mX0_counts.2.1 90 = .ok (.ireturn, 1) := by decide +kernel
theorem dX0_isSingle_0 : decode mX0_isSingle.2.1 0 = .ok (.aload_n 0, 1) := by decide +kernel
theorem dX0_isSingle_1 : decode mX0_isSingle.2.1 1 = .ok (.getfield 9, 3) := by decide +kernel
theorem dX0_isSingle_4 : decode mX0_isSingle.2.1 4 = .ok (.iload_n 1, 1) := by decide +kernel
theorem dX0_isSingle_5 : decode mX0_isSingle.2.1 5 = .ok (.invokestatic 71, 3) := by decide +kernel
theorem dX0_isSingle_8 : decode mX0_isSingle.2.1 8 = .ok (.invokestatic 91, 3) := by decide +kernel
theorem dX0_isSingle_11 : decode mX0_isSingle.2.1 11 = .ok (.iconst 1, 1) := by decide +kernel
theorem dX0_isSingle_12 : decode mX0_isSingle.2.1 12 = .ok (.if_icmp .ne 22, 3) := by decide +kernel
theorem dX0_isSingle_15 : decode mX0_isSingle.2.1 15 = .ok (.aload_n 0, 1) := by decide +kernel
theorem dX0_isSingle_16 : decode mX0_isSingle.2.1 16 = .ok (.getfield 15, 3) := by decide +kernel
theorem dX0_isSingle_19 : decode mX0_isSingle.2.1 19 = .ok (.iload_n 1, 1) := by decide +kernel
theorem dX0_isSingle_20 : decode mX0_isSingle.2.1 20 = .ok (.invokestatic 71, 3) := by decide +kernel
theorem dX0_isSingle_23 : decode mX0_isSingle.2.1 23 = .ok (.invokestatic 91, 3) := by decide +kernel
theorem dX0_isSingle_26 : decode mX0_isSingle.2.1 26 = .ok (.iconst 1, 1) := by decide +kernel
theorem dX0_isSingle_27 : decode mX0_isSingle.2.1 27 = .ok (.if_icmp .ne 7, 3) := by decide +kernel
theorem dX0_isSingle_30 : decode mX0_isSingle.2.1 30 = .ok (.iconst 1, 1) := by decide +kernel
theorem dX0_isSingle_31 : decode mX0_isSingle.2.1 31 = .ok (.goto 4, 3) := by decide +kernel
theorem dX0_isSingle_34 : decode mX0_isSingle.2.1 34 = .ok (.iconst 0, 1) := by decide +kernel
theorem dX0_isSingle_35 : decode mX0_isSingle.2.1 35 = .ok (.ireturn, 1) := by decide +kernel
theorem dX0_copyFrom_0 : decode mX0_copyFrom.2.1 0 = .ok (.aload_n 0, 1) := by decide +kernel
theorem dX0_copyFrom_1 : decode mX0_copyFrom.2.1 1 = .ok (.aload_n 1, 1) := by decide +kernel
theorem dX0_copyFrom_2 : decode mX0_copyFrom.2.1 2 = .ok (.getfield 38, 3) := by decide +kernel
theorem dX0_copyFrom_5 : decode mX0_copyFrom.2.1 5 = .ok (.putfield 38, 3) := by decide +kernel
theorem dX0_copyFrom_8 : decode mX0_copyFrom.2.1 8 = .ok (.aload_n 0, 1) := by decide +kernel
theorem dX0_copyFrom_9 : decode mX0_copyFrom.2.1 9 = .ok (.aload_n 1, 1) := by decide +kernel
theorem dX0_copyFrom_10 : decode mX0_copyFrom.2.1 10 = .ok (.getfield 42, 3) := by decide +kernel
theorem dX0_copyFrom_13 : decode mX0_copyFrom.2.1 13 = .ok (.putfield 42, 3) := by decide +kernel
theorem dX0_copyFrom_16 : decode mX0_copyFrom.2.1 16 = .ok (.aload_n 0, 1) := by decide +kernel
theorem dX0_copyFrom_17 : decode mX0_copyFrom.2.1 17 = .ok (.aload_n 1, 1) := by decide +kernel
theorem dX0_copyFrom_18 : decode mX0_copyFrom.2.1 18 = .ok (.getfield 57, 3) := by decide +kernel
theorem dX0_copyFrom_21 : decode mX0_copyFrom.2.1 21 = .ok (.putfield 57, 3) := by decide +kernel
theorem dX0_copyFrom_24 : decode mX0_copyFrom.2.1 24 = .ok (.aload_n 0, 1) := by decide +kernel
theorem dX0_copyFrom_25 : decode mX0_copyFrom.2.1 25 = .ok (.aload_n 1, 1) := by decide +kernel
theorem dX0_copyFrom_26 : decode mX0_copyFrom.2.1 26 = .ok (.getfield 45, 3) := by decide +kernel
theorem dX0_copyFrom_29 : decode mX0_copyFrom.2.1 29 = .ok (.putfield 45, 3) := by decide +kernel
theorem dX0_copyFrom_32 : decode mX0_copyFrom.2.1 32 = .ok (.aload_n 1, 1) := by decide +kernel
theorem dX0_copyFrom_33 : decode mX0_copyFrom.2.1 33 = .ok (.getfield 9, 3) := by decide +kernel
theorem dX0_copyFrom_36 : decode mX0_copyFrom.2.1 36 = .ok (.aload_n 0, 1) := by decide +kernel
theorem dX0_copyFrom_37 : decode mX0_copyFrom.2.1 37 = .ok (.getfield 9, 3) := by decide +kernel
theorem dX0_copyFrom_40 : decode mX0_copyFrom.2.1 40 = .ok (.invokestatic 51, 3) := by decide +kernel
theorem dX0_copyFrom_43 : decode mX0_copyFrom.2.1 43 = .ok (.aload_n 1, 1) := by decide +kernel
theorem dX0_copyFrom_44 : decode mX0_copyFrom.2.1 44 = .ok (.getfield 15, 3) := by decide +kernel
theorem dX0_copyFrom_47 : decode mX0_copyFrom.2.1 47 = .ok (.aload_n 0, 1) := by decide +kernel
theorem dX0_copyFrom_48 : decode mX0_copyFrom.2.1 48 = .ok (.getfield 15, 3) := by decide +kernel
theorem dX0_copyFrom_51 : decode mX0_copyFrom.2.1 51 = .ok (.invokestatic 51, 3) := by decide +kernel
theorem dX0_copyFrom_54 : decode mX0_copyFrom.2.1 54 = .ok (.aload_n 1, 1) := by decide +kernel
theorem dX0_copyFrom_55 : decode mX0_copyFrom.2.1 55 = .ok (.getfield 18, 3) := by decide +kernel
theorem dX0_copyFrom_58 : decode mX0_copyFrom.2.1 58 = .ok (.aload_n 0, 1) := by decide +kernel
theorem dX0_copyFrom_59 : decode mX0_copyFrom.2.1 59 = .ok (.getfield 18, 3) := by decide +kernel
theorem dX0_copyFrom_62 : decode mX0_copyFrom.2.1 62 = .ok (.invokestatic 51, 3) := by decide +kernel
theorem dX0_copyFrom_65 : decode mX0_copyFrom.2.1 65 = .ok (.aload_n 1, 1) := by decide +kernel
theorem dX0_copyFrom_66 : decode mX0_copyFrom.2.1 66 = .ok (.getfield 21, 3) := by decide +kernel
theorem dX0_copyFrom_69 : decode mX0_copyFrom.2.1 69 = .ok (.aload_n 0, 1) := by decide +kernel
theorem dX0_copyFrom_70 : decode mX0_copyFrom.2.1 70 = .ok (.getfield 21, 3) := by decide +kernel
theorem dX0_copyFrom_73 : decode mX0_copyFrom.2.1 73 = .ok (.invokestatic 51, 3) := by decide +kernel
theorem dX0_copyFrom_76 : decode mX0_copyFrom.2.1 76 = .ok (.aload_n 1, 1) := by decide +kernel
theorem dX0_copyFrom_77 : decode mX0_copyFrom.2.1 77 = .ok (.getfield 24, 3) := by decide +kernel
theorem dX0_copyFrom_80 : decode mX0_copyFrom.2.1 80 = .ok (.aload_n 0, 1) := by decide +kernel
theorem dX0_copyFrom_81 : decode mX0_copyFrom.2.1 81 = .ok (.getfield 24, 3) := by decide +kernel
theorem dX0_copyFrom_84 : decode mX0_copyFrom.2.1 84 = .ok (.invokestatic 51, 3) := by decide +kernel
theorem dX0_copyFrom_87 : decode mX0_copyFrom.2.1 87 = .ok (.aload_n 1, 1) := by decide +kernel
theorem dX0_copyFrom_88 : decode mX0_copyFrom.2.1 88 = .ok (.getfield 27, 3) := by decide +kernel
theorem dX0_copyFrom_91 : decode mX0_copyFrom.2.1 91 = .ok (.aload_n 0, 1) := by decide +kernel
theorem dX0_copyFrom_92 : decode mX0_copyFrom.2.1 92 = .ok (.getfield 27, 3) := by decide +kernel
theorem dX0_copyFrom_95 : decode mX0_copyFrom.2.1 95 = .ok (.invokestatic 51, 3) := by decide +kernel
theorem dX0_copyFrom_98 : decode mX0_copyFrom.2.1 98 = .ok (.aload_n 1, 1) := by decide +kernel
theorem dX0_copyFrom_99 : decode mX0_copyFrom.2.1 99 = .ok (.getfield 30, 3) := by decide +kernel
theorem dX0_copyFrom_102 : decode mX0_copyFrom.2.1 102 = .ok (.aload_n 0, 1) := by decide +kernel
theorem dX0_copyFrom_103 : decode mX0_copyFrom.2.1 103 = .ok (.getfield 30, 3) := by decide +kernel
theorem dX0_copyFrom_106 : decode mX0_copyFrom.2.1 106 = .ok (.invokestatic 51, 3) := by decide +kernel
theorem dX0_copyFrom_109 : decode mX0_copyFrom.2.1 109 = .ok (.aload_n 1, 1) := by decide +kernel
theorem dX0_copyFrom_110 : decode mX0_copyFrom.2.1 110 = .ok (.getfield 35, 3) := by decide +kernel
theorem dX0_copyFrom_113 : decode mX0_copyFrom.2.1 113 = .ok (.aload_n 0, 1) := by decide +kernel
theorem dX0_copyFrom_114 : decode mX0_copyFrom.2.1 114 = .ok (.getfield 35, 3) := by decide +kernel
theorem dX0_copyFrom_117 : decode mX0_copyFrom.2.1 117 = .ok (.invokestatic 51, 3) := by decide +kernel
theorem dX0_copyFrom_120 : decode mX0_copyFrom.2.1 120 = .ok (.return_, 1) := by decide +kernel
theorem bX0_begin_0 {d : Nat} {g : xSt} {r : Option Value × xSt} {g23 : xSt} {b t : Nat} (W : xWf g) (hb : xBk b) (ht : xTw t) (hk23 : xCallM d mX7_copy [.ref (t + 2), .ref (b + 8)] (xWI (xWI (xWI g b 0 0) b 1 0) b 3 0) = some (none, g23)) (W23 : xWf g23) (k : r = (none, g23)) : xX (d + 1) mX0_begin 0 [some (.ref b), some (.ref t)] [] g = some r :=
  Y_aload_n dX0_begin_0 rfl <| Y_iconst 0 dX0_begin_1 ic_0 <| Y_putI dX0_begin_2 f_0_38 fn_0_0 ft_0_0 (xisB W hb) <| Y_aload_n dX0_begin_5 rfl <| Y_iconst 0 dX0_begin_6 ic_0 <| Y_putI dX0_begin_7 f_0_42 fn_0_1 ft_0_1 (xisB W hb) <| Y_aload_n dX0_begin_10 rfl <| Y_iconst 0 dX0_begin_11 ic_0 <| Y_putI dX0_begin_12 f_0_45 fn_0_3 ft_0_3 (xisB W hb) <| Y_aload_n dX0_begin_15 rfl <| Y_getR dX0_begin_16 f_0_48 (by rw [ft_9_2]; rfl) (xisS W ht) (xptrS W ht 2 rfl) <| Y_aload_n dX0_begin_19 rfl <| Y_getR dX0_begin_20 f_0_35 (by rw [ft_0_12]; rfl) (xisB W hb) (xptrB W hb 12 rfl) <| Y_callS0 dX0_begin_23 cl_0_51 rfl rfl rfl rfl rfl (hk23) <| Y_ret dX0_begin_26 rfl k
theorem bX0_isFull_0 {d : Nat} {g : xSt} {r : Option Value × xSt} {b : Nat} (W : xWf g) (hb : xBk b) (k1 : (xI g b 0) < 60 → xX d mX0_isFull 13 [none] [] g = some r) (k2 : ¬ ((xI g b 0) < 60) → xX d mX0_isFull 9 [none] [] g = some r) : xX d mX0_isFull 0 [some (.ref b)] [] g = some r :=
  Y_aload_n dX0_isFull_0 rfl <| Y_getI dX0_isFull_1 f_0_38 ft_0_0 (xisB W hb) <| Y_bipush 60 dX0_isFull_4 bp_60 <| Y_lt 13 dX0_isFull_6 rfl (fun q => X_le (xle_n xle_0) (k1 q)) (fun q => X_le (xle_n xle_0) (k2 q))
theorem bX0_isFull_9 {d : Nat} {g : xSt} {r : Option Value × xSt}  (k : xX d mX0_isFull 14 [none] [.int 1] g = some r) : xX d mX0_isFull 9 [none] [] g = some r :=
  Y_iconst 1 dX0_isFull_9 ic_1 <| Y_goto 14 dX0_isFull_10 rfl <| X_le (xle_n xle_0) k
theorem bX0_isFull_13 {d : Nat} {g : xSt} {r : Option Value × xSt}  (k : xX d mX0_isFull 14 [none] [.int 0] g = some r) : xX d mX0_isFull 13 [none] [] g = some r :=
  Y_iconst 0 dX0_isFull_13 ic_0 <| X_le (xle_n xle_0) k
theorem bX0_isFull_14 {d : Nat} {g : xSt} {r : Option Value × xSt} {s0 : Int32} (hz14 : s0 = 0 ∨ s0 = 1) (k : r = (some (.int s0), g)) : xX d mX0_isFull 14 [none] [.int s0] g = some r :=
  Y_zret dX0_isFull_14 rfl (hz14) k
theorem bX0_balance_0 {d : Nat} {g : xSt} {r : Option Value × xSt} {a1 a2 r2 r7 : Int32} {g2 g7 : xSt} {b t : Nat} (W : xWf g) (hb : xBk b) (ht : xTw t) (hk2 : xCallM d mX0_heapOf [.ref b, .int a1] g = some (some (.int r2), g2)) (W2 : xWf g2) (hk7 : xCallM d mX0_heapOf [.ref b, .int a2] g2 = some (some (.int r7), g7)) (W7 : xWf g7) (k1 : (r2 - r7) ≤ (xI g7 t 5) → xX (d + 1) mX0_balance 26 [none, none, none, some (.ref t), some (.int (r2 - r7))] [] g7 = some r) (k2 : ¬ ((r2 - r7) ≤ (xI g7 t 5)) → xX (d + 1) mX0_balance 22 [none, none, none, none, none] [] g7 = some r) : xX (d + 1) mX0_balance 0 [some (.ref b), some (.int a1), some (.int a2), some (.ref t), none] [] g = some r :=
  Y_aload_n dX0_balance_0 rfl <| Y_iload_n dX0_balance_1 rfl <| Y_callV1 dX0_balance_2 cl_0_60 rfl rfl (xisB W hb) rfl rfl rfl (hk2) <| Y_aload_n dX0_balance_5 rfl <| Y_iload_n dX0_balance_6 rfl <| Y_callV1 dX0_balance_7 cl_0_60 rfl rfl (xisB W2 hb) rfl rfl rfl (hk7) <| Y_isub dX0_balance_10 <| Y_istore dX0_balance_11 rfl rfl <| Y_iload dX0_balance_13 rfl <| Y_aload_n dX0_balance_15 rfl <| Y_getI dX0_balance_16 f_0_64 ft_9_5 (xisS W7 ht) <| Y_le 26 dX0_balance_19 rfl (fun q => X_le (xle_n (xle_n (xle_n (xle_s (xle_s xle_0))))) (k1 q)) (fun q => X_le (xle_n (xle_n (xle_n (xle_n (xle_n xle_0))))) (k2 q))
theorem bX0_balance_22 {d : Nat} {g : xSt} {r : Option Value × xSt}  (k : xX (d + 1) mX0_balance 41 [none, none, none, none, none] [.int 1] g = some r) : xX (d + 1) mX0_balance 22 [none, none, none, none, none] [] g = some r :=
  Y_iconst 1 dX0_balance_22 ic_1 <| Y_goto 41 dX0_balance_23 rfl <| X_le (xle_n (xle_n (xle_n (xle_n (xle_n xle_0))))) k
theorem bX0_balance_26 {d : Nat} {g : xSt} {r : Option Value × xSt} {a4 : Int32} {t : Nat} (W : xWf g) (ht : xTw t) (k1 : (-a4) ≤ (xI g t 5) → xX (d + 1) mX0_balance 40 [none, none, none, none, none] [] g = some r) (k2 : ¬ ((-a4) ≤ (xI g t 5)) → xX (d + 1) mX0_balance 36 [none, none, none, none, none] [] g = some r) : xX (d + 1) mX0_balance 26 [none, none, none, some (.ref t), some (.int a4)] [] g = some r :=
  Y_iload dX0_balance_26 rfl <| Y_ineg dX0_balance_28 <| Y_aload_n dX0_balance_29 rfl <| Y_getI dX0_balance_30 f_0_64 ft_9_5 (xisS W ht) <| Y_le 40 dX0_balance_33 rfl (fun q => X_le (xle_n (xle_n (xle_n (xle_n (xle_n xle_0))))) (k1 q)) (fun q => X_le (xle_n (xle_n (xle_n (xle_n (xle_n xle_0))))) (k2 q))
theorem bX0_balance_36 {d : Nat} {g : xSt} {r : Option Value × xSt}  (k : xX (d + 1) mX0_balance 41 [none, none, none, none, none] [.int 2] g = some r) : xX (d + 1) mX0_balance 36 [none, none, none, none, none] [] g = some r :=
  Y_iconst 2 dX0_balance_36 ic_2 <| Y_goto 41 dX0_balance_37 rfl <| X_le (xle_n (xle_n (xle_n (xle_n (xle_n xle_0))))) k
theorem bX0_balance_40 {d : Nat} {g : xSt} {r : Option Value × xSt}  (k : xX (d + 1) mX0_balance 41 [none, none, none, none, none] [.int 0] g = some r) : xX (d + 1) mX0_balance 40 [none, none, none, none, none] [] g = some r :=
  Y_iconst 0 dX0_balance_40 ic_0 <| X_le (xle_n (xle_n (xle_n (xle_n (xle_n xle_0))))) k
theorem bX0_balance_41 {d : Nat} {g : xSt} {r : Option Value × xSt} {s0 : Int32} (k : r = (some (.int s0), g)) : xX (d + 1) mX0_balance 41 [none, none, none, none, none] [.int s0] g = some r :=
  Y_iret dX0_balance_41 rfl k
theorem bX0_heapOf_0 {d : Nat} {g : xSt} {r : Option Value × xSt} {a1 : Int32} {b : Nat} (hb : xBk b) (k : xX (d + 1) mX0_heapOf 4 [some (.ref b), some (.int a1), some (.int 0), some (.int 0)] [] g = some r) : xX (d + 1) mX0_heapOf 0 [some (.ref b), some (.int a1), none, none] [] g = some r :=
  Y_iconst 0 dX0_heapOf_0 ic_0 <| Y_istore_n dX0_heapOf_1 rfl rfl <| Y_iconst 0 dX0_heapOf_2 ic_0 <| Y_istore_n dX0_heapOf_3 rfl rfl <| X_le (xle_s (xle_s (xle_s (xle_s xle_0)))) k
theorem bX0_heapOf_4 {d : Nat} {g : xSt} {r : Option Value × xSt} {a1 a2 a3 : Int32} {b : Nat} (hb : xBk b) (k1 : 5 ≤ a3 → xX (d + 1) mX0_heapOf 34 [none, none, some (.int a2), none] [] g = some r) (k2 : ¬ (5 ≤ a3) → xX (d + 1) mX0_heapOf 9 [some (.ref b), some (.int a1), some (.int a2), some (.int a3)] [] g = some r) : xX (d + 1) mX0_heapOf 4 [some (.ref b), some (.int a1), some (.int a2), some (.int a3)] [] g = some r :=
  Y_iload_n dX0_heapOf_4 rfl <| Y_iconst 5 dX0_heapOf_5 ic_5 <| Y_ge 34 dX0_heapOf_6 rfl (fun q => X_le (xle_n (xle_n (xle_s (xle_n xle_0)))) (k1 q)) (fun q => X_le (xle_s (xle_s (xle_s (xle_s xle_0)))) (k2 q))
theorem bX0_heapOf_9 {d : Nat} {g : xSt} {r : Option Value × xSt} {a1 a2 a3 : Int32} {b : Nat} (hb : xBk b) (k1 : (xbit a1 a3) = 0 → xX (d + 1) mX0_heapOf 28 [some (.ref b), some (.int a1), some (.int a2), some (.int a3)] [] g = some r) (k2 : ¬ ((xbit a1 a3) = 0) → xX (d + 1) mX0_heapOf 17 [some (.ref b), some (.int a1), some (.int a2), some (.int a3)] [] g = some r) : xX (d + 1) mX0_heapOf 9 [some (.ref b), some (.int a1), some (.int a2), some (.int a3)] [] g = some r :=
  Y_iload_n dX0_heapOf_9 rfl <| Y_iload_n dX0_heapOf_10 rfl <| Y_callS1 dX0_heapOf_11 cl_0_67 rfl rfl rfl rfl rfl (c_xbit) <| Y_eq0 28 dX0_heapOf_14 rfl (fun q => X_le (xle_s (xle_s (xle_s (xle_s xle_0)))) (k1 q)) (fun q => X_le (xle_s (xle_s (xle_s (xle_s xle_0)))) (k2 q))
theorem bX0_heapOf_17 {d : Nat} {g : xSt} {r : Option Value × xSt} {a1 a2 a3 : Int32} {b : Nat} (W : xWf g) (hb : xBk b) (k : xX (d + 1) mX0_heapOf 28 [some (.ref b), some (.int a1), some (.int (a2 + (xat (xI g (b + 8)) 5 a3))), some (.int a3)] [] g = some r) : xX (d + 1) mX0_heapOf 17 [some (.ref b), some (.int a1), some (.int a2), some (.int a3)] [] g = some r :=
  Y_iload_n dX0_heapOf_17 rfl <| Y_aload_n dX0_heapOf_18 rfl <| Y_getR dX0_heapOf_19 f_0_35 (by rw [ft_0_12]; rfl) (xisB W hb) (xptrB W hb 12 rfl) <| Y_iload_n dX0_heapOf_22 rfl <| Y_callS1 dX0_heapOf_23 cl_0_71 rfl rfl rfl rfl rfl (c_at (xarrB W hb 8 rfl)) <| Y_iadd dX0_heapOf_26 <| Y_istore_n dX0_heapOf_27 rfl rfl <| X_le (xle_s (xle_s (xle_s (xle_s xle_0)))) k
theorem bX0_heapOf_28 {d : Nat} {g : xSt} {r : Option Value × xSt} {a1 a2 a3 : Int32} {b : Nat} (hb : xBk b) (k : xX (d + 1) mX0_heapOf 4 [some (.ref b), some (.int a1), some (.int a2), some (.int (a3 + 1))] [] g = some r) : xX (d + 1) mX0_heapOf 28 [some (.ref b), some (.int a1), some (.int a2), some (.int a3)] [] g = some r :=
  Y_iinc 1 dX0_heapOf_28 rfl ic_1 rfl rfl <| Y_goto 4 dX0_heapOf_31 rfl <| X_le (xle_s (xle_s (xle_s (xle_s xle_0)))) k
theorem bX0_heapOf_34 {d : Nat} {g : xSt} {r : Option Value × xSt} {a2 : Int32} (k : r = (some (.int a2), g)) : xX (d + 1) mX0_heapOf 34 [none, none, some (.int a2), none] [] g = some r :=
  Y_iload_n dX0_heapOf_34 rfl <| Y_iret dX0_heapOf_35 rfl k
theorem bX0_write_0 {d : Nat} {g : xSt} {r : Option Value × xSt} {a1 a2 a3 : Int32} {b : Nat} (W : xWf g) (hb : xBk b) (k : xX (d + 1) mX0_write 59 [some (.ref b), none, none, none, some (.int (xI g b 0))] [] (xput (xput (xput (xput (xput g (b + 1) 60 (xI g b 0) a1) (b + 2) 60 (xI g b 0) a2) (b + 3) 60 (xI g b 0) a3) (b + 4) 60 (xI g b 0) (xI (xput (xput (xput g (b + 1) 60 (xI g b 0) a1) (b + 2) 60 (xI g b 0) a2) (b + 3) 60 (xI g b 0) a3) b 2)) (b + 5) 60 (xI g b 0) (-1)) = some r) : xX (d + 1) mX0_write 0 [some (.ref b), some (.int a1), some (.int a2), some (.int a3), none] [] g = some r :=
  Y_aload_n dX0_write_0 rfl <| Y_getI dX0_write_1 f_0_38 ft_0_0 (xisB W hb) <| Y_istore dX0_write_4 rfl rfl <| Y_aload_n dX0_write_6 rfl <| Y_getR dX0_write_7 f_0_9 (by rw [ft_0_5]; rfl) (xisB W hb) (xptrB W hb 5 rfl) <| Y_iload dX0_write_10 rfl <| Y_iload_n dX0_write_12 rfl <| Y_callS0 dX0_write_13 cl_0_75 rfl rfl rfl rfl rfl (c_put (xarrB W hb 1 rfl)) <| Y_aload_n dX0_write_16 rfl <| Y_getR dX0_write_17 f_0_15 (by rw [ft_0_6]; rfl) (xisB (xWf_put W) hb) (xptrB (xWf_put W) hb 6 rfl) <| Y_iload dX0_write_20 rfl <| Y_iload_n dX0_write_22 rfl <| Y_callS0 dX0_write_23 cl_0_75 rfl rfl rfl rfl rfl (c_put (xarrB (xWf_put W) hb 2 rfl)) <| Y_aload_n dX0_write_26 rfl <| Y_getR dX0_write_27 f_0_18 (by rw [ft_0_7]; rfl) (xisB (xWf_put (xWf_put W)) hb) (xptrB (xWf_put (xWf_put W)) hb 7 rfl) <| Y_iload dX0_write_30 rfl <| Y_iload_n dX0_write_32 rfl <| Y_callS0 dX0_write_33 cl_0_75 rfl rfl rfl rfl rfl (c_put (xarrB (xWf_put (xWf_put W)) hb 3 rfl)) <| Y_aload_n dX0_write_36 rfl <| Y_getR dX0_write_37 f_0_21 (by rw [ft_0_8]; rfl) (xisB (xWf_put (xWf_put (xWf_put W))) hb) (xptrB (xWf_put (xWf_put (xWf_put W))) hb 8 rfl) <| Y_iload dX0_write_40 rfl <| Y_aload_n dX0_write_42 rfl <| Y_getI dX0_write_43 f_0_57 ft_0_2 (xisB (xWf_put (xWf_put (xWf_put W))) hb) <| Y_callS0 dX0_write_46 cl_0_75 rfl rfl rfl rfl rfl (c_put (xarrB (xWf_put (xWf_put (xWf_put W))) hb 4 rfl)) <| Y_aload_n dX0_write_49 rfl <| Y_getR dX0_write_50 f_0_24 (by rw [ft_0_9]; rfl) (xisB (xWf_put (xWf_put (xWf_put (xWf_put W)))) hb) (xptrB (xWf_put (xWf_put (xWf_put (xWf_put W)))) hb 9 rfl) <| Y_iload dX0_write_53 rfl <| Y_iconst (-1) dX0_write_55 ic_m1 <| Y_callS0 dX0_write_56 cl_0_75 rfl rfl rfl rfl rfl (c_put (xarrB (xWf_put (xWf_put (xWf_put (xWf_put W)))) hb 5 rfl)) <| X_le (xle_s (xle_n (xle_n (xle_n (xle_s xle_0))))) k
theorem bX0_write_59 {d : Nat} {g : xSt} {r : Option Value × xSt} {a4 : Int32} {b : Nat} (W : xWf g) (hb : xBk b) (k : r = (some (.int a4), xWI (xput g (b + 6) 60 a4 (xI g b 1)) b 0 ((xI (xput g (b + 6) 60 a4 (xI g b 1)) b 0) + 1))) : xX (d + 1) mX0_write 59 [some (.ref b), none, none, none, some (.int a4)] [] g = some r :=
  Y_aload_n dX0_write_59 rfl <| Y_getR dX0_write_60 f_0_27 (by rw [ft_0_10]; rfl) (xisB W hb) (xptrB W hb 10 rfl) <| Y_iload dX0_write_63 rfl <| Y_aload_n dX0_write_65 rfl <| Y_getI dX0_write_66 f_0_42 ft_0_1 (xisB W hb) <| Y_callS0 dX0_write_69 cl_0_75 rfl rfl rfl rfl rfl (c_put (xarrB W hb 6 rfl)) <| Y_aload_n dX0_write_72 rfl <| Y_dup dX0_write_73 rfl <| Y_getI dX0_write_74 f_0_38 ft_0_0 (xisB (xWf_put W) hb) <| Y_iconst 1 dX0_write_77 ic_1 <| Y_iadd dX0_write_78 <| Y_putI dX0_write_79 f_0_38 fn_0_0 ft_0_0 (xisB (xWf_put W) hb) <| Y_iload dX0_write_82 rfl <| Y_iret dX0_write_84 rfl k
theorem bX0_look_0 {d : Nat} {g : xSt} {r : Option Value × xSt} {a1 a2 r2 : Int32} {g2 : xSt} {b : Nat} (W : xWf g) (hb : xBk b) (hk2 : xCallM d mX0_has [.ref b, .int a1] g = some (some (.int r2), g2)) (W2 : xWf g2) (k1 : r2 = 0 → xX (d + 1) mX0_look 8 [none, none, none] [] g2 = some r) (k2 : ¬ (r2 = 0) → xX (d + 1) mX0_look 10 [some (.ref b), some (.int a1), some (.int a2)] [] g2 = some r) : xX (d + 1) mX0_look 0 [some (.ref b), some (.int a1), some (.int a2)] [] g = some r :=
  Y_aload_n dX0_look_0 rfl <| Y_iload_n dX0_look_1 rfl <| Y_callV1 dX0_look_2 cl_0_79 rfl rfl (xisB W hb) rfl rfl rfl (hk2) <| Y_ne0 10 dX0_look_5 rfl (fun q => X_le (xle_n (xle_n (xle_n xle_0))) (k1 q)) (fun q => X_le (xle_s (xle_s (xle_s xle_0))) (k2 q))
theorem bX0_look_8 {d : Nat} {g : xSt} {r : Option Value × xSt}  (k : r = (some (.int (-1)), g)) : xX (d + 1) mX0_look 8 [none, none, none] [] g = some r :=
  Y_iconst (-1) dX0_look_8 ic_m1 <| Y_iret dX0_look_9 rfl k
theorem bX0_look_10 {d : Nat} {g : xSt} {r : Option Value × xSt} {a1 a2 : Int32} {b : Nat} (hb : xBk b) (k0 : a2 = 0 → xX (d + 1) mX0_look 40 [some (.ref b), some (.int a1), none] [] g = some r) (k1 : a2 = 1 → xX (d + 1) mX0_look 49 [some (.ref b), some (.int a1), none] [] g = some r) (k2 : a2 = 2 → xX (d + 1) mX0_look 58 [some (.ref b), some (.int a1), none] [] g = some r) (k3 : a2 = 3 → xX (d + 1) mX0_look 67 [some (.ref b), some (.int a1), none] [] g = some r) (kd : ¬ a2 = 0 → ¬ a2 = 1 → ¬ a2 = 2 → ¬ a2 = 3 → xX (d + 1) mX0_look 81 [none, none, none] [] g = some r) : xX (d + 1) mX0_look 10 [some (.ref b), some (.int a1), some (.int a2)] [] g = some r := by
  refine Y_iload_n dX0_look_10 rfl <| ?_
  by_cases q0 : a2 = 0
  · exact Y_swc q0 dX0_look_11 (by decide +kernel) (X_le (xle_s (xle_s (xle_n xle_0))) (k0 q0))
  by_cases q1 : a2 = 1
  · exact Y_swc q1 dX0_look_11 (by decide +kernel) (X_le (xle_s (xle_s (xle_n xle_0))) (k1 q1))
  by_cases q2 : a2 = 2
  · exact Y_swc q2 dX0_look_11 (by decide +kernel) (X_le (xle_s (xle_s (xle_n xle_0))) (k2 q2))
  by_cases q3 : a2 = 3
  · exact Y_swc q3 dX0_look_11 (by decide +kernel) (X_le (xle_s (xle_s (xle_n xle_0))) (k3 q3))
  exact Y_swd 81 dX0_look_11 (xsw4 q0 q1 q2 q3) rfl (X_le (xle_n (xle_n (xle_n xle_0))) (kd q0 q1 q2 q3))
theorem bX0_look_40 {d : Nat} {g : xSt} {r : Option Value × xSt} {a1 : Int32} {b : Nat} (W : xWf g) (hb : xBk b) (k : r = (some (.int (xat (xI g (b + 1)) 60 a1)), g)) : xX (d + 1) mX0_look 40 [some (.ref b), some (.int a1), none] [] g = some r :=
  Y_aload_n dX0_look_40 rfl <| Y_getR dX0_look_41 f_0_9 (by rw [ft_0_5]; rfl) (xisB W hb) (xptrB W hb 5 rfl) <| Y_iload_n dX0_look_44 rfl <| Y_callS1 dX0_look_45 cl_0_71 rfl rfl rfl rfl rfl (c_at (xarrB W hb 1 rfl)) <| Y_iret dX0_look_48 rfl k
theorem bX0_look_49 {d : Nat} {g : xSt} {r : Option Value × xSt} {a1 : Int32} {b : Nat} (W : xWf g) (hb : xBk b) (k : r = (some (.int (xat (xI g (b + 2)) 60 a1)), g)) : xX (d + 1) mX0_look 49 [some (.ref b), some (.int a1), none] [] g = some r :=
  Y_aload_n dX0_look_49 rfl <| Y_getR dX0_look_50 f_0_15 (by rw [ft_0_6]; rfl) (xisB W hb) (xptrB W hb 6 rfl) <| Y_iload_n dX0_look_53 rfl <| Y_callS1 dX0_look_54 cl_0_71 rfl rfl rfl rfl rfl (c_at (xarrB W hb 2 rfl)) <| Y_iret dX0_look_57 rfl k
theorem bX0_look_58 {d : Nat} {g : xSt} {r : Option Value × xSt} {a1 : Int32} {b : Nat} (W : xWf g) (hb : xBk b) (k : r = (some (.int (xat (xI g (b + 3)) 60 a1)), g)) : xX (d + 1) mX0_look 58 [some (.ref b), some (.int a1), none] [] g = some r :=
  Y_aload_n dX0_look_58 rfl <| Y_getR dX0_look_59 f_0_18 (by rw [ft_0_7]; rfl) (xisB W hb) (xptrB W hb 7 rfl) <| Y_iload_n dX0_look_62 rfl <| Y_callS1 dX0_look_63 cl_0_71 rfl rfl rfl rfl rfl (c_at (xarrB W hb 3 rfl)) <| Y_iret dX0_look_66 rfl k
theorem bX0_look_67 {d : Nat} {g : xSt} {r : Option Value × xSt} {a1 r69 : Int32} {g69 : xSt} {b : Nat} (W : xWf g) (hb : xBk b) (hk69 : xCallM d mX0_isUntold [.ref b, .int a1] g = some (some (.int r69), g69)) (W69 : xWf g69) (k1 : r69 = 0 → xX (d + 1) mX0_look 79 [none, none, none] [] g69 = some r) (k2 : ¬ (r69 = 0) → xX (d + 1) mX0_look 75 [none, none, none] [] g69 = some r) : xX (d + 1) mX0_look 67 [some (.ref b), some (.int a1), none] [] g = some r :=
  Y_aload_n dX0_look_67 rfl <| Y_iload_n dX0_look_68 rfl <| Y_callV1 dX0_look_69 cl_0_83 rfl rfl (xisB W hb) rfl rfl rfl (hk69) <| Y_eq0 79 dX0_look_72 rfl (fun q => X_le (xle_n (xle_n (xle_n xle_0))) (k1 q)) (fun q => X_le (xle_n (xle_n (xle_n xle_0))) (k2 q))
theorem bX0_look_75 {d : Nat} {g : xSt} {r : Option Value × xSt}  (k : xX (d + 1) mX0_look 80 [none, none, none] [.int 1] g = some r) : xX (d + 1) mX0_look 75 [none, none, none] [] g = some r :=
  Y_iconst 1 dX0_look_75 ic_1 <| Y_goto 80 dX0_look_76 rfl <| X_le (xle_n (xle_n (xle_n xle_0))) k
theorem bX0_look_79 {d : Nat} {g : xSt} {r : Option Value × xSt}  (k : xX (d + 1) mX0_look 80 [none, none, none] [.int 0] g = some r) : xX (d + 1) mX0_look 79 [none, none, none] [] g = some r :=
  Y_iconst 0 dX0_look_79 ic_0 <| X_le (xle_n (xle_n (xle_n xle_0))) k
theorem bX0_look_80 {d : Nat} {g : xSt} {r : Option Value × xSt} {s0 : Int32} (k : r = (some (.int s0), g)) : xX (d + 1) mX0_look 80 [none, none, none] [.int s0] g = some r :=
  Y_iret dX0_look_80 rfl k
theorem bX0_look_81 {d : Nat} {g : xSt} {r : Option Value × xSt}  (k : r = (some (.int (-1)), g)) : xX (d + 1) mX0_look 81 [none, none, none] [] g = some r :=
  Y_iconst (-1) dX0_look_81 ic_m1 <| Y_iret dX0_look_82 rfl k
theorem bX0_has_0 {d : Nat} {g : xSt} {r : Option Value × xSt} {a1 : Int32} {b : Nat} (hb : xBk b) (k1 : a1 < 0 → xX d mX0_has 16 [none, none] [] g = some r) (k2 : ¬ (a1 < 0) → xX d mX0_has 4 [some (.ref b), some (.int a1)] [] g = some r) : xX d mX0_has 0 [some (.ref b), some (.int a1)] [] g = some r :=
  Y_iload_n dX0_has_0 rfl <| Y_lt0 16 dX0_has_1 rfl (fun q => X_le (xle_n (xle_n xle_0)) (k1 q)) (fun q => X_le (xle_s (xle_s xle_0)) (k2 q))
theorem bX0_has_4 {d : Nat} {g : xSt} {r : Option Value × xSt} {a1 : Int32} {b : Nat} (W : xWf g) (hb : xBk b) (k1 : (xI g b 0) ≤ a1 → xX d mX0_has 16 [none, none] [] g = some r) (k2 : ¬ ((xI g b 0) ≤ a1) → xX d mX0_has 12 [none, none] [] g = some r) : xX d mX0_has 4 [some (.ref b), some (.int a1)] [] g = some r :=
  Y_iload_n dX0_has_4 rfl <| Y_aload_n dX0_has_5 rfl <| Y_getI dX0_has_6 f_0_38 ft_0_0 (xisB W hb) <| Y_ge 16 dX0_has_9 rfl (fun q => X_le (xle_n (xle_n xle_0)) (k1 q)) (fun q => X_le (xle_n (xle_n xle_0)) (k2 q))
theorem bX0_has_12 {d : Nat} {g : xSt} {r : Option Value × xSt}  (k : xX d mX0_has 17 [none, none] [.int 1] g = some r) : xX d mX0_has 12 [none, none] [] g = some r :=
  Y_iconst 1 dX0_has_12 ic_1 <| Y_goto 17 dX0_has_13 rfl <| X_le (xle_n (xle_n xle_0)) k
theorem bX0_has_16 {d : Nat} {g : xSt} {r : Option Value × xSt}  (k : xX d mX0_has 17 [none, none] [.int 0] g = some r) : xX d mX0_has 16 [none, none] [] g = some r :=
  Y_iconst 0 dX0_has_16 ic_0 <| X_le (xle_n (xle_n xle_0)) k
theorem bX0_has_17 {d : Nat} {g : xSt} {r : Option Value × xSt} {s0 : Int32} (hz17 : s0 = 0 ∨ s0 = 1) (k : r = (some (.int s0), g)) : xX d mX0_has 17 [none, none] [.int s0] g = some r :=
  Y_zret dX0_has_17 rfl (hz17) k
theorem bX0_isUntold_0 {d : Nat} {g : xSt} {r : Option Value × xSt} {a1 : Int32} {b : Nat} (W : xWf g) (hb : xBk b) (k1 : (xat (xI g (b + 5)) 60 a1) = (-1) → xX (d + 1) mX0_isUntold 16 [none, none] [] g = some r) (k2 : ¬ ((xat (xI g (b + 5)) 60 a1) = (-1)) → xX (d + 1) mX0_isUntold 12 [none, none] [] g = some r) : xX (d + 1) mX0_isUntold 0 [some (.ref b), some (.int a1)] [] g = some r :=
  Y_aload_n dX0_isUntold_0 rfl <| Y_getR dX0_isUntold_1 f_0_24 (by rw [ft_0_9]; rfl) (xisB W hb) (xptrB W hb 9 rfl) <| Y_iload_n dX0_isUntold_4 rfl <| Y_callS1 dX0_isUntold_5 cl_0_71 rfl rfl rfl rfl rfl (c_at (xarrB W hb 5 rfl)) <| Y_iconst (-1) dX0_isUntold_8 ic_m1 <| Y_eq 16 dX0_isUntold_9 rfl (fun q => X_le (xle_n (xle_n xle_0)) (k1 q)) (fun q => X_le (xle_n (xle_n xle_0)) (k2 q))
theorem bX0_isUntold_12 {d : Nat} {g : xSt} {r : Option Value × xSt}  (k : xX (d + 1) mX0_isUntold 17 [none, none] [.int 1] g = some r) : xX (d + 1) mX0_isUntold 12 [none, none] [] g = some r :=
  Y_iconst 1 dX0_isUntold_12 ic_1 <| Y_goto 17 dX0_isUntold_13 rfl <| X_le (xle_n (xle_n xle_0)) k
theorem bX0_isUntold_16 {d : Nat} {g : xSt} {r : Option Value × xSt}  (k : xX (d + 1) mX0_isUntold 17 [none, none] [.int 0] g = some r) : xX (d + 1) mX0_isUntold 16 [none, none] [] g = some r :=
  Y_iconst 0 dX0_isUntold_16 ic_0 <| X_le (xle_n (xle_n xle_0)) k
theorem bX0_isUntold_17 {d : Nat} {g : xSt} {r : Option Value × xSt} {s0 : Int32} (hz17 : s0 = 0 ∨ s0 = 1) (k : r = (some (.int s0), g)) : xX (d + 1) mX0_isUntold 17 [none, none] [.int s0] g = some r :=
  Y_zret dX0_isUntold_17 rfl (hz17) k
theorem bX0_rain_0 {d : Nat} {g : xSt} {r : Option Value × xSt} {a1 : Int32} {b : Nat} (hb : xBk b) (k1 : a1 < 2 → xX (d + 1) mX0_rain 14 [none, none, none, none, none, none] [] g = some r) (k2 : ¬ (a1 < 2) → xX (d + 1) mX0_rain 5 [some (.ref b), some (.int a1), none, none, none, none] [] g = some r) : xX (d + 1) mX0_rain 0 [some (.ref b), some (.int a1), none, none, none, none] [] g = some r :=
  Y_iload_n dX0_rain_0 rfl <| Y_iconst 2 dX0_rain_1 ic_2 <| Y_lt 14 dX0_rain_2 rfl (fun q => X_le (xle_n (xle_n (xle_n (xle_n (xle_n (xle_n xle_0)))))) (k1 q)) (fun q => X_le (xle_s (xle_s (xle_n (xle_n (xle_n (xle_n xle_0)))))) (k2 q))
theorem bX0_rain_5 {d : Nat} {g : xSt} {r : Option Value × xSt} {a1 : Int32} {b : Nat} (W : xWf g) (hb : xBk b) (k1 : (xI g b 1) < 40 → xX (d + 1) mX0_rain 16 [some (.ref b), some (.int a1), none, none, none, none] [] g = some r) (k2 : ¬ ((xI g b 1) < 40) → xX (d + 1) mX0_rain 14 [none, none, none, none, none, none] [] g = some r) : xX (d + 1) mX0_rain 5 [some (.ref b), some (.int a1), none, none, none, none] [] g = some r :=
  Y_aload_n dX0_rain_5 rfl <| Y_getI dX0_rain_6 f_0_42 ft_0_1 (xisB W hb) <| Y_bipush 40 dX0_rain_9 bp_40 <| Y_lt 16 dX0_rain_11 rfl (fun q => X_le (xle_s (xle_s (xle_n (xle_n (xle_n (xle_n xle_0)))))) (k1 q)) (fun q => X_le (xle_n (xle_n (xle_n (xle_n (xle_n (xle_n xle_0)))))) (k2 q))
theorem bX0_rain_14 {d : Nat} {g : xSt} {r : Option Value × xSt}  (k : r = (some (.int (-1)), g)) : xX (d + 1) mX0_rain 14 [none, none, none, none, none, none] [] g = some r :=
  Y_iconst (-1) dX0_rain_14 ic_m1 <| Y_iret dX0_rain_15 rfl k
theorem bX0_rain_16 {d : Nat} {g : xSt} {r : Option Value × xSt} {a1 r47 r56 : Int32} {g47 g56 : xSt} {b : Nat} (W : xWf g) (hb : xBk b) (hz42 : ¬ (a1 - 1) = 0) (hk47 : xCallM d mX0_thingAtRank [.ref b, .int ((xI (xWI g b 3 ((((xI g b 3) * 137) + 71) - (((xI g b 3) * 137) + 71) / 1000 * 1000)) b 3) - (xI (xWI g b 3 ((((xI g b 3) * 137) + 71) - (((xI g b 3) * 137) + 71) / 1000 * 1000)) b 3) / (a1 - 1) * (a1 - 1)), .int a1] (xWI g b 3 ((((xI g b 3) * 137) + 71) - (((xI g b 3) * 137) + 71) / 1000 * 1000)) = some (some (.int r47), g47)) (W47 : xWf g47) (hk56 : xCallM d mX0_thingAtRank [.ref b, .int (((xI (xWI g b 3 ((((xI g b 3) * 137) + 71) - (((xI g b 3) * 137) + 71) / 1000 * 1000)) b 3) - (xI (xWI g b 3 ((((xI g b 3) * 137) + 71) - (((xI g b 3) * 137) + 71) / 1000 * 1000)) b 3) / (a1 - 1) * (a1 - 1)) + 1), .int a1] g47 = some (some (.int r56), g56)) (W56 : xWf g56) (k : xX (d + 1) mX0_rain 114 [some (.ref b), none, some (.int ((xI (xWI g b 3 ((((xI g b 3) * 137) + 71) - (((xI g b 3) * 137) + 71) / 1000 * 1000)) b 3) - (xI (xWI g b 3 ((((xI g b 3) * 137) + 71) - (((xI g b 3) * 137) + 71) / 1000 * 1000)) b 3) / (a1 - 1) * (a1 - 1))), none, none, none] [] (xput (xput (xput g56 (b + 8) 5 r47 (xat (xI g56 (b + 8)) 5 r56)) (b + 8) 5 r56 (xat (xI g56 (b + 8)) 5 r47)) (b + 7) 40 (xI (xput (xput g56 (b + 8) 5 r47 (xat (xI g56 (b + 8)) 5 r56)) (b + 8) 5 r56 (xat (xI g56 (b + 8)) 5 r47)) b 1) (xI (xput (xput g56 (b + 8) 5 r47 (xat (xI g56 (b + 8)) 5 r56)) (b + 8) 5 r56 (xat (xI g56 (b + 8)) 5 r47)) b 2)) = some r) : xX (d + 1) mX0_rain 16 [some (.ref b), some (.int a1), none, none, none, none] [] g = some r :=
  Y_aload_n dX0_rain_16 rfl <| Y_aload_n dX0_rain_17 rfl <| Y_getI dX0_rain_18 f_0_45 ft_0_3 (xisB W hb) <| Y_sipush 137 dX0_rain_21 sp_137 <| Y_imul dX0_rain_24 <| Y_bipush 71 dX0_rain_25 bp_71 <| Y_iadd dX0_rain_27 <| Y_sipush 1000 dX0_rain_28 sp_1000 <| Y_irem dX0_rain_31 (by decide) <| Y_putI dX0_rain_32 f_0_45 fn_0_3 ft_0_3 (xisB W hb) <| Y_aload_n dX0_rain_35 rfl <| Y_getI dX0_rain_36 f_0_45 ft_0_3 (xisB W hb) <| Y_iload_n dX0_rain_39 rfl <| Y_iconst 1 dX0_rain_40 ic_1 <| Y_isub dX0_rain_41 <| Y_irem dX0_rain_42 (hz42) <| Y_istore_n dX0_rain_43 rfl rfl <| Y_aload_n dX0_rain_44 rfl <| Y_iload_n dX0_rain_45 rfl <| Y_iload_n dX0_rain_46 rfl <| Y_callV1 dX0_rain_47 cl_0_87 rfl rfl (xisB W hb) rfl rfl rfl (hk47) <| Y_istore_n dX0_rain_50 rfl rfl <| Y_aload_n dX0_rain_51 rfl <| Y_iload_n dX0_rain_52 rfl <| Y_iconst 1 dX0_rain_53 ic_1 <| Y_iadd dX0_rain_54 <| Y_iload_n dX0_rain_55 rfl <| Y_callV1 dX0_rain_56 cl_0_87 rfl rfl (xisB W47 hb) rfl rfl rfl (hk56) <| Y_istore dX0_rain_59 rfl rfl <| Y_aload_n dX0_rain_61 rfl <| Y_getR dX0_rain_62 f_0_35 (by rw [ft_0_12]; rfl) (xisB W56 hb) (xptrB W56 hb 12 rfl) <| Y_iload_n dX0_rain_65 rfl <| Y_callS1 dX0_rain_66 cl_0_71 rfl rfl rfl rfl rfl (c_at (xarrB W56 hb 8 rfl)) <| Y_istore dX0_rain_69 rfl rfl <| Y_aload_n dX0_rain_71 rfl <| Y_getR dX0_rain_72 f_0_35 (by rw [ft_0_12]; rfl) (xisB W56 hb) (xptrB W56 hb 12 rfl) <| Y_iload_n dX0_rain_75 rfl <| Y_aload_n dX0_rain_76 rfl <| Y_getR dX0_rain_77 f_0_35 (by rw [ft_0_12]; rfl) (xisB W56 hb) (xptrB W56 hb 12 rfl) <| Y_iload dX0_rain_80 rfl <| Y_callS1 dX0_rain_82 cl_0_71 rfl rfl rfl rfl rfl (c_at (xarrB W56 hb 8 rfl)) <| Y_callS0 dX0_rain_85 cl_0_75 rfl rfl rfl rfl rfl (c_put (xarrB W56 hb 8 rfl)) <| Y_aload_n dX0_rain_88 rfl <| Y_getR dX0_rain_89 f_0_35 (by rw [ft_0_12]; rfl) (xisB (xWf_put W56) hb) (xptrB (xWf_put W56) hb 12 rfl) <| Y_iload dX0_rain_92 rfl <| Y_iload dX0_rain_94 rfl <| Y_callS0 dX0_rain_96 cl_0_75 rfl rfl rfl rfl rfl (c_put (xarrB (xWf_put W56) hb 8 rfl)) <| Y_aload_n dX0_rain_99 rfl <| Y_getR dX0_rain_100 f_0_30 (by rw [ft_0_11]; rfl) (xisB (xWf_put (xWf_put W56)) hb) (xptrB (xWf_put (xWf_put W56)) hb 11 rfl) <| Y_aload_n dX0_rain_103 rfl <| Y_getI dX0_rain_104 f_0_42 ft_0_1 (xisB (xWf_put (xWf_put W56)) hb) <| Y_aload_n dX0_rain_107 rfl <| Y_getI dX0_rain_108 f_0_57 ft_0_2 (xisB (xWf_put (xWf_put W56)) hb) <| Y_callS0 dX0_rain_111 cl_0_75 rfl rfl rfl rfl rfl (c_put (xarrB (xWf_put (xWf_put W56)) hb 7 rfl)) <| X_le (xle_s (xle_n (xle_s (xle_n (xle_n (xle_n xle_0)))))) k
theorem bX0_rain_114 {d : Nat} {g : xSt} {r : Option Value × xSt} {a2 : Int32} {b : Nat} (W : xWf g) (hb : xBk b) (k : r = (some (.int a2), xWI g b 1 ((xI g b 1) + 1))) : xX (d + 1) mX0_rain 114 [some (.ref b), none, some (.int a2), none, none, none] [] g = some r :=
  Y_aload_n dX0_rain_114 rfl <| Y_dup dX0_rain_115 rfl <| Y_getI dX0_rain_116 f_0_42 ft_0_1 (xisB W hb) <| Y_iconst 1 dX0_rain_119 ic_1 <| Y_iadd dX0_rain_120 <| Y_putI dX0_rain_121 f_0_42 fn_0_1 ft_0_1 (xisB W hb) <| Y_iload_n dX0_rain_124 rfl <| Y_iret dX0_rain_125 rfl k
theorem bX0_thingAtRank_0 {d : Nat} {g : xSt} {r : Option Value × xSt} {a1 a2 : Int32} {b : Nat} (hb : xBk b) (k : xX (d + 1) mX0_thingAtRank 2 [some (.ref b), some (.int a1), some (.int a2), some (.int 0), none, none, none] [] g = some r) : xX (d + 1) mX0_thingAtRank 0 [some (.ref b), some (.int a1), some (.int a2), none, none, none, none] [] g = some r :=
  Y_iconst 0 dX0_thingAtRank_0 ic_0 <| Y_istore_n dX0_thingAtRank_1 rfl rfl <| X_le (xle_s (xle_s (xle_s (xle_s (xle_n (xle_n (xle_n xle_0))))))) k
theorem bX0_thingAtRank_2 {d : Nat} {g : xSt} {r : Option Value × xSt} {a1 a2 a3 : Int32} {b : Nat} (hb : xBk b) (k1 : a2 ≤ a3 → xX (d + 1) mX0_thingAtRank 85 [none, none, none, none, none, none, none] [] g = some r) (k2 : ¬ (a2 ≤ a3) → xX (d + 1) mX0_thingAtRank 7 [some (.ref b), some (.int a1), some (.int a2), some (.int a3), none, none, none] [] g = some r) : xX (d + 1) mX0_thingAtRank 2 [some (.ref b), some (.int a1), some (.int a2), some (.int a3), none, none, none] [] g = some r :=
  Y_iload_n dX0_thingAtRank_2 rfl <| Y_iload_n dX0_thingAtRank_3 rfl <| Y_ge 85 dX0_thingAtRank_4 rfl (fun q => X_le (xle_n (xle_n (xle_n (xle_n (xle_n (xle_n (xle_n xle_0))))))) (k1 q)) (fun q => X_le (xle_s (xle_s (xle_s (xle_s (xle_n (xle_n (xle_n xle_0))))))) (k2 q))
theorem bX0_thingAtRank_7 {d : Nat} {g : xSt} {r : Option Value × xSt} {a1 a2 a3 : Int32} {b : Nat} (hb : xBk b) (k : xX (d + 1) mX0_thingAtRank 13 [some (.ref b), some (.int a1), some (.int a2), some (.int a3), some (.int 0), some (.int 0), none] [] g = some r) : xX (d + 1) mX0_thingAtRank 7 [some (.ref b), some (.int a1), some (.int a2), some (.int a3), none, none, none] [] g = some r :=
  Y_iconst 0 dX0_thingAtRank_7 ic_0 <| Y_istore dX0_thingAtRank_8 rfl rfl <| Y_iconst 0 dX0_thingAtRank_10 ic_0 <| Y_istore dX0_thingAtRank_11 rfl rfl <| X_le (xle_s (xle_s (xle_s (xle_s (xle_s (xle_s (xle_n xle_0))))))) k
theorem bX0_thingAtRank_13 {d : Nat} {g : xSt} {r : Option Value × xSt} {a1 a2 a3 a4 a5 : Int32} {b : Nat} (hb : xBk b) (k1 : a2 ≤ a5 → xX (d + 1) mX0_thingAtRank 71 [some (.ref b), some (.int a1), some (.int a2), some (.int a3), some (.int a4), none, none] [] g = some r) (k2 : ¬ (a2 ≤ a5) → xX (d + 1) mX0_thingAtRank 19 [some (.ref b), some (.int a1), some (.int a2), some (.int a3), some (.int a4), some (.int a5), none] [] g = some r) : xX (d + 1) mX0_thingAtRank 13 [some (.ref b), some (.int a1), some (.int a2), some (.int a3), some (.int a4), some (.int a5), none] [] g = some r :=
  Y_iload dX0_thingAtRank_13 rfl <| Y_iload_n dX0_thingAtRank_15 rfl <| Y_ge 71 dX0_thingAtRank_16 rfl (fun q => X_le (xle_s (xle_s (xle_s (xle_s (xle_s (xle_n (xle_n xle_0))))))) (k1 q)) (fun q => X_le (xle_s (xle_s (xle_s (xle_s (xle_s (xle_s (xle_n xle_0))))))) (k2 q))
theorem bX0_thingAtRank_19 {d : Nat} {g : xSt} {r : Option Value × xSt} {a1 a2 a3 a4 a5 : Int32} {b : Nat} (W : xWf g) (hb : xBk b) (k1 : 0 < ((xat (xI g (b + 8)) 5 a5) - (xat (xI g (b + 8)) 5 a3)) → xX (d + 1) mX0_thingAtRank 57 [some (.ref b), some (.int a1), some (.int a2), some (.int a3), none, some (.int a5), none] [.int a4] g = some r) (k2 : ¬ (0 < ((xat (xI g (b + 8)) 5 a5) - (xat (xI g (b + 8)) 5 a3))) → xX (d + 1) mX0_thingAtRank 46 [some (.ref b), some (.int a1), some (.int a2), some (.int a3), none, some (.int a5), some (.int ((xat (xI g (b + 8)) 5 a5) - (xat (xI g (b + 8)) 5 a3)))] [.int a4] g = some r) : xX (d + 1) mX0_thingAtRank 19 [some (.ref b), some (.int a1), some (.int a2), some (.int a3), some (.int a4), some (.int a5), none] [] g = some r :=
  Y_aload_n dX0_thingAtRank_19 rfl <| Y_getR dX0_thingAtRank_20 f_0_35 (by rw [ft_0_12]; rfl) (xisB W hb) (xptrB W hb 12 rfl) <| Y_iload dX0_thingAtRank_23 rfl <| Y_callS1 dX0_thingAtRank_25 cl_0_71 rfl rfl rfl rfl rfl (c_at (xarrB W hb 8 rfl)) <| Y_aload_n dX0_thingAtRank_28 rfl <| Y_getR dX0_thingAtRank_29 f_0_35 (by rw [ft_0_12]; rfl) (xisB W hb) (xptrB W hb 12 rfl) <| Y_iload_n dX0_thingAtRank_32 rfl <| Y_callS1 dX0_thingAtRank_33 cl_0_71 rfl rfl rfl rfl rfl (c_at (xarrB W hb 8 rfl)) <| Y_isub dX0_thingAtRank_36 <| Y_istore dX0_thingAtRank_37 rfl rfl <| Y_iload dX0_thingAtRank_39 rfl <| Y_iload dX0_thingAtRank_41 rfl <| Y_gt0 57 dX0_thingAtRank_43 rfl (fun q => X_le (xle_s (xle_s (xle_s (xle_s (xle_n (xle_s (xle_n xle_0))))))) (k1 q)) (fun q => X_le (xle_s (xle_s (xle_s (xle_s (xle_n (xle_s (xle_s xle_0))))))) (k2 q))
theorem bX0_thingAtRank_46 {d : Nat} {g : xSt} {r : Option Value × xSt} {a1 a2 a3 a5 a6 s0 : Int32} {b : Nat} (hb : xBk b) (k1 : a6 = 0 → xX (d + 1) mX0_thingAtRank 51 [some (.ref b), some (.int a1), some (.int a2), some (.int a3), none, some (.int a5), none] [.int s0] g = some r) (k2 : ¬ (a6 = 0) → xX (d + 1) mX0_thingAtRank 61 [some (.ref b), some (.int a1), some (.int a2), some (.int a3), none, some (.int a5), none] [.int s0] g = some r) : xX (d + 1) mX0_thingAtRank 46 [some (.ref b), some (.int a1), some (.int a2), some (.int a3), none, some (.int a5), some (.int a6)] [.int s0] g = some r :=
  Y_iload dX0_thingAtRank_46 rfl <| Y_ne0 61 dX0_thingAtRank_48 rfl (fun q => X_le (xle_s (xle_s (xle_s (xle_s (xle_n (xle_s (xle_n xle_0))))))) (k1 q)) (fun q => X_le (xle_s (xle_s (xle_s (xle_s (xle_n (xle_s (xle_n xle_0))))))) (k2 q))
theorem bX0_thingAtRank_51 {d : Nat} {g : xSt} {r : Option Value × xSt} {a1 a2 a3 a5 s0 : Int32} {b : Nat} (hb : xBk b) (k1 : a3 ≤ a5 → xX (d + 1) mX0_thingAtRank 61 [some (.ref b), some (.int a1), some (.int a2), some (.int a3), none, some (.int a5), none] [.int s0] g = some r) (k2 : ¬ (a3 ≤ a5) → xX (d + 1) mX0_thingAtRank 57 [some (.ref b), some (.int a1), some (.int a2), some (.int a3), none, some (.int a5), none] [.int s0] g = some r) : xX (d + 1) mX0_thingAtRank 51 [some (.ref b), some (.int a1), some (.int a2), some (.int a3), none, some (.int a5), none] [.int s0] g = some r :=
  Y_iload dX0_thingAtRank_51 rfl <| Y_iload_n dX0_thingAtRank_53 rfl <| Y_ge 61 dX0_thingAtRank_54 rfl (fun q => X_le (xle_s (xle_s (xle_s (xle_s (xle_n (xle_s (xle_n xle_0))))))) (k1 q)) (fun q => X_le (xle_s (xle_s (xle_s (xle_s (xle_n (xle_s (xle_n xle_0))))))) (k2 q))
theorem bX0_thingAtRank_57 {d : Nat} {g : xSt} {r : Option Value × xSt} {a1 a2 a3 a5 s0 : Int32} {b : Nat} (hb : xBk b) (k : xX (d + 1) mX0_thingAtRank 62 [some (.ref b), some (.int a1), some (.int a2), some (.int a3), none, some (.int a5), none] [.int 1, .int s0] g = some r) : xX (d + 1) mX0_thingAtRank 57 [some (.ref b), some (.int a1), some (.int a2), some (.int a3), none, some (.int a5), none] [.int s0] g = some r :=
  Y_iconst 1 dX0_thingAtRank_57 ic_1 <| Y_goto 62 dX0_thingAtRank_58 rfl <| X_le (xle_s (xle_s (xle_s (xle_s (xle_n (xle_s (xle_n xle_0))))))) k
theorem bX0_thingAtRank_61 {d : Nat} {g : xSt} {r : Option Value × xSt} {a1 a2 a3 a5 s0 : Int32} {b : Nat} (hb : xBk b) (k : xX (d + 1) mX0_thingAtRank 62 [some (.ref b), some (.int a1), some (.int a2), some (.int a3), none, some (.int a5), none] [.int 0, .int s0] g = some r) : xX (d + 1) mX0_thingAtRank 61 [some (.ref b), some (.int a1), some (.int a2), some (.int a3), none, some (.int a5), none] [.int s0] g = some r :=
  Y_iconst 0 dX0_thingAtRank_61 ic_0 <| X_le (xle_s (xle_s (xle_s (xle_s (xle_n (xle_s (xle_n xle_0))))))) k
theorem bX0_thingAtRank_62 {d : Nat} {g : xSt} {r : Option Value × xSt} {a1 a2 a3 a5 s1 s0 : Int32} {b : Nat} (hb : xBk b) (k : xX (d + 1) mX0_thingAtRank 13 [some (.ref b), some (.int a1), some (.int a2), some (.int a3), some (.int (s1 + s0)), some (.int (a5 + 1)), none] [] g = some r) : xX (d + 1) mX0_thingAtRank 62 [some (.ref b), some (.int a1), some (.int a2), some (.int a3), none, some (.int a5), none] [.int s0, .int s1] g = some r :=
  Y_iadd dX0_thingAtRank_62 <| Y_istore dX0_thingAtRank_63 rfl rfl <| Y_iinc 1 dX0_thingAtRank_65 rfl ic_1 rfl rfl <| Y_goto 13 dX0_thingAtRank_68 rfl <| X_le (xle_s (xle_s (xle_s (xle_s (xle_s (xle_s (xle_n xle_0))))))) k
theorem bX0_thingAtRank_71 {d : Nat} {g : xSt} {r : Option Value × xSt} {a1 a2 a3 a4 : Int32} {b : Nat} (hb : xBk b) (k1 : a4 = a1 → xX (d + 1) mX0_thingAtRank 77 [none, none, none, some (.int a3), none, none, none] [] g = some r) (k2 : ¬ (a4 = a1) → xX (d + 1) mX0_thingAtRank 79 [some (.ref b), some (.int a1), some (.int a2), some (.int a3), none, none, none] [] g = some r) : xX (d + 1) mX0_thingAtRank 71 [some (.ref b), some (.int a1), some (.int a2), some (.int a3), some (.int a4), none, none] [] g = some r :=
  Y_iload dX0_thingAtRank_71 rfl <| Y_iload_n dX0_thingAtRank_73 rfl <| Y_ne 79 dX0_thingAtRank_74 rfl (fun q => X_le (xle_n (xle_n (xle_n (xle_s (xle_n (xle_n (xle_n xle_0))))))) (k1 q)) (fun q => X_le (xle_s (xle_s (xle_s (xle_s (xle_n (xle_n (xle_n xle_0))))))) (k2 q))
theorem bX0_thingAtRank_77 {d : Nat} {g : xSt} {r : Option Value × xSt} {a3 : Int32} (k : r = (some (.int a3), g)) : xX (d + 1) mX0_thingAtRank 77 [none, none, none, some (.int a3), none, none, none] [] g = some r :=
  Y_iload_n dX0_thingAtRank_77 rfl <| Y_iret dX0_thingAtRank_78 rfl k
theorem bX0_thingAtRank_79 {d : Nat} {g : xSt} {r : Option Value × xSt} {a1 a2 a3 : Int32} {b : Nat} (hb : xBk b) (k : xX (d + 1) mX0_thingAtRank 2 [some (.ref b), some (.int a1), some (.int a2), some (.int (a3 + 1)), none, none, none] [] g = some r) : xX (d + 1) mX0_thingAtRank 79 [some (.ref b), some (.int a1), some (.int a2), some (.int a3), none, none, none] [] g = some r :=
  Y_iinc 1 dX0_thingAtRank_79 rfl ic_1 rfl rfl <| Y_goto 2 dX0_thingAtRank_82 rfl <| X_le (xle_s (xle_s (xle_s (xle_s (xle_n (xle_n (xle_n xle_0))))))) k
theorem bX0_thingAtRank_85 {d : Nat} {g : xSt} {r : Option Value × xSt}  (k : r = (some (.int 0), g)) : xX (d + 1) mX0_thingAtRank 85 [none, none, none, none, none, none, none] [] g = some r :=
  Y_iconst 0 dX0_thingAtRank_85 ic_0 <| Y_iret dX0_thingAtRank_86 rfl k
theorem bX0_strike_0 {d : Nat} {g : xSt} {r : Option Value × xSt} {a1 r2 : Int32} {g2 : xSt} {b : Nat} (W : xWf g) (hb : xBk b) (hk2 : xCallM d mX0_has [.ref b, .int a1] g = some (some (.int r2), g2)) (W2 : xWf g2) (k1 : r2 = 0 → xX (d + 1) mX0_strike 16 [none, none] [] g2 = some r) (k2 : ¬ (r2 = 0) → xX (d + 1) mX0_strike 8 [some (.ref b), some (.int a1)] [] g2 = some r) : xX (d + 1) mX0_strike 0 [some (.ref b), some (.int a1)] [] g = some r :=
  Y_aload_n dX0_strike_0 rfl <| Y_iload_n dX0_strike_1 rfl <| Y_callV1 dX0_strike_2 cl_0_79 rfl rfl (xisB W hb) rfl rfl rfl (hk2) <| Y_eq0 16 dX0_strike_5 rfl (fun q => X_le (xle_n (xle_n xle_0)) (k1 q)) (fun q => X_le (xle_s (xle_s xle_0)) (k2 q))
theorem bX0_strike_8 {d : Nat} {g : xSt} {r : Option Value × xSt} {a1 r10 : Int32} {g10 : xSt} {b : Nat} (W : xWf g) (hb : xBk b) (hk10 : xCallM d mX0_isUntold [.ref b, .int a1] g = some (some (.int r10), g10)) (W10 : xWf g10) (k1 : r10 = 0 → xX (d + 1) mX0_strike 18 [some (.ref b), some (.int a1)] [] g10 = some r) (k2 : ¬ (r10 = 0) → xX (d + 1) mX0_strike 16 [none, none] [] g10 = some r) : xX (d + 1) mX0_strike 8 [some (.ref b), some (.int a1)] [] g = some r :=
  Y_aload_n dX0_strike_8 rfl <| Y_iload_n dX0_strike_9 rfl <| Y_callV1 dX0_strike_10 cl_0_83 rfl rfl (xisB W hb) rfl rfl rfl (hk10) <| Y_eq0 18 dX0_strike_13 rfl (fun q => X_le (xle_s (xle_s xle_0)) (k1 q)) (fun q => X_le (xle_n (xle_n xle_0)) (k2 q))
theorem bX0_strike_16 {d : Nat} {g : xSt} {r : Option Value × xSt}  (k : r = (some (.int 0), g)) : xX (d + 1) mX0_strike 16 [none, none] [] g = some r :=
  Y_iconst 0 dX0_strike_16 ic_0 <| Y_zret dX0_strike_17 rfl (by decide) k
theorem bX0_strike_18 {d : Nat} {g : xSt} {r : Option Value × xSt} {a1 : Int32} {b : Nat} (W : xWf g) (hb : xBk b) (k : r = (some (.int 1), xput g (b + 5) 60 a1 (xI g b 2))) : xX (d + 1) mX0_strike 18 [some (.ref b), some (.int a1)] [] g = some r :=
  Y_aload_n dX0_strike_18 rfl <| Y_getR dX0_strike_19 f_0_24 (by rw [ft_0_9]; rfl) (xisB W hb) (xptrB W hb 9 rfl) <| Y_iload_n dX0_strike_22 rfl <| Y_aload_n dX0_strike_23 rfl <| Y_getI dX0_strike_24 f_0_57 ft_0_2 (xisB W hb) <| Y_callS0 dX0_strike_27 cl_0_75 rfl rfl rfl rfl rfl (c_put (xarrB W hb 5 rfl)) <| Y_iconst 1 dX0_strike_30 ic_1 <| Y_zret dX0_strike_31 rfl (by decide) k
theorem bX0_pass_0 {d : Nat} {g : xSt} {r : Option Value × xSt} {a1 : Int32} {b : Nat} (hb : xBk b) (k1 : a1 < 0 → xX d mX0_pass 22 [none, none] [] g = some r) (k2 : ¬ (a1 < 0) → xX d mX0_pass 4 [some (.ref b), some (.int a1)] [] g = some r) : xX d mX0_pass 0 [some (.ref b), some (.int a1)] [] g = some r :=
  Y_iload_n dX0_pass_0 rfl <| Y_lt0 22 dX0_pass_1 rfl (fun q => X_le (xle_n (xle_n xle_0)) (k1 q)) (fun q => X_le (xle_s (xle_s xle_0)) (k2 q))
theorem bX0_pass_4 {d : Nat} {g : xSt} {r : Option Value × xSt} {a1 : Int32} {b : Nat} (hb : xBk b) (k1 : 1000 < a1 → xX d mX0_pass 22 [none, none] [] g = some r) (k2 : ¬ (1000 < a1) → xX d mX0_pass 11 [some (.ref b), some (.int a1)] [] g = some r) : xX d mX0_pass 4 [some (.ref b), some (.int a1)] [] g = some r :=
  Y_iload_n dX0_pass_4 rfl <| Y_sipush 1000 dX0_pass_5 sp_1000 <| Y_gt 22 dX0_pass_8 rfl (fun q => X_le (xle_n (xle_n xle_0)) (k1 q)) (fun q => X_le (xle_s (xle_s xle_0)) (k2 q))
theorem bX0_pass_11 {d : Nat} {g : xSt} {r : Option Value × xSt} {a1 : Int32} {b : Nat} (W : xWf g) (hb : xBk b) (k1 : ((xI g b 2) + a1) ≤ 100000 → xX d mX0_pass 24 [some (.ref b), some (.int a1)] [] g = some r) (k2 : ¬ (((xI g b 2) + a1) ≤ 100000) → xX d mX0_pass 22 [none, none] [] g = some r) : xX d mX0_pass 11 [some (.ref b), some (.int a1)] [] g = some r :=
  Y_aload_n dX0_pass_11 rfl <| Y_getI dX0_pass_12 f_0_57 ft_0_2 (xisB W hb) <| Y_iload_n dX0_pass_15 rfl <| Y_iadd dX0_pass_16 <| Y_ldc dX0_pass_17 ki_0_86 <| Y_le 24 dX0_pass_19 rfl (fun q => X_le (xle_s (xle_s xle_0)) (k1 q)) (fun q => X_le (xle_n (xle_n xle_0)) (k2 q))
theorem bX0_pass_22 {d : Nat} {g : xSt} {r : Option Value × xSt}  (k : r = (some (.int (-1)), g)) : xX d mX0_pass 22 [none, none] [] g = some r :=
  Y_iconst (-1) dX0_pass_22 ic_m1 <| Y_iret dX0_pass_23 rfl k
theorem bX0_pass_24 {d : Nat} {g : xSt} {r : Option Value × xSt} {a1 : Int32} {b : Nat} (W : xWf g) (hb : xBk b) (k : r = (some (.int (xI (xWI g b 2 ((xI g b 2) + a1)) b 2)), xWI g b 2 ((xI g b 2) + a1))) : xX d mX0_pass 24 [some (.ref b), some (.int a1)] [] g = some r :=
  Y_aload_n dX0_pass_24 rfl <| Y_dup dX0_pass_25 rfl <| Y_getI dX0_pass_26 f_0_57 ft_0_2 (xisB W hb) <| Y_iload_n dX0_pass_29 rfl <| Y_iadd dX0_pass_30 <| Y_putI dX0_pass_31 f_0_57 fn_0_2 ft_0_2 (xisB W hb) <| Y_aload_n dX0_pass_34 rfl <| Y_getI dX0_pass_35 f_0_57 ft_0_2 (xisB W hb) <| Y_iret dX0_pass_38 rfl k
theorem bX0_counts_0 {d : Nat} {g : xSt} {r : Option Value × xSt} {a1 a2 : Int32} {b : Nat} (W : xWf g) (hb : xBk b) (k1 : (xI g b 1) ≤ (xat (xI g (b + 6)) 60 a1) → xX (d + 1) mX0_counts 33 [some (.ref b), some (.int a1), some (.int a2), none, none, none] [] g = some r) (k2 : ¬ ((xI g b 1) ≤ (xat (xI g (b + 6)) 60 a1)) → xX (d + 1) mX0_counts 17 [some (.ref b), some (.int a1), some (.int a2), some (.int (xat (xI g (b + 6)) 60 a1)), none, none] [] g = some r) : xX (d + 1) mX0_counts 0 [some (.ref b), some (.int a1), some (.int a2), none, none, none] [] g = some r :=
  Y_aload_n dX0_counts_0 rfl <| Y_getR dX0_counts_1 f_0_27 (by rw [ft_0_10]; rfl) (xisB W hb) (xptrB W hb 10 rfl) <| Y_iload_n dX0_counts_4 rfl <| Y_callS1 dX0_counts_5 cl_0_71 rfl rfl rfl rfl rfl (c_at (xarrB W hb 6 rfl)) <| Y_istore_n dX0_counts_8 rfl rfl <| Y_iload_n dX0_counts_9 rfl <| Y_aload_n dX0_counts_10 rfl <| Y_getI dX0_counts_11 f_0_42 ft_0_1 (xisB W hb) <| Y_ge 33 dX0_counts_14 rfl (fun q => X_le (xle_s (xle_s (xle_s (xle_n (xle_n (xle_n xle_0)))))) (k1 q)) (fun q => X_le (xle_s (xle_s (xle_s (xle_s (xle_n (xle_n xle_0)))))) (k2 q))
theorem bX0_counts_17 {d : Nat} {g : xSt} {r : Option Value × xSt} {a1 a2 a3 : Int32} {b : Nat} (W : xWf g) (hb : xBk b) (k1 : a2 < (xat (xI g (b + 7)) 40 a3) → xX (d + 1) mX0_counts 33 [some (.ref b), some (.int a1), some (.int a2), none, none, none] [] g = some r) (k2 : ¬ (a2 < (xat (xI g (b + 7)) 40 a3)) → xX (d + 1) mX0_counts 29 [some (.ref b), some (.int a1), some (.int a2), none, none, none] [] g = some r) : xX (d + 1) mX0_counts 17 [some (.ref b), some (.int a1), some (.int a2), some (.int a3), none, none] [] g = some r :=
  Y_aload_n dX0_counts_17 rfl <| Y_getR dX0_counts_18 f_0_30 (by rw [ft_0_11]; rfl) (xisB W hb) (xptrB W hb 11 rfl) <| Y_iload_n dX0_counts_21 rfl <| Y_callS1 dX0_counts_22 cl_0_71 rfl rfl rfl rfl rfl (c_at (xarrB W hb 7 rfl)) <| Y_iload_n dX0_counts_25 rfl <| Y_gt 33 dX0_counts_26 rfl (fun q => X_le (xle_s (xle_s (xle_s (xle_n (xle_n (xle_n xle_0)))))) (k1 q)) (fun q => X_le (xle_s (xle_s (xle_s (xle_n (xle_n (xle_n xle_0)))))) (k2 q))
theorem bX0_counts_29 {d : Nat} {g : xSt} {r : Option Value × xSt} {a1 a2 : Int32} {b : Nat} (hb : xBk b) (k : xX (d + 1) mX0_counts 34 [some (.ref b), some (.int a1), some (.int a2), none, none, none] [.int 1] g = some r) : xX (d + 1) mX0_counts 29 [some (.ref b), some (.int a1), some (.int a2), none, none, none] [] g = some r :=
  Y_iconst 1 dX0_counts_29 ic_1 <| Y_goto 34 dX0_counts_30 rfl <| X_le (xle_s (xle_s (xle_s (xle_n (xle_n (xle_n xle_0)))))) k
theorem bX0_counts_33 {d : Nat} {g : xSt} {r : Option Value × xSt} {a1 a2 : Int32} {b : Nat} (hb : xBk b) (k : xX (d + 1) mX0_counts 34 [some (.ref b), some (.int a1), some (.int a2), none, none, none] [.int 0] g = some r) : xX (d + 1) mX0_counts 33 [some (.ref b), some (.int a1), some (.int a2), none, none, none] [] g = some r :=
  Y_iconst 0 dX0_counts_33 ic_0 <| X_le (xle_s (xle_s (xle_s (xle_n (xle_n (xle_n xle_0)))))) k
theorem bX0_counts_34 {d : Nat} {g : xSt} {r : Option Value × xSt} {a1 a2 s0 r38 : Int32} {g38 : xSt} {b : Nat} (W : xWf g) (hb : xBk b) (hk38 : xCallM d mX0_isUntold [.ref b, .int a1] g = some (some (.int r38), g38)) (W38 : xWf g38) (k1 : r38 = 0 → xX (d + 1) mX0_counts 60 [some (.ref b), some (.int a1), some (.int a2), none, some (.int s0), none] [] g38 = some r) (k2 : ¬ (r38 = 0) → xX (d + 1) mX0_counts 44 [some (.ref b), some (.int a1), some (.int a2), none, some (.int s0), none] [] g38 = some r) : xX (d + 1) mX0_counts 34 [some (.ref b), some (.int a1), some (.int a2), none, none, none] [.int s0] g = some r :=
  Y_istore dX0_counts_34 rfl rfl <| Y_aload_n dX0_counts_36 rfl <| Y_iload_n dX0_counts_37 rfl <| Y_callV1 dX0_counts_38 cl_0_83 rfl rfl (xisB W hb) rfl rfl rfl (hk38) <| Y_eq0 60 dX0_counts_41 rfl (fun q => X_le (xle_s (xle_s (xle_s (xle_n (xle_s (xle_n xle_0)))))) (k1 q)) (fun q => X_le (xle_s (xle_s (xle_s (xle_n (xle_s (xle_n xle_0)))))) (k2 q))
theorem bX0_counts_44 {d : Nat} {g : xSt} {r : Option Value × xSt} {a1 a2 a4 : Int32} {b : Nat} (W : xWf g) (hb : xBk b) (k1 : a2 < (xat (xI g (b + 5)) 60 a1) → xX (d + 1) mX0_counts 60 [some (.ref b), some (.int a1), some (.int a2), none, some (.int a4), none] [] g = some r) (k2 : ¬ (a2 < (xat (xI g (b + 5)) 60 a1)) → xX (d + 1) mX0_counts 56 [some (.ref b), some (.int a1), some (.int a2), none, some (.int a4), none] [] g = some r) : xX (d + 1) mX0_counts 44 [some (.ref b), some (.int a1), some (.int a2), none, some (.int a4), none] [] g = some r :=
  Y_aload_n dX0_counts_44 rfl <| Y_getR dX0_counts_45 f_0_24 (by rw [ft_0_9]; rfl) (xisB W hb) (xptrB W hb 9 rfl) <| Y_iload_n dX0_counts_48 rfl <| Y_callS1 dX0_counts_49 cl_0_71 rfl rfl rfl rfl rfl (c_at (xarrB W hb 5 rfl)) <| Y_iload_n dX0_counts_52 rfl <| Y_gt 60 dX0_counts_53 rfl (fun q => X_le (xle_s (xle_s (xle_s (xle_n (xle_s (xle_n xle_0)))))) (k1 q)) (fun q => X_le (xle_s (xle_s (xle_s (xle_n (xle_s (xle_n xle_0)))))) (k2 q))
theorem bX0_counts_56 {d : Nat} {g : xSt} {r : Option Value × xSt} {a1 a2 a4 : Int32} {b : Nat} (hb : xBk b) (k : xX (d + 1) mX0_counts 61 [some (.ref b), some (.int a1), some (.int a2), none, some (.int a4), none] [.int 1] g = some r) : xX (d + 1) mX0_counts 56 [some (.ref b), some (.int a1), some (.int a2), none, some (.int a4), none] [] g = some r :=
  Y_iconst 1 dX0_counts_56 ic_1 <| Y_goto 61 dX0_counts_57 rfl <| X_le (xle_s (xle_s (xle_s (xle_n (xle_s (xle_n xle_0)))))) k
theorem bX0_counts_60 {d : Nat} {g : xSt} {r : Option Value × xSt} {a1 a2 a4 : Int32} {b : Nat} (hb : xBk b) (k : xX (d + 1) mX0_counts 61 [some (.ref b), some (.int a1), some (.int a2), none, some (.int a4), none] [.int 0] g = some r) : xX (d + 1) mX0_counts 60 [some (.ref b), some (.int a1), some (.int a2), none, some (.int a4), none] [] g = some r :=
  Y_iconst 0 dX0_counts_60 ic_0 <| X_le (xle_s (xle_s (xle_s (xle_n (xle_s (xle_n xle_0)))))) k
theorem bX0_counts_61 {d : Nat} {g : xSt} {r : Option Value × xSt} {a1 a2 a4 s0 : Int32} {b : Nat} (W : xWf g) (hb : xBk b) (k1 : a2 < (xat (xI g (b + 4)) 60 a1) → xX (d + 1) mX0_counts 89 [none, none, none, none, none, none] [] g = some r) (k2 : ¬ (a2 < (xat (xI g (b + 4)) 60 a1)) → xX (d + 1) mX0_counts 75 [none, none, none, none, some (.int a4), some (.int s0)] [] g = some r) : xX (d + 1) mX0_counts 61 [some (.ref b), some (.int a1), some (.int a2), none, some (.int a4), none] [.int s0] g = some r :=
  Y_istore dX0_counts_61 rfl rfl <| Y_aload_n dX0_counts_63 rfl <| Y_getR dX0_counts_64 f_0_21 (by rw [ft_0_8]; rfl) (xisB W hb) (xptrB W hb 8 rfl) <| Y_iload_n dX0_counts_67 rfl <| Y_callS1 dX0_counts_68 cl_0_71 rfl rfl rfl rfl rfl (c_at (xarrB W hb 4 rfl)) <| Y_iload_n dX0_counts_71 rfl <| Y_gt 89 dX0_counts_72 rfl (fun q => X_le (xle_n (xle_n (xle_n (xle_n (xle_n (xle_n xle_0)))))) (k1 q)) (fun q => X_le (xle_n (xle_n (xle_n (xle_n (xle_s (xle_s xle_0)))))) (k2 q))
theorem bX0_counts_75 {d : Nat} {g : xSt} {r : Option Value × xSt} {a4 a5 : Int32} (k1 : a4 = 0 → xX (d + 1) mX0_counts 80 [none, none, none, none, none, some (.int a5)] [] g = some r) (k2 : ¬ (a4 = 0) → xX (d + 1) mX0_counts 89 [none, none, none, none, none, none] [] g = some r) : xX (d + 1) mX0_counts 75 [none, none, none, none, some (.int a4), some (.int a5)] [] g = some r :=
  Y_iload dX0_counts_75 rfl <| Y_ne0 89 dX0_counts_77 rfl (fun q => X_le (xle_n (xle_n (xle_n (xle_n (xle_n (xle_s xle_0)))))) (k1 q)) (fun q => X_le (xle_n (xle_n (xle_n (xle_n (xle_n (xle_n xle_0)))))) (k2 q))
theorem bX0_counts_80 {d : Nat} {g : xSt} {r : Option Value × xSt} {a5 : Int32} (k1 : a5 = 0 → xX (d + 1) mX0_counts 85 [none, none, none, none, none, none] [] g = some r) (k2 : ¬ (a5 = 0) → xX (d + 1) mX0_counts 89 [none, none, none, none, none, none] [] g = some r) : xX (d + 1) mX0_counts 80 [none, none, none, none, none, some (.int a5)] [] g = some r :=
  Y_iload dX0_counts_80 rfl <| Y_ne0 89 dX0_counts_82 rfl (fun q => X_le (xle_n (xle_n (xle_n (xle_n (xle_n (xle_n xle_0)))))) (k1 q)) (fun q => X_le (xle_n (xle_n (xle_n (xle_n (xle_n (xle_n xle_0)))))) (k2 q))
theorem bX0_counts_85 {d : Nat} {g : xSt} {r : Option Value × xSt}  (k : xX (d + 1) mX0_counts 90 [none, none, none, none, none, none] [.int 1] g = some r) : xX (d + 1) mX0_counts 85 [none, none, none, none, none, none] [] g = some r :=
  Y_iconst 1 dX0_counts_85 ic_1 <| Y_goto 90 dX0_counts_86 rfl <| X_le (xle_n (xle_n (xle_n (xle_n (xle_n (xle_n xle_0)))))) k
theorem bX0_counts_89 {d : Nat} {g : xSt} {r : Option Value × xSt}  (k : xX (d + 1) mX0_counts 90 [none, none, none, none, none, none] [.int 0] g = some r) : xX (d + 1) mX0_counts 89 [none, none, none, none, none, none] [] g = some r :=
  Y_iconst 0 dX0_counts_89 ic_0 <| X_le (xle_n (xle_n (xle_n (xle_n (xle_n (xle_n xle_0)))))) k
theorem bX0_counts_90 {d : Nat} {g : xSt} {r : Option Value × xSt} {s0 : Int32} (hz90 : s0 = 0 ∨ s0 = 1) (k : r = (some (.int s0), g)) : xX (d + 1) mX0_counts 90 [none, none, none, none, none, none] [.int s0] g = some r :=
  Y_zret dX0_counts_90 rfl (hz90) k
theorem bX0_isSingle_0 {d : Nat} {g : xSt} {r : Option Value × xSt} {a1 : Int32} {b : Nat} (W : xWf g) (hb : xBk b) (k1 : (xbci (xat (xI g (b + 1)) 60 a1)) = 1 → xX (d + 1) mX0_isSingle 15 [some (.ref b), some (.int a1)] [] g = some r) (k2 : ¬ ((xbci (xat (xI g (b + 1)) 60 a1)) = 1) → xX (d + 1) mX0_isSingle 34 [none, none] [] g = some r) : xX (d + 1) mX0_isSingle 0 [some (.ref b), some (.int a1)] [] g = some r :=
  Y_aload_n dX0_isSingle_0 rfl <| Y_getR dX0_isSingle_1 f_0_9 (by rw [ft_0_5]; rfl) (xisB W hb) (xptrB W hb 5 rfl) <| Y_iload_n dX0_isSingle_4 rfl <| Y_callS1 dX0_isSingle_5 cl_0_71 rfl rfl rfl rfl rfl (c_at (xarrB W hb 1 rfl)) <| Y_callS1 dX0_isSingle_8 cl_0_91 rfl rfl rfl rfl rfl (c_xbci) <| Y_iconst 1 dX0_isSingle_11 ic_1 <| Y_ne 34 dX0_isSingle_12 rfl (fun q => X_le (xle_s (xle_s xle_0)) (k1 q)) (fun q => X_le (xle_n (xle_n xle_0)) (k2 q))
theorem bX0_isSingle_15 {d : Nat} {g : xSt} {r : Option Value × xSt} {a1 : Int32} {b : Nat} (W : xWf g) (hb : xBk b) (k1 : (xbci (xat (xI g (b + 2)) 60 a1)) = 1 → xX (d + 1) mX0_isSingle 30 [none, none] [] g = some r) (k2 : ¬ ((xbci (xat (xI g (b + 2)) 60 a1)) = 1) → xX (d + 1) mX0_isSingle 34 [none, none] [] g = some r) : xX (d + 1) mX0_isSingle 15 [some (.ref b), some (.int a1)] [] g = some r :=
  Y_aload_n dX0_isSingle_15 rfl <| Y_getR dX0_isSingle_16 f_0_15 (by rw [ft_0_6]; rfl) (xisB W hb) (xptrB W hb 6 rfl) <| Y_iload_n dX0_isSingle_19 rfl <| Y_callS1 dX0_isSingle_20 cl_0_71 rfl rfl rfl rfl rfl (c_at (xarrB W hb 2 rfl)) <| Y_callS1 dX0_isSingle_23 cl_0_91 rfl rfl rfl rfl rfl (c_xbci) <| Y_iconst 1 dX0_isSingle_26 ic_1 <| Y_ne 34 dX0_isSingle_27 rfl (fun q => X_le (xle_n (xle_n xle_0)) (k1 q)) (fun q => X_le (xle_n (xle_n xle_0)) (k2 q))
theorem bX0_isSingle_30 {d : Nat} {g : xSt} {r : Option Value × xSt}  (k : xX (d + 1) mX0_isSingle 35 [none, none] [.int 1] g = some r) : xX (d + 1) mX0_isSingle 30 [none, none] [] g = some r :=
  Y_iconst 1 dX0_isSingle_30 ic_1 <| Y_goto 35 dX0_isSingle_31 rfl <| X_le (xle_n (xle_n xle_0)) k
theorem bX0_isSingle_34 {d : Nat} {g : xSt} {r : Option Value × xSt}  (k : xX (d + 1) mX0_isSingle 35 [none, none] [.int 0] g = some r) : xX (d + 1) mX0_isSingle 34 [none, none] [] g = some r :=
  Y_iconst 0 dX0_isSingle_34 ic_0 <| X_le (xle_n (xle_n xle_0)) k
theorem bX0_isSingle_35 {d : Nat} {g : xSt} {r : Option Value × xSt} {s0 : Int32} (hz35 : s0 = 0 ∨ s0 = 1) (k : r = (some (.int s0), g)) : xX (d + 1) mX0_isSingle 35 [none, none] [.int s0] g = some r :=
  Y_zret dX0_isSingle_35 rfl (hz35) k
theorem bX0_copyFrom_0 {d : Nat} {g : xSt} {r : Option Value × xSt} {b c : Nat} (W : xWf g) (hb : xBk b) (hc : xBk c) (k : xX (d + 1) mX0_copyFrom 32 [some (.ref b), some (.ref c)] [] (xWI (xWI (xWI (xWI g b 0 (xI g c 0)) b 1 (xI (xWI g b 0 (xI g c 0)) c 1)) b 2 (xI (xWI (xWI g b 0 (xI g c 0)) b 1 (xI (xWI g b 0 (xI g c 0)) c 1)) c 2)) b 3 (xI (xWI (xWI (xWI g b 0 (xI g c 0)) b 1 (xI (xWI g b 0 (xI g c 0)) c 1)) b 2 (xI (xWI (xWI g b 0 (xI g c 0)) b 1 (xI (xWI g b 0 (xI g c 0)) c 1)) c 2)) c 3)) = some r) : xX (d + 1) mX0_copyFrom 0 [some (.ref b), some (.ref c)] [] g = some r :=
  Y_aload_n dX0_copyFrom_0 rfl <| Y_aload_n dX0_copyFrom_1 rfl <| Y_getI dX0_copyFrom_2 f_0_38 ft_0_0 (xisB W hc) <| Y_putI dX0_copyFrom_5 f_0_38 fn_0_0 ft_0_0 (xisB W hb) <| Y_aload_n dX0_copyFrom_8 rfl <| Y_aload_n dX0_copyFrom_9 rfl <| Y_getI dX0_copyFrom_10 f_0_42 ft_0_1 (xisB W hc) <| Y_putI dX0_copyFrom_13 f_0_42 fn_0_1 ft_0_1 (xisB W hb) <| Y_aload_n dX0_copyFrom_16 rfl <| Y_aload_n dX0_copyFrom_17 rfl <| Y_getI dX0_copyFrom_18 f_0_57 ft_0_2 (xisB W hc) <| Y_putI dX0_copyFrom_21 f_0_57 fn_0_2 ft_0_2 (xisB W hb) <| Y_aload_n dX0_copyFrom_24 rfl <| Y_aload_n dX0_copyFrom_25 rfl <| Y_getI dX0_copyFrom_26 f_0_45 ft_0_3 (xisB W hc) <| Y_putI dX0_copyFrom_29 f_0_45 fn_0_3 ft_0_3 (xisB W hb) <| X_le (xle_s (xle_s xle_0)) k
theorem bX0_copyFrom_32 {d : Nat} {g : xSt} {r : Option Value × xSt} {g40 g51 g62 g73 g84 g95 g106 g117 : xSt} {b c : Nat} (W : xWf g) (hb : xBk b) (hc : xBk c) (hk40 : xCallM d mX7_copy [.ref (c + 1), .ref (b + 1)] g = some (none, g40)) (W40 : xWf g40) (hk51 : xCallM d mX7_copy [.ref (c + 2), .ref (b + 2)] g40 = some (none, g51)) (W51 : xWf g51) (hk62 : xCallM d mX7_copy [.ref (c + 3), .ref (b + 3)] g51 = some (none, g62)) (W62 : xWf g62) (hk73 : xCallM d mX7_copy [.ref (c + 4), .ref (b + 4)] g62 = some (none, g73)) (W73 : xWf g73) (hk84 : xCallM d mX7_copy [.ref (c + 5), .ref (b + 5)] g73 = some (none, g84)) (W84 : xWf g84) (hk95 : xCallM d mX7_copy [.ref (c + 6), .ref (b + 6)] g84 = some (none, g95)) (W95 : xWf g95) (hk106 : xCallM d mX7_copy [.ref (c + 7), .ref (b + 7)] g95 = some (none, g106)) (W106 : xWf g106) (hk117 : xCallM d mX7_copy [.ref (c + 8), .ref (b + 8)] g106 = some (none, g117)) (W117 : xWf g117) (k : r = (none, g117)) : xX (d + 1) mX0_copyFrom 32 [some (.ref b), some (.ref c)] [] g = some r :=
  Y_aload_n dX0_copyFrom_32 rfl <| Y_getR dX0_copyFrom_33 f_0_9 (by rw [ft_0_5]; rfl) (xisB W hc) (xptrB W hc 5 rfl) <| Y_aload_n dX0_copyFrom_36 rfl <| Y_getR dX0_copyFrom_37 f_0_9 (by rw [ft_0_5]; rfl) (xisB W hb) (xptrB W hb 5 rfl) <| Y_callS0 dX0_copyFrom_40 cl_0_51 rfl rfl rfl rfl rfl (hk40) <| Y_aload_n dX0_copyFrom_43 rfl <| Y_getR dX0_copyFrom_44 f_0_15 (by rw [ft_0_6]; rfl) (xisB W40 hc) (xptrB W40 hc 6 rfl) <| Y_aload_n dX0_copyFrom_47 rfl <| Y_getR dX0_copyFrom_48 f_0_15 (by rw [ft_0_6]; rfl) (xisB W40 hb) (xptrB W40 hb 6 rfl) <| Y_callS0 dX0_copyFrom_51 cl_0_51 rfl rfl rfl rfl rfl (hk51) <| Y_aload_n dX0_copyFrom_54 rfl <| Y_getR dX0_copyFrom_55 f_0_18 (by rw [ft_0_7]; rfl) (xisB W51 hc) (xptrB W51 hc 7 rfl) <| Y_aload_n dX0_copyFrom_58 rfl <| Y_getR dX0_copyFrom_59 f_0_18 (by rw [ft_0_7]; rfl) (xisB W51 hb) (xptrB W51 hb 7 rfl) <| Y_callS0 dX0_copyFrom_62 cl_0_51 rfl rfl rfl rfl rfl (hk62) <| Y_aload_n dX0_copyFrom_65 rfl <| Y_getR dX0_copyFrom_66 f_0_21 (by rw [ft_0_8]; rfl) (xisB W62 hc) (xptrB W62 hc 8 rfl) <| Y_aload_n dX0_copyFrom_69 rfl <| Y_getR dX0_copyFrom_70 f_0_21 (by rw [ft_0_8]; rfl) (xisB W62 hb) (xptrB W62 hb 8 rfl) <| Y_callS0 dX0_copyFrom_73 cl_0_51 rfl rfl rfl rfl rfl (hk73) <| Y_aload_n dX0_copyFrom_76 rfl <| Y_getR dX0_copyFrom_77 f_0_24 (by rw [ft_0_9]; rfl) (xisB W73 hc) (xptrB W73 hc 9 rfl) <| Y_aload_n dX0_copyFrom_80 rfl <| Y_getR dX0_copyFrom_81 f_0_24 (by rw [ft_0_9]; rfl) (xisB W73 hb) (xptrB W73 hb 9 rfl) <| Y_callS0 dX0_copyFrom_84 cl_0_51 rfl rfl rfl rfl rfl (hk84) <| Y_aload_n dX0_copyFrom_87 rfl <| Y_getR dX0_copyFrom_88 f_0_27 (by rw [ft_0_10]; rfl) (xisB W84 hc) (xptrB W84 hc 10 rfl) <| Y_aload_n dX0_copyFrom_91 rfl <| Y_getR dX0_copyFrom_92 f_0_27 (by rw [ft_0_10]; rfl) (xisB W84 hb) (xptrB W84 hb 10 rfl) <| Y_callS0 dX0_copyFrom_95 cl_0_51 rfl rfl rfl rfl rfl (hk95) <| Y_aload_n dX0_copyFrom_98 rfl <| Y_getR dX0_copyFrom_99 f_0_30 (by rw [ft_0_11]; rfl) (xisB W95 hc) (xptrB W95 hc 11 rfl) <| Y_aload_n dX0_copyFrom_102 rfl <| Y_getR dX0_copyFrom_103 f_0_30 (by rw [ft_0_11]; rfl) (xisB W95 hb) (xptrB W95 hb 11 rfl) <| Y_callS0 dX0_copyFrom_106 cl_0_51 rfl rfl rfl rfl rfl (hk106) <| Y_aload_n dX0_copyFrom_109 rfl <| Y_getR dX0_copyFrom_110 f_0_35 (by rw [ft_0_12]; rfl) (xisB W106 hc) (xptrB W106 hc 12 rfl) <| Y_aload_n dX0_copyFrom_113 rfl <| Y_getR dX0_copyFrom_114 f_0_35 (by rw [ft_0_12]; rfl) (xisB W106 hb) (xptrB W106 hb 12 rfl) <| Y_callS0 dX0_copyFrom_117 cl_0_51 rfl rfl rfl rfl rfl (hk117) <| Y_ret dX0_copyFrom_120 rfl k
