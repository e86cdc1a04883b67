/-! stretches of HeavierRow, by program (wip/whole/genall.py) -/
theorem dX11_feed_0 : decode mX11_feed.2.1 0 = .ok (.aload_n 0, 1) := by decide +kernel
theorem dX11_feed_1 : decode mX11_feed.2.1 1 = .ok (.getfield 98, 3) := by decide +kernel
theorem dX11_feed_4 : decode mX11_feed.2.1 4 = .ok (.bipush 20, 2) := by decide +kernel
theorem dX11_feed_6 : decode mX11_feed.2.1 6 = .ok (.iadd, 1) := by decide +kernel
theorem dX11_feed_7 : decode mX11_feed.2.1 7 = .ok (.sipush 1200, 3) := by decide +kernel
theorem dX11_feed_10 : decode mX11_feed.2.1 10 = .ok (.if_icmp .le 5, 3) := by decide +kernel
theorem dX11_feed_13 : decode mX11_feed.2.1 13 = .ok (.iconst (-1), 1) := by decide +kernel
theorem dX11_feed_14 : decode mX11_feed.2.1 14 = .ok (.ireturn, 1) := by decide +kernel
theorem dX11_feed_15 : decode mX11_feed.2.1 15 = .ok (.aload_n 0, 1) := by decide +kernel
theorem dX11_feed_16 : decode mX11_feed.2.1 16 = .ok (.iload_n 1, 1) := by decide +kernel
theorem dX11_feed_17 : decode mX11_feed.2.1 17 = .ok (.invokevirtual 101, 3) := by decide +kernel
theorem dX11_feed_20 : decode mX11_feed.2.1 20 = .ok (.aload_n 0, 1) := by decide +kernel
theorem dX11_feed_21 : decode mX11_feed.2.1 21 = .ok (.iload_n 2, 1) := by decide +kernel
theorem dX11_feed_22 : decode mX11_feed.2.1 22 = .ok (.invokevirtual 101, 3) := by decide +kernel
theorem dX11_feed_25 : decode mX11_feed.2.1 25 = .ok (.aload_n 0, 1) := by decide +kernel
theorem dX11_feed_26 : decode mX11_feed.2.1 26 = .ok (.iload_n 3, 1) := by decide +kernel
theorem dX11_feed_27 : decode mX11_feed.2.1 27 = .ok (.invokevirtual 101, 3) := by decide +kernel
theorem dX11_feed_30 : decode mX11_feed.2.1 30 = .ok (.aload_n 0, 1) := by decide +kernel
theorem dX11_feed_31 : decode mX11_feed.2.1 31 = .ok (.iload 4, 2) := by decide +kernel
theorem dX11_feed_33 : decode mX11_feed.2.1 33 = .ok (.invokevirtual 101, 3) := by decide +kernel
theorem dX11_feed_36 : decode mX11_feed.2.1 36 = .ok (.aload_n 0, 1) := by decide +kernel
theorem dX11_feed_37 : decode mX11_feed.2.1 37 = .ok (.iload 5, 2) := by decide +kernel
theorem dX11_feed_39 : decode mX11_feed.2.1 39 = .ok (.invokevirtual 101, 3) := by decide +kernel
theorem dX11_feed_42 : decode mX11_feed.2.1 42 = .ok (.aload_n 0, 1) := by decide +kernel
theorem dX11_feed_43 : decode mX11_feed.2.1 43 = .ok (.getfield 98, 3) := by decide +kernel
theorem dX11_feed_46 : decode mX11_feed.2.1 46 = .ok (.ireturn, 1) := by decide +kernel
theorem dX11_putBytes_0 : decode mX11_putBytes.2.1 0 = .ok (.bipush 24, 2) := by decide +kernel
theorem dX11_putBytes_2 : decode mX11_putBytes.2.1 2 = .ok (.istore_n 2, 1) := by decide +kernel
theorem dX11_putBytes_3 : decode mX11_putBytes.2.1 3 = .ok (.iload_n 2, 1) := by decide +kernel
theorem dX11_putBytes_4 : decode mX11_putBytes.2.1 4 = .ok (.ifCond .lt 51, 3) := by decide +kernel
theorem dX11_putBytes_7 : decode mX11_putBytes.2.1 7 = .ok (.aload_n 0, 1) := by decide +kernel
theorem dX11_putBytes_8 : decode mX11_putBytes.2.1 8 = .ok (.getfield 98, 3) := by decide +kernel
theorem dX11_putBytes_11 : decode mX11_putBytes.2.1 11 = .ok (.ifCond .lt 38, 3) := by decide +kernel
theorem dX11_putBytes_14 : decode mX11_putBytes.2.1 14 = .ok (.aload_n 0, 1) := by decide +kernel
theorem dX11_putBytes_15 : decode mX11_putBytes.2.1 15 = .ok (.getfield 98, 3) := by decide +kernel
theorem dX11_putBytes_18 : decode mX11_putBytes.2.1 18 = .ok (.aload_n 0, 1) := by decide +kernel
theorem dX11_putBytes_19 : decode mX11_putBytes.2.1 19 = .ok (.getfield 9, 3) := by decide +kernel
theorem dX11_putBytes_22 : decode mX11_putBytes.2.1 22 = .ok (.arraylength, 1) := by decide +kernel
theorem dX11_putBytes_23 : decode mX11_putBytes.2.1 23 = .ok (.if_icmp .ge 26, 3) := by decide +kernel
theorem dX11_putBytes_26 : decode mX11_putBytes.2.1 26 = .ok (.aload_n 0, 1) := by decide +kernel
theorem dX11_putBytes_27 : decode mX11_putBytes.2.1 27 = .ok (.getfield 9, 3) := by decide +kernel
theorem dX11_putBytes_30 : decode mX11_putBytes.2.1 30 = .ok (.aload_n 0, 1) := by decide +kernel
theorem dX11_putBytes_31 : decode mX11_putBytes.2.1 31 = .ok (.getfield 98, 3) := by decide +kernel
theorem dX11_putBytes_34 : decode mX11_putBytes.2.1 34 = .ok (.iload_n 1, 1) := by decide +kernel
theorem dX11_putBytes_35 : decode mX11_putBytes.2.1 35 = .ok (.iload_n 2, 1) := by decide +kernel
theorem dX11_putBytes_36 : decode mX11_putBytes.2.1 36 = .ok (.ishr, 1) := by decide +kernel
theorem dX11_putBytes_37 : decode mX11_putBytes.2.1 37 = .ok (.i2b, 1) := by decide +kernel
theorem dX11_putBytes_38 : decode mX11_putBytes.2.1 38 = .ok (.bastore, 1) := by decide +kernel
theorem dX11_putBytes_39 : decode mX11_putBytes.2.1 39 = .ok (.aload_n 0, 1) := by decide +kernel
theorem dX11_putBytes_40 : decode mX11_putBytes.2.1 40 = .ok (.dup, 1) := by decide +kernel
theorem dX11_putBytes_41 : decode mX11_putBytes.2.1 41 = .ok (.getfield 98, 3) := by decide +kernel
theorem dX11_putBytes_44 : decode mX11_putBytes.2.1 44 = .ok (.iconst 1, 1) := by decide +kernel
theorem dX11_putBytes_45 : decode mX11_putBytes.2.1 45 = .ok (.iadd, 1) := by decide +kernel
theorem dX11_putBytes_46 : decode mX11_putBytes.2.1 46 = .ok (.putfield 98, 3) := by decide +kernel
theorem dX11_putBytes_49 : decode mX11_putBytes.2.1 49 = .ok (.iinc 2 (-8), 3) := by decide +kernel
theorem dX11_putBytes_52 : decode mX11_putBytes.2.1 52 = .ok (.goto (-49), 3) := by decide +kernel
theorem dX11_putBytes_55 : decode mX11_putBytes.2.1 55 = .ok (.return_, 1) := by decide +kernel
theorem dX11_end_0 : decode mX11_end.2.1 0 = .ok (.iload_n 1, 1) := by decide +kernel
theorem dX11_end_1 : decode mX11_end.2.1 1 = .ok (.ifCond .lt 11, 3) := by decide +kernel
theorem dX11_end_4 : decode mX11_end.2.1 4 = .ok (.iload_n 1, 1) := by decide +kernel
theorem dX11_end_5 : decode mX11_end.2.1 5 = .ok (.aload_n 0, 1) := by decide +kernel
theorem dX11_end_6 : decode mX11_end.2.1 6 = .ok (.getfield 98, 3) := by decide +kernel
theorem dX11_end_9 : decode mX11_end.2.1 9 = .ok (.if_icmp .le 5, 3) := by decide +kernel
theorem dX11_end_12 : decode mX11_end.2.1 12 = .ok (.iconst (-1), 1) := by decide +kernel
theorem dX11_end_13 : decode mX11_end.2.1 13 = .ok (.ireturn, 1) := by decide +kernel
theorem dX11_end_14 : decode mX11_end.2.1 14 = .ok (.aload_n 0, 1) := by decide +kernel
theorem dX11_end_15 : decode mX11_end.2.1 15 = .ok (.iload_n 1, 1) := by decide +kernel
theorem dX11_end_16 : decode mX11_end.2.1 16 = .ok (.putfield 98, 3) := by decide +kernel
theorem dX11_end_19 : decode mX11_end.2.1 19 = .ok (.iload_n 1, 1) := by decide +kernel
theorem dX11_end_20 : decode mX11_end.2.1 20 = .ok (.ireturn, 1) := by decide +kernel
theorem dX11_street_0 : decode mX11_street.2.1 0 = .ok (.aload_n 0, 1) := by decide +kernel
theorem dX11_street_1 : decode mX11_street.2.1 1 = .ok (.getfield 30, 3) := by decide +kernel
theorem dX11_street_4 : decode mX11_street.2.1 4 = .ok (.aload_n 0, 1) := by decide +kernel
theorem dX11_street_5 : decode mX11_street.2.1 5 = .ok (.getfield 9, 3) := by decide +kernel
theorem dX11_street_8 : decode mX11_street.2.1 8 = .ok (.aload_n 0, 1) := by decide +kernel
theorem dX11_street_9 : decode mX11_street.2.1 9 = .ok (.getfield 98, 3) := by decide +kernel
theorem dX11_street_12 : decode mX11_street.2.1 12 = .ok (.aload_n 0, 1) := by decide +kernel
theorem dX11_street_13 : decode mX11_street.2.1 13 = .ok (.getfield 24, 3) := by decide +kernel
theorem dX11_street_16 : decode mX11_street.2.1 16 = .ok (.invokevirtual 105, 3) := by decide +kernel
theorem dX11_street_19 : decode mX11_street.2.1 19 = .ok (.aload_n 0, 1) := by decide +kernel
theorem dX11_street_20 : decode mX11_street.2.1 20 = .ok (.iconst 0, 1) := by decide +kernel
theorem dX11_street_21 : decode mX11_street.2.1 21 = .ok (.putfield 98, 3) := by decide +kernel
theorem dX11_street_24 : decode mX11_street.2.1 24 = .ok (.aload_n 0, 1) := by decide +kernel
theorem dX11_street_25 : decode mX11_street.2.1 25 = .ok (.aload_n 0, 1) := by decide +kernel
theorem dX11_street_26 : decode mX11_street.2.1 26 = .ok (.getfield 30, 3) := by decide +kernel
theorem dX11_street_29 : decode mX11_street.2.1 29 = .ok (.getfield 109, 3) := by decide +kernel
theorem dX11_street_32 : decode mX11_street.2.1 32 = .ok (.putfield 112, 3) := by decide +kernel
theorem dX11_street_35 : decode mX11_street.2.1 35 = .ok (.aload_n 0, 1) := by decide +kernel
theorem dX11_street_36 : decode mX11_street.2.1 36 = .ok (.aload_n 0, 1) := by decide +kernel
theorem dX11_street_37 : decode mX11_street.2.1 37 = .ok (.getfield 30, 3) := by decide +kernel
theorem dX11_street_40 : decode mX11_street.2.1 40 = .ok (.getfield 115, 3) := by decide +kernel
theorem dX11_street_43 : decode mX11_street.2.1 43 = .ok (.putfield 13, 3) := by decide +kernel
theorem dX11_street_46 : decode mX11_street.2.1 46 = .ok (.aload_n 0, 1) := by decide +kernel
theorem dX11_street_47 : decode mX11_street.2.1 47 = .ok (.getfield 112, 3) := by decide +kernel
theorem dX11_street_50 : decode mX11_street.2.1 50 = .ok (.ifCond .eq 5, 3) := by decide +kernel
theorem dX11_street_53 : decode mX11_street.2.1 53 = .ok (.iconst (-1), 1) := by decide +kernel
theorem dX11_street_54 : decode mX11_street.2.1 54 = .ok (.ireturn, 1) := by decide +kernel
theorem dX11_street_55 : decode mX11_street.2.1 55 = .ok (.aload_n 0, 1) := by decide +kernel
theorem dX11_street_56 : decode mX11_street.2.1 56 = .ok (.getfield 20, 3) := by decide +kernel
theorem dX11_street_59 : decode mX11_street.2.1 59 = .ok (.astore_n 1, 1) := by decide +kernel
theorem dX11_street_60 : decode mX11_street.2.1 60 = .ok (.aload_n 0, 1) := by decide +kernel
theorem dX11_street_61 : decode mX11_street.2.1 61 = .ok (.aload_n 0, 1) := by decide +kernel
theorem dX11_street_62 : decode mX11_street.2.1 62 = .ok (.getfield 24, 3) := by decide +kernel
theorem dX11_street_65 : decode mX11_street.2.1 65 = .ok (.putfield 20, 3) := by decide +kernel
theorem dX11_street_68 : decode mX11_street.2.1 68 = .ok (.aload_n 0, 1) := by decide +kernel
theorem dX11_street_69 : decode mX11_street.2.1 69 = .ok (.aload_n 1, 1) := by decide +kernel
theorem dX11_street_70 : decode mX11_street.2.1 70 = .ok (.putfield 24, 3) := by decide +kernel
theorem dX11_street_73 : decode mX11_street.2.1 73 = .ok (.aload_n 0, 1) := by decide +kernel
theorem dX11_street_74 : decode mX11_street.2.1 74 = .ok (.getfield 48, 3) := by decide +kernel
theorem dX11_street_77 : decode mX11_street.2.1 77 = .ok (.aload_n 0, 1) := by decide +kernel
theorem dX11_street_78 : decode mX11_street.2.1 78 = .ok (.getfield 20, 3) := by decide +kernel
theorem dX11_street_81 : decode mX11_street.2.1 81 = .ok (.invokevirtual 94, 3) := by decide +kernel
theorem dX11_street_84 : decode mX11_street.2.1 84 = .ok (.aload_n 0, 1) := by decide +kernel
theorem dX11_street_85 : decode mX11_street.2.1 85 = .ok (.getfield 37, 3) := by decide +kernel
theorem dX11_street_88 : decode mX11_street.2.1 88 = .ok (.aload_n 0, 1) := by decide +kernel
theorem dX11_street_89 : decode mX11_street.2.1 89 = .ok (.getfield 20, 3) := by decide +kernel
theorem dX11_street_92 : decode mX11_street.2.1 92 = .ok (.invokevirtual 116, 3) := by decide +kernel
theorem dX11_street_95 : decode mX11_street.2.1 95 = .ok (.aload_n 0, 1) := by decide +kernel
theorem dX11_street_96 : decode mX11_street.2.1 96 = .ok (.getfield 90, 3) := by decide +kernel
theorem dX11_street_99 : decode mX11_street.2.1 99 = .ok (.invokevirtual 119, 3) := by decide +kernel
theorem dX11_street_102 : decode mX11_street.2.1 102 = .ok (.iconst 0, 1) := by decide +kernel
theorem dX11_street_103 : decode mX11_street.2.1 103 = .ok (.istore_n 2, 1) := by decide +kernel
theorem dX11_street_104 : decode mX11_street.2.1 104 = .ok (.iload_n 2, 1) := by decide +kernel
theorem dX11_street_105 : decode mX11_street.2.1 105 = .ok (.aload_n 0, 1) := by decide +kernel
theorem dX11_street_106 : decode mX11_street.2.1 106 = .ok (.getfield 41, 3) := by decide +kernel
theorem dX11_street_109 : decode mX11_street.2.1 109 = .ok (.arraylength, 1) := by decide +kernel
theorem dX11_street_110 : decode mX11_street.2.1 110 = .ok (.if_icmp .ge 19, 3) := by decide +kernel
theorem dX11_street_113 : decode mX11_street.2.1 113 = .ok (.aload_n 0, 1) := by decide +kernel
theorem dX11_street_114 : decode mX11_street.2.1 114 = .ok (.getfield 41, 3) := by decide +kernel
theorem dX11_street_117 : decode mX11_street.2.1 117 = .ok (.iload_n 2, 1) := by decide +kernel
theorem dX11_street_118 : decode mX11_street.2.1 118 = .ok (.aaload, 1) := by decide +kernel
theorem dX11_street_119 : decode mX11_street.2.1 119 = .ok (.iconst 0, 1) := by decide +kernel
theorem dX11_street_120 : decode mX11_street.2.1 120 = .ok (.putfield 122, 3) := by decide +kernel
theorem dX11_street_123 : decode mX11_street.2.1 123 = .ok (.iinc 2 1, 3) := by decide +kernel
theorem dX11_street_126 : decode mX11_street.2.1 126 = .ok (.goto (-22), 3) := by decide +kernel
theorem dX11_street_129 : decode mX11_street.2.1 129 = .ok (.aload_n 0, 1) := by decide +kernel
theorem dX11_street_130 : decode mX11_street.2.1 130 = .ok (.getfield 20, 3) := by decide +kernel
theorem dX11_street_133 : decode mX11_street.2.1 133 = .ok (.getfield 126, 3) := by decide +kernel
theorem dX11_street_136 : decode mX11_street.2.1 136 = .ok (.ireturn, 1) := by decide +kernel
theorem dX11_fault_0 : decode mX11_fault.2.1 0 = .ok (.iload_n 1, 1) := by decide +kernel
theorem dX11_fault_1 : decode mX11_fault.2.1 1 = .ok (.ifCond .ne 10, 3) := by decide +kernel
theorem dX11_fault_4 : decode mX11_fault.2.1 4 = .ok (.aload_n 0, 1) := by decide +kernel
theorem dX11_fault_5 : decode mX11_fault.2.1 5 = .ok (.getfield 112, 3) := by decide +kernel
theorem dX11_fault_8 : decode mX11_fault.2.1 8 = .ok (.goto 16, 3) := by decide +kernel
theorem dX11_fault_11 : decode mX11_fault.2.1 11 = .ok (.iload_n 1, 1) := by decide +kernel
theorem dX11_fault_12 : decode mX11_fault.2.1 12 = .ok (.iconst 1, 1) := by decide +kernel
theorem dX11_fault_13 : decode mX11_fault.2.1 13 = .ok (.if_icmp .ne 10, 3) := by decide +kernel
theorem dX11_fault_16 : decode mX11_fault.2.1 16 = .ok (.aload_n 0, 1) := by decide +kernel
theorem dX11_fault_17 : decode mX11_fault.2.1 17 = .ok (.getfield 13, 3) := by decide +kernel
theorem dX11_fault_20 : decode mX11_fault.2.1 20 = .ok (.goto 4, 3) := by decide +kernel
theorem dX11_fault_23 : decode mX11_fault.2.1 23 = .ok (.iconst (-1), 1) := by decide +kernel
theorem dX11_fault_24 : decode mX11_fault.2.1 24 = .ok (.ireturn, 1) := by decide +kernel
theorem dX11_weigh_0 : decode mX11_weigh.2.1 0 = .ok (.aload_n 0, 1) := by decide +kernel
theorem dX11_weigh_1 : decode mX11_weigh.2.1 1 = .ok (.getfield 20, 3) := by decide +kernel
theorem dX11_weigh_4 : decode mX11_weigh.2.1 4 = .ok (.iload_n 1, 1) := by decide +kernel
theorem dX11_weigh_5 : decode mX11_weigh.2.1 5 = .ok (.iload_n 2, 1) := by decide +kernel
theorem dX11_weigh_6 : decode mX11_weigh.2.1 6 = .ok (.invokevirtual 129, 3) := by decide +kernel
theorem dX11_weigh_9 : decode mX11_weigh.2.1 9 = .ok (.ifCond .eq 13, 3) := by decide +kernel
theorem dX11_weigh_12 : decode mX11_weigh.2.1 12 = .ok (.aload_n 0, 1) := by decide +kernel
theorem dX11_weigh_13 : decode mX11_weigh.2.1 13 = .ok (.getfield 37, 3) := by decide +kernel
theorem dX11_weigh_16 : decode mX11_weigh.2.1 16 = .ok (.invokevirtual 133, 3) := by decide +kernel
theorem dX11_weigh_19 : decode mX11_weigh.2.1 19 = .ok (.ifCond .eq 5, 3) := by decide +kernel
theorem dX11_weigh_22 : decode mX11_weigh.2.1 22 = .ok (.iconst (-1), 1) := by decide +kernel
theorem dX11_weigh_23 : decode mX11_weigh.2.1 23 = .ok (.ireturn, 1) := by decide +kernel
theorem dX11_weigh_24 : decode mX11_weigh.2.1 24 = .ok (.aload_n 0, 1) := by decide +kernel
theorem dX11_weigh_25 : decode mX11_weigh.2.1 25 = .ok (.getfield 37, 3) := by decide +kernel
theorem dX11_weigh_28 : decode mX11_weigh.2.1 28 = .ok (.iload_n 1, 1) := by decide +kernel
theorem dX11_weigh_29 : decode mX11_weigh.2.1 29 = .ok (.iload_n 2, 1) := by decide +kernel
theorem dX11_weigh_30 : decode mX11_weigh.2.1 30 = .ok (.aload_n 0, 1) := by decide +kernel
theorem dX11_weigh_31 : decode mX11_weigh.2.1 31 = .ok (.getfield 20, 3) := by decide +kernel
theorem dX11_weigh_34 : decode mX11_weigh.2.1 34 = .ok (.invokevirtual 137, 3) := by decide +kernel
theorem dX11_weigh_37 : decode mX11_weigh.2.1 37 = .ok (.istore_n 3, 1) := by decide +kernel
theorem dX11_weigh_38 : decode mX11_weigh.2.1 38 = .ok (.aload_n 0, 1) := by decide +kernel
theorem dX11_weigh_39 : decode mX11_weigh.2.1 39 = .ok (.getfield 37, 3) := by decide +kernel
theorem dX11_weigh_42 : decode mX11_weigh.2.1 42 = .ok (.iload_n 1, 1) := by decide +kernel
theorem dX11_weigh_43 : decode mX11_weigh.2.1 43 = .ok (.iload_n 2, 1) := by decide +kernel
theorem dX11_weigh_44 : decode mX11_weigh.2.1 44 = .ok (.iload_n 3, 1) := by decide +kernel
theorem dX11_weigh_45 : decode mX11_weigh.2.1 45 = .ok (.invokevirtual 141, 3) := by decide +kernel
theorem dX11_weigh_48 : decode mX11_weigh.2.1 48 = .ok (.pop, 1) := by decide +kernel
theorem dX11_weigh_49 : decode mX11_weigh.2.1 49 = .ok (.iload_n 3, 1) := by decide +kernel
theorem dX11_weigh_50 : decode mX11_weigh.2.1 50 = .ok (.ireturn, 1) := by decide +kernel
theorem dX11_told_0 : decode mX11_told.2.1 0 = .ok (.aload_n 0, 1) := by decide +kernel
theorem dX11_told_1 : decode mX11_told.2.1 1 = .ok (.getfield 20, 3) := by decide +kernel
theorem dX11_told_4 : decode mX11_told.2.1 4 = .ok (.iload_n 1, 1) := by decide +kernel
theorem dX11_told_5 : decode mX11_told.2.1 5 = .ok (.iload_n 2, 1) := by decide +kernel
theorem dX11_told_6 : decode mX11_told.2.1 6 = .ok (.invokevirtual 129, 3) := by decide +kernel
theorem dX11_told_9 : decode mX11_told.2.1 9 = .ok (.ifCond .eq 22, 3) := by decide +kernel
theorem dX11_told_12 : decode mX11_told.2.1 12 = .ok (.iload_n 3, 1) := by decide +kernel
theorem dX11_told_13 : decode mX11_told.2.1 13 = .ok (.ifCond .lt 18, 3) := by decide +kernel
theorem dX11_told_16 : decode mX11_told.2.1 16 = .ok (.iload_n 3, 1) := by decide +kernel
theorem dX11_told_17 : decode mX11_told.2.1 17 = .ok (.iconst 2, 1) := by decide +kernel
theorem dX11_told_18 : decode mX11_told.2.1 18 = .ok (.if_icmp .gt 13, 3) := by decide +kernel
theorem dX11_told_21 : decode mX11_told.2.1 21 = .ok (.aload_n 0, 1) := by decide +kernel
theorem dX11_told_22 : decode mX11_told.2.1 22 = .ok (.getfield 37, 3) := by decide +kernel
theorem dX11_told_25 : decode mX11_told.2.1 25 = .ok (.invokevirtual 133, 3) := by decide +kernel
theorem dX11_told_28 : decode mX11_told.2.1 28 = .ok (.ifCond .eq 5, 3) := by decide +kernel
theorem dX11_told_31 : decode mX11_told.2.1 31 = .ok (.iconst (-1), 1) := by decide +kernel
theorem dX11_told_32 : decode mX11_told.2.1 32 = .ok (.ireturn, 1) := by decide +kernel
theorem dX11_told_33 : decode mX11_told.2.1 33 = .ok (.aload_n 0, 1) := by decide +kernel
theorem dX11_told_34 : decode mX11_told.2.1 34 = .ok (.getfield 37, 3) := by decide +kernel
theorem dX11_told_37 : decode mX11_told.2.1 37 = .ok (.iload_n 1, 1) := by decide +kernel
theorem dX11_told_38 : decode mX11_told.2.1 38 = .ok (.iload_n 2, 1) := by decide +kernel
theorem dX11_told_39 : decode mX11_told.2.1 39 = .ok (.iload_n 3, 1) := by decide +kernel
theorem dX11_told_40 : decode mX11_told.2.1 40 = .ok (.invokevirtual 141, 3) := by decide +kernel
theorem dX11_told_43 : decode mX11_told.2.1 43 = .ok (.ireturn, 1) := by decide +kernel
theorem dX11_weighing_0 : decode mX11_weighing.2.1 0 = .ok (.aload_n 0, 1) := by decide +kernel
theorem dX11_weighing_1 : decode mX11_weighing.2.1 1 = .ok (.getfield 37, 3) := by decide +kernel
theorem dX11_weighing_4 : decode mX11_weighing.2.1 4 = .ok (.iload_n 1, 1) := by decide +kernel
theorem dX11_weighing_5 : decode mX11_weighing.2.1 5 = .ok (.iload_n 2, 1) := by decide +kernel
theorem dX11_weighing_6 : decode mX11_weighing.2.1 6 = .ok (.invokevirtual 145, 3) := by decide +kernel
theorem dX11_weighing_9 : decode mX11_weighing.2.1 9 = .ok (.ireturn, 1) := by decide +kernel
theorem dX11_wet_0 : decode mX11_wet.2.1 0 = .ok (.aload_n 0, 1) := by decide +kernel
theorem dX11_wet_1 : decode mX11_wet.2.1 1 = .ok (.getfield 37, 3) := by decide +kernel
theorem dX11_wet_4 : decode mX11_wet.2.1 4 = .ok (.aload_n 0, 1) := by decide +kernel
theorem dX11_wet_5 : decode mX11_wet.2.1 5 = .ok (.getfield 20, 3) := by decide +kernel
theorem dX11_wet_8 : decode mX11_wet.2.1 8 = .ok (.getfield 126, 3) := by decide +kernel
theorem dX11_wet_11 : decode mX11_wet.2.1 11 = .ok (.invokevirtual 149, 3) := by decide +kernel
theorem dX11_wet_14 : decode mX11_wet.2.1 14 = .ok (.ireturn, 1) := by decide +kernel
theorem dX11_untell_0 : decode mX11_untell.2.1 0 = .ok (.aload_n 0, 1) := by decide +kernel
theorem dX11_untell_1 : decode mX11_untell.2.1 1 = .ok (.getfield 37, 3) := by decide +kernel
theorem dX11_untell_4 : decode mX11_untell.2.1 4 = .ok (.iload_n 1, 1) := by decide +kernel
theorem dX11_untell_5 : decode mX11_untell.2.1 5 = .ok (.invokevirtual 153, 3) := by decide +kernel
theorem dX11_untell_8 : decode mX11_untell.2.1 8 = .ok (.ireturn, 1) := by decide +kernel
theorem dX11_later_0 : decode mX11_later.2.1 0 = .ok (.aload_n 0, 1) := by decide +kernel
theorem dX11_later_1 : decode mX11_later.2.1 1 = .ok (.getfield 37, 3) := by decide +kernel
theorem dX11_later_4 : decode mX11_later.2.1 4 = .ok (.iload_n 1, 1) := by decide +kernel
theorem dX11_later_5 : decode mX11_later.2.1 5 = .ok (.invokevirtual 157, 3) := by decide +kernel
theorem dX11_later_8 : decode mX11_later.2.1 8 = .ok (.ireturn, 1) := by decide +kernel
theorem dX11_left_0 : decode mX11_left.2.1 0 = .ok (.aload_n 0, 1) := by decide +kernel
theorem dX11_left_1 : decode mX11_left.2.1 1 = .ok (.getfield 90, 3) := by decide +kernel
theorem dX11_left_4 : decode mX11_left.2.1 4 = .ok (.invokevirtual 119, 3) := by decide +kernel
theorem dX11_left_7 : decode mX11_left.2.1 7 = .ok (.iload_n 1, 1) := by decide +kernel
theorem dX11_left_8 : decode mX11_left.2.1 8 = .ok (.ifCond .lt 9, 3) := by decide +kernel
theorem dX11_left_11 : decode mX11_left.2.1 11 = .ok (.iload_n 1, 1) := by decide +kernel
theorem dX11_left_12 : decode mX11_left.2.1 12 = .ok (.bipush 60, 2) := by decide +kernel
theorem dX11_left_14 : decode mX11_left.2.1 14 = .ok (.if_icmp .le 5, 3) := by decide +kernel
theorem dX11_left_17 : decode mX11_left.2.1 17 = .ok (.iconst (-1), 1) := by decide +kernel
theorem dX11_left_18 : decode mX11_left.2.1 18 = .ok (.ireturn, 1) := by decide +kernel
theorem dX11_left_19 : decode mX11_left.2.1 19 = .ok (.aload_n 0, 1) := by decide +kernel
theorem dX11_left_20 : decode mX11_left.2.1 20 = .ok (.getfield 48, 3) := by decide +kernel
theorem dX11_left_23 : decode mX11_left.2.1 23 = .ok (.aload_n 0, 1) := by decide +kernel
theorem dX11_left_24 : decode mX11_left.2.1 24 = .ok (.getfield 37, 3) := by decide +kernel
theorem dX11_left_27 : decode mX11_left.2.1 27 = .ok (.iload_n 2, 1) := by decide +kernel
theorem dX11_left_28 : decode mX11_left.2.1 28 = .ok (.invokevirtual 160, 3) := by decide +kernel
theorem dX11_left_31 : decode mX11_left.2.1 31 = .ok (.aload_n 0, 1) := by decide +kernel
theorem dX11_left_32 : decode mX11_left.2.1 32 = .ok (.getfield 48, 3) := by decide +kernel
theorem dX11_left_35 : decode mX11_left.2.1 35 = .ok (.iload_n 1, 1) := by decide +kernel
theorem dX11_left_36 : decode mX11_left.2.1 36 = .ok (.invokevirtual 164, 3) := by decide +kernel
theorem dX11_left_39 : decode mX11_left.2.1 39 = .ok (.aload_n 0, 1) := by decide +kernel
theorem dX11_left_40 : decode mX11_left.2.1 40 = .ok (.getfield 48, 3) := by decide +kernel
theorem dX11_left_43 : decode mX11_left.2.1 43 = .ok (.getfield 167, 3) := by decide +kernel
theorem dX11_left_46 : decode mX11_left.2.1 46 = .ok (.ifCond .le 15, 3) := by decide +kernel
theorem dX11_left_49 : decode mX11_left.2.1 49 = .ok (.aload_n 0, 1) := by decide +kernel
theorem dX11_left_50 : decode mX11_left.2.1 50 = .ok (.aload_n 0, 1) := by decide +kernel
theorem dX11_left_51 : decode mX11_left.2.1 51 = .ok (.getfield 48, 3) := by decide +kernel
theorem dX11_left_54 : decode mX11_left.2.1 54 = .ok (.iconst 0, 1) := by decide +kernel
theorem dX11_left_55 : decode mX11_left.2.1 55 = .ok (.invokevirtual 170, 3) := by decide +kernel
theorem dX11_left_58 : decode mX11_left.2.1 58 = .ok (.invokevirtual 173, 3) := by decide +kernel
theorem dX11_left_61 : decode mX11_left.2.1 61 = .ok (.aload_n 0, 1) := by decide +kernel
theorem dX11_left_62 : decode mX11_left.2.1 62 = .ok (.getfield 48, 3) := by decide +kernel
theorem dX11_left_65 : decode mX11_left.2.1 65 = .ok (.getfield 167, 3) := by decide +kernel
theorem dX11_left_68 : decode mX11_left.2.1 68 = .ok (.ireturn, 1) := by decide +kernel
theorem dX11_shelvePlaces_0 : decode mX11_shelvePlaces.2.1 0 = .ok (.aload_n 0, 1) := by decide +kernel
theorem dX11_shelvePlaces_1 : decode mX11_shelvePlaces.2.1 1 = .ok (.getfield 90, 3) := by decide +kernel
theorem dX11_shelvePlaces_4 : decode mX11_shelvePlaces.2.1 4 = .ok (.invokevirtual 119, 3) := by decide +kernel
theorem dX11_shelvePlaces_7 : decode mX11_shelvePlaces.2.1 7 = .ok (.iconst 0, 1) := by decide +kernel
theorem dX11_shelvePlaces_8 : decode mX11_shelvePlaces.2.1 8 = .ok (.istore_n 2, 1) := by decide +kernel
theorem dX11_shelvePlaces_9 : decode mX11_shelvePlaces.2.1 9 = .ok (.iload_n 2, 1) := by decide +kernel
theorem dX11_shelvePlaces_10 : decode mX11_shelvePlaces.2.1 10 = .ok (.aload_n 0, 1) := by decide +kernel
theorem dX11_shelvePlaces_11 : decode mX11_shelvePlaces.2.1 11 = .ok (.getfield 20, 3) := by decide +kernel
theorem dX11_shelvePlaces_14 : decode mX11_shelvePlaces.2.1 14 = .ok (.getfield 126, 3) := by decide +kernel
theorem dX11_shelvePlaces_17 : decode mX11_shelvePlaces.2.1 17 = .ok (.if_icmp .ge 25, 3) := by decide +kernel
theorem dX11_shelvePlaces_20 : decode mX11_shelvePlaces.2.1 20 = .ok (.aload_n 0, 1) := by decide +kernel
theorem dX11_shelvePlaces_21 : decode mX11_shelvePlaces.2.1 21 = .ok (.getfield 90, 3) := by decide +kernel
theorem dX11_shelvePlaces_24 : decode mX11_shelvePlaces.2.1 24 = .ok (.aload_n 0, 1) := by decide +kernel
theorem dX11_shelvePlaces_25 : decode mX11_shelvePlaces.2.1 25 = .ok (.getfield 48, 3) := by decide +kernel
theorem dX11_shelvePlaces_28 : decode mX11_shelvePlaces.2.1 28 = .ok (.iload_n 1, 1) := by decide +kernel
theorem dX11_shelvePlaces_29 : decode mX11_shelvePlaces.2.1 29 = .ok (.iload_n 2, 1) := by decide +kernel
theorem dX11_shelvePlaces_30 : decode mX11_shelvePlaces.2.1 30 = .ok (.invokevirtual 176, 3) := by decide +kernel
theorem dX11_shelvePlaces_33 : decode mX11_shelvePlaces.2.1 33 = .ok (.invokevirtual 179, 3) := by decide +kernel
theorem dX11_shelvePlaces_36 : decode mX11_shelvePlaces.2.1 36 = .ok (.iinc 2 1, 3) := by decide +kernel
theorem dX11_shelvePlaces_39 : decode mX11_shelvePlaces.2.1 39 = .ok (.goto (-30), 3) := by decide +kernel
theorem dX11_shelvePlaces_42 : decode mX11_shelvePlaces.2.1 42 = .ok (.return_, 1) := by decide +kernel
theorem dX11_struck_0 : decode mX11_struck.2.1 0 = .ok (.aload_n 0, 1) := by decide +kernel
theorem dX11_struck_1 : decode mX11_struck.2.1 1 = .ok (.getfield 48, 3) := by decide +kernel
theorem dX11_struck_4 : decode mX11_struck.2.1 4 = .ok (.aload_n 0, 1) := by decide +kernel
theorem dX11_struck_5 : decode mX11_struck.2.1 5 = .ok (.getfield 37, 3) := by decide +kernel
theorem dX11_struck_8 : decode mX11_struck.2.1 8 = .ok (.iload_n 1, 1) := by decide +kernel
theorem dX11_struck_9 : decode mX11_struck.2.1 9 = .ok (.invokevirtual 160, 3) := by decide +kernel
theorem dX11_struck_12 : decode mX11_struck.2.1 12 = .ok (.aload_n 0, 1) := by decide +kernel
theorem dX11_struck_13 : decode mX11_struck.2.1 13 = .ok (.getfield 48, 3) := by decide +kernel
theorem dX11_struck_16 : decode mX11_struck.2.1 16 = .ok (.invokevirtual 182, 3) := by decide +kernel
theorem dX11_struck_19 : decode mX11_struck.2.1 19 = .ok (.istore_n 2, 1) := by decide +kernel
theorem dX11_struck_20 : decode mX11_struck.2.1 20 = .ok (.aload_n 0, 1) := by decide +kernel
theorem dX11_struck_21 : decode mX11_struck.2.1 21 = .ok (.iload_n 2, 1) := by decide +kernel
theorem dX11_struck_22 : decode mX11_struck.2.1 22 = .ok (.invokevirtual 173, 3) := by decide +kernel
theorem dX11_struck_25 : decode mX11_struck.2.1 25 = .ok (.aload_n 0, 1) := by decide +kernel
theorem dX11_struck_26 : decode mX11_struck.2.1 26 = .ok (.getfield 48, 3) := by decide +kernel
theorem dX11_struck_29 : decode mX11_struck.2.1 29 = .ok (.iload_n 2, 1) := by decide +kernel
theorem dX11_struck_30 : decode mX11_struck.2.1 30 = .ok (.invokevirtual 186, 3) := by decide +kernel
theorem dX11_struck_33 : decode mX11_struck.2.1 33 = .ok (.ireturn, 1) := by decide +kernel
theorem dX11_place_0 : decode mX11_place.2.1 0 = .ok (.aload_n 0, 1) := by decide +kernel
theorem dX11_place_1 : decode mX11_place.2.1 1 = .ok (.getfield 20, 3) := by decide +kernel
theorem dX11_place_4 : decode mX11_place.2.1 4 = .ok (.iload_n 1, 1) := by decide +kernel
theorem dX11_place_5 : decode mX11_place.2.1 5 = .ok (.invokevirtual 189, 3) := by decide +kernel
theorem dX11_place_8 : decode mX11_place.2.1 8 = .ok (.ifCond .eq 18, 3) := by decide +kernel
theorem dX11_place_11 : decode mX11_place.2.1 11 = .ok (.aload_n 0, 1) := by decide +kernel
theorem dX11_place_12 : decode mX11_place.2.1 12 = .ok (.getfield 48, 3) := by decide +kernel
theorem dX11_place_15 : decode mX11_place.2.1 15 = .ok (.aload_n 0, 1) := by decide +kernel
theorem dX11_place_16 : decode mX11_place.2.1 16 = .ok (.getfield 37, 3) := by decide +kernel
theorem dX11_place_19 : decode mX11_place.2.1 19 = .ok (.iload_n 3, 1) := by decide +kernel
theorem dX11_place_20 : decode mX11_place.2.1 20 = .ok (.invokevirtual 192, 3) := by decide +kernel
theorem dX11_place_23 : decode mX11_place.2.1 23 = .ok (.ifCond .ne 5, 3) := by decide +kernel
theorem dX11_place_26 : decode mX11_place.2.1 26 = .ok (.iconst (-1), 1) := by decide +kernel
theorem dX11_place_27 : decode mX11_place.2.1 27 = .ok (.ireturn, 1) := by decide +kernel
theorem dX11_place_28 : decode mX11_place.2.1 28 = .ok (.aload_n 0, 1) := by decide +kernel
theorem dX11_place_29 : decode mX11_place.2.1 29 = .ok (.getfield 48, 3) := by decide +kernel
theorem dX11_place_32 : decode mX11_place.2.1 32 = .ok (.iload_n 1, 1) := by decide +kernel
theorem dX11_place_33 : decode mX11_place.2.1 33 = .ok (.iload_n 2, 1) := by decide +kernel
theorem dX11_place_34 : decode mX11_place.2.1 34 = .ok (.invokevirtual 196, 3) := by decide +kernel
theorem dX11_place_37 : decode mX11_place.2.1 37 = .ok (.ireturn, 1) := by decide +kernel
theorem dX11_stand_0 : decode mX11_stand.2.1 0 = .ok (.iload_n 1, 1) := by decide +kernel
theorem dX11_stand_1 : decode mX11_stand.2.1 1 = .ok (.ifCond .lt 23, 3) := by decide +kernel
theorem dX11_stand_4 : decode mX11_stand.2.1 4 = .ok (.iload_n 1, 1) := by decide +kernel
theorem dX11_stand_5 : decode mX11_stand.2.1 5 = .ok (.iconst 5, 1) := by decide +kernel
theorem dX11_stand_6 : decode mX11_stand.2.1 6 = .ok (.if_icmp .ge 18, 3) := by decide +kernel
theorem dX11_stand_9 : decode mX11_stand.2.1 9 = .ok (.aload_n 0, 1) := by decide +kernel
theorem dX11_stand_10 : decode mX11_stand.2.1 10 = .ok (.getfield 48, 3) := by decide +kernel
theorem dX11_stand_13 : decode mX11_stand.2.1 13 = .ok (.aload_n 0, 1) := by decide +kernel
theorem dX11_stand_14 : decode mX11_stand.2.1 14 = .ok (.getfield 37, 3) := by decide +kernel
theorem dX11_stand_17 : decode mX11_stand.2.1 17 = .ok (.iload_n 3, 1) := by decide +kernel
theorem dX11_stand_18 : decode mX11_stand.2.1 18 = .ok (.invokevirtual 192, 3) := by decide +kernel
theorem dX11_stand_21 : decode mX11_stand.2.1 21 = .ok (.ifCond .ne 5, 3) := by decide +kernel
theorem dX11_stand_24 : decode mX11_stand.2.1 24 = .ok (.iconst (-1), 1) := by decide +kernel
theorem dX11_stand_25 : decode mX11_stand.2.1 25 = .ok (.ireturn, 1) := by decide +kernel
theorem dX11_stand_26 : decode mX11_stand.2.1 26 = .ok (.aload_n 0, 1) := by decide +kernel
theorem dX11_stand_27 : decode mX11_stand.2.1 27 = .ok (.getfield 48, 3) := by decide +kernel
theorem dX11_stand_30 : decode mX11_stand.2.1 30 = .ok (.iload_n 1, 1) := by decide +kernel
theorem dX11_stand_31 : decode mX11_stand.2.1 31 = .ok (.iload_n 2, 1) := by decide +kernel
theorem dX11_stand_32 : decode mX11_stand.2.1 32 = .ok (.invokevirtual 200, 3) := by decide +kernel
theorem dX11_stand_35 : decode mX11_stand.2.1 35 = .ok (.ireturn, 1) := by decide +kernel
theorem dX11_surely_0 : decode mX11_surely.2.1 0 = .ok (.aload_n 0, 1) := by decide +kernel
theorem dX11_surely_1 : decode mX11_surely.2.1 1 = .ok (.getfield 20, 3) := by decide +kernel
theorem dX11_surely_4 : decode mX11_surely.2.1 4 = .ok (.iload_n 1, 1) := by decide +kernel
theorem dX11_surely_5 : decode mX11_surely.2.1 5 = .ok (.iload_n 2, 1) := by decide +kernel
theorem dX11_surely_6 : decode mX11_surely.2.1 6 = .ok (.invokevirtual 203, 3) := by decide +kernel
theorem dX11_surely_9 : decode mX11_surely.2.1 9 = .ok (.ifCond .eq 18, 3) := by decide +kernel
theorem dX11_surely_12 : decode mX11_surely.2.1 12 = .ok (.aload_n 0, 1) := by decide +kernel
theorem dX11_surely_13 : decode mX11_surely.2.1 13 = .ok (.getfield 48, 3) := by decide +kernel
theorem dX11_surely_16 : decode mX11_surely.2.1 16 = .ok (.aload_n 0, 1) := by decide +kernel
theorem dX11_surely_17 : decode mX11_surely.2.1 17 = .ok (.getfield 37, 3) := by decide +kernel
theorem dX11_surely_20 : decode mX11_surely.2.1 20 = .ok (.iload_n 3, 1) := by decide +kernel
theorem dX11_surely_21 : decode mX11_surely.2.1 21 = .ok (.invokevirtual 192, 3) := by decide +kernel
theorem dX11_surely_24 : decode mX11_surely.2.1 24 = .ok (.ifCond .ne 5, 3) := by decide +kernel
theorem dX11_surely_27 : decode mX11_surely.2.1 27 = .ok (.iconst (-1), 1) := by decide +kernel
theorem dX11_surely_28 : decode mX11_surely.2.1 28 = .ok (.ireturn, 1) := by decide +kernel
theorem dX11_surely_29 : decode mX11_surely.2.1 29 = .ok (.iconst 0, 1) := by decide +kernel
theorem dX11_surely_30 : decode mX11_surely.2.1 30 = .ok (.istore 4, 2) := by decide +kernel
theorem dX11_surely_32 : decode mX11_surely.2.1 32 = .ok (.iload 4, 2) := by decide +kernel
theorem dX11_surely_34 : decode mX11_surely.2.1 34 = .ok (.iconst 2, 1) := by decide +kernel
theorem dX11_surely_35 : decode mX11_surely.2.1 35 = .ok (.if_icmp .gt 26, 3) := by decide +kernel
theorem dX11_surely_38 : decode mX11_surely.2.1 38 = .ok (.aload_n 0, 1) := by decide +kernel
theorem dX11_surely_39 : decode mX11_surely.2.1 39 = .ok (.getfield 48, 3) := by decide +kernel
theorem dX11_surely_42 : decode mX11_surely.2.1 42 = .ok (.iload_n 1, 1) := by decide +kernel
theorem dX11_surely_43 : decode mX11_surely.2.1 43 = .ok (.iload_n 2, 1) := by decide +kernel
theorem dX11_surely_44 : decode mX11_surely.2.1 44 = .ok (.iload 4, 2) := by decide +kernel
theorem dX11_surely_46 : decode mX11_surely.2.1 46 = .ok (.invokevirtual 206, 3) := by decide +kernel
theorem dX11_surely_49 : decode mX11_surely.2.1 49 = .ok (.ifCond .eq 6, 3) := by decide +kernel
theorem dX11_surely_52 : decode mX11_surely.2.1 52 = .ok (.iload 4, 2) := by decide +kernel
theorem dX11_surely_54 : decode mX11_surely.2.1 54 = .ok (.ireturn, 1) := by decide +kernel
theorem dX11_surely_55 : decode mX11_surely.2.1 55 = .ok (.iinc 4 1, 3) := by decide +kernel
theorem dX11_surely_58 : decode mX11_surely.2.1 58 = .ok (.goto (-26), 3) := by decide +kernel
theorem dX11_surely_61 : decode mX11_surely.2.1 61 = .ok (.bipush (-2), 2) := by decide +kernel
theorem dX11_surely_63 : decode mX11_surely.2.1 63 = .ok (.ireturn, 1) := by decide +kernel
theorem dX11_fewest_0 : decode mX11_fewest.2.1 0 = .ok (.aload_n 0, 1) := by decide +kernel
theorem dX11_fewest_1 : decode mX11_fewest.2.1 1 = .ok (.iload_n 1, 1) := by decide +kernel
theorem dX11_fewest_2 : decode mX11_fewest.2.1 2 = .ok (.iload_n 2, 1) := by decide +kernel
theorem dX11_fewest_3 : decode mX11_fewest.2.1 3 = .ok (.iload_n 3, 1) := by decide +kernel
theorem dX11_fewest_4 : decode mX11_fewest.2.1 4 = .ok (.invokevirtual 232, 3) := by decide +kernel
theorem dX11_fewest_7 : decode mX11_fewest.2.1 7 = .ok (.istore 4, 2) := by decide +kernel
theorem dX11_fewest_9 : decode mX11_fewest.2.1 9 = .ok (.iload 4, 2) := by decide +kernel
theorem dX11_fewest_11 : decode mX11_fewest.2.1 11 = .ok (.ifCond .eq 8, 3) := by decide +kernel
theorem dX11_fewest_14 : decode mX11_fewest.2.1 14 = .ok (.iload 4, 2) := by decide +kernel
theorem dX11_fewest_16 : decode mX11_fewest.2.1 16 = .ok (.goto 10, 3) := by decide +kernel
theorem dX11_fewest_19 : decode mX11_fewest.2.1 19 = .ok (.aload_n 0, 1) := by decide +kernel
theorem dX11_fewest_20 : decode mX11_fewest.2.1 20 = .ok (.getfield 55, 3) := by decide +kernel
theorem dX11_fewest_23 : decode mX11_fewest.2.1 23 = .ok (.invokevirtual 235, 3) := by decide +kernel
theorem dX11_fewest_26 : decode mX11_fewest.2.1 26 = .ok (.ireturn, 1) := by decide +kernel
theorem dX11_prepare_0 : decode mX11_prepare.2.1 0 = .ok (.aload_n 0, 1) := by decide +kernel
theorem dX11_prepare_1 : decode mX11_prepare.2.1 1 = .ok (.getfield 20, 3) := by decide +kernel
theorem dX11_prepare_4 : decode mX11_prepare.2.1 4 = .ok (.iload_n 1, 1) := by decide +kernel
theorem dX11_prepare_5 : decode mX11_prepare.2.1 5 = .ok (.iload_n 2, 1) := by decide +kernel
theorem dX11_prepare_6 : decode mX11_prepare.2.1 6 = .ok (.invokevirtual 210, 3) := by decide +kernel
theorem dX11_prepare_9 : decode mX11_prepare.2.1 9 = .ok (.ifCond .ne 5, 3) := by decide +kernel
theorem dX11_prepare_12 : decode mX11_prepare.2.1 12 = .ok (.iconst (-1), 1) := by decide +kernel
theorem dX11_prepare_13 : decode mX11_prepare.2.1 13 = .ok (.ireturn, 1) := by decide +kernel
theorem dX11_prepare_14 : decode mX11_prepare.2.1 14 = .ok (.aload_n 0, 1) := by decide +kernel
theorem dX11_prepare_15 : decode mX11_prepare.2.1 15 = .ok (.getfield 48, 3) := by decide +kernel
theorem dX11_prepare_18 : decode mX11_prepare.2.1 18 = .ok (.aload_n 0, 1) := by decide +kernel
theorem dX11_prepare_19 : decode mX11_prepare.2.1 19 = .ok (.getfield 37, 3) := by decide +kernel
theorem dX11_prepare_22 : decode mX11_prepare.2.1 22 = .ok (.iload_n 3, 1) := by decide +kernel
theorem dX11_prepare_23 : decode mX11_prepare.2.1 23 = .ok (.invokevirtual 192, 3) := by decide +kernel
theorem dX11_prepare_26 : decode mX11_prepare.2.1 26 = .ok (.bipush 120, 2) := by decide +kernel
theorem dX11_prepare_28 : decode mX11_prepare.2.1 28 = .ok (.if_icmp .le 6, 3) := by decide +kernel
theorem dX11_prepare_31 : decode mX11_prepare.2.1 31 = .ok (.bipush (-2), 2) := by decide +kernel
theorem dX11_prepare_33 : decode mX11_prepare.2.1 33 = .ok (.ireturn, 1) := by decide +kernel
theorem dX11_prepare_34 : decode mX11_prepare.2.1 34 = .ok (.aload_n 0, 1) := by decide +kernel
theorem dX11_prepare_35 : decode mX11_prepare.2.1 35 = .ok (.getfield 55, 3) := by decide +kernel
theorem dX11_prepare_38 : decode mX11_prepare.2.1 38 = .ok (.aload_n 0, 1) := by decide +kernel
theorem dX11_prepare_39 : decode mX11_prepare.2.1 39 = .ok (.getfield 20, 3) := by decide +kernel
theorem dX11_prepare_42 : decode mX11_prepare.2.1 42 = .ok (.getfield 126, 3) := by decide +kernel
theorem dX11_prepare_45 : decode mX11_prepare.2.1 45 = .ok (.iload_n 1, 1) := by decide +kernel
theorem dX11_prepare_46 : decode mX11_prepare.2.1 46 = .ok (.iconst 2, 1) := by decide +kernel
theorem dX11_prepare_47 : decode mX11_prepare.2.1 47 = .ok (.if_icmp .eq 18, 3) := by decide +kernel
theorem dX11_prepare_50 : decode mX11_prepare.2.1 50 = .ok (.iload_n 1, 1) := by decide +kernel
theorem dX11_prepare_51 : decode mX11_prepare.2.1 51 = .ok (.iconst 1, 1) := by decide +kernel
theorem dX11_prepare_52 : decode mX11_prepare.2.1 52 = .ok (.if_icmp .ne 17, 3) := by decide +kernel
theorem dX11_prepare_55 : decode mX11_prepare.2.1 55 = .ok (.aload_n 0, 1) := by decide +kernel
theorem dX11_prepare_56 : decode mX11_prepare.2.1 56 = .ok (.getfield 20, 3) := by decide +kernel
theorem dX11_prepare_59 : decode mX11_prepare.2.1 59 = .ok (.getfield 213, 3) := by decide +kernel
theorem dX11_prepare_62 : decode mX11_prepare.2.1 62 = .ok (.ifCond .ne 7, 3) := by decide +kernel
theorem dX11_prepare_65 : decode mX11_prepare.2.1 65 = .ok (.iconst 1, 1) := by decide +kernel
theorem dX11_prepare_66 : decode mX11_prepare.2.1 66 = .ok (.goto 4, 3) := by decide +kernel
theorem dX11_prepare_69 : decode mX11_prepare.2.1 69 = .ok (.iconst 0, 1) := by decide +kernel
theorem dX11_prepare_70 : decode mX11_prepare.2.1 70 = .ok (.iload_n 1, 1) := by decide +kernel
theorem dX11_prepare_71 : decode mX11_prepare.2.1 71 = .ok (.iconst 2, 1) := by decide +kernel
theorem dX11_prepare_72 : decode mX11_prepare.2.1 72 = .ok (.if_icmp .ne 9, 3) := by decide +kernel
theorem dX11_prepare_75 : decode mX11_prepare.2.1 75 = .ok (.iconst 1, 1) := by decide +kernel
theorem dX11_prepare_76 : decode mX11_prepare.2.1 76 = .ok (.iload_n 2, 1) := by decide +kernel
theorem dX11_prepare_77 : decode mX11_prepare.2.1 77 = .ok (.ishl, 1) := by decide +kernel
theorem dX11_prepare_78 : decode mX11_prepare.2.1 78 = .ok (.goto 4, 3) := by decide +kernel
theorem dX11_prepare_81 : decode mX11_prepare.2.1 81 = .ok (.iconst 0, 1) := by decide +kernel
theorem dX11_prepare_82 : decode mX11_prepare.2.1 82 = .ok (.invokevirtual 216, 3) := by decide +kernel
theorem dX11_prepare_85 : decode mX11_prepare.2.1 85 = .ok (.iconst 0, 1) := by decide +kernel
theorem dX11_prepare_86 : decode mX11_prepare.2.1 86 = .ok (.istore 4, 2) := by decide +kernel
theorem dX11_prepare_88 : decode mX11_prepare.2.1 88 = .ok (.iload 4, 2) := by decide +kernel
theorem dX11_prepare_90 : decode mX11_prepare.2.1 90 = .ok (.aload_n 0, 1) := by decide +kernel
theorem dX11_prepare_91 : decode mX11_prepare.2.1 91 = .ok (.getfield 48, 3) := by decide +kernel
theorem dX11_prepare_94 : decode mX11_prepare.2.1 94 = .ok (.getfield 167, 3) := by decide +kernel
theorem dX11_prepare_97 : decode mX11_prepare.2.1 97 = .ok (.if_icmp .ge 47, 3) := by decide +kernel
theorem dX11_prepare_100 : decode mX11_prepare.2.1 100 = .ok (.aload_n 0, 1) := by decide +kernel
theorem dX11_prepare_101 : decode mX11_prepare.2.1 101 = .ok (.getfield 48, 3) := by decide +kernel
theorem dX11_prepare_104 : decode mX11_prepare.2.1 104 = .ok (.iload 4, 2) := by decide +kernel
theorem dX11_prepare_106 : decode mX11_prepare.2.1 106 = .ok (.invokevirtual 170, 3) := by decide +kernel
theorem dX11_prepare_109 : decode mX11_prepare.2.1 109 = .ok (.istore 5, 2) := by decide +kernel
theorem dX11_prepare_111 : decode mX11_prepare.2.1 111 = .ok (.aload_n 0, 1) := by decide +kernel
theorem dX11_prepare_112 : decode mX11_prepare.2.1 112 = .ok (.getfield 55, 3) := by decide +kernel
theorem dX11_prepare_115 : decode mX11_prepare.2.1 115 = .ok (.aload_n 0, 1) := by decide +kernel
theorem dX11_prepare_116 : decode mX11_prepare.2.1 116 = .ok (.getfield 48, 3) := by decide +kernel
theorem dX11_prepare_119 : decode mX11_prepare.2.1 119 = .ok (.iload 5, 2) := by decide +kernel
theorem dX11_prepare_121 : decode mX11_prepare.2.1 121 = .ok (.invokevirtual 219, 3) := by decide +kernel
theorem dX11_prepare_124 : decode mX11_prepare.2.1 124 = .ok (.aload_n 0, 1) := by decide +kernel
theorem dX11_prepare_125 : decode mX11_prepare.2.1 125 = .ok (.getfield 48, 3) := by decide +kernel
theorem dX11_prepare_128 : decode mX11_prepare.2.1 128 = .ok (.iload 5, 2) := by decide +kernel
theorem dX11_prepare_130 : decode mX11_prepare.2.1 130 = .ok (.iload_n 1, 1) := by decide +kernel
theorem dX11_prepare_131 : decode mX11_prepare.2.1 131 = .ok (.iload_n 2, 1) := by decide +kernel
theorem dX11_prepare_132 : decode mX11_prepare.2.1 132 = .ok (.invokevirtual 222, 3) := by decide +kernel
theorem dX11_prepare_135 : decode mX11_prepare.2.1 135 = .ok (.invokevirtual 225, 3) := by decide +kernel
theorem dX11_prepare_138 : decode mX11_prepare.2.1 138 = .ok (.iinc 4 1, 3) := by decide +kernel
theorem dX11_prepare_141 : decode mX11_prepare.2.1 141 = .ok (.goto (-53), 3) := by decide +kernel
theorem dX11_prepare_144 : decode mX11_prepare.2.1 144 = .ok (.aload_n 0, 1) := by decide +kernel
theorem dX11_prepare_145 : decode mX11_prepare.2.1 145 = .ok (.getfield 55, 3) := by decide +kernel
theorem dX11_prepare_148 : decode mX11_prepare.2.1 148 = .ok (.invokevirtual 229, 3) := by decide +kernel
theorem dX11_prepare_151 : decode mX11_prepare.2.1 151 = .ok (.iconst 0, 1) := by decide +kernel
theorem dX11_prepare_152 : decode mX11_prepare.2.1 152 = .ok (.ireturn, 1) := by decide +kernel
theorem dX11_next_0 : decode mX11_next.2.1 0 = .ok (.aload_n 0, 1) := by decide +kernel
theorem dX11_next_1 : decode mX11_next.2.1 1 = .ok (.iload_n 1, 1) := by decide +kernel
theorem dX11_next_2 : decode mX11_next.2.1 2 = .ok (.iload_n 2, 1) := by decide +kernel
theorem dX11_next_3 : decode mX11_next.2.1 3 = .ok (.iload_n 3, 1) := by decide +kernel
theorem dX11_next_4 : decode mX11_next.2.1 4 = .ok (.invokevirtual 232, 3) := by decide +kernel
theorem dX11_next_7 : decode mX11_next.2.1 7 = .ok (.istore 4, 2) := by decide +kernel
theorem dX11_next_9 : decode mX11_next.2.1 9 = .ok (.iload 4, 2) := by decide +kernel
theorem dX11_next_11 : decode mX11_next.2.1 11 = .ok (.ifCond .eq 8, 3) := by decide +kernel
theorem dX11_next_14 : decode mX11_next.2.1 14 = .ok (.iload 4, 2) := by decide +kernel
theorem dX11_next_16 : decode mX11_next.2.1 16 = .ok (.goto 10, 3) := by decide +kernel
theorem dX11_next_19 : decode mX11_next.2.1 19 = .ok (.aload_n 0, 1) := by decide +kernel
theorem dX11_next_20 : decode mX11_next.2.1 20 = .ok (.getfield 55, 3) := by decide +kernel
theorem dX11_next_23 : decode mX11_next.2.1 23 = .ok (.invokevirtual 238, 3) := by decide +kernel
theorem dX11_next_26 : decode mX11_next.2.1 26 = .ok (.ireturn, 1) := by decide +kernel
theorem dX11_total_0 : decode mX11_total.2.1 0 = .ok (.iload_n 3, 1) := by decide +kernel
theorem dX11_total_1 : decode mX11_total.2.1 1 = .ok (.ifCond .lt 8, 3) := by decide +kernel
theorem dX11_total_4 : decode mX11_total.2.1 4 = .ok (.iload_n 3, 1) := by decide +kernel
theorem dX11_total_5 : decode mX11_total.2.1 5 = .ok (.iconst 1, 1) := by decide +kernel
theorem dX11_total_6 : decode mX11_total.2.1 6 = .ok (.if_icmp .le 5, 3) := by decide +kernel
theorem dX11_total_9 : decode mX11_total.2.1 9 = .ok (.iconst (-1), 1) := by decide +kernel
theorem dX11_total_10 : decode mX11_total.2.1 10 = .ok (.ireturn, 1) := by decide +kernel
theorem dX11_total_11 : decode mX11_total.2.1 11 = .ok (.aload_n 0, 1) := by decide +kernel
theorem dX11_total_12 : decode mX11_total.2.1 12 = .ok (.iload_n 1, 1) := by decide +kernel
theorem dX11_total_13 : decode mX11_total.2.1 13 = .ok (.iload_n 2, 1) := by decide +kernel
theorem dX11_total_14 : decode mX11_total.2.1 14 = .ok (.iload 4, 2) := by decide +kernel
theorem dX11_total_16 : decode mX11_total.2.1 16 = .ok (.invokevirtual 232, 3) := by decide +kernel
theorem dX11_total_19 : decode mX11_total.2.1 19 = .ok (.istore 5, 2) := by decide +kernel
theorem dX11_total_21 : decode mX11_total.2.1 21 = .ok (.iload 5, 2) := by decide +kernel
theorem dX11_total_23 : decode mX11_total.2.1 23 = .ok (.ifCond .eq 6, 3) := by decide +kernel
theorem dX11_total_26 : decode mX11_total.2.1 26 = .ok (.iload 5, 2) := by decide +kernel
theorem dX11_total_28 : decode mX11_total.2.1 28 = .ok (.ireturn, 1) := by decide +kernel
theorem dX11_total_29 : decode mX11_total.2.1 29 = .ok (.iload_n 3, 1) := by decide +kernel
theorem dX11_total_30 : decode mX11_total.2.1 30 = .ok (.ifCond .ne 13, 3) := by decide +kernel
theorem dX11_total_33 : decode mX11_total.2.1 33 = .ok (.aload_n 0, 1) := by decide +kernel
theorem dX11_total_34 : decode mX11_total.2.1 34 = .ok (.getfield 55, 3) := by decide +kernel
theorem dX11_total_37 : decode mX11_total.2.1 37 = .ok (.invokevirtual 241, 3) := by decide +kernel
theorem dX11_total_40 : decode mX11_total.2.1 40 = .ok (.goto 10, 3) := by decide +kernel
theorem dX11_total_43 : decode mX11_total.2.1 43 = .ok (.aload_n 0, 1) := by decide +kernel
theorem dX11_total_44 : decode mX11_total.2.1 44 = .ok (.getfield 55, 3) := by decide +kernel
theorem dX11_total_47 : decode mX11_total.2.1 47 = .ok (.invokevirtual 244, 3) := by decide +kernel
theorem dX11_total_50 : decode mX11_total.2.1 50 = .ok (.ireturn, 1) := by decide +kernel
theorem dX11_atOnce_0 : decode mX11_atOnce.2.1 0 = .ok (.aload_n 0, 1) := by decide +kernel
theorem dX11_atOnce_1 : decode mX11_atOnce.2.1 1 = .ok (.iload_n 1, 1) := by decide +kernel
theorem dX11_atOnce_2 : decode mX11_atOnce.2.1 2 = .ok (.iload_n 2, 1) := by decide +kernel
theorem dX11_atOnce_3 : decode mX11_atOnce.2.1 3 = .ok (.iload_n 3, 1) := by decide +kernel
theorem dX11_atOnce_4 : decode mX11_atOnce.2.1 4 = .ok (.invokevirtual 232, 3) := by decide +kernel
theorem dX11_atOnce_7 : decode mX11_atOnce.2.1 7 = .ok (.istore 4, 2) := by decide +kernel
theorem dX11_atOnce_9 : decode mX11_atOnce.2.1 9 = .ok (.iload 4, 2) := by decide +kernel
theorem dX11_atOnce_11 : decode mX11_atOnce.2.1 11 = .ok (.ifCond .eq 8, 3) := by decide +kernel
theorem dX11_atOnce_14 : decode mX11_atOnce.2.1 14 = .ok (.iload 4, 2) := by decide +kernel
theorem dX11_atOnce_16 : decode mX11_atOnce.2.1 16 = .ok (.goto 14, 3) := by decide +kernel
theorem dX11_atOnce_19 : decode mX11_atOnce.2.1 19 = .ok (.aload_n 0, 1) := by decide +kernel
theorem dX11_atOnce_20 : decode mX11_atOnce.2.1 20 = .ok (.getfield 62, 3) := by decide +kernel
theorem dX11_atOnce_23 : decode mX11_atOnce.2.1 23 = .ok (.aload_n 0, 1) := by decide +kernel
theorem dX11_atOnce_24 : decode mX11_atOnce.2.1 24 = .ok (.getfield 55, 3) := by decide +kernel
theorem dX11_atOnce_27 : decode mX11_atOnce.2.1 27 = .ok (.invokevirtual 247, 3) := by decide +kernel
theorem dX11_atOnce_30 : decode mX11_atOnce.2.1 30 = .ok (.ireturn, 1) := by decide +kernel
theorem dX11_answers_0 : decode mX11_answers.2.1 0 = .ok (.iload_n 3, 1) := by decide +kernel
theorem dX11_answers_1 : decode mX11_answers.2.1 1 = .ok (.ifCond .lt 36, 3) := by decide +kernel
theorem dX11_answers_4 : decode mX11_answers.2.1 4 = .ok (.iload_n 3, 1) := by decide +kernel
theorem dX11_answers_5 : decode mX11_answers.2.1 5 = .ok (.iconst 2, 1) := by decide +kernel
theorem dX11_answers_6 : decode mX11_answers.2.1 6 = .ok (.if_icmp .gt 31, 3) := by decide +kernel
theorem dX11_answers_9 : decode mX11_answers.2.1 9 = .ok (.aload_n 0, 1) := by decide +kernel
theorem dX11_answers_10 : decode mX11_answers.2.1 10 = .ok (.getfield 20, 3) := by decide +kernel
theorem dX11_answers_13 : decode mX11_answers.2.1 13 = .ok (.iload_n 1, 1) := by decide +kernel
theorem dX11_answers_14 : decode mX11_answers.2.1 14 = .ok (.iload_n 2, 1) := by decide +kernel
theorem dX11_answers_15 : decode mX11_answers.2.1 15 = .ok (.invokevirtual 210, 3) := by decide +kernel
theorem dX11_answers_18 : decode mX11_answers.2.1 18 = .ok (.ifCond .eq 19, 3) := by decide +kernel
theorem dX11_answers_21 : decode mX11_answers.2.1 21 = .ok (.aload_n 0, 1) := by decide +kernel
theorem dX11_answers_22 : decode mX11_answers.2.1 22 = .ok (.getfield 48, 3) := by decide +kernel
theorem dX11_answers_25 : decode mX11_answers.2.1 25 = .ok (.aload_n 0, 1) := by decide +kernel
theorem dX11_answers_26 : decode mX11_answers.2.1 26 = .ok (.getfield 37, 3) := by decide +kernel
theorem dX11_answers_29 : decode mX11_answers.2.1 29 = .ok (.iload 4, 2) := by decide +kernel
theorem dX11_answers_31 : decode mX11_answers.2.1 31 = .ok (.invokevirtual 192, 3) := by decide +kernel
theorem dX11_answers_34 : decode mX11_answers.2.1 34 = .ok (.ifCond .ne 5, 3) := by decide +kernel
theorem dX11_answers_37 : decode mX11_answers.2.1 37 = .ok (.iconst (-1), 1) := by decide +kernel
theorem dX11_answers_38 : decode mX11_answers.2.1 38 = .ok (.ireturn, 1) := by decide +kernel
theorem dX11_answers_39 : decode mX11_answers.2.1 39 = .ok (.aload_n 0, 1) := by decide +kernel
theorem dX11_answers_40 : decode mX11_answers.2.1 40 = .ok (.getfield 48, 3) := by decide +kernel
theorem dX11_answers_43 : decode mX11_answers.2.1 43 = .ok (.iload_n 1, 1) := by decide +kernel
theorem dX11_answers_44 : decode mX11_answers.2.1 44 = .ok (.iload_n 2, 1) := by decide +kernel
theorem dX11_answers_45 : decode mX11_answers.2.1 45 = .ok (.iload_n 3, 1) := by decide +kernel
theorem dX11_answers_46 : decode mX11_answers.2.1 46 = .ok (.invokevirtual 251, 3) := by decide +kernel
theorem dX11_answers_49 : decode mX11_answers.2.1 49 = .ok (.ireturn, 1) := by decide +kernel
theorem dX11_judged_0 : decode mX11_judged.2.1 0 = .ok (.iload_n 1, 1) := by decide +kernel
theorem dX11_judged_1 : decode mX11_judged.2.1 1 = .ok (.ifCond .lt 37, 3) := by decide +kernel
theorem dX11_judged_4 : decode mX11_judged.2.1 4 = .ok (.iload_n 1, 1) := by decide +kernel
theorem dX11_judged_5 : decode mX11_judged.2.1 5 = .ok (.aload_n 0, 1) := by decide +kernel
theorem dX11_judged_6 : decode mX11_judged.2.1 6 = .ok (.getfield 20, 3) := by decide +kernel
theorem dX11_judged_9 : decode mX11_judged.2.1 9 = .ok (.getfield 254, 3) := by decide +kernel
theorem dX11_judged_12 : decode mX11_judged.2.1 12 = .ok (.if_icmp .ge 26, 3) := by decide +kernel
theorem dX11_judged_15 : decode mX11_judged.2.1 15 = .ok (.iload 4, 2) := by decide +kernel
theorem dX11_judged_17 : decode mX11_judged.2.1 17 = .ok (.ifCond .lt 21, 3) := by decide +kernel
theorem dX11_judged_20 : decode mX11_judged.2.1 20 = .ok (.iload 4, 2) := by decide +kernel
theorem dX11_judged_22 : decode mX11_judged.2.1 22 = .ok (.iconst 2, 1) := by decide +kernel
theorem dX11_judged_23 : decode mX11_judged.2.1 23 = .ok (.if_icmp .gt 15, 3) := by decide +kernel
theorem dX11_judged_26 : decode mX11_judged.2.1 26 = .ok (.aload_n 0, 1) := by decide +kernel
theorem dX11_judged_27 : decode mX11_judged.2.1 27 = .ok (.getfield 20, 3) := by decide +kernel
theorem dX11_judged_30 : decode mX11_judged.2.1 30 = .ok (.iload_n 2, 1) := by decide +kernel
theorem dX11_judged_31 : decode mX11_judged.2.1 31 = .ok (.iload_n 3, 1) := by decide +kernel
theorem dX11_judged_32 : decode mX11_judged.2.1 32 = .ok (.invokevirtual 210, 3) := by decide +kernel
theorem dX11_judged_35 : decode mX11_judged.2.1 35 = .ok (.ifCond .ne 5, 3) := by decide +kernel
theorem dX11_judged_38 : decode mX11_judged.2.1 38 = .ok (.iconst (-1), 1) := by decide +kernel
theorem dX11_judged_39 : decode mX11_judged.2.1 39 = .ok (.ireturn, 1) := by decide +kernel
theorem dX11_judged_40 : decode mX11_judged.2.1 40 = .ok (.aload_n 0, 1) := by decide +kernel
theorem dX11_judged_41 : decode mX11_judged.2.1 41 = .ok (.getfield 48, 3) := by decide +kernel
theorem dX11_judged_44 : decode mX11_judged.2.1 44 = .ok (.aload_n 0, 1) := by decide +kernel
theorem dX11_judged_45 : decode mX11_judged.2.1 45 = .ok (.getfield 37, 3) := by decide +kernel
theorem dX11_judged_48 : decode mX11_judged.2.1 48 = .ok (.iload 5, 2) := by decide +kernel
theorem dX11_judged_50 : decode mX11_judged.2.1 50 = .ok (.invokevirtual 192, 3) := by decide +kernel
theorem dX11_judged_53 : decode mX11_judged.2.1 53 = .ok (.pop, 1) := by decide +kernel
theorem dX11_judged_54 : decode mX11_judged.2.1 54 = .ok (.aload_n 0, 1) := by decide +kernel
theorem dX11_judged_55 : decode mX11_judged.2.1 55 = .ok (.getfield 76, 3) := by decide +kernel
theorem dX11_judged_58 : decode mX11_judged.2.1 58 = .ok (.invokevirtual 257, 3) := by decide +kernel
theorem dX11_judged_61 : decode mX11_judged.2.1 61 = .ok (.iconst 0, 1) := by decide +kernel
theorem dX11_judged_62 : decode mX11_judged.2.1 62 = .ok (.istore 6, 2) := by decide +kernel
theorem dX11_judged_64 : decode mX11_judged.2.1 64 = .ok (.iload 6, 2) := by decide +kernel
theorem dX11_judged_66 : decode mX11_judged.2.1 66 = .ok (.aload_n 0, 1) := by decide +kernel
theorem dX11_judged_67 : decode mX11_judged.2.1 67 = .ok (.getfield 48, 3) := by decide +kernel
theorem dX11_judged_70 : decode mX11_judged.2.1 70 = .ok (.getfield 167, 3) := by decide +kernel
theorem dX11_judged_73 : decode mX11_judged.2.1 73 = .ok (.if_icmp .ge 49, 3) := by decide +kernel
theorem dX11_judged_76 : decode mX11_judged.2.1 76 = .ok (.aload_n 0, 1) := by decide +kernel
theorem dX11_judged_77 : decode mX11_judged.2.1 77 = .ok (.getfield 48, 3) := by decide +kernel
theorem dX11_judged_80 : decode mX11_judged.2.1 80 = .ok (.iload 6, 2) := by decide +kernel
theorem dX11_judged_82 : decode mX11_judged.2.1 82 = .ok (.invokevirtual 170, 3) := by decide +kernel
theorem dX11_judged_85 : decode mX11_judged.2.1 85 = .ok (.istore 7, 2) := by decide +kernel
theorem dX11_judged_87 : decode mX11_judged.2.1 87 = .ok (.aload_n 0, 1) := by decide +kernel
theorem dX11_judged_88 : decode mX11_judged.2.1 88 = .ok (.getfield 76, 3) := by decide +kernel
theorem dX11_judged_91 : decode mX11_judged.2.1 91 = .ok (.aload_n 0, 1) := by decide +kernel
theorem dX11_judged_92 : decode mX11_judged.2.1 92 = .ok (.getfield 20, 3) := by decide +kernel
theorem dX11_judged_95 : decode mX11_judged.2.1 95 = .ok (.iload_n 1, 1) := by decide +kernel
theorem dX11_judged_96 : decode mX11_judged.2.1 96 = .ok (.aload_n 0, 1) := by decide +kernel
theorem dX11_judged_97 : decode mX11_judged.2.1 97 = .ok (.getfield 48, 3) := by decide +kernel
theorem dX11_judged_100 : decode mX11_judged.2.1 100 = .ok (.iload 7, 2) := by decide +kernel
theorem dX11_judged_102 : decode mX11_judged.2.1 102 = .ok (.aload_n 0, 1) := by decide +kernel
theorem dX11_judged_103 : decode mX11_judged.2.1 103 = .ok (.getfield 48, 3) := by decide +kernel
theorem dX11_judged_106 : decode mX11_judged.2.1 106 = .ok (.iload 7, 2) := by decide +kernel
theorem dX11_judged_108 : decode mX11_judged.2.1 108 = .ok (.iload_n 2, 1) := by decide +kernel
theorem dX11_judged_109 : decode mX11_judged.2.1 109 = .ok (.iload_n 3, 1) := by decide +kernel
theorem dX11_judged_110 : decode mX11_judged.2.1 110 = .ok (.invokevirtual 222, 3) := by decide +kernel
theorem dX11_judged_113 : decode mX11_judged.2.1 113 = .ok (.invokevirtual 259, 3) := by decide +kernel
theorem dX11_judged_116 : decode mX11_judged.2.1 116 = .ok (.iinc 6 1, 3) := by decide +kernel
theorem dX11_judged_119 : decode mX11_judged.2.1 119 = .ok (.goto (-55), 3) := by decide +kernel
theorem dX11_judged_122 : decode mX11_judged.2.1 122 = .ok (.iload 4, 2) := by decide +kernel
theorem dX11_judged_124 : decode mX11_judged.2.1 124 = .ok (.ifCond .ne 13, 3) := by decide +kernel
theorem dX11_judged_127 : decode mX11_judged.2.1 127 = .ok (.aload_n 0, 1) := by decide +kernel
theorem dX11_judged_128 : decode mX11_judged.2.1 128 = .ok (.getfield 76, 3) := by decide +kernel
theorem dX11_judged_131 : decode mX11_judged.2.1 131 = .ok (.invokevirtual 263, 3) := by decide +kernel
theorem dX11_judged_134 : decode mX11_judged.2.1 134 = .ok (.goto 26, 3) := by decide +kernel
theorem dX11_judged_137 : decode mX11_judged.2.1 137 = .ok (.iload 4, 2) := by decide +kernel
theorem dX11_judged_139 : decode mX11_judged.2.1 139 = .ok (.iconst 1, 1) := by decide +kernel
theorem dX11_judged_140 : decode mX11_judged.2.1 140 = .ok (.if_icmp .ne 13, 3) := by decide +kernel
theorem dX11_judged_143 : decode mX11_judged.2.1 143 = .ok (.aload_n 0, 1) := by decide +kernel
theorem dX11_judged_144 : decode mX11_judged.2.1 144 = .ok (.getfield 76, 3) := by decide +kernel
theorem dX11_judged_147 : decode mX11_judged.2.1 147 = .ok (.getfield 266, 3) := by decide +kernel
theorem dX11_judged_150 : decode mX11_judged.2.1 150 = .ok (.goto 10, 3) := by decide +kernel
theorem dX11_judged_153 : decode mX11_judged.2.1 153 = .ok (.aload_n 0, 1) := by decide +kernel
theorem dX11_judged_154 : decode mX11_judged.2.1 154 = .ok (.getfield 76, 3) := by decide +kernel
theorem dX11_judged_157 : decode mX11_judged.2.1 157 = .ok (.getfield 269, 3) := by decide +kernel
theorem dX11_judged_160 : decode mX11_judged.2.1 160 = .ok (.ireturn, 1) := by decide +kernel
theorem dX11_trusty_0 : decode mX11_trusty.2.1 0 = .ok (.aload_n 0, 1) := by decide +kernel
theorem dX11_trusty_1 : decode mX11_trusty.2.1 1 = .ok (.iload_n 1, 1) := by decide +kernel
theorem dX11_trusty_2 : decode mX11_trusty.2.1 2 = .ok (.iload_n 2, 1) := by decide +kernel
theorem dX11_trusty_3 : decode mX11_trusty.2.1 3 = .ok (.iload_n 3, 1) := by decide +kernel
theorem dX11_trusty_4 : decode mX11_trusty.2.1 4 = .ok (.invokevirtual 232, 3) := by decide +kernel
theorem dX11_trusty_7 : decode mX11_trusty.2.1 7 = .ok (.istore 4, 2) := by decide +kernel
theorem dX11_trusty_9 : decode mX11_trusty.2.1 9 = .ok (.iload 4, 2) := by decide +kernel
theorem dX11_trusty_11 : decode mX11_trusty.2.1 11 = .ok (.ifCond .eq 6, 3) := by decide +kernel
theorem dX11_trusty_14 : decode mX11_trusty.2.1 14 = .ok (.iload 4, 2) := by decide +kernel
theorem dX11_trusty_16 : decode mX11_trusty.2.1 16 = .ok (.ireturn, 1) := by decide +kernel
theorem dX11_trusty_17 : decode mX11_trusty.2.1 17 = .ok (.aload_n 0, 1) := by decide +kernel
theorem dX11_trusty_18 : decode mX11_trusty.2.1 18 = .ok (.getfield 55, 3) := by decide +kernel
theorem dX11_trusty_21 : decode mX11_trusty.2.1 21 = .ok (.getfield 272, 3) := by decide +kernel
theorem dX11_trusty_24 : decode mX11_trusty.2.1 24 = .ok (.bipush 6, 2) := by decide +kernel
theorem dX11_trusty_26 : decode mX11_trusty.2.1 26 = .ok (.if_icmp .le 6, 3) := by decide +kernel
theorem dX11_trusty_29 : decode mX11_trusty.2.1 29 = .ok (.bipush (-2), 2) := by decide +kernel
theorem dX11_trusty_31 : decode mX11_trusty.2.1 31 = .ok (.ireturn, 1) := by decide +kernel
theorem dX11_trusty_32 : decode mX11_trusty.2.1 32 = .ok (.aload_n 0, 1) := by decide +kernel
theorem dX11_trusty_33 : decode mX11_trusty.2.1 33 = .ok (.getfield 69, 3) := by decide +kernel
theorem dX11_trusty_36 : decode mX11_trusty.2.1 36 = .ok (.aload_n 0, 1) := by decide +kernel
theorem dX11_trusty_37 : decode mX11_trusty.2.1 37 = .ok (.getfield 55, 3) := by decide +kernel
theorem dX11_trusty_40 : decode mX11_trusty.2.1 40 = .ok (.invokevirtual 275, 3) := by decide +kernel
theorem dX11_trusty_43 : decode mX11_trusty.2.1 43 = .ok (.istore 5, 2) := by decide +kernel
theorem dX11_trusty_45 : decode mX11_trusty.2.1 45 = .ok (.iload 5, 2) := by decide +kernel
theorem dX11_trusty_47 : decode mX11_trusty.2.1 47 = .ok (.bipush 12, 2) := by decide +kernel
theorem dX11_trusty_49 : decode mX11_trusty.2.1 49 = .ok (.if_icmp .le 8, 3) := by decide +kernel
theorem dX11_trusty_52 : decode mX11_trusty.2.1 52 = .ok (.bipush (-2), 2) := by decide +kernel
theorem dX11_trusty_54 : decode mX11_trusty.2.1 54 = .ok (.goto 5, 3) := by decide +kernel
theorem dX11_trusty_57 : decode mX11_trusty.2.1 57 = .ok (.iload 5, 2) := by decide +kernel
theorem dX11_trusty_59 : decode mX11_trusty.2.1 59 = .ok (.ireturn, 1) := by decide +kernel
theorem dX11_odds_0 : decode mX11_odds.2.1 0 = .ok (.aload_n 0, 1) := by decide +kernel
theorem dX11_odds_1 : decode mX11_odds.2.1 1 = .ok (.getfield 20, 3) := by decide +kernel
theorem dX11_odds_4 : decode mX11_odds.2.1 4 = .ok (.iload_n 1, 1) := by decide +kernel
theorem dX11_odds_5 : decode mX11_odds.2.1 5 = .ok (.iload_n 2, 1) := by decide +kernel
theorem dX11_odds_6 : decode mX11_odds.2.1 6 = .ok (.invokevirtual 203, 3) := by decide +kernel
theorem dX11_odds_9 : decode mX11_odds.2.1 9 = .ok (.ifCond .eq 12, 3) := by decide +kernel
theorem dX11_odds_12 : decode mX11_odds.2.1 12 = .ok (.iload_n 3, 1) := by decide +kernel
theorem dX11_odds_13 : decode mX11_odds.2.1 13 = .ok (.ifCond .lt 8, 3) := by decide +kernel
theorem dX11_odds_16 : decode mX11_odds.2.1 16 = .ok (.iload_n 3, 1) := by decide +kernel
theorem dX11_odds_17 : decode mX11_odds.2.1 17 = .ok (.iconst 1, 1) := by decide +kernel
theorem dX11_odds_18 : decode mX11_odds.2.1 18 = .ok (.if_icmp .le 5, 3) := by decide +kernel
theorem dX11_odds_21 : decode mX11_odds.2.1 21 = .ok (.iconst (-1), 1) := by decide +kernel
theorem dX11_odds_22 : decode mX11_odds.2.1 22 = .ok (.ireturn, 1) := by decide +kernel
theorem dX11_odds_23 : decode mX11_odds.2.1 23 = .ok (.aload_n 0, 1) := by decide +kernel
theorem dX11_odds_24 : decode mX11_odds.2.1 24 = .ok (.getfield 48, 3) := by decide +kernel
theorem dX11_odds_27 : decode mX11_odds.2.1 27 = .ok (.aload_n 0, 1) := by decide +kernel
theorem dX11_odds_28 : decode mX11_odds.2.1 28 = .ok (.getfield 37, 3) := by decide +kernel
theorem dX11_odds_31 : decode mX11_odds.2.1 31 = .ok (.iload 4, 2) := by decide +kernel
theorem dX11_odds_33 : decode mX11_odds.2.1 33 = .ok (.invokevirtual 192, 3) := by decide +kernel
theorem dX11_odds_36 : decode mX11_odds.2.1 36 = .ok (.istore 5, 2) := by decide +kernel
theorem dX11_odds_38 : decode mX11_odds.2.1 38 = .ok (.iload_n 3, 1) := by decide +kernel
theorem dX11_odds_39 : decode mX11_odds.2.1 39 = .ok (.ifCond .ne 15, 3) := by decide +kernel
theorem dX11_odds_42 : decode mX11_odds.2.1 42 = .ok (.aload_n 0, 1) := by decide +kernel
theorem dX11_odds_43 : decode mX11_odds.2.1 43 = .ok (.getfield 48, 3) := by decide +kernel
theorem dX11_odds_46 : decode mX11_odds.2.1 46 = .ok (.iload_n 1, 1) := by decide +kernel
theorem dX11_odds_47 : decode mX11_odds.2.1 47 = .ok (.iload_n 2, 1) := by decide +kernel
theorem dX11_odds_48 : decode mX11_odds.2.1 48 = .ok (.invokevirtual 278, 3) := by decide +kernel
theorem dX11_odds_51 : decode mX11_odds.2.1 51 = .ok (.goto 5, 3) := by decide +kernel
theorem dX11_odds_54 : decode mX11_odds.2.1 54 = .ok (.iload 5, 2) := by decide +kernel
theorem dX11_odds_56 : decode mX11_odds.2.1 56 = .ok (.ireturn, 1) := by decide +kernel
theorem dX11_evenest_0 : decode mX11_evenest.2.1 0 = .ok (.aload_n 0, 1) := by decide +kernel
theorem dX11_evenest_1 : decode mX11_evenest.2.1 1 = .ok (.getfield 20, 3) := by decide +kernel
theorem dX11_evenest_4 : decode mX11_evenest.2.1 4 = .ok (.getfield 126, 3) := by decide +kernel
theorem dX11_evenest_7 : decode mX11_evenest.2.1 7 = .ok (.iconst 2, 1) := by decide +kernel
theorem dX11_evenest_8 : decode mX11_evenest.2.1 8 = .ok (.if_icmp .lt 18, 3) := by decide +kernel
theorem dX11_evenest_11 : decode mX11_evenest.2.1 11 = .ok (.aload_n 0, 1) := by decide +kernel
theorem dX11_evenest_12 : decode mX11_evenest.2.1 12 = .ok (.getfield 48, 3) := by decide +kernel
theorem dX11_evenest_15 : decode mX11_evenest.2.1 15 = .ok (.aload_n 0, 1) := by decide +kernel
theorem dX11_evenest_16 : decode mX11_evenest.2.1 16 = .ok (.getfield 37, 3) := by decide +kernel
theorem dX11_evenest_19 : decode mX11_evenest.2.1 19 = .ok (.iload_n 1, 1) := by decide +kernel
theorem dX11_evenest_20 : decode mX11_evenest.2.1 20 = .ok (.invokevirtual 192, 3) := by decide +kernel
theorem dX11_evenest_23 : decode mX11_evenest.2.1 23 = .ok (.ifCond .ne 5, 3) := by decide +kernel
theorem dX11_evenest_26 : decode mX11_evenest.2.1 26 = .ok (.iconst (-1), 1) := by decide +kernel
theorem dX11_evenest_27 : decode mX11_evenest.2.1 27 = .ok (.ireturn, 1) := by decide +kernel
theorem dX11_evenest_28 : decode mX11_evenest.2.1 28 = .ok (.aload_n 0, 1) := by decide +kernel
theorem dX11_evenest_29 : decode mX11_evenest.2.1 29 = .ok (.getfield 48, 3) := by decide +kernel
theorem dX11_evenest_32 : decode mX11_evenest.2.1 32 = .ok (.invokevirtual 281, 3) := by decide +kernel
theorem dX11_evenest_35 : decode mX11_evenest.2.1 35 = .ok (.ireturn, 1) := by decide +kernel
theorem dX11_covers_0 : decode mX11_covers.2.1 0 = .ok (.aload_n 0, 1) := by decide +kernel
theorem dX11_covers_1 : decode mX11_covers.2.1 1 = .ok (.getfield 90, 3) := by decide +kernel
theorem dX11_covers_4 : decode mX11_covers.2.1 4 = .ok (.invokevirtual 119, 3) := by decide +kernel
theorem dX11_covers_7 : decode mX11_covers.2.1 7 = .ok (.aload_n 0, 1) := by decide +kernel
theorem dX11_covers_8 : decode mX11_covers.2.1 8 = .ok (.getfield 48, 3) := by decide +kernel
theorem dX11_covers_11 : decode mX11_covers.2.1 11 = .ok (.aload_n 0, 1) := by decide +kernel
theorem dX11_covers_12 : decode mX11_covers.2.1 12 = .ok (.getfield 37, 3) := by decide +kernel
theorem dX11_covers_15 : decode mX11_covers.2.1 15 = .ok (.iload_n 1, 1) := by decide +kernel
theorem dX11_covers_16 : decode mX11_covers.2.1 16 = .ok (.invokevirtual 192, 3) := by decide +kernel
theorem dX11_covers_19 : decode mX11_covers.2.1 19 = .ok (.ifCond .ne 5, 3) := by decide +kernel
theorem dX11_covers_22 : decode mX11_covers.2.1 22 = .ok (.iconst (-1), 1) := by decide +kernel
theorem dX11_covers_23 : decode mX11_covers.2.1 23 = .ok (.ireturn, 1) := by decide +kernel
theorem dX11_covers_24 : decode mX11_covers.2.1 24 = .ok (.iconst 0, 1) := by decide +kernel
theorem dX11_covers_25 : decode mX11_covers.2.1 25 = .ok (.istore_n 2, 1) := by decide +kernel
theorem dX11_covers_26 : decode mX11_covers.2.1 26 = .ok (.iload_n 2, 1) := by decide +kernel
theorem dX11_covers_27 : decode mX11_covers.2.1 27 = .ok (.aload_n 0, 1) := by decide +kernel
theorem dX11_covers_28 : decode mX11_covers.2.1 28 = .ok (.getfield 20, 3) := by decide +kernel
theorem dX11_covers_31 : decode mX11_covers.2.1 31 = .ok (.getfield 126, 3) := by decide +kernel
theorem dX11_covers_34 : decode mX11_covers.2.1 34 = .ok (.if_icmp .ge 53, 3) := by decide +kernel
theorem dX11_covers_37 : decode mX11_covers.2.1 37 = .ok (.iconst 0, 1) := by decide +kernel
theorem dX11_covers_38 : decode mX11_covers.2.1 38 = .ok (.istore_n 3, 1) := by decide +kernel
theorem dX11_covers_39 : decode mX11_covers.2.1 39 = .ok (.iload_n 3, 1) := by decide +kernel
theorem dX11_covers_40 : decode mX11_covers.2.1 40 = .ok (.aload_n 0, 1) := by decide +kernel
theorem dX11_covers_41 : decode mX11_covers.2.1 41 = .ok (.getfield 20, 3) := by decide +kernel
theorem dX11_covers_44 : decode mX11_covers.2.1 44 = .ok (.getfield 126, 3) := by decide +kernel
theorem dX11_covers_47 : decode mX11_covers.2.1 47 = .ok (.if_icmp .ge 34, 3) := by decide +kernel
theorem dX11_covers_50 : decode mX11_covers.2.1 50 = .ok (.aload_n 0, 1) := by decide +kernel
theorem dX11_covers_51 : decode mX11_covers.2.1 51 = .ok (.getfield 48, 3) := by decide +kernel
theorem dX11_covers_54 : decode mX11_covers.2.1 54 = .ok (.iload_n 2, 1) := by decide +kernel
theorem dX11_covers_55 : decode mX11_covers.2.1 55 = .ok (.iload_n 3, 1) := by decide +kernel
theorem dX11_covers_56 : decode mX11_covers.2.1 56 = .ok (.invokevirtual 284, 3) := by decide +kernel
theorem dX11_covers_59 : decode mX11_covers.2.1 59 = .ok (.ifCond .eq 16, 3) := by decide +kernel
theorem dX11_covers_62 : decode mX11_covers.2.1 62 = .ok (.aload_n 0, 1) := by decide +kernel
theorem dX11_covers_63 : decode mX11_covers.2.1 63 = .ok (.getfield 90, 3) := by decide +kernel
theorem dX11_covers_66 : decode mX11_covers.2.1 66 = .ok (.bipush 10, 2) := by decide +kernel
theorem dX11_covers_68 : decode mX11_covers.2.1 68 = .ok (.iload_n 2, 1) := by decide +kernel
theorem dX11_covers_69 : decode mX11_covers.2.1 69 = .ok (.imul, 1) := by decide +kernel
theorem dX11_covers_70 : decode mX11_covers.2.1 70 = .ok (.iload_n 3, 1) := by decide +kernel
theorem dX11_covers_71 : decode mX11_covers.2.1 71 = .ok (.iadd, 1) := by decide +kernel
theorem dX11_covers_72 : decode mX11_covers.2.1 72 = .ok (.invokevirtual 179, 3) := by decide +kernel
theorem dX11_covers_75 : decode mX11_covers.2.1 75 = .ok (.iinc 3 1, 3) := by decide +kernel
theorem dX11_covers_78 : decode mX11_covers.2.1 78 = .ok (.goto (-39), 3) := by decide +kernel
theorem dX11_covers_81 : decode mX11_covers.2.1 81 = .ok (.iinc 2 1, 3) := by decide +kernel
theorem dX11_covers_84 : decode mX11_covers.2.1 84 = .ok (.goto (-58), 3) := by decide +kernel
theorem dX11_covers_87 : decode mX11_covers.2.1 87 = .ok (.aload_n 0, 1) := by decide +kernel
theorem dX11_covers_88 : decode mX11_covers.2.1 88 = .ok (.getfield 90, 3) := by decide +kernel
theorem dX11_covers_91 : decode mX11_covers.2.1 91 = .ok (.getfield 287, 3) := by decide +kernel
theorem dX11_covers_94 : decode mX11_covers.2.1 94 = .ok (.ireturn, 1) := by decide +kernel
theorem dX11_sits_0 : decode mX11_sits.2.1 0 = .ok (.aload_n 0, 1) := by decide +kernel
theorem dX11_sits_1 : decode mX11_sits.2.1 1 = .ok (.getfield 20, 3) := by decide +kernel
theorem dX11_sits_4 : decode mX11_sits.2.1 4 = .ok (.iload_n 1, 1) := by decide +kernel
theorem dX11_sits_5 : decode mX11_sits.2.1 5 = .ok (.invokevirtual 189, 3) := by decide +kernel
theorem dX11_sits_8 : decode mX11_sits.2.1 8 = .ok (.ifCond .eq 27, 3) := by decide +kernel
theorem dX11_sits_11 : decode mX11_sits.2.1 11 = .ok (.iload_n 2, 1) := by decide +kernel
theorem dX11_sits_12 : decode mX11_sits.2.1 12 = .ok (.ifCond .lt 23, 3) := by decide +kernel
theorem dX11_sits_15 : decode mX11_sits.2.1 15 = .ok (.iload_n 2, 1) := by decide +kernel
theorem dX11_sits_16 : decode mX11_sits.2.1 16 = .ok (.iconst 1, 1) := by decide +kernel
theorem dX11_sits_17 : decode mX11_sits.2.1 17 = .ok (.if_icmp .gt 18, 3) := by decide +kernel
theorem dX11_sits_20 : decode mX11_sits.2.1 20 = .ok (.aload_n 0, 1) := by decide +kernel
theorem dX11_sits_21 : decode mX11_sits.2.1 21 = .ok (.getfield 48, 3) := by decide +kernel
theorem dX11_sits_24 : decode mX11_sits.2.1 24 = .ok (.aload_n 0, 1) := by decide +kernel
theorem dX11_sits_25 : decode mX11_sits.2.1 25 = .ok (.getfield 37, 3) := by decide +kernel
theorem dX11_sits_28 : decode mX11_sits.2.1 28 = .ok (.iload_n 3, 1) := by decide +kernel
theorem dX11_sits_29 : decode mX11_sits.2.1 29 = .ok (.invokevirtual 192, 3) := by decide +kernel
theorem dX11_sits_32 : decode mX11_sits.2.1 32 = .ok (.ifCond .ne 5, 3) := by decide +kernel
theorem dX11_sits_35 : decode mX11_sits.2.1 35 = .ok (.iconst (-1), 1) := by decide +kernel
theorem dX11_sits_36 : decode mX11_sits.2.1 36 = .ok (.ireturn, 1) := by decide +kernel
theorem dX11_sits_37 : decode mX11_sits.2.1 37 = .ok (.aload_n 0, 1) := by decide +kernel
theorem dX11_sits_38 : decode mX11_sits.2.1 38 = .ok (.getfield 48, 3) := by decide +kernel
theorem dX11_sits_41 : decode mX11_sits.2.1 41 = .ok (.iload_n 1, 1) := by decide +kernel
theorem dX11_sits_42 : decode mX11_sits.2.1 42 = .ok (.iload_n 2, 1) := by decide +kernel
theorem dX11_sits_43 : decode mX11_sits.2.1 43 = .ok (.ifCond .ne 7, 3) := by decide +kernel
theorem dX11_sits_46 : decode mX11_sits.2.1 46 = .ok (.iconst 1, 1) := by decide +kernel
theorem dX11_sits_47 : decode mX11_sits.2.1 47 = .ok (.goto 4, 3) := by decide +kernel
theorem dX11_sits_50 : decode mX11_sits.2.1 50 = .ok (.iconst 2, 1) := by decide +kernel
theorem dX11_sits_51 : decode mX11_sits.2.1 51 = .ok (.invokevirtual 288, 3) := by decide +kernel
theorem dX11_sits_54 : decode mX11_sits.2.1 54 = .ok (.ireturn, 1) := by decide +kernel
theorem dX11_led_0 : decode mX11_led.2.1 0 = .ok (.aload_n 0, 1) := by decide +kernel
theorem dX11_led_1 : decode mX11_led.2.1 1 = .ok (.getfield 20, 3) := by decide +kernel
theorem dX11_led_4 : decode mX11_led.2.1 4 = .ok (.iload_n 1, 1) := by decide +kernel
theorem dX11_led_5 : decode mX11_led.2.1 5 = .ok (.invokevirtual 189, 3) := by decide +kernel
theorem dX11_led_8 : decode mX11_led.2.1 8 = .ok (.ifCond .eq 14, 3) := by decide +kernel
theorem dX11_led_11 : decode mX11_led.2.1 11 = .ok (.aload_n 0, 1) := by decide +kernel
theorem dX11_led_12 : decode mX11_led.2.1 12 = .ok (.getfield 20, 3) := by decide +kernel
theorem dX11_led_15 : decode mX11_led.2.1 15 = .ok (.iload_n 2, 1) := by decide +kernel
theorem dX11_led_16 : decode mX11_led.2.1 16 = .ok (.invokevirtual 189, 3) := by decide +kernel
theorem dX11_led_19 : decode mX11_led.2.1 19 = .ok (.ifCond .ne 5, 3) := by decide +kernel
theorem dX11_led_22 : decode mX11_led.2.1 22 = .ok (.iconst (-1), 1) := by decide +kernel
theorem dX11_led_23 : decode mX11_led.2.1 23 = .ok (.ireturn, 1) := by decide +kernel
theorem dX11_led_24 : decode mX11_led.2.1 24 = .ok (.aload_n 0, 1) := by decide +kernel
theorem dX11_led_25 : decode mX11_led.2.1 25 = .ok (.getfield 48, 3) := by decide +kernel
theorem dX11_led_28 : decode mX11_led.2.1 28 = .ok (.aload_n 0, 1) := by decide +kernel
theorem dX11_led_29 : decode mX11_led.2.1 29 = .ok (.getfield 37, 3) := by decide +kernel
theorem dX11_led_32 : decode mX11_led.2.1 32 = .ok (.iload_n 3, 1) := by decide +kernel
theorem dX11_led_33 : decode mX11_led.2.1 33 = .ok (.invokevirtual 160, 3) := by decide +kernel
theorem dX11_led_36 : decode mX11_led.2.1 36 = .ok (.aload_n 0, 1) := by decide +kernel
theorem dX11_led_37 : decode mX11_led.2.1 37 = .ok (.getfield 48, 3) := by decide +kernel
theorem dX11_led_40 : decode mX11_led.2.1 40 = .ok (.iload_n 1, 1) := by decide +kernel
theorem dX11_led_41 : decode mX11_led.2.1 41 = .ok (.iload_n 2, 1) := by decide +kernel
theorem dX11_led_42 : decode mX11_led.2.1 42 = .ok (.invokevirtual 291, 3) := by decide +kernel
theorem dX11_led_45 : decode mX11_led.2.1 45 = .ok (.ireturn, 1) := by decide +kernel
theorem dX11_doubts_0 : decode mX11_doubts.2.1 0 = .ok (.aload_n 0, 1) := by decide +kernel
theorem dX11_doubts_1 : decode mX11_doubts.2.1 1 = .ok (.getfield 48, 3) := by decide +kernel
theorem dX11_doubts_4 : decode mX11_doubts.2.1 4 = .ok (.aload_n 0, 1) := by decide +kernel
theorem dX11_doubts_5 : decode mX11_doubts.2.1 5 = .ok (.getfield 37, 3) := by decide +kernel
theorem dX11_doubts_8 : decode mX11_doubts.2.1 8 = .ok (.iload_n 1, 1) := by decide +kernel
theorem dX11_doubts_9 : decode mX11_doubts.2.1 9 = .ok (.invokevirtual 160, 3) := by decide +kernel
theorem dX11_doubts_12 : decode mX11_doubts.2.1 12 = .ok (.aload_n 0, 1) := by decide +kernel
theorem dX11_doubts_13 : decode mX11_doubts.2.1 13 = .ok (.getfield 48, 3) := by decide +kernel
theorem dX11_doubts_16 : decode mX11_doubts.2.1 16 = .ok (.aload_n 0, 1) := by decide +kernel
theorem dX11_doubts_17 : decode mX11_doubts.2.1 17 = .ok (.getfield 48, 3) := by decide +kernel
theorem dX11_doubts_20 : decode mX11_doubts.2.1 20 = .ok (.aload_n 0, 1) := by decide +kernel
theorem dX11_doubts_21 : decode mX11_doubts.2.1 21 = .ok (.getfield 20, 3) := by decide +kernel
theorem dX11_doubts_24 : decode mX11_doubts.2.1 24 = .ok (.getfield 294, 3) := by decide +kernel
theorem dX11_doubts_27 : decode mX11_doubts.2.1 27 = .ok (.invokevirtual 298, 3) := by decide +kernel
theorem dX11_doubts_30 : decode mX11_doubts.2.1 30 = .ok (.invokevirtual 302, 3) := by decide +kernel
theorem dX11_doubts_33 : decode mX11_doubts.2.1 33 = .ok (.ireturn, 1) := by decide +kernel
theorem dX11_twins_0 : decode mX11_twins.2.1 0 = .ok (.aload_n 0, 1) := by decide +kernel
theorem dX11_twins_1 : decode mX11_twins.2.1 1 = .ok (.getfield 20, 3) := by decide +kernel
theorem dX11_twins_4 : decode mX11_twins.2.1 4 = .ok (.iload_n 1, 1) := by decide +kernel
theorem dX11_twins_5 : decode mX11_twins.2.1 5 = .ok (.invokevirtual 189, 3) := by decide +kernel
theorem dX11_twins_8 : decode mX11_twins.2.1 8 = .ok (.ifCond .eq 18, 3) := by decide +kernel
theorem dX11_twins_11 : decode mX11_twins.2.1 11 = .ok (.aload_n 0, 1) := by decide +kernel
theorem dX11_twins_12 : decode mX11_twins.2.1 12 = .ok (.getfield 48, 3) := by decide +kernel
theorem dX11_twins_15 : decode mX11_twins.2.1 15 = .ok (.aload_n 0, 1) := by decide +kernel
theorem dX11_twins_16 : decode mX11_twins.2.1 16 = .ok (.getfield 37, 3) := by decide +kernel
theorem dX11_twins_19 : decode mX11_twins.2.1 19 = .ok (.iload_n 2, 1) := by decide +kernel
theorem dX11_twins_20 : decode mX11_twins.2.1 20 = .ok (.invokevirtual 192, 3) := by decide +kernel
theorem dX11_twins_23 : decode mX11_twins.2.1 23 = .ok (.ifCond .ne 5, 3) := by decide +kernel
theorem dX11_twins_26 : decode mX11_twins.2.1 26 = .ok (.iconst (-1), 1) := by decide +kernel
theorem dX11_twins_27 : decode mX11_twins.2.1 27 = .ok (.ireturn, 1) := by decide +kernel
theorem dX11_twins_28 : decode mX11_twins.2.1 28 = .ok (.aload_n 0, 1) := by decide +kernel
theorem dX11_twins_29 : decode mX11_twins.2.1 29 = .ok (.getfield 48, 3) := by decide +kernel
theorem dX11_twins_32 : decode mX11_twins.2.1 32 = .ok (.iload_n 1, 1) := by decide +kernel
theorem dX11_twins_33 : decode mX11_twins.2.1 33 = .ok (.iconst 0, 1) := by decide +kernel
theorem dX11_twins_34 : decode mX11_twins.2.1 34 = .ok (.invokevirtual 288, 3) := by decide +kernel
theorem dX11_twins_37 : decode mX11_twins.2.1 37 = .ok (.ireturn, 1) := by decide +kernel
theorem dX11_ladder_0 : decode mX11_ladder.2.1 0 = .ok (.aload_n 0, 1) := by decide +kernel
theorem dX11_ladder_1 : decode mX11_ladder.2.1 1 = .ok (.getfield 48, 3) := by decide +kernel
theorem dX11_ladder_4 : decode mX11_ladder.2.1 4 = .ok (.aload_n 0, 1) := by decide +kernel
theorem dX11_ladder_5 : decode mX11_ladder.2.1 5 = .ok (.getfield 37, 3) := by decide +kernel
theorem dX11_ladder_8 : decode mX11_ladder.2.1 8 = .ok (.iload_n 2, 1) := by decide +kernel
theorem dX11_ladder_9 : decode mX11_ladder.2.1 9 = .ok (.invokevirtual 192, 3) := by decide +kernel
theorem dX11_ladder_12 : decode mX11_ladder.2.1 12 = .ok (.ifCond .ne 5, 3) := by decide +kernel
theorem dX11_ladder_15 : decode mX11_ladder.2.1 15 = .ok (.iconst (-1), 1) := by decide +kernel
theorem dX11_ladder_16 : decode mX11_ladder.2.1 16 = .ok (.ireturn, 1) := by decide +kernel
theorem dX11_ladder_17 : decode mX11_ladder.2.1 17 = .ok (.aload_n 0, 1) := by decide +kernel
theorem dX11_ladder_18 : decode mX11_ladder.2.1 18 = .ok (.getfield 48, 3) := by decide +kernel
theorem dX11_ladder_21 : decode mX11_ladder.2.1 21 = .ok (.iload_n 1, 1) := by decide +kernel
theorem dX11_ladder_22 : decode mX11_ladder.2.1 22 = .ok (.invokevirtual 305, 3) := by decide +kernel
theorem dX11_ladder_25 : decode mX11_ladder.2.1 25 = .ok (.ireturn, 1) := by decide +kernel
theorem dX11_bound_0 : decode mX11_bound.2.1 0 = .ok (.aload_n 0, 1) := by decide +kernel
theorem dX11_bound_1 : decode mX11_bound.2.1 1 = .ok (.getfield 48, 3) := by decide +kernel
theorem dX11_bound_4 : decode mX11_bound.2.1 4 = .ok (.aload_n 0, 1) := by decide +kernel
theorem dX11_bound_5 : decode mX11_bound.2.1 5 = .ok (.getfield 37, 3) := by decide +kernel
theorem dX11_bound_8 : decode mX11_bound.2.1 8 = .ok (.iload_n 1, 1) := by decide +kernel
theorem dX11_bound_9 : decode mX11_bound.2.1 9 = .ok (.invokevirtual 192, 3) := by decide +kernel
theorem dX11_bound_12 : decode mX11_bound.2.1 12 = .ok (.istore_n 2, 1) := by decide +kernel
theorem dX11_bound_13 : decode mX11_bound.2.1 13 = .ok (.iload_n 2, 1) := by decide +kernel
theorem dX11_bound_14 : decode mX11_bound.2.1 14 = .ok (.ifCond .ne 7, 3) := by decide +kernel
theorem dX11_bound_17 : decode mX11_bound.2.1 17 = .ok (.iconst (-1), 1) := by decide +kernel
theorem dX11_bound_18 : decode mX11_bound.2.1 18 = .ok (.goto 22, 3) := by decide +kernel
theorem dX11_bound_21 : decode mX11_bound.2.1 21 = .ok (.iload_n 2, 1) := by decide +kernel
theorem dX11_bound_22 : decode mX11_bound.2.1 22 = .ok (.aload_n 0, 1) := by decide +kernel
theorem dX11_bound_23 : decode mX11_bound.2.1 23 = .ok (.getfield 20, 3) := by decide +kernel
theorem dX11_bound_26 : decode mX11_bound.2.1 26 = .ok (.getfield 213, 3) := by decide +kernel
theorem dX11_bound_29 : decode mX11_bound.2.1 29 = .ok (.ifCond .eq 7, 3) := by decide +kernel
theorem dX11_bound_32 : decode mX11_bound.2.1 32 = .ok (.iconst 3, 1) := by decide +kernel
theorem dX11_bound_33 : decode mX11_bound.2.1 33 = .ok (.goto 4, 3) := by decide +kernel
theorem dX11_bound_36 : decode mX11_bound.2.1 36 = .ok (.iconst 2, 1) := by decide +kernel
theorem dX11_bound_37 : decode mX11_bound.2.1 37 = .ok (.invokestatic 309, 3) := by decide +kernel
theorem dX11_bound_40 : decode mX11_bound.2.1 40 = .ok (.ireturn, 1) := by decide +kernel
theorem dX11_swapped_0 : decode mX11_swapped.2.1 0 = .ok (.iload_n 1, 1) := by decide +kernel
theorem dX11_swapped_1 : decode mX11_swapped.2.1 1 = .ok (.ifCond .lt 17, 3) := by decide +kernel
theorem dX11_swapped_4 : decode mX11_swapped.2.1 4 = .ok (.iload_n 1, 1) := by decide +kernel
theorem dX11_swapped_5 : decode mX11_swapped.2.1 5 = .ok (.iconst 2, 1) := by decide +kernel
theorem dX11_swapped_6 : decode mX11_swapped.2.1 6 = .ok (.if_icmp .gt 12, 3) := by decide +kernel
theorem dX11_swapped_9 : decode mX11_swapped.2.1 9 = .ok (.iload_n 2, 1) := by decide +kernel
theorem dX11_swapped_10 : decode mX11_swapped.2.1 10 = .ok (.ifCond .lt 8, 3) := by decide +kernel
theorem dX11_swapped_13 : decode mX11_swapped.2.1 13 = .ok (.iload_n 2, 1) := by decide +kernel
theorem dX11_swapped_14 : decode mX11_swapped.2.1 14 = .ok (.iconst 2, 1) := by decide +kernel
theorem dX11_swapped_15 : decode mX11_swapped.2.1 15 = .ok (.if_icmp .le 5, 3) := by decide +kernel
theorem dX11_swapped_18 : decode mX11_swapped.2.1 18 = .ok (.iconst (-1), 1) := by decide +kernel
theorem dX11_swapped_19 : decode mX11_swapped.2.1 19 = .ok (.ireturn, 1) := by decide +kernel
theorem dX11_swapped_20 : decode mX11_swapped.2.1 20 = .ok (.aload_n 0, 1) := by decide +kernel
theorem dX11_swapped_21 : decode mX11_swapped.2.1 21 = .ok (.getfield 55, 3) := by decide +kernel
theorem dX11_swapped_24 : decode mX11_swapped.2.1 24 = .ok (.aload_n 0, 1) := by decide +kernel
theorem dX11_swapped_25 : decode mX11_swapped.2.1 25 = .ok (.getfield 20, 3) := by decide +kernel
theorem dX11_swapped_28 : decode mX11_swapped.2.1 28 = .ok (.getfield 126, 3) := by decide +kernel
theorem dX11_swapped_31 : decode mX11_swapped.2.1 31 = .ok (.iconst 0, 1) := by decide +kernel
theorem dX11_swapped_32 : decode mX11_swapped.2.1 32 = .ok (.iconst (-1), 1) := by decide +kernel
theorem dX11_swapped_33 : decode mX11_swapped.2.1 33 = .ok (.invokevirtual 216, 3) := by decide +kernel
theorem dX11_swapped_36 : decode mX11_swapped.2.1 36 = .ok (.aload_n 0, 1) := by decide +kernel
theorem dX11_swapped_37 : decode mX11_swapped.2.1 37 = .ok (.getfield 48, 3) := by decide +kernel
theorem dX11_swapped_40 : decode mX11_swapped.2.1 40 = .ok (.aload_n 0, 1) := by decide +kernel
theorem dX11_swapped_41 : decode mX11_swapped.2.1 41 = .ok (.getfield 55, 3) := by decide +kernel
theorem dX11_swapped_44 : decode mX11_swapped.2.1 44 = .ok (.aload_n 0, 1) := by decide +kernel
theorem dX11_swapped_45 : decode mX11_swapped.2.1 45 = .ok (.getfield 20, 3) := by decide +kernel
theorem dX11_swapped_48 : decode mX11_swapped.2.1 48 = .ok (.getfield 294, 3) := by decide +kernel
theorem dX11_swapped_51 : decode mX11_swapped.2.1 51 = .ok (.iload_n 1, 1) := by decide +kernel
theorem dX11_swapped_52 : decode mX11_swapped.2.1 52 = .ok (.invokevirtual 312, 3) := by decide +kernel
theorem dX11_swapped_55 : decode mX11_swapped.2.1 55 = .ok (.aload_n 0, 1) := by decide +kernel
theorem dX11_swapped_56 : decode mX11_swapped.2.1 56 = .ok (.getfield 55, 3) := by decide +kernel
theorem dX11_swapped_59 : decode mX11_swapped.2.1 59 = .ok (.invokevirtual 229, 3) := by decide +kernel
theorem dX11_swapped_62 : decode mX11_swapped.2.1 62 = .ok (.iload_n 2, 1) := by decide +kernel
theorem dX11_swapped_63 : decode mX11_swapped.2.1 63 = .ok (.ifCond .ne 13, 3) := by decide +kernel
theorem dX11_swapped_66 : decode mX11_swapped.2.1 66 = .ok (.aload_n 0, 1) := by decide +kernel
theorem dX11_swapped_67 : decode mX11_swapped.2.1 67 = .ok (.getfield 55, 3) := by decide +kernel
theorem dX11_swapped_70 : decode mX11_swapped.2.1 70 = .ok (.invokevirtual 235, 3) := by decide +kernel
theorem dX11_swapped_73 : decode mX11_swapped.2.1 73 = .ok (.goto 25, 3) := by decide +kernel
theorem dX11_swapped_76 : decode mX11_swapped.2.1 76 = .ok (.iload_n 2, 1) := by decide +kernel
theorem dX11_swapped_77 : decode mX11_swapped.2.1 77 = .ok (.iconst 1, 1) := by decide +kernel
theorem dX11_swapped_78 : decode mX11_swapped.2.1 78 = .ok (.if_icmp .ne 13, 3) := by decide +kernel
theorem dX11_swapped_81 : decode mX11_swapped.2.1 81 = .ok (.aload_n 0, 1) := by decide +kernel
theorem dX11_swapped_82 : decode mX11_swapped.2.1 82 = .ok (.getfield 55, 3) := by decide +kernel
theorem dX11_swapped_85 : decode mX11_swapped.2.1 85 = .ok (.invokevirtual 238, 3) := by decide +kernel
theorem dX11_swapped_88 : decode mX11_swapped.2.1 88 = .ok (.goto 10, 3) := by decide +kernel
theorem dX11_swapped_91 : decode mX11_swapped.2.1 91 = .ok (.aload_n 0, 1) := by decide +kernel
theorem dX11_swapped_92 : decode mX11_swapped.2.1 92 = .ok (.getfield 55, 3) := by decide +kernel
theorem dX11_swapped_95 : decode mX11_swapped.2.1 95 = .ok (.getfield 272, 3) := by decide +kernel
theorem dX11_swapped_98 : decode mX11_swapped.2.1 98 = .ok (.ireturn, 1) := by decide +kernel
theorem dX11_clerk_0 : decode mX11_clerk.2.1 0 = .ok (.aload_n 0, 1) := by decide +kernel
theorem dX11_clerk_1 : decode mX11_clerk.2.1 1 = .ok (.getfield 20, 3) := by decide +kernel
theorem dX11_clerk_4 : decode mX11_clerk.2.1 4 = .ok (.iload_n 1, 1) := by decide +kernel
theorem dX11_clerk_5 : decode mX11_clerk.2.1 5 = .ok (.invokevirtual 189, 3) := by decide +kernel
theorem dX11_clerk_8 : decode mX11_clerk.2.1 8 = .ok (.ifCond .eq 17, 3) := by decide +kernel
theorem dX11_clerk_11 : decode mX11_clerk.2.1 11 = .ok (.aload_n 0, 1) := by decide +kernel
theorem dX11_clerk_12 : decode mX11_clerk.2.1 12 = .ok (.getfield 20, 3) := by decide +kernel
theorem dX11_clerk_15 : decode mX11_clerk.2.1 15 = .ok (.getfield 294, 3) := by decide +kernel
theorem dX11_clerk_18 : decode mX11_clerk.2.1 18 = .ok (.iload_n 1, 1) := by decide +kernel
theorem dX11_clerk_19 : decode mX11_clerk.2.1 19 = .ok (.invokestatic 316, 3) := by decide +kernel
theorem dX11_clerk_22 : decode mX11_clerk.2.1 22 = .ok (.goto 4, 3) := by decide +kernel
theorem dX11_clerk_25 : decode mX11_clerk.2.1 25 = .ok (.iconst (-1), 1) := by decide +kernel
theorem dX11_clerk_26 : decode mX11_clerk.2.1 26 = .ok (.ireturn, 1) := by decide +kernel
theorem dX11_weights_0 : decode mX11_weights.2.1 0 = .ok (.aload_n 0, 1) := by decide +kernel
theorem dX11_weights_1 : decode mX11_weights.2.1 1 = .ok (.getfield 90, 3) := by decide +kernel
theorem dX11_weights_4 : decode mX11_weights.2.1 4 = .ok (.invokevirtual 119, 3) := by decide +kernel
theorem dX11_weights_7 : decode mX11_weights.2.1 7 = .ok (.aload_n 0, 1) := by decide +kernel
theorem dX11_weights_8 : decode mX11_weights.2.1 8 = .ok (.getfield 83, 3) := by decide +kernel
theorem dX11_weights_11 : decode mX11_weights.2.1 11 = .ok (.aload_n 0, 1) := by decide +kernel
theorem dX11_weights_12 : decode mX11_weights.2.1 12 = .ok (.getfield 20, 3) := by decide +kernel
theorem dX11_weights_15 : decode mX11_weights.2.1 15 = .ok (.aload_n 0, 1) := by decide +kernel
theorem dX11_weights_16 : decode mX11_weights.2.1 16 = .ok (.getfield 37, 3) := by decide +kernel
theorem dX11_weights_19 : decode mX11_weights.2.1 19 = .ok (.iload_n 1, 1) := by decide +kernel
theorem dX11_weights_20 : decode mX11_weights.2.1 20 = .ok (.invokevirtual 322, 3) := by decide +kernel
theorem dX11_weights_23 : decode mX11_weights.2.1 23 = .ok (.aload_n 0, 1) := by decide +kernel
theorem dX11_weights_24 : decode mX11_weights.2.1 24 = .ok (.getfield 83, 3) := by decide +kernel
theorem dX11_weights_27 : decode mX11_weights.2.1 27 = .ok (.invokevirtual 326, 3) := by decide +kernel
theorem dX11_weights_30 : decode mX11_weights.2.1 30 = .ok (.iconst 0, 1) := by decide +kernel
theorem dX11_weights_31 : decode mX11_weights.2.1 31 = .ok (.istore_n 2, 1) := by decide +kernel
theorem dX11_weights_32 : decode mX11_weights.2.1 32 = .ok (.aload_n 0, 1) := by decide +kernel
theorem dX11_weights_33 : decode mX11_weights.2.1 33 = .ok (.getfield 83, 3) := by decide +kernel
theorem dX11_weights_36 : decode mX11_weights.2.1 36 = .ok (.getfield 329, 3) := by decide +kernel
theorem dX11_weights_39 : decode mX11_weights.2.1 39 = .ok (.ifCond .le 35, 3) := by decide +kernel
theorem dX11_weights_42 : decode mX11_weights.2.1 42 = .ok (.iload_n 2, 1) := by decide +kernel
theorem dX11_weights_43 : decode mX11_weights.2.1 43 = .ok (.aload_n 0, 1) := by decide +kernel
theorem dX11_weights_44 : decode mX11_weights.2.1 44 = .ok (.getfield 20, 3) := by decide +kernel
theorem dX11_weights_47 : decode mX11_weights.2.1 47 = .ok (.getfield 126, 3) := by decide +kernel
theorem dX11_weights_50 : decode mX11_weights.2.1 50 = .ok (.if_icmp .ge 24, 3) := by decide +kernel
theorem dX11_weights_53 : decode mX11_weights.2.1 53 = .ok (.aload_n 0, 1) := by decide +kernel
theorem dX11_weights_54 : decode mX11_weights.2.1 54 = .ok (.getfield 90, 3) := by decide +kernel
theorem dX11_weights_57 : decode mX11_weights.2.1 57 = .ok (.aload_n 0, 1) := by decide +kernel
theorem dX11_weights_58 : decode mX11_weights.2.1 58 = .ok (.getfield 83, 3) := by decide +kernel
theorem dX11_weights_61 : decode mX11_weights.2.1 61 = .ok (.iload_n 2, 1) := by decide +kernel
theorem dX11_weights_62 : decode mX11_weights.2.1 62 = .ok (.invokevirtual 330, 3) := by decide +kernel
theorem dX11_weights_65 : decode mX11_weights.2.1 65 = .ok (.invokevirtual 179, 3) := by decide +kernel
theorem dX11_weights_68 : decode mX11_weights.2.1 68 = .ok (.iinc 2 1, 3) := by decide +kernel
theorem dX11_weights_71 : decode mX11_weights.2.1 71 = .ok (.goto (-39), 3) := by decide +kernel
theorem dX11_weights_74 : decode mX11_weights.2.1 74 = .ok (.aload_n 0, 1) := by decide +kernel
theorem dX11_weights_75 : decode mX11_weights.2.1 75 = .ok (.getfield 83, 3) := by decide +kernel
theorem dX11_weights_78 : decode mX11_weights.2.1 78 = .ok (.getfield 329, 3) := by decide +kernel
theorem dX11_weights_81 : decode mX11_weights.2.1 81 = .ok (.ireturn, 1) := by decide +kernel
theorem dX11_weight_0 : decode mX11_weight.2.1 0 = .ok (.aload_n 0, 1) := by decide +kernel
theorem dX11_weight_1 : decode mX11_weight.2.1 1 = .ok (.getfield 20, 3) := by decide +kernel
theorem dX11_weight_4 : decode mX11_weight.2.1 4 = .ok (.iload_n 1, 1) := by decide +kernel
theorem dX11_weight_5 : decode mX11_weight.2.1 5 = .ok (.invokevirtual 189, 3) := by decide +kernel
theorem dX11_weight_8 : decode mX11_weight.2.1 8 = .ok (.ifCond .ne 5, 3) := by decide +kernel
theorem dX11_weight_11 : decode mX11_weight.2.1 11 = .ok (.iconst (-1), 1) := by decide +kernel
theorem dX11_weight_12 : decode mX11_weight.2.1 12 = .ok (.ireturn, 1) := by decide +kernel
theorem dX11_weight_13 : decode mX11_weight.2.1 13 = .ok (.aload_n 0, 1) := by decide +kernel
theorem dX11_weight_14 : decode mX11_weight.2.1 14 = .ok (.getfield 83, 3) := by decide +kernel
theorem dX11_weight_17 : decode mX11_weight.2.1 17 = .ok (.aload_n 0, 1) := by decide +kernel
theorem dX11_weight_18 : decode mX11_weight.2.1 18 = .ok (.getfield 20, 3) := by decide +kernel
theorem dX11_weight_21 : decode mX11_weight.2.1 21 = .ok (.aload_n 0, 1) := by decide +kernel
theorem dX11_weight_22 : decode mX11_weight.2.1 22 = .ok (.getfield 37, 3) := by decide +kernel
theorem dX11_weight_25 : decode mX11_weight.2.1 25 = .ok (.iload_n 3, 1) := by decide +kernel
theorem dX11_weight_26 : decode mX11_weight.2.1 26 = .ok (.invokevirtual 322, 3) := by decide +kernel
theorem dX11_weight_29 : decode mX11_weight.2.1 29 = .ok (.aload_n 0, 1) := by decide +kernel
theorem dX11_weight_30 : decode mX11_weight.2.1 30 = .ok (.getfield 83, 3) := by decide +kernel
theorem dX11_weight_33 : decode mX11_weight.2.1 33 = .ok (.invokevirtual 326, 3) := by decide +kernel
theorem dX11_weight_36 : decode mX11_weight.2.1 36 = .ok (.aload_n 0, 1) := by decide +kernel
theorem dX11_weight_37 : decode mX11_weight.2.1 37 = .ok (.getfield 83, 3) := by decide +kernel
theorem dX11_weight_40 : decode mX11_weight.2.1 40 = .ok (.getfield 329, 3) := by decide +kernel
theorem dX11_weight_43 : decode mX11_weight.2.1 43 = .ok (.ifCond .ne 7, 3) := by decide +kernel
theorem dX11_weight_46 : decode mX11_weight.2.1 46 = .ok (.iconst (-1), 1) := by decide +kernel
theorem dX11_weight_47 : decode mX11_weight.2.1 47 = .ok (.goto 12, 3) := by decide +kernel
theorem dX11_weight_50 : decode mX11_weight.2.1 50 = .ok (.aload_n 0, 1) := by decide +kernel
theorem dX11_weight_51 : decode mX11_weight.2.1 51 = .ok (.getfield 83, 3) := by decide +kernel
theorem dX11_weight_54 : decode mX11_weight.2.1 54 = .ok (.iload_n 1, 1) := by decide +kernel
theorem dX11_weight_55 : decode mX11_weight.2.1 55 = .ok (.iload_n 2, 1) := by decide +kernel
theorem dX11_weight_56 : decode mX11_weight.2.1 56 = .ok (.invokevirtual 333, 3) := by decide +kernel
theorem dX11_weight_59 : decode mX11_weight.2.1 59 = .ok (.ireturn, 1) := by decide +kernel
theorem dX11_could_0 : decode mX11_could.2.1 0 = .ok (.aload_n 0, 1) := by decide +kernel
theorem dX11_could_1 : decode mX11_could.2.1 1 = .ok (.getfield 20, 3) := by decide +kernel
theorem dX11_could_4 : decode mX11_could.2.1 4 = .ok (.iload_n 1, 1) := by decide +kernel
theorem dX11_could_5 : decode mX11_could.2.1 5 = .ok (.iload_n 2, 1) := by decide +kernel
theorem dX11_could_6 : decode mX11_could.2.1 6 = .ok (.invokevirtual 129, 3) := by decide +kernel
theorem dX11_could_9 : decode mX11_could.2.1 9 = .ok (.ifCond .ne 5, 3) := by decide +kernel
theorem dX11_could_12 : decode mX11_could.2.1 12 = .ok (.iconst (-1), 1) := by decide +kernel
theorem dX11_could_13 : decode mX11_could.2.1 13 = .ok (.ireturn, 1) := by decide +kernel
theorem dX11_could_14 : decode mX11_could.2.1 14 = .ok (.aload_n 0, 1) := by decide +kernel
theorem dX11_could_15 : decode mX11_could.2.1 15 = .ok (.getfield 83, 3) := by decide +kernel
theorem dX11_could_18 : decode mX11_could.2.1 18 = .ok (.aload_n 0, 1) := by decide +kernel
theorem dX11_could_19 : decode mX11_could.2.1 19 = .ok (.getfield 20, 3) := by decide +kernel
theorem dX11_could_22 : decode mX11_could.2.1 22 = .ok (.aload_n 0, 1) := by decide +kernel
theorem dX11_could_23 : decode mX11_could.2.1 23 = .ok (.getfield 37, 3) := by decide +kernel
theorem dX11_could_26 : decode mX11_could.2.1 26 = .ok (.iload_n 3, 1) := by decide +kernel
theorem dX11_could_27 : decode mX11_could.2.1 27 = .ok (.invokevirtual 322, 3) := by decide +kernel
theorem dX11_could_30 : decode mX11_could.2.1 30 = .ok (.aload_n 0, 1) := by decide +kernel
theorem dX11_could_31 : decode mX11_could.2.1 31 = .ok (.getfield 83, 3) := by decide +kernel
theorem dX11_could_34 : decode mX11_could.2.1 34 = .ok (.iload_n 1, 1) := by decide +kernel
theorem dX11_could_35 : decode mX11_could.2.1 35 = .ok (.iload_n 2, 1) := by decide +kernel
theorem dX11_could_36 : decode mX11_could.2.1 36 = .ok (.invokevirtual 336, 3) := by decide +kernel
theorem dX11_could_39 : decode mX11_could.2.1 39 = .ok (.ireturn, 1) := by decide +kernel
theorem dX11_stones_0 : decode mX11_stones.2.1 0 = .ok (.aload_n 0, 1) := by decide +kernel
theorem dX11_stones_1 : decode mX11_stones.2.1 1 = .ok (.getfield 90, 3) := by decide +kernel
theorem dX11_stones_4 : decode mX11_stones.2.1 4 = .ok (.invokevirtual 119, 3) := by decide +kernel
theorem dX11_stones_7 : decode mX11_stones.2.1 7 = .ok (.iload_n 1, 1) := by decide +kernel
theorem dX11_stones_8 : decode mX11_stones.2.1 8 = .ok (.iconst 1, 1) := by decide +kernel
theorem dX11_stones_9 : decode mX11_stones.2.1 9 = .ok (.if_icmp .lt 9, 3) := by decide +kernel
theorem dX11_stones_12 : decode mX11_stones.2.1 12 = .ok (.iload_n 1, 1) := by decide +kernel
theorem dX11_stones_13 : decode mX11_stones.2.1 13 = .ok (.bipush 40, 2) := by decide +kernel
theorem dX11_stones_15 : decode mX11_stones.2.1 15 = .ok (.if_icmp .le 5, 3) := by decide +kernel
theorem dX11_stones_18 : decode mX11_stones.2.1 18 = .ok (.iconst (-1), 1) := by decide +kernel
theorem dX11_stones_19 : decode mX11_stones.2.1 19 = .ok (.ireturn, 1) := by decide +kernel
theorem dX11_stones_20 : decode mX11_stones.2.1 20 = .ok (.aload_n 0, 1) := by decide +kernel
theorem dX11_stones_21 : decode mX11_stones.2.1 21 = .ok (.getfield 90, 3) := by decide +kernel
theorem dX11_stones_24 : decode mX11_stones.2.1 24 = .ok (.iload_n 1, 1) := by decide +kernel
theorem dX11_stones_25 : decode mX11_stones.2.1 25 = .ok (.iload_n 2, 1) := by decide +kernel
theorem dX11_stones_26 : decode mX11_stones.2.1 26 = .ok (.invokevirtual 339, 3) := by decide +kernel
theorem dX11_stones_29 : decode mX11_stones.2.1 29 = .ok (.aload_n 0, 1) := by decide +kernel
theorem dX11_stones_30 : decode mX11_stones.2.1 30 = .ok (.getfield 90, 3) := by decide +kernel
theorem dX11_stones_33 : decode mX11_stones.2.1 33 = .ok (.getfield 287, 3) := by decide +kernel
theorem dX11_stones_36 : decode mX11_stones.2.1 36 = .ok (.ireturn, 1) := by decide +kernel
theorem dX11_heaps_0 : decode mX11_heaps.2.1 0 = .ok (.iload_n 1, 1) := by decide +kernel
theorem dX11_heaps_1 : decode mX11_heaps.2.1 1 = .ok (.ifCond .lt 19, 3) := by decide +kernel
theorem dX11_heaps_4 : decode mX11_heaps.2.1 4 = .ok (.iload_n 1, 1) := by decide +kernel
theorem dX11_heaps_5 : decode mX11_heaps.2.1 5 = .ok (.iconst 2, 1) := by decide +kernel
theorem dX11_heaps_6 : decode mX11_heaps.2.1 6 = .ok (.if_icmp .gt 14, 3) := by decide +kernel
theorem dX11_heaps_9 : decode mX11_heaps.2.1 9 = .ok (.aload_n 0, 1) := by decide +kernel
theorem dX11_heaps_10 : decode mX11_heaps.2.1 10 = .ok (.getfield 20, 3) := by decide +kernel
theorem dX11_heaps_13 : decode mX11_heaps.2.1 13 = .ok (.getfield 126, 3) := by decide +kernel
theorem dX11_heaps_16 : decode mX11_heaps.2.1 16 = .ok (.iconst 2, 1) := by decide +kernel
theorem dX11_heaps_17 : decode mX11_heaps.2.1 17 = .ok (.if_icmp .ge 5, 3) := by decide +kernel
theorem dX11_heaps_20 : decode mX11_heaps.2.1 20 = .ok (.iconst (-1), 1) := by decide +kernel
theorem dX11_heaps_21 : decode mX11_heaps.2.1 21 = .ok (.ireturn, 1) := by decide +kernel
theorem dX11_heaps_22 : decode mX11_heaps.2.1 22 = .ok (.aload_n 0, 1) := by decide +kernel
theorem dX11_heaps_23 : decode mX11_heaps.2.1 23 = .ok (.getfield 83, 3) := by decide +kernel
theorem dX11_heaps_26 : decode mX11_heaps.2.1 26 = .ok (.aload_n 0, 1) := by decide +kernel
theorem dX11_heaps_27 : decode mX11_heaps.2.1 27 = .ok (.getfield 20, 3) := by decide +kernel
theorem dX11_heaps_30 : decode mX11_heaps.2.1 30 = .ok (.aload_n 0, 1) := by decide +kernel
theorem dX11_heaps_31 : decode mX11_heaps.2.1 31 = .ok (.getfield 37, 3) := by decide +kernel
theorem dX11_heaps_34 : decode mX11_heaps.2.1 34 = .ok (.iload_n 2, 1) := by decide +kernel
theorem dX11_heaps_35 : decode mX11_heaps.2.1 35 = .ok (.invokevirtual 322, 3) := by decide +kernel
theorem dX11_heaps_38 : decode mX11_heaps.2.1 38 = .ok (.aload_n 0, 1) := by decide +kernel
theorem dX11_heaps_39 : decode mX11_heaps.2.1 39 = .ok (.getfield 83, 3) := by decide +kernel
theorem dX11_heaps_42 : decode mX11_heaps.2.1 42 = .ok (.iload_n 1, 1) := by decide +kernel
theorem dX11_heaps_43 : decode mX11_heaps.2.1 43 = .ok (.invokevirtual 343, 3) := by decide +kernel
theorem dX11_heaps_46 : decode mX11_heaps.2.1 46 = .ok (.ireturn, 1) := by decide +kernel
theorem dX11_lies_0 : decode mX11_lies.2.1 0 = .ok (.iload_n 1, 1) := by decide +kernel
theorem dX11_lies_1 : decode mX11_lies.2.1 1 = .ok (.ifCond .lt 28, 3) := by decide +kernel
theorem dX11_lies_4 : decode mX11_lies.2.1 4 = .ok (.iload_n 1, 1) := by decide +kernel
theorem dX11_lies_5 : decode mX11_lies.2.1 5 = .ok (.aload_n 0, 1) := by decide +kernel
theorem dX11_lies_6 : decode mX11_lies.2.1 6 = .ok (.getfield 90, 3) := by decide +kernel
theorem dX11_lies_9 : decode mX11_lies.2.1 9 = .ok (.getfield 287, 3) := by decide +kernel
theorem dX11_lies_12 : decode mX11_lies.2.1 12 = .ok (.if_icmp .ge 17, 3) := by decide +kernel
theorem dX11_lies_15 : decode mX11_lies.2.1 15 = .ok (.aload_n 0, 1) := by decide +kernel
theorem dX11_lies_16 : decode mX11_lies.2.1 16 = .ok (.getfield 90, 3) := by decide +kernel
theorem dX11_lies_19 : decode mX11_lies.2.1 19 = .ok (.getfield 346, 3) := by decide +kernel
theorem dX11_lies_22 : decode mX11_lies.2.1 22 = .ok (.iload_n 1, 1) := by decide +kernel
theorem dX11_lies_23 : decode mX11_lies.2.1 23 = .ok (.invokestatic 316, 3) := by decide +kernel
theorem dX11_lies_26 : decode mX11_lies.2.1 26 = .ok (.goto 4, 3) := by decide +kernel
theorem dX11_lies_29 : decode mX11_lies.2.1 29 = .ok (.iconst (-1), 1) := by decide +kernel
theorem dX11_lies_30 : decode mX11_lies.2.1 30 = .ok (.ireturn, 1) := by decide +kernel
theorem dX11_image_0 : decode mX11_image.2.1 0 = .ok (.iload_n 1, 1) := by decide +kernel
theorem dX11_image_1 : decode mX11_image.2.1 1 = .ok (.ifCond .lt 12, 3) := by decide +kernel
theorem dX11_image_4 : decode mX11_image.2.1 4 = .ok (.iload_n 1, 1) := by decide +kernel
theorem dX11_image_5 : decode mX11_image.2.1 5 = .ok (.aload_n 0, 1) := by decide +kernel
theorem dX11_image_6 : decode mX11_image.2.1 6 = .ok (.getfield 41, 3) := by decide +kernel
theorem dX11_image_9 : decode mX11_image.2.1 9 = .ok (.arraylength, 1) := by decide +kernel
theorem dX11_image_10 : decode mX11_image.2.1 10 = .ok (.if_icmp .lt 5, 3) := by decide +kernel
theorem dX11_image_13 : decode mX11_image.2.1 13 = .ok (.iconst (-1), 1) := by decide +kernel
theorem dX11_image_14 : decode mX11_image.2.1 14 = .ok (.ireturn, 1) := by decide +kernel
theorem dX11_image_15 : decode mX11_image.2.1 15 = .ok (.aload_n 0, 1) := by decide +kernel
theorem dX11_image_16 : decode mX11_image.2.1 16 = .ok (.getfield 41, 3) := by decide +kernel
theorem dX11_image_19 : decode mX11_image.2.1 19 = .ok (.iload_n 1, 1) := by decide +kernel
theorem dX11_image_20 : decode mX11_image.2.1 20 = .ok (.aaload, 1) := by decide +kernel
theorem dX11_image_21 : decode mX11_image.2.1 21 = .ok (.aload_n 0, 1) := by decide +kernel
theorem dX11_image_22 : decode mX11_image.2.1 22 = .ok (.getfield 37, 3) := by decide +kernel
theorem dX11_image_25 : decode mX11_image.2.1 25 = .ok (.invokevirtual 349, 3) := by decide +kernel
theorem dX11_image_28 : decode mX11_image.2.1 28 = .ok (.aload_n 0, 1) := by decide +kernel
theorem dX11_image_29 : decode mX11_image.2.1 29 = .ok (.getfield 41, 3) := by decide +kernel
theorem dX11_image_32 : decode mX11_image.2.1 32 = .ok (.iload_n 1, 1) := by decide +kernel
theorem dX11_image_33 : decode mX11_image.2.1 33 = .ok (.aaload, 1) := by decide +kernel
theorem dX11_image_34 : decode mX11_image.2.1 34 = .ok (.iconst 1, 1) := by decide +kernel
theorem dX11_image_35 : decode mX11_image.2.1 35 = .ok (.putfield 122, 3) := by decide +kernel
theorem dX11_image_38 : decode mX11_image.2.1 38 = .ok (.aload_n 0, 1) := by decide +kernel
theorem dX11_image_39 : decode mX11_image.2.1 39 = .ok (.getfield 37, 3) := by decide +kernel
theorem dX11_image_42 : decode mX11_image.2.1 42 = .ok (.getfield 353, 3) := by decide +kernel
theorem dX11_image_45 : decode mX11_image.2.1 45 = .ok (.ireturn, 1) := by decide +kernel
theorem dX11_back_0 : decode mX11_back.2.1 0 = .ok (.iload_n 1, 1) := by decide +kernel
theorem dX11_back_1 : decode mX11_back.2.1 1 = .ok (.ifCond .lt 24, 3) := by decide +kernel
theorem dX11_back_4 : decode mX11_back.2.1 4 = .ok (.iload_n 1, 1) := by decide +kernel
theorem dX11_back_5 : decode mX11_back.2.1 5 = .ok (.aload_n 0, 1) := by decide +kernel
theorem dX11_back_6 : decode mX11_back.2.1 6 = .ok (.getfield 41, 3) := by decide +kernel
theorem dX11_back_9 : decode mX11_back.2.1 9 = .ok (.arraylength, 1) := by decide +kernel
theorem dX11_back_10 : decode mX11_back.2.1 10 = .ok (.if_icmp .ge 15, 3) := by decide +kernel
theorem dX11_back_13 : decode mX11_back.2.1 13 = .ok (.aload_n 0, 1) := by decide +kernel
theorem dX11_back_14 : decode mX11_back.2.1 14 = .ok (.getfield 41, 3) := by decide +kernel
theorem dX11_back_17 : decode mX11_back.2.1 17 = .ok (.iload_n 1, 1) := by decide +kernel
theorem dX11_back_18 : decode mX11_back.2.1 18 = .ok (.aaload, 1) := by decide +kernel
theorem dX11_back_19 : decode mX11_back.2.1 19 = .ok (.getfield 122, 3) := by decide +kernel
theorem dX11_back_22 : decode mX11_back.2.1 22 = .ok (.ifCond .ne 5, 3) := by decide +kernel
theorem dX11_back_25 : decode mX11_back.2.1 25 = .ok (.iconst (-1), 1) := by decide +kernel
theorem dX11_back_26 : decode mX11_back.2.1 26 = .ok (.ireturn, 1) := by decide +kernel
theorem dX11_back_27 : decode mX11_back.2.1 27 = .ok (.aload_n 0, 1) := by decide +kernel
theorem dX11_back_28 : decode mX11_back.2.1 28 = .ok (.getfield 37, 3) := by decide +kernel
theorem dX11_back_31 : decode mX11_back.2.1 31 = .ok (.aload_n 0, 1) := by decide +kernel
theorem dX11_back_32 : decode mX11_back.2.1 32 = .ok (.getfield 41, 3) := by decide +kernel
theorem dX11_back_35 : decode mX11_back.2.1 35 = .ok (.iload_n 1, 1) := by decide +kernel
theorem dX11_back_36 : decode mX11_back.2.1 36 = .ok (.aaload, 1) := by decide +kernel
theorem dX11_back_37 : decode mX11_back.2.1 37 = .ok (.invokevirtual 349, 3) := by decide +kernel
theorem dX11_back_40 : decode mX11_back.2.1 40 = .ok (.aload_n 0, 1) := by decide +kernel
theorem dX11_back_41 : decode mX11_back.2.1 41 = .ok (.getfield 37, 3) := by decide +kernel
theorem dX11_back_44 : decode mX11_back.2.1 44 = .ok (.getfield 353, 3) := by decide +kernel
theorem dX11_back_47 : decode mX11_back.2.1 47 = .ok (.ireturn, 1) := by decide +kernel
theorem dX11_about_0 : decode mX11_about.2.1 0 = .ok (.iload_n 1, 1) := by decide +kernel
theorem dX11_about_1 : decode mX11_about.2.1 1 = .ok (.tableswitch 140 0 9 #[55, 63, 79, 87, 95, 103, 108, 116, 124, 132], 55) := by decide +kernel
theorem dX11_about_56 : decode mX11_about.2.1 56 = .ok (.aload_n 0, 1) := by decide +kernel
theorem dX11_about_57 : decode mX11_about.2.1 57 = .ok (.getfield 20, 3) := by decide +kernel
theorem dX11_about_60 : decode mX11_about.2.1 60 = .ok (.getfield 126, 3) := by decide +kernel
theorem dX11_about_63 : decode mX11_about.2.1 63 = .ok (.ireturn, 1) := by decide +kernel
theorem dX11_about_64 : decode mX11_about.2.1 64 = .ok (.aload_n 0, 1) := by decide +kernel
theorem dX11_about_65 : decode mX11_about.2.1 65 = .ok (.getfield 20, 3) := by decide +kernel
theorem dX11_about_68 : decode mX11_about.2.1 68 = .ok (.getfield 213, 3) := by decide +kernel
theorem dX11_about_71 : decode mX11_about.2.1 71 = .ok (.ifCond .eq 7, 3) := by decide +kernel
theorem dX11_about_74 : decode mX11_about.2.1 74 = .ok (.iconst 1, 1) := by decide +kernel
theorem dX11_about_75 : decode mX11_about.2.1 75 = .ok (.goto 4, 3) := by decide +kernel
theorem dX11_about_78 : decode mX11_about.2.1 78 = .ok (.iconst 0, 1) := by decide +kernel
theorem dX11_about_79 : decode mX11_about.2.1 79 = .ok (.ireturn, 1) := by decide +kernel
theorem dX11_about_80 : decode mX11_about.2.1 80 = .ok (.aload_n 0, 1) := by decide +kernel
theorem dX11_about_81 : decode mX11_about.2.1 81 = .ok (.getfield 20, 3) := by decide +kernel
theorem dX11_about_84 : decode mX11_about.2.1 84 = .ok (.getfield 356, 3) := by decide +kernel
theorem dX11_about_87 : decode mX11_about.2.1 87 = .ok (.ireturn, 1) := by decide +kernel
theorem dX11_about_88 : decode mX11_about.2.1 88 = .ok (.aload_n 0, 1) := by decide +kernel
theorem dX11_about_89 : decode mX11_about.2.1 89 = .ok (.getfield 37, 3) := by decide +kernel
theorem dX11_about_92 : decode mX11_about.2.1 92 = .ok (.getfield 353, 3) := by decide +kernel
theorem dX11_about_95 : decode mX11_about.2.1 95 = .ok (.ireturn, 1) := by decide +kernel
theorem dX11_about_96 : decode mX11_about.2.1 96 = .ok (.aload_n 0, 1) := by decide +kernel
theorem dX11_about_97 : decode mX11_about.2.1 97 = .ok (.getfield 37, 3) := by decide +kernel
theorem dX11_about_100 : decode mX11_about.2.1 100 = .ok (.getfield 359, 3) := by decide +kernel
theorem dX11_about_103 : decode mX11_about.2.1 103 = .ok (.ireturn, 1) := by decide +kernel
theorem dX11_about_104 : decode mX11_about.2.1 104 = .ok (.aload_n 0, 1) := by decide +kernel
theorem dX11_about_105 : decode mX11_about.2.1 105 = .ok (.getfield 98, 3) := by decide +kernel
theorem dX11_about_108 : decode mX11_about.2.1 108 = .ok (.ireturn, 1) := by decide +kernel
theorem dX11_about_109 : decode mX11_about.2.1 109 = .ok (.aload_n 0, 1) := by decide +kernel
theorem dX11_about_110 : decode mX11_about.2.1 110 = .ok (.getfield 90, 3) := by decide +kernel
theorem dX11_about_113 : decode mX11_about.2.1 113 = .ok (.getfield 287, 3) := by decide +kernel
theorem dX11_about_116 : decode mX11_about.2.1 116 = .ok (.ireturn, 1) := by decide +kernel
theorem dX11_about_117 : decode mX11_about.2.1 117 = .ok (.aload_n 0, 1) := by decide +kernel
theorem dX11_about_118 : decode mX11_about.2.1 118 = .ok (.getfield 20, 3) := by decide +kernel
theorem dX11_about_121 : decode mX11_about.2.1 121 = .ok (.getfield 254, 3) := by decide +kernel
theorem dX11_about_124 : decode mX11_about.2.1 124 = .ok (.ireturn, 1) := by decide +kernel
theorem dX11_about_125 : decode mX11_about.2.1 125 = .ok (.aload_n 0, 1) := by decide +kernel
theorem dX11_about_126 : decode mX11_about.2.1 126 = .ok (.getfield 20, 3) := by decide +kernel
theorem dX11_about_129 : decode mX11_about.2.1 129 = .ok (.getfield 362, 3) := by decide +kernel
theorem dX11_about_132 : decode mX11_about.2.1 132 = .ok (.ireturn, 1) := by decide +kernel
theorem dX11_about_133 : decode mX11_about.2.1 133 = .ok (.aload_n 0, 1) := by decide +kernel
theorem dX11_about_134 : decode mX11_about.2.1 134 = .ok (.getfield 37, 3) := by decide +kernel
theorem dX11_about_137 : decode mX11_about.2.1 137 = .ok (.getfield 365, 3) := by decide +kernel
theorem dX11_about_140 : decode mX11_about.2.1 140 = .ok (.ireturn, 1) := by decide +kernel
theorem dX11_about_141 : decode mX11_about.2.1 141 = .ok (.iconst (-1), 1) := by decide +kernel
theorem dX11_about_142 : decode mX11_about.2.1 142 = .ok (.ireturn, 1) := by decide +kernel
theorem bX11_feed_0 {d : Nat} {g : xSt} {r : Option Value × xSt} {a1 a2 a3 a4 a5 : Int32} (W : xWf g) (k1 : ((xI g 0 1) + 20) ≤ 1200 → xX (d + 1) mX11_feed 15 [some (.ref 0), some (.int a1), some (.int a2), some (.int a3), some (.int a4), some (.int a5)] [] g = some r) (k2 : ¬ (((xI g 0 1) + 20) ≤ 1200) → xX (d + 1) mX11_feed 13 [none, none, none, none, none, none] [] g = some r) : xX (d + 1) mX11_feed 0 [some (.ref 0), some (.int a1), some (.int a2), some (.int a3), some (.int a4), some (.int a5)] [] g = some r :=
  Y_aload_n dX11_feed_0 rfl <| Y_getI dX11_feed_1 f_10_98 ft_10_1 (xis W 0 10 s_0 (Nat.le_of_ble_eq_true rfl)) <| Y_bipush 20 dX11_feed_4 bp_20 <| Y_iadd dX11_feed_6 <| Y_sipush 1200 dX11_feed_7 sp_1200 <| Y_le 15 dX11_feed_10 rfl (fun q => X_le (xle_s (xle_s (xle_s (xle_s (xle_s (xle_s xle_0)))))) (k1 q)) (fun q => X_le (xle_n (xle_n (xle_n (xle_n (xle_n (xle_n xle_0)))))) (k2 q))
theorem bX11_feed_13 {d : Nat} {g : xSt} {r : Option Value × xSt}  (k : r = (some (.int (-1)), g)) : xX (d + 1) mX11_feed 13 [none, none, none, none, none, none] [] g = some r :=
  Y_iconst (-1) dX11_feed_13 ic_m1 <| Y_iret dX11_feed_14 rfl k
theorem bX11_feed_15 {d : Nat} {g : xSt} {r : Option Value × xSt} {a1 a2 a3 a4 a5 : Int32} {g17 g22 g27 g33 g39 : xSt} (W : xWf g) (hk17 : xCallM d mX11_putBytes [.ref 0, .int a1] g = some (none, g17)) (W17 : xWf g17) (hk22 : xCallM d mX11_putBytes [.ref 0, .int a2] g17 = some (none, g22)) (W22 : xWf g22) (hk27 : xCallM d mX11_putBytes [.ref 0, .int a3] g22 = some (none, g27)) (W27 : xWf g27) (hk33 : xCallM d mX11_putBytes [.ref 0, .int a4] g27 = some (none, g33)) (W33 : xWf g33) (hk39 : xCallM d mX11_putBytes [.ref 0, .int a5] g33 = some (none, g39)) (W39 : xWf g39) (k : r = (some (.int (xI g39 0 1)), g39)) : xX (d + 1) mX11_feed 15 [some (.ref 0), some (.int a1), some (.int a2), some (.int a3), some (.int a4), some (.int a5)] [] g = some r :=
  Y_aload_n dX11_feed_15 rfl <| Y_iload_n dX11_feed_16 rfl <| Y_callV0 dX11_feed_17 cl_10_101 rfl rfl (xis W 0 10 s_0 (Nat.le_of_ble_eq_true rfl)) rfl rfl rfl (hk17) <| Y_aload_n dX11_feed_20 rfl <| Y_iload_n dX11_feed_21 rfl <| Y_callV0 dX11_feed_22 cl_10_101 rfl rfl (xis W17 0 10 s_0 (Nat.le_of_ble_eq_true rfl)) rfl rfl rfl (hk22) <| Y_aload_n dX11_feed_25 rfl <| Y_iload_n dX11_feed_26 rfl <| Y_callV0 dX11_feed_27 cl_10_101 rfl rfl (xis W22 0 10 s_0 (Nat.le_of_ble_eq_true rfl)) rfl rfl rfl (hk27) <| Y_aload_n dX11_feed_30 rfl <| Y_iload dX11_feed_31 rfl <| Y_callV0 dX11_feed_33 cl_10_101 rfl rfl (xis W27 0 10 s_0 (Nat.le_of_ble_eq_true rfl)) rfl rfl rfl (hk33) <| Y_aload_n dX11_feed_36 rfl <| Y_iload dX11_feed_37 rfl <| Y_callV0 dX11_feed_39 cl_10_101 rfl rfl (xis W33 0 10 s_0 (Nat.le_of_ble_eq_true rfl)) rfl rfl rfl (hk39) <| Y_aload_n dX11_feed_42 rfl <| Y_getI dX11_feed_43 f_10_98 ft_10_1 (xis W39 0 10 s_0 (Nat.le_of_ble_eq_true rfl)) <| Y_iret dX11_feed_46 rfl k
theorem bX11_putBytes_0 {d : Nat} {g : xSt} {r : Option Value × xSt} {a1 : Int32} (k : xX d mX11_putBytes 3 [some (.ref 0), some (.int a1), some (.int 24)] [] g = some r) : xX d mX11_putBytes 0 [some (.ref 0), some (.int a1), none] [] g = some r :=
  Y_bipush 24 dX11_putBytes_0 bp_24 <| Y_istore_n dX11_putBytes_2 rfl rfl <| X_le (xle_s (xle_s (xle_s xle_0))) k
theorem bX11_putBytes_3 {d : Nat} {g : xSt} {r : Option Value × xSt} {a1 a2 : Int32} (k1 : a2 < 0 → xX d mX11_putBytes 55 [none, none, none] [] g = some r) (k2 : ¬ (a2 < 0) → xX d mX11_putBytes 7 [some (.ref 0), some (.int a1), some (.int a2)] [] g = some r) : xX d mX11_putBytes 3 [some (.ref 0), some (.int a1), some (.int a2)] [] g = some r :=
  Y_iload_n dX11_putBytes_3 rfl <| Y_lt0 55 dX11_putBytes_4 rfl (fun q => X_le (xle_n (xle_n (xle_n xle_0))) (k1 q)) (fun q => X_le (xle_s (xle_s (xle_s xle_0))) (k2 q))
theorem bX11_putBytes_7 {d : Nat} {g : xSt} {r : Option Value × xSt} {a1 a2 : Int32} (W : xWf g) (k1 : (xI g 0 1) < 0 → xX d mX11_putBytes 49 [some (.ref 0), some (.int a1), some (.int a2)] [] g = some r) (k2 : ¬ ((xI g 0 1) < 0) → xX d mX11_putBytes 14 [some (.ref 0), some (.int a1), some (.int a2)] [] g = some r) : xX d mX11_putBytes 7 [some (.ref 0), some (.int a1), some (.int a2)] [] g = some r :=
  Y_aload_n dX11_putBytes_7 rfl <| Y_getI dX11_putBytes_8 f_10_98 ft_10_1 (xis W 0 10 s_0 (Nat.le_of_ble_eq_true rfl)) <| Y_lt0 49 dX11_putBytes_11 rfl (fun q => X_le (xle_s (xle_s (xle_s xle_0))) (k1 q)) (fun q => X_le (xle_s (xle_s (xle_s xle_0))) (k2 q))
theorem bX11_putBytes_14 {d : Nat} {g : xSt} {r : Option Value × xSt} {a1 a2 : Int32} (W : xWf g) (k1 : 1200 ≤ (xI g 0 1) → xX d mX11_putBytes 49 [some (.ref 0), some (.int a1), some (.int a2)] [] g = some r) (k2 : ¬ (1200 ≤ (xI g 0 1)) → xX d mX11_putBytes 26 [some (.ref 0), some (.int a1), some (.int a2)] [] g = some r) : xX d mX11_putBytes 14 [some (.ref 0), some (.int a1), some (.int a2)] [] g = some r :=
  Y_aload_n dX11_putBytes_14 rfl <| Y_getI dX11_putBytes_15 f_10_98 ft_10_1 (xis W 0 10 s_0 (Nat.le_of_ble_eq_true rfl)) <| Y_aload_n dX11_putBytes_18 rfl <| Y_getR dX11_putBytes_19 f_10_9 (by rw [ft_10_0]; rfl) (xis W 0 10 s_0 (Nat.le_of_ble_eq_true rfl)) (xptr W 0 0 p_0_0) <| Y_alen 1200 dX11_putBytes_22 (xarr W (o := 1) s_1 (Nat.le_of_ble_eq_true rfl)) on_1200 rfl <| Y_ge 49 dX11_putBytes_23 rfl (fun q => X_le (xle_s (xle_s (xle_s xle_0))) (k1 q)) (fun q => X_le (xle_s (xle_s (xle_s xle_0))) (k2 q))
theorem bX11_putBytes_26 {d : Nat} {g : xSt} {r : Option Value × xSt} {a1 a2 : Int32} (W : xWf g) (hi38 : vp_in (xI g 0 1) 1200) (k : xX d mX11_putBytes 49 [some (.ref 0), some (.int a1), some (.int a2)] [] (xWI (xWI g 1 (xI g 0 1).toNatClampNeg (Int32.toInt8 ((Int32.toInt8 (a1 >>> (a2 &&& 31))).toInt32)).toInt32) 0 1 ((xI g 0 1) + 1)) = some r) : xX d mX11_putBytes 26 [some (.ref 0), some (.int a1), some (.int a2)] [] g = some r :=
  Y_aload_n dX11_putBytes_26 rfl <| Y_getR dX11_putBytes_27 f_10_9 (by rw [ft_10_0]; rfl) (xis W 0 10 s_0 (Nat.le_of_ble_eq_true rfl)) (xptr W 0 0 p_0_0) <| Y_aload_n dX11_putBytes_30 rfl <| Y_getI dX11_putBytes_31 f_10_98 ft_10_1 (xis W 0 10 s_0 (Nat.le_of_ble_eq_true rfl)) <| Y_iload_n dX11_putBytes_34 rfl <| Y_iload_n dX11_putBytes_35 rfl <| Y_ishr dX11_putBytes_36 <| Y_i2b dX11_putBytes_37 <| Y_bast dX11_putBytes_38 (xarr W (o := 1) s_1 (Nat.le_of_ble_eq_true rfl)) hi38 <| Y_aload_n dX11_putBytes_39 rfl <| Y_dup dX11_putBytes_40 rfl <| Y_getI dX11_putBytes_41 f_10_98 ft_10_1 (xis W 0 10 s_0 (Nat.le_of_ble_eq_true rfl)) <| Y_iconst 1 dX11_putBytes_44 ic_1 <| Y_iadd dX11_putBytes_45 <| Y_putI dX11_putBytes_46 f_10_98 fn_10_1 ft_10_1 (xis W 0 10 s_0 (Nat.le_of_ble_eq_true rfl)) <| X_le (xle_s (xle_s (xle_s xle_0))) k
theorem bX11_putBytes_49 {d : Nat} {g : xSt} {r : Option Value × xSt} {a1 a2 : Int32} (k : xX d mX11_putBytes 3 [some (.ref 0), some (.int a1), some (.int (a2 + (-8)))] [] g = some r) : xX d mX11_putBytes 49 [some (.ref 0), some (.int a1), some (.int a2)] [] g = some r :=
  Y_iinc (-8) dX11_putBytes_49 rfl ic_m8 rfl rfl <| Y_goto 3 dX11_putBytes_52 rfl <| X_le (xle_s (xle_s (xle_s xle_0))) k
theorem bX11_putBytes_55 {d : Nat} {g : xSt} {r : Option Value × xSt}  (k : r = (none, g)) : xX d mX11_putBytes 55 [none, none, none] [] g = some r :=
  Y_ret dX11_putBytes_55 rfl k
theorem bX11_end_0 {d : Nat} {g : xSt} {r : Option Value × xSt} {a1 : Int32} (k1 : a1 < 0 → xX d mX11_end 12 [none, none] [] g = some r) (k2 : ¬ (a1 < 0) → xX d mX11_end 4 [some (.ref 0), some (.int a1)] [] g = some r) : xX d mX11_end 0 [some (.ref 0), some (.int a1)] [] g = some r :=
  Y_iload_n dX11_end_0 rfl <| Y_lt0 12 dX11_end_1 rfl (fun q => X_le (xle_n (xle_n xle_0)) (k1 q)) (fun q => X_le (xle_s (xle_s xle_0)) (k2 q))
theorem bX11_end_4 {d : Nat} {g : xSt} {r : Option Value × xSt} {a1 : Int32} (W : xWf g) (k1 : a1 ≤ (xI g 0 1) → xX d mX11_end 14 [some (.ref 0), some (.int a1)] [] g = some r) (k2 : ¬ (a1 ≤ (xI g 0 1)) → xX d mX11_end 12 [none, none] [] g = some r) : xX d mX11_end 4 [some (.ref 0), some (.int a1)] [] g = some r :=
  Y_iload_n dX11_end_4 rfl <| Y_aload_n dX11_end_5 rfl <| Y_getI dX11_end_6 f_10_98 ft_10_1 (xis W 0 10 s_0 (Nat.le_of_ble_eq_true rfl)) <| Y_le 14 dX11_end_9 rfl (fun q => X_le (xle_s (xle_s xle_0)) (k1 q)) (fun q => X_le (xle_n (xle_n xle_0)) (k2 q))
theorem bX11_end_12 {d : Nat} {g : xSt} {r : Option Value × xSt}  (k : r = (some (.int (-1)), g)) : xX d mX11_end 12 [none, none] [] g = some r :=
  Y_iconst (-1) dX11_end_12 ic_m1 <| Y_iret dX11_end_13 rfl k
theorem bX11_end_14 {d : Nat} {g : xSt} {r : Option Value × xSt} {a1 : Int32} (W : xWf g) (k : r = (some (.int a1), xWI g 0 1 a1)) : xX d mX11_end 14 [some (.ref 0), some (.int a1)] [] g = some r :=
  Y_aload_n dX11_end_14 rfl <| Y_iload_n dX11_end_15 rfl <| Y_putI dX11_end_16 f_10_98 fn_10_1 ft_10_1 (xis W 0 10 s_0 (Nat.le_of_ble_eq_true rfl)) <| Y_iload_n dX11_end_19 rfl <| Y_iret dX11_end_20 rfl k
theorem bX11_street_0 {d : Nat} {g : xSt} {r : Option Value × xSt} {g16 : xSt} (W : xWf g) (hk16 : xCallM d mX6_read [.ref 20, .ref 1, .int (xI g 0 1), .ref (13 - tw g)] g = some (none, g16)) (W16 : xWf g16) (k1 : (xI g16 20 10) = 0 → xX (d + 1) mX11_street 55 [some (.ref 0), none, none] [] (xWI (xWI (xWI g16 0 1 0) 0 2 (xI g16 20 10)) 0 3 (xI g16 20 11)) = some r) (k2 : ¬ ((xI g16 20 10) = 0) → xX (d + 1) mX11_street 53 [none, none, none] [] (xWI (xWI (xWI g16 0 1 0) 0 2 (xI g16 20 10)) 0 3 (xI g16 20 11)) = some r) : xX (d + 1) mX11_street 0 [some (.ref 0), none, none] [] g = some r :=
  Y_aload_n dX11_street_0 rfl <| Y_getR dX11_street_1 f_10_30 (by rw [ft_10_6]; rfl) (xis W 0 10 s_0 (Nat.le_of_ble_eq_true rfl)) (xptr W 0 6 p_0_6) <| Y_aload_n dX11_street_4 rfl <| Y_getR dX11_street_5 f_10_9 (by rw [ft_10_0]; rfl) (xis W 0 10 s_0 (Nat.le_of_ble_eq_true rfl)) (xptr W 0 0 p_0_0) <| Y_aload_n dX11_street_8 rfl <| Y_getI dX11_street_9 f_10_98 ft_10_1 (xis W 0 10 s_0 (Nat.le_of_ble_eq_true rfl)) <| Y_aload_n dX11_street_12 rfl <| Y_getR dX11_street_13 f_10_24 (by rw [ft_10_5]; rfl) (xis W 0 10 s_0 (Nat.le_of_ble_eq_true rfl)) (xspR W) <| Y_callV0 dX11_street_16 cl_10_105 rfl rfl (xis W 20 6 s_20 (Nat.le_of_ble_eq_true rfl)) rfl rfl rfl (hk16) <| Y_aload_n dX11_street_19 rfl <| Y_iconst 0 dX11_street_20 ic_0 <| Y_putI dX11_street_21 f_10_98 fn_10_1 ft_10_1 (xis W16 0 10 s_0 (Nat.le_of_ble_eq_true rfl)) <| Y_aload_n dX11_street_24 rfl <| Y_aload_n dX11_street_25 rfl <| Y_getR dX11_street_26 f_10_30 (by rw [ft_10_6]; rfl) (xis W16 0 10 s_0 (Nat.le_of_ble_eq_true rfl)) (xptr W16 0 6 p_0_6) <| Y_getI dX11_street_29 f_10_109 ft_6_10 (xis W16 20 6 s_20 (Nat.le_of_ble_eq_true rfl)) <| Y_putI dX11_street_32 f_10_112 fn_10_2 ft_10_2 (xis W16 0 10 s_0 (Nat.le_of_ble_eq_true rfl)) <| Y_aload_n dX11_street_35 rfl <| Y_aload_n dX11_street_36 rfl <| Y_getR dX11_street_37 f_10_30 (by rw [ft_10_6]; rfl) (xis W16 0 10 s_0 (Nat.le_of_ble_eq_true rfl)) (xptr W16 0 6 p_0_6) <| Y_getI dX11_street_40 f_10_115 ft_6_11 (xis W16 20 6 s_20 (Nat.le_of_ble_eq_true rfl)) <| Y_putI dX11_street_43 f_10_13 fn_10_3 ft_10_3 (xis W16 0 10 s_0 (Nat.le_of_ble_eq_true rfl)) <| Y_aload_n dX11_street_46 rfl <| Y_getI dX11_street_47 f_10_112 ft_10_2 (xis W16 0 10 s_0 (Nat.le_of_ble_eq_true rfl)) <| Y_eq0 55 dX11_street_50 rfl (fun q => X_le (xle_s (xle_n (xle_n xle_0))) (k1 q)) (fun q => X_le (xle_n (xle_n (xle_n xle_0))) (k2 q))
theorem bX11_street_53 {d : Nat} {g : xSt} {r : Option Value × xSt}  (k : r = (some (.int (-1)), g)) : xX (d + 1) mX11_street 53 [none, none, none] [] g = some r :=
  Y_iconst (-1) dX11_street_53 ic_m1 <| Y_iret dX11_street_54 rfl k
theorem bX11_street_55 {d : Nat} {g : xSt} {r : Option Value × xSt} {g81 g92 g99 : xSt} (W : xWf g) (hk81 : xCallM d mX5_refill [.ref 69, .ref (13 - tw g)] (xWR (xWR g 0 4 (some (13 - tw g))) 0 5 (some (tw g))) = some (none, g81)) (W81 : xWf g81) (hk92 : xCallM d mX0_begin [.ref 32, .ref (tw g81)] g81 = some (none, g92)) (W92 : xWf g92) (hk99 : xCallM d mX9_empty [.ref 111] g92 = some (none, g99)) (W99 : xWf g99) (k : xX (d + 1) mX11_street 104 [some (.ref 0), none, some (.int 0)] [] g99 = some r) : xX (d + 1) mX11_street 55 [some (.ref 0), none, none] [] g = some r :=
  Y_aload_n dX11_street_55 rfl <| Y_getR dX11_street_56 f_10_20 (by rw [ft_10_4]; rfl) (xis W 0 10 s_0 (Nat.le_of_ble_eq_true rfl)) (xtwR W) <| Y_astore_n dX11_street_59 rfl rfl <| Y_aload_n dX11_street_60 rfl <| Y_aload_n dX11_street_61 rfl <| Y_getR dX11_street_62 f_10_24 (by rw [ft_10_5]; rfl) (xis W 0 10 s_0 (Nat.le_of_ble_eq_true rfl)) (xspR W) <| Y_putR dX11_street_65 f_10_20 fn_10_4 (by rw [ft_10_4]; rfl) (xis W 0 10 s_0 (Nat.le_of_ble_eq_true rfl)) <| Y_aload_n dX11_street_68 rfl <| Y_aload_n dX11_street_69 rfl <| Y_putR dX11_street_70 f_10_24 fn_10_5 (by rw [ft_10_5]; rfl) (xis W 0 10 s_0 (Nat.le_of_ble_eq_true rfl)) <| Y_aload_n dX11_street_73 rfl <| Y_getR dX11_street_74 f_10_48 (by rw [ft_10_9]; rfl) (xis W 0 10 s_0 (Nat.le_of_ble_eq_true rfl)) (xptr W 0 9 p_0_9) <| Y_aload_n dX11_street_77 rfl <| Y_getR dX11_street_78 f_10_20 (by rw [ft_10_4]; rfl) (xis W 0 10 s_0 (Nat.le_of_ble_eq_true rfl)) (rfl) <| Y_callV0 dX11_street_81 cl_10_94 rfl rfl (xis W 69 5 s_69 (Nat.le_of_ble_eq_true rfl)) rfl rfl rfl (hk81) <| Y_aload_n dX11_street_84 rfl <| Y_getR dX11_street_85 f_10_37 (by rw [ft_10_7]; rfl) (xis W81 0 10 s_0 (Nat.le_of_ble_eq_true rfl)) (xptr W81 0 7 p_0_7) <| Y_aload_n dX11_street_88 rfl <| Y_getR dX11_street_89 f_10_20 (by rw [ft_10_4]; rfl) (xis W81 0 10 s_0 (Nat.le_of_ble_eq_true rfl)) (xtwR W81) <| Y_callV0 dX11_street_92 cl_10_116 rfl rfl (xis W81 32 0 s_32 (Nat.le_of_ble_eq_true rfl)) rfl rfl rfl (hk92) <| Y_aload_n dX11_street_95 rfl <| Y_getR dX11_street_96 f_10_90 (by rw [ft_10_15]; rfl) (xis W92 0 10 s_0 (Nat.le_of_ble_eq_true rfl)) (xptr W92 0 15 p_0_15) <| Y_callV0 dX11_street_99 cl_10_119 rfl rfl (xis W92 111 8 s_111 (Nat.le_of_ble_eq_true rfl)) rfl rfl rfl (hk99) <| Y_iconst 0 dX11_street_102 ic_0 <| Y_istore_n dX11_street_103 rfl rfl <| X_le (xle_s (xle_n (xle_s xle_0))) k
theorem bX11_street_104 {d : Nat} {g : xSt} {r : Option Value × xSt} {a2 : Int32} (W : xWf g) (k1 : 3 ≤ a2 → xX (d + 1) mX11_street 129 [some (.ref 0), none, none] [] g = some r) (k2 : ¬ (3 ≤ a2) → xX (d + 1) mX11_street 113 [some (.ref 0), none, some (.int a2)] [] g = some r) : xX (d + 1) mX11_street 104 [some (.ref 0), none, some (.int a2)] [] g = some r :=
  Y_iload_n dX11_street_104 rfl <| Y_aload_n dX11_street_105 rfl <| Y_getR dX11_street_106 f_10_41 (by rw [ft_10_8]; rfl) (xis W 0 10 s_0 (Nat.le_of_ble_eq_true rfl)) (xptr W 0 8 p_0_8) <| Y_alenq 3 dX11_street_109 (xarr W (o := 41) s_41 (Nat.le_of_ble_eq_true rfl)) on_3 <| Y_ge 129 dX11_street_110 rfl (fun q => X_le (xle_s (xle_n (xle_n xle_0))) (k1 q)) (fun q => X_le (xle_s (xle_n (xle_s xle_0))) (k2 q))
theorem bX11_street_113 {d : Nat} {g : xSt} {r : Option Value × xSt} {a2 : Int32} {c : Nat} (W : xWf g) (hc : xBk c) (hi118 : vp_in a2 3) (hp118 : xR g 41 a2.toNatClampNeg = some c) (k : xX (d + 1) mX11_street 104 [some (.ref 0), none, some (.int (a2 + 1))] [] (xWI g c 4 0) = some r) : xX (d + 1) mX11_street 113 [some (.ref 0), none, some (.int a2)] [] g = some r :=
  Y_aload_n dX11_street_113 rfl <| Y_getR dX11_street_114 f_10_41 (by rw [ft_10_8]; rfl) (xis W 0 10 s_0 (Nat.le_of_ble_eq_true rfl)) (xptr W 0 8 p_0_8) <| Y_iload_n dX11_street_117 rfl <| Y_aald dX11_street_118 (xarr W (o := 41) s_41 (Nat.le_of_ble_eq_true rfl)) hi118 hp118 <| Y_iconst 0 dX11_street_119 ic_0 <| Y_putZ dX11_street_120 f_10_122 fn_0_4 ft_0_4 (xisB W hc) (by decide) <| Y_iinc 1 dX11_street_123 rfl ic_1 rfl rfl <| Y_goto 104 dX11_street_126 rfl <| X_le (xle_s (xle_n (xle_s xle_0))) k
theorem bX11_street_129 {d : Nat} {g : xSt} {r : Option Value × xSt}  (W : xWf g) (k : r = (some (.int (xI g (tw g) 0)), g)) : xX (d + 1) mX11_street 129 [some (.ref 0), none, none] [] g = some r :=
  Y_aload_n dX11_street_129 rfl <| Y_getR dX11_street_130 f_10_20 (by rw [ft_10_4]; rfl) (xis W 0 10 s_0 (Nat.le_of_ble_eq_true rfl)) (xtwR W) <| Y_getI dX11_street_133 f_10_126 ft_9_0 (xisS W (xtw W)) <| Y_iret dX11_street_136 rfl k
theorem bX11_fault_0 {d : Nat} {g : xSt} {r : Option Value × xSt} {a1 : Int32} (k1 : a1 = 0 → xX d mX11_fault 4 [some (.ref 0), none] [] g = some r) (k2 : ¬ (a1 = 0) → xX d mX11_fault 11 [some (.ref 0), some (.int a1)] [] g = some r) : xX d mX11_fault 0 [some (.ref 0), some (.int a1)] [] g = some r :=
  Y_iload_n dX11_fault_0 rfl <| Y_ne0 11 dX11_fault_1 rfl (fun q => X_le (xle_s (xle_n xle_0)) (k1 q)) (fun q => X_le (xle_s (xle_s xle_0)) (k2 q))
theorem bX11_fault_4 {d : Nat} {g : xSt} {r : Option Value × xSt}  (W : xWf g) (k : xX d mX11_fault 24 [none, none] [.int (xI g 0 2)] g = some r) : xX d mX11_fault 4 [some (.ref 0), none] [] g = some r :=
  Y_aload_n dX11_fault_4 rfl <| Y_getI dX11_fault_5 f_10_112 ft_10_2 (xis W 0 10 s_0 (Nat.le_of_ble_eq_true rfl)) <| Y_goto 24 dX11_fault_8 rfl <| X_le (xle_n (xle_n xle_0)) k
theorem bX11_fault_11 {d : Nat} {g : xSt} {r : Option Value × xSt} {a1 : Int32} (k1 : a1 = 1 → xX d mX11_fault 16 [some (.ref 0), none] [] g = some r) (k2 : ¬ (a1 = 1) → xX d mX11_fault 23 [none, none] [] g = some r) : xX d mX11_fault 11 [some (.ref 0), some (.int a1)] [] g = some r :=
  Y_iload_n dX11_fault_11 rfl <| Y_iconst 1 dX11_fault_12 ic_1 <| Y_ne 23 dX11_fault_13 rfl (fun q => X_le (xle_s (xle_n xle_0)) (k1 q)) (fun q => X_le (xle_n (xle_n xle_0)) (k2 q))
theorem bX11_fault_16 {d : Nat} {g : xSt} {r : Option Value × xSt}  (W : xWf g) (k : xX d mX11_fault 24 [none, none] [.int (xI g 0 3)] g = some r) : xX d mX11_fault 16 [some (.ref 0), none] [] g = some r :=
  Y_aload_n dX11_fault_16 rfl <| Y_getI dX11_fault_17 f_10_13 ft_10_3 (xis W 0 10 s_0 (Nat.le_of_ble_eq_true rfl)) <| Y_goto 24 dX11_fault_20 rfl <| X_le (xle_n (xle_n xle_0)) k
theorem bX11_fault_23 {d : Nat} {g : xSt} {r : Option Value × xSt}  (k : xX d mX11_fault 24 [none, none] [.int (-1)] g = some r) : xX d mX11_fault 23 [none, none] [] g = some r :=
  Y_iconst (-1) dX11_fault_23 ic_m1 <| X_le (xle_n (xle_n xle_0)) k
theorem bX11_fault_24 {d : Nat} {g : xSt} {r : Option Value × xSt} {s0 : Int32} (k : r = (some (.int s0), g)) : xX d mX11_fault 24 [none, none] [.int s0] g = some r :=
  Y_iret dX11_fault_24 rfl k
theorem bX11_weigh_0 {d : Nat} {g : xSt} {r : Option Value × xSt} {a1 a2 r6 : Int32} {g6 : xSt} (W : xWf g) (hk6 : xCallM d mX10_hasHeaps [.ref (tw g), .int a1, .int a2] g = some (some (.int r6), g6)) (W6 : xWf g6) (k1 : r6 = 0 → xX (d + 1) mX11_weigh 22 [none, none, none, none] [] g6 = some r) (k2 : ¬ (r6 = 0) → xX (d + 1) mX11_weigh 12 [some (.ref 0), some (.int a1), some (.int a2), none] [] g6 = some r) : xX (d + 1) mX11_weigh 0 [some (.ref 0), some (.int a1), some (.int a2), none] [] g = some r :=
  Y_aload_n dX11_weigh_0 rfl <| Y_getR dX11_weigh_1 f_10_20 (by rw [ft_10_4]; rfl) (xis W 0 10 s_0 (Nat.le_of_ble_eq_true rfl)) (xtwR W) <| Y_iload_n dX11_weigh_4 rfl <| Y_iload_n dX11_weigh_5 rfl <| Y_callV1 dX11_weigh_6 cl_10_129 rfl rfl (xisS W (xtw W)) rfl rfl rfl (hk6) <| Y_eq0 22 dX11_weigh_9 rfl (fun q => X_le (xle_n (xle_n (xle_n (xle_n xle_0)))) (k1 q)) (fun q => X_le (xle_s (xle_s (xle_s (xle_n xle_0)))) (k2 q))
theorem bX11_weigh_12 {d : Nat} {g : xSt} {r : Option Value × xSt} {a1 a2 r16 : Int32} {g16 : xSt} (W : xWf g) (hk16 : xCallM d mX0_isFull [.ref 32] g = some (some (.int r16), g16)) (W16 : xWf g16) (k1 : r16 = 0 → xX (d + 1) mX11_weigh 24 [some (.ref 0), some (.int a1), some (.int a2), none] [] g16 = some r) (k2 : ¬ (r16 = 0) → xX (d + 1) mX11_weigh 22 [none, none, none, none] [] g16 = some r) : xX (d + 1) mX11_weigh 12 [some (.ref 0), some (.int a1), some (.int a2), none] [] g = some r :=
  Y_aload_n dX11_weigh_12 rfl <| Y_getR dX11_weigh_13 f_10_37 (by rw [ft_10_7]; rfl) (xis W 0 10 s_0 (Nat.le_of_ble_eq_true rfl)) (xptr W 0 7 p_0_7) <| Y_callV1 dX11_weigh_16 cl_10_133 rfl rfl (xis W 32 0 s_32 (Nat.le_of_ble_eq_true rfl)) rfl rfl rfl (hk16) <| Y_eq0 24 dX11_weigh_19 rfl (fun q => X_le (xle_s (xle_s (xle_s (xle_n xle_0)))) (k1 q)) (fun q => X_le (xle_n (xle_n (xle_n (xle_n xle_0)))) (k2 q))
theorem bX11_weigh_22 {d : Nat} {g : xSt} {r : Option Value × xSt}  (k : r = (some (.int (-1)), g)) : xX (d + 1) mX11_weigh 22 [none, none, none, none] [] g = some r :=
  Y_iconst (-1) dX11_weigh_22 ic_m1 <| Y_iret dX11_weigh_23 rfl k
theorem bX11_weigh_24 {d : Nat} {g : xSt} {r : Option Value × xSt} {a1 a2 r34 r45 : Int32} {g34 g45 : xSt} (W : xWf g) (hk34 : xCallM d mX0_balance [.ref 32, .int a1, .int a2, .ref (tw g)] g = some (some (.int r34), g34)) (W34 : xWf g34) (hk45 : xCallM d mX0_write [.ref 32, .int a1, .int a2, .int r34] g34 = some (some (.int r45), g45)) (W45 : xWf g45) (k : r = (some (.int r34), g45)) : xX (d + 1) mX11_weigh 24 [some (.ref 0), some (.int a1), some (.int a2), none] [] g = some r :=
  Y_aload_n dX11_weigh_24 rfl <| Y_getR dX11_weigh_25 f_10_37 (by rw [ft_10_7]; rfl) (xis W 0 10 s_0 (Nat.le_of_ble_eq_true rfl)) (xptr W 0 7 p_0_7) <| Y_iload_n dX11_weigh_28 rfl <| Y_iload_n dX11_weigh_29 rfl <| Y_aload_n dX11_weigh_30 rfl <| Y_getR dX11_weigh_31 f_10_20 (by rw [ft_10_4]; rfl) (xis W 0 10 s_0 (Nat.le_of_ble_eq_true rfl)) (xtwR W) <| Y_callV1 dX11_weigh_34 cl_10_137 rfl rfl (xis W 32 0 s_32 (Nat.le_of_ble_eq_true rfl)) rfl rfl rfl (hk34) <| Y_istore_n dX11_weigh_37 rfl rfl <| Y_aload_n dX11_weigh_38 rfl <| Y_getR dX11_weigh_39 f_10_37 (by rw [ft_10_7]; rfl) (xis W34 0 10 s_0 (Nat.le_of_ble_eq_true rfl)) (xptr W34 0 7 p_0_7) <| Y_iload_n dX11_weigh_42 rfl <| Y_iload_n dX11_weigh_43 rfl <| Y_iload_n dX11_weigh_44 rfl <| Y_callV1 dX11_weigh_45 cl_10_141 rfl rfl (xis W34 32 0 s_32 (Nat.le_of_ble_eq_true rfl)) rfl rfl rfl (hk45) <| Y_pop dX11_weigh_48 rfl <| Y_iload_n dX11_weigh_49 rfl <| Y_iret dX11_weigh_50 rfl k
theorem bX11_told_0 {d : Nat} {g : xSt} {r : Option Value × xSt} {a1 a2 a3 r6 : Int32} {g6 : xSt} (W : xWf g) (hk6 : xCallM d mX10_hasHeaps [.ref (tw g), .int a1, .int a2] g = some (some (.int r6), g6)) (W6 : xWf g6) (k1 : r6 = 0 → xX (d + 1) mX11_told 31 [none, none, none, none] [] g6 = some r) (k2 : ¬ (r6 = 0) → xX (d + 1) mX11_told 12 [some (.ref 0), some (.int a1), some (.int a2), some (.int a3)] [] g6 = some r) : xX (d + 1) mX11_told 0 [some (.ref 0), some (.int a1), some (.int a2), some (.int a3)] [] g = some r :=
  Y_aload_n dX11_told_0 rfl <| Y_getR dX11_told_1 f_10_20 (by rw [ft_10_4]; rfl) (xis W 0 10 s_0 (Nat.le_of_ble_eq_true rfl)) (xtwR W) <| Y_iload_n dX11_told_4 rfl <| Y_iload_n dX11_told_5 rfl <| Y_callV1 dX11_told_6 cl_10_129 rfl rfl (xisS W (xtw W)) rfl rfl rfl (hk6) <| Y_eq0 31 dX11_told_9 rfl (fun q => X_le (xle_n (xle_n (xle_n (xle_n xle_0)))) (k1 q)) (fun q => X_le (xle_s (xle_s (xle_s (xle_s xle_0)))) (k2 q))
theorem bX11_told_12 {d : Nat} {g : xSt} {r : Option Value × xSt} {a1 a2 a3 : Int32} (k1 : a3 < 0 → xX (d + 1) mX11_told 31 [none, none, none, none] [] g = some r) (k2 : ¬ (a3 < 0) → xX (d + 1) mX11_told 16 [some (.ref 0), some (.int a1), some (.int a2), some (.int a3)] [] g = some r) : xX (d + 1) mX11_told 12 [some (.ref 0), some (.int a1), some (.int a2), some (.int a3)] [] g = some r :=
  Y_iload_n dX11_told_12 rfl <| Y_lt0 31 dX11_told_13 rfl (fun q => X_le (xle_n (xle_n (xle_n (xle_n xle_0)))) (k1 q)) (fun q => X_le (xle_s (xle_s (xle_s (xle_s xle_0)))) (k2 q))
theorem bX11_told_16 {d : Nat} {g : xSt} {r : Option Value × xSt} {a1 a2 a3 : Int32} (k1 : 2 < a3 → xX (d + 1) mX11_told 31 [none, none, none, none] [] g = some r) (k2 : ¬ (2 < a3) → xX (d + 1) mX11_told 21 [some (.ref 0), some (.int a1), some (.int a2), some (.int a3)] [] g = some r) : xX (d + 1) mX11_told 16 [some (.ref 0), some (.int a1), some (.int a2), some (.int a3)] [] g = some r :=
  Y_iload_n dX11_told_16 rfl <| Y_iconst 2 dX11_told_17 ic_2 <| Y_gt 31 dX11_told_18 rfl (fun q => X_le (xle_n (xle_n (xle_n (xle_n xle_0)))) (k1 q)) (fun q => X_le (xle_s (xle_s (xle_s (xle_s xle_0)))) (k2 q))
theorem bX11_told_21 {d : Nat} {g : xSt} {r : Option Value × xSt} {a1 a2 a3 r25 : Int32} {g25 : xSt} (W : xWf g) (hk25 : xCallM d mX0_isFull [.ref 32] g = some (some (.int r25), g25)) (W25 : xWf g25) (k1 : r25 = 0 → xX (d + 1) mX11_told 33 [some (.ref 0), some (.int a1), some (.int a2), some (.int a3)] [] g25 = some r) (k2 : ¬ (r25 = 0) → xX (d + 1) mX11_told 31 [none, none, none, none] [] g25 = some r) : xX (d + 1) mX11_told 21 [some (.ref 0), some (.int a1), some (.int a2), some (.int a3)] [] g = some r :=
  Y_aload_n dX11_told_21 rfl <| Y_getR dX11_told_22 f_10_37 (by rw [ft_10_7]; rfl) (xis W 0 10 s_0 (Nat.le_of_ble_eq_true rfl)) (xptr W 0 7 p_0_7) <| Y_callV1 dX11_told_25 cl_10_133 rfl rfl (xis W 32 0 s_32 (Nat.le_of_ble_eq_true rfl)) rfl rfl rfl (hk25) <| Y_eq0 33 dX11_told_28 rfl (fun q => X_le (xle_s (xle_s (xle_s (xle_s xle_0)))) (k1 q)) (fun q => X_le (xle_n (xle_n (xle_n (xle_n xle_0)))) (k2 q))
theorem bX11_told_31 {d : Nat} {g : xSt} {r : Option Value × xSt}  (k : r = (some (.int (-1)), g)) : xX (d + 1) mX11_told 31 [none, none, none, none] [] g = some r :=
  Y_iconst (-1) dX11_told_31 ic_m1 <| Y_iret dX11_told_32 rfl k
theorem bX11_told_33 {d : Nat} {g : xSt} {r : Option Value × xSt} {a1 a2 a3 r40 : Int32} {g40 : xSt} (W : xWf g) (hk40 : xCallM d mX0_write [.ref 32, .int a1, .int a2, .int a3] g = some (some (.int r40), g40)) (W40 : xWf g40) (k : r = (some (.int r40), g40)) : xX (d + 1) mX11_told 33 [some (.ref 0), some (.int a1), some (.int a2), some (.int a3)] [] g = some r :=
  Y_aload_n dX11_told_33 rfl <| Y_getR dX11_told_34 f_10_37 (by rw [ft_10_7]; rfl) (xis W 0 10 s_0 (Nat.le_of_ble_eq_true rfl)) (xptr W 0 7 p_0_7) <| Y_iload_n dX11_told_37 rfl <| Y_iload_n dX11_told_38 rfl <| Y_iload_n dX11_told_39 rfl <| Y_callV1 dX11_told_40 cl_10_141 rfl rfl (xis W 32 0 s_32 (Nat.le_of_ble_eq_true rfl)) rfl rfl rfl (hk40) <| Y_iret dX11_told_43 rfl k
theorem bX11_weighing_0 {d : Nat} {g : xSt} {r : Option Value × xSt} {a1 a2 r6 : Int32} {g6 : xSt} (W : xWf g) (hk6 : xCallM d mX0_look [.ref 32, .int a1, .int a2] g = some (some (.int r6), g6)) (W6 : xWf g6) (k : r = (some (.int r6), g6)) : xX (d + 1) mX11_weighing 0 [some (.ref 0), some (.int a1), some (.int a2)] [] g = some r :=
  Y_aload_n dX11_weighing_0 rfl <| Y_getR dX11_weighing_1 f_10_37 (by rw [ft_10_7]; rfl) (xis W 0 10 s_0 (Nat.le_of_ble_eq_true rfl)) (xptr W 0 7 p_0_7) <| Y_iload_n dX11_weighing_4 rfl <| Y_iload_n dX11_weighing_5 rfl <| Y_callV1 dX11_weighing_6 cl_10_145 rfl rfl (xis W 32 0 s_32 (Nat.le_of_ble_eq_true rfl)) rfl rfl rfl (hk6) <| Y_iret dX11_weighing_9 rfl k
theorem bX11_wet_0 {d : Nat} {g : xSt} {r : Option Value × xSt} {r11 : Int32} {g11 : xSt} (W : xWf g) (hk11 : xCallM d mX0_rain [.ref 32, .int (xI g (tw g) 0)] g = some (some (.int r11), g11)) (W11 : xWf g11) (k : r = (some (.int r11), g11)) : xX (d + 1) mX11_wet 0 [some (.ref 0)] [] g = some r :=
  Y_aload_n dX11_wet_0 rfl <| Y_getR dX11_wet_1 f_10_37 (by rw [ft_10_7]; rfl) (xis W 0 10 s_0 (Nat.le_of_ble_eq_true rfl)) (xptr W 0 7 p_0_7) <| Y_aload_n dX11_wet_4 rfl <| Y_getR dX11_wet_5 f_10_20 (by rw [ft_10_4]; rfl) (xis W 0 10 s_0 (Nat.le_of_ble_eq_true rfl)) (xtwR W) <| Y_getI dX11_wet_8 f_10_126 ft_9_0 (xisS W (xtw W)) <| Y_callV1 dX11_wet_11 cl_10_149 rfl rfl (xis W 32 0 s_32 (Nat.le_of_ble_eq_true rfl)) rfl rfl rfl (hk11) <| Y_iret dX11_wet_14 rfl k
theorem bX11_untell_0 {d : Nat} {g : xSt} {r : Option Value × xSt} {a1 r5 : Int32} {g5 : xSt} (W : xWf g) (hk5 : xCallM d mX0_strike [.ref 32, .int a1] g = some (some (.int r5), g5)) (W5 : xWf g5) (hz8 : r5 = 0 ∨ r5 = 1) (k : r = (some (.int r5), g5)) : xX (d + 1) mX11_untell 0 [some (.ref 0), some (.int a1)] [] g = some r :=
  Y_aload_n dX11_untell_0 rfl <| Y_getR dX11_untell_1 f_10_37 (by rw [ft_10_7]; rfl) (xis W 0 10 s_0 (Nat.le_of_ble_eq_true rfl)) (xptr W 0 7 p_0_7) <| Y_iload_n dX11_untell_4 rfl <| Y_callV1 dX11_untell_5 cl_10_153 rfl rfl (xis W 32 0 s_32 (Nat.le_of_ble_eq_true rfl)) rfl rfl rfl (hk5) <| Y_zret dX11_untell_8 rfl (hz8) k
theorem bX11_later_0 {d : Nat} {g : xSt} {r : Option Value × xSt} {a1 r5 : Int32} {g5 : xSt} (W : xWf g) (hk5 : xCallM d mX0_pass [.ref 32, .int a1] g = some (some (.int r5), g5)) (W5 : xWf g5) (k : r = (some (.int r5), g5)) : xX (d + 1) mX11_later 0 [some (.ref 0), some (.int a1)] [] g = some r :=
  Y_aload_n dX11_later_0 rfl <| Y_getR dX11_later_1 f_10_37 (by rw [ft_10_7]; rfl) (xis W 0 10 s_0 (Nat.le_of_ble_eq_true rfl)) (xptr W 0 7 p_0_7) <| Y_iload_n dX11_later_4 rfl <| Y_callV1 dX11_later_5 cl_10_157 rfl rfl (xis W 32 0 s_32 (Nat.le_of_ble_eq_true rfl)) rfl rfl rfl (hk5) <| Y_iret dX11_later_8 rfl k
theorem bX11_left_0 {d : Nat} {g : xSt} {r : Option Value × xSt} {a1 a2 : Int32} {g4 : xSt} (W : xWf g) (hk4 : xCallM d mX9_empty [.ref 111] g = some (none, g4)) (W4 : xWf g4) (k1 : a1 < 0 → xX (d + 1) mX11_left 17 [none, none, none] [] g4 = some r) (k2 : ¬ (a1 < 0) → xX (d + 1) mX11_left 11 [some (.ref 0), some (.int a1), some (.int a2)] [] g4 = some r) : xX (d + 1) mX11_left 0 [some (.ref 0), some (.int a1), some (.int a2)] [] g = some r :=
  Y_aload_n dX11_left_0 rfl <| Y_getR dX11_left_1 f_10_90 (by rw [ft_10_15]; rfl) (xis W 0 10 s_0 (Nat.le_of_ble_eq_true rfl)) (xptr W 0 15 p_0_15) <| Y_callV0 dX11_left_4 cl_10_119 rfl rfl (xis W 111 8 s_111 (Nat.le_of_ble_eq_true rfl)) rfl rfl rfl (hk4) <| Y_iload_n dX11_left_7 rfl <| Y_lt0 17 dX11_left_8 rfl (fun q => X_le (xle_n (xle_n (xle_n xle_0))) (k1 q)) (fun q => X_le (xle_s (xle_s (xle_s xle_0))) (k2 q))
theorem bX11_left_11 {d : Nat} {g : xSt} {r : Option Value × xSt} {a1 a2 : Int32} (k1 : a1 ≤ 60 → xX (d + 1) mX11_left 19 [some (.ref 0), some (.int a1), some (.int a2)] [] g = some r) (k2 : ¬ (a1 ≤ 60) → xX (d + 1) mX11_left 17 [none, none, none] [] g = some r) : xX (d + 1) mX11_left 11 [some (.ref 0), some (.int a1), some (.int a2)] [] g = some r :=
  Y_iload_n dX11_left_11 rfl <| Y_bipush 60 dX11_left_12 bp_60 <| Y_le 19 dX11_left_14 rfl (fun q => X_le (xle_s (xle_s (xle_s xle_0))) (k1 q)) (fun q => X_le (xle_n (xle_n (xle_n xle_0))) (k2 q))
theorem bX11_left_17 {d : Nat} {g : xSt} {r : Option Value × xSt}  (k : r = (some (.int (-1)), g)) : xX (d + 1) mX11_left 17 [none, none, none] [] g = some r :=
  Y_iconst (-1) dX11_left_17 ic_m1 <| Y_iret dX11_left_18 rfl k
theorem bX11_left_19 {d : Nat} {g : xSt} {r : Option Value × xSt} {a1 a2 : Int32} {g28 g36 : xSt} (W : xWf g) (hk28 : xCallM d mX5_heed [.ref 69, .ref 32, .int a2] g = some (none, g28)) (W28 : xWf g28) (hk36 : xCallM d mX5_sift [.ref 69, .int a1] g28 = some (none, g36)) (W36 : xWf g36) (k1 : (xI g36 69 5) ≤ 0 → xX (d + 1) mX11_left 61 [some (.ref 0), none, none] [] g36 = some r) (k2 : ¬ ((xI g36 69 5) ≤ 0) → xX (d + 1) mX11_left 49 [some (.ref 0), none, none] [] g36 = some r) : xX (d + 1) mX11_left 19 [some (.ref 0), some (.int a1), some (.int a2)] [] g = some r :=
  Y_aload_n dX11_left_19 rfl <| Y_getR dX11_left_20 f_10_48 (by rw [ft_10_9]; rfl) (xis W 0 10 s_0 (Nat.le_of_ble_eq_true rfl)) (xptr W 0 9 p_0_9) <| Y_aload_n dX11_left_23 rfl <| Y_getR dX11_left_24 f_10_37 (by rw [ft_10_7]; rfl) (xis W 0 10 s_0 (Nat.le_of_ble_eq_true rfl)) (xptr W 0 7 p_0_7) <| Y_iload_n dX11_left_27 rfl <| Y_callV0 dX11_left_28 cl_10_160 rfl rfl (xis W 69 5 s_69 (Nat.le_of_ble_eq_true rfl)) rfl rfl rfl (hk28) <| Y_aload_n dX11_left_31 rfl <| Y_getR dX11_left_32 f_10_48 (by rw [ft_10_9]; rfl) (xis W28 0 10 s_0 (Nat.le_of_ble_eq_true rfl)) (xptr W28 0 9 p_0_9) <| Y_iload_n dX11_left_35 rfl <| Y_callV0 dX11_left_36 cl_10_164 rfl rfl (xis W28 69 5 s_69 (Nat.le_of_ble_eq_true rfl)) rfl rfl rfl (hk36) <| Y_aload_n dX11_left_39 rfl <| Y_getR dX11_left_40 f_10_48 (by rw [ft_10_9]; rfl) (xis W36 0 10 s_0 (Nat.le_of_ble_eq_true rfl)) (xptr W36 0 9 p_0_9) <| Y_getI dX11_left_43 f_10_167 ft_5_5 (xis W36 69 5 s_69 (Nat.le_of_ble_eq_true rfl)) <| Y_le0 61 dX11_left_46 rfl (fun q => X_le (xle_s (xle_n (xle_n xle_0))) (k1 q)) (fun q => X_le (xle_s (xle_n (xle_n xle_0))) (k2 q))
theorem bX11_left_49 {d : Nat} {g : xSt} {r : Option Value × xSt} {r55 : Int32} {g55 g58 : xSt} (W : xWf g) (hk55 : xCallM d mX5_leftAt [.ref 69, .int 0] g = some (some (.int r55), g55)) (W55 : xWf g55) (hk58 : xCallM d mX11_shelvePlaces [.ref 0, .int r55] g55 = some (none, g58)) (W58 : xWf g58) (k : xX (d + 1) mX11_left 61 [some (.ref 0), none, none] [] g58 = some r) : xX (d + 1) mX11_left 49 [some (.ref 0), none, none] [] g = some r :=
  Y_aload_n dX11_left_49 rfl <| Y_aload_n dX11_left_50 rfl <| Y_getR dX11_left_51 f_10_48 (by rw [ft_10_9]; rfl) (xis W 0 10 s_0 (Nat.le_of_ble_eq_true rfl)) (xptr W 0 9 p_0_9) <| Y_iconst 0 dX11_left_54 ic_0 <| Y_callV1 dX11_left_55 cl_10_170 rfl rfl (xis W 69 5 s_69 (Nat.le_of_ble_eq_true rfl)) rfl rfl rfl (hk55) <| Y_callV0 dX11_left_58 cl_10_173 rfl rfl (xis W55 0 10 s_0 (Nat.le_of_ble_eq_true rfl)) rfl rfl rfl (hk58) <| X_le (xle_s (xle_n (xle_n xle_0))) k
theorem bX11_left_61 {d : Nat} {g : xSt} {r : Option Value × xSt}  (W : xWf g) (k : r = (some (.int (xI g 69 5)), g)) : xX (d + 1) mX11_left 61 [some (.ref 0), none, none] [] g = some r :=
  Y_aload_n dX11_left_61 rfl <| Y_getR dX11_left_62 f_10_48 (by rw [ft_10_9]; rfl) (xis W 0 10 s_0 (Nat.le_of_ble_eq_true rfl)) (xptr W 0 9 p_0_9) <| Y_getI dX11_left_65 f_10_167 ft_5_5 (xis W 69 5 s_69 (Nat.le_of_ble_eq_true rfl)) <| Y_iret dX11_left_68 rfl k
theorem bX11_shelvePlaces_0 {d : Nat} {g : xSt} {r : Option Value × xSt} {a1 : Int32} {g4 : xSt} (W : xWf g) (hk4 : xCallM d mX9_empty [.ref 111] g = some (none, g4)) (W4 : xWf g4) (k : xX (d + 1) mX11_shelvePlaces 9 [some (.ref 0), some (.int a1), some (.int 0)] [] g4 = some r) : xX (d + 1) mX11_shelvePlaces 0 [some (.ref 0), some (.int a1), none] [] g = some r :=
  Y_aload_n dX11_shelvePlaces_0 rfl <| Y_getR dX11_shelvePlaces_1 f_10_90 (by rw [ft_10_15]; rfl) (xis W 0 10 s_0 (Nat.le_of_ble_eq_true rfl)) (xptr W 0 15 p_0_15) <| Y_callV0 dX11_shelvePlaces_4 cl_10_119 rfl rfl (xis W 111 8 s_111 (Nat.le_of_ble_eq_true rfl)) rfl rfl rfl (hk4) <| Y_iconst 0 dX11_shelvePlaces_7 ic_0 <| Y_istore_n dX11_shelvePlaces_8 rfl rfl <| X_le (xle_s (xle_s (xle_s xle_0))) k
theorem bX11_shelvePlaces_9 {d : Nat} {g : xSt} {r : Option Value × xSt} {a1 a2 : Int32} (W : xWf g) (k1 : (xI g (tw g) 0) ≤ a2 → xX (d + 1) mX11_shelvePlaces 42 [none, none, none] [] g = some r) (k2 : ¬ ((xI g (tw g) 0) ≤ a2) → xX (d + 1) mX11_shelvePlaces 20 [some (.ref 0), some (.int a1), some (.int a2)] [] g = some r) : xX (d + 1) mX11_shelvePlaces 9 [some (.ref 0), some (.int a1), some (.int a2)] [] g = some r :=
  Y_iload_n dX11_shelvePlaces_9 rfl <| Y_aload_n dX11_shelvePlaces_10 rfl <| Y_getR dX11_shelvePlaces_11 f_10_20 (by rw [ft_10_4]; rfl) (xis W 0 10 s_0 (Nat.le_of_ble_eq_true rfl)) (xtwR W) <| Y_getI dX11_shelvePlaces_14 f_10_126 ft_9_0 (xisS W (xtw W)) <| Y_ge 42 dX11_shelvePlaces_17 rfl (fun q => X_le (xle_n (xle_n (xle_n xle_0))) (k1 q)) (fun q => X_le (xle_s (xle_s (xle_s xle_0))) (k2 q))
theorem bX11_shelvePlaces_20 {d : Nat} {g : xSt} {r : Option Value × xSt} {a1 a2 r30 : Int32} {g30 g33 : xSt} (W : xWf g) (hk30 : xCallM d mX5_placeOf [.ref 69, .int a1, .int a2] g = some (some (.int r30), g30)) (W30 : xWf g30) (hk33 : xCallM d mX9_lay [.ref 111, .int r30] g30 = some (none, g33)) (W33 : xWf g33) (k : xX (d + 1) mX11_shelvePlaces 9 [some (.ref 0), some (.int a1), some (.int (a2 + 1))] [] g33 = some r) : xX (d + 1) mX11_shelvePlaces 20 [some (.ref 0), some (.int a1), some (.int a2)] [] g = some r :=
  Y_aload_n dX11_shelvePlaces_20 rfl <| Y_getR dX11_shelvePlaces_21 f_10_90 (by rw [ft_10_15]; rfl) (xis W 0 10 s_0 (Nat.le_of_ble_eq_true rfl)) (xptr W 0 15 p_0_15) <| Y_aload_n dX11_shelvePlaces_24 rfl <| Y_getR dX11_shelvePlaces_25 f_10_48 (by rw [ft_10_9]; rfl) (xis W 0 10 s_0 (Nat.le_of_ble_eq_true rfl)) (xptr W 0 9 p_0_9) <| Y_iload_n dX11_shelvePlaces_28 rfl <| Y_iload_n dX11_shelvePlaces_29 rfl <| Y_callV1 dX11_shelvePlaces_30 cl_10_176 rfl rfl (xis W 69 5 s_69 (Nat.le_of_ble_eq_true rfl)) rfl rfl rfl (hk30) <| Y_callV0 dX11_shelvePlaces_33 cl_10_179 rfl rfl (xis W30 111 8 s_111 (Nat.le_of_ble_eq_true rfl)) rfl rfl rfl (hk33) <| Y_iinc 1 dX11_shelvePlaces_36 rfl ic_1 rfl rfl <| Y_goto 9 dX11_shelvePlaces_39 rfl <| X_le (xle_s (xle_s (xle_s xle_0))) k
theorem bX11_shelvePlaces_42 {d : Nat} {g : xSt} {r : Option Value × xSt}  (k : r = (none, g)) : xX (d + 1) mX11_shelvePlaces 42 [none, none, none] [] g = some r :=
  Y_ret dX11_shelvePlaces_42 rfl k
theorem bX11_struck_0 {d : Nat} {g : xSt} {r : Option Value × xSt} {a1 r16 r30 : Int32} {g9 g16 g22 g30 : xSt} (W : xWf g) (hk9 : xCallM d mX5_heed [.ref 69, .ref 32, .int a1] g = some (none, g9)) (W9 : xWf g9) (hk16 : xCallM d mX5_firstOfFewestMisses [.ref 69] g9 = some (some (.int r16), g16)) (W16 : xWf g16) (hk22 : xCallM d mX11_shelvePlaces [.ref 0, .int r16] g16 = some (none, g22)) (W22 : xWf g22) (hk30 : xCallM d mX5_missesOf [.ref 69, .int r16] g22 = some (some (.int r30), g30)) (W30 : xWf g30) (k : r = (some (.int r30), g30)) : xX (d + 1) mX11_struck 0 [some (.ref 0), some (.int a1), none] [] g = some r :=
  Y_aload_n dX11_struck_0 rfl <| Y_getR dX11_struck_1 f_10_48 (by rw [ft_10_9]; rfl) (xis W 0 10 s_0 (Nat.le_of_ble_eq_true rfl)) (xptr W 0 9 p_0_9) <| Y_aload_n dX11_struck_4 rfl <| Y_getR dX11_struck_5 f_10_37 (by rw [ft_10_7]; rfl) (xis W 0 10 s_0 (Nat.le_of_ble_eq_true rfl)) (xptr W 0 7 p_0_7) <| Y_iload_n dX11_struck_8 rfl <| Y_callV0 dX11_struck_9 cl_10_160 rfl rfl (xis W 69 5 s_69 (Nat.le_of_ble_eq_true rfl)) rfl rfl rfl (hk9) <| Y_aload_n dX11_struck_12 rfl <| Y_getR dX11_struck_13 f_10_48 (by rw [ft_10_9]; rfl) (xis W9 0 10 s_0 (Nat.le_of_ble_eq_true rfl)) (xptr W9 0 9 p_0_9) <| Y_callV1 dX11_struck_16 cl_10_182 rfl rfl (xis W9 69 5 s_69 (Nat.le_of_ble_eq_true rfl)) rfl rfl rfl (hk16) <| Y_istore_n dX11_struck_19 rfl rfl <| Y_aload_n dX11_struck_20 rfl <| Y_iload_n dX11_struck_21 rfl <| Y_callV0 dX11_struck_22 cl_10_173 rfl rfl (xis W16 0 10 s_0 (Nat.le_of_ble_eq_true rfl)) rfl rfl rfl (hk22) <| Y_aload_n dX11_struck_25 rfl <| Y_getR dX11_struck_26 f_10_48 (by rw [ft_10_9]; rfl) (xis W22 0 10 s_0 (Nat.le_of_ble_eq_true rfl)) (xptr W22 0 9 p_0_9) <| Y_iload_n dX11_struck_29 rfl <| Y_callV1 dX11_struck_30 cl_10_186 rfl rfl (xis W22 69 5 s_69 (Nat.le_of_ble_eq_true rfl)) rfl rfl rfl (hk30) <| Y_iret dX11_struck_33 rfl k
theorem bX11_place_0 {d : Nat} {g : xSt} {r : Option Value × xSt} {a1 a2 a3 r5 : Int32} {g5 : xSt} (W : xWf g) (hk5 : xCallM d mX10_hasThing [.ref (tw g), .int a1] g = some (some (.int r5), g5)) (W5 : xWf g5) (k1 : r5 = 0 → xX (d + 1) mX11_place 26 [none, none, none, none] [] g5 = some r) (k2 : ¬ (r5 = 0) → xX (d + 1) mX11_place 11 [some (.ref 0), some (.int a1), some (.int a2), some (.int a3)] [] g5 = some r) : xX (d + 1) mX11_place 0 [some (.ref 0), some (.int a1), some (.int a2), some (.int a3)] [] g = some r :=
  Y_aload_n dX11_place_0 rfl <| Y_getR dX11_place_1 f_10_20 (by rw [ft_10_4]; rfl) (xis W 0 10 s_0 (Nat.le_of_ble_eq_true rfl)) (xtwR W) <| Y_iload_n dX11_place_4 rfl <| Y_callV1 dX11_place_5 cl_10_189 rfl rfl (xisS W (xtw W)) rfl rfl rfl (hk5) <| Y_eq0 26 dX11_place_8 rfl (fun q => X_le (xle_n (xle_n (xle_n (xle_n xle_0)))) (k1 q)) (fun q => X_le (xle_s (xle_s (xle_s (xle_s xle_0)))) (k2 q))
theorem bX11_place_11 {d : Nat} {g : xSt} {r : Option Value × xSt} {a1 a2 a3 r20 : Int32} {g20 : xSt} (W : xWf g) (hk20 : xCallM d mX5_know [.ref 69, .ref 32, .int a3] g = some (some (.int r20), g20)) (W20 : xWf g20) (k1 : r20 = 0 → xX (d + 1) mX11_place 26 [none, none, none, none] [] g20 = some r) (k2 : ¬ (r20 = 0) → xX (d + 1) mX11_place 28 [some (.ref 0), some (.int a1), some (.int a2), none] [] g20 = some r) : xX (d + 1) mX11_place 11 [some (.ref 0), some (.int a1), some (.int a2), some (.int a3)] [] g = some r :=
  Y_aload_n dX11_place_11 rfl <| Y_getR dX11_place_12 f_10_48 (by rw [ft_10_9]; rfl) (xis W 0 10 s_0 (Nat.le_of_ble_eq_true rfl)) (xptr W 0 9 p_0_9) <| Y_aload_n dX11_place_15 rfl <| Y_getR dX11_place_16 f_10_37 (by rw [ft_10_7]; rfl) (xis W 0 10 s_0 (Nat.le_of_ble_eq_true rfl)) (xptr W 0 7 p_0_7) <| Y_iload_n dX11_place_19 rfl <| Y_callV1 dX11_place_20 cl_10_192 rfl rfl (xis W 69 5 s_69 (Nat.le_of_ble_eq_true rfl)) rfl rfl rfl (hk20) <| Y_ne0 28 dX11_place_23 rfl (fun q => X_le (xle_n (xle_n (xle_n (xle_n xle_0)))) (k1 q)) (fun q => X_le (xle_s (xle_s (xle_s (xle_n xle_0)))) (k2 q))
theorem bX11_place_26 {d : Nat} {g : xSt} {r : Option Value × xSt}  (k : r = (some (.int (-1)), g)) : xX (d + 1) mX11_place 26 [none, none, none, none] [] g = some r :=
  Y_iconst (-1) dX11_place_26 ic_m1 <| Y_iret dX11_place_27 rfl k
theorem bX11_place_28 {d : Nat} {g : xSt} {r : Option Value × xSt} {a1 a2 r34 : Int32} {g34 : xSt} (W : xWf g) (hk34 : xCallM d mX5_extremePlace [.ref 69, .int a1, .int a2] g = some (some (.int r34), g34)) (W34 : xWf g34) (k : r = (some (.int r34), g34)) : xX (d + 1) mX11_place 28 [some (.ref 0), some (.int a1), some (.int a2), none] [] g = some r :=
  Y_aload_n dX11_place_28 rfl <| Y_getR dX11_place_29 f_10_48 (by rw [ft_10_9]; rfl) (xis W 0 10 s_0 (Nat.le_of_ble_eq_true rfl)) (xptr W 0 9 p_0_9) <| Y_iload_n dX11_place_32 rfl <| Y_iload_n dX11_place_33 rfl <| Y_callV1 dX11_place_34 cl_10_196 rfl rfl (xis W 69 5 s_69 (Nat.le_of_ble_eq_true rfl)) rfl rfl rfl (hk34) <| Y_iret dX11_place_37 rfl k
theorem bX11_stand_0 {d : Nat} {g : xSt} {r : Option Value × xSt} {a1 a2 a3 : Int32} (k1 : a1 < 0 → xX (d + 1) mX11_stand 24 [none, none, none, none] [] g = some r) (k2 : ¬ (a1 < 0) → xX (d + 1) mX11_stand 4 [some (.ref 0), some (.int a1), some (.int a2), some (.int a3)] [] g = some r) : xX (d + 1) mX11_stand 0 [some (.ref 0), some (.int a1), some (.int a2), some (.int a3)] [] g = some r :=
  Y_iload_n dX11_stand_0 rfl <| Y_lt0 24 dX11_stand_1 rfl (fun q => X_le (xle_n (xle_n (xle_n (xle_n xle_0)))) (k1 q)) (fun q => X_le (xle_s (xle_s (xle_s (xle_s xle_0)))) (k2 q))
theorem bX11_stand_4 {d : Nat} {g : xSt} {r : Option Value × xSt} {a1 a2 a3 : Int32} (k1 : 5 ≤ a1 → xX (d + 1) mX11_stand 24 [none, none, none, none] [] g = some r) (k2 : ¬ (5 ≤ a1) → xX (d + 1) mX11_stand 9 [some (.ref 0), some (.int a1), some (.int a2), some (.int a3)] [] g = some r) : xX (d + 1) mX11_stand 4 [some (.ref 0), some (.int a1), some (.int a2), some (.int a3)] [] g = some r :=
  Y_iload_n dX11_stand_4 rfl <| Y_iconst 5 dX11_stand_5 ic_5 <| Y_ge 24 dX11_stand_6 rfl (fun q => X_le (xle_n (xle_n (xle_n (xle_n xle_0)))) (k1 q)) (fun q => X_le (xle_s (xle_s (xle_s (xle_s xle_0)))) (k2 q))
theorem bX11_stand_9 {d : Nat} {g : xSt} {r : Option Value × xSt} {a1 a2 a3 r18 : Int32} {g18 : xSt} (W : xWf g) (hk18 : xCallM d mX5_know [.ref 69, .ref 32, .int a3] g = some (some (.int r18), g18)) (W18 : xWf g18) (k1 : r18 = 0 → xX (d + 1) mX11_stand 24 [none, none, none, none] [] g18 = some r) (k2 : ¬ (r18 = 0) → xX (d + 1) mX11_stand 26 [some (.ref 0), some (.int a1), some (.int a2), none] [] g18 = some r) : xX (d + 1) mX11_stand 9 [some (.ref 0), some (.int a1), some (.int a2), some (.int a3)] [] g = some r :=
  Y_aload_n dX11_stand_9 rfl <| Y_getR dX11_stand_10 f_10_48 (by rw [ft_10_9]; rfl) (xis W 0 10 s_0 (Nat.le_of_ble_eq_true rfl)) (xptr W 0 9 p_0_9) <| Y_aload_n dX11_stand_13 rfl <| Y_getR dX11_stand_14 f_10_37 (by rw [ft_10_7]; rfl) (xis W 0 10 s_0 (Nat.le_of_ble_eq_true rfl)) (xptr W 0 7 p_0_7) <| Y_iload_n dX11_stand_17 rfl <| Y_callV1 dX11_stand_18 cl_10_192 rfl rfl (xis W 69 5 s_69 (Nat.le_of_ble_eq_true rfl)) rfl rfl rfl (hk18) <| Y_ne0 26 dX11_stand_21 rfl (fun q => X_le (xle_n (xle_n (xle_n (xle_n xle_0)))) (k1 q)) (fun q => X_le (xle_s (xle_s (xle_s (xle_n xle_0)))) (k2 q))
theorem bX11_stand_24 {d : Nat} {g : xSt} {r : Option Value × xSt}  (k : r = (some (.int (-1)), g)) : xX (d + 1) mX11_stand 24 [none, none, none, none] [] g = some r :=
  Y_iconst (-1) dX11_stand_24 ic_m1 <| Y_iret dX11_stand_25 rfl k
theorem bX11_stand_26 {d : Nat} {g : xSt} {r : Option Value × xSt} {a1 a2 r32 : Int32} {g32 : xSt} (W : xWf g) (hk32 : xCallM d mX5_standing [.ref 69, .int a1, .int a2] g = some (some (.int r32), g32)) (W32 : xWf g32) (k : r = (some (.int r32), g32)) : xX (d + 1) mX11_stand 26 [some (.ref 0), some (.int a1), some (.int a2), none] [] g = some r :=
  Y_aload_n dX11_stand_26 rfl <| Y_getR dX11_stand_27 f_10_48 (by rw [ft_10_9]; rfl) (xis W 0 10 s_0 (Nat.le_of_ble_eq_true rfl)) (xptr W 0 9 p_0_9) <| Y_iload_n dX11_stand_30 rfl <| Y_iload_n dX11_stand_31 rfl <| Y_callV1 dX11_stand_32 cl_10_200 rfl rfl (xis W 69 5 s_69 (Nat.le_of_ble_eq_true rfl)) rfl rfl rfl (hk32) <| Y_iret dX11_stand_35 rfl k
theorem bX11_surely_0 {d : Nat} {g : xSt} {r : Option Value × xSt} {a1 a2 a3 r6 : Int32} {g6 : xSt} (W : xWf g) (hk6 : xCallM d mX10_hasTwo [.ref (tw g), .int a1, .int a2] g = some (some (.int r6), g6)) (W6 : xWf g6) (k1 : r6 = 0 → xX (d + 1) mX11_surely 27 [none, none, none, none, none] [] g6 = some r) (k2 : ¬ (r6 = 0) → xX (d + 1) mX11_surely 12 [some (.ref 0), some (.int a1), some (.int a2), some (.int a3), none] [] g6 = some r) : xX (d + 1) mX11_surely 0 [some (.ref 0), some (.int a1), some (.int a2), some (.int a3), none] [] g = some r :=
  Y_aload_n dX11_surely_0 rfl <| Y_getR dX11_surely_1 f_10_20 (by rw [ft_10_4]; rfl) (xis W 0 10 s_0 (Nat.le_of_ble_eq_true rfl)) (xtwR W) <| Y_iload_n dX11_surely_4 rfl <| Y_iload_n dX11_surely_5 rfl <| Y_callV1 dX11_surely_6 cl_10_203 rfl rfl (xisS W (xtw W)) rfl rfl rfl (hk6) <| Y_eq0 27 dX11_surely_9 rfl (fun q => X_le (xle_n (xle_n (xle_n (xle_n (xle_n xle_0))))) (k1 q)) (fun q => X_le (xle_s (xle_s (xle_s (xle_s (xle_n xle_0))))) (k2 q))
theorem bX11_surely_12 {d : Nat} {g : xSt} {r : Option Value × xSt} {a1 a2 a3 r21 : Int32} {g21 : xSt} (W : xWf g) (hk21 : xCallM d mX5_know [.ref 69, .ref 32, .int a3] g = some (some (.int r21), g21)) (W21 : xWf g21) (k1 : r21 = 0 → xX (d + 1) mX11_surely 27 [none, none, none, none, none] [] g21 = some r) (k2 : ¬ (r21 = 0) → xX (d + 1) mX11_surely 29 [some (.ref 0), some (.int a1), some (.int a2), none, none] [] g21 = some r) : xX (d + 1) mX11_surely 12 [some (.ref 0), some (.int a1), some (.int a2), some (.int a3), none] [] g = some r :=
  Y_aload_n dX11_surely_12 rfl <| Y_getR dX11_surely_13 f_10_48 (by rw [ft_10_9]; rfl) (xis W 0 10 s_0 (Nat.le_of_ble_eq_true rfl)) (xptr W 0 9 p_0_9) <| Y_aload_n dX11_surely_16 rfl <| Y_getR dX11_surely_17 f_10_37 (by rw [ft_10_7]; rfl) (xis W 0 10 s_0 (Nat.le_of_ble_eq_true rfl)) (xptr W 0 7 p_0_7) <| Y_iload_n dX11_surely_20 rfl <| Y_callV1 dX11_surely_21 cl_10_192 rfl rfl (xis W 69 5 s_69 (Nat.le_of_ble_eq_true rfl)) rfl rfl rfl (hk21) <| Y_ne0 29 dX11_surely_24 rfl (fun q => X_le (xle_n (xle_n (xle_n (xle_n (xle_n xle_0))))) (k1 q)) (fun q => X_le (xle_s (xle_s (xle_s (xle_n (xle_n xle_0))))) (k2 q))
theorem bX11_surely_27 {d : Nat} {g : xSt} {r : Option Value × xSt}  (k : r = (some (.int (-1)), g)) : xX (d + 1) mX11_surely 27 [none, none, none, none, none] [] g = some r :=
  Y_iconst (-1) dX11_surely_27 ic_m1 <| Y_iret dX11_surely_28 rfl k
theorem bX11_surely_29 {d : Nat} {g : xSt} {r : Option Value × xSt} {a1 a2 : Int32} (k : xX (d + 1) mX11_surely 32 [some (.ref 0), some (.int a1), some (.int a2), none, some (.int 0)] [] g = some r) : xX (d + 1) mX11_surely 29 [some (.ref 0), some (.int a1), some (.int a2), none, none] [] g = some r :=
  Y_iconst 0 dX11_surely_29 ic_0 <| Y_istore dX11_surely_30 rfl rfl <| X_le (xle_s (xle_s (xle_s (xle_n (xle_s xle_0))))) k
theorem bX11_surely_32 {d : Nat} {g : xSt} {r : Option Value × xSt} {a1 a2 a4 : Int32} (k1 : 2 < a4 → xX (d + 1) mX11_surely 61 [none, none, none, none, none] [] g = some r) (k2 : ¬ (2 < a4) → xX (d + 1) mX11_surely 38 [some (.ref 0), some (.int a1), some (.int a2), none, some (.int a4)] [] g = some r) : xX (d + 1) mX11_surely 32 [some (.ref 0), some (.int a1), some (.int a2), none, some (.int a4)] [] g = some r :=
  Y_iload dX11_surely_32 rfl <| Y_iconst 2 dX11_surely_34 ic_2 <| Y_gt 61 dX11_surely_35 rfl (fun q => X_le (xle_n (xle_n (xle_n (xle_n (xle_n xle_0))))) (k1 q)) (fun q => X_le (xle_s (xle_s (xle_s (xle_n (xle_s xle_0))))) (k2 q))
theorem bX11_surely_38 {d : Nat} {g : xSt} {r : Option Value × xSt} {a1 a2 a4 r46 : Int32} {g46 : xSt} (W : xWf g) (hk46 : xCallM d mX5_isSure [.ref 69, .int a1, .int a2, .int a4] g = some (some (.int r46), g46)) (W46 : xWf g46) (k1 : r46 = 0 → xX (d + 1) mX11_surely 55 [some (.ref 0), some (.int a1), some (.int a2), none, some (.int a4)] [] g46 = some r) (k2 : ¬ (r46 = 0) → xX (d + 1) mX11_surely 52 [none, none, none, none, some (.int a4)] [] g46 = some r) : xX (d + 1) mX11_surely 38 [some (.ref 0), some (.int a1), some (.int a2), none, some (.int a4)] [] g = some r :=
  Y_aload_n dX11_surely_38 rfl <| Y_getR dX11_surely_39 f_10_48 (by rw [ft_10_9]; rfl) (xis W 0 10 s_0 (Nat.le_of_ble_eq_true rfl)) (xptr W 0 9 p_0_9) <| Y_iload_n dX11_surely_42 rfl <| Y_iload_n dX11_surely_43 rfl <| Y_iload dX11_surely_44 rfl <| Y_callV1 dX11_surely_46 cl_10_206 rfl rfl (xis W 69 5 s_69 (Nat.le_of_ble_eq_true rfl)) rfl rfl rfl (hk46) <| Y_eq0 55 dX11_surely_49 rfl (fun q => X_le (xle_s (xle_s (xle_s (xle_n (xle_s xle_0))))) (k1 q)) (fun q => X_le (xle_n (xle_n (xle_n (xle_n (xle_s xle_0))))) (k2 q))
theorem bX11_surely_52 {d : Nat} {g : xSt} {r : Option Value × xSt} {a4 : Int32} (k : r = (some (.int a4), g)) : xX (d + 1) mX11_surely 52 [none, none, none, none, some (.int a4)] [] g = some r :=
  Y_iload dX11_surely_52 rfl <| Y_iret dX11_surely_54 rfl k
theorem bX11_surely_55 {d : Nat} {g : xSt} {r : Option Value × xSt} {a1 a2 a4 : Int32} (k : xX (d + 1) mX11_surely 32 [some (.ref 0), some (.int a1), some (.int a2), none, some (.int (a4 + 1))] [] g = some r) : xX (d + 1) mX11_surely 55 [some (.ref 0), some (.int a1), some (.int a2), none, some (.int a4)] [] g = some r :=
  Y_iinc 1 dX11_surely_55 rfl ic_1 rfl rfl <| Y_goto 32 dX11_surely_58 rfl <| X_le (xle_s (xle_s (xle_s (xle_n (xle_s xle_0))))) k
theorem bX11_surely_61 {d : Nat} {g : xSt} {r : Option Value × xSt}  (k : r = (some (.int (-2)), g)) : xX (d + 1) mX11_surely 61 [none, none, none, none, none] [] g = some r :=
  Y_bipush (-2) dX11_surely_61 bp_m2 <| Y_iret dX11_surely_63 rfl k
theorem bX11_fewest_0 {d : Nat} {g : xSt} {r : Option Value × xSt} {a1 a2 a3 r4 : Int32} {g4 : xSt} (W : xWf g) (hk4 : xCallM d mX11_prepare [.ref 0, .int a1, .int a2, .int a3] g = some (some (.int r4), g4)) (W4 : xWf g4) (k1 : r4 = 0 → xX (d + 1) mX11_fewest 19 [some (.ref 0), none, none, none, none] [] g4 = some r) (k2 : ¬ (r4 = 0) → xX (d + 1) mX11_fewest 14 [none, none, none, none, some (.int r4)] [] g4 = some r) : xX (d + 1) mX11_fewest 0 [some (.ref 0), some (.int a1), some (.int a2), some (.int a3), none] [] g = some r :=
  Y_aload_n dX11_fewest_0 rfl <| Y_iload_n dX11_fewest_1 rfl <| Y_iload_n dX11_fewest_2 rfl <| Y_iload_n dX11_fewest_3 rfl <| Y_callV1 dX11_fewest_4 cl_10_232 rfl rfl (xis W 0 10 s_0 (Nat.le_of_ble_eq_true rfl)) rfl rfl rfl (hk4) <| Y_istore dX11_fewest_7 rfl rfl <| Y_iload dX11_fewest_9 rfl <| Y_eq0 19 dX11_fewest_11 rfl (fun q => X_le (xle_s (xle_n (xle_n (xle_n (xle_n xle_0))))) (k1 q)) (fun q => X_le (xle_n (xle_n (xle_n (xle_n (xle_s xle_0))))) (k2 q))
theorem bX11_fewest_14 {d : Nat} {g : xSt} {r : Option Value × xSt} {a4 : Int32} (k : xX (d + 1) mX11_fewest 26 [none, none, none, none, none] [.int a4] g = some r) : xX (d + 1) mX11_fewest 14 [none, none, none, none, some (.int a4)] [] g = some r :=
  Y_iload dX11_fewest_14 rfl <| Y_goto 26 dX11_fewest_16 rfl <| X_le (xle_n (xle_n (xle_n (xle_n (xle_n xle_0))))) k
theorem bX11_fewest_19 {d : Nat} {g : xSt} {r : Option Value × xSt} {r23 : Int32} {g23 : xSt} (W : xWf g) (hk23 : xCallM d mX8_fewestOfAll [.ref 76] g = some (some (.int r23), g23)) (W23 : xWf g23) (k : xX (d + 1) mX11_fewest 26 [none, none, none, none, none] [.int r23] g23 = some r) : xX (d + 1) mX11_fewest 19 [some (.ref 0), none, none, none, none] [] g = some r :=
  Y_aload_n dX11_fewest_19 rfl <| Y_getR dX11_fewest_20 f_10_55 (by rw [ft_10_10]; rfl) (xis W 0 10 s_0 (Nat.le_of_ble_eq_true rfl)) (xptr W 0 10 p_0_10) <| Y_callV1 dX11_fewest_23 cl_10_235 rfl rfl (xis W 76 7 s_76 (Nat.le_of_ble_eq_true rfl)) rfl rfl rfl (hk23) <| X_le (xle_n (xle_n (xle_n (xle_n (xle_n xle_0))))) k
theorem bX11_fewest_26 {d : Nat} {g : xSt} {r : Option Value × xSt} {s0 : Int32} (k : r = (some (.int s0), g)) : xX (d + 1) mX11_fewest 26 [none, none, none, none, none] [.int s0] g = some r :=
  Y_iret dX11_fewest_26 rfl k
theorem bX11_prepare_0 {d : Nat} {g : xSt} {r : Option Value × xSt} {a1 a2 a3 r6 : Int32} {g6 : xSt} (W : xWf g) (hk6 : xCallM d mX10_hasGoal [.ref (tw g), .int a1, .int a2] g = some (some (.int r6), g6)) (W6 : xWf g6) (k1 : r6 = 0 → xX (d + 1) mX11_prepare 12 [none, none, none, none, none, none] [] g6 = some r) (k2 : ¬ (r6 = 0) → xX (d + 1) mX11_prepare 14 [some (.ref 0), some (.int a1), some (.int a2), some (.int a3), none, none] [] g6 = some r) : xX (d + 1) mX11_prepare 0 [some (.ref 0), some (.int a1), some (.int a2), some (.int a3), none, none] [] g = some r :=
  Y_aload_n dX11_prepare_0 rfl <| Y_getR dX11_prepare_1 f_10_20 (by rw [ft_10_4]; rfl) (xis W 0 10 s_0 (Nat.le_of_ble_eq_true rfl)) (xtwR W) <| Y_iload_n dX11_prepare_4 rfl <| Y_iload_n dX11_prepare_5 rfl <| Y_callV1 dX11_prepare_6 cl_10_210 rfl rfl (xisS W (xtw W)) rfl rfl rfl (hk6) <| Y_ne0 14 dX11_prepare_9 rfl (fun q => X_le (xle_n (xle_n (xle_n (xle_n (xle_n (xle_n xle_0)))))) (k1 q)) (fun q => X_le (xle_s (xle_s (xle_s (xle_s (xle_n (xle_n xle_0)))))) (k2 q))
theorem bX11_prepare_12 {d : Nat} {g : xSt} {r : Option Value × xSt}  (k : r = (some (.int (-1)), g)) : xX (d + 1) mX11_prepare 12 [none, none, none, none, none, none] [] g = some r :=
  Y_iconst (-1) dX11_prepare_12 ic_m1 <| Y_iret dX11_prepare_13 rfl k
theorem bX11_prepare_14 {d : Nat} {g : xSt} {r : Option Value × xSt} {a1 a2 a3 r23 : Int32} {g23 : xSt} (W : xWf g) (hk23 : xCallM d mX5_know [.ref 69, .ref 32, .int a3] g = some (some (.int r23), g23)) (W23 : xWf g23) (k1 : r23 ≤ 120 → xX (d + 1) mX11_prepare 34 [some (.ref 0), some (.int a1), some (.int a2), none, none, none] [] g23 = some r) (k2 : ¬ (r23 ≤ 120) → xX (d + 1) mX11_prepare 31 [none, none, none, none, none, none] [] g23 = some r) : xX (d + 1) mX11_prepare 14 [some (.ref 0), some (.int a1), some (.int a2), some (.int a3), none, none] [] g = some r :=
  Y_aload_n dX11_prepare_14 rfl <| Y_getR dX11_prepare_15 f_10_48 (by rw [ft_10_9]; rfl) (xis W 0 10 s_0 (Nat.le_of_ble_eq_true rfl)) (xptr W 0 9 p_0_9) <| Y_aload_n dX11_prepare_18 rfl <| Y_getR dX11_prepare_19 f_10_37 (by rw [ft_10_7]; rfl) (xis W 0 10 s_0 (Nat.le_of_ble_eq_true rfl)) (xptr W 0 7 p_0_7) <| Y_iload_n dX11_prepare_22 rfl <| Y_callV1 dX11_prepare_23 cl_10_192 rfl rfl (xis W 69 5 s_69 (Nat.le_of_ble_eq_true rfl)) rfl rfl rfl (hk23) <| Y_bipush 120 dX11_prepare_26 bp_120 <| Y_le 34 dX11_prepare_28 rfl (fun q => X_le (xle_s (xle_s (xle_s (xle_n (xle_n (xle_n xle_0)))))) (k1 q)) (fun q => X_le (xle_n (xle_n (xle_n (xle_n (xle_n (xle_n xle_0)))))) (k2 q))
theorem bX11_prepare_31 {d : Nat} {g : xSt} {r : Option Value × xSt}  (k : r = (some (.int (-2)), g)) : xX (d + 1) mX11_prepare 31 [none, none, none, none, none, none] [] g = some r :=
  Y_bipush (-2) dX11_prepare_31 bp_m2 <| Y_iret dX11_prepare_33 rfl k
theorem bX11_prepare_34 {d : Nat} {g : xSt} {r : Option Value × xSt} {a1 a2 : Int32} (W : xWf g) (k1 : a1 = 2 → xX (d + 1) mX11_prepare 65 [some (.ref 0), some (.int a1), some (.int a2), none, none, none] [.int (xI g (tw g) 0), .ref 76] g = some r) (k2 : ¬ (a1 = 2) → xX (d + 1) mX11_prepare 50 [some (.ref 0), some (.int a1), some (.int a2), none, none, none] [.int (xI g (tw g) 0), .ref 76] g = some r) : xX (d + 1) mX11_prepare 34 [some (.ref 0), some (.int a1), some (.int a2), none, none, none] [] g = some r :=
  Y_aload_n dX11_prepare_34 rfl <| Y_getR dX11_prepare_35 f_10_55 (by rw [ft_10_10]; rfl) (xis W 0 10 s_0 (Nat.le_of_ble_eq_true rfl)) (xptr W 0 10 p_0_10) <| Y_aload_n dX11_prepare_38 rfl <| Y_getR dX11_prepare_39 f_10_20 (by rw [ft_10_4]; rfl) (xis W 0 10 s_0 (Nat.le_of_ble_eq_true rfl)) (xtwR W) <| Y_getI dX11_prepare_42 f_10_126 ft_9_0 (xisS W (xtw W)) <| Y_iload_n dX11_prepare_45 rfl <| Y_iconst 2 dX11_prepare_46 ic_2 <| Y_eq 65 dX11_prepare_47 rfl (fun q => X_le (xle_s (xle_s (xle_s (xle_n (xle_n (xle_n xle_0)))))) (k1 q)) (fun q => X_le (xle_s (xle_s (xle_s (xle_n (xle_n (xle_n xle_0)))))) (k2 q))
theorem bX11_prepare_50 {d : Nat} {g : xSt} {r : Option Value × xSt} {a1 a2 s0 : Int32} (k1 : a1 = 1 → xX (d + 1) mX11_prepare 55 [some (.ref 0), some (.int a1), some (.int a2), none, none, none] [.int s0, .ref 76] g = some r) (k2 : ¬ (a1 = 1) → xX (d + 1) mX11_prepare 69 [some (.ref 0), some (.int a1), some (.int a2), none, none, none] [.int s0, .ref 76] g = some r) : xX (d + 1) mX11_prepare 50 [some (.ref 0), some (.int a1), some (.int a2), none, none, none] [.int s0, .ref 76] g = some r :=
  Y_iload_n dX11_prepare_50 rfl <| Y_iconst 1 dX11_prepare_51 ic_1 <| Y_ne 69 dX11_prepare_52 rfl (fun q => X_le (xle_s (xle_s (xle_s (xle_n (xle_n (xle_n xle_0)))))) (k1 q)) (fun q => X_le (xle_s (xle_s (xle_s (xle_n (xle_n (xle_n xle_0)))))) (k2 q))
theorem bX11_prepare_55 {d : Nat} {g : xSt} {r : Option Value × xSt} {a1 a2 s0 : Int32} (W : xWf g) (k1 : (xI g (tw g) 3) = 0 → xX (d + 1) mX11_prepare 65 [some (.ref 0), some (.int a1), some (.int a2), none, none, none] [.int s0, .ref 76] g = some r) (k2 : ¬ ((xI g (tw g) 3) = 0) → xX (d + 1) mX11_prepare 69 [some (.ref 0), some (.int a1), some (.int a2), none, none, none] [.int s0, .ref 76] g = some r) : xX (d + 1) mX11_prepare 55 [some (.ref 0), some (.int a1), some (.int a2), none, none, none] [.int s0, .ref 76] g = some r :=
  Y_aload_n dX11_prepare_55 rfl <| Y_getR dX11_prepare_56 f_10_20 (by rw [ft_10_4]; rfl) (xis W 0 10 s_0 (Nat.le_of_ble_eq_true rfl)) (xtwR W) <| Y_getZ dX11_prepare_59 f_10_213 ft_9_3 (xisS W (xtw W)) <| Y_ne0 69 dX11_prepare_62 rfl (fun q => X_le (xle_s (xle_s (xle_s (xle_n (xle_n (xle_n xle_0)))))) (k1 q)) (fun q => X_le (xle_s (xle_s (xle_s (xle_n (xle_n (xle_n xle_0)))))) (k2 q))
theorem bX11_prepare_65 {d : Nat} {g : xSt} {r : Option Value × xSt} {a1 a2 s0 : Int32} (k : xX (d + 1) mX11_prepare 70 [some (.ref 0), some (.int a1), some (.int a2), none, none, none] [.int 1, .int s0, .ref 76] g = some r) : xX (d + 1) mX11_prepare 65 [some (.ref 0), some (.int a1), some (.int a2), none, none, none] [.int s0, .ref 76] g = some r :=
  Y_iconst 1 dX11_prepare_65 ic_1 <| Y_goto 70 dX11_prepare_66 rfl <| X_le (xle_s (xle_s (xle_s (xle_n (xle_n (xle_n xle_0)))))) k
theorem bX11_prepare_69 {d : Nat} {g : xSt} {r : Option Value × xSt} {a1 a2 s0 : Int32} (k : xX (d + 1) mX11_prepare 70 [some (.ref 0), some (.int a1), some (.int a2), none, none, none] [.int 0, .int s0, .ref 76] g = some r) : xX (d + 1) mX11_prepare 69 [some (.ref 0), some (.int a1), some (.int a2), none, none, none] [.int s0, .ref 76] g = some r :=
  Y_iconst 0 dX11_prepare_69 ic_0 <| X_le (xle_s (xle_s (xle_s (xle_n (xle_n (xle_n xle_0)))))) k
theorem bX11_prepare_70 {d : Nat} {g : xSt} {r : Option Value × xSt} {a1 a2 s1 s0 : Int32} (k1 : a1 = 2 → xX (d + 1) mX11_prepare 75 [some (.ref 0), some (.int a1), some (.int a2), none, none, none] [.int s0, .int s1, .ref 76] g = some r) (k2 : ¬ (a1 = 2) → xX (d + 1) mX11_prepare 81 [some (.ref 0), some (.int a1), some (.int a2), none, none, none] [.int s0, .int s1, .ref 76] g = some r) : xX (d + 1) mX11_prepare 70 [some (.ref 0), some (.int a1), some (.int a2), none, none, none] [.int s0, .int s1, .ref 76] g = some r :=
  Y_iload_n dX11_prepare_70 rfl <| Y_iconst 2 dX11_prepare_71 ic_2 <| Y_ne 81 dX11_prepare_72 rfl (fun q => X_le (xle_s (xle_s (xle_s (xle_n (xle_n (xle_n xle_0)))))) (k1 q)) (fun q => X_le (xle_s (xle_s (xle_s (xle_n (xle_n (xle_n xle_0)))))) (k2 q))
theorem bX11_prepare_75 {d : Nat} {g : xSt} {r : Option Value × xSt} {a1 a2 s1 s0 : Int32} (k : xX (d + 1) mX11_prepare 82 [some (.ref 0), some (.int a1), some (.int a2), none, none, none] [.int (1 <<< (a2 &&& 31)), .int s0, .int s1, .ref 76] g = some r) : xX (d + 1) mX11_prepare 75 [some (.ref 0), some (.int a1), some (.int a2), none, none, none] [.int s0, .int s1, .ref 76] g = some r :=
  Y_iconst 1 dX11_prepare_75 ic_1 <| Y_iload_n dX11_prepare_76 rfl <| Y_ishl dX11_prepare_77 <| Y_goto 82 dX11_prepare_78 rfl <| X_le (xle_s (xle_s (xle_s (xle_n (xle_n (xle_n xle_0)))))) k
theorem bX11_prepare_81 {d : Nat} {g : xSt} {r : Option Value × xSt} {a1 a2 s1 s0 : Int32} (k : xX (d + 1) mX11_prepare 82 [some (.ref 0), some (.int a1), some (.int a2), none, none, none] [.int 0, .int s0, .int s1, .ref 76] g = some r) : xX (d + 1) mX11_prepare 81 [some (.ref 0), some (.int a1), some (.int a2), none, none, none] [.int s0, .int s1, .ref 76] g = some r :=
  Y_iconst 0 dX11_prepare_81 ic_0 <| X_le (xle_s (xle_s (xle_s (xle_n (xle_n (xle_n xle_0)))))) k
theorem bX11_prepare_82 {d : Nat} {g : xSt} {r : Option Value × xSt} {a1 a2 s2 s1 s0 : Int32} {g82 : xSt} (W : xWf g) (hk82 : xCallM d mX8_begin [.ref 76, .int s2, .int s1, .int s0] g = some (none, g82)) (W82 : xWf g82) (k : xX (d + 1) mX11_prepare 88 [some (.ref 0), some (.int a1), some (.int a2), none, some (.int 0), none] [] g82 = some r) : xX (d + 1) mX11_prepare 82 [some (.ref 0), some (.int a1), some (.int a2), none, none, none] [.int s0, .int s1, .int s2, .ref 76] g = some r :=
  Y_callV0 dX11_prepare_82 cl_10_216 rfl rfl (xis W 76 7 s_76 (Nat.le_of_ble_eq_true rfl)) rfl rfl rfl (hk82) <| Y_iconst 0 dX11_prepare_85 ic_0 <| Y_istore dX11_prepare_86 rfl rfl <| X_le (xle_s (xle_s (xle_s (xle_n (xle_s (xle_n xle_0)))))) k
theorem bX11_prepare_88 {d : Nat} {g : xSt} {r : Option Value × xSt} {a1 a2 a4 : Int32} (W : xWf g) (k1 : (xI g 69 5) ≤ a4 → xX (d + 1) mX11_prepare 144 [some (.ref 0), none, none, none, none, none] [] g = some r) (k2 : ¬ ((xI g 69 5) ≤ a4) → xX (d + 1) mX11_prepare 100 [some (.ref 0), some (.int a1), some (.int a2), none, some (.int a4), none] [] g = some r) : xX (d + 1) mX11_prepare 88 [some (.ref 0), some (.int a1), some (.int a2), none, some (.int a4), none] [] g = some r :=
  Y_iload dX11_prepare_88 rfl <| Y_aload_n dX11_prepare_90 rfl <| Y_getR dX11_prepare_91 f_10_48 (by rw [ft_10_9]; rfl) (xis W 0 10 s_0 (Nat.le_of_ble_eq_true rfl)) (xptr W 0 9 p_0_9) <| Y_getI dX11_prepare_94 f_10_167 ft_5_5 (xis W 69 5 s_69 (Nat.le_of_ble_eq_true rfl)) <| Y_ge 144 dX11_prepare_97 rfl (fun q => X_le (xle_s (xle_n (xle_n (xle_n (xle_n (xle_n xle_0)))))) (k1 q)) (fun q => X_le (xle_s (xle_s (xle_s (xle_n (xle_s (xle_n xle_0)))))) (k2 q))
theorem bX11_prepare_100 {d : Nat} {g : xSt} {r : Option Value × xSt} {a1 a2 a4 r106 r121 r132 : Int32} {g106 g121 g132 g135 : xSt} (W : xWf g) (hk106 : xCallM d mX5_leftAt [.ref 69, .int a4] g = some (some (.int r106), g106)) (W106 : xWf g106) (hk121 : xCallM d mX5_markOf [.ref 69, .int r106] g106 = some (some (.int r121), g121)) (W121 : xWf g121) (hk132 : xCallM d mX5_goalOf [.ref 69, .int r106, .int a1, .int a2] g121 = some (some (.int r132), g132)) (W132 : xWf g132) (hk135 : xCallM d mX8_add [.ref 76, .int r121, .int r132] g132 = some (none, g135)) (W135 : xWf g135) (k : xX (d + 1) mX11_prepare 88 [some (.ref 0), some (.int a1), some (.int a2), none, some (.int (a4 + 1)), none] [] g135 = some r) : xX (d + 1) mX11_prepare 100 [some (.ref 0), some (.int a1), some (.int a2), none, some (.int a4), none] [] g = some r :=
  Y_aload_n dX11_prepare_100 rfl <| Y_getR dX11_prepare_101 f_10_48 (by rw [ft_10_9]; rfl) (xis W 0 10 s_0 (Nat.le_of_ble_eq_true rfl)) (xptr W 0 9 p_0_9) <| Y_iload dX11_prepare_104 rfl <| Y_callV1 dX11_prepare_106 cl_10_170 rfl rfl (xis W 69 5 s_69 (Nat.le_of_ble_eq_true rfl)) rfl rfl rfl (hk106) <| Y_istore dX11_prepare_109 rfl rfl <| Y_aload_n dX11_prepare_111 rfl <| Y_getR dX11_prepare_112 f_10_55 (by rw [ft_10_10]; rfl) (xis W106 0 10 s_0 (Nat.le_of_ble_eq_true rfl)) (xptr W106 0 10 p_0_10) <| Y_aload_n dX11_prepare_115 rfl <| Y_getR dX11_prepare_116 f_10_48 (by rw [ft_10_9]; rfl) (xis W106 0 10 s_0 (Nat.le_of_ble_eq_true rfl)) (xptr W106 0 9 p_0_9) <| Y_iload dX11_prepare_119 rfl <| Y_callV1 dX11_prepare_121 cl_10_219 rfl rfl (xis W106 69 5 s_69 (Nat.le_of_ble_eq_true rfl)) rfl rfl rfl (hk121) <| Y_aload_n dX11_prepare_124 rfl <| Y_getR dX11_prepare_125 f_10_48 (by rw [ft_10_9]; rfl) (xis W121 0 10 s_0 (Nat.le_of_ble_eq_true rfl)) (xptr W121 0 9 p_0_9) <| Y_iload dX11_prepare_128 rfl <| Y_iload_n dX11_prepare_130 rfl <| Y_iload_n dX11_prepare_131 rfl <| Y_callV1 dX11_prepare_132 cl_10_222 rfl rfl (xis W121 69 5 s_69 (Nat.le_of_ble_eq_true rfl)) rfl rfl rfl (hk132) <| Y_callV0 dX11_prepare_135 cl_10_225 rfl rfl (xis W132 76 7 s_76 (Nat.le_of_ble_eq_true rfl)) rfl rfl rfl (hk135) <| Y_iinc 1 dX11_prepare_138 rfl ic_1 rfl rfl <| Y_goto 88 dX11_prepare_141 rfl <| X_le (xle_s (xle_s (xle_s (xle_n (xle_s (xle_n xle_0)))))) k
theorem bX11_prepare_144 {d : Nat} {g : xSt} {r : Option Value × xSt} {g148 : xSt} (W : xWf g) (hk148 : xCallM d mX8_finish [.ref 76] g = some (none, g148)) (W148 : xWf g148) (k : r = (some (.int 0), g148)) : xX (d + 1) mX11_prepare 144 [some (.ref 0), none, none, none, none, none] [] g = some r :=
  Y_aload_n dX11_prepare_144 rfl <| Y_getR dX11_prepare_145 f_10_55 (by rw [ft_10_10]; rfl) (xis W 0 10 s_0 (Nat.le_of_ble_eq_true rfl)) (xptr W 0 10 p_0_10) <| Y_callV0 dX11_prepare_148 cl_10_229 rfl rfl (xis W 76 7 s_76 (Nat.le_of_ble_eq_true rfl)) rfl rfl rfl (hk148) <| Y_iconst 0 dX11_prepare_151 ic_0 <| Y_iret dX11_prepare_152 rfl k
theorem bX11_next_0 {d : Nat} {g : xSt} {r : Option Value × xSt} {a1 a2 a3 r4 : Int32} {g4 : xSt} (W : xWf g) (hk4 : xCallM d mX11_prepare [.ref 0, .int a1, .int a2, .int a3] g = some (some (.int r4), g4)) (W4 : xWf g4) (k1 : r4 = 0 → xX (d + 1) mX11_next 19 [some (.ref 0), none, none, none, none] [] g4 = some r) (k2 : ¬ (r4 = 0) → xX (d + 1) mX11_next 14 [none, none, none, none, some (.int r4)] [] g4 = some r) : xX (d + 1) mX11_next 0 [some (.ref 0), some (.int a1), some (.int a2), some (.int a3), none] [] g = some r :=
  Y_aload_n dX11_next_0 rfl <| Y_iload_n dX11_next_1 rfl <| Y_iload_n dX11_next_2 rfl <| Y_iload_n dX11_next_3 rfl <| Y_callV1 dX11_next_4 cl_10_232 rfl rfl (xis W 0 10 s_0 (Nat.le_of_ble_eq_true rfl)) rfl rfl rfl (hk4) <| Y_istore dX11_next_7 rfl rfl <| Y_iload dX11_next_9 rfl <| Y_eq0 19 dX11_next_11 rfl (fun q => X_le (xle_s (xle_n (xle_n (xle_n (xle_n xle_0))))) (k1 q)) (fun q => X_le (xle_n (xle_n (xle_n (xle_n (xle_s xle_0))))) (k2 q))
theorem bX11_next_14 {d : Nat} {g : xSt} {r : Option Value × xSt} {a4 : Int32} (k : xX (d + 1) mX11_next 26 [none, none, none, none, none] [.int a4] g = some r) : xX (d + 1) mX11_next 14 [none, none, none, none, some (.int a4)] [] g = some r :=
  Y_iload dX11_next_14 rfl <| Y_goto 26 dX11_next_16 rfl <| X_le (xle_n (xle_n (xle_n (xle_n (xle_n xle_0))))) k
theorem bX11_next_19 {d : Nat} {g : xSt} {r : Option Value × xSt} {r23 : Int32} {g23 : xSt} (W : xWf g) (hk23 : xCallM d mX8_nextOfFewest [.ref 76] g = some (some (.int r23), g23)) (W23 : xWf g23) (k : xX (d + 1) mX11_next 26 [none, none, none, none, none] [.int r23] g23 = some r) : xX (d + 1) mX11_next 19 [some (.ref 0), none, none, none, none] [] g = some r :=
  Y_aload_n dX11_next_19 rfl <| Y_getR dX11_next_20 f_10_55 (by rw [ft_10_10]; rfl) (xis W 0 10 s_0 (Nat.le_of_ble_eq_true rfl)) (xptr W 0 10 p_0_10) <| Y_callV1 dX11_next_23 cl_10_238 rfl rfl (xis W 76 7 s_76 (Nat.le_of_ble_eq_true rfl)) rfl rfl rfl (hk23) <| X_le (xle_n (xle_n (xle_n (xle_n (xle_n xle_0))))) k
theorem bX11_next_26 {d : Nat} {g : xSt} {r : Option Value × xSt} {s0 : Int32} (k : r = (some (.int s0), g)) : xX (d + 1) mX11_next 26 [none, none, none, none, none] [.int s0] g = some r :=
  Y_iret dX11_next_26 rfl k
theorem bX11_total_0 {d : Nat} {g : xSt} {r : Option Value × xSt} {a1 a2 a3 a4 : Int32} (k1 : a3 < 0 → xX (d + 1) mX11_total 9 [none, none, none, none, none, none] [] g = some r) (k2 : ¬ (a3 < 0) → xX (d + 1) mX11_total 4 [some (.ref 0), some (.int a1), some (.int a2), some (.int a3), some (.int a4), none] [] g = some r) : xX (d + 1) mX11_total 0 [some (.ref 0), some (.int a1), some (.int a2), some (.int a3), some (.int a4), none] [] g = some r :=
  Y_iload_n dX11_total_0 rfl <| Y_lt0 9 dX11_total_1 rfl (fun q => X_le (xle_n (xle_n (xle_n (xle_n (xle_n (xle_n xle_0)))))) (k1 q)) (fun q => X_le (xle_s (xle_s (xle_s (xle_s (xle_s (xle_n xle_0)))))) (k2 q))
theorem bX11_total_4 {d : Nat} {g : xSt} {r : Option Value × xSt} {a1 a2 a3 a4 : Int32} (k1 : a3 ≤ 1 → xX (d + 1) mX11_total 11 [some (.ref 0), some (.int a1), some (.int a2), some (.int a3), some (.int a4), none] [] g = some r) (k2 : ¬ (a3 ≤ 1) → xX (d + 1) mX11_total 9 [none, none, none, none, none, none] [] g = some r) : xX (d + 1) mX11_total 4 [some (.ref 0), some (.int a1), some (.int a2), some (.int a3), some (.int a4), none] [] g = some r :=
  Y_iload_n dX11_total_4 rfl <| Y_iconst 1 dX11_total_5 ic_1 <| Y_le 11 dX11_total_6 rfl (fun q => X_le (xle_s (xle_s (xle_s (xle_s (xle_s (xle_n xle_0)))))) (k1 q)) (fun q => X_le (xle_n (xle_n (xle_n (xle_n (xle_n (xle_n xle_0)))))) (k2 q))
theorem bX11_total_9 {d : Nat} {g : xSt} {r : Option Value × xSt}  (k : r = (some (.int (-1)), g)) : xX (d + 1) mX11_total 9 [none, none, none, none, none, none] [] g = some r :=
  Y_iconst (-1) dX11_total_9 ic_m1 <| Y_iret dX11_total_10 rfl k
theorem bX11_total_11 {d : Nat} {g : xSt} {r : Option Value × xSt} {a1 a2 a3 a4 r16 : Int32} {g16 : xSt} (W : xWf g) (hk16 : xCallM d mX11_prepare [.ref 0, .int a1, .int a2, .int a4] g = some (some (.int r16), g16)) (W16 : xWf g16) (k1 : r16 = 0 → xX (d + 1) mX11_total 29 [some (.ref 0), none, none, some (.int a3), none, none] [] g16 = some r) (k2 : ¬ (r16 = 0) → xX (d + 1) mX11_total 26 [none, none, none, none, none, some (.int r16)] [] g16 = some r) : xX (d + 1) mX11_total 11 [some (.ref 0), some (.int a1), some (.int a2), some (.int a3), some (.int a4), none] [] g = some r :=
  Y_aload_n dX11_total_11 rfl <| Y_iload_n dX11_total_12 rfl <| Y_iload_n dX11_total_13 rfl <| Y_iload dX11_total_14 rfl <| Y_callV1 dX11_total_16 cl_10_232 rfl rfl (xis W 0 10 s_0 (Nat.le_of_ble_eq_true rfl)) rfl rfl rfl (hk16) <| Y_istore dX11_total_19 rfl rfl <| Y_iload dX11_total_21 rfl <| Y_eq0 29 dX11_total_23 rfl (fun q => X_le (xle_s (xle_n (xle_n (xle_s (xle_n (xle_n xle_0)))))) (k1 q)) (fun q => X_le (xle_n (xle_n (xle_n (xle_n (xle_n (xle_s xle_0)))))) (k2 q))
theorem bX11_total_26 {d : Nat} {g : xSt} {r : Option Value × xSt} {a5 : Int32} (k : r = (some (.int a5), g)) : xX (d + 1) mX11_total 26 [none, none, none, none, none, some (.int a5)] [] g = some r :=
  Y_iload dX11_total_26 rfl <| Y_iret dX11_total_28 rfl k
theorem bX11_total_29 {d : Nat} {g : xSt} {r : Option Value × xSt} {a3 : Int32} (k1 : a3 = 0 → xX (d + 1) mX11_total 33 [some (.ref 0), none, none, none, none, none] [] g = some r) (k2 : ¬ (a3 = 0) → xX (d + 1) mX11_total 43 [some (.ref 0), none, none, none, none, none] [] g = some r) : xX (d + 1) mX11_total 29 [some (.ref 0), none, none, some (.int a3), none, none] [] g = some r :=
  Y_iload_n dX11_total_29 rfl <| Y_ne0 43 dX11_total_30 rfl (fun q => X_le (xle_s (xle_n (xle_n (xle_n (xle_n (xle_n xle_0)))))) (k1 q)) (fun q => X_le (xle_s (xle_n (xle_n (xle_n (xle_n (xle_n xle_0)))))) (k2 q))
theorem bX11_total_33 {d : Nat} {g : xSt} {r : Option Value × xSt} {r37 : Int32} {g37 : xSt} (W : xWf g) (hk37 : xCallM d mX8_sumOfAll [.ref 76] g = some (some (.int r37), g37)) (W37 : xWf g37) (k : xX (d + 1) mX11_total 50 [none, none, none, none, none, none] [.int r37] g37 = some r) : xX (d + 1) mX11_total 33 [some (.ref 0), none, none, none, none, none] [] g = some r :=
  Y_aload_n dX11_total_33 rfl <| Y_getR dX11_total_34 f_10_55 (by rw [ft_10_10]; rfl) (xis W 0 10 s_0 (Nat.le_of_ble_eq_true rfl)) (xptr W 0 10 p_0_10) <| Y_callV1 dX11_total_37 cl_10_241 rfl rfl (xis W 76 7 s_76 (Nat.le_of_ble_eq_true rfl)) rfl rfl rfl (hk37) <| Y_goto 50 dX11_total_40 rfl <| X_le (xle_n (xle_n (xle_n (xle_n (xle_n (xle_n xle_0)))))) k
theorem bX11_total_43 {d : Nat} {g : xSt} {r : Option Value × xSt} {r47 : Int32} {g47 : xSt} (W : xWf g) (hk47 : xCallM d mX8_nextOfSum [.ref 76] g = some (some (.int r47), g47)) (W47 : xWf g47) (k : xX (d + 1) mX11_total 50 [none, none, none, none, none, none] [.int r47] g47 = some r) : xX (d + 1) mX11_total 43 [some (.ref 0), none, none, none, none, none] [] g = some r :=
  Y_aload_n dX11_total_43 rfl <| Y_getR dX11_total_44 f_10_55 (by rw [ft_10_10]; rfl) (xis W 0 10 s_0 (Nat.le_of_ble_eq_true rfl)) (xptr W 0 10 p_0_10) <| Y_callV1 dX11_total_47 cl_10_244 rfl rfl (xis W 76 7 s_76 (Nat.le_of_ble_eq_true rfl)) rfl rfl rfl (hk47) <| X_le (xle_n (xle_n (xle_n (xle_n (xle_n (xle_n xle_0)))))) k
theorem bX11_total_50 {d : Nat} {g : xSt} {r : Option Value × xSt} {s0 : Int32} (k : r = (some (.int s0), g)) : xX (d + 1) mX11_total 50 [none, none, none, none, none, none] [.int s0] g = some r :=
  Y_iret dX11_total_50 rfl k
theorem bX11_atOnce_0 {d : Nat} {g : xSt} {r : Option Value × xSt} {a1 a2 a3 r4 : Int32} {g4 : xSt} (W : xWf g) (hk4 : xCallM d mX11_prepare [.ref 0, .int a1, .int a2, .int a3] g = some (some (.int r4), g4)) (W4 : xWf g4) (k1 : r4 = 0 → xX (d + 1) mX11_atOnce 19 [some (.ref 0), none, none, none, none] [] g4 = some r) (k2 : ¬ (r4 = 0) → xX (d + 1) mX11_atOnce 14 [none, none, none, none, some (.int r4)] [] g4 = some r) : xX (d + 1) mX11_atOnce 0 [some (.ref 0), some (.int a1), some (.int a2), some (.int a3), none] [] g = some r :=
  Y_aload_n dX11_atOnce_0 rfl <| Y_iload_n dX11_atOnce_1 rfl <| Y_iload_n dX11_atOnce_2 rfl <| Y_iload_n dX11_atOnce_3 rfl <| Y_callV1 dX11_atOnce_4 cl_10_232 rfl rfl (xis W 0 10 s_0 (Nat.le_of_ble_eq_true rfl)) rfl rfl rfl (hk4) <| Y_istore dX11_atOnce_7 rfl rfl <| Y_iload dX11_atOnce_9 rfl <| Y_eq0 19 dX11_atOnce_11 rfl (fun q => X_le (xle_s (xle_n (xle_n (xle_n (xle_n xle_0))))) (k1 q)) (fun q => X_le (xle_n (xle_n (xle_n (xle_n (xle_s xle_0))))) (k2 q))
theorem bX11_atOnce_14 {d : Nat} {g : xSt} {r : Option Value × xSt} {a4 : Int32} (k : xX (d + 1) mX11_atOnce 30 [none, none, none, none, none] [.int a4] g = some r) : xX (d + 1) mX11_atOnce 14 [none, none, none, none, some (.int a4)] [] g = some r :=
  Y_iload dX11_atOnce_14 rfl <| Y_goto 30 dX11_atOnce_16 rfl <| X_le (xle_n (xle_n (xle_n (xle_n (xle_n xle_0))))) k
theorem bX11_atOnce_19 {d : Nat} {g : xSt} {r : Option Value × xSt} {r27 : Int32} {g27 : xSt} (W : xWf g) (hk27 : xCallM d mX4_fewestPairs [.ref 88, .ref 76] g = some (some (.int r27), g27)) (W27 : xWf g27) (k : xX (d + 1) mX11_atOnce 30 [none, none, none, none, none] [.int r27] g27 = some r) : xX (d + 1) mX11_atOnce 19 [some (.ref 0), none, none, none, none] [] g = some r :=
  Y_aload_n dX11_atOnce_19 rfl <| Y_getR dX11_atOnce_20 f_10_62 (by rw [ft_10_11]; rfl) (xis W 0 10 s_0 (Nat.le_of_ble_eq_true rfl)) (xptr W 0 11 p_0_11) <| Y_aload_n dX11_atOnce_23 rfl <| Y_getR dX11_atOnce_24 f_10_55 (by rw [ft_10_10]; rfl) (xis W 0 10 s_0 (Nat.le_of_ble_eq_true rfl)) (xptr W 0 10 p_0_10) <| Y_callV1 dX11_atOnce_27 cl_10_247 rfl rfl (xis W 88 4 s_88 (Nat.le_of_ble_eq_true rfl)) rfl rfl rfl (hk27) <| X_le (xle_n (xle_n (xle_n (xle_n (xle_n xle_0))))) k
theorem bX11_atOnce_30 {d : Nat} {g : xSt} {r : Option Value × xSt} {s0 : Int32} (k : r = (some (.int s0), g)) : xX (d + 1) mX11_atOnce 30 [none, none, none, none, none] [.int s0] g = some r :=
  Y_iret dX11_atOnce_30 rfl k
theorem bX11_answers_0 {d : Nat} {g : xSt} {r : Option Value × xSt} {a1 a2 a3 a4 : Int32} (k1 : a3 < 0 → xX (d + 1) mX11_answers 37 [none, none, none, none, none] [] g = some r) (k2 : ¬ (a3 < 0) → xX (d + 1) mX11_answers 4 [some (.ref 0), some (.int a1), some (.int a2), some (.int a3), some (.int a4)] [] g = some r) : xX (d + 1) mX11_answers 0 [some (.ref 0), some (.int a1), some (.int a2), some (.int a3), some (.int a4)] [] g = some r :=
  Y_iload_n dX11_answers_0 rfl <| Y_lt0 37 dX11_answers_1 rfl (fun q => X_le (xle_n (xle_n (xle_n (xle_n (xle_n xle_0))))) (k1 q)) (fun q => X_le (xle_s (xle_s (xle_s (xle_s (xle_s xle_0))))) (k2 q))
theorem bX11_answers_4 {d : Nat} {g : xSt} {r : Option Value × xSt} {a1 a2 a3 a4 : Int32} (k1 : 2 < a3 → xX (d + 1) mX11_answers 37 [none, none, none, none, none] [] g = some r) (k2 : ¬ (2 < a3) → xX (d + 1) mX11_answers 9 [some (.ref 0), some (.int a1), some (.int a2), some (.int a3), some (.int a4)] [] g = some r) : xX (d + 1) mX11_answers 4 [some (.ref 0), some (.int a1), some (.int a2), some (.int a3), some (.int a4)] [] g = some r :=
  Y_iload_n dX11_answers_4 rfl <| Y_iconst 2 dX11_answers_5 ic_2 <| Y_gt 37 dX11_answers_6 rfl (fun q => X_le (xle_n (xle_n (xle_n (xle_n (xle_n xle_0))))) (k1 q)) (fun q => X_le (xle_s (xle_s (xle_s (xle_s (xle_s xle_0))))) (k2 q))
theorem bX11_answers_9 {d : Nat} {g : xSt} {r : Option Value × xSt} {a1 a2 a3 a4 r15 : Int32} {g15 : xSt} (W : xWf g) (hk15 : xCallM d mX10_hasGoal [.ref (tw g), .int a1, .int a2] g = some (some (.int r15), g15)) (W15 : xWf g15) (k1 : r15 = 0 → xX (d + 1) mX11_answers 37 [none, none, none, none, none] [] g15 = some r) (k2 : ¬ (r15 = 0) → xX (d + 1) mX11_answers 21 [some (.ref 0), some (.int a1), some (.int a2), some (.int a3), some (.int a4)] [] g15 = some r) : xX (d + 1) mX11_answers 9 [some (.ref 0), some (.int a1), some (.int a2), some (.int a3), some (.int a4)] [] g = some r :=
  Y_aload_n dX11_answers_9 rfl <| Y_getR dX11_answers_10 f_10_20 (by rw [ft_10_4]; rfl) (xis W 0 10 s_0 (Nat.le_of_ble_eq_true rfl)) (xtwR W) <| Y_iload_n dX11_answers_13 rfl <| Y_iload_n dX11_answers_14 rfl <| Y_callV1 dX11_answers_15 cl_10_210 rfl rfl (xisS W (xtw W)) rfl rfl rfl (hk15) <| Y_eq0 37 dX11_answers_18 rfl (fun q => X_le (xle_n (xle_n (xle_n (xle_n (xle_n xle_0))))) (k1 q)) (fun q => X_le (xle_s (xle_s (xle_s (xle_s (xle_s xle_0))))) (k2 q))
theorem bX11_answers_21 {d : Nat} {g : xSt} {r : Option Value × xSt} {a1 a2 a3 a4 r31 : Int32} {g31 : xSt} (W : xWf g) (hk31 : xCallM d mX5_know [.ref 69, .ref 32, .int a4] g = some (some (.int r31), g31)) (W31 : xWf g31) (k1 : r31 = 0 → xX (d + 1) mX11_answers 37 [none, none, none, none, none] [] g31 = some r) (k2 : ¬ (r31 = 0) → xX (d + 1) mX11_answers 39 [some (.ref 0), some (.int a1), some (.int a2), some (.int a3), none] [] g31 = some r) : xX (d + 1) mX11_answers 21 [some (.ref 0), some (.int a1), some (.int a2), some (.int a3), some (.int a4)] [] g = some r :=
  Y_aload_n dX11_answers_21 rfl <| Y_getR dX11_answers_22 f_10_48 (by rw [ft_10_9]; rfl) (xis W 0 10 s_0 (Nat.le_of_ble_eq_true rfl)) (xptr W 0 9 p_0_9) <| Y_aload_n dX11_answers_25 rfl <| Y_getR dX11_answers_26 f_10_37 (by rw [ft_10_7]; rfl) (xis W 0 10 s_0 (Nat.le_of_ble_eq_true rfl)) (xptr W 0 7 p_0_7) <| Y_iload dX11_answers_29 rfl <| Y_callV1 dX11_answers_31 cl_10_192 rfl rfl (xis W 69 5 s_69 (Nat.le_of_ble_eq_true rfl)) rfl rfl rfl (hk31) <| Y_ne0 39 dX11_answers_34 rfl (fun q => X_le (xle_n (xle_n (xle_n (xle_n (xle_n xle_0))))) (k1 q)) (fun q => X_le (xle_s (xle_s (xle_s (xle_s (xle_n xle_0))))) (k2 q))
theorem bX11_answers_37 {d : Nat} {g : xSt} {r : Option Value × xSt}  (k : r = (some (.int (-1)), g)) : xX (d + 1) mX11_answers 37 [none, none, none, none, none] [] g = some r :=
  Y_iconst (-1) dX11_answers_37 ic_m1 <| Y_iret dX11_answers_38 rfl k
theorem bX11_answers_39 {d : Nat} {g : xSt} {r : Option Value × xSt} {a1 a2 a3 r46 : Int32} {g46 : xSt} (W : xWf g) (hk46 : xCallM d mX5_answer [.ref 69, .int a1, .int a2, .int a3] g = some (some (.int r46), g46)) (W46 : xWf g46) (k : r = (some (.int r46), g46)) : xX (d + 1) mX11_answers 39 [some (.ref 0), some (.int a1), some (.int a2), some (.int a3), none] [] g = some r :=
  Y_aload_n dX11_answers_39 rfl <| Y_getR dX11_answers_40 f_10_48 (by rw [ft_10_9]; rfl) (xis W 0 10 s_0 (Nat.le_of_ble_eq_true rfl)) (xptr W 0 9 p_0_9) <| Y_iload_n dX11_answers_43 rfl <| Y_iload_n dX11_answers_44 rfl <| Y_iload_n dX11_answers_45 rfl <| Y_callV1 dX11_answers_46 cl_10_251 rfl rfl (xis W 69 5 s_69 (Nat.le_of_ble_eq_true rfl)) rfl rfl rfl (hk46) <| Y_iret dX11_answers_49 rfl k
theorem bX11_judged_0 {d : Nat} {g : xSt} {r : Option Value × xSt} {a1 a2 a3 a4 a5 : Int32} (k1 : a1 < 0 → xX (d + 1) mX11_judged 38 [none, none, none, none, none, none, none, none] [] g = some r) (k2 : ¬ (a1 < 0) → xX (d + 1) mX11_judged 4 [some (.ref 0), some (.int a1), some (.int a2), some (.int a3), some (.int a4), some (.int a5), none, none] [] g = some r) : xX (d + 1) mX11_judged 0 [some (.ref 0), some (.int a1), some (.int a2), some (.int a3), some (.int a4), some (.int a5), none, none] [] g = some r :=
  Y_iload_n dX11_judged_0 rfl <| Y_lt0 38 dX11_judged_1 rfl (fun q => X_le (xle_n (xle_n (xle_n (xle_n (xle_n (xle_n (xle_n (xle_n xle_0)))))))) (k1 q)) (fun q => X_le (xle_s (xle_s (xle_s (xle_s (xle_s (xle_s (xle_n (xle_n xle_0)))))))) (k2 q))
theorem bX11_judged_4 {d : Nat} {g : xSt} {r : Option Value × xSt} {a1 a2 a3 a4 a5 : Int32} (W : xWf g) (k1 : (xI g (tw g) 8) ≤ a1 → xX (d + 1) mX11_judged 38 [none, none, none, none, none, none, none, none] [] g = some r) (k2 : ¬ ((xI g (tw g) 8) ≤ a1) → xX (d + 1) mX11_judged 15 [some (.ref 0), some (.int a1), some (.int a2), some (.int a3), some (.int a4), some (.int a5), none, none] [] g = some r) : xX (d + 1) mX11_judged 4 [some (.ref 0), some (.int a1), some (.int a2), some (.int a3), some (.int a4), some (.int a5), none, none] [] g = some r :=
  Y_iload_n dX11_judged_4 rfl <| Y_aload_n dX11_judged_5 rfl <| Y_getR dX11_judged_6 f_10_20 (by rw [ft_10_4]; rfl) (xis W 0 10 s_0 (Nat.le_of_ble_eq_true rfl)) (xtwR W) <| Y_getI dX11_judged_9 f_10_254 ft_9_8 (xisS W (xtw W)) <| Y_ge 38 dX11_judged_12 rfl (fun q => X_le (xle_n (xle_n (xle_n (xle_n (xle_n (xle_n (xle_n (xle_n xle_0)))))))) (k1 q)) (fun q => X_le (xle_s (xle_s (xle_s (xle_s (xle_s (xle_s (xle_n (xle_n xle_0)))))))) (k2 q))
theorem bX11_judged_15 {d : Nat} {g : xSt} {r : Option Value × xSt} {a1 a2 a3 a4 a5 : Int32} (k1 : a4 < 0 → xX (d + 1) mX11_judged 38 [none, none, none, none, none, none, none, none] [] g = some r) (k2 : ¬ (a4 < 0) → xX (d + 1) mX11_judged 20 [some (.ref 0), some (.int a1), some (.int a2), some (.int a3), some (.int a4), some (.int a5), none, none] [] g = some r) : xX (d + 1) mX11_judged 15 [some (.ref 0), some (.int a1), some (.int a2), some (.int a3), some (.int a4), some (.int a5), none, none] [] g = some r :=
  Y_iload dX11_judged_15 rfl <| Y_lt0 38 dX11_judged_17 rfl (fun q => X_le (xle_n (xle_n (xle_n (xle_n (xle_n (xle_n (xle_n (xle_n xle_0)))))))) (k1 q)) (fun q => X_le (xle_s (xle_s (xle_s (xle_s (xle_s (xle_s (xle_n (xle_n xle_0)))))))) (k2 q))
theorem bX11_judged_20 {d : Nat} {g : xSt} {r : Option Value × xSt} {a1 a2 a3 a4 a5 : Int32} (k1 : 2 < a4 → xX (d + 1) mX11_judged 38 [none, none, none, none, none, none, none, none] [] g = some r) (k2 : ¬ (2 < a4) → xX (d + 1) mX11_judged 26 [some (.ref 0), some (.int a1), some (.int a2), some (.int a3), some (.int a4), some (.int a5), none, none] [] g = some r) : xX (d + 1) mX11_judged 20 [some (.ref 0), some (.int a1), some (.int a2), some (.int a3), some (.int a4), some (.int a5), none, none] [] g = some r :=
  Y_iload dX11_judged_20 rfl <| Y_iconst 2 dX11_judged_22 ic_2 <| Y_gt 38 dX11_judged_23 rfl (fun q => X_le (xle_n (xle_n (xle_n (xle_n (xle_n (xle_n (xle_n (xle_n xle_0)))))))) (k1 q)) (fun q => X_le (xle_s (xle_s (xle_s (xle_s (xle_s (xle_s (xle_n (xle_n xle_0)))))))) (k2 q))
theorem bX11_judged_26 {d : Nat} {g : xSt} {r : Option Value × xSt} {a1 a2 a3 a4 a5 r32 : Int32} {g32 : xSt} (W : xWf g) (hk32 : xCallM d mX10_hasGoal [.ref (tw g), .int a2, .int a3] g = some (some (.int r32), g32)) (W32 : xWf g32) (k1 : r32 = 0 → xX (d + 1) mX11_judged 38 [none, none, none, none, none, none, none, none] [] g32 = some r) (k2 : ¬ (r32 = 0) → xX (d + 1) mX11_judged 40 [some (.ref 0), some (.int a1), some (.int a2), some (.int a3), some (.int a4), some (.int a5), none, none] [] g32 = some r) : xX (d + 1) mX11_judged 26 [some (.ref 0), some (.int a1), some (.int a2), some (.int a3), some (.int a4), some (.int a5), none, none] [] g = some r :=
  Y_aload_n dX11_judged_26 rfl <| Y_getR dX11_judged_27 f_10_20 (by rw [ft_10_4]; rfl) (xis W 0 10 s_0 (Nat.le_of_ble_eq_true rfl)) (xtwR W) <| Y_iload_n dX11_judged_30 rfl <| Y_iload_n dX11_judged_31 rfl <| Y_callV1 dX11_judged_32 cl_10_210 rfl rfl (xisS W (xtw W)) rfl rfl rfl (hk32) <| Y_ne0 40 dX11_judged_35 rfl (fun q => X_le (xle_n (xle_n (xle_n (xle_n (xle_n (xle_n (xle_n (xle_n xle_0)))))))) (k1 q)) (fun q => X_le (xle_s (xle_s (xle_s (xle_s (xle_s (xle_s (xle_n (xle_n xle_0)))))))) (k2 q))
theorem bX11_judged_38 {d : Nat} {g : xSt} {r : Option Value × xSt}  (k : r = (some (.int (-1)), g)) : xX (d + 1) mX11_judged 38 [none, none, none, none, none, none, none, none] [] g = some r :=
  Y_iconst (-1) dX11_judged_38 ic_m1 <| Y_iret dX11_judged_39 rfl k
theorem bX11_judged_40 {d : Nat} {g : xSt} {r : Option Value × xSt} {a1 a2 a3 a4 a5 r50 : Int32} {g50 g58 : xSt} (W : xWf g) (hk50 : xCallM d mX5_know [.ref 69, .ref 32, .int a5] g = some (some (.int r50), g50)) (W50 : xWf g50) (hk58 : xCallM d mX2_begin [.ref 94] g50 = some (none, g58)) (W58 : xWf g58) (k : xX (d + 1) mX11_judged 64 [some (.ref 0), some (.int a1), some (.int a2), some (.int a3), some (.int a4), none, some (.int 0), none] [] g58 = some r) : xX (d + 1) mX11_judged 40 [some (.ref 0), some (.int a1), some (.int a2), some (.int a3), some (.int a4), some (.int a5), none, none] [] g = some r :=
  Y_aload_n dX11_judged_40 rfl <| Y_getR dX11_judged_41 f_10_48 (by rw [ft_10_9]; rfl) (xis W 0 10 s_0 (Nat.le_of_ble_eq_true rfl)) (xptr W 0 9 p_0_9) <| Y_aload_n dX11_judged_44 rfl <| Y_getR dX11_judged_45 f_10_37 (by rw [ft_10_7]; rfl) (xis W 0 10 s_0 (Nat.le_of_ble_eq_true rfl)) (xptr W 0 7 p_0_7) <| Y_iload dX11_judged_48 rfl <| Y_callV1 dX11_judged_50 cl_10_192 rfl rfl (xis W 69 5 s_69 (Nat.le_of_ble_eq_true rfl)) rfl rfl rfl (hk50) <| Y_pop dX11_judged_53 rfl <| Y_aload_n dX11_judged_54 rfl <| Y_getR dX11_judged_55 f_10_76 (by rw [ft_10_13]; rfl) (xis W50 0 10 s_0 (Nat.le_of_ble_eq_true rfl)) (xptr W50 0 13 p_0_13) <| Y_callV0 dX11_judged_58 cl_10_257 rfl rfl (xis W50 94 2 s_94 (Nat.le_of_ble_eq_true rfl)) rfl rfl rfl (hk58) <| Y_iconst 0 dX11_judged_61 ic_0 <| Y_istore dX11_judged_62 rfl rfl <| X_le (xle_s (xle_s (xle_s (xle_s (xle_s (xle_n (xle_s (xle_n xle_0)))))))) k
theorem bX11_judged_64 {d : Nat} {g : xSt} {r : Option Value × xSt} {a1 a2 a3 a4 a6 : Int32} (W : xWf g) (k1 : (xI g 69 5) ≤ a6 → xX (d + 1) mX11_judged 122 [some (.ref 0), none, none, none, some (.int a4), none, none, none] [] g = some r) (k2 : ¬ ((xI g 69 5) ≤ a6) → xX (d + 1) mX11_judged 76 [some (.ref 0), some (.int a1), some (.int a2), some (.int a3), some (.int a4), none, some (.int a6), none] [] g = some r) : xX (d + 1) mX11_judged 64 [some (.ref 0), some (.int a1), some (.int a2), some (.int a3), some (.int a4), none, some (.int a6), none] [] g = some r :=
  Y_iload dX11_judged_64 rfl <| Y_aload_n dX11_judged_66 rfl <| Y_getR dX11_judged_67 f_10_48 (by rw [ft_10_9]; rfl) (xis W 0 10 s_0 (Nat.le_of_ble_eq_true rfl)) (xptr W 0 9 p_0_9) <| Y_getI dX11_judged_70 f_10_167 ft_5_5 (xis W 69 5 s_69 (Nat.le_of_ble_eq_true rfl)) <| Y_ge 122 dX11_judged_73 rfl (fun q => X_le (xle_s (xle_n (xle_n (xle_n (xle_s (xle_n (xle_n (xle_n xle_0)))))))) (k1 q)) (fun q => X_le (xle_s (xle_s (xle_s (xle_s (xle_s (xle_n (xle_s (xle_n xle_0)))))))) (k2 q))
theorem bX11_judged_76 {d : Nat} {g : xSt} {r : Option Value × xSt} {a1 a2 a3 a4 a6 r82 r110 : Int32} {g82 g110 g113 : xSt} (W : xWf g) (hk82 : xCallM d mX5_leftAt [.ref 69, .int a6] g = some (some (.int r82), g82)) (W82 : xWf g82) (hk110 : xCallM d mX5_goalOf [.ref 69, .int r82, .int a2, .int a3] g82 = some (some (.int r110), g110)) (W110 : xWf g110) (hk113 : xCallM d mX2_follow [.ref 94, .ref (tw g82), .int a1, .ref 69, .int r82, .int r110] g110 = some (none, g113)) (W113 : xWf g113) (k : xX (d + 1) mX11_judged 64 [some (.ref 0), some (.int a1), some (.int a2), some (.int a3), some (.int a4), none, some (.int (a6 + 1)), none] [] g113 = some r) : xX (d + 1) mX11_judged 76 [some (.ref 0), some (.int a1), some (.int a2), some (.int a3), some (.int a4), none, some (.int a6), none] [] g = some r :=
  Y_aload_n dX11_judged_76 rfl <| Y_getR dX11_judged_77 f_10_48 (by rw [ft_10_9]; rfl) (xis W 0 10 s_0 (Nat.le_of_ble_eq_true rfl)) (xptr W 0 9 p_0_9) <| Y_iload dX11_judged_80 rfl <| Y_callV1 dX11_judged_82 cl_10_170 rfl rfl (xis W 69 5 s_69 (Nat.le_of_ble_eq_true rfl)) rfl rfl rfl (hk82) <| Y_istore dX11_judged_85 rfl rfl <| Y_aload_n dX11_judged_87 rfl <| Y_getR dX11_judged_88 f_10_76 (by rw [ft_10_13]; rfl) (xis W82 0 10 s_0 (Nat.le_of_ble_eq_true rfl)) (xptr W82 0 13 p_0_13) <| Y_aload_n dX11_judged_91 rfl <| Y_getR dX11_judged_92 f_10_20 (by rw [ft_10_4]; rfl) (xis W82 0 10 s_0 (Nat.le_of_ble_eq_true rfl)) (xtwR W82) <| Y_iload_n dX11_judged_95 rfl <| Y_aload_n dX11_judged_96 rfl <| Y_getR dX11_judged_97 f_10_48 (by rw [ft_10_9]; rfl) (xis W82 0 10 s_0 (Nat.le_of_ble_eq_true rfl)) (xptr W82 0 9 p_0_9) <| Y_iload dX11_judged_100 rfl <| Y_aload_n dX11_judged_102 rfl <| Y_getR dX11_judged_103 f_10_48 (by rw [ft_10_9]; rfl) (xis W82 0 10 s_0 (Nat.le_of_ble_eq_true rfl)) (xptr W82 0 9 p_0_9) <| Y_iload dX11_judged_106 rfl <| Y_iload_n dX11_judged_108 rfl <| Y_iload_n dX11_judged_109 rfl <| Y_callV1 dX11_judged_110 cl_10_222 rfl rfl (xis W82 69 5 s_69 (Nat.le_of_ble_eq_true rfl)) rfl rfl rfl (hk110) <| Y_callV0 dX11_judged_113 cl_10_259 rfl rfl (xis W110 94 2 s_94 (Nat.le_of_ble_eq_true rfl)) rfl rfl rfl (hk113) <| Y_iinc 1 dX11_judged_116 rfl ic_1 rfl rfl <| Y_goto 64 dX11_judged_119 rfl <| X_le (xle_s (xle_s (xle_s (xle_s (xle_s (xle_n (xle_s (xle_n xle_0)))))))) k
theorem bX11_judged_122 {d : Nat} {g : xSt} {r : Option Value × xSt} {a4 : Int32} (k1 : a4 = 0 → xX (d + 1) mX11_judged 127 [some (.ref 0), none, none, none, none, none, none, none] [] g = some r) (k2 : ¬ (a4 = 0) → xX (d + 1) mX11_judged 137 [some (.ref 0), none, none, none, some (.int a4), none, none, none] [] g = some r) : xX (d + 1) mX11_judged 122 [some (.ref 0), none, none, none, some (.int a4), none, none, none] [] g = some r :=
  Y_iload dX11_judged_122 rfl <| Y_ne0 137 dX11_judged_124 rfl (fun q => X_le (xle_s (xle_n (xle_n (xle_n (xle_n (xle_n (xle_n (xle_n xle_0)))))))) (k1 q)) (fun q => X_le (xle_s (xle_n (xle_n (xle_n (xle_s (xle_n (xle_n (xle_n xle_0)))))))) (k2 q))
theorem bX11_judged_127 {d : Nat} {g : xSt} {r : Option Value × xSt} {r131 : Int32} {g131 : xSt} (W : xWf g) (hk131 : xCallM d mX2_unknown [.ref 94] g = some (some (.int r131), g131)) (W131 : xWf g131) (k : xX (d + 1) mX11_judged 160 [none, none, none, none, none, none, none, none] [.int r131] g131 = some r) : xX (d + 1) mX11_judged 127 [some (.ref 0), none, none, none, none, none, none, none] [] g = some r :=
  Y_aload_n dX11_judged_127 rfl <| Y_getR dX11_judged_128 f_10_76 (by rw [ft_10_13]; rfl) (xis W 0 10 s_0 (Nat.le_of_ble_eq_true rfl)) (xptr W 0 13 p_0_13) <| Y_callV1 dX11_judged_131 cl_10_263 rfl rfl (xis W 94 2 s_94 (Nat.le_of_ble_eq_true rfl)) rfl rfl rfl (hk131) <| Y_goto 160 dX11_judged_134 rfl <| X_le (xle_n (xle_n (xle_n (xle_n (xle_n (xle_n (xle_n (xle_n xle_0)))))))) k
theorem bX11_judged_137 {d : Nat} {g : xSt} {r : Option Value × xSt} {a4 : Int32} (k1 : a4 = 1 → xX (d + 1) mX11_judged 143 [some (.ref 0), none, none, none, none, none, none, none] [] g = some r) (k2 : ¬ (a4 = 1) → xX (d + 1) mX11_judged 153 [some (.ref 0), none, none, none, none, none, none, none] [] g = some r) : xX (d + 1) mX11_judged 137 [some (.ref 0), none, none, none, some (.int a4), none, none, none] [] g = some r :=
  Y_iload dX11_judged_137 rfl <| Y_iconst 1 dX11_judged_139 ic_1 <| Y_ne 153 dX11_judged_140 rfl (fun q => X_le (xle_s (xle_n (xle_n (xle_n (xle_n (xle_n (xle_n (xle_n xle_0)))))))) (k1 q)) (fun q => X_le (xle_s (xle_n (xle_n (xle_n (xle_n (xle_n (xle_n (xle_n xle_0)))))))) (k2 q))
theorem bX11_judged_143 {d : Nat} {g : xSt} {r : Option Value × xSt}  (W : xWf g) (k : xX (d + 1) mX11_judged 160 [none, none, none, none, none, none, none, none] [.int (xI g 94 3)] g = some r) : xX (d + 1) mX11_judged 143 [some (.ref 0), none, none, none, none, none, none, none] [] g = some r :=
  Y_aload_n dX11_judged_143 rfl <| Y_getR dX11_judged_144 f_10_76 (by rw [ft_10_13]; rfl) (xis W 0 10 s_0 (Nat.le_of_ble_eq_true rfl)) (xptr W 0 13 p_0_13) <| Y_getI dX11_judged_147 f_10_266 ft_2_3 (xis W 94 2 s_94 (Nat.le_of_ble_eq_true rfl)) <| Y_goto 160 dX11_judged_150 rfl <| X_le (xle_n (xle_n (xle_n (xle_n (xle_n (xle_n (xle_n (xle_n xle_0)))))))) k
theorem bX11_judged_153 {d : Nat} {g : xSt} {r : Option Value × xSt}  (W : xWf g) (k : xX (d + 1) mX11_judged 160 [none, none, none, none, none, none, none, none] [.int (xI g 94 4)] g = some r) : xX (d + 1) mX11_judged 153 [some (.ref 0), none, none, none, none, none, none, none] [] g = some r :=
  Y_aload_n dX11_judged_153 rfl <| Y_getR dX11_judged_154 f_10_76 (by rw [ft_10_13]; rfl) (xis W 0 10 s_0 (Nat.le_of_ble_eq_true rfl)) (xptr W 0 13 p_0_13) <| Y_getI dX11_judged_157 f_10_269 ft_2_4 (xis W 94 2 s_94 (Nat.le_of_ble_eq_true rfl)) <| X_le (xle_n (xle_n (xle_n (xle_n (xle_n (xle_n (xle_n (xle_n xle_0)))))))) k
theorem bX11_judged_160 {d : Nat} {g : xSt} {r : Option Value × xSt} {s0 : Int32} (k : r = (some (.int s0), g)) : xX (d + 1) mX11_judged 160 [none, none, none, none, none, none, none, none] [.int s0] g = some r :=
  Y_iret dX11_judged_160 rfl k
theorem bX11_trusty_0 {d : Nat} {g : xSt} {r : Option Value × xSt} {a1 a2 a3 r4 : Int32} {g4 : xSt} (W : xWf g) (hk4 : xCallM d mX11_prepare [.ref 0, .int a1, .int a2, .int a3] g = some (some (.int r4), g4)) (W4 : xWf g4) (k1 : r4 = 0 → xX (d + 1) mX11_trusty 17 [some (.ref 0), none, none, none, none, none] [] g4 = some r) (k2 : ¬ (r4 = 0) → xX (d + 1) mX11_trusty 14 [none, none, none, none, some (.int r4), none] [] g4 = some r) : xX (d + 1) mX11_trusty 0 [some (.ref 0), some (.int a1), some (.int a2), some (.int a3), none, none] [] g = some r :=
  Y_aload_n dX11_trusty_0 rfl <| Y_iload_n dX11_trusty_1 rfl <| Y_iload_n dX11_trusty_2 rfl <| Y_iload_n dX11_trusty_3 rfl <| Y_callV1 dX11_trusty_4 cl_10_232 rfl rfl (xis W 0 10 s_0 (Nat.le_of_ble_eq_true rfl)) rfl rfl rfl (hk4) <| Y_istore dX11_trusty_7 rfl rfl <| Y_iload dX11_trusty_9 rfl <| Y_eq0 17 dX11_trusty_11 rfl (fun q => X_le (xle_s (xle_n (xle_n (xle_n (xle_n (xle_n xle_0)))))) (k1 q)) (fun q => X_le (xle_n (xle_n (xle_n (xle_n (xle_s (xle_n xle_0)))))) (k2 q))
theorem bX11_trusty_14 {d : Nat} {g : xSt} {r : Option Value × xSt} {a4 : Int32} (k : r = (some (.int a4), g)) : xX (d + 1) mX11_trusty 14 [none, none, none, none, some (.int a4), none] [] g = some r :=
  Y_iload dX11_trusty_14 rfl <| Y_iret dX11_trusty_16 rfl k
theorem bX11_trusty_17 {d : Nat} {g : xSt} {r : Option Value × xSt}  (W : xWf g) (k1 : (xI g 76 2) ≤ 6 → xX (d + 1) mX11_trusty 32 [some (.ref 0), none, none, none, none, none] [] g = some r) (k2 : ¬ ((xI g 76 2) ≤ 6) → xX (d + 1) mX11_trusty 29 [none, none, none, none, none, none] [] g = some r) : xX (d + 1) mX11_trusty 17 [some (.ref 0), none, none, none, none, none] [] g = some r :=
  Y_aload_n dX11_trusty_17 rfl <| Y_getR dX11_trusty_18 f_10_55 (by rw [ft_10_10]; rfl) (xis W 0 10 s_0 (Nat.le_of_ble_eq_true rfl)) (xptr W 0 10 p_0_10) <| Y_getI dX11_trusty_21 f_10_272 ft_7_2 (xis W 76 7 s_76 (Nat.le_of_ble_eq_true rfl)) <| Y_bipush 6 dX11_trusty_24 bp_6 <| Y_le 32 dX11_trusty_26 rfl (fun q => X_le (xle_s (xle_n (xle_n (xle_n (xle_n (xle_n xle_0)))))) (k1 q)) (fun q => X_le (xle_n (xle_n (xle_n (xle_n (xle_n (xle_n xle_0)))))) (k2 q))
theorem bX11_trusty_29 {d : Nat} {g : xSt} {r : Option Value × xSt}  (k : r = (some (.int (-2)), g)) : xX (d + 1) mX11_trusty 29 [none, none, none, none, none, none] [] g = some r :=
  Y_bipush (-2) dX11_trusty_29 bp_m2 <| Y_iret dX11_trusty_31 rfl k
theorem bX11_trusty_32 {d : Nat} {g : xSt} {r : Option Value × xSt} {r40 : Int32} {g40 : xSt} (W : xWf g) (hk40 : xCallM d mX3_fewestWithALie [.ref 90, .ref 76] g = some (some (.int r40), g40)) (W40 : xWf g40) (k1 : r40 ≤ 12 → xX (d + 1) mX11_trusty 57 [none, none, none, none, none, some (.int r40)] [] g40 = some r) (k2 : ¬ (r40 ≤ 12) → xX (d + 1) mX11_trusty 52 [none, none, none, none, none, none] [] g40 = some r) : xX (d + 1) mX11_trusty 32 [some (.ref 0), none, none, none, none, none] [] g = some r :=
  Y_aload_n dX11_trusty_32 rfl <| Y_getR dX11_trusty_33 f_10_69 (by rw [ft_10_12]; rfl) (xis W 0 10 s_0 (Nat.le_of_ble_eq_true rfl)) (xptr W 0 12 p_0_12) <| Y_aload_n dX11_trusty_36 rfl <| Y_getR dX11_trusty_37 f_10_55 (by rw [ft_10_10]; rfl) (xis W 0 10 s_0 (Nat.le_of_ble_eq_true rfl)) (xptr W 0 10 p_0_10) <| Y_callV1 dX11_trusty_40 cl_10_275 rfl rfl (xis W 90 3 s_90 (Nat.le_of_ble_eq_true rfl)) rfl rfl rfl (hk40) <| Y_istore dX11_trusty_43 rfl rfl <| Y_iload dX11_trusty_45 rfl <| Y_bipush 12 dX11_trusty_47 bp_12 <| Y_le 57 dX11_trusty_49 rfl (fun q => X_le (xle_n (xle_n (xle_n (xle_n (xle_n (xle_s xle_0)))))) (k1 q)) (fun q => X_le (xle_n (xle_n (xle_n (xle_n (xle_n (xle_n xle_0)))))) (k2 q))
theorem bX11_trusty_52 {d : Nat} {g : xSt} {r : Option Value × xSt}  (k : xX (d + 1) mX11_trusty 59 [none, none, none, none, none, none] [.int (-2)] g = some r) : xX (d + 1) mX11_trusty 52 [none, none, none, none, none, none] [] g = some r :=
  Y_bipush (-2) dX11_trusty_52 bp_m2 <| Y_goto 59 dX11_trusty_54 rfl <| X_le (xle_n (xle_n (xle_n (xle_n (xle_n (xle_n xle_0)))))) k
theorem bX11_trusty_57 {d : Nat} {g : xSt} {r : Option Value × xSt} {a5 : Int32} (k : xX (d + 1) mX11_trusty 59 [none, none, none, none, none, none] [.int a5] g = some r) : xX (d + 1) mX11_trusty 57 [none, none, none, none, none, some (.int a5)] [] g = some r :=
  Y_iload dX11_trusty_57 rfl <| X_le (xle_n (xle_n (xle_n (xle_n (xle_n (xle_n xle_0)))))) k
theorem bX11_trusty_59 {d : Nat} {g : xSt} {r : Option Value × xSt} {s0 : Int32} (k : r = (some (.int s0), g)) : xX (d + 1) mX11_trusty 59 [none, none, none, none, none, none] [.int s0] g = some r :=
  Y_iret dX11_trusty_59 rfl k
theorem bX11_odds_0 {d : Nat} {g : xSt} {r : Option Value × xSt} {a1 a2 a3 a4 r6 : Int32} {g6 : xSt} (W : xWf g) (hk6 : xCallM d mX10_hasTwo [.ref (tw g), .int a1, .int a2] g = some (some (.int r6), g6)) (W6 : xWf g6) (k1 : r6 = 0 → xX (d + 1) mX11_odds 21 [none, none, none, none, none, none] [] g6 = some r) (k2 : ¬ (r6 = 0) → xX (d + 1) mX11_odds 12 [some (.ref 0), some (.int a1), some (.int a2), some (.int a3), some (.int a4), none] [] g6 = some r) : xX (d + 1) mX11_odds 0 [some (.ref 0), some (.int a1), some (.int a2), some (.int a3), some (.int a4), none] [] g = some r :=
  Y_aload_n dX11_odds_0 rfl <| Y_getR dX11_odds_1 f_10_20 (by rw [ft_10_4]; rfl) (xis W 0 10 s_0 (Nat.le_of_ble_eq_true rfl)) (xtwR W) <| Y_iload_n dX11_odds_4 rfl <| Y_iload_n dX11_odds_5 rfl <| Y_callV1 dX11_odds_6 cl_10_203 rfl rfl (xisS W (xtw W)) rfl rfl rfl (hk6) <| Y_eq0 21 dX11_odds_9 rfl (fun q => X_le (xle_n (xle_n (xle_n (xle_n (xle_n (xle_n xle_0)))))) (k1 q)) (fun q => X_le (xle_s (xle_s (xle_s (xle_s (xle_s (xle_n xle_0)))))) (k2 q))
theorem bX11_odds_12 {d : Nat} {g : xSt} {r : Option Value × xSt} {a1 a2 a3 a4 : Int32} (k1 : a3 < 0 → xX (d + 1) mX11_odds 21 [none, none, none, none, none, none] [] g = some r) (k2 : ¬ (a3 < 0) → xX (d + 1) mX11_odds 16 [some (.ref 0), some (.int a1), some (.int a2), some (.int a3), some (.int a4), none] [] g = some r) : xX (d + 1) mX11_odds 12 [some (.ref 0), some (.int a1), some (.int a2), some (.int a3), some (.int a4), none] [] g = some r :=
  Y_iload_n dX11_odds_12 rfl <| Y_lt0 21 dX11_odds_13 rfl (fun q => X_le (xle_n (xle_n (xle_n (xle_n (xle_n (xle_n xle_0)))))) (k1 q)) (fun q => X_le (xle_s (xle_s (xle_s (xle_s (xle_s (xle_n xle_0)))))) (k2 q))
theorem bX11_odds_16 {d : Nat} {g : xSt} {r : Option Value × xSt} {a1 a2 a3 a4 : Int32} (k1 : a3 ≤ 1 → xX (d + 1) mX11_odds 23 [some (.ref 0), some (.int a1), some (.int a2), some (.int a3), some (.int a4), none] [] g = some r) (k2 : ¬ (a3 ≤ 1) → xX (d + 1) mX11_odds 21 [none, none, none, none, none, none] [] g = some r) : xX (d + 1) mX11_odds 16 [some (.ref 0), some (.int a1), some (.int a2), some (.int a3), some (.int a4), none] [] g = some r :=
  Y_iload_n dX11_odds_16 rfl <| Y_iconst 1 dX11_odds_17 ic_1 <| Y_le 23 dX11_odds_18 rfl (fun q => X_le (xle_s (xle_s (xle_s (xle_s (xle_s (xle_n xle_0)))))) (k1 q)) (fun q => X_le (xle_n (xle_n (xle_n (xle_n (xle_n (xle_n xle_0)))))) (k2 q))
theorem bX11_odds_21 {d : Nat} {g : xSt} {r : Option Value × xSt}  (k : r = (some (.int (-1)), g)) : xX (d + 1) mX11_odds 21 [none, none, none, none, none, none] [] g = some r :=
  Y_iconst (-1) dX11_odds_21 ic_m1 <| Y_iret dX11_odds_22 rfl k
theorem bX11_odds_23 {d : Nat} {g : xSt} {r : Option Value × xSt} {a1 a2 a3 a4 r33 : Int32} {g33 : xSt} (W : xWf g) (hk33 : xCallM d mX5_know [.ref 69, .ref 32, .int a4] g = some (some (.int r33), g33)) (W33 : xWf g33) (k1 : a3 = 0 → xX (d + 1) mX11_odds 42 [some (.ref 0), some (.int a1), some (.int a2), none, none, none] [] g33 = some r) (k2 : ¬ (a3 = 0) → xX (d + 1) mX11_odds 54 [none, none, none, none, none, some (.int r33)] [] g33 = some r) : xX (d + 1) mX11_odds 23 [some (.ref 0), some (.int a1), some (.int a2), some (.int a3), some (.int a4), none] [] g = some r :=
  Y_aload_n dX11_odds_23 rfl <| Y_getR dX11_odds_24 f_10_48 (by rw [ft_10_9]; rfl) (xis W 0 10 s_0 (Nat.le_of_ble_eq_true rfl)) (xptr W 0 9 p_0_9) <| Y_aload_n dX11_odds_27 rfl <| Y_getR dX11_odds_28 f_10_37 (by rw [ft_10_7]; rfl) (xis W 0 10 s_0 (Nat.le_of_ble_eq_true rfl)) (xptr W 0 7 p_0_7) <| Y_iload dX11_odds_31 rfl <| Y_callV1 dX11_odds_33 cl_10_192 rfl rfl (xis W 69 5 s_69 (Nat.le_of_ble_eq_true rfl)) rfl rfl rfl (hk33) <| Y_istore dX11_odds_36 rfl rfl <| Y_iload_n dX11_odds_38 rfl <| Y_ne0 54 dX11_odds_39 rfl (fun q => X_le (xle_s (xle_s (xle_s (xle_n (xle_n (xle_n xle_0)))))) (k1 q)) (fun q => X_le (xle_n (xle_n (xle_n (xle_n (xle_n (xle_s xle_0)))))) (k2 q))
theorem bX11_odds_42 {d : Nat} {g : xSt} {r : Option Value × xSt} {a1 a2 r48 : Int32} {g48 : xSt} (W : xWf g) (hk48 : xCallM d mX5_heavierIn [.ref 69, .int a1, .int a2] g = some (some (.int r48), g48)) (W48 : xWf g48) (k : xX (d + 1) mX11_odds 56 [none, none, none, none, none, none] [.int r48] g48 = some r) : xX (d + 1) mX11_odds 42 [some (.ref 0), some (.int a1), some (.int a2), none, none, none] [] g = some r :=
  Y_aload_n dX11_odds_42 rfl <| Y_getR dX11_odds_43 f_10_48 (by rw [ft_10_9]; rfl) (xis W 0 10 s_0 (Nat.le_of_ble_eq_true rfl)) (xptr W 0 9 p_0_9) <| Y_iload_n dX11_odds_46 rfl <| Y_iload_n dX11_odds_47 rfl <| Y_callV1 dX11_odds_48 cl_10_278 rfl rfl (xis W 69 5 s_69 (Nat.le_of_ble_eq_true rfl)) rfl rfl rfl (hk48) <| Y_goto 56 dX11_odds_51 rfl <| X_le (xle_n (xle_n (xle_n (xle_n (xle_n (xle_n xle_0)))))) k
theorem bX11_odds_54 {d : Nat} {g : xSt} {r : Option Value × xSt} {a5 : Int32} (k : xX (d + 1) mX11_odds 56 [none, none, none, none, none, none] [.int a5] g = some r) : xX (d + 1) mX11_odds 54 [none, none, none, none, none, some (.int a5)] [] g = some r :=
  Y_iload dX11_odds_54 rfl <| X_le (xle_n (xle_n (xle_n (xle_n (xle_n (xle_n xle_0)))))) k
theorem bX11_odds_56 {d : Nat} {g : xSt} {r : Option Value × xSt} {s0 : Int32} (k : r = (some (.int s0), g)) : xX (d + 1) mX11_odds 56 [none, none, none, none, none, none] [.int s0] g = some r :=
  Y_iret dX11_odds_56 rfl k
theorem bX11_evenest_0 {d : Nat} {g : xSt} {r : Option Value × xSt} {a1 : Int32} (W : xWf g) (k1 : (xI g (tw g) 0) < 2 → xX (d + 1) mX11_evenest 26 [none, none] [] g = some r) (k2 : ¬ ((xI g (tw g) 0) < 2) → xX (d + 1) mX11_evenest 11 [some (.ref 0), some (.int a1)] [] g = some r) : xX (d + 1) mX11_evenest 0 [some (.ref 0), some (.int a1)] [] g = some r :=
  Y_aload_n dX11_evenest_0 rfl <| Y_getR dX11_evenest_1 f_10_20 (by rw [ft_10_4]; rfl) (xis W 0 10 s_0 (Nat.le_of_ble_eq_true rfl)) (xtwR W) <| Y_getI dX11_evenest_4 f_10_126 ft_9_0 (xisS W (xtw W)) <| Y_iconst 2 dX11_evenest_7 ic_2 <| Y_lt 26 dX11_evenest_8 rfl (fun q => X_le (xle_n (xle_n xle_0)) (k1 q)) (fun q => X_le (xle_s (xle_s xle_0)) (k2 q))
theorem bX11_evenest_11 {d : Nat} {g : xSt} {r : Option Value × xSt} {a1 r20 : Int32} {g20 : xSt} (W : xWf g) (hk20 : xCallM d mX5_know [.ref 69, .ref 32, .int a1] g = some (some (.int r20), g20)) (W20 : xWf g20) (k1 : r20 = 0 → xX (d + 1) mX11_evenest 26 [none, none] [] g20 = some r) (k2 : ¬ (r20 = 0) → xX (d + 1) mX11_evenest 28 [some (.ref 0), none] [] g20 = some r) : xX (d + 1) mX11_evenest 11 [some (.ref 0), some (.int a1)] [] g = some r :=
  Y_aload_n dX11_evenest_11 rfl <| Y_getR dX11_evenest_12 f_10_48 (by rw [ft_10_9]; rfl) (xis W 0 10 s_0 (Nat.le_of_ble_eq_true rfl)) (xptr W 0 9 p_0_9) <| Y_aload_n dX11_evenest_15 rfl <| Y_getR dX11_evenest_16 f_10_37 (by rw [ft_10_7]; rfl) (xis W 0 10 s_0 (Nat.le_of_ble_eq_true rfl)) (xptr W 0 7 p_0_7) <| Y_iload_n dX11_evenest_19 rfl <| Y_callV1 dX11_evenest_20 cl_10_192 rfl rfl (xis W 69 5 s_69 (Nat.le_of_ble_eq_true rfl)) rfl rfl rfl (hk20) <| Y_ne0 28 dX11_evenest_23 rfl (fun q => X_le (xle_n (xle_n xle_0)) (k1 q)) (fun q => X_le (xle_s (xle_n xle_0)) (k2 q))
theorem bX11_evenest_26 {d : Nat} {g : xSt} {r : Option Value × xSt}  (k : r = (some (.int (-1)), g)) : xX (d + 1) mX11_evenest 26 [none, none] [] g = some r :=
  Y_iconst (-1) dX11_evenest_26 ic_m1 <| Y_iret dX11_evenest_27 rfl k
theorem bX11_evenest_28 {d : Nat} {g : xSt} {r : Option Value × xSt} {r32 : Int32} {g32 : xSt} (W : xWf g) (hk32 : xCallM d mX5_evenestTwo [.ref 69] g = some (some (.int r32), g32)) (W32 : xWf g32) (k : r = (some (.int r32), g32)) : xX (d + 1) mX11_evenest 28 [some (.ref 0), none] [] g = some r :=
  Y_aload_n dX11_evenest_28 rfl <| Y_getR dX11_evenest_29 f_10_48 (by rw [ft_10_9]; rfl) (xis W 0 10 s_0 (Nat.le_of_ble_eq_true rfl)) (xptr W 0 9 p_0_9) <| Y_callV1 dX11_evenest_32 cl_10_281 rfl rfl (xis W 69 5 s_69 (Nat.le_of_ble_eq_true rfl)) rfl rfl rfl (hk32) <| Y_iret dX11_evenest_35 rfl k
theorem bX11_covers_0 {d : Nat} {g : xSt} {r : Option Value × xSt} {a1 r16 : Int32} {g4 g16 : xSt} (W : xWf g) (hk4 : xCallM d mX9_empty [.ref 111] g = some (none, g4)) (W4 : xWf g4) (hk16 : xCallM d mX5_know [.ref 69, .ref 32, .int a1] g4 = some (some (.int r16), g16)) (W16 : xWf g16) (k1 : r16 = 0 → xX (d + 1) mX11_covers 22 [none, none, none, none] [] g16 = some r) (k2 : ¬ (r16 = 0) → xX (d + 1) mX11_covers 24 [some (.ref 0), none, none, none] [] g16 = some r) : xX (d + 1) mX11_covers 0 [some (.ref 0), some (.int a1), none, none] [] g = some r :=
  Y_aload_n dX11_covers_0 rfl <| Y_getR dX11_covers_1 f_10_90 (by rw [ft_10_15]; rfl) (xis W 0 10 s_0 (Nat.le_of_ble_eq_true rfl)) (xptr W 0 15 p_0_15) <| Y_callV0 dX11_covers_4 cl_10_119 rfl rfl (xis W 111 8 s_111 (Nat.le_of_ble_eq_true rfl)) rfl rfl rfl (hk4) <| Y_aload_n dX11_covers_7 rfl <| Y_getR dX11_covers_8 f_10_48 (by rw [ft_10_9]; rfl) (xis W4 0 10 s_0 (Nat.le_of_ble_eq_true rfl)) (xptr W4 0 9 p_0_9) <| Y_aload_n dX11_covers_11 rfl <| Y_getR dX11_covers_12 f_10_37 (by rw [ft_10_7]; rfl) (xis W4 0 10 s_0 (Nat.le_of_ble_eq_true rfl)) (xptr W4 0 7 p_0_7) <| Y_iload_n dX11_covers_15 rfl <| Y_callV1 dX11_covers_16 cl_10_192 rfl rfl (xis W4 69 5 s_69 (Nat.le_of_ble_eq_true rfl)) rfl rfl rfl (hk16) <| Y_ne0 24 dX11_covers_19 rfl (fun q => X_le (xle_n (xle_n (xle_n (xle_n xle_0)))) (k1 q)) (fun q => X_le (xle_s (xle_n (xle_n (xle_n xle_0)))) (k2 q))
theorem bX11_covers_22 {d : Nat} {g : xSt} {r : Option Value × xSt}  (k : r = (some (.int (-1)), g)) : xX (d + 1) mX11_covers 22 [none, none, none, none] [] g = some r :=
  Y_iconst (-1) dX11_covers_22 ic_m1 <| Y_iret dX11_covers_23 rfl k
theorem bX11_covers_24 {d : Nat} {g : xSt} {r : Option Value × xSt}  (k : xX (d + 1) mX11_covers 26 [some (.ref 0), none, some (.int 0), none] [] g = some r) : xX (d + 1) mX11_covers 24 [some (.ref 0), none, none, none] [] g = some r :=
  Y_iconst 0 dX11_covers_24 ic_0 <| Y_istore_n dX11_covers_25 rfl rfl <| X_le (xle_s (xle_n (xle_s (xle_n xle_0)))) k
theorem bX11_covers_26 {d : Nat} {g : xSt} {r : Option Value × xSt} {a2 : Int32} (W : xWf g) (k1 : (xI g (tw g) 0) ≤ a2 → xX (d + 1) mX11_covers 87 [some (.ref 0), none, none, none] [] g = some r) (k2 : ¬ ((xI g (tw g) 0) ≤ a2) → xX (d + 1) mX11_covers 37 [some (.ref 0), none, some (.int a2), none] [] g = some r) : xX (d + 1) mX11_covers 26 [some (.ref 0), none, some (.int a2), none] [] g = some r :=
  Y_iload_n dX11_covers_26 rfl <| Y_aload_n dX11_covers_27 rfl <| Y_getR dX11_covers_28 f_10_20 (by rw [ft_10_4]; rfl) (xis W 0 10 s_0 (Nat.le_of_ble_eq_true rfl)) (xtwR W) <| Y_getI dX11_covers_31 f_10_126 ft_9_0 (xisS W (xtw W)) <| Y_ge 87 dX11_covers_34 rfl (fun q => X_le (xle_s (xle_n (xle_n (xle_n xle_0)))) (k1 q)) (fun q => X_le (xle_s (xle_n (xle_s (xle_n xle_0)))) (k2 q))
theorem bX11_covers_37 {d : Nat} {g : xSt} {r : Option Value × xSt} {a2 : Int32} (k : xX (d + 1) mX11_covers 39 [some (.ref 0), none, some (.int a2), some (.int 0)] [] g = some r) : xX (d + 1) mX11_covers 37 [some (.ref 0), none, some (.int a2), none] [] g = some r :=
  Y_iconst 0 dX11_covers_37 ic_0 <| Y_istore_n dX11_covers_38 rfl rfl <| X_le (xle_s (xle_n (xle_s (xle_s xle_0)))) k
theorem bX11_covers_39 {d : Nat} {g : xSt} {r : Option Value × xSt} {a2 a3 : Int32} (W : xWf g) (k1 : (xI g (tw g) 0) ≤ a3 → xX (d + 1) mX11_covers 81 [some (.ref 0), none, some (.int a2), none] [] g = some r) (k2 : ¬ ((xI g (tw g) 0) ≤ a3) → xX (d + 1) mX11_covers 50 [some (.ref 0), none, some (.int a2), some (.int a3)] [] g = some r) : xX (d + 1) mX11_covers 39 [some (.ref 0), none, some (.int a2), some (.int a3)] [] g = some r :=
  Y_iload_n dX11_covers_39 rfl <| Y_aload_n dX11_covers_40 rfl <| Y_getR dX11_covers_41 f_10_20 (by rw [ft_10_4]; rfl) (xis W 0 10 s_0 (Nat.le_of_ble_eq_true rfl)) (xtwR W) <| Y_getI dX11_covers_44 f_10_126 ft_9_0 (xisS W (xtw W)) <| Y_ge 81 dX11_covers_47 rfl (fun q => X_le (xle_s (xle_n (xle_s (xle_n xle_0)))) (k1 q)) (fun q => X_le (xle_s (xle_n (xle_s (xle_s xle_0)))) (k2 q))
theorem bX11_covers_50 {d : Nat} {g : xSt} {r : Option Value × xSt} {a2 a3 r56 : Int32} {g56 : xSt} (W : xWf g) (hk56 : xCallM d mX5_isCover [.ref 69, .int a2, .int a3] g = some (some (.int r56), g56)) (W56 : xWf g56) (k1 : r56 = 0 → xX (d + 1) mX11_covers 75 [some (.ref 0), none, some (.int a2), some (.int a3)] [] g56 = some r) (k2 : ¬ (r56 = 0) → xX (d + 1) mX11_covers 62 [some (.ref 0), none, some (.int a2), some (.int a3)] [] g56 = some r) : xX (d + 1) mX11_covers 50 [some (.ref 0), none, some (.int a2), some (.int a3)] [] g = some r :=
  Y_aload_n dX11_covers_50 rfl <| Y_getR dX11_covers_51 f_10_48 (by rw [ft_10_9]; rfl) (xis W 0 10 s_0 (Nat.le_of_ble_eq_true rfl)) (xptr W 0 9 p_0_9) <| Y_iload_n dX11_covers_54 rfl <| Y_iload_n dX11_covers_55 rfl <| Y_callV1 dX11_covers_56 cl_10_284 rfl rfl (xis W 69 5 s_69 (Nat.le_of_ble_eq_true rfl)) rfl rfl rfl (hk56) <| Y_eq0 75 dX11_covers_59 rfl (fun q => X_le (xle_s (xle_n (xle_s (xle_s xle_0)))) (k1 q)) (fun q => X_le (xle_s (xle_n (xle_s (xle_s xle_0)))) (k2 q))
theorem bX11_covers_62 {d : Nat} {g : xSt} {r : Option Value × xSt} {a2 a3 : Int32} {g72 : xSt} (W : xWf g) (hk72 : xCallM d mX9_lay [.ref 111, .int ((10 * a2) + a3)] g = some (none, g72)) (W72 : xWf g72) (k : xX (d + 1) mX11_covers 75 [some (.ref 0), none, some (.int a2), some (.int a3)] [] g72 = some r) : xX (d + 1) mX11_covers 62 [some (.ref 0), none, some (.int a2), some (.int a3)] [] g = some r :=
  Y_aload_n dX11_covers_62 rfl <| Y_getR dX11_covers_63 f_10_90 (by rw [ft_10_15]; rfl) (xis W 0 10 s_0 (Nat.le_of_ble_eq_true rfl)) (xptr W 0 15 p_0_15) <| Y_bipush 10 dX11_covers_66 bp_10 <| Y_iload_n dX11_covers_68 rfl <| Y_imul dX11_covers_69 <| Y_iload_n dX11_covers_70 rfl <| Y_iadd dX11_covers_71 <| Y_callV0 dX11_covers_72 cl_10_179 rfl rfl (xis W 111 8 s_111 (Nat.le_of_ble_eq_true rfl)) rfl rfl rfl (hk72) <| X_le (xle_s (xle_n (xle_s (xle_s xle_0)))) k
theorem bX11_covers_75 {d : Nat} {g : xSt} {r : Option Value × xSt} {a2 a3 : Int32} (k : xX (d + 1) mX11_covers 39 [some (.ref 0), none, some (.int a2), some (.int (a3 + 1))] [] g = some r) : xX (d + 1) mX11_covers 75 [some (.ref 0), none, some (.int a2), some (.int a3)] [] g = some r :=
  Y_iinc 1 dX11_covers_75 rfl ic_1 rfl rfl <| Y_goto 39 dX11_covers_78 rfl <| X_le (xle_s (xle_n (xle_s (xle_s xle_0)))) k
theorem bX11_covers_81 {d : Nat} {g : xSt} {r : Option Value × xSt} {a2 : Int32} (k : xX (d + 1) mX11_covers 26 [some (.ref 0), none, some (.int (a2 + 1)), none] [] g = some r) : xX (d + 1) mX11_covers 81 [some (.ref 0), none, some (.int a2), none] [] g = some r :=
  Y_iinc 1 dX11_covers_81 rfl ic_1 rfl rfl <| Y_goto 26 dX11_covers_84 rfl <| X_le (xle_s (xle_n (xle_s (xle_n xle_0)))) k
theorem bX11_covers_87 {d : Nat} {g : xSt} {r : Option Value × xSt}  (W : xWf g) (k : r = (some (.int (xI g 111 1)), g)) : xX (d + 1) mX11_covers 87 [some (.ref 0), none, none, none] [] g = some r :=
  Y_aload_n dX11_covers_87 rfl <| Y_getR dX11_covers_88 f_10_90 (by rw [ft_10_15]; rfl) (xis W 0 10 s_0 (Nat.le_of_ble_eq_true rfl)) (xptr W 0 15 p_0_15) <| Y_getI dX11_covers_91 f_10_287 ft_8_1 (xis W 111 8 s_111 (Nat.le_of_ble_eq_true rfl)) <| Y_iret dX11_covers_94 rfl k
theorem bX11_sits_0 {d : Nat} {g : xSt} {r : Option Value × xSt} {a1 a2 a3 r5 : Int32} {g5 : xSt} (W : xWf g) (hk5 : xCallM d mX10_hasThing [.ref (tw g), .int a1] g = some (some (.int r5), g5)) (W5 : xWf g5) (k1 : r5 = 0 → xX (d + 1) mX11_sits 35 [none, none, none, none] [] g5 = some r) (k2 : ¬ (r5 = 0) → xX (d + 1) mX11_sits 11 [some (.ref 0), some (.int a1), some (.int a2), some (.int a3)] [] g5 = some r) : xX (d + 1) mX11_sits 0 [some (.ref 0), some (.int a1), some (.int a2), some (.int a3)] [] g = some r :=
  Y_aload_n dX11_sits_0 rfl <| Y_getR dX11_sits_1 f_10_20 (by rw [ft_10_4]; rfl) (xis W 0 10 s_0 (Nat.le_of_ble_eq_true rfl)) (xtwR W) <| Y_iload_n dX11_sits_4 rfl <| Y_callV1 dX11_sits_5 cl_10_189 rfl rfl (xisS W (xtw W)) rfl rfl rfl (hk5) <| Y_eq0 35 dX11_sits_8 rfl (fun q => X_le (xle_n (xle_n (xle_n (xle_n xle_0)))) (k1 q)) (fun q => X_le (xle_s (xle_s (xle_s (xle_s xle_0)))) (k2 q))
theorem bX11_sits_11 {d : Nat} {g : xSt} {r : Option Value × xSt} {a1 a2 a3 : Int32} (k1 : a2 < 0 → xX (d + 1) mX11_sits 35 [none, none, none, none] [] g = some r) (k2 : ¬ (a2 < 0) → xX (d + 1) mX11_sits 15 [some (.ref 0), some (.int a1), some (.int a2), some (.int a3)] [] g = some r) : xX (d + 1) mX11_sits 11 [some (.ref 0), some (.int a1), some (.int a2), some (.int a3)] [] g = some r :=
  Y_iload_n dX11_sits_11 rfl <| Y_lt0 35 dX11_sits_12 rfl (fun q => X_le (xle_n (xle_n (xle_n (xle_n xle_0)))) (k1 q)) (fun q => X_le (xle_s (xle_s (xle_s (xle_s xle_0)))) (k2 q))
theorem bX11_sits_15 {d : Nat} {g : xSt} {r : Option Value × xSt} {a1 a2 a3 : Int32} (k1 : 1 < a2 → xX (d + 1) mX11_sits 35 [none, none, none, none] [] g = some r) (k2 : ¬ (1 < a2) → xX (d + 1) mX11_sits 20 [some (.ref 0), some (.int a1), some (.int a2), some (.int a3)] [] g = some r) : xX (d + 1) mX11_sits 15 [some (.ref 0), some (.int a1), some (.int a2), some (.int a3)] [] g = some r :=
  Y_iload_n dX11_sits_15 rfl <| Y_iconst 1 dX11_sits_16 ic_1 <| Y_gt 35 dX11_sits_17 rfl (fun q => X_le (xle_n (xle_n (xle_n (xle_n xle_0)))) (k1 q)) (fun q => X_le (xle_s (xle_s (xle_s (xle_s xle_0)))) (k2 q))
theorem bX11_sits_20 {d : Nat} {g : xSt} {r : Option Value × xSt} {a1 a2 a3 r29 : Int32} {g29 : xSt} (W : xWf g) (hk29 : xCallM d mX5_know [.ref 69, .ref 32, .int a3] g = some (some (.int r29), g29)) (W29 : xWf g29) (k1 : r29 = 0 → xX (d + 1) mX11_sits 35 [none, none, none, none] [] g29 = some r) (k2 : ¬ (r29 = 0) → xX (d + 1) mX11_sits 37 [some (.ref 0), some (.int a1), some (.int a2), none] [] g29 = some r) : xX (d + 1) mX11_sits 20 [some (.ref 0), some (.int a1), some (.int a2), some (.int a3)] [] g = some r :=
  Y_aload_n dX11_sits_20 rfl <| Y_getR dX11_sits_21 f_10_48 (by rw [ft_10_9]; rfl) (xis W 0 10 s_0 (Nat.le_of_ble_eq_true rfl)) (xptr W 0 9 p_0_9) <| Y_aload_n dX11_sits_24 rfl <| Y_getR dX11_sits_25 f_10_37 (by rw [ft_10_7]; rfl) (xis W 0 10 s_0 (Nat.le_of_ble_eq_true rfl)) (xptr W 0 7 p_0_7) <| Y_iload_n dX11_sits_28 rfl <| Y_callV1 dX11_sits_29 cl_10_192 rfl rfl (xis W 69 5 s_69 (Nat.le_of_ble_eq_true rfl)) rfl rfl rfl (hk29) <| Y_ne0 37 dX11_sits_32 rfl (fun q => X_le (xle_n (xle_n (xle_n (xle_n xle_0)))) (k1 q)) (fun q => X_le (xle_s (xle_s (xle_s (xle_n xle_0)))) (k2 q))
theorem bX11_sits_35 {d : Nat} {g : xSt} {r : Option Value × xSt}  (k : r = (some (.int (-1)), g)) : xX (d + 1) mX11_sits 35 [none, none, none, none] [] g = some r :=
  Y_iconst (-1) dX11_sits_35 ic_m1 <| Y_iret dX11_sits_36 rfl k
theorem bX11_sits_37 {d : Nat} {g : xSt} {r : Option Value × xSt} {a1 a2 : Int32} (W : xWf g) (k1 : a2 = 0 → xX (d + 1) mX11_sits 46 [none, none, none, none] [.int a1, .ref 69] g = some r) (k2 : ¬ (a2 = 0) → xX (d + 1) mX11_sits 50 [none, none, none, none] [.int a1, .ref 69] g = some r) : xX (d + 1) mX11_sits 37 [some (.ref 0), some (.int a1), some (.int a2), none] [] g = some r :=
  Y_aload_n dX11_sits_37 rfl <| Y_getR dX11_sits_38 f_10_48 (by rw [ft_10_9]; rfl) (xis W 0 10 s_0 (Nat.le_of_ble_eq_true rfl)) (xptr W 0 9 p_0_9) <| Y_iload_n dX11_sits_41 rfl <| Y_iload_n dX11_sits_42 rfl <| Y_ne0 50 dX11_sits_43 rfl (fun q => X_le (xle_n (xle_n (xle_n (xle_n xle_0)))) (k1 q)) (fun q => X_le (xle_n (xle_n (xle_n (xle_n xle_0)))) (k2 q))
theorem bX11_sits_46 {d : Nat} {g : xSt} {r : Option Value × xSt} {s0 : Int32} (k : xX (d + 1) mX11_sits 51 [none, none, none, none] [.int 1, .int s0, .ref 69] g = some r) : xX (d + 1) mX11_sits 46 [none, none, none, none] [.int s0, .ref 69] g = some r :=
  Y_iconst 1 dX11_sits_46 ic_1 <| Y_goto 51 dX11_sits_47 rfl <| X_le (xle_n (xle_n (xle_n (xle_n xle_0)))) k
theorem bX11_sits_50 {d : Nat} {g : xSt} {r : Option Value × xSt} {s0 : Int32} (k : xX (d + 1) mX11_sits 51 [none, none, none, none] [.int 2, .int s0, .ref 69] g = some r) : xX (d + 1) mX11_sits 50 [none, none, none, none] [.int s0, .ref 69] g = some r :=
  Y_iconst 2 dX11_sits_50 ic_2 <| X_le (xle_n (xle_n (xle_n (xle_n xle_0)))) k
theorem bX11_sits_51 {d : Nat} {g : xSt} {r : Option Value × xSt} {s1 s0 r51 : Int32} {g51 : xSt} (W : xWf g) (hk51 : xCallM d mX5_surelySaying [.ref 69, .int s1, .int s0] g = some (some (.int r51), g51)) (W51 : xWf g51) (k : r = (some (.int r51), g51)) : xX (d + 1) mX11_sits 51 [none, none, none, none] [.int s0, .int s1, .ref 69] g = some r :=
  Y_callV1 dX11_sits_51 cl_10_288 rfl rfl (xis W 69 5 s_69 (Nat.le_of_ble_eq_true rfl)) rfl rfl rfl (hk51) <| Y_iret dX11_sits_54 rfl k
theorem bX11_led_0 {d : Nat} {g : xSt} {r : Option Value × xSt} {a1 a2 a3 r5 : Int32} {g5 : xSt} (W : xWf g) (hk5 : xCallM d mX10_hasThing [.ref (tw g), .int a1] g = some (some (.int r5), g5)) (W5 : xWf g5) (k1 : r5 = 0 → xX (d + 1) mX11_led 22 [none, none, none, none] [] g5 = some r) (k2 : ¬ (r5 = 0) → xX (d + 1) mX11_led 11 [some (.ref 0), some (.int a1), some (.int a2), some (.int a3)] [] g5 = some r) : xX (d + 1) mX11_led 0 [some (.ref 0), some (.int a1), some (.int a2), some (.int a3)] [] g = some r :=
  Y_aload_n dX11_led_0 rfl <| Y_getR dX11_led_1 f_10_20 (by rw [ft_10_4]; rfl) (xis W 0 10 s_0 (Nat.le_of_ble_eq_true rfl)) (xtwR W) <| Y_iload_n dX11_led_4 rfl <| Y_callV1 dX11_led_5 cl_10_189 rfl rfl (xisS W (xtw W)) rfl rfl rfl (hk5) <| Y_eq0 22 dX11_led_8 rfl (fun q => X_le (xle_n (xle_n (xle_n (xle_n xle_0)))) (k1 q)) (fun q => X_le (xle_s (xle_s (xle_s (xle_s xle_0)))) (k2 q))
theorem bX11_led_11 {d : Nat} {g : xSt} {r : Option Value × xSt} {a1 a2 a3 r16 : Int32} {g16 : xSt} (W : xWf g) (hk16 : xCallM d mX10_hasThing [.ref (tw g), .int a2] g = some (some (.int r16), g16)) (W16 : xWf g16) (k1 : r16 = 0 → xX (d + 1) mX11_led 22 [none, none, none, none] [] g16 = some r) (k2 : ¬ (r16 = 0) → xX (d + 1) mX11_led 24 [some (.ref 0), some (.int a1), some (.int a2), some (.int a3)] [] g16 = some r) : xX (d + 1) mX11_led 11 [some (.ref 0), some (.int a1), some (.int a2), some (.int a3)] [] g = some r :=
  Y_aload_n dX11_led_11 rfl <| Y_getR dX11_led_12 f_10_20 (by rw [ft_10_4]; rfl) (xis W 0 10 s_0 (Nat.le_of_ble_eq_true rfl)) (xtwR W) <| Y_iload_n dX11_led_15 rfl <| Y_callV1 dX11_led_16 cl_10_189 rfl rfl (xisS W (xtw W)) rfl rfl rfl (hk16) <| Y_ne0 24 dX11_led_19 rfl (fun q => X_le (xle_n (xle_n (xle_n (xle_n xle_0)))) (k1 q)) (fun q => X_le (xle_s (xle_s (xle_s (xle_s xle_0)))) (k2 q))
theorem bX11_led_22 {d : Nat} {g : xSt} {r : Option Value × xSt}  (k : r = (some (.int (-1)), g)) : xX (d + 1) mX11_led 22 [none, none, none, none] [] g = some r :=
  Y_iconst (-1) dX11_led_22 ic_m1 <| Y_iret dX11_led_23 rfl k
theorem bX11_led_24 {d : Nat} {g : xSt} {r : Option Value × xSt} {a1 a2 a3 r42 : Int32} {g33 g42 : xSt} (W : xWf g) (hk33 : xCallM d mX5_heed [.ref 69, .ref 32, .int a3] g = some (none, g33)) (W33 : xWf g33) (hk42 : xCallM d mX5_weighingsWith [.ref 69, .int a1, .int a2] g33 = some (some (.int r42), g42)) (W42 : xWf g42) (k : r = (some (.int r42), g42)) : xX (d + 1) mX11_led 24 [some (.ref 0), some (.int a1), some (.int a2), some (.int a3)] [] g = some r :=
  Y_aload_n dX11_led_24 rfl <| Y_getR dX11_led_25 f_10_48 (by rw [ft_10_9]; rfl) (xis W 0 10 s_0 (Nat.le_of_ble_eq_true rfl)) (xptr W 0 9 p_0_9) <| Y_aload_n dX11_led_28 rfl <| Y_getR dX11_led_29 f_10_37 (by rw [ft_10_7]; rfl) (xis W 0 10 s_0 (Nat.le_of_ble_eq_true rfl)) (xptr W 0 7 p_0_7) <| Y_iload_n dX11_led_32 rfl <| Y_callV0 dX11_led_33 cl_10_160 rfl rfl (xis W 69 5 s_69 (Nat.le_of_ble_eq_true rfl)) rfl rfl rfl (hk33) <| Y_aload_n dX11_led_36 rfl <| Y_getR dX11_led_37 f_10_48 (by rw [ft_10_9]; rfl) (xis W33 0 10 s_0 (Nat.le_of_ble_eq_true rfl)) (xptr W33 0 9 p_0_9) <| Y_iload_n dX11_led_40 rfl <| Y_iload_n dX11_led_41 rfl <| Y_callV1 dX11_led_42 cl_10_291 rfl rfl (xis W33 69 5 s_69 (Nat.le_of_ble_eq_true rfl)) rfl rfl rfl (hk42) <| Y_iret dX11_led_45 rfl k
theorem bX11_doubts_0 {d : Nat} {g : xSt} {r : Option Value × xSt} {a1 r27 r30 : Int32} {g9 g27 g30 : xSt} (W : xWf g) (hk9 : xCallM d mX5_heed [.ref 69, .ref 32, .int a1] g = some (none, g9)) (W9 : xWf g9) (hk27 : xCallM d mX5_markOfRow [.ref 69, .ref ((tw g9) + 3)] g9 = some (some (.int r27), g27)) (W27 : xWf g27) (hk30 : xCallM d mX5_missesBy [.ref 69, .int r27] g27 = some (some (.int r30), g30)) (W30 : xWf g30) (k : r = (some (.int r30), g30)) : xX (d + 1) mX11_doubts 0 [some (.ref 0), some (.int a1)] [] g = some r :=
  Y_aload_n dX11_doubts_0 rfl <| Y_getR dX11_doubts_1 f_10_48 (by rw [ft_10_9]; rfl) (xis W 0 10 s_0 (Nat.le_of_ble_eq_true rfl)) (xptr W 0 9 p_0_9) <| Y_aload_n dX11_doubts_4 rfl <| Y_getR dX11_doubts_5 f_10_37 (by rw [ft_10_7]; rfl) (xis W 0 10 s_0 (Nat.le_of_ble_eq_true rfl)) (xptr W 0 7 p_0_7) <| Y_iload_n dX11_doubts_8 rfl <| Y_callV0 dX11_doubts_9 cl_10_160 rfl rfl (xis W 69 5 s_69 (Nat.le_of_ble_eq_true rfl)) rfl rfl rfl (hk9) <| Y_aload_n dX11_doubts_12 rfl <| Y_getR dX11_doubts_13 f_10_48 (by rw [ft_10_9]; rfl) (xis W9 0 10 s_0 (Nat.le_of_ble_eq_true rfl)) (xptr W9 0 9 p_0_9) <| Y_aload_n dX11_doubts_16 rfl <| Y_getR dX11_doubts_17 f_10_48 (by rw [ft_10_9]; rfl) (xis W9 0 10 s_0 (Nat.le_of_ble_eq_true rfl)) (xptr W9 0 9 p_0_9) <| Y_aload_n dX11_doubts_20 rfl <| Y_getR dX11_doubts_21 f_10_20 (by rw [ft_10_4]; rfl) (xis W9 0 10 s_0 (Nat.le_of_ble_eq_true rfl)) (xtwR W9) <| Y_getR dX11_doubts_24 f_10_294 (by rw [ft_9_7]; rfl) (xisS W9 (xtw W9)) (xptrS W9 (xtw W9) 7 rfl) <| Y_callV1 dX11_doubts_27 cl_10_298 rfl rfl (xis W9 69 5 s_69 (Nat.le_of_ble_eq_true rfl)) rfl rfl rfl (hk27) <| Y_callV1 dX11_doubts_30 cl_10_302 rfl rfl (xis W27 69 5 s_69 (Nat.le_of_ble_eq_true rfl)) rfl rfl rfl (hk30) <| Y_iret dX11_doubts_33 rfl k
theorem bX11_twins_0 {d : Nat} {g : xSt} {r : Option Value × xSt} {a1 a2 r5 : Int32} {g5 : xSt} (W : xWf g) (hk5 : xCallM d mX10_hasThing [.ref (tw g), .int a1] g = some (some (.int r5), g5)) (W5 : xWf g5) (k1 : r5 = 0 → xX (d + 1) mX11_twins 26 [none, none, none] [] g5 = some r) (k2 : ¬ (r5 = 0) → xX (d + 1) mX11_twins 11 [some (.ref 0), some (.int a1), some (.int a2)] [] g5 = some r) : xX (d + 1) mX11_twins 0 [some (.ref 0), some (.int a1), some (.int a2)] [] g = some r :=
  Y_aload_n dX11_twins_0 rfl <| Y_getR dX11_twins_1 f_10_20 (by rw [ft_10_4]; rfl) (xis W 0 10 s_0 (Nat.le_of_ble_eq_true rfl)) (xtwR W) <| Y_iload_n dX11_twins_4 rfl <| Y_callV1 dX11_twins_5 cl_10_189 rfl rfl (xisS W (xtw W)) rfl rfl rfl (hk5) <| Y_eq0 26 dX11_twins_8 rfl (fun q => X_le (xle_n (xle_n (xle_n xle_0))) (k1 q)) (fun q => X_le (xle_s (xle_s (xle_s xle_0))) (k2 q))
theorem bX11_twins_11 {d : Nat} {g : xSt} {r : Option Value × xSt} {a1 a2 r20 : Int32} {g20 : xSt} (W : xWf g) (hk20 : xCallM d mX5_know [.ref 69, .ref 32, .int a2] g = some (some (.int r20), g20)) (W20 : xWf g20) (k1 : r20 = 0 → xX (d + 1) mX11_twins 26 [none, none, none] [] g20 = some r) (k2 : ¬ (r20 = 0) → xX (d + 1) mX11_twins 28 [some (.ref 0), some (.int a1), none] [] g20 = some r) : xX (d + 1) mX11_twins 11 [some (.ref 0), some (.int a1), some (.int a2)] [] g = some r :=
  Y_aload_n dX11_twins_11 rfl <| Y_getR dX11_twins_12 f_10_48 (by rw [ft_10_9]; rfl) (xis W 0 10 s_0 (Nat.le_of_ble_eq_true rfl)) (xptr W 0 9 p_0_9) <| Y_aload_n dX11_twins_15 rfl <| Y_getR dX11_twins_16 f_10_37 (by rw [ft_10_7]; rfl) (xis W 0 10 s_0 (Nat.le_of_ble_eq_true rfl)) (xptr W 0 7 p_0_7) <| Y_iload_n dX11_twins_19 rfl <| Y_callV1 dX11_twins_20 cl_10_192 rfl rfl (xis W 69 5 s_69 (Nat.le_of_ble_eq_true rfl)) rfl rfl rfl (hk20) <| Y_ne0 28 dX11_twins_23 rfl (fun q => X_le (xle_n (xle_n (xle_n xle_0))) (k1 q)) (fun q => X_le (xle_s (xle_s (xle_n xle_0))) (k2 q))
theorem bX11_twins_26 {d : Nat} {g : xSt} {r : Option Value × xSt}  (k : r = (some (.int (-1)), g)) : xX (d + 1) mX11_twins 26 [none, none, none] [] g = some r :=
  Y_iconst (-1) dX11_twins_26 ic_m1 <| Y_iret dX11_twins_27 rfl k
theorem bX11_twins_28 {d : Nat} {g : xSt} {r : Option Value × xSt} {a1 r34 : Int32} {g34 : xSt} (W : xWf g) (hk34 : xCallM d mX5_surelySaying [.ref 69, .int a1, .int 0] g = some (some (.int r34), g34)) (W34 : xWf g34) (k : r = (some (.int r34), g34)) : xX (d + 1) mX11_twins 28 [some (.ref 0), some (.int a1), none] [] g = some r :=
  Y_aload_n dX11_twins_28 rfl <| Y_getR dX11_twins_29 f_10_48 (by rw [ft_10_9]; rfl) (xis W 0 10 s_0 (Nat.le_of_ble_eq_true rfl)) (xptr W 0 9 p_0_9) <| Y_iload_n dX11_twins_32 rfl <| Y_iconst 0 dX11_twins_33 ic_0 <| Y_callV1 dX11_twins_34 cl_10_288 rfl rfl (xis W 69 5 s_69 (Nat.le_of_ble_eq_true rfl)) rfl rfl rfl (hk34) <| Y_iret dX11_twins_37 rfl k
theorem bX11_ladder_0 {d : Nat} {g : xSt} {r : Option Value × xSt} {a1 a2 r9 : Int32} {g9 : xSt} (W : xWf g) (hk9 : xCallM d mX5_know [.ref 69, .ref 32, .int a2] g = some (some (.int r9), g9)) (W9 : xWf g9) (k1 : r9 = 0 → xX (d + 1) mX11_ladder 15 [none, none, none] [] g9 = some r) (k2 : ¬ (r9 = 0) → xX (d + 1) mX11_ladder 17 [some (.ref 0), some (.int a1), none] [] g9 = some r) : xX (d + 1) mX11_ladder 0 [some (.ref 0), some (.int a1), some (.int a2)] [] g = some r :=
  Y_aload_n dX11_ladder_0 rfl <| Y_getR dX11_ladder_1 f_10_48 (by rw [ft_10_9]; rfl) (xis W 0 10 s_0 (Nat.le_of_ble_eq_true rfl)) (xptr W 0 9 p_0_9) <| Y_aload_n dX11_ladder_4 rfl <| Y_getR dX11_ladder_5 f_10_37 (by rw [ft_10_7]; rfl) (xis W 0 10 s_0 (Nat.le_of_ble_eq_true rfl)) (xptr W 0 7 p_0_7) <| Y_iload_n dX11_ladder_8 rfl <| Y_callV1 dX11_ladder_9 cl_10_192 rfl rfl (xis W 69 5 s_69 (Nat.le_of_ble_eq_true rfl)) rfl rfl rfl (hk9) <| Y_ne0 17 dX11_ladder_12 rfl (fun q => X_le (xle_n (xle_n (xle_n xle_0))) (k1 q)) (fun q => X_le (xle_s (xle_s (xle_n xle_0))) (k2 q))
theorem bX11_ladder_15 {d : Nat} {g : xSt} {r : Option Value × xSt}  (k : r = (some (.int (-1)), g)) : xX (d + 1) mX11_ladder 15 [none, none, none] [] g = some r :=
  Y_iconst (-1) dX11_ladder_15 ic_m1 <| Y_iret dX11_ladder_16 rfl k
theorem bX11_ladder_17 {d : Nat} {g : xSt} {r : Option Value × xSt} {a1 r22 : Int32} {g22 : xSt} (W : xWf g) (hk22 : xCallM d mX5_largestSet [.ref 69, .int a1] g = some (some (.int r22), g22)) (W22 : xWf g22) (k : r = (some (.int r22), g22)) : xX (d + 1) mX11_ladder 17 [some (.ref 0), some (.int a1), none] [] g = some r :=
  Y_aload_n dX11_ladder_17 rfl <| Y_getR dX11_ladder_18 f_10_48 (by rw [ft_10_9]; rfl) (xis W 0 10 s_0 (Nat.le_of_ble_eq_true rfl)) (xptr W 0 9 p_0_9) <| Y_iload_n dX11_ladder_21 rfl <| Y_callV1 dX11_ladder_22 cl_10_305 rfl rfl (xis W 69 5 s_69 (Nat.le_of_ble_eq_true rfl)) rfl rfl rfl (hk22) <| Y_iret dX11_ladder_25 rfl k
theorem bX11_bound_0 {d : Nat} {g : xSt} {r : Option Value × xSt} {a1 r9 : Int32} {g9 : xSt} (W : xWf g) (hk9 : xCallM d mX5_know [.ref 69, .ref 32, .int a1] g = some (some (.int r9), g9)) (W9 : xWf g9) (k1 : r9 = 0 → xX (d + 1) mX11_bound 17 [none, none, none] [] g9 = some r) (k2 : ¬ (r9 = 0) → xX (d + 1) mX11_bound 21 [some (.ref 0), none, some (.int r9)] [] g9 = some r) : xX (d + 1) mX11_bound 0 [some (.ref 0), some (.int a1), none] [] g = some r :=
  Y_aload_n dX11_bound_0 rfl <| Y_getR dX11_bound_1 f_10_48 (by rw [ft_10_9]; rfl) (xis W 0 10 s_0 (Nat.le_of_ble_eq_true rfl)) (xptr W 0 9 p_0_9) <| Y_aload_n dX11_bound_4 rfl <| Y_getR dX11_bound_5 f_10_37 (by rw [ft_10_7]; rfl) (xis W 0 10 s_0 (Nat.le_of_ble_eq_true rfl)) (xptr W 0 7 p_0_7) <| Y_iload_n dX11_bound_8 rfl <| Y_callV1 dX11_bound_9 cl_10_192 rfl rfl (xis W 69 5 s_69 (Nat.le_of_ble_eq_true rfl)) rfl rfl rfl (hk9) <| Y_istore_n dX11_bound_12 rfl rfl <| Y_iload_n dX11_bound_13 rfl <| Y_ne0 21 dX11_bound_14 rfl (fun q => X_le (xle_n (xle_n (xle_n xle_0))) (k1 q)) (fun q => X_le (xle_s (xle_n (xle_s xle_0))) (k2 q))
theorem bX11_bound_17 {d : Nat} {g : xSt} {r : Option Value × xSt}  (k : xX (d + 1) mX11_bound 40 [none, none, none] [.int (-1)] g = some r) : xX (d + 1) mX11_bound 17 [none, none, none] [] g = some r :=
  Y_iconst (-1) dX11_bound_17 ic_m1 <| Y_goto 40 dX11_bound_18 rfl <| X_le (xle_n (xle_n (xle_n xle_0))) k
theorem bX11_bound_21 {d : Nat} {g : xSt} {r : Option Value × xSt} {a2 : Int32} (W : xWf g) (k1 : (xI g (tw g) 3) = 0 → xX (d + 1) mX11_bound 36 [none, none, none] [.int a2] g = some r) (k2 : ¬ ((xI g (tw g) 3) = 0) → xX (d + 1) mX11_bound 32 [none, none, none] [.int a2] g = some r) : xX (d + 1) mX11_bound 21 [some (.ref 0), none, some (.int a2)] [] g = some r :=
  Y_iload_n dX11_bound_21 rfl <| Y_aload_n dX11_bound_22 rfl <| Y_getR dX11_bound_23 f_10_20 (by rw [ft_10_4]; rfl) (xis W 0 10 s_0 (Nat.le_of_ble_eq_true rfl)) (xtwR W) <| Y_getZ dX11_bound_26 f_10_213 ft_9_3 (xisS W (xtw W)) <| Y_eq0 36 dX11_bound_29 rfl (fun q => X_le (xle_n (xle_n (xle_n xle_0))) (k1 q)) (fun q => X_le (xle_n (xle_n (xle_n xle_0))) (k2 q))
theorem bX11_bound_32 {d : Nat} {g : xSt} {r : Option Value × xSt} {s0 : Int32} (k : xX (d + 1) mX11_bound 37 [none, none, none] [.int 3, .int s0] g = some r) : xX (d + 1) mX11_bound 32 [none, none, none] [.int s0] g = some r :=
  Y_iconst 3 dX11_bound_32 ic_3 <| Y_goto 37 dX11_bound_33 rfl <| X_le (xle_n (xle_n (xle_n xle_0))) k
theorem bX11_bound_36 {d : Nat} {g : xSt} {r : Option Value × xSt} {s0 : Int32} (k : xX (d + 1) mX11_bound 37 [none, none, none] [.int 2, .int s0] g = some r) : xX (d + 1) mX11_bound 36 [none, none, none] [.int s0] g = some r :=
  Y_iconst 2 dX11_bound_36 ic_2 <| X_le (xle_n (xle_n (xle_n xle_0))) k
theorem bX11_bound_37 {d : Nat} {g : xSt} {r : Option Value × xSt} {s1 s0 r37 : Int32} {g37 : xSt} (hk37 : xCallM d mX8_depthOf [.int s1, .int s0] g = some (some (.int r37), g37)) (W37 : xWf g37) (k : xX (d + 1) mX11_bound 40 [none, none, none] [.int r37] g37 = some r) : xX (d + 1) mX11_bound 37 [none, none, none] [.int s0, .int s1] g = some r :=
  Y_callS1 dX11_bound_37 cl_10_309 rfl rfl rfl rfl rfl (hk37) <| X_le (xle_n (xle_n (xle_n xle_0))) k
theorem bX11_bound_40 {d : Nat} {g : xSt} {r : Option Value × xSt} {s0 : Int32} (k : r = (some (.int s0), g)) : xX (d + 1) mX11_bound 40 [none, none, none] [.int s0] g = some r :=
  Y_iret dX11_bound_40 rfl k
theorem bX11_swapped_0 {d : Nat} {g : xSt} {r : Option Value × xSt} {a1 a2 : Int32} (k1 : a1 < 0 → xX (d + 1) mX11_swapped 18 [none, none, none] [] g = some r) (k2 : ¬ (a1 < 0) → xX (d + 1) mX11_swapped 4 [some (.ref 0), some (.int a1), some (.int a2)] [] g = some r) : xX (d + 1) mX11_swapped 0 [some (.ref 0), some (.int a1), some (.int a2)] [] g = some r :=
  Y_iload_n dX11_swapped_0 rfl <| Y_lt0 18 dX11_swapped_1 rfl (fun q => X_le (xle_n (xle_n (xle_n xle_0))) (k1 q)) (fun q => X_le (xle_s (xle_s (xle_s xle_0))) (k2 q))
theorem bX11_swapped_4 {d : Nat} {g : xSt} {r : Option Value × xSt} {a1 a2 : Int32} (k1 : 2 < a1 → xX (d + 1) mX11_swapped 18 [none, none, none] [] g = some r) (k2 : ¬ (2 < a1) → xX (d + 1) mX11_swapped 9 [some (.ref 0), some (.int a1), some (.int a2)] [] g = some r) : xX (d + 1) mX11_swapped 4 [some (.ref 0), some (.int a1), some (.int a2)] [] g = some r :=
  Y_iload_n dX11_swapped_4 rfl <| Y_iconst 2 dX11_swapped_5 ic_2 <| Y_gt 18 dX11_swapped_6 rfl (fun q => X_le (xle_n (xle_n (xle_n xle_0))) (k1 q)) (fun q => X_le (xle_s (xle_s (xle_s xle_0))) (k2 q))
theorem bX11_swapped_9 {d : Nat} {g : xSt} {r : Option Value × xSt} {a1 a2 : Int32} (k1 : a2 < 0 → xX (d + 1) mX11_swapped 18 [none, none, none] [] g = some r) (k2 : ¬ (a2 < 0) → xX (d + 1) mX11_swapped 13 [some (.ref 0), some (.int a1), some (.int a2)] [] g = some r) : xX (d + 1) mX11_swapped 9 [some (.ref 0), some (.int a1), some (.int a2)] [] g = some r :=
  Y_iload_n dX11_swapped_9 rfl <| Y_lt0 18 dX11_swapped_10 rfl (fun q => X_le (xle_n (xle_n (xle_n xle_0))) (k1 q)) (fun q => X_le (xle_s (xle_s (xle_s xle_0))) (k2 q))
theorem bX11_swapped_13 {d : Nat} {g : xSt} {r : Option Value × xSt} {a1 a2 : Int32} (k1 : a2 ≤ 2 → xX (d + 1) mX11_swapped 20 [some (.ref 0), some (.int a1), some (.int a2)] [] g = some r) (k2 : ¬ (a2 ≤ 2) → xX (d + 1) mX11_swapped 18 [none, none, none] [] g = some r) : xX (d + 1) mX11_swapped 13 [some (.ref 0), some (.int a1), some (.int a2)] [] g = some r :=
  Y_iload_n dX11_swapped_13 rfl <| Y_iconst 2 dX11_swapped_14 ic_2 <| Y_le 20 dX11_swapped_15 rfl (fun q => X_le (xle_s (xle_s (xle_s xle_0))) (k1 q)) (fun q => X_le (xle_n (xle_n (xle_n xle_0))) (k2 q))
theorem bX11_swapped_18 {d : Nat} {g : xSt} {r : Option Value × xSt}  (k : r = (some (.int (-1)), g)) : xX (d + 1) mX11_swapped 18 [none, none, none] [] g = some r :=
  Y_iconst (-1) dX11_swapped_18 ic_m1 <| Y_iret dX11_swapped_19 rfl k
theorem bX11_swapped_20 {d : Nat} {g : xSt} {r : Option Value × xSt} {a1 a2 : Int32} {g33 g52 g59 : xSt} (W : xWf g) (hk33 : xCallM d mX8_begin [.ref 76, .int (xI g (tw g) 0), .int 0, .int (-1)] g = some (none, g33)) (W33 : xWf g33) (hk52 : xCallM d mX5_addSwapped [.ref 69, .ref 76, .ref ((tw g33) + 3), .int a1] g33 = some (none, g52)) (W52 : xWf g52) (hk59 : xCallM d mX8_finish [.ref 76] g52 = some (none, g59)) (W59 : xWf g59) (k1 : a2 = 0 → xX (d + 1) mX11_swapped 66 [some (.ref 0), none, none] [] g59 = some r) (k2 : ¬ (a2 = 0) → xX (d + 1) mX11_swapped 76 [some (.ref 0), none, some (.int a2)] [] g59 = some r) : xX (d + 1) mX11_swapped 20 [some (.ref 0), some (.int a1), some (.int a2)] [] g = some r :=
  Y_aload_n dX11_swapped_20 rfl <| Y_getR dX11_swapped_21 f_10_55 (by rw [ft_10_10]; rfl) (xis W 0 10 s_0 (Nat.le_of_ble_eq_true rfl)) (xptr W 0 10 p_0_10) <| Y_aload_n dX11_swapped_24 rfl <| Y_getR dX11_swapped_25 f_10_20 (by rw [ft_10_4]; rfl) (xis W 0 10 s_0 (Nat.le_of_ble_eq_true rfl)) (xtwR W) <| Y_getI dX11_swapped_28 f_10_126 ft_9_0 (xisS W (xtw W)) <| Y_iconst 0 dX11_swapped_31 ic_0 <| Y_iconst (-1) dX11_swapped_32 ic_m1 <| Y_callV0 dX11_swapped_33 cl_10_216 rfl rfl (xis W 76 7 s_76 (Nat.le_of_ble_eq_true rfl)) rfl rfl rfl (hk33) <| Y_aload_n dX11_swapped_36 rfl <| Y_getR dX11_swapped_37 f_10_48 (by rw [ft_10_9]; rfl) (xis W33 0 10 s_0 (Nat.le_of_ble_eq_true rfl)) (xptr W33 0 9 p_0_9) <| Y_aload_n dX11_swapped_40 rfl <| Y_getR dX11_swapped_41 f_10_55 (by rw [ft_10_10]; rfl) (xis W33 0 10 s_0 (Nat.le_of_ble_eq_true rfl)) (xptr W33 0 10 p_0_10) <| Y_aload_n dX11_swapped_44 rfl <| Y_getR dX11_swapped_45 f_10_20 (by rw [ft_10_4]; rfl) (xis W33 0 10 s_0 (Nat.le_of_ble_eq_true rfl)) (xtwR W33) <| Y_getR dX11_swapped_48 f_10_294 (by rw [ft_9_7]; rfl) (xisS W33 (xtw W33)) (xptrS W33 (xtw W33) 7 rfl) <| Y_iload_n dX11_swapped_51 rfl <| Y_callV0 dX11_swapped_52 cl_10_312 rfl rfl (xis W33 69 5 s_69 (Nat.le_of_ble_eq_true rfl)) rfl rfl rfl (hk52) <| Y_aload_n dX11_swapped_55 rfl <| Y_getR dX11_swapped_56 f_10_55 (by rw [ft_10_10]; rfl) (xis W52 0 10 s_0 (Nat.le_of_ble_eq_true rfl)) (xptr W52 0 10 p_0_10) <| Y_callV0 dX11_swapped_59 cl_10_229 rfl rfl (xis W52 76 7 s_76 (Nat.le_of_ble_eq_true rfl)) rfl rfl rfl (hk59) <| Y_iload_n dX11_swapped_62 rfl <| Y_ne0 76 dX11_swapped_63 rfl (fun q => X_le (xle_s (xle_n (xle_n xle_0))) (k1 q)) (fun q => X_le (xle_s (xle_n (xle_s xle_0))) (k2 q))
theorem bX11_swapped_66 {d : Nat} {g : xSt} {r : Option Value × xSt} {r70 : Int32} {g70 : xSt} (W : xWf g) (hk70 : xCallM d mX8_fewestOfAll [.ref 76] g = some (some (.int r70), g70)) (W70 : xWf g70) (k : xX (d + 1) mX11_swapped 98 [none, none, none] [.int r70] g70 = some r) : xX (d + 1) mX11_swapped 66 [some (.ref 0), none, none] [] g = some r :=
  Y_aload_n dX11_swapped_66 rfl <| Y_getR dX11_swapped_67 f_10_55 (by rw [ft_10_10]; rfl) (xis W 0 10 s_0 (Nat.le_of_ble_eq_true rfl)) (xptr W 0 10 p_0_10) <| Y_callV1 dX11_swapped_70 cl_10_235 rfl rfl (xis W 76 7 s_76 (Nat.le_of_ble_eq_true rfl)) rfl rfl rfl (hk70) <| Y_goto 98 dX11_swapped_73 rfl <| X_le (xle_n (xle_n (xle_n xle_0))) k
theorem bX11_swapped_76 {d : Nat} {g : xSt} {r : Option Value × xSt} {a2 : Int32} (k1 : a2 = 1 → xX (d + 1) mX11_swapped 81 [some (.ref 0), none, none] [] g = some r) (k2 : ¬ (a2 = 1) → xX (d + 1) mX11_swapped 91 [some (.ref 0), none, none] [] g = some r) : xX (d + 1) mX11_swapped 76 [some (.ref 0), none, some (.int a2)] [] g = some r :=
  Y_iload_n dX11_swapped_76 rfl <| Y_iconst 1 dX11_swapped_77 ic_1 <| Y_ne 91 dX11_swapped_78 rfl (fun q => X_le (xle_s (xle_n (xle_n xle_0))) (k1 q)) (fun q => X_le (xle_s (xle_n (xle_n xle_0))) (k2 q))
theorem bX11_swapped_81 {d : Nat} {g : xSt} {r : Option Value × xSt} {r85 : Int32} {g85 : xSt} (W : xWf g) (hk85 : xCallM d mX8_nextOfFewest [.ref 76] g = some (some (.int r85), g85)) (W85 : xWf g85) (k : xX (d + 1) mX11_swapped 98 [none, none, none] [.int r85] g85 = some r) : xX (d + 1) mX11_swapped 81 [some (.ref 0), none, none] [] g = some r :=
  Y_aload_n dX11_swapped_81 rfl <| Y_getR dX11_swapped_82 f_10_55 (by rw [ft_10_10]; rfl) (xis W 0 10 s_0 (Nat.le_of_ble_eq_true rfl)) (xptr W 0 10 p_0_10) <| Y_callV1 dX11_swapped_85 cl_10_238 rfl rfl (xis W 76 7 s_76 (Nat.le_of_ble_eq_true rfl)) rfl rfl rfl (hk85) <| Y_goto 98 dX11_swapped_88 rfl <| X_le (xle_n (xle_n (xle_n xle_0))) k
theorem bX11_swapped_91 {d : Nat} {g : xSt} {r : Option Value × xSt}  (W : xWf g) (k : xX (d + 1) mX11_swapped 98 [none, none, none] [.int (xI g 76 2)] g = some r) : xX (d + 1) mX11_swapped 91 [some (.ref 0), none, none] [] g = some r :=
  Y_aload_n dX11_swapped_91 rfl <| Y_getR dX11_swapped_92 f_10_55 (by rw [ft_10_10]; rfl) (xis W 0 10 s_0 (Nat.le_of_ble_eq_true rfl)) (xptr W 0 10 p_0_10) <| Y_getI dX11_swapped_95 f_10_272 ft_7_2 (xis W 76 7 s_76 (Nat.le_of_ble_eq_true rfl)) <| X_le (xle_n (xle_n (xle_n xle_0))) k
theorem bX11_swapped_98 {d : Nat} {g : xSt} {r : Option Value × xSt} {s0 : Int32} (k : r = (some (.int s0), g)) : xX (d + 1) mX11_swapped 98 [none, none, none] [.int s0] g = some r :=
  Y_iret dX11_swapped_98 rfl k
theorem bX11_clerk_0 {d : Nat} {g : xSt} {r : Option Value × xSt} {a1 r5 : Int32} {g5 : xSt} (W : xWf g) (hk5 : xCallM d mX10_hasThing [.ref (tw g), .int a1] g = some (some (.int r5), g5)) (W5 : xWf g5) (k1 : r5 = 0 → xX (d + 1) mX11_clerk 25 [none, none] [] g5 = some r) (k2 : ¬ (r5 = 0) → xX (d + 1) mX11_clerk 11 [some (.ref 0), some (.int a1)] [] g5 = some r) : xX (d + 1) mX11_clerk 0 [some (.ref 0), some (.int a1)] [] g = some r :=
  Y_aload_n dX11_clerk_0 rfl <| Y_getR dX11_clerk_1 f_10_20 (by rw [ft_10_4]; rfl) (xis W 0 10 s_0 (Nat.le_of_ble_eq_true rfl)) (xtwR W) <| Y_iload_n dX11_clerk_4 rfl <| Y_callV1 dX11_clerk_5 cl_10_189 rfl rfl (xisS W (xtw W)) rfl rfl rfl (hk5) <| Y_eq0 25 dX11_clerk_8 rfl (fun q => X_le (xle_n (xle_n xle_0)) (k1 q)) (fun q => X_le (xle_s (xle_s xle_0)) (k2 q))
theorem bX11_clerk_11 {d : Nat} {g : xSt} {r : Option Value × xSt} {a1 : Int32} (W : xWf g) (k : xX (d + 1) mX11_clerk 26 [none, none] [.int (xat (xI g ((tw g) + 3)) 5 a1)] g = some r) : xX (d + 1) mX11_clerk 11 [some (.ref 0), some (.int a1)] [] g = some r :=
  Y_aload_n dX11_clerk_11 rfl <| Y_getR dX11_clerk_12 f_10_20 (by rw [ft_10_4]; rfl) (xis W 0 10 s_0 (Nat.le_of_ble_eq_true rfl)) (xtwR W) <| Y_getR dX11_clerk_15 f_10_294 (by rw [ft_9_7]; rfl) (xisS W (xtw W)) (xptrS W (xtw W) 7 rfl) <| Y_iload_n dX11_clerk_18 rfl <| Y_callS1 dX11_clerk_19 cl_10_316 rfl rfl rfl rfl rfl (c_at (xarrS W (xtw W) 3 rfl)) <| Y_goto 26 dX11_clerk_22 rfl <| X_le (xle_n (xle_n xle_0)) k
theorem bX11_clerk_25 {d : Nat} {g : xSt} {r : Option Value × xSt}  (k : xX (d + 1) mX11_clerk 26 [none, none] [.int (-1)] g = some r) : xX (d + 1) mX11_clerk 25 [none, none] [] g = some r :=
  Y_iconst (-1) dX11_clerk_25 ic_m1 <| X_le (xle_n (xle_n xle_0)) k
theorem bX11_clerk_26 {d : Nat} {g : xSt} {r : Option Value × xSt} {s0 : Int32} (k : r = (some (.int s0), g)) : xX (d + 1) mX11_clerk 26 [none, none] [.int s0] g = some r :=
  Y_iret dX11_clerk_26 rfl k
theorem bX11_weights_0 {d : Nat} {g : xSt} {r : Option Value × xSt} {a1 : Int32} {g4 g20 g27 : xSt} (W : xWf g) (hk4 : xCallM d mX9_empty [.ref 111] g = some (none, g4)) (W4 : xWf g4) (hk20 : xCallM d mX1_load [.ref 98, .ref (tw g4), .ref 32, .int a1] g4 = some (none, g20)) (W20 : xWf g20) (hk27 : xCallM d mX1_guessAll [.ref 98] g20 = some (none, g27)) (W27 : xWf g27) (k : xX (d + 1) mX11_weights 32 [some (.ref 0), none, some (.int 0)] [] g27 = some r) : xX (d + 1) mX11_weights 0 [some (.ref 0), some (.int a1), none] [] g = some r :=
  Y_aload_n dX11_weights_0 rfl <| Y_getR dX11_weights_1 f_10_90 (by rw [ft_10_15]; rfl) (xis W 0 10 s_0 (Nat.le_of_ble_eq_true rfl)) (xptr W 0 15 p_0_15) <| Y_callV0 dX11_weights_4 cl_10_119 rfl rfl (xis W 111 8 s_111 (Nat.le_of_ble_eq_true rfl)) rfl rfl rfl (hk4) <| Y_aload_n dX11_weights_7 rfl <| Y_getR dX11_weights_8 f_10_83 (by rw [ft_10_14]; rfl) (xis W4 0 10 s_0 (Nat.le_of_ble_eq_true rfl)) (xptr W4 0 14 p_0_14) <| Y_aload_n dX11_weights_11 rfl <| Y_getR dX11_weights_12 f_10_20 (by rw [ft_10_4]; rfl) (xis W4 0 10 s_0 (Nat.le_of_ble_eq_true rfl)) (xtwR W4) <| Y_aload_n dX11_weights_15 rfl <| Y_getR dX11_weights_16 f_10_37 (by rw [ft_10_7]; rfl) (xis W4 0 10 s_0 (Nat.le_of_ble_eq_true rfl)) (xptr W4 0 7 p_0_7) <| Y_iload_n dX11_weights_19 rfl <| Y_callV0 dX11_weights_20 cl_10_322 rfl rfl (xis W4 98 1 s_98 (Nat.le_of_ble_eq_true rfl)) rfl rfl rfl (hk20) <| Y_aload_n dX11_weights_23 rfl <| Y_getR dX11_weights_24 f_10_83 (by rw [ft_10_14]; rfl) (xis W20 0 10 s_0 (Nat.le_of_ble_eq_true rfl)) (xptr W20 0 14 p_0_14) <| Y_callV0 dX11_weights_27 cl_10_326 rfl rfl (xis W20 98 1 s_98 (Nat.le_of_ble_eq_true rfl)) rfl rfl rfl (hk27) <| Y_iconst 0 dX11_weights_30 ic_0 <| Y_istore_n dX11_weights_31 rfl rfl <| X_le (xle_s (xle_n (xle_s xle_0))) k
theorem bX11_weights_32 {d : Nat} {g : xSt} {r : Option Value × xSt} {a2 : Int32} (W : xWf g) (k1 : (xI g 98 11) ≤ 0 → xX (d + 1) mX11_weights 74 [some (.ref 0), none, none] [] g = some r) (k2 : ¬ ((xI g 98 11) ≤ 0) → xX (d + 1) mX11_weights 42 [some (.ref 0), none, some (.int a2)] [] g = some r) : xX (d + 1) mX11_weights 32 [some (.ref 0), none, some (.int a2)] [] g = some r :=
  Y_aload_n dX11_weights_32 rfl <| Y_getR dX11_weights_33 f_10_83 (by rw [ft_10_14]; rfl) (xis W 0 10 s_0 (Nat.le_of_ble_eq_true rfl)) (xptr W 0 14 p_0_14) <| Y_getI dX11_weights_36 f_10_329 ft_1_11 (xis W 98 1 s_98 (Nat.le_of_ble_eq_true rfl)) <| Y_le0 74 dX11_weights_39 rfl (fun q => X_le (xle_s (xle_n (xle_n xle_0))) (k1 q)) (fun q => X_le (xle_s (xle_n (xle_s xle_0))) (k2 q))
theorem bX11_weights_42 {d : Nat} {g : xSt} {r : Option Value × xSt} {a2 : Int32} (W : xWf g) (k1 : (xI g (tw g) 0) ≤ a2 → xX (d + 1) mX11_weights 74 [some (.ref 0), none, none] [] g = some r) (k2 : ¬ ((xI g (tw g) 0) ≤ a2) → xX (d + 1) mX11_weights 53 [some (.ref 0), none, some (.int a2)] [] g = some r) : xX (d + 1) mX11_weights 42 [some (.ref 0), none, some (.int a2)] [] g = some r :=
  Y_iload_n dX11_weights_42 rfl <| Y_aload_n dX11_weights_43 rfl <| Y_getR dX11_weights_44 f_10_20 (by rw [ft_10_4]; rfl) (xis W 0 10 s_0 (Nat.le_of_ble_eq_true rfl)) (xtwR W) <| Y_getI dX11_weights_47 f_10_126 ft_9_0 (xisS W (xtw W)) <| Y_ge 74 dX11_weights_50 rfl (fun q => X_le (xle_s (xle_n (xle_n xle_0))) (k1 q)) (fun q => X_le (xle_s (xle_n (xle_s xle_0))) (k2 q))
theorem bX11_weights_53 {d : Nat} {g : xSt} {r : Option Value × xSt} {a2 r62 : Int32} {g62 g65 : xSt} (W : xWf g) (hk62 : xCallM d mX1_firstOf [.ref 98, .int a2] g = some (some (.int r62), g62)) (W62 : xWf g62) (hk65 : xCallM d mX9_lay [.ref 111, .int r62] g62 = some (none, g65)) (W65 : xWf g65) (k : xX (d + 1) mX11_weights 32 [some (.ref 0), none, some (.int (a2 + 1))] [] g65 = some r) : xX (d + 1) mX11_weights 53 [some (.ref 0), none, some (.int a2)] [] g = some r :=
  Y_aload_n dX11_weights_53 rfl <| Y_getR dX11_weights_54 f_10_90 (by rw [ft_10_15]; rfl) (xis W 0 10 s_0 (Nat.le_of_ble_eq_true rfl)) (xptr W 0 15 p_0_15) <| Y_aload_n dX11_weights_57 rfl <| Y_getR dX11_weights_58 f_10_83 (by rw [ft_10_14]; rfl) (xis W 0 10 s_0 (Nat.le_of_ble_eq_true rfl)) (xptr W 0 14 p_0_14) <| Y_iload_n dX11_weights_61 rfl <| Y_callV1 dX11_weights_62 cl_10_330 rfl rfl (xis W 98 1 s_98 (Nat.le_of_ble_eq_true rfl)) rfl rfl rfl (hk62) <| Y_callV0 dX11_weights_65 cl_10_179 rfl rfl (xis W62 111 8 s_111 (Nat.le_of_ble_eq_true rfl)) rfl rfl rfl (hk65) <| Y_iinc 1 dX11_weights_68 rfl ic_1 rfl rfl <| Y_goto 32 dX11_weights_71 rfl <| X_le (xle_s (xle_n (xle_s xle_0))) k
theorem bX11_weights_74 {d : Nat} {g : xSt} {r : Option Value × xSt}  (W : xWf g) (k : r = (some (.int (xI g 98 11)), g)) : xX (d + 1) mX11_weights 74 [some (.ref 0), none, none] [] g = some r :=
  Y_aload_n dX11_weights_74 rfl <| Y_getR dX11_weights_75 f_10_83 (by rw [ft_10_14]; rfl) (xis W 0 10 s_0 (Nat.le_of_ble_eq_true rfl)) (xptr W 0 14 p_0_14) <| Y_getI dX11_weights_78 f_10_329 ft_1_11 (xis W 98 1 s_98 (Nat.le_of_ble_eq_true rfl)) <| Y_iret dX11_weights_81 rfl k
theorem bX11_weight_0 {d : Nat} {g : xSt} {r : Option Value × xSt} {a1 a2 a3 r5 : Int32} {g5 : xSt} (W : xWf g) (hk5 : xCallM d mX10_hasThing [.ref (tw g), .int a1] g = some (some (.int r5), g5)) (W5 : xWf g5) (k1 : r5 = 0 → xX (d + 1) mX11_weight 11 [none, none, none, none] [] g5 = some r) (k2 : ¬ (r5 = 0) → xX (d + 1) mX11_weight 13 [some (.ref 0), some (.int a1), some (.int a2), some (.int a3)] [] g5 = some r) : xX (d + 1) mX11_weight 0 [some (.ref 0), some (.int a1), some (.int a2), some (.int a3)] [] g = some r :=
  Y_aload_n dX11_weight_0 rfl <| Y_getR dX11_weight_1 f_10_20 (by rw [ft_10_4]; rfl) (xis W 0 10 s_0 (Nat.le_of_ble_eq_true rfl)) (xtwR W) <| Y_iload_n dX11_weight_4 rfl <| Y_callV1 dX11_weight_5 cl_10_189 rfl rfl (xisS W (xtw W)) rfl rfl rfl (hk5) <| Y_ne0 13 dX11_weight_8 rfl (fun q => X_le (xle_n (xle_n (xle_n (xle_n xle_0)))) (k1 q)) (fun q => X_le (xle_s (xle_s (xle_s (xle_s xle_0)))) (k2 q))
theorem bX11_weight_11 {d : Nat} {g : xSt} {r : Option Value × xSt}  (k : r = (some (.int (-1)), g)) : xX (d + 1) mX11_weight 11 [none, none, none, none] [] g = some r :=
  Y_iconst (-1) dX11_weight_11 ic_m1 <| Y_iret dX11_weight_12 rfl k
theorem bX11_weight_13 {d : Nat} {g : xSt} {r : Option Value × xSt} {a1 a2 a3 : Int32} {g26 g33 : xSt} (W : xWf g) (hk26 : xCallM d mX1_load [.ref 98, .ref (tw g), .ref 32, .int a3] g = some (none, g26)) (W26 : xWf g26) (hk33 : xCallM d mX1_guessAll [.ref 98] g26 = some (none, g33)) (W33 : xWf g33) (k1 : (xI g33 98 11) = 0 → xX (d + 1) mX11_weight 46 [none, none, none, none] [] g33 = some r) (k2 : ¬ ((xI g33 98 11) = 0) → xX (d + 1) mX11_weight 50 [some (.ref 0), some (.int a1), some (.int a2), none] [] g33 = some r) : xX (d + 1) mX11_weight 13 [some (.ref 0), some (.int a1), some (.int a2), some (.int a3)] [] g = some r :=
  Y_aload_n dX11_weight_13 rfl <| Y_getR dX11_weight_14 f_10_83 (by rw [ft_10_14]; rfl) (xis W 0 10 s_0 (Nat.le_of_ble_eq_true rfl)) (xptr W 0 14 p_0_14) <| Y_aload_n dX11_weight_17 rfl <| Y_getR dX11_weight_18 f_10_20 (by rw [ft_10_4]; rfl) (xis W 0 10 s_0 (Nat.le_of_ble_eq_true rfl)) (xtwR W) <| Y_aload_n dX11_weight_21 rfl <| Y_getR dX11_weight_22 f_10_37 (by rw [ft_10_7]; rfl) (xis W 0 10 s_0 (Nat.le_of_ble_eq_true rfl)) (xptr W 0 7 p_0_7) <| Y_iload_n dX11_weight_25 rfl <| Y_callV0 dX11_weight_26 cl_10_322 rfl rfl (xis W 98 1 s_98 (Nat.le_of_ble_eq_true rfl)) rfl rfl rfl (hk26) <| Y_aload_n dX11_weight_29 rfl <| Y_getR dX11_weight_30 f_10_83 (by rw [ft_10_14]; rfl) (xis W26 0 10 s_0 (Nat.le_of_ble_eq_true rfl)) (xptr W26 0 14 p_0_14) <| Y_callV0 dX11_weight_33 cl_10_326 rfl rfl (xis W26 98 1 s_98 (Nat.le_of_ble_eq_true rfl)) rfl rfl rfl (hk33) <| Y_aload_n dX11_weight_36 rfl <| Y_getR dX11_weight_37 f_10_83 (by rw [ft_10_14]; rfl) (xis W33 0 10 s_0 (Nat.le_of_ble_eq_true rfl)) (xptr W33 0 14 p_0_14) <| Y_getI dX11_weight_40 f_10_329 ft_1_11 (xis W33 98 1 s_98 (Nat.le_of_ble_eq_true rfl)) <| Y_ne0 50 dX11_weight_43 rfl (fun q => X_le (xle_n (xle_n (xle_n (xle_n xle_0)))) (k1 q)) (fun q => X_le (xle_s (xle_s (xle_s (xle_n xle_0)))) (k2 q))
theorem bX11_weight_46 {d : Nat} {g : xSt} {r : Option Value × xSt}  (k : xX (d + 1) mX11_weight 59 [none, none, none, none] [.int (-1)] g = some r) : xX (d + 1) mX11_weight 46 [none, none, none, none] [] g = some r :=
  Y_iconst (-1) dX11_weight_46 ic_m1 <| Y_goto 59 dX11_weight_47 rfl <| X_le (xle_n (xle_n (xle_n (xle_n xle_0)))) k
theorem bX11_weight_50 {d : Nat} {g : xSt} {r : Option Value × xSt} {a1 a2 r56 : Int32} {g56 : xSt} (W : xWf g) (hk56 : xCallM d mX1_extremeOf [.ref 98, .int a1, .int a2] g = some (some (.int r56), g56)) (W56 : xWf g56) (k : xX (d + 1) mX11_weight 59 [none, none, none, none] [.int r56] g56 = some r) : xX (d + 1) mX11_weight 50 [some (.ref 0), some (.int a1), some (.int a2), none] [] g = some r :=
  Y_aload_n dX11_weight_50 rfl <| Y_getR dX11_weight_51 f_10_83 (by rw [ft_10_14]; rfl) (xis W 0 10 s_0 (Nat.le_of_ble_eq_true rfl)) (xptr W 0 14 p_0_14) <| Y_iload_n dX11_weight_54 rfl <| Y_iload_n dX11_weight_55 rfl <| Y_callV1 dX11_weight_56 cl_10_333 rfl rfl (xis W 98 1 s_98 (Nat.le_of_ble_eq_true rfl)) rfl rfl rfl (hk56) <| X_le (xle_n (xle_n (xle_n (xle_n xle_0)))) k
theorem bX11_weight_59 {d : Nat} {g : xSt} {r : Option Value × xSt} {s0 : Int32} (k : r = (some (.int s0), g)) : xX (d + 1) mX11_weight 59 [none, none, none, none] [.int s0] g = some r :=
  Y_iret dX11_weight_59 rfl k
theorem bX11_could_0 {d : Nat} {g : xSt} {r : Option Value × xSt} {a1 a2 a3 r6 : Int32} {g6 : xSt} (W : xWf g) (hk6 : xCallM d mX10_hasHeaps [.ref (tw g), .int a1, .int a2] g = some (some (.int r6), g6)) (W6 : xWf g6) (k1 : r6 = 0 → xX (d + 1) mX11_could 12 [none, none, none, none] [] g6 = some r) (k2 : ¬ (r6 = 0) → xX (d + 1) mX11_could 14 [some (.ref 0), some (.int a1), some (.int a2), some (.int a3)] [] g6 = some r) : xX (d + 1) mX11_could 0 [some (.ref 0), some (.int a1), some (.int a2), some (.int a3)] [] g = some r :=
  Y_aload_n dX11_could_0 rfl <| Y_getR dX11_could_1 f_10_20 (by rw [ft_10_4]; rfl) (xis W 0 10 s_0 (Nat.le_of_ble_eq_true rfl)) (xtwR W) <| Y_iload_n dX11_could_4 rfl <| Y_iload_n dX11_could_5 rfl <| Y_callV1 dX11_could_6 cl_10_129 rfl rfl (xisS W (xtw W)) rfl rfl rfl (hk6) <| Y_ne0 14 dX11_could_9 rfl (fun q => X_le (xle_n (xle_n (xle_n (xle_n xle_0)))) (k1 q)) (fun q => X_le (xle_s (xle_s (xle_s (xle_s xle_0)))) (k2 q))
theorem bX11_could_12 {d : Nat} {g : xSt} {r : Option Value × xSt}  (k : r = (some (.int (-1)), g)) : xX (d + 1) mX11_could 12 [none, none, none, none] [] g = some r :=
  Y_iconst (-1) dX11_could_12 ic_m1 <| Y_iret dX11_could_13 rfl k
theorem bX11_could_14 {d : Nat} {g : xSt} {r : Option Value × xSt} {a1 a2 a3 r36 : Int32} {g27 g36 : xSt} (W : xWf g) (hk27 : xCallM d mX1_load [.ref 98, .ref (tw g), .ref 32, .int a3] g = some (none, g27)) (W27 : xWf g27) (hk36 : xCallM d mX1_sayings [.ref 98, .int a1, .int a2] g27 = some (some (.int r36), g36)) (W36 : xWf g36) (k : r = (some (.int r36), g36)) : xX (d + 1) mX11_could 14 [some (.ref 0), some (.int a1), some (.int a2), some (.int a3)] [] g = some r :=
  Y_aload_n dX11_could_14 rfl <| Y_getR dX11_could_15 f_10_83 (by rw [ft_10_14]; rfl) (xis W 0 10 s_0 (Nat.le_of_ble_eq_true rfl)) (xptr W 0 14 p_0_14) <| Y_aload_n dX11_could_18 rfl <| Y_getR dX11_could_19 f_10_20 (by rw [ft_10_4]; rfl) (xis W 0 10 s_0 (Nat.le_of_ble_eq_true rfl)) (xtwR W) <| Y_aload_n dX11_could_22 rfl <| Y_getR dX11_could_23 f_10_37 (by rw [ft_10_7]; rfl) (xis W 0 10 s_0 (Nat.le_of_ble_eq_true rfl)) (xptr W 0 7 p_0_7) <| Y_iload_n dX11_could_26 rfl <| Y_callV0 dX11_could_27 cl_10_322 rfl rfl (xis W 98 1 s_98 (Nat.le_of_ble_eq_true rfl)) rfl rfl rfl (hk27) <| Y_aload_n dX11_could_30 rfl <| Y_getR dX11_could_31 f_10_83 (by rw [ft_10_14]; rfl) (xis W27 0 10 s_0 (Nat.le_of_ble_eq_true rfl)) (xptr W27 0 14 p_0_14) <| Y_iload_n dX11_could_34 rfl <| Y_iload_n dX11_could_35 rfl <| Y_callV1 dX11_could_36 cl_10_336 rfl rfl (xis W27 98 1 s_98 (Nat.le_of_ble_eq_true rfl)) rfl rfl rfl (hk36) <| Y_iret dX11_could_39 rfl k
theorem bX11_stones_0 {d : Nat} {g : xSt} {r : Option Value × xSt} {a1 a2 : Int32} {g4 : xSt} (W : xWf g) (hk4 : xCallM d mX9_empty [.ref 111] g = some (none, g4)) (W4 : xWf g4) (k1 : a1 < 1 → xX (d + 1) mX11_stones 18 [none, none, none] [] g4 = some r) (k2 : ¬ (a1 < 1) → xX (d + 1) mX11_stones 12 [some (.ref 0), some (.int a1), some (.int a2)] [] g4 = some r) : xX (d + 1) mX11_stones 0 [some (.ref 0), some (.int a1), some (.int a2)] [] g = some r :=
  Y_aload_n dX11_stones_0 rfl <| Y_getR dX11_stones_1 f_10_90 (by rw [ft_10_15]; rfl) (xis W 0 10 s_0 (Nat.le_of_ble_eq_true rfl)) (xptr W 0 15 p_0_15) <| Y_callV0 dX11_stones_4 cl_10_119 rfl rfl (xis W 111 8 s_111 (Nat.le_of_ble_eq_true rfl)) rfl rfl rfl (hk4) <| Y_iload_n dX11_stones_7 rfl <| Y_iconst 1 dX11_stones_8 ic_1 <| Y_lt 18 dX11_stones_9 rfl (fun q => X_le (xle_n (xle_n (xle_n xle_0))) (k1 q)) (fun q => X_le (xle_s (xle_s (xle_s xle_0))) (k2 q))
theorem bX11_stones_12 {d : Nat} {g : xSt} {r : Option Value × xSt} {a1 a2 : Int32} (k1 : a1 ≤ 40 → xX (d + 1) mX11_stones 20 [some (.ref 0), some (.int a1), some (.int a2)] [] g = some r) (k2 : ¬ (a1 ≤ 40) → xX (d + 1) mX11_stones 18 [none, none, none] [] g = some r) : xX (d + 1) mX11_stones 12 [some (.ref 0), some (.int a1), some (.int a2)] [] g = some r :=
  Y_iload_n dX11_stones_12 rfl <| Y_bipush 40 dX11_stones_13 bp_40 <| Y_le 20 dX11_stones_15 rfl (fun q => X_le (xle_s (xle_s (xle_s xle_0))) (k1 q)) (fun q => X_le (xle_n (xle_n (xle_n xle_0))) (k2 q))
theorem bX11_stones_18 {d : Nat} {g : xSt} {r : Option Value × xSt}  (k : r = (some (.int (-1)), g)) : xX (d + 1) mX11_stones 18 [none, none, none] [] g = some r :=
  Y_iconst (-1) dX11_stones_18 ic_m1 <| Y_iret dX11_stones_19 rfl k
theorem bX11_stones_20 {d : Nat} {g : xSt} {r : Option Value × xSt} {a1 a2 : Int32} {g26 : xSt} (W : xWf g) (hk26 : xCallM d mX9_layStones [.ref 111, .int a1, .int a2] g = some (none, g26)) (W26 : xWf g26) (k : r = (some (.int (xI g26 111 1)), g26)) : xX (d + 1) mX11_stones 20 [some (.ref 0), some (.int a1), some (.int a2)] [] g = some r :=
  Y_aload_n dX11_stones_20 rfl <| Y_getR dX11_stones_21 f_10_90 (by rw [ft_10_15]; rfl) (xis W 0 10 s_0 (Nat.le_of_ble_eq_true rfl)) (xptr W 0 15 p_0_15) <| Y_iload_n dX11_stones_24 rfl <| Y_iload_n dX11_stones_25 rfl <| Y_callV0 dX11_stones_26 cl_10_339 rfl rfl (xis W 111 8 s_111 (Nat.le_of_ble_eq_true rfl)) rfl rfl rfl (hk26) <| Y_aload_n dX11_stones_29 rfl <| Y_getR dX11_stones_30 f_10_90 (by rw [ft_10_15]; rfl) (xis W26 0 10 s_0 (Nat.le_of_ble_eq_true rfl)) (xptr W26 0 15 p_0_15) <| Y_getI dX11_stones_33 f_10_287 ft_8_1 (xis W26 111 8 s_111 (Nat.le_of_ble_eq_true rfl)) <| Y_iret dX11_stones_36 rfl k
theorem bX11_heaps_0 {d : Nat} {g : xSt} {r : Option Value × xSt} {a1 a2 : Int32} (k1 : a1 < 0 → xX (d + 1) mX11_heaps 20 [none, none, none] [] g = some r) (k2 : ¬ (a1 < 0) → xX (d + 1) mX11_heaps 4 [some (.ref 0), some (.int a1), some (.int a2)] [] g = some r) : xX (d + 1) mX11_heaps 0 [some (.ref 0), some (.int a1), some (.int a2)] [] g = some r :=
  Y_iload_n dX11_heaps_0 rfl <| Y_lt0 20 dX11_heaps_1 rfl (fun q => X_le (xle_n (xle_n (xle_n xle_0))) (k1 q)) (fun q => X_le (xle_s (xle_s (xle_s xle_0))) (k2 q))
theorem bX11_heaps_4 {d : Nat} {g : xSt} {r : Option Value × xSt} {a1 a2 : Int32} (k1 : 2 < a1 → xX (d + 1) mX11_heaps 20 [none, none, none] [] g = some r) (k2 : ¬ (2 < a1) → xX (d + 1) mX11_heaps 9 [some (.ref 0), some (.int a1), some (.int a2)] [] g = some r) : xX (d + 1) mX11_heaps 4 [some (.ref 0), some (.int a1), some (.int a2)] [] g = some r :=
  Y_iload_n dX11_heaps_4 rfl <| Y_iconst 2 dX11_heaps_5 ic_2 <| Y_gt 20 dX11_heaps_6 rfl (fun q => X_le (xle_n (xle_n (xle_n xle_0))) (k1 q)) (fun q => X_le (xle_s (xle_s (xle_s xle_0))) (k2 q))
theorem bX11_heaps_9 {d : Nat} {g : xSt} {r : Option Value × xSt} {a1 a2 : Int32} (W : xWf g) (k1 : 2 ≤ (xI g (tw g) 0) → xX (d + 1) mX11_heaps 22 [some (.ref 0), some (.int a1), some (.int a2)] [] g = some r) (k2 : ¬ (2 ≤ (xI g (tw g) 0)) → xX (d + 1) mX11_heaps 20 [none, none, none] [] g = some r) : xX (d + 1) mX11_heaps 9 [some (.ref 0), some (.int a1), some (.int a2)] [] g = some r :=
  Y_aload_n dX11_heaps_9 rfl <| Y_getR dX11_heaps_10 f_10_20 (by rw [ft_10_4]; rfl) (xis W 0 10 s_0 (Nat.le_of_ble_eq_true rfl)) (xtwR W) <| Y_getI dX11_heaps_13 f_10_126 ft_9_0 (xisS W (xtw W)) <| Y_iconst 2 dX11_heaps_16 ic_2 <| Y_ge 22 dX11_heaps_17 rfl (fun q => X_le (xle_s (xle_s (xle_s xle_0))) (k1 q)) (fun q => X_le (xle_n (xle_n (xle_n xle_0))) (k2 q))
theorem bX11_heaps_20 {d : Nat} {g : xSt} {r : Option Value × xSt}  (k : r = (some (.int (-1)), g)) : xX (d + 1) mX11_heaps 20 [none, none, none] [] g = some r :=
  Y_iconst (-1) dX11_heaps_20 ic_m1 <| Y_iret dX11_heaps_21 rfl k
theorem bX11_heaps_22 {d : Nat} {g : xSt} {r : Option Value × xSt} {a1 a2 r43 : Int32} {g35 g43 : xSt} (W : xWf g) (hk35 : xCallM d mX1_load [.ref 98, .ref (tw g), .ref 32, .int a2] g = some (none, g35)) (W35 : xWf g35) (hk43 : xCallM d mX1_bestHeaps [.ref 98, .int a1] g35 = some (some (.int r43), g43)) (W43 : xWf g43) (k : r = (some (.int r43), g43)) : xX (d + 1) mX11_heaps 22 [some (.ref 0), some (.int a1), some (.int a2)] [] g = some r :=
  Y_aload_n dX11_heaps_22 rfl <| Y_getR dX11_heaps_23 f_10_83 (by rw [ft_10_14]; rfl) (xis W 0 10 s_0 (Nat.le_of_ble_eq_true rfl)) (xptr W 0 14 p_0_14) <| Y_aload_n dX11_heaps_26 rfl <| Y_getR dX11_heaps_27 f_10_20 (by rw [ft_10_4]; rfl) (xis W 0 10 s_0 (Nat.le_of_ble_eq_true rfl)) (xtwR W) <| Y_aload_n dX11_heaps_30 rfl <| Y_getR dX11_heaps_31 f_10_37 (by rw [ft_10_7]; rfl) (xis W 0 10 s_0 (Nat.le_of_ble_eq_true rfl)) (xptr W 0 7 p_0_7) <| Y_iload_n dX11_heaps_34 rfl <| Y_callV0 dX11_heaps_35 cl_10_322 rfl rfl (xis W 98 1 s_98 (Nat.le_of_ble_eq_true rfl)) rfl rfl rfl (hk35) <| Y_aload_n dX11_heaps_38 rfl <| Y_getR dX11_heaps_39 f_10_83 (by rw [ft_10_14]; rfl) (xis W35 0 10 s_0 (Nat.le_of_ble_eq_true rfl)) (xptr W35 0 14 p_0_14) <| Y_iload_n dX11_heaps_42 rfl <| Y_callV1 dX11_heaps_43 cl_10_343 rfl rfl (xis W35 98 1 s_98 (Nat.le_of_ble_eq_true rfl)) rfl rfl rfl (hk43) <| Y_iret dX11_heaps_46 rfl k
theorem bX11_lies_0 {d : Nat} {g : xSt} {r : Option Value × xSt} {a1 : Int32} (k1 : a1 < 0 → xX (d + 1) mX11_lies 29 [none, none] [] g = some r) (k2 : ¬ (a1 < 0) → xX (d + 1) mX11_lies 4 [some (.ref 0), some (.int a1)] [] g = some r) : xX (d + 1) mX11_lies 0 [some (.ref 0), some (.int a1)] [] g = some r :=
  Y_iload_n dX11_lies_0 rfl <| Y_lt0 29 dX11_lies_1 rfl (fun q => X_le (xle_n (xle_n xle_0)) (k1 q)) (fun q => X_le (xle_s (xle_s xle_0)) (k2 q))
theorem bX11_lies_4 {d : Nat} {g : xSt} {r : Option Value × xSt} {a1 : Int32} (W : xWf g) (k1 : (xI g 111 1) ≤ a1 → xX (d + 1) mX11_lies 29 [none, none] [] g = some r) (k2 : ¬ ((xI g 111 1) ≤ a1) → xX (d + 1) mX11_lies 15 [some (.ref 0), some (.int a1)] [] g = some r) : xX (d + 1) mX11_lies 4 [some (.ref 0), some (.int a1)] [] g = some r :=
  Y_iload_n dX11_lies_4 rfl <| Y_aload_n dX11_lies_5 rfl <| Y_getR dX11_lies_6 f_10_90 (by rw [ft_10_15]; rfl) (xis W 0 10 s_0 (Nat.le_of_ble_eq_true rfl)) (xptr W 0 15 p_0_15) <| Y_getI dX11_lies_9 f_10_287 ft_8_1 (xis W 111 8 s_111 (Nat.le_of_ble_eq_true rfl)) <| Y_ge 29 dX11_lies_12 rfl (fun q => X_le (xle_n (xle_n xle_0)) (k1 q)) (fun q => X_le (xle_s (xle_s xle_0)) (k2 q))
theorem bX11_lies_15 {d : Nat} {g : xSt} {r : Option Value × xSt} {a1 : Int32} (W : xWf g) (k : xX (d + 1) mX11_lies 30 [none, none] [.int (xat (xI g 112) 24 a1)] g = some r) : xX (d + 1) mX11_lies 15 [some (.ref 0), some (.int a1)] [] g = some r :=
  Y_aload_n dX11_lies_15 rfl <| Y_getR dX11_lies_16 f_10_90 (by rw [ft_10_15]; rfl) (xis W 0 10 s_0 (Nat.le_of_ble_eq_true rfl)) (xptr W 0 15 p_0_15) <| Y_getR dX11_lies_19 f_10_346 (by rw [ft_8_0]; rfl) (xis W 111 8 s_111 (Nat.le_of_ble_eq_true rfl)) (xptr W 111 0 p_111_0) <| Y_iload_n dX11_lies_22 rfl <| Y_callS1 dX11_lies_23 cl_10_316 rfl rfl rfl rfl rfl (c_at (xarr W (o := 112) s_112 (Nat.le_of_ble_eq_true rfl))) <| Y_goto 30 dX11_lies_26 rfl <| X_le (xle_n (xle_n xle_0)) k
theorem bX11_lies_29 {d : Nat} {g : xSt} {r : Option Value × xSt}  (k : xX (d + 1) mX11_lies 30 [none, none] [.int (-1)] g = some r) : xX (d + 1) mX11_lies 29 [none, none] [] g = some r :=
  Y_iconst (-1) dX11_lies_29 ic_m1 <| X_le (xle_n (xle_n xle_0)) k
theorem bX11_lies_30 {d : Nat} {g : xSt} {r : Option Value × xSt} {s0 : Int32} (k : r = (some (.int s0), g)) : xX (d + 1) mX11_lies 30 [none, none] [.int s0] g = some r :=
  Y_iret dX11_lies_30 rfl k
theorem bX11_image_0 {d : Nat} {g : xSt} {r : Option Value × xSt} {a1 : Int32} (k1 : a1 < 0 → xX (d + 1) mX11_image 13 [none, none] [] g = some r) (k2 : ¬ (a1 < 0) → xX (d + 1) mX11_image 4 [some (.ref 0), some (.int a1)] [] g = some r) : xX (d + 1) mX11_image 0 [some (.ref 0), some (.int a1)] [] g = some r :=
  Y_iload_n dX11_image_0 rfl <| Y_lt0 13 dX11_image_1 rfl (fun q => X_le (xle_n (xle_n xle_0)) (k1 q)) (fun q => X_le (xle_s (xle_s xle_0)) (k2 q))
theorem bX11_image_4 {d : Nat} {g : xSt} {r : Option Value × xSt} {a1 : Int32} (W : xWf g) (k1 : a1 < 3 → xX (d + 1) mX11_image 15 [some (.ref 0), some (.int a1)] [] g = some r) (k2 : ¬ (a1 < 3) → xX (d + 1) mX11_image 13 [none, none] [] g = some r) : xX (d + 1) mX11_image 4 [some (.ref 0), some (.int a1)] [] g = some r :=
  Y_iload_n dX11_image_4 rfl <| Y_aload_n dX11_image_5 rfl <| Y_getR dX11_image_6 f_10_41 (by rw [ft_10_8]; rfl) (xis W 0 10 s_0 (Nat.le_of_ble_eq_true rfl)) (xptr W 0 8 p_0_8) <| Y_alenq 3 dX11_image_9 (xarr W (o := 41) s_41 (Nat.le_of_ble_eq_true rfl)) on_3 <| Y_lt 15 dX11_image_10 rfl (fun q => X_le (xle_s (xle_s xle_0)) (k1 q)) (fun q => X_le (xle_n (xle_n xle_0)) (k2 q))
theorem bX11_image_13 {d : Nat} {g : xSt} {r : Option Value × xSt}  (k : r = (some (.int (-1)), g)) : xX (d + 1) mX11_image 13 [none, none] [] g = some r :=
  Y_iconst (-1) dX11_image_13 ic_m1 <| Y_iret dX11_image_14 rfl k
theorem bX11_image_15 {d : Nat} {g : xSt} {r : Option Value × xSt} {a1 : Int32} {g25 : xSt} {c : Nat} (W : xWf g) (hc : xBk c) (hi20 : vp_in a1 3) (hp20 : xR g 41 a1.toNatClampNeg = some c) (hk25 : xCallM d mX0_copyFrom [.ref c, .ref 32] g = some (none, g25)) (W25 : xWf g25) (hi33 : vp_in a1 3) (hp33 : xR g25 41 a1.toNatClampNeg = some c) (k : r = (some (.int (xI (xWI g25 c 4 1) 32 0)), xWI g25 c 4 1)) : xX (d + 1) mX11_image 15 [some (.ref 0), some (.int a1)] [] g = some r :=
  Y_aload_n dX11_image_15 rfl <| Y_getR dX11_image_16 f_10_41 (by rw [ft_10_8]; rfl) (xis W 0 10 s_0 (Nat.le_of_ble_eq_true rfl)) (xptr W 0 8 p_0_8) <| Y_iload_n dX11_image_19 rfl <| Y_aald dX11_image_20 (xarr W (o := 41) s_41 (Nat.le_of_ble_eq_true rfl)) hi20 hp20 <| Y_aload_n dX11_image_21 rfl <| Y_getR dX11_image_22 f_10_37 (by rw [ft_10_7]; rfl) (xis W 0 10 s_0 (Nat.le_of_ble_eq_true rfl)) (xptr W 0 7 p_0_7) <| Y_callV0 dX11_image_25 cl_10_349 rfl rfl (xisB W hc) rfl rfl rfl (hk25) <| Y_aload_n dX11_image_28 rfl <| Y_getR dX11_image_29 f_10_41 (by rw [ft_10_8]; rfl) (xis W25 0 10 s_0 (Nat.le_of_ble_eq_true rfl)) (xptr W25 0 8 p_0_8) <| Y_iload_n dX11_image_32 rfl <| Y_aald dX11_image_33 (xarr W25 (o := 41) s_41 (Nat.le_of_ble_eq_true rfl)) hi33 hp33 <| Y_iconst 1 dX11_image_34 ic_1 <| Y_putZ dX11_image_35 f_10_122 fn_0_4 ft_0_4 (xisB W25 hc) (by decide) <| Y_aload_n dX11_image_38 rfl <| Y_getR dX11_image_39 f_10_37 (by rw [ft_10_7]; rfl) (xis W25 0 10 s_0 (Nat.le_of_ble_eq_true rfl)) (xptr W25 0 7 p_0_7) <| Y_getI dX11_image_42 f_10_353 ft_0_0 (xis W25 32 0 s_32 (Nat.le_of_ble_eq_true rfl)) <| Y_iret dX11_image_45 rfl k
theorem bX11_back_0 {d : Nat} {g : xSt} {r : Option Value × xSt} {a1 : Int32} (k1 : a1 < 0 → xX (d + 1) mX11_back 25 [none, none] [] g = some r) (k2 : ¬ (a1 < 0) → xX (d + 1) mX11_back 4 [some (.ref 0), some (.int a1)] [] g = some r) : xX (d + 1) mX11_back 0 [some (.ref 0), some (.int a1)] [] g = some r :=
  Y_iload_n dX11_back_0 rfl <| Y_lt0 25 dX11_back_1 rfl (fun q => X_le (xle_n (xle_n xle_0)) (k1 q)) (fun q => X_le (xle_s (xle_s xle_0)) (k2 q))
theorem bX11_back_4 {d : Nat} {g : xSt} {r : Option Value × xSt} {a1 : Int32} (W : xWf g) (k1 : 3 ≤ a1 → xX (d + 1) mX11_back 25 [none, none] [] g = some r) (k2 : ¬ (3 ≤ a1) → xX (d + 1) mX11_back 13 [some (.ref 0), some (.int a1)] [] g = some r) : xX (d + 1) mX11_back 4 [some (.ref 0), some (.int a1)] [] g = some r :=
  Y_iload_n dX11_back_4 rfl <| Y_aload_n dX11_back_5 rfl <| Y_getR dX11_back_6 f_10_41 (by rw [ft_10_8]; rfl) (xis W 0 10 s_0 (Nat.le_of_ble_eq_true rfl)) (xptr W 0 8 p_0_8) <| Y_alenq 3 dX11_back_9 (xarr W (o := 41) s_41 (Nat.le_of_ble_eq_true rfl)) on_3 <| Y_ge 25 dX11_back_10 rfl (fun q => X_le (xle_n (xle_n xle_0)) (k1 q)) (fun q => X_le (xle_s (xle_s xle_0)) (k2 q))
theorem bX11_back_13 {d : Nat} {g : xSt} {r : Option Value × xSt} {a1 : Int32} {c : Nat} (W : xWf g) (hc : xBk c) (hi18 : vp_in a1 3) (hp18 : xR g 41 a1.toNatClampNeg = some c) (k1 : (xI g c 4) = 0 → xX (d + 1) mX11_back 25 [none, none] [] g = some r) (k2 : ¬ ((xI g c 4) = 0) → xX (d + 1) mX11_back 27 [some (.ref 0), some (.int a1)] [] g = some r) : xX (d + 1) mX11_back 13 [some (.ref 0), some (.int a1)] [] g = some r :=
  Y_aload_n dX11_back_13 rfl <| Y_getR dX11_back_14 f_10_41 (by rw [ft_10_8]; rfl) (xis W 0 10 s_0 (Nat.le_of_ble_eq_true rfl)) (xptr W 0 8 p_0_8) <| Y_iload_n dX11_back_17 rfl <| Y_aald dX11_back_18 (xarr W (o := 41) s_41 (Nat.le_of_ble_eq_true rfl)) hi18 hp18 <| Y_getZ dX11_back_19 f_10_122 ft_0_4 (xisB W hc) <| Y_ne0 27 dX11_back_22 rfl (fun q => X_le (xle_n (xle_n xle_0)) (k1 q)) (fun q => X_le (xle_s (xle_s xle_0)) (k2 q))
theorem bX11_back_25 {d : Nat} {g : xSt} {r : Option Value × xSt}  (k : r = (some (.int (-1)), g)) : xX (d + 1) mX11_back 25 [none, none] [] g = some r :=
  Y_iconst (-1) dX11_back_25 ic_m1 <| Y_iret dX11_back_26 rfl k
theorem bX11_back_27 {d : Nat} {g : xSt} {r : Option Value × xSt} {a1 : Int32} {g37 : xSt} {c : Nat} (W : xWf g) (hc : xBk c) (hi36 : vp_in a1 3) (hp36 : xR g 41 a1.toNatClampNeg = some c) (hk37 : xCallM d mX0_copyFrom [.ref 32, .ref c] g = some (none, g37)) (W37 : xWf g37) (k : r = (some (.int (xI g37 32 0)), g37)) : xX (d + 1) mX11_back 27 [some (.ref 0), some (.int a1)] [] g = some r :=
  Y_aload_n dX11_back_27 rfl <| Y_getR dX11_back_28 f_10_37 (by rw [ft_10_7]; rfl) (xis W 0 10 s_0 (Nat.le_of_ble_eq_true rfl)) (xptr W 0 7 p_0_7) <| Y_aload_n dX11_back_31 rfl <| Y_getR dX11_back_32 f_10_41 (by rw [ft_10_8]; rfl) (xis W 0 10 s_0 (Nat.le_of_ble_eq_true rfl)) (xptr W 0 8 p_0_8) <| Y_iload_n dX11_back_35 rfl <| Y_aald dX11_back_36 (xarr W (o := 41) s_41 (Nat.le_of_ble_eq_true rfl)) hi36 hp36 <| Y_callV0 dX11_back_37 cl_10_349 rfl rfl (xis W 32 0 s_32 (Nat.le_of_ble_eq_true rfl)) rfl rfl rfl (hk37) <| Y_aload_n dX11_back_40 rfl <| Y_getR dX11_back_41 f_10_37 (by rw [ft_10_7]; rfl) (xis W37 0 10 s_0 (Nat.le_of_ble_eq_true rfl)) (xptr W37 0 7 p_0_7) <| Y_getI dX11_back_44 f_10_353 ft_0_0 (xis W37 32 0 s_32 (Nat.le_of_ble_eq_true rfl)) <| Y_iret dX11_back_47 rfl k
theorem bX11_about_0 {d : Nat} {g : xSt} {r : Option Value × xSt} {a1 : Int32} (k0 : a1 = 0 → xX d mX11_about 56 [some (.ref 0), none] [] g = some r) (k1 : a1 = 1 → xX d mX11_about 64 [some (.ref 0), none] [] g = some r) (k2 : a1 = 2 → xX d mX11_about 80 [some (.ref 0), none] [] g = some r) (k3 : a1 = 3 → xX d mX11_about 88 [some (.ref 0), none] [] g = some r) (k4 : a1 = 4 → xX d mX11_about 96 [some (.ref 0), none] [] g = some r) (k5 : a1 = 5 → xX d mX11_about 104 [some (.ref 0), none] [] g = some r) (k6 : a1 = 6 → xX d mX11_about 109 [some (.ref 0), none] [] g = some r) (k7 : a1 = 7 → xX d mX11_about 117 [some (.ref 0), none] [] g = some r) (k8 : a1 = 8 → xX d mX11_about 125 [some (.ref 0), none] [] g = some r) (k9 : a1 = 9 → xX d mX11_about 133 [some (.ref 0), none] [] g = some r) (kd : ¬ a1 = 0 → ¬ a1 = 1 → ¬ a1 = 2 → ¬ a1 = 3 → ¬ a1 = 4 → ¬ a1 = 5 → ¬ a1 = 6 → ¬ a1 = 7 → ¬ a1 = 8 → ¬ a1 = 9 → xX d mX11_about 141 [none, none] [] g = some r) : xX d mX11_about 0 [some (.ref 0), some (.int a1)] [] g = some r := by
  refine Y_iload_n dX11_about_0 rfl <| ?_
  by_cases q0 : a1 = 0
  · exact Y_swc q0 dX11_about_1 (by decide +kernel) (X_le (xle_s (xle_n xle_0)) (k0 q0))
  by_cases q1 : a1 = 1
  · exact Y_swc q1 dX11_about_1 (by decide +kernel) (X_le (xle_s (xle_n xle_0)) (k1 q1))
  by_cases q2 : a1 = 2
  · exact Y_swc q2 dX11_about_1 (by decide +kernel) (X_le (xle_s (xle_n xle_0)) (k2 q2))
  by_cases q3 : a1 = 3
  · exact Y_swc q3 dX11_about_1 (by decide +kernel) (X_le (xle_s (xle_n xle_0)) (k3 q3))
  by_cases q4 : a1 = 4
  · exact Y_swc q4 dX11_about_1 (by decide +kernel) (X_le (xle_s (xle_n xle_0)) (k4 q4))
  by_cases q5 : a1 = 5
  · exact Y_swc q5 dX11_about_1 (by decide +kernel) (X_le (xle_s (xle_n xle_0)) (k5 q5))
  by_cases q6 : a1 = 6
  · exact Y_swc q6 dX11_about_1 (by decide +kernel) (X_le (xle_s (xle_n xle_0)) (k6 q6))
  by_cases q7 : a1 = 7
  · exact Y_swc q7 dX11_about_1 (by decide +kernel) (X_le (xle_s (xle_n xle_0)) (k7 q7))
  by_cases q8 : a1 = 8
  · exact Y_swc q8 dX11_about_1 (by decide +kernel) (X_le (xle_s (xle_n xle_0)) (k8 q8))
  by_cases q9 : a1 = 9
  · exact Y_swc q9 dX11_about_1 (by decide +kernel) (X_le (xle_s (xle_n xle_0)) (k9 q9))
  exact Y_swd 141 dX11_about_1 (xsw10 q0 q1 q2 q3 q4 q5 q6 q7 q8 q9) rfl (X_le (xle_n (xle_n xle_0)) (kd q0 q1 q2 q3 q4 q5 q6 q7 q8 q9))
theorem bX11_about_56 {d : Nat} {g : xSt} {r : Option Value × xSt}  (W : xWf g) (k : r = (some (.int (xI g (tw g) 0)), g)) : xX d mX11_about 56 [some (.ref 0), none] [] g = some r :=
  Y_aload_n dX11_about_56 rfl <| Y_getR dX11_about_57 f_10_20 (by rw [ft_10_4]; rfl) (xis W 0 10 s_0 (Nat.le_of_ble_eq_true rfl)) (xtwR W) <| Y_getI dX11_about_60 f_10_126 ft_9_0 (xisS W (xtw W)) <| Y_iret dX11_about_63 rfl k
theorem bX11_about_64 {d : Nat} {g : xSt} {r : Option Value × xSt}  (W : xWf g) (k1 : (xI g (tw g) 3) = 0 → xX d mX11_about 78 [none, none] [] g = some r) (k2 : ¬ ((xI g (tw g) 3) = 0) → xX d mX11_about 74 [none, none] [] g = some r) : xX d mX11_about 64 [some (.ref 0), none] [] g = some r :=
  Y_aload_n dX11_about_64 rfl <| Y_getR dX11_about_65 f_10_20 (by rw [ft_10_4]; rfl) (xis W 0 10 s_0 (Nat.le_of_ble_eq_true rfl)) (xtwR W) <| Y_getZ dX11_about_68 f_10_213 ft_9_3 (xisS W (xtw W)) <| Y_eq0 78 dX11_about_71 rfl (fun q => X_le (xle_n (xle_n xle_0)) (k1 q)) (fun q => X_le (xle_n (xle_n xle_0)) (k2 q))
theorem bX11_about_74 {d : Nat} {g : xSt} {r : Option Value × xSt}  (k : xX d mX11_about 79 [none, none] [.int 1] g = some r) : xX d mX11_about 74 [none, none] [] g = some r :=
  Y_iconst 1 dX11_about_74 ic_1 <| Y_goto 79 dX11_about_75 rfl <| X_le (xle_n (xle_n xle_0)) k
theorem bX11_about_78 {d : Nat} {g : xSt} {r : Option Value × xSt}  (k : xX d mX11_about 79 [none, none] [.int 0] g = some r) : xX d mX11_about 78 [none, none] [] g = some r :=
  Y_iconst 0 dX11_about_78 ic_0 <| X_le (xle_n (xle_n xle_0)) k
theorem bX11_about_79 {d : Nat} {g : xSt} {r : Option Value × xSt} {s0 : Int32} (k : r = (some (.int s0), g)) : xX d mX11_about 79 [none, none] [.int s0] g = some r :=
  Y_iret dX11_about_79 rfl k
theorem bX11_about_80 {d : Nat} {g : xSt} {r : Option Value × xSt}  (W : xWf g) (k : r = (some (.int (xI g (tw g) 5)), g)) : xX d mX11_about 80 [some (.ref 0), none] [] g = some r :=
  Y_aload_n dX11_about_80 rfl <| Y_getR dX11_about_81 f_10_20 (by rw [ft_10_4]; rfl) (xis W 0 10 s_0 (Nat.le_of_ble_eq_true rfl)) (xtwR W) <| Y_getI dX11_about_84 f_10_356 ft_9_5 (xisS W (xtw W)) <| Y_iret dX11_about_87 rfl k
theorem bX11_about_88 {d : Nat} {g : xSt} {r : Option Value × xSt}  (W : xWf g) (k : r = (some (.int (xI g 32 0)), g)) : xX d mX11_about 88 [some (.ref 0), none] [] g = some r :=
  Y_aload_n dX11_about_88 rfl <| Y_getR dX11_about_89 f_10_37 (by rw [ft_10_7]; rfl) (xis W 0 10 s_0 (Nat.le_of_ble_eq_true rfl)) (xptr W 0 7 p_0_7) <| Y_getI dX11_about_92 f_10_353 ft_0_0 (xis W 32 0 s_32 (Nat.le_of_ble_eq_true rfl)) <| Y_iret dX11_about_95 rfl k
theorem bX11_about_96 {d : Nat} {g : xSt} {r : Option Value × xSt}  (W : xWf g) (k : r = (some (.int (xI g 32 2)), g)) : xX d mX11_about 96 [some (.ref 0), none] [] g = some r :=
  Y_aload_n dX11_about_96 rfl <| Y_getR dX11_about_97 f_10_37 (by rw [ft_10_7]; rfl) (xis W 0 10 s_0 (Nat.le_of_ble_eq_true rfl)) (xptr W 0 7 p_0_7) <| Y_getI dX11_about_100 f_10_359 ft_0_2 (xis W 32 0 s_32 (Nat.le_of_ble_eq_true rfl)) <| Y_iret dX11_about_103 rfl k
theorem bX11_about_104 {d : Nat} {g : xSt} {r : Option Value × xSt}  (W : xWf g) (k : r = (some (.int (xI g 0 1)), g)) : xX d mX11_about 104 [some (.ref 0), none] [] g = some r :=
  Y_aload_n dX11_about_104 rfl <| Y_getI dX11_about_105 f_10_98 ft_10_1 (xis W 0 10 s_0 (Nat.le_of_ble_eq_true rfl)) <| Y_iret dX11_about_108 rfl k
theorem bX11_about_109 {d : Nat} {g : xSt} {r : Option Value × xSt}  (W : xWf g) (k : r = (some (.int (xI g 111 1)), g)) : xX d mX11_about 109 [some (.ref 0), none] [] g = some r :=
  Y_aload_n dX11_about_109 rfl <| Y_getR dX11_about_110 f_10_90 (by rw [ft_10_15]; rfl) (xis W 0 10 s_0 (Nat.le_of_ble_eq_true rfl)) (xptr W 0 15 p_0_15) <| Y_getI dX11_about_113 f_10_287 ft_8_1 (xis W 111 8 s_111 (Nat.le_of_ble_eq_true rfl)) <| Y_iret dX11_about_116 rfl k
theorem bX11_about_117 {d : Nat} {g : xSt} {r : Option Value × xSt}  (W : xWf g) (k : r = (some (.int (xI g (tw g) 8)), g)) : xX d mX11_about 117 [some (.ref 0), none] [] g = some r :=
  Y_aload_n dX11_about_117 rfl <| Y_getR dX11_about_118 f_10_20 (by rw [ft_10_4]; rfl) (xis W 0 10 s_0 (Nat.le_of_ble_eq_true rfl)) (xtwR W) <| Y_getI dX11_about_121 f_10_254 ft_9_8 (xisS W (xtw W)) <| Y_iret dX11_about_124 rfl k
theorem bX11_about_125 {d : Nat} {g : xSt} {r : Option Value × xSt}  (W : xWf g) (k : r = (some (.int (xI g (tw g) 11)), g)) : xX d mX11_about 125 [some (.ref 0), none] [] g = some r :=
  Y_aload_n dX11_about_125 rfl <| Y_getR dX11_about_126 f_10_20 (by rw [ft_10_4]; rfl) (xis W 0 10 s_0 (Nat.le_of_ble_eq_true rfl)) (xtwR W) <| Y_getI dX11_about_129 f_10_362 ft_9_11 (xisS W (xtw W)) <| Y_iret dX11_about_132 rfl k
theorem bX11_about_133 {d : Nat} {g : xSt} {r : Option Value × xSt}  (W : xWf g) (k : r = (some (.int (xI g 32 1)), g)) : xX d mX11_about 133 [some (.ref 0), none] [] g = some r :=
  Y_aload_n dX11_about_133 rfl <| Y_getR dX11_about_134 f_10_37 (by rw [ft_10_7]; rfl) (xis W 0 10 s_0 (Nat.le_of_ble_eq_true rfl)) (xptr W 0 7 p_0_7) <| Y_getI dX11_about_137 f_10_365 ft_0_1 (xis W 32 0 s_32 (Nat.le_of_ble_eq_true rfl)) <| Y_iret dX11_about_140 rfl k
theorem bX11_about_141 {d : Nat} {g : xSt} {r : Option Value × xSt}  (k : r = (some (.int (-1)), g)) : xX d mX11_about 141 [none, none] [] g = some r :=
  Y_iconst (-1) dX11_about_141 ic_m1 <| Y_iret dX11_about_142 rfl k
