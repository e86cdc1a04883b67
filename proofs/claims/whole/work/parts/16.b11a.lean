/-! stretches of HeavierRowModel, by program (wip/whole/genall.py) -/
theorem dX12_clearBank_0 : decode mX12_clearBank.2.1 0 = .ok (.aload_n 0, 1) := by decide +kernel
theorem dX12_clearBank_1 : decode mX12_clearBank.2.1 1 = .ok (.getfield 20, 3) := by decide +kernel
theorem dX12_clearBank_4 : decode mX12_clearBank.2.1 4 = .ok (.aload_n 0, 1) := by decide +kernel
theorem dX12_clearBank_5 : decode mX12_clearBank.2.1 5 = .ok (.getfield 289, 3) := by decide +kernel
theorem dX12_clearBank_8 : decode mX12_clearBank.2.1 8 = .ok (.iconst 0, 1) := by decide +kernel
theorem dX12_clearBank_9 : decode mX12_clearBank.2.1 9 = .ok (.iastore, 1) := by decide +kernel
theorem dX12_clearBank_10 : decode mX12_clearBank.2.1 10 = .ok (.aload_n 0, 1) := by decide +kernel
theorem dX12_clearBank_11 : decode mX12_clearBank.2.1 11 = .ok (.getfield 24, 3) := by decide +kernel
theorem dX12_clearBank_14 : decode mX12_clearBank.2.1 14 = .ok (.aload_n 0, 1) := by decide +kernel
theorem dX12_clearBank_15 : decode mX12_clearBank.2.1 15 = .ok (.getfield 289, 3) := by decide +kernel
theorem dX12_clearBank_18 : decode mX12_clearBank.2.1 18 = .ok (.iconst 0, 1) := by decide +kernel
theorem dX12_clearBank_19 : decode mX12_clearBank.2.1 19 = .ok (.iastore, 1) := by decide +kernel
theorem dX12_clearBank_20 : decode mX12_clearBank.2.1 20 = .ok (.aload_n 0, 1) := by decide +kernel
theorem dX12_clearBank_21 : decode mX12_clearBank.2.1 21 = .ok (.getfield 27, 3) := by decide +kernel
theorem dX12_clearBank_24 : decode mX12_clearBank.2.1 24 = .ok (.aload_n 0, 1) := by decide +kernel
theorem dX12_clearBank_25 : decode mX12_clearBank.2.1 25 = .ok (.getfield 289, 3) := by decide +kernel
theorem dX12_clearBank_28 : decode mX12_clearBank.2.1 28 = .ok (.iconst 0, 1) := by decide +kernel
theorem dX12_clearBank_29 : decode mX12_clearBank.2.1 29 = .ok (.iastore, 1) := by decide +kernel
theorem dX12_clearBank_30 : decode mX12_clearBank.2.1 30 = .ok (.aload_n 0, 1) := by decide +kernel
theorem dX12_clearBank_31 : decode mX12_clearBank.2.1 31 = .ok (.getfield 36, 3) := by decide +kernel
theorem dX12_clearBank_34 : decode mX12_clearBank.2.1 34 = .ok (.aload_n 0, 1) := by decide +kernel
theorem dX12_clearBank_35 : decode mX12_clearBank.2.1 35 = .ok (.getfield 289, 3) := by decide +kernel
theorem dX12_clearBank_38 : decode mX12_clearBank.2.1 38 = .ok (.iconst 0, 1) := by decide +kernel
theorem dX12_clearBank_39 : decode mX12_clearBank.2.1 39 = .ok (.bastore, 1) := by decide +kernel
theorem dX12_clearBank_40 : decode mX12_clearBank.2.1 40 = .ok (.aload_n 0, 1) := by decide +kernel
theorem dX12_clearBank_41 : decode mX12_clearBank.2.1 41 = .ok (.getfield 40, 3) := by decide +kernel
theorem dX12_clearBank_44 : decode mX12_clearBank.2.1 44 = .ok (.aload_n 0, 1) := by decide +kernel
theorem dX12_clearBank_45 : decode mX12_clearBank.2.1 45 = .ok (.getfield 289, 3) := by decide +kernel
theorem dX12_clearBank_48 : decode mX12_clearBank.2.1 48 = .ok (.iconst 0, 1) := by decide +kernel
theorem dX12_clearBank_49 : decode mX12_clearBank.2.1 49 = .ok (.bastore, 1) := by decide +kernel
theorem dX12_clearBank_50 : decode mX12_clearBank.2.1 50 = .ok (.aload_n 0, 1) := by decide +kernel
theorem dX12_clearBank_51 : decode mX12_clearBank.2.1 51 = .ok (.getfield 43, 3) := by decide +kernel
theorem dX12_clearBank_54 : decode mX12_clearBank.2.1 54 = .ok (.aload_n 0, 1) := by decide +kernel
theorem dX12_clearBank_55 : decode mX12_clearBank.2.1 55 = .ok (.getfield 289, 3) := by decide +kernel
theorem dX12_clearBank_58 : decode mX12_clearBank.2.1 58 = .ok (.iconst 0, 1) := by decide +kernel
theorem dX12_clearBank_59 : decode mX12_clearBank.2.1 59 = .ok (.bastore, 1) := by decide +kernel
theorem dX12_clearBank_60 : decode mX12_clearBank.2.1 60 = .ok (.aload_n 0, 1) := by decide +kernel
theorem dX12_clearBank_61 : decode mX12_clearBank.2.1 61 = .ok (.getfield 53, 3) := by decide +kernel
theorem dX12_clearBank_64 : decode mX12_clearBank.2.1 64 = .ok (.aload_n 0, 1) := by decide +kernel
theorem dX12_clearBank_65 : decode mX12_clearBank.2.1 65 = .ok (.getfield 289, 3) := by decide +kernel
theorem dX12_clearBank_68 : decode mX12_clearBank.2.1 68 = .ok (.iconst 0, 1) := by decide +kernel
theorem dX12_clearBank_69 : decode mX12_clearBank.2.1 69 = .ok (.iastore, 1) := by decide +kernel
theorem dX12_clearBank_70 : decode mX12_clearBank.2.1 70 = .ok (.aload_n 0, 1) := by decide +kernel
theorem dX12_clearBank_71 : decode mX12_clearBank.2.1 71 = .ok (.getfield 56, 3) := by decide +kernel
theorem dX12_clearBank_74 : decode mX12_clearBank.2.1 74 = .ok (.aload_n 0, 1) := by decide +kernel
theorem dX12_clearBank_75 : decode mX12_clearBank.2.1 75 = .ok (.getfield 289, 3) := by decide +kernel
theorem dX12_clearBank_78 : decode mX12_clearBank.2.1 78 = .ok (.iconst 0, 1) := by decide +kernel
theorem dX12_clearBank_79 : decode mX12_clearBank.2.1 79 = .ok (.iastore, 1) := by decide +kernel
theorem dX12_clearBank_80 : decode mX12_clearBank.2.1 80 = .ok (.return_, 1) := by decide +kernel
theorem dX12_layOrders_0 : decode mX12_layOrders.2.1 0 = .ok (.aload_n 0, 1) := by decide +kernel
theorem dX12_layOrders_1 : decode mX12_layOrders.2.1 1 = .ok (.iconst 0, 1) := by decide +kernel
theorem dX12_layOrders_2 : decode mX12_layOrders.2.1 2 = .ok (.putfield 371, 3) := by decide +kernel
theorem dX12_layOrders_5 : decode mX12_layOrders.2.1 5 = .ok (.iconst 1, 1) := by decide +kernel
theorem dX12_layOrders_6 : decode mX12_layOrders.2.1 6 = .ok (.istore_n 1, 1) := by decide +kernel
theorem dX12_layOrders_7 : decode mX12_layOrders.2.1 7 = .ok (.iconst 0, 1) := by decide +kernel
theorem dX12_layOrders_8 : decode mX12_layOrders.2.1 8 = .ok (.istore_n 2, 1) := by decide +kernel
theorem dX12_layOrders_9 : decode mX12_layOrders.2.1 9 = .ok (.iload_n 2, 1) := by decide +kernel
theorem dX12_layOrders_10 : decode mX12_layOrders.2.1 10 = .ok (.aload_n 0, 1) := by decide +kernel
theorem dX12_layOrders_11 : decode mX12_layOrders.2.1 11 = .ok (.invokevirtual 364, 3) := by decide +kernel
theorem dX12_layOrders_14 : decode mX12_layOrders.2.1 14 = .ok (.if_icmp .ge 13, 3) := by decide +kernel
theorem dX12_layOrders_17 : decode mX12_layOrders.2.1 17 = .ok (.iload_n 1, 1) := by decide +kernel
theorem dX12_layOrders_18 : decode mX12_layOrders.2.1 18 = .ok (.iconst 5, 1) := by decide +kernel
theorem dX12_layOrders_19 : decode mX12_layOrders.2.1 19 = .ok (.imul, 1) := by decide +kernel
theorem dX12_layOrders_20 : decode mX12_layOrders.2.1 20 = .ok (.istore_n 1, 1) := by decide +kernel
theorem dX12_layOrders_21 : decode mX12_layOrders.2.1 21 = .ok (.iinc 2 1, 3) := by decide +kernel
theorem dX12_layOrders_24 : decode mX12_layOrders.2.1 24 = .ok (.goto (-15), 3) := by decide +kernel
theorem dX12_layOrders_27 : decode mX12_layOrders.2.1 27 = .ok (.iconst 0, 1) := by decide +kernel
theorem dX12_layOrders_28 : decode mX12_layOrders.2.1 28 = .ok (.istore_n 2, 1) := by decide +kernel
theorem dX12_layOrders_29 : decode mX12_layOrders.2.1 29 = .ok (.iload_n 2, 1) := by decide +kernel
theorem dX12_layOrders_30 : decode mX12_layOrders.2.1 30 = .ok (.iload_n 1, 1) := by decide +kernel
theorem dX12_layOrders_31 : decode mX12_layOrders.2.1 31 = .ok (.if_icmp .ge 103, 3) := by decide +kernel
theorem dX12_layOrders_34 : decode mX12_layOrders.2.1 34 = .ok (.iload_n 2, 1) := by decide +kernel
theorem dX12_layOrders_35 : decode mX12_layOrders.2.1 35 = .ok (.istore_n 3, 1) := by decide +kernel
theorem dX12_layOrders_36 : decode mX12_layOrders.2.1 36 = .ok (.aload_n 0, 1) := by decide +kernel
theorem dX12_layOrders_37 : decode mX12_layOrders.2.1 37 = .ok (.invokevirtual 364, 3) := by decide +kernel
theorem dX12_layOrders_40 : decode mX12_layOrders.2.1 40 = .ok (.iconst 1, 1) := by decide +kernel
theorem dX12_layOrders_41 : decode mX12_layOrders.2.1 41 = .ok (.isub, 1) := by decide +kernel
theorem dX12_layOrders_42 : decode mX12_layOrders.2.1 42 = .ok (.istore 4, 2) := by decide +kernel
theorem dX12_layOrders_44 : decode mX12_layOrders.2.1 44 = .ok (.iload 4, 2) := by decide +kernel
theorem dX12_layOrders_46 : decode mX12_layOrders.2.1 46 = .ok (.ifCond .lt 23, 3) := by decide +kernel
theorem dX12_layOrders_49 : decode mX12_layOrders.2.1 49 = .ok (.aload_n 0, 1) := by decide +kernel
theorem dX12_layOrders_50 : decode mX12_layOrders.2.1 50 = .ok (.getfield 80, 3) := by decide +kernel
theorem dX12_layOrders_53 : decode mX12_layOrders.2.1 53 = .ok (.iload 4, 2) := by decide +kernel
theorem dX12_layOrders_55 : decode mX12_layOrders.2.1 55 = .ok (.iload_n 3, 1) := by decide +kernel
theorem dX12_layOrders_56 : decode mX12_layOrders.2.1 56 = .ok (.iconst 5, 1) := by decide +kernel
theorem dX12_layOrders_57 : decode mX12_layOrders.2.1 57 = .ok (.irem, 1) := by decide +kernel
theorem dX12_layOrders_58 : decode mX12_layOrders.2.1 58 = .ok (.iastore, 1) := by decide +kernel
theorem dX12_layOrders_59 : decode mX12_layOrders.2.1 59 = .ok (.iload_n 3, 1) := by decide +kernel
theorem dX12_layOrders_60 : decode mX12_layOrders.2.1 60 = .ok (.iconst 5, 1) := by decide +kernel
theorem dX12_layOrders_61 : decode mX12_layOrders.2.1 61 = .ok (.idiv, 1) := by decide +kernel
theorem dX12_layOrders_62 : decode mX12_layOrders.2.1 62 = .ok (.istore_n 3, 1) := by decide +kernel
theorem dX12_layOrders_63 : decode mX12_layOrders.2.1 63 = .ok (.iinc 4 (-1), 3) := by decide +kernel
theorem dX12_layOrders_66 : decode mX12_layOrders.2.1 66 = .ok (.goto (-22), 3) := by decide +kernel
theorem dX12_layOrders_69 : decode mX12_layOrders.2.1 69 = .ok (.aload_n 0, 1) := by decide +kernel
theorem dX12_layOrders_70 : decode mX12_layOrders.2.1 70 = .ok (.invokevirtual 374, 3) := by decide +kernel
theorem dX12_layOrders_73 : decode mX12_layOrders.2.1 73 = .ok (.ifCond .ne 6, 3) := by decide +kernel
theorem dX12_layOrders_76 : decode mX12_layOrders.2.1 76 = .ok (.goto 52, 3) := by decide +kernel
theorem dX12_layOrders_79 : decode mX12_layOrders.2.1 79 = .ok (.iconst 0, 1) := by decide +kernel
theorem dX12_layOrders_80 : decode mX12_layOrders.2.1 80 = .ok (.istore 4, 2) := by decide +kernel
theorem dX12_layOrders_82 : decode mX12_layOrders.2.1 82 = .ok (.iload 4, 2) := by decide +kernel
theorem dX12_layOrders_84 : decode mX12_layOrders.2.1 84 = .ok (.aload_n 0, 1) := by decide +kernel
theorem dX12_layOrders_85 : decode mX12_layOrders.2.1 85 = .ok (.invokevirtual 364, 3) := by decide +kernel
theorem dX12_layOrders_88 : decode mX12_layOrders.2.1 88 = .ok (.if_icmp .ge 30, 3) := by decide +kernel
theorem dX12_layOrders_91 : decode mX12_layOrders.2.1 91 = .ok (.aload_n 0, 1) := by decide +kernel
theorem dX12_layOrders_92 : decode mX12_layOrders.2.1 92 = .ok (.getfield 77, 3) := by decide +kernel
theorem dX12_layOrders_95 : decode mX12_layOrders.2.1 95 = .ok (.iconst 5, 1) := by decide +kernel
theorem dX12_layOrders_96 : decode mX12_layOrders.2.1 96 = .ok (.aload_n 0, 1) := by decide +kernel
theorem dX12_layOrders_97 : decode mX12_layOrders.2.1 97 = .ok (.getfield 371, 3) := by decide +kernel
theorem dX12_layOrders_100 : decode mX12_layOrders.2.1 100 = .ok (.imul, 1) := by decide +kernel
theorem dX12_layOrders_101 : decode mX12_layOrders.2.1 101 = .ok (.iload 4, 2) := by decide +kernel
theorem dX12_layOrders_103 : decode mX12_layOrders.2.1 103 = .ok (.iadd, 1) := by decide +kernel
theorem dX12_layOrders_104 : decode mX12_layOrders.2.1 104 = .ok (.aload_n 0, 1) := by decide +kernel
theorem dX12_layOrders_105 : decode mX12_layOrders.2.1 105 = .ok (.getfield 80, 3) := by decide +kernel
theorem dX12_layOrders_108 : decode mX12_layOrders.2.1 108 = .ok (.iload 4, 2) := by decide +kernel
theorem dX12_layOrders_110 : decode mX12_layOrders.2.1 110 = .ok (.iaload, 1) := by decide +kernel
theorem dX12_layOrders_111 : decode mX12_layOrders.2.1 111 = .ok (.iastore, 1) := by decide +kernel
theorem dX12_layOrders_112 : decode mX12_layOrders.2.1 112 = .ok (.iinc 4 1, 3) := by decide +kernel
theorem dX12_layOrders_115 : decode mX12_layOrders.2.1 115 = .ok (.goto (-33), 3) := by decide +kernel
theorem dX12_layOrders_118 : decode mX12_layOrders.2.1 118 = .ok (.aload_n 0, 1) := by decide +kernel
theorem dX12_layOrders_119 : decode mX12_layOrders.2.1 119 = .ok (.dup, 1) := by decide +kernel
theorem dX12_layOrders_120 : decode mX12_layOrders.2.1 120 = .ok (.getfield 371, 3) := by decide +kernel
theorem dX12_layOrders_123 : decode mX12_layOrders.2.1 123 = .ok (.iconst 1, 1) := by decide +kernel
theorem dX12_layOrders_124 : decode mX12_layOrders.2.1 124 = .ok (.iadd, 1) := by decide +kernel
theorem dX12_layOrders_125 : decode mX12_layOrders.2.1 125 = .ok (.putfield 371, 3) := by decide +kernel
theorem dX12_layOrders_128 : decode mX12_layOrders.2.1 128 = .ok (.iinc 2 1, 3) := by decide +kernel
theorem dX12_layOrders_131 : decode mX12_layOrders.2.1 131 = .ok (.goto (-102), 3) := by decide +kernel
theorem dX12_layOrders_134 : decode mX12_layOrders.2.1 134 = .ok (.return_, 1) := by decide +kernel
theorem dX12_thingMany_0 : decode mX12_thingMany.2.1 0 = .ok (.aload_n 0, 1) := by decide +kernel
theorem dX12_thingMany_1 : decode mX12_thingMany.2.1 1 = .ok (.getfield 20, 3) := by decide +kernel
theorem dX12_thingMany_4 : decode mX12_thingMany.2.1 4 = .ok (.aload_n 0, 1) := by decide +kernel
theorem dX12_thingMany_5 : decode mX12_thingMany.2.1 5 = .ok (.getfield 295, 3) := by decide +kernel
theorem dX12_thingMany_8 : decode mX12_thingMany.2.1 8 = .ok (.iaload, 1) := by decide +kernel
theorem dX12_thingMany_9 : decode mX12_thingMany.2.1 9 = .ok (.ireturn, 1) := by decide +kernel
theorem dX12_isOrder_0 : decode mX12_isOrder.2.1 0 = .ok (.iconst 0, 1) := by decide +kernel
theorem dX12_isOrder_1 : decode mX12_isOrder.2.1 1 = .ok (.istore_n 1, 1) := by decide +kernel
theorem dX12_isOrder_2 : decode mX12_isOrder.2.1 2 = .ok (.iload_n 1, 1) := by decide +kernel
theorem dX12_isOrder_3 : decode mX12_isOrder.2.1 3 = .ok (.aload_n 0, 1) := by decide +kernel
theorem dX12_isOrder_4 : decode mX12_isOrder.2.1 4 = .ok (.invokevirtual 364, 3) := by decide +kernel
theorem dX12_isOrder_7 : decode mX12_isOrder.2.1 7 = .ok (.if_icmp .ge 96, 3) := by decide +kernel
theorem dX12_isOrder_10 : decode mX12_isOrder.2.1 10 = .ok (.iconst 0, 1) := by decide +kernel
theorem dX12_isOrder_11 : decode mX12_isOrder.2.1 11 = .ok (.istore_n 2, 1) := by decide +kernel
theorem dX12_isOrder_12 : decode mX12_isOrder.2.1 12 = .ok (.iconst 0, 1) := by decide +kernel
theorem dX12_isOrder_13 : decode mX12_isOrder.2.1 13 = .ok (.istore_n 3, 1) := by decide +kernel
theorem dX12_isOrder_14 : decode mX12_isOrder.2.1 14 = .ok (.iload_n 3, 1) := by decide +kernel
theorem dX12_isOrder_15 : decode mX12_isOrder.2.1 15 = .ok (.aload_n 0, 1) := by decide +kernel
theorem dX12_isOrder_16 : decode mX12_isOrder.2.1 16 = .ok (.invokevirtual 364, 3) := by decide +kernel
theorem dX12_isOrder_19 : decode mX12_isOrder.2.1 19 = .ok (.if_icmp .ge 66, 3) := by decide +kernel
theorem dX12_isOrder_22 : decode mX12_isOrder.2.1 22 = .ok (.iload_n 2, 1) := by decide +kernel
theorem dX12_isOrder_23 : decode mX12_isOrder.2.1 23 = .ok (.aload_n 0, 1) := by decide +kernel
theorem dX12_isOrder_24 : decode mX12_isOrder.2.1 24 = .ok (.getfield 80, 3) := by decide +kernel
theorem dX12_isOrder_27 : decode mX12_isOrder.2.1 27 = .ok (.iload_n 3, 1) := by decide +kernel
theorem dX12_isOrder_28 : decode mX12_isOrder.2.1 28 = .ok (.iaload, 1) := by decide +kernel
theorem dX12_isOrder_29 : decode mX12_isOrder.2.1 29 = .ok (.aload_n 0, 1) := by decide +kernel
theorem dX12_isOrder_30 : decode mX12_isOrder.2.1 30 = .ok (.getfield 80, 3) := by decide +kernel
theorem dX12_isOrder_33 : decode mX12_isOrder.2.1 33 = .ok (.iload_n 1, 1) := by decide +kernel
theorem dX12_isOrder_34 : decode mX12_isOrder.2.1 34 = .ok (.iaload, 1) := by decide +kernel
theorem dX12_isOrder_35 : decode mX12_isOrder.2.1 35 = .ok (.if_icmp .ge 7, 3) := by decide +kernel
theorem dX12_isOrder_38 : decode mX12_isOrder.2.1 38 = .ok (.iconst 1, 1) := by decide +kernel
theorem dX12_isOrder_39 : decode mX12_isOrder.2.1 39 = .ok (.goto 4, 3) := by decide +kernel
theorem dX12_isOrder_42 : decode mX12_isOrder.2.1 42 = .ok (.iconst 0, 1) := by decide +kernel
theorem dX12_isOrder_43 : decode mX12_isOrder.2.1 43 = .ok (.iadd, 1) := by decide +kernel
theorem dX12_isOrder_44 : decode mX12_isOrder.2.1 44 = .ok (.istore_n 2, 1) := by decide +kernel
theorem dX12_isOrder_45 : decode mX12_isOrder.2.1 45 = .ok (.iload_n 3, 1) := by decide +kernel
theorem dX12_isOrder_46 : decode mX12_isOrder.2.1 46 = .ok (.iload_n 1, 1) := by decide +kernel
theorem dX12_isOrder_47 : decode mX12_isOrder.2.1 47 = .ok (.if_icmp .eq 32, 3) := by decide +kernel
theorem dX12_isOrder_50 : decode mX12_isOrder.2.1 50 = .ok (.aload_n 0, 1) := by decide +kernel
theorem dX12_isOrder_51 : decode mX12_isOrder.2.1 51 = .ok (.getfield 80, 3) := by decide +kernel
theorem dX12_isOrder_54 : decode mX12_isOrder.2.1 54 = .ok (.iload_n 3, 1) := by decide +kernel
theorem dX12_isOrder_55 : decode mX12_isOrder.2.1 55 = .ok (.iaload, 1) := by decide +kernel
theorem dX12_isOrder_56 : decode mX12_isOrder.2.1 56 = .ok (.aload_n 0, 1) := by decide +kernel
theorem dX12_isOrder_57 : decode mX12_isOrder.2.1 57 = .ok (.getfield 80, 3) := by decide +kernel
theorem dX12_isOrder_60 : decode mX12_isOrder.2.1 60 = .ok (.iload_n 1, 1) := by decide +kernel
theorem dX12_isOrder_61 : decode mX12_isOrder.2.1 61 = .ok (.iaload, 1) := by decide +kernel
theorem dX12_isOrder_62 : decode mX12_isOrder.2.1 62 = .ok (.if_icmp .ne 17, 3) := by decide +kernel
theorem dX12_isOrder_65 : decode mX12_isOrder.2.1 65 = .ok (.aload_n 0, 1) := by decide +kernel
theorem dX12_isOrder_66 : decode mX12_isOrder.2.1 66 = .ok (.getfield 36, 3) := by decide +kernel
theorem dX12_isOrder_69 : decode mX12_isOrder.2.1 69 = .ok (.aload_n 0, 1) := by decide +kernel
theorem dX12_isOrder_70 : decode mX12_isOrder.2.1 70 = .ok (.getfield 295, 3) := by decide +kernel
theorem dX12_isOrder_73 : decode mX12_isOrder.2.1 73 = .ok (.baload, 1) := by decide +kernel
theorem dX12_isOrder_74 : decode mX12_isOrder.2.1 74 = .ok (.ifCond .ne 5, 3) := by decide +kernel
theorem dX12_isOrder_77 : decode mX12_isOrder.2.1 77 = .ok (.iconst 0, 1) := by decide +kernel
theorem dX12_isOrder_78 : decode mX12_isOrder.2.1 78 = .ok (.ireturn, 1) := by decide +kernel
theorem dX12_isOrder_79 : decode mX12_isOrder.2.1 79 = .ok (.iinc 3 1, 3) := by decide +kernel
theorem dX12_isOrder_82 : decode mX12_isOrder.2.1 82 = .ok (.goto (-68), 3) := by decide +kernel
theorem dX12_isOrder_85 : decode mX12_isOrder.2.1 85 = .ok (.iload_n 2, 1) := by decide +kernel
theorem dX12_isOrder_86 : decode mX12_isOrder.2.1 86 = .ok (.aload_n 0, 1) := by decide +kernel
theorem dX12_isOrder_87 : decode mX12_isOrder.2.1 87 = .ok (.getfield 80, 3) := by decide +kernel
theorem dX12_isOrder_90 : decode mX12_isOrder.2.1 90 = .ok (.iload_n 1, 1) := by decide +kernel
theorem dX12_isOrder_91 : decode mX12_isOrder.2.1 91 = .ok (.iaload, 1) := by decide +kernel
theorem dX12_isOrder_92 : decode mX12_isOrder.2.1 92 = .ok (.if_icmp .eq 5, 3) := by decide +kernel
theorem dX12_isOrder_95 : decode mX12_isOrder.2.1 95 = .ok (.iconst 0, 1) := by decide +kernel
theorem dX12_isOrder_96 : decode mX12_isOrder.2.1 96 = .ok (.ireturn, 1) := by decide +kernel
theorem dX12_isOrder_97 : decode mX12_isOrder.2.1 97 = .ok (.iinc 1 1, 3) := by decide +kernel
theorem dX12_isOrder_100 : decode mX12_isOrder.2.1 100 = .ok (.goto (-98), 3) := by decide +kernel
theorem dX12_isOrder_103 : decode mX12_isOrder.2.1 103 = .ok (.iconst 1, 1) := by decide +kernel
theorem dX12_isOrder_104 : decode mX12_isOrder.2.1 104 = .ok (.ireturn, 1) := by decide +kernel
theorem dX12_street_0 : decode mX12_street.2.1 0 = .ok (.aload_n 0, 1) := by decide +kernel
theorem dX12_street_1 : decode mX12_street.2.1 1 = .ok (.iconst 0, 1) := by decide +kernel
theorem dX12_street_2 : decode mX12_street.2.1 2 = .ok (.putfield 227, 3) := by decide +kernel
theorem dX12_street_5 : decode mX12_street.2.1 5 = .ok (.aload_n 0, 1) := by decide +kernel
theorem dX12_street_6 : decode mX12_street.2.1 6 = .ok (.iconst (-1), 1) := by decide +kernel
theorem dX12_street_7 : decode mX12_street.2.1 7 = .ok (.putfield 16, 3) := by decide +kernel
theorem dX12_street_10 : decode mX12_street.2.1 10 = .ok (.aload_n 0, 1) := by decide +kernel
theorem dX12_street_11 : decode mX12_street.2.1 11 = .ok (.aload_n 0, 1) := by decide +kernel
theorem dX12_street_12 : decode mX12_street.2.1 12 = .ok (.getfield 292, 3) := by decide +kernel
theorem dX12_street_15 : decode mX12_street.2.1 15 = .ok (.putfield 224, 3) := by decide +kernel
theorem dX12_street_18 : decode mX12_street.2.1 18 = .ok (.iconst 0, 1) := by decide +kernel
theorem dX12_street_19 : decode mX12_street.2.1 19 = .ok (.istore_n 1, 1) := by decide +kernel
theorem dX12_street_20 : decode mX12_street.2.1 20 = .ok (.iload_n 1, 1) := by decide +kernel
theorem dX12_street_21 : decode mX12_street.2.1 21 = .ok (.aload_n 0, 1) := by decide +kernel
theorem dX12_street_22 : decode mX12_street.2.1 22 = .ok (.getfield 224, 3) := by decide +kernel
theorem dX12_street_25 : decode mX12_street.2.1 25 = .ok (.if_icmp .ge 21, 3) := by decide +kernel
theorem dX12_street_28 : decode mX12_street.2.1 28 = .ok (.aload_n 0, 1) := by decide +kernel
theorem dX12_street_29 : decode mX12_street.2.1 29 = .ok (.getfield 13, 3) := by decide +kernel
theorem dX12_street_32 : decode mX12_street.2.1 32 = .ok (.iload_n 1, 1) := by decide +kernel
theorem dX12_street_33 : decode mX12_street.2.1 33 = .ok (.aload_n 0, 1) := by decide +kernel
theorem dX12_street_34 : decode mX12_street.2.1 34 = .ok (.getfield 7, 3) := by decide +kernel
theorem dX12_street_37 : decode mX12_street.2.1 37 = .ok (.iload_n 1, 1) := by decide +kernel
theorem dX12_street_38 : decode mX12_street.2.1 38 = .ok (.baload, 1) := by decide +kernel
theorem dX12_street_39 : decode mX12_street.2.1 39 = .ok (.bastore, 1) := by decide +kernel
theorem dX12_street_40 : decode mX12_street.2.1 40 = .ok (.iinc 1 1, 3) := by decide +kernel
theorem dX12_street_43 : decode mX12_street.2.1 43 = .ok (.goto (-23), 3) := by decide +kernel
theorem dX12_street_46 : decode mX12_street.2.1 46 = .ok (.aload_n 0, 1) := by decide +kernel
theorem dX12_street_47 : decode mX12_street.2.1 47 = .ok (.iconst 0, 1) := by decide +kernel
theorem dX12_street_48 : decode mX12_street.2.1 48 = .ok (.putfield 292, 3) := by decide +kernel
theorem dX12_street_51 : decode mX12_street.2.1 51 = .ok (.aload_n 0, 1) := by decide +kernel
theorem dX12_street_52 : decode mX12_street.2.1 52 = .ok (.iconst 0, 1) := by decide +kernel
theorem dX12_street_53 : decode mX12_street.2.1 53 = .ok (.putfield 244, 3) := by decide +kernel
theorem dX12_street_56 : decode mX12_street.2.1 56 = .ok (.aload_n 0, 1) := by decide +kernel
theorem dX12_street_57 : decode mX12_street.2.1 57 = .ok (.iconst 1, 1) := by decide +kernel
theorem dX12_street_58 : decode mX12_street.2.1 58 = .ok (.aload_n 0, 1) := by decide +kernel
theorem dX12_street_59 : decode mX12_street.2.1 59 = .ok (.getfield 295, 3) := by decide +kernel
theorem dX12_street_62 : decode mX12_street.2.1 62 = .ok (.isub, 1) := by decide +kernel
theorem dX12_street_63 : decode mX12_street.2.1 63 = .ok (.putfield 289, 3) := by decide +kernel
theorem dX12_street_66 : decode mX12_street.2.1 66 = .ok (.aload_n 0, 1) := by decide +kernel
theorem dX12_street_67 : decode mX12_street.2.1 67 = .ok (.invokevirtual 218, 3) := by decide +kernel
theorem dX12_street_70 : decode mX12_street.2.1 70 = .ok (.aload_n 0, 1) := by decide +kernel
theorem dX12_street_71 : decode mX12_street.2.1 71 = .ok (.invokevirtual 283, 3) := by decide +kernel
theorem dX12_street_74 : decode mX12_street.2.1 74 = .ok (.aload_n 0, 1) := by decide +kernel
theorem dX12_street_75 : decode mX12_street.2.1 75 = .ok (.invokevirtual 279, 3) := by decide +kernel
theorem dX12_street_78 : decode mX12_street.2.1 78 = .ok (.ifCond .eq 17, 3) := by decide +kernel
theorem dX12_street_81 : decode mX12_street.2.1 81 = .ok (.aload_n 0, 1) := by decide +kernel
theorem dX12_street_82 : decode mX12_street.2.1 82 = .ok (.getfield 254, 3) := by decide +kernel
theorem dX12_street_85 : decode mX12_street.2.1 85 = .ok (.ifCond .eq 10, 3) := by decide +kernel
theorem dX12_street_88 : decode mX12_street.2.1 88 = .ok (.aload_n 0, 1) := by decide +kernel
theorem dX12_street_89 : decode mX12_street.2.1 89 = .ok (.invokevirtual 298, 3) := by decide +kernel
theorem dX12_street_92 : decode mX12_street.2.1 92 = .ok (.goto (-18), 3) := by decide +kernel
theorem dX12_street_95 : decode mX12_street.2.1 95 = .ok (.aload_n 0, 1) := by decide +kernel
theorem dX12_street_96 : decode mX12_street.2.1 96 = .ok (.invokevirtual 279, 3) := by decide +kernel
theorem dX12_street_99 : decode mX12_street.2.1 99 = .ok (.ifCond .ne 5, 3) := by decide +kernel
theorem dX12_street_102 : decode mX12_street.2.1 102 = .ok (.iconst (-1), 1) := by decide +kernel
theorem dX12_street_103 : decode mX12_street.2.1 103 = .ok (.ireturn, 1) := by decide +kernel
theorem dX12_street_104 : decode mX12_street.2.1 104 = .ok (.aload_n 0, 1) := by decide +kernel
theorem dX12_street_105 : decode mX12_street.2.1 105 = .ok (.aload_n 0, 1) := by decide +kernel
theorem dX12_street_106 : decode mX12_street.2.1 106 = .ok (.getfield 289, 3) := by decide +kernel
theorem dX12_street_109 : decode mX12_street.2.1 109 = .ok (.putfield 295, 3) := by decide +kernel
theorem dX12_street_112 : decode mX12_street.2.1 112 = .ok (.aload_n 0, 1) := by decide +kernel
theorem dX12_street_113 : decode mX12_street.2.1 113 = .ok (.invokevirtual 301, 3) := by decide +kernel
theorem dX12_street_116 : decode mX12_street.2.1 116 = .ok (.aload_n 0, 1) := by decide +kernel
theorem dX12_street_117 : decode mX12_street.2.1 117 = .ok (.invokevirtual 221, 3) := by decide +kernel
theorem dX12_street_120 : decode mX12_street.2.1 120 = .ok (.aload_n 0, 1) := by decide +kernel
theorem dX12_street_121 : decode mX12_street.2.1 121 = .ok (.iconst 0, 1) := by decide +kernel
theorem dX12_street_122 : decode mX12_street.2.1 122 = .ok (.putfield 304, 3) := by decide +kernel
theorem dX12_street_125 : decode mX12_street.2.1 125 = .ok (.aload_n 0, 1) := by decide +kernel
theorem dX12_street_126 : decode mX12_street.2.1 126 = .ok (.iconst 0, 1) := by decide +kernel
theorem dX12_street_127 : decode mX12_street.2.1 127 = .ok (.putfield 307, 3) := by decide +kernel
theorem dX12_street_130 : decode mX12_street.2.1 130 = .ok (.aload_n 0, 1) := by decide +kernel
theorem dX12_street_131 : decode mX12_street.2.1 131 = .ok (.iconst 0, 1) := by decide +kernel
theorem dX12_street_132 : decode mX12_street.2.1 132 = .ok (.putfield 310, 3) := by decide +kernel
theorem dX12_street_135 : decode mX12_street.2.1 135 = .ok (.iconst 0, 1) := by decide +kernel
theorem dX12_street_136 : decode mX12_street.2.1 136 = .ok (.istore_n 1, 1) := by decide +kernel
theorem dX12_street_137 : decode mX12_street.2.1 137 = .ok (.iload_n 1, 1) := by decide +kernel
theorem dX12_street_138 : decode mX12_street.2.1 138 = .ok (.iconst 5, 1) := by decide +kernel
theorem dX12_street_139 : decode mX12_street.2.1 139 = .ok (.if_icmp .ge 28, 3) := by decide +kernel
theorem dX12_street_142 : decode mX12_street.2.1 142 = .ok (.aload_n 0, 1) := by decide +kernel
theorem dX12_street_143 : decode mX12_street.2.1 143 = .ok (.getfield 104, 3) := by decide +kernel
theorem dX12_street_146 : decode mX12_street.2.1 146 = .ok (.iload_n 1, 1) := by decide +kernel
theorem dX12_street_147 : decode mX12_street.2.1 147 = .ok (.aload_n 0, 1) := by decide +kernel
theorem dX12_street_148 : decode mX12_street.2.1 148 = .ok (.getfield 33, 3) := by decide +kernel
theorem dX12_street_151 : decode mX12_street.2.1 151 = .ok (.iconst 5, 1) := by decide +kernel
theorem dX12_street_152 : decode mX12_street.2.1 152 = .ok (.aload_n 0, 1) := by decide +kernel
theorem dX12_street_153 : decode mX12_street.2.1 153 = .ok (.getfield 295, 3) := by decide +kernel
theorem dX12_street_156 : decode mX12_street.2.1 156 = .ok (.imul, 1) := by decide +kernel
theorem dX12_street_157 : decode mX12_street.2.1 157 = .ok (.iload_n 1, 1) := by decide +kernel
theorem dX12_street_158 : decode mX12_street.2.1 158 = .ok (.iadd, 1) := by decide +kernel
theorem dX12_street_159 : decode mX12_street.2.1 159 = .ok (.iaload, 1) := by decide +kernel
theorem dX12_street_160 : decode mX12_street.2.1 160 = .ok (.iastore, 1) := by decide +kernel
theorem dX12_street_161 : decode mX12_street.2.1 161 = .ok (.iinc 1 1, 3) := by decide +kernel
theorem dX12_street_164 : decode mX12_street.2.1 164 = .ok (.goto (-27), 3) := by decide +kernel
theorem dX12_street_167 : decode mX12_street.2.1 167 = .ok (.aload_n 0, 1) := by decide +kernel
theorem dX12_street_168 : decode mX12_street.2.1 168 = .ok (.iconst 0, 1) := by decide +kernel
theorem dX12_street_169 : decode mX12_street.2.1 169 = .ok (.putfield 313, 3) := by decide +kernel
theorem dX12_street_172 : decode mX12_street.2.1 172 = .ok (.iconst 0, 1) := by decide +kernel
theorem dX12_street_173 : decode mX12_street.2.1 173 = .ok (.istore_n 1, 1) := by decide +kernel
theorem dX12_street_174 : decode mX12_street.2.1 174 = .ok (.iload_n 1, 1) := by decide +kernel
theorem dX12_street_175 : decode mX12_street.2.1 175 = .ok (.iconst 3, 1) := by decide +kernel
theorem dX12_street_176 : decode mX12_street.2.1 176 = .ok (.if_icmp .ge 16, 3) := by decide +kernel
theorem dX12_street_179 : decode mX12_street.2.1 179 = .ok (.aload_n 0, 1) := by decide +kernel
theorem dX12_street_180 : decode mX12_street.2.1 180 = .ok (.getfield 197, 3) := by decide +kernel
theorem dX12_street_183 : decode mX12_street.2.1 183 = .ok (.iload_n 1, 1) := by decide +kernel
theorem dX12_street_184 : decode mX12_street.2.1 184 = .ok (.iconst (-1), 1) := by decide +kernel
theorem dX12_street_185 : decode mX12_street.2.1 185 = .ok (.iastore, 1) := by decide +kernel
theorem dX12_street_186 : decode mX12_street.2.1 186 = .ok (.iinc 1 1, 3) := by decide +kernel
theorem dX12_street_189 : decode mX12_street.2.1 189 = .ok (.goto (-15), 3) := by decide +kernel
theorem dX12_street_192 : decode mX12_street.2.1 192 = .ok (.aload_n 0, 1) := by decide +kernel
theorem dX12_street_193 : decode mX12_street.2.1 193 = .ok (.getfield 20, 3) := by decide +kernel
theorem dX12_street_196 : decode mX12_street.2.1 196 = .ok (.aload_n 0, 1) := by decide +kernel
theorem dX12_street_197 : decode mX12_street.2.1 197 = .ok (.getfield 295, 3) := by decide +kernel
theorem dX12_street_200 : decode mX12_street.2.1 200 = .ok (.iaload, 1) := by decide +kernel
theorem dX12_street_201 : decode mX12_street.2.1 201 = .ok (.ireturn, 1) := by decide +kernel
theorem dX12_goOn_0 : decode mX12_goOn.2.1 0 = .ok (.aload_n 0, 1) := by decide +kernel
theorem dX12_goOn_1 : decode mX12_goOn.2.1 1 = .ok (.aload_n 0, 1) := by decide +kernel
theorem dX12_goOn_2 : decode mX12_goOn.2.1 2 = .ok (.getfield 244, 3) := by decide +kernel
theorem dX12_goOn_5 : decode mX12_goOn.2.1 5 = .ok (.putfield 247, 3) := by decide +kernel
theorem dX12_goOn_8 : decode mX12_goOn.2.1 8 = .ok (.aload_n 0, 1) := by decide +kernel
theorem dX12_goOn_9 : decode mX12_goOn.2.1 9 = .ok (.getfield 247, 3) := by decide +kernel
theorem dX12_goOn_12 : decode mX12_goOn.2.1 12 = .ok (.aload_n 0, 1) := by decide +kernel
theorem dX12_goOn_13 : decode mX12_goOn.2.1 13 = .ok (.getfield 224, 3) := by decide +kernel
theorem dX12_goOn_16 : decode mX12_goOn.2.1 16 = .ok (.if_icmp .ge 42, 3) := by decide +kernel
theorem dX12_goOn_19 : decode mX12_goOn.2.1 19 = .ok (.aload_n 0, 1) := by decide +kernel
theorem dX12_goOn_20 : decode mX12_goOn.2.1 20 = .ok (.aload_n 0, 1) := by decide +kernel
theorem dX12_goOn_21 : decode mX12_goOn.2.1 21 = .ok (.getfield 247, 3) := by decide +kernel
theorem dX12_goOn_24 : decode mX12_goOn.2.1 24 = .ok (.invokevirtual 250, 3) := by decide +kernel
theorem dX12_goOn_27 : decode mX12_goOn.2.1 27 = .ok (.bipush 32, 2) := by decide +kernel
theorem dX12_goOn_29 : decode mX12_goOn.2.1 29 = .ok (.if_icmp .eq 16, 3) := by decide +kernel
theorem dX12_goOn_32 : decode mX12_goOn.2.1 32 = .ok (.aload_n 0, 1) := by decide +kernel
theorem dX12_goOn_33 : decode mX12_goOn.2.1 33 = .ok (.aload_n 0, 1) := by decide +kernel
theorem dX12_goOn_34 : decode mX12_goOn.2.1 34 = .ok (.getfield 247, 3) := by decide +kernel
theorem dX12_goOn_37 : decode mX12_goOn.2.1 37 = .ok (.invokevirtual 250, 3) := by decide +kernel
theorem dX12_goOn_40 : decode mX12_goOn.2.1 40 = .ok (.bipush 10, 2) := by decide +kernel
theorem dX12_goOn_42 : decode mX12_goOn.2.1 42 = .ok (.if_icmp .ne 16, 3) := by decide +kernel
theorem dX12_goOn_45 : decode mX12_goOn.2.1 45 = .ok (.aload_n 0, 1) := by decide +kernel
theorem dX12_goOn_46 : decode mX12_goOn.2.1 46 = .ok (.dup, 1) := by decide +kernel
theorem dX12_goOn_47 : decode mX12_goOn.2.1 47 = .ok (.getfield 247, 3) := by decide +kernel
theorem dX12_goOn_50 : decode mX12_goOn.2.1 50 = .ok (.iconst 1, 1) := by decide +kernel
theorem dX12_goOn_51 : decode mX12_goOn.2.1 51 = .ok (.iadd, 1) := by decide +kernel
theorem dX12_goOn_52 : decode mX12_goOn.2.1 52 = .ok (.putfield 247, 3) := by decide +kernel
theorem dX12_goOn_55 : decode mX12_goOn.2.1 55 = .ok (.goto (-47), 3) := by decide +kernel
theorem dX12_goOn_58 : decode mX12_goOn.2.1 58 = .ok (.aload_n 0, 1) := by decide +kernel
theorem dX12_goOn_59 : decode mX12_goOn.2.1 59 = .ok (.aload_n 0, 1) := by decide +kernel
theorem dX12_goOn_60 : decode mX12_goOn.2.1 60 = .ok (.getfield 247, 3) := by decide +kernel
theorem dX12_goOn_63 : decode mX12_goOn.2.1 63 = .ok (.invokevirtual 250, 3) := by decide +kernel
theorem dX12_goOn_66 : decode mX12_goOn.2.1 66 = .ok (.istore_n 1, 1) := by decide +kernel
theorem dX12_goOn_67 : decode mX12_goOn.2.1 67 = .ok (.aload_n 0, 1) := by decide +kernel
theorem dX12_goOn_68 : decode mX12_goOn.2.1 68 = .ok (.aload_n 0, 1) := by decide +kernel
theorem dX12_goOn_69 : decode mX12_goOn.2.1 69 = .ok (.getfield 247, 3) := by decide +kernel
theorem dX12_goOn_72 : decode mX12_goOn.2.1 72 = .ok (.iconst 1, 1) := by decide +kernel
theorem dX12_goOn_73 : decode mX12_goOn.2.1 73 = .ok (.iadd, 1) := by decide +kernel
theorem dX12_goOn_74 : decode mX12_goOn.2.1 74 = .ok (.putfield 244, 3) := by decide +kernel
theorem dX12_goOn_77 : decode mX12_goOn.2.1 77 = .ok (.aload_n 0, 1) := by decide +kernel
theorem dX12_goOn_78 : decode mX12_goOn.2.1 78 = .ok (.getfield 247, 3) := by decide +kernel
theorem dX12_goOn_81 : decode mX12_goOn.2.1 81 = .ok (.aload_n 0, 1) := by decide +kernel
theorem dX12_goOn_82 : decode mX12_goOn.2.1 82 = .ok (.getfield 224, 3) := by decide +kernel
theorem dX12_goOn_85 : decode mX12_goOn.2.1 85 = .ok (.if_icmp .lt 27, 3) := by decide +kernel
theorem dX12_goOn_88 : decode mX12_goOn.2.1 88 = .ok (.aload_n 0, 1) := by decide +kernel
theorem dX12_goOn_89 : decode mX12_goOn.2.1 89 = .ok (.iconst 0, 1) := by decide +kernel
theorem dX12_goOn_90 : decode mX12_goOn.2.1 90 = .ok (.putfield 254, 3) := by decide +kernel
theorem dX12_goOn_93 : decode mX12_goOn.2.1 93 = .ok (.aload_n 0, 1) := by decide +kernel
theorem dX12_goOn_94 : decode mX12_goOn.2.1 94 = .ok (.aload_n 0, 1) := by decide +kernel
theorem dX12_goOn_95 : decode mX12_goOn.2.1 95 = .ok (.getfield 224, 3) := by decide +kernel
theorem dX12_goOn_98 : decode mX12_goOn.2.1 98 = .ok (.putfield 247, 3) := by decide +kernel
theorem dX12_goOn_101 : decode mX12_goOn.2.1 101 = .ok (.aload_n 0, 1) := by decide +kernel
theorem dX12_goOn_102 : decode mX12_goOn.2.1 102 = .ok (.aload_n 0, 1) := by decide +kernel
theorem dX12_goOn_103 : decode mX12_goOn.2.1 103 = .ok (.getfield 224, 3) := by decide +kernel
theorem dX12_goOn_106 : decode mX12_goOn.2.1 106 = .ok (.putfield 244, 3) := by decide +kernel
theorem dX12_goOn_109 : decode mX12_goOn.2.1 109 = .ok (.goto 285, 3) := by decide +kernel
theorem dX12_goOn_112 : decode mX12_goOn.2.1 112 = .ok (.iload_n 1, 1) := by decide +kernel
theorem dX12_goOn_113 : decode mX12_goOn.2.1 113 = .ok (.invokestatic 257, 3) := by decide +kernel
theorem dX12_goOn_116 : decode mX12_goOn.2.1 116 = .ok (.ifCond .eq 123, 3) := by decide +kernel
theorem dX12_goOn_119 : decode mX12_goOn.2.1 119 = .ok (.aload_n 0, 1) := by decide +kernel
theorem dX12_goOn_120 : decode mX12_goOn.2.1 120 = .ok (.aload_n 0, 1) := by decide +kernel
theorem dX12_goOn_121 : decode mX12_goOn.2.1 121 = .ok (.getfield 244, 3) := by decide +kernel
theorem dX12_goOn_124 : decode mX12_goOn.2.1 124 = .ok (.invokevirtual 250, 3) := by decide +kernel
theorem dX12_goOn_127 : decode mX12_goOn.2.1 127 = .ok (.invokestatic 257, 3) := by decide +kernel
theorem dX12_goOn_130 : decode mX12_goOn.2.1 130 = .ok (.ifCond .eq 16, 3) := by decide +kernel
theorem dX12_goOn_133 : decode mX12_goOn.2.1 133 = .ok (.aload_n 0, 1) := by decide +kernel
theorem dX12_goOn_134 : decode mX12_goOn.2.1 134 = .ok (.dup, 1) := by decide +kernel
theorem dX12_goOn_135 : decode mX12_goOn.2.1 135 = .ok (.getfield 244, 3) := by decide +kernel
theorem dX12_goOn_138 : decode mX12_goOn.2.1 138 = .ok (.iconst 1, 1) := by decide +kernel
theorem dX12_goOn_139 : decode mX12_goOn.2.1 139 = .ok (.iadd, 1) := by decide +kernel
theorem dX12_goOn_140 : decode mX12_goOn.2.1 140 = .ok (.putfield 244, 3) := by decide +kernel
theorem dX12_goOn_143 : decode mX12_goOn.2.1 143 = .ok (.goto (-24), 3) := by decide +kernel
theorem dX12_goOn_146 : decode mX12_goOn.2.1 146 = .ok (.aload_n 0, 1) := by decide +kernel
theorem dX12_goOn_147 : decode mX12_goOn.2.1 147 = .ok (.lconst 0, 1) := by decide +kernel
theorem dX12_goOn_148 : decode mX12_goOn.2.1 148 = .ok (.putfield 261, 3) := by decide +kernel
theorem dX12_goOn_151 : decode mX12_goOn.2.1 151 = .ok (.aload_n 0, 1) := by decide +kernel
theorem dX12_goOn_152 : decode mX12_goOn.2.1 152 = .ok (.getfield 247, 3) := by decide +kernel
theorem dX12_goOn_155 : decode mX12_goOn.2.1 155 = .ok (.istore_n 2, 1) := by decide +kernel
theorem dX12_goOn_156 : decode mX12_goOn.2.1 156 = .ok (.iload_n 2, 1) := by decide +kernel
theorem dX12_goOn_157 : decode mX12_goOn.2.1 157 = .ok (.aload_n 0, 1) := by decide +kernel
theorem dX12_goOn_158 : decode mX12_goOn.2.1 158 = .ok (.getfield 244, 3) := by decide +kernel
theorem dX12_goOn_161 : decode mX12_goOn.2.1 161 = .ok (.if_icmp .ge 38, 3) := by decide +kernel
theorem dX12_goOn_164 : decode mX12_goOn.2.1 164 = .ok (.iload_n 2, 1) := by decide +kernel
theorem dX12_goOn_165 : decode mX12_goOn.2.1 165 = .ok (.aload_n 0, 1) := by decide +kernel
theorem dX12_goOn_166 : decode mX12_goOn.2.1 166 = .ok (.getfield 247, 3) := by decide +kernel
theorem dX12_goOn_169 : decode mX12_goOn.2.1 169 = .ok (.bipush 8, 2) := by decide +kernel
theorem dX12_goOn_171 : decode mX12_goOn.2.1 171 = .ok (.iadd, 1) := by decide +kernel
theorem dX12_goOn_172 : decode mX12_goOn.2.1 172 = .ok (.if_icmp .ge 27, 3) := by decide +kernel
theorem dX12_goOn_175 : decode mX12_goOn.2.1 175 = .ok (.aload_n 0, 1) := by decide +kernel
theorem dX12_goOn_176 : decode mX12_goOn.2.1 176 = .ok (.aload_n 0, 1) := by decide +kernel
theorem dX12_goOn_177 : decode mX12_goOn.2.1 177 = .ok (.getfield 261, 3) := by decide +kernel
theorem dX12_goOn_180 : decode mX12_goOn.2.1 180 = .ok (.bipush 8, 2) := by decide +kernel
theorem dX12_goOn_182 : decode mX12_goOn.2.1 182 = .ok (.lshl, 1) := by decide +kernel
theorem dX12_goOn_183 : decode mX12_goOn.2.1 183 = .ok (.aload_n 0, 1) := by decide +kernel
theorem dX12_goOn_184 : decode mX12_goOn.2.1 184 = .ok (.iload_n 2, 1) := by decide +kernel
theorem dX12_goOn_185 : decode mX12_goOn.2.1 185 = .ok (.invokevirtual 250, 3) := by decide +kernel
theorem dX12_goOn_188 : decode mX12_goOn.2.1 188 = .ok (.i2l, 1) := by decide +kernel
theorem dX12_goOn_189 : decode mX12_goOn.2.1 189 = .ok (.lor, 1) := by decide +kernel
theorem dX12_goOn_190 : decode mX12_goOn.2.1 190 = .ok (.putfield 261, 3) := by decide +kernel
theorem dX12_goOn_193 : decode mX12_goOn.2.1 193 = .ok (.iinc 2 1, 3) := by decide +kernel
theorem dX12_goOn_196 : decode mX12_goOn.2.1 196 = .ok (.goto (-40), 3) := by decide +kernel
theorem dX12_goOn_199 : decode mX12_goOn.2.1 199 = .ok (.aload_n 0, 1) := by decide +kernel
theorem dX12_goOn_200 : decode mX12_goOn.2.1 200 = .ok (.aload_n 0, 1) := by decide +kernel
theorem dX12_goOn_201 : decode mX12_goOn.2.1 201 = .ok (.getfield 244, 3) := by decide +kernel
theorem dX12_goOn_204 : decode mX12_goOn.2.1 204 = .ok (.aload_n 0, 1) := by decide +kernel
theorem dX12_goOn_205 : decode mX12_goOn.2.1 205 = .ok (.getfield 247, 3) := by decide +kernel
theorem dX12_goOn_208 : decode mX12_goOn.2.1 208 = .ok (.isub, 1) := by decide +kernel
theorem dX12_goOn_209 : decode mX12_goOn.2.1 209 = .ok (.bipush 8, 2) := by decide +kernel
theorem dX12_goOn_211 : decode mX12_goOn.2.1 211 = .ok (.if_icmp .le 7, 3) := by decide +kernel
theorem dX12_goOn_214 : decode mX12_goOn.2.1 214 = .ok (.iconst 1, 1) := by decide +kernel
theorem dX12_goOn_215 : decode mX12_goOn.2.1 215 = .ok (.goto 18, 3) := by decide +kernel
theorem dX12_goOn_218 : decode mX12_goOn.2.1 218 = .ok (.aload_n 0, 1) := by decide +kernel
theorem dX12_goOn_219 : decode mX12_goOn.2.1 219 = .ok (.getfield 261, 3) := by decide +kernel
theorem dX12_goOn_222 : decode mX12_goOn.2.1 222 = .ok (.invokestatic 265, 3) := by decide +kernel
theorem dX12_goOn_225 : decode mX12_goOn.2.1 225 = .ok (.ifCond .eq 7, 3) := by decide +kernel
theorem dX12_goOn_228 : decode mX12_goOn.2.1 228 = .ok (.iconst 3, 1) := by decide +kernel
theorem dX12_goOn_229 : decode mX12_goOn.2.1 229 = .ok (.goto 4, 3) := by decide +kernel
theorem dX12_goOn_232 : decode mX12_goOn.2.1 232 = .ok (.iconst 2, 1) := by decide +kernel
theorem dX12_goOn_233 : decode mX12_goOn.2.1 233 = .ok (.putfield 254, 3) := by decide +kernel
theorem dX12_goOn_236 : decode mX12_goOn.2.1 236 = .ok (.goto 158, 3) := by decide +kernel
theorem dX12_goOn_239 : decode mX12_goOn.2.1 239 = .ok (.iload_n 1, 1) := by decide +kernel
theorem dX12_goOn_240 : decode mX12_goOn.2.1 240 = .ok (.invokestatic 269, 3) := by decide +kernel
theorem dX12_goOn_243 : decode mX12_goOn.2.1 243 = .ok (.ifCond .eq 118, 3) := by decide +kernel
theorem dX12_goOn_246 : decode mX12_goOn.2.1 246 = .ok (.aload_n 0, 1) := by decide +kernel
theorem dX12_goOn_247 : decode mX12_goOn.2.1 247 = .ok (.iconst 0, 1) := by decide +kernel
theorem dX12_goOn_248 : decode mX12_goOn.2.1 248 = .ok (.putfield 272, 3) := by decide +kernel
theorem dX12_goOn_251 : decode mX12_goOn.2.1 251 = .ok (.aload_n 0, 1) := by decide +kernel
theorem dX12_goOn_252 : decode mX12_goOn.2.1 252 = .ok (.aload_n 0, 1) := by decide +kernel
theorem dX12_goOn_253 : decode mX12_goOn.2.1 253 = .ok (.getfield 247, 3) := by decide +kernel
theorem dX12_goOn_256 : decode mX12_goOn.2.1 256 = .ok (.putfield 244, 3) := by decide +kernel
theorem dX12_goOn_259 : decode mX12_goOn.2.1 259 = .ok (.aload_n 0, 1) := by decide +kernel
theorem dX12_goOn_260 : decode mX12_goOn.2.1 260 = .ok (.aload_n 0, 1) := by decide +kernel
theorem dX12_goOn_261 : decode mX12_goOn.2.1 261 = .ok (.getfield 244, 3) := by decide +kernel
theorem dX12_goOn_264 : decode mX12_goOn.2.1 264 = .ok (.invokevirtual 250, 3) := by decide +kernel
theorem dX12_goOn_267 : decode mX12_goOn.2.1 267 = .ok (.invokestatic 269, 3) := by decide +kernel
theorem dX12_goOn_270 : decode mX12_goOn.2.1 270 = .ok (.ifCond .eq 52, 3) := by decide +kernel
theorem dX12_goOn_273 : decode mX12_goOn.2.1 273 = .ok (.aload_n 0, 1) := by decide +kernel
theorem dX12_goOn_274 : decode mX12_goOn.2.1 274 = .ok (.getfield 244, 3) := by decide +kernel
theorem dX12_goOn_277 : decode mX12_goOn.2.1 277 = .ok (.aload_n 0, 1) := by decide +kernel
theorem dX12_goOn_278 : decode mX12_goOn.2.1 278 = .ok (.getfield 247, 3) := by decide +kernel
theorem dX12_goOn_281 : decode mX12_goOn.2.1 281 = .ok (.isub, 1) := by decide +kernel
theorem dX12_goOn_282 : decode mX12_goOn.2.1 282 = .ok (.iconst 4, 1) := by decide +kernel
theorem dX12_goOn_283 : decode mX12_goOn.2.1 283 = .ok (.if_icmp .ge 26, 3) := by decide +kernel
theorem dX12_goOn_286 : decode mX12_goOn.2.1 286 = .ok (.aload_n 0, 1) := by decide +kernel
theorem dX12_goOn_287 : decode mX12_goOn.2.1 287 = .ok (.bipush 10, 2) := by decide +kernel
theorem dX12_goOn_289 : decode mX12_goOn.2.1 289 = .ok (.aload_n 0, 1) := by decide +kernel
theorem dX12_goOn_290 : decode mX12_goOn.2.1 290 = .ok (.getfield 272, 3) := by decide +kernel
theorem dX12_goOn_293 : decode mX12_goOn.2.1 293 = .ok (.imul, 1) := by decide +kernel
theorem dX12_goOn_294 : decode mX12_goOn.2.1 294 = .ok (.aload_n 0, 1) := by decide +kernel
theorem dX12_goOn_295 : decode mX12_goOn.2.1 295 = .ok (.aload_n 0, 1) := by decide +kernel
theorem dX12_goOn_296 : decode mX12_goOn.2.1 296 = .ok (.getfield 244, 3) := by decide +kernel
theorem dX12_goOn_299 : decode mX12_goOn.2.1 299 = .ok (.invokevirtual 250, 3) := by decide +kernel
theorem dX12_goOn_302 : decode mX12_goOn.2.1 302 = .ok (.iadd, 1) := by decide +kernel
theorem dX12_goOn_303 : decode mX12_goOn.2.1 303 = .ok (.bipush 48, 2) := by decide +kernel
theorem dX12_goOn_305 : decode mX12_goOn.2.1 305 = .ok (.isub, 1) := by decide +kernel
theorem dX12_goOn_306 : decode mX12_goOn.2.1 306 = .ok (.putfield 272, 3) := by decide +kernel
theorem dX12_goOn_309 : decode mX12_goOn.2.1 309 = .ok (.aload_n 0, 1) := by decide +kernel
theorem dX12_goOn_310 : decode mX12_goOn.2.1 310 = .ok (.dup, 1) := by decide +kernel
theorem dX12_goOn_311 : decode mX12_goOn.2.1 311 = .ok (.getfield 244, 3) := by decide +kernel
theorem dX12_goOn_314 : decode mX12_goOn.2.1 314 = .ok (.iconst 1, 1) := by decide +kernel
theorem dX12_goOn_315 : decode mX12_goOn.2.1 315 = .ok (.iadd, 1) := by decide +kernel
theorem dX12_goOn_316 : decode mX12_goOn.2.1 316 = .ok (.putfield 244, 3) := by decide +kernel
theorem dX12_goOn_319 : decode mX12_goOn.2.1 319 = .ok (.goto (-60), 3) := by decide +kernel
theorem dX12_goOn_322 : decode mX12_goOn.2.1 322 = .ok (.aload_n 0, 1) := by decide +kernel
theorem dX12_goOn_323 : decode mX12_goOn.2.1 323 = .ok (.aload_n 0, 1) := by decide +kernel
theorem dX12_goOn_324 : decode mX12_goOn.2.1 324 = .ok (.getfield 244, 3) := by decide +kernel
theorem dX12_goOn_327 : decode mX12_goOn.2.1 327 = .ok (.aload_n 0, 1) := by decide +kernel
theorem dX12_goOn_328 : decode mX12_goOn.2.1 328 = .ok (.getfield 247, 3) := by decide +kernel
theorem dX12_goOn_331 : decode mX12_goOn.2.1 331 = .ok (.isub, 1) := by decide +kernel
theorem dX12_goOn_332 : decode mX12_goOn.2.1 332 = .ok (.iconst 4, 1) := by decide +kernel
theorem dX12_goOn_333 : decode mX12_goOn.2.1 333 = .ok (.if_icmp .gt 17, 3) := by decide +kernel
theorem dX12_goOn_336 : decode mX12_goOn.2.1 336 = .ok (.aload_n 0, 1) := by decide +kernel
theorem dX12_goOn_337 : decode mX12_goOn.2.1 337 = .ok (.aload_n 0, 1) := by decide +kernel
theorem dX12_goOn_338 : decode mX12_goOn.2.1 338 = .ok (.getfield 244, 3) := by decide +kernel
theorem dX12_goOn_341 : decode mX12_goOn.2.1 341 = .ok (.invokevirtual 250, 3) := by decide +kernel
theorem dX12_goOn_344 : decode mX12_goOn.2.1 344 = .ok (.invokestatic 257, 3) := by decide +kernel
theorem dX12_goOn_347 : decode mX12_goOn.2.1 347 = .ok (.ifCond .eq 7, 3) := by decide +kernel
theorem dX12_goOn_350 : decode mX12_goOn.2.1 350 = .ok (.iconst 1, 1) := by decide +kernel
theorem dX12_goOn_351 : decode mX12_goOn.2.1 351 = .ok (.goto 4, 3) := by decide +kernel
theorem dX12_goOn_354 : decode mX12_goOn.2.1 354 = .ok (.iconst 4, 1) := by decide +kernel
theorem dX12_goOn_355 : decode mX12_goOn.2.1 355 = .ok (.putfield 254, 3) := by decide +kernel
theorem dX12_goOn_358 : decode mX12_goOn.2.1 358 = .ok (.goto 36, 3) := by decide +kernel
theorem dX12_goOn_361 : decode mX12_goOn.2.1 361 = .ok (.aload_n 0, 1) := by decide +kernel
theorem dX12_goOn_362 : decode mX12_goOn.2.1 362 = .ok (.iload_n 1, 1) := by decide +kernel
theorem dX12_goOn_363 : decode mX12_goOn.2.1 363 = .ok (.bipush 59, 2) := by decide +kernel
theorem dX12_goOn_365 : decode mX12_goOn.2.1 365 = .ok (.if_icmp .eq 21, 3) := by decide +kernel
theorem dX12_goOn_368 : decode mX12_goOn.2.1 368 = .ok (.iload_n 1, 1) := by decide +kernel
theorem dX12_goOn_369 : decode mX12_goOn.2.1 369 = .ok (.bipush 40, 2) := by decide +kernel
theorem dX12_goOn_371 : decode mX12_goOn.2.1 371 = .ok (.if_icmp .eq 15, 3) := by decide +kernel
theorem dX12_goOn_374 : decode mX12_goOn.2.1 374 = .ok (.iload_n 1, 1) := by decide +kernel
theorem dX12_goOn_375 : decode mX12_goOn.2.1 375 = .ok (.bipush 41, 2) := by decide +kernel
theorem dX12_goOn_377 : decode mX12_goOn.2.1 377 = .ok (.if_icmp .eq 9, 3) := by decide +kernel
theorem dX12_goOn_380 : decode mX12_goOn.2.1 380 = .ok (.iload_n 1, 1) := by decide +kernel
theorem dX12_goOn_381 : decode mX12_goOn.2.1 381 = .ok (.bipush 47, 2) := by decide +kernel
theorem dX12_goOn_383 : decode mX12_goOn.2.1 383 = .ok (.if_icmp .ne 7, 3) := by decide +kernel
theorem dX12_goOn_386 : decode mX12_goOn.2.1 386 = .ok (.iconst 5, 1) := by decide +kernel
theorem dX12_goOn_387 : decode mX12_goOn.2.1 387 = .ok (.goto 4, 3) := by decide +kernel
theorem dX12_goOn_390 : decode mX12_goOn.2.1 390 = .ok (.iconst 1, 1) := by decide +kernel
theorem dX12_goOn_391 : decode mX12_goOn.2.1 391 = .ok (.putfield 254, 3) := by decide +kernel
theorem dX12_goOn_394 : decode mX12_goOn.2.1 394 = .ok (.return_, 1) := by decide +kernel
theorem dX12_sign_0 : decode mX12_sign.2.1 0 = .ok (.iload_n 1, 1) := by decide +kernel
theorem dX12_sign_1 : decode mX12_sign.2.1 1 = .ok (.aload_n 0, 1) := by decide +kernel
theorem dX12_sign_2 : decode mX12_sign.2.1 2 = .ok (.getfield 224, 3) := by decide +kernel
theorem dX12_sign_5 : decode mX12_sign.2.1 5 = .ok (.if_icmp .ge 16, 3) := by decide +kernel
theorem dX12_sign_8 : decode mX12_sign.2.1 8 = .ok (.aload_n 0, 1) := by decide +kernel
theorem dX12_sign_9 : decode mX12_sign.2.1 9 = .ok (.getfield 13, 3) := by decide +kernel
theorem dX12_sign_12 : decode mX12_sign.2.1 12 = .ok (.iload_n 1, 1) := by decide +kernel
theorem dX12_sign_13 : decode mX12_sign.2.1 13 = .ok (.baload, 1) := by decide +kernel
theorem dX12_sign_14 : decode mX12_sign.2.1 14 = .ok (.sipush 255, 3) := by decide +kernel
theorem dX12_sign_17 : decode mX12_sign.2.1 17 = .ok (.iand, 1) := by decide +kernel
theorem dX12_sign_18 : decode mX12_sign.2.1 18 = .ok (.goto 4, 3) := by decide +kernel
theorem dX12_sign_21 : decode mX12_sign.2.1 21 = .ok (.iconst 0, 1) := by decide +kernel
theorem dX12_sign_22 : decode mX12_sign.2.1 22 = .ok (.ireturn, 1) := by decide +kernel
theorem dX12_isLetter_0 : decode mX12_isLetter.2.1 0 = .ok (.iload_n 0, 1) := by decide +kernel
theorem dX12_isLetter_1 : decode mX12_isLetter.2.1 1 = .ok (.bipush 97, 2) := by decide +kernel
theorem dX12_isLetter_3 : decode mX12_isLetter.2.1 3 = .ok (.if_icmp .lt 13, 3) := by decide +kernel
theorem dX12_isLetter_6 : decode mX12_isLetter.2.1 6 = .ok (.iload_n 0, 1) := by decide +kernel
theorem dX12_isLetter_7 : decode mX12_isLetter.2.1 7 = .ok (.bipush 122, 2) := by decide +kernel
theorem dX12_isLetter_9 : decode mX12_isLetter.2.1 9 = .ok (.if_icmp .gt 7, 3) := by decide +kernel
theorem dX12_isLetter_12 : decode mX12_isLetter.2.1 12 = .ok (.iconst 1, 1) := by decide +kernel
theorem dX12_isLetter_13 : decode mX12_isLetter.2.1 13 = .ok (.goto 4, 3) := by decide +kernel
theorem dX12_isLetter_16 : decode mX12_isLetter.2.1 16 = .ok (.iconst 0, 1) := by decide +kernel
theorem dX12_isLetter_17 : decode mX12_isLetter.2.1 17 = .ok (.ireturn, 1) := by decide +kernel
theorem dX12_isKept_0 : decode mX12_isKept.2.1 0 = .ok (.lload_n 0, 1) := by decide +kernel
theorem dX12_isKept_1 : decode mX12_isKept.2.1 1 = .ok (.ldc2_w 230, 3) := by decide +kernel
theorem dX12_isKept_4 : decode mX12_isKept.2.1 4 = .ok (.lcmp, 1) := by decide +kernel
theorem dX12_isKept_5 : decode mX12_isKept.2.1 5 = .ok (.ifCond .eq 51, 3) := by decide +kernel
theorem dX12_isKept_8 : decode mX12_isKept.2.1 8 = .ok (.lload_n 0, 1) := by decide +kernel
theorem dX12_isKept_9 : decode mX12_isKept.2.1 9 = .ok (.ldc2_w 232, 3) := by decide +kernel
theorem dX12_isKept_12 : decode mX12_isKept.2.1 12 = .ok (.lcmp, 1) := by decide +kernel
theorem dX12_isKept_13 : decode mX12_isKept.2.1 13 = .ok (.ifCond .eq 43, 3) := by decide +kernel
theorem dX12_isKept_16 : decode mX12_isKept.2.1 16 = .ok (.lload_n 0, 1) := by decide +kernel
theorem dX12_isKept_17 : decode mX12_isKept.2.1 17 = .ok (.ldc2_w 234, 3) := by decide +kernel
theorem dX12_isKept_20 : decode mX12_isKept.2.1 20 = .ok (.lcmp, 1) := by decide +kernel
theorem dX12_isKept_21 : decode mX12_isKept.2.1 21 = .ok (.ifCond .eq 35, 3) := by decide +kernel
theorem dX12_isKept_24 : decode mX12_isKept.2.1 24 = .ok (.lload_n 0, 1) := by decide +kernel
theorem dX12_isKept_25 : decode mX12_isKept.2.1 25 = .ok (.ldc2_w 236, 3) := by decide +kernel
theorem dX12_isKept_28 : decode mX12_isKept.2.1 28 = .ok (.lcmp, 1) := by decide +kernel
theorem dX12_isKept_29 : decode mX12_isKept.2.1 29 = .ok (.ifCond .eq 27, 3) := by decide +kernel
theorem dX12_isKept_32 : decode mX12_isKept.2.1 32 = .ok (.lload_n 0, 1) := by decide +kernel
theorem dX12_isKept_33 : decode mX12_isKept.2.1 33 = .ok (.ldc2_w 238, 3) := by decide +kernel
theorem dX12_isKept_36 : decode mX12_isKept.2.1 36 = .ok (.lcmp, 1) := by decide +kernel
theorem dX12_isKept_37 : decode mX12_isKept.2.1 37 = .ok (.ifCond .eq 19, 3) := by decide +kernel
theorem dX12_isKept_40 : decode mX12_isKept.2.1 40 = .ok (.lload_n 0, 1) := by decide +kernel
theorem dX12_isKept_41 : decode mX12_isKept.2.1 41 = .ok (.ldc2_w 240, 3) := by decide +kernel
theorem dX12_isKept_44 : decode mX12_isKept.2.1 44 = .ok (.lcmp, 1) := by decide +kernel
theorem dX12_isKept_45 : decode mX12_isKept.2.1 45 = .ok (.ifCond .eq 11, 3) := by decide +kernel
theorem dX12_isKept_48 : decode mX12_isKept.2.1 48 = .ok (.lload_n 0, 1) := by decide +kernel
theorem dX12_isKept_49 : decode mX12_isKept.2.1 49 = .ok (.ldc2_w 242, 3) := by decide +kernel
theorem dX12_isKept_52 : decode mX12_isKept.2.1 52 = .ok (.lcmp, 1) := by decide +kernel
theorem dX12_isKept_53 : decode mX12_isKept.2.1 53 = .ok (.ifCond .ne 7, 3) := by decide +kernel
theorem dX12_isKept_56 : decode mX12_isKept.2.1 56 = .ok (.iconst 1, 1) := by decide +kernel
theorem dX12_isKept_57 : decode mX12_isKept.2.1 57 = .ok (.goto 4, 3) := by decide +kernel
theorem dX12_isKept_60 : decode mX12_isKept.2.1 60 = .ok (.iconst 0, 1) := by decide +kernel
theorem dX12_isKept_61 : decode mX12_isKept.2.1 61 = .ok (.ireturn, 1) := by decide +kernel
theorem dX12_isDigit_0 : decode mX12_isDigit.2.1 0 = .ok (.iload_n 0, 1) := by decide +kernel
theorem dX12_isDigit_1 : decode mX12_isDigit.2.1 1 = .ok (.bipush 48, 2) := by decide +kernel
theorem dX12_isDigit_3 : decode mX12_isDigit.2.1 3 = .ok (.if_icmp .lt 13, 3) := by decide +kernel
theorem dX12_isDigit_6 : decode mX12_isDigit.2.1 6 = .ok (.iload_n 0, 1) := by decide +kernel
theorem dX12_isDigit_7 : decode mX12_isDigit.2.1 7 = .ok (.bipush 57, 2) := by decide +kernel
theorem dX12_isDigit_9 : decode mX12_isDigit.2.1 9 = .ok (.if_icmp .gt 7, 3) := by decide +kernel
theorem dX12_isDigit_12 : decode mX12_isDigit.2.1 12 = .ok (.iconst 1, 1) := by decide +kernel
theorem dX12_isDigit_13 : decode mX12_isDigit.2.1 13 = .ok (.goto 4, 3) := by decide +kernel
theorem dX12_isDigit_16 : decode mX12_isDigit.2.1 16 = .ok (.iconst 0, 1) := by decide +kernel
theorem dX12_isDigit_17 : decode mX12_isDigit.2.1 17 = .ok (.ireturn, 1) := by decide +kernel
theorem dX12_isGood_0 : decode mX12_isGood.2.1 0 = .ok (.aload_n 0, 1) := by decide +kernel
theorem dX12_isGood_1 : decode mX12_isGood.2.1 1 = .ok (.getfield 227, 3) := by decide +kernel
theorem dX12_isGood_4 : decode mX12_isGood.2.1 4 = .ok (.ifCond .ne 7, 3) := by decide +kernel
theorem dX12_isGood_7 : decode mX12_isGood.2.1 7 = .ok (.iconst 1, 1) := by decide +kernel
theorem dX12_isGood_8 : decode mX12_isGood.2.1 8 = .ok (.goto 4, 3) := by decide +kernel
theorem dX12_isGood_11 : decode mX12_isGood.2.1 11 = .ok (.iconst 0, 1) := by decide +kernel
theorem dX12_isGood_12 : decode mX12_isGood.2.1 12 = .ok (.ireturn, 1) := by decide +kernel
theorem dX12_readLine_0 : decode mX12_readLine.2.1 0 = .ok (.aload_n 0, 1) := by decide +kernel
theorem dX12_readLine_1 : decode mX12_readLine.2.1 1 = .ok (.getfield 261, 3) := by decide +kernel
theorem dX12_readLine_4 : decode mX12_readLine.2.1 4 = .ok (.lstore_n 1, 1) := by decide +kernel
theorem dX12_readLine_5 : decode mX12_readLine.2.1 5 = .ok (.aload_n 0, 1) := by decide +kernel
theorem dX12_readLine_6 : decode mX12_readLine.2.1 6 = .ok (.getfield 254, 3) := by decide +kernel
theorem dX12_readLine_9 : decode mX12_readLine.2.1 9 = .ok (.iconst 3, 1) := by decide +kernel
theorem dX12_readLine_10 : decode mX12_readLine.2.1 10 = .ok (.if_icmp .ne 10, 3) := by decide +kernel
theorem dX12_readLine_13 : decode mX12_readLine.2.1 13 = .ok (.aload_n 0, 1) := by decide +kernel
theorem dX12_readLine_14 : decode mX12_readLine.2.1 14 = .ok (.invokevirtual 319, 3) := by decide +kernel
theorem dX12_readLine_17 : decode mX12_readLine.2.1 17 = .ok (.ifCond .eq 7, 3) := by decide +kernel
theorem dX12_readLine_20 : decode mX12_readLine.2.1 20 = .ok (.aload_n 0, 1) := by decide +kernel
theorem dX12_readLine_21 : decode mX12_readLine.2.1 21 = .ok (.invokevirtual 286, 3) := by decide +kernel
theorem dX12_readLine_24 : decode mX12_readLine.2.1 24 = .ok (.aload_n 0, 1) := by decide +kernel
theorem dX12_readLine_25 : decode mX12_readLine.2.1 25 = .ok (.invokevirtual 279, 3) := by decide +kernel
theorem dX12_readLine_28 : decode mX12_readLine.2.1 28 = .ok (.ifCond .ne 4, 3) := by decide +kernel
theorem dX12_readLine_31 : decode mX12_readLine.2.1 31 = .ok (.return_, 1) := by decide +kernel
theorem dX12_readLine_32 : decode mX12_readLine.2.1 32 = .ok (.aload_n 0, 1) := by decide +kernel
theorem dX12_readLine_33 : decode mX12_readLine.2.1 33 = .ok (.invokevirtual 283, 3) := by decide +kernel
theorem dX12_readLine_36 : decode mX12_readLine.2.1 36 = .ok (.lload_n 1, 1) := by decide +kernel
theorem dX12_readLine_37 : decode mX12_readLine.2.1 37 = .ok (.ldc2_w 234, 3) := by decide +kernel
theorem dX12_readLine_40 : decode mX12_readLine.2.1 40 = .ok (.lcmp, 1) := by decide +kernel
theorem dX12_readLine_41 : decode mX12_readLine.2.1 41 = .ok (.ifCond .ne 13, 3) := by decide +kernel
theorem dX12_readLine_44 : decode mX12_readLine.2.1 44 = .ok (.aload_n 0, 1) := by decide +kernel
theorem dX12_readLine_45 : decode mX12_readLine.2.1 45 = .ok (.getfield 36, 3) := by decide +kernel
theorem dX12_readLine_48 : decode mX12_readLine.2.1 48 = .ok (.aload_n 0, 1) := by decide +kernel
theorem dX12_readLine_49 : decode mX12_readLine.2.1 49 = .ok (.getfield 289, 3) := by decide +kernel
theorem dX12_readLine_52 : decode mX12_readLine.2.1 52 = .ok (.iconst 1, 1) := by decide +kernel
theorem dX12_readLine_53 : decode mX12_readLine.2.1 53 = .ok (.bastore, 1) := by decide +kernel
theorem dX12_readLine_54 : decode mX12_readLine.2.1 54 = .ok (.lload_n 1, 1) := by decide +kernel
theorem dX12_readLine_55 : decode mX12_readLine.2.1 55 = .ok (.ldc2_w 236, 3) := by decide +kernel
theorem dX12_readLine_58 : decode mX12_readLine.2.1 58 = .ok (.lcmp, 1) := by decide +kernel
theorem dX12_readLine_59 : decode mX12_readLine.2.1 59 = .ok (.ifCond .ne 29, 3) := by decide +kernel
theorem dX12_readLine_62 : decode mX12_readLine.2.1 62 = .ok (.aload_n 0, 1) := by decide +kernel
theorem dX12_readLine_63 : decode mX12_readLine.2.1 63 = .ok (.getfield 40, 3) := by decide +kernel
theorem dX12_readLine_66 : decode mX12_readLine.2.1 66 = .ok (.aload_n 0, 1) := by decide +kernel
theorem dX12_readLine_67 : decode mX12_readLine.2.1 67 = .ok (.getfield 289, 3) := by decide +kernel
theorem dX12_readLine_70 : decode mX12_readLine.2.1 70 = .ok (.iconst 1, 1) := by decide +kernel
theorem dX12_readLine_71 : decode mX12_readLine.2.1 71 = .ok (.bastore, 1) := by decide +kernel
theorem dX12_readLine_72 : decode mX12_readLine.2.1 72 = .ok (.aload_n 0, 1) := by decide +kernel
theorem dX12_readLine_73 : decode mX12_readLine.2.1 73 = .ok (.getfield 24, 3) := by decide +kernel
theorem dX12_readLine_76 : decode mX12_readLine.2.1 76 = .ok (.aload_n 0, 1) := by decide +kernel
theorem dX12_readLine_77 : decode mX12_readLine.2.1 77 = .ok (.getfield 289, 3) := by decide +kernel
theorem dX12_readLine_80 : decode mX12_readLine.2.1 80 = .ok (.aload_n 0, 1) := by decide +kernel
theorem dX12_readLine_81 : decode mX12_readLine.2.1 81 = .ok (.iconst 0, 1) := by decide +kernel
theorem dX12_readLine_82 : decode mX12_readLine.2.1 82 = .ok (.bipush 99, 2) := by decide +kernel
theorem dX12_readLine_84 : decode mX12_readLine.2.1 84 = .ok (.invokevirtual 322, 3) := by decide +kernel
theorem dX12_readLine_87 : decode mX12_readLine.2.1 87 = .ok (.iastore, 1) := by decide +kernel
theorem dX12_readLine_88 : decode mX12_readLine.2.1 88 = .ok (.lload_n 1, 1) := by decide +kernel
theorem dX12_readLine_89 : decode mX12_readLine.2.1 89 = .ok (.ldc2_w 230, 3) := by decide +kernel
theorem dX12_readLine_92 : decode mX12_readLine.2.1 92 = .ok (.lcmp, 1) := by decide +kernel
theorem dX12_readLine_93 : decode mX12_readLine.2.1 93 = .ok (.ifCond .ne 7, 3) := by decide +kernel
theorem dX12_readLine_96 : decode mX12_readLine.2.1 96 = .ok (.aload_n 0, 1) := by decide +kernel
theorem dX12_readLine_97 : decode mX12_readLine.2.1 97 = .ok (.invokevirtual 326, 3) := by decide +kernel
theorem dX12_readLine_100 : decode mX12_readLine.2.1 100 = .ok (.lload_n 1, 1) := by decide +kernel
theorem dX12_readLine_101 : decode mX12_readLine.2.1 101 = .ok (.ldc2_w 238, 3) := by decide +kernel
theorem dX12_readLine_104 : decode mX12_readLine.2.1 104 = .ok (.lcmp, 1) := by decide +kernel
theorem dX12_readLine_105 : decode mX12_readLine.2.1 105 = .ok (.ifCond .ne 7, 3) := by decide +kernel
theorem dX12_readLine_108 : decode mX12_readLine.2.1 108 = .ok (.aload_n 0, 1) := by decide +kernel
theorem dX12_readLine_109 : decode mX12_readLine.2.1 109 = .ok (.invokevirtual 329, 3) := by decide +kernel
theorem dX12_readLine_112 : decode mX12_readLine.2.1 112 = .ok (.lload_n 1, 1) := by decide +kernel
theorem dX12_readLine_113 : decode mX12_readLine.2.1 113 = .ok (.ldc2_w 240, 3) := by decide +kernel
theorem dX12_readLine_116 : decode mX12_readLine.2.1 116 = .ok (.lcmp, 1) := by decide +kernel
theorem dX12_readLine_117 : decode mX12_readLine.2.1 117 = .ok (.ifCond .ne 7, 3) := by decide +kernel
theorem dX12_readLine_120 : decode mX12_readLine.2.1 120 = .ok (.aload_n 0, 1) := by decide +kernel
theorem dX12_readLine_121 : decode mX12_readLine.2.1 121 = .ok (.invokevirtual 332, 3) := by decide +kernel
theorem dX12_readLine_124 : decode mX12_readLine.2.1 124 = .ok (.aload_n 0, 1) := by decide +kernel
theorem dX12_readLine_125 : decode mX12_readLine.2.1 125 = .ok (.aload_n 0, 1) := by decide +kernel
theorem dX12_readLine_126 : decode mX12_readLine.2.1 126 = .ok (.bipush 59, 2) := by decide +kernel
theorem dX12_readLine_128 : decode mX12_readLine.2.1 128 = .ok (.invokevirtual 335, 3) := by decide +kernel
theorem dX12_readLine_131 : decode mX12_readLine.2.1 131 = .ok (.invokevirtual 338, 3) := by decide +kernel
theorem dX12_readLine_134 : decode mX12_readLine.2.1 134 = .ok (.return_, 1) := by decide +kernel
theorem dX12_isFull_0 : decode mX12_isFull.2.1 0 = .ok (.aload_n 0, 1) := by decide +kernel
theorem dX12_isFull_1 : decode mX12_isFull.2.1 1 = .ok (.ldc2_w 230, 3) := by decide +kernel
theorem dX12_isFull_4 : decode mX12_isFull.2.1 4 = .ok (.invokevirtual 316, 3) := by decide +kernel
theorem dX12_isFull_7 : decode mX12_isFull.2.1 7 = .ok (.ifCond .eq 22, 3) := by decide +kernel
theorem dX12_isFull_10 : decode mX12_isFull.2.1 10 = .ok (.aload_n 0, 1) := by decide +kernel
theorem dX12_isFull_11 : decode mX12_isFull.2.1 11 = .ok (.getfield 20, 3) := by decide +kernel
theorem dX12_isFull_14 : decode mX12_isFull.2.1 14 = .ok (.aload_n 0, 1) := by decide +kernel
theorem dX12_isFull_15 : decode mX12_isFull.2.1 15 = .ok (.getfield 289, 3) := by decide +kernel
theorem dX12_isFull_18 : decode mX12_isFull.2.1 18 = .ok (.iaload, 1) := by decide +kernel
theorem dX12_isFull_19 : decode mX12_isFull.2.1 19 = .ok (.iconst 5, 1) := by decide +kernel
theorem dX12_isFull_20 : decode mX12_isFull.2.1 20 = .ok (.if_icmp .ne 7, 3) := by decide +kernel
theorem dX12_isFull_23 : decode mX12_isFull.2.1 23 = .ok (.iconst 1, 1) := by decide +kernel
theorem dX12_isFull_24 : decode mX12_isFull.2.1 24 = .ok (.goto 4, 3) := by decide +kernel
theorem dX12_isFull_27 : decode mX12_isFull.2.1 27 = .ok (.iconst 0, 1) := by decide +kernel
theorem dX12_isFull_28 : decode mX12_isFull.2.1 28 = .ok (.ireturn, 1) := by decide +kernel
theorem dX12_isFull_29 : decode mX12_isFull.2.1 29 = .ok (.aload_n 0, 1) := by decide +kernel
theorem dX12_isFull_30 : decode mX12_isFull.2.1 30 = .ok (.ldc2_w 234, 3) := by decide +kernel
theorem dX12_isFull_33 : decode mX12_isFull.2.1 33 = .ok (.invokevirtual 316, 3) := by decide +kernel
theorem dX12_isFull_36 : decode mX12_isFull.2.1 36 = .ok (.ifCond .eq 13, 3) := by decide +kernel
theorem dX12_isFull_39 : decode mX12_isFull.2.1 39 = .ok (.aload_n 0, 1) := by decide +kernel
theorem dX12_isFull_40 : decode mX12_isFull.2.1 40 = .ok (.getfield 36, 3) := by decide +kernel
theorem dX12_isFull_43 : decode mX12_isFull.2.1 43 = .ok (.aload_n 0, 1) := by decide +kernel
theorem dX12_isFull_44 : decode mX12_isFull.2.1 44 = .ok (.getfield 289, 3) := by decide +kernel
theorem dX12_isFull_47 : decode mX12_isFull.2.1 47 = .ok (.baload, 1) := by decide +kernel
theorem dX12_isFull_48 : decode mX12_isFull.2.1 48 = .ok (.ireturn, 1) := by decide +kernel
theorem dX12_isFull_49 : decode mX12_isFull.2.1 49 = .ok (.aload_n 0, 1) := by decide +kernel
theorem dX12_isFull_50 : decode mX12_isFull.2.1 50 = .ok (.ldc2_w 236, 3) := by decide +kernel
theorem dX12_isFull_53 : decode mX12_isFull.2.1 53 = .ok (.invokevirtual 316, 3) := by decide +kernel
theorem dX12_isFull_56 : decode mX12_isFull.2.1 56 = .ok (.ifCond .eq 13, 3) := by decide +kernel
theorem dX12_isFull_59 : decode mX12_isFull.2.1 59 = .ok (.aload_n 0, 1) := by decide +kernel
theorem dX12_isFull_60 : decode mX12_isFull.2.1 60 = .ok (.getfield 40, 3) := by decide +kernel
theorem dX12_isFull_63 : decode mX12_isFull.2.1 63 = .ok (.aload_n 0, 1) := by decide +kernel
theorem dX12_isFull_64 : decode mX12_isFull.2.1 64 = .ok (.getfield 289, 3) := by decide +kernel
theorem dX12_isFull_67 : decode mX12_isFull.2.1 67 = .ok (.baload, 1) := by decide +kernel
theorem dX12_isFull_68 : decode mX12_isFull.2.1 68 = .ok (.ireturn, 1) := by decide +kernel
theorem dX12_isFull_69 : decode mX12_isFull.2.1 69 = .ok (.aload_n 0, 1) := by decide +kernel
theorem dX12_isFull_70 : decode mX12_isFull.2.1 70 = .ok (.ldc2_w 240, 3) := by decide +kernel
theorem dX12_isFull_73 : decode mX12_isFull.2.1 73 = .ok (.invokevirtual 316, 3) := by decide +kernel
theorem dX12_isFull_76 : decode mX12_isFull.2.1 76 = .ok (.ifCond .eq 22, 3) := by decide +kernel
theorem dX12_isFull_79 : decode mX12_isFull.2.1 79 = .ok (.aload_n 0, 1) := by decide +kernel
theorem dX12_isFull_80 : decode mX12_isFull.2.1 80 = .ok (.getfield 53, 3) := by decide +kernel
theorem dX12_isFull_83 : decode mX12_isFull.2.1 83 = .ok (.aload_n 0, 1) := by decide +kernel
theorem dX12_isFull_84 : decode mX12_isFull.2.1 84 = .ok (.getfield 289, 3) := by decide +kernel
theorem dX12_isFull_87 : decode mX12_isFull.2.1 87 = .ok (.iaload, 1) := by decide +kernel
theorem dX12_isFull_88 : decode mX12_isFull.2.1 88 = .ok (.iconst 3, 1) := by decide +kernel
theorem dX12_isFull_89 : decode mX12_isFull.2.1 89 = .ok (.if_icmp .ne 7, 3) := by decide +kernel
theorem dX12_isFull_92 : decode mX12_isFull.2.1 92 = .ok (.iconst 1, 1) := by decide +kernel
theorem dX12_isFull_93 : decode mX12_isFull.2.1 93 = .ok (.goto 4, 3) := by decide +kernel
theorem dX12_isFull_96 : decode mX12_isFull.2.1 96 = .ok (.iconst 0, 1) := by decide +kernel
theorem dX12_isFull_97 : decode mX12_isFull.2.1 97 = .ok (.ireturn, 1) := by decide +kernel
theorem dX12_isFull_98 : decode mX12_isFull.2.1 98 = .ok (.aload_n 0, 1) := by decide +kernel
theorem dX12_isFull_99 : decode mX12_isFull.2.1 99 = .ok (.ldc2_w 238, 3) := by decide +kernel
theorem dX12_isFull_102 : decode mX12_isFull.2.1 102 = .ok (.invokevirtual 316, 3) := by decide +kernel
theorem dX12_isFull_105 : decode mX12_isFull.2.1 105 = .ok (.ifCond .eq 15, 3) := by decide +kernel
theorem dX12_isFull_108 : decode mX12_isFull.2.1 108 = .ok (.aload_n 0, 1) := by decide +kernel
theorem dX12_isFull_109 : decode mX12_isFull.2.1 109 = .ok (.getfield 43, 3) := by decide +kernel
theorem dX12_isFull_112 : decode mX12_isFull.2.1 112 = .ok (.aload_n 0, 1) := by decide +kernel
theorem dX12_isFull_113 : decode mX12_isFull.2.1 113 = .ok (.getfield 289, 3) := by decide +kernel
theorem dX12_isFull_116 : decode mX12_isFull.2.1 116 = .ok (.baload, 1) := by decide +kernel
theorem dX12_isFull_117 : decode mX12_isFull.2.1 117 = .ok (.ifCond .eq 7, 3) := by decide +kernel
theorem dX12_isFull_120 : decode mX12_isFull.2.1 120 = .ok (.iconst 1, 1) := by decide +kernel
theorem dX12_isFull_121 : decode mX12_isFull.2.1 121 = .ok (.goto 4, 3) := by decide +kernel
theorem dX12_isFull_124 : decode mX12_isFull.2.1 124 = .ok (.iconst 0, 1) := by decide +kernel
theorem dX12_isFull_125 : decode mX12_isFull.2.1 125 = .ok (.ireturn, 1) := by decide +kernel
theorem dX12_isWord_0 : decode mX12_isWord.2.1 0 = .ok (.aload_n 0, 1) := by decide +kernel
theorem dX12_isWord_1 : decode mX12_isWord.2.1 1 = .ok (.getfield 254, 3) := by decide +kernel
theorem dX12_isWord_4 : decode mX12_isWord.2.1 4 = .ok (.iconst 3, 1) := by decide +kernel
theorem dX12_isWord_5 : decode mX12_isWord.2.1 5 = .ok (.if_icmp .ne 16, 3) := by decide +kernel
theorem dX12_isWord_8 : decode mX12_isWord.2.1 8 = .ok (.aload_n 0, 1) := by decide +kernel
theorem dX12_isWord_9 : decode mX12_isWord.2.1 9 = .ok (.getfield 261, 3) := by decide +kernel
theorem dX12_isWord_12 : decode mX12_isWord.2.1 12 = .ok (.lload_n 1, 1) := by decide +kernel
theorem dX12_isWord_13 : decode mX12_isWord.2.1 13 = .ok (.lcmp, 1) := by decide +kernel
theorem dX12_isWord_14 : decode mX12_isWord.2.1 14 = .ok (.ifCond .ne 7, 3) := by decide +kernel
theorem dX12_isWord_17 : decode mX12_isWord.2.1 17 = .ok (.iconst 1, 1) := by decide +kernel
theorem dX12_isWord_18 : decode mX12_isWord.2.1 18 = .ok (.goto 4, 3) := by decide +kernel
theorem dX12_isWord_21 : decode mX12_isWord.2.1 21 = .ok (.iconst 0, 1) := by decide +kernel
theorem dX12_isWord_22 : decode mX12_isWord.2.1 22 = .ok (.ireturn, 1) := by decide +kernel
theorem dX12_misplaced_0 : decode mX12_misplaced.2.1 0 = .ok (.aload_n 0, 1) := by decide +kernel
theorem dX12_misplaced_1 : decode mX12_misplaced.2.1 1 = .ok (.aload_n 0, 1) := by decide +kernel
theorem dX12_misplaced_2 : decode mX12_misplaced.2.1 2 = .ok (.getfield 254, 3) := by decide +kernel
theorem dX12_misplaced_5 : decode mX12_misplaced.2.1 5 = .ok (.iconst 1, 1) := by decide +kernel
theorem dX12_misplaced_6 : decode mX12_misplaced.2.1 6 = .ok (.if_icmp .ne 7, 3) := by decide +kernel
theorem dX12_misplaced_9 : decode mX12_misplaced.2.1 9 = .ok (.iconst 1, 1) := by decide +kernel
theorem dX12_misplaced_10 : decode mX12_misplaced.2.1 10 = .ok (.goto 4, 3) := by decide +kernel
theorem dX12_misplaced_13 : decode mX12_misplaced.2.1 13 = .ok (.iconst 2, 1) := by decide +kernel
theorem dX12_misplaced_14 : decode mX12_misplaced.2.1 14 = .ok (.aload_n 0, 1) := by decide +kernel
theorem dX12_misplaced_15 : decode mX12_misplaced.2.1 15 = .ok (.getfield 247, 3) := by decide +kernel
theorem dX12_misplaced_18 : decode mX12_misplaced.2.1 18 = .ok (.invokevirtual 275, 3) := by decide +kernel
theorem dX12_misplaced_21 : decode mX12_misplaced.2.1 21 = .ok (.return_, 1) := by decide +kernel
theorem dX12_fails_0 : decode mX12_fails.2.1 0 = .ok (.aload_n 0, 1) := by decide +kernel
theorem dX12_fails_1 : decode mX12_fails.2.1 1 = .ok (.getfield 227, 3) := by decide +kernel
theorem dX12_fails_4 : decode mX12_fails.2.1 4 = .ok (.ifCond .le 4, 3) := by decide +kernel
theorem dX12_fails_7 : decode mX12_fails.2.1 7 = .ok (.return_, 1) := by decide +kernel
theorem dX12_fails_8 : decode mX12_fails.2.1 8 = .ok (.aload_n 0, 1) := by decide +kernel
theorem dX12_fails_9 : decode mX12_fails.2.1 9 = .ok (.iload_n 1, 1) := by decide +kernel
theorem dX12_fails_10 : decode mX12_fails.2.1 10 = .ok (.putfield 227, 3) := by decide +kernel
theorem dX12_fails_13 : decode mX12_fails.2.1 13 = .ok (.aload_n 0, 1) := by decide +kernel
theorem dX12_fails_14 : decode mX12_fails.2.1 14 = .ok (.iload_n 2, 1) := by decide +kernel
theorem dX12_fails_15 : decode mX12_fails.2.1 15 = .ok (.putfield 16, 3) := by decide +kernel
theorem dX12_fails_18 : decode mX12_fails.2.1 18 = .ok (.return_, 1) := by decide +kernel
theorem dX12_numeral_0 : decode mX12_numeral.2.1 0 = .ok (.aload_n 0, 1) := by decide +kernel
theorem dX12_numeral_1 : decode mX12_numeral.2.1 1 = .ok (.invokevirtual 279, 3) := by decide +kernel
theorem dX12_numeral_4 : decode mX12_numeral.2.1 4 = .ok (.ifCond .ne 5, 3) := by decide +kernel
theorem dX12_numeral_7 : decode mX12_numeral.2.1 7 = .ok (.iload_n 1, 1) := by decide +kernel
theorem dX12_numeral_8 : decode mX12_numeral.2.1 8 = .ok (.ireturn, 1) := by decide +kernel
theorem dX12_numeral_9 : decode mX12_numeral.2.1 9 = .ok (.aload_n 0, 1) := by decide +kernel
theorem dX12_numeral_10 : decode mX12_numeral.2.1 10 = .ok (.getfield 254, 3) := by decide +kernel
theorem dX12_numeral_13 : decode mX12_numeral.2.1 13 = .ok (.iconst 4, 1) := by decide +kernel
theorem dX12_numeral_14 : decode mX12_numeral.2.1 14 = .ok (.if_icmp .eq 7, 3) := by decide +kernel
theorem dX12_numeral_17 : decode mX12_numeral.2.1 17 = .ok (.aload_n 0, 1) := by decide +kernel
theorem dX12_numeral_18 : decode mX12_numeral.2.1 18 = .ok (.invokevirtual 286, 3) := by decide +kernel
theorem dX12_numeral_21 : decode mX12_numeral.2.1 21 = .ok (.aload_n 0, 1) := by decide +kernel
theorem dX12_numeral_22 : decode mX12_numeral.2.1 22 = .ok (.invokevirtual 279, 3) := by decide +kernel
theorem dX12_numeral_25 : decode mX12_numeral.2.1 25 = .ok (.ifCond .eq 28, 3) := by decide +kernel
theorem dX12_numeral_28 : decode mX12_numeral.2.1 28 = .ok (.aload_n 0, 1) := by decide +kernel
theorem dX12_numeral_29 : decode mX12_numeral.2.1 29 = .ok (.getfield 272, 3) := by decide +kernel
theorem dX12_numeral_32 : decode mX12_numeral.2.1 32 = .ok (.iload_n 1, 1) := by decide +kernel
theorem dX12_numeral_33 : decode mX12_numeral.2.1 33 = .ok (.if_icmp .lt 11, 3) := by decide +kernel
theorem dX12_numeral_36 : decode mX12_numeral.2.1 36 = .ok (.aload_n 0, 1) := by decide +kernel
theorem dX12_numeral_37 : decode mX12_numeral.2.1 37 = .ok (.getfield 272, 3) := by decide +kernel
theorem dX12_numeral_40 : decode mX12_numeral.2.1 40 = .ok (.iload_n 2, 1) := by decide +kernel
theorem dX12_numeral_41 : decode mX12_numeral.2.1 41 = .ok (.if_icmp .le 12, 3) := by decide +kernel
theorem dX12_numeral_44 : decode mX12_numeral.2.1 44 = .ok (.aload_n 0, 1) := by decide +kernel
theorem dX12_numeral_45 : decode mX12_numeral.2.1 45 = .ok (.iconst 4, 1) := by decide +kernel
theorem dX12_numeral_46 : decode mX12_numeral.2.1 46 = .ok (.aload_n 0, 1) := by decide +kernel
theorem dX12_numeral_47 : decode mX12_numeral.2.1 47 = .ok (.getfield 247, 3) := by decide +kernel
theorem dX12_numeral_50 : decode mX12_numeral.2.1 50 = .ok (.invokevirtual 275, 3) := by decide +kernel
theorem dX12_numeral_53 : decode mX12_numeral.2.1 53 = .ok (.aload_n 0, 1) := by decide +kernel
theorem dX12_numeral_54 : decode mX12_numeral.2.1 54 = .ok (.getfield 272, 3) := by decide +kernel
theorem dX12_numeral_57 : decode mX12_numeral.2.1 57 = .ok (.istore_n 3, 1) := by decide +kernel
theorem dX12_numeral_58 : decode mX12_numeral.2.1 58 = .ok (.aload_n 0, 1) := by decide +kernel
theorem dX12_numeral_59 : decode mX12_numeral.2.1 59 = .ok (.invokevirtual 279, 3) := by decide +kernel
theorem dX12_numeral_62 : decode mX12_numeral.2.1 62 = .ok (.ifCond .eq 7, 3) := by decide +kernel
theorem dX12_numeral_65 : decode mX12_numeral.2.1 65 = .ok (.aload_n 0, 1) := by decide +kernel
theorem dX12_numeral_66 : decode mX12_numeral.2.1 66 = .ok (.invokevirtual 283, 3) := by decide +kernel
theorem dX12_numeral_69 : decode mX12_numeral.2.1 69 = .ok (.aload_n 0, 1) := by decide +kernel
theorem dX12_numeral_70 : decode mX12_numeral.2.1 70 = .ok (.invokevirtual 279, 3) := by decide +kernel
theorem dX12_numeral_73 : decode mX12_numeral.2.1 73 = .ok (.ifCond .eq 7, 3) := by decide +kernel
theorem dX12_numeral_76 : decode mX12_numeral.2.1 76 = .ok (.iload_n 3, 1) := by decide +kernel
theorem dX12_numeral_77 : decode mX12_numeral.2.1 77 = .ok (.goto 4, 3) := by decide +kernel
theorem dX12_numeral_80 : decode mX12_numeral.2.1 80 = .ok (.iload_n 1, 1) := by decide +kernel
theorem dX12_numeral_81 : decode mX12_numeral.2.1 81 = .ok (.ireturn, 1) := by decide +kernel
theorem dX12_readThing_0 : decode mX12_readThing.2.1 0 = .ok (.aload_n 0, 1) := by decide +kernel
theorem dX12_readThing_1 : decode mX12_readThing.2.1 1 = .ok (.getfield 254, 3) := by decide +kernel
theorem dX12_readThing_4 : decode mX12_readThing.2.1 4 = .ok (.iconst 2, 1) := by decide +kernel
theorem dX12_readThing_5 : decode mX12_readThing.2.1 5 = .ok (.if_icmp .eq 10, 3) := by decide +kernel
theorem dX12_readThing_8 : decode mX12_readThing.2.1 8 = .ok (.aload_n 0, 1) := by decide +kernel
theorem dX12_readThing_9 : decode mX12_readThing.2.1 9 = .ok (.invokevirtual 286, 3) := by decide +kernel
theorem dX12_readThing_12 : decode mX12_readThing.2.1 12 = .ok (.goto 19, 3) := by decide +kernel
theorem dX12_readThing_15 : decode mX12_readThing.2.1 15 = .ok (.aload_n 0, 1) := by decide +kernel
theorem dX12_readThing_16 : decode mX12_readThing.2.1 16 = .ok (.invokevirtual 342, 3) := by decide +kernel
theorem dX12_readThing_19 : decode mX12_readThing.2.1 19 = .ok (.ifCond .lt 12, 3) := by decide +kernel
theorem dX12_readThing_22 : decode mX12_readThing.2.1 22 = .ok (.aload_n 0, 1) := by decide +kernel
theorem dX12_readThing_23 : decode mX12_readThing.2.1 23 = .ok (.iconst 3, 1) := by decide +kernel
theorem dX12_readThing_24 : decode mX12_readThing.2.1 24 = .ok (.aload_n 0, 1) := by decide +kernel
theorem dX12_readThing_25 : decode mX12_readThing.2.1 25 = .ok (.getfield 247, 3) := by decide +kernel
theorem dX12_readThing_28 : decode mX12_readThing.2.1 28 = .ok (.invokevirtual 275, 3) := by decide +kernel
theorem dX12_readThing_31 : decode mX12_readThing.2.1 31 = .ok (.aload_n 0, 1) := by decide +kernel
theorem dX12_readThing_32 : decode mX12_readThing.2.1 32 = .ok (.invokevirtual 279, 3) := by decide +kernel
theorem dX12_readThing_35 : decode mX12_readThing.2.1 35 = .ok (.ifCond .ne 4, 3) := by decide +kernel
theorem dX12_readThing_38 : decode mX12_readThing.2.1 38 = .ok (.return_, 1) := by decide +kernel
theorem dX12_readThing_39 : decode mX12_readThing.2.1 39 = .ok (.iconst 5, 1) := by decide +kernel
theorem dX12_readThing_40 : decode mX12_readThing.2.1 40 = .ok (.aload_n 0, 1) := by decide +kernel
theorem dX12_readThing_41 : decode mX12_readThing.2.1 41 = .ok (.getfield 289, 3) := by decide +kernel
theorem dX12_readThing_44 : decode mX12_readThing.2.1 44 = .ok (.imul, 1) := by decide +kernel
theorem dX12_readThing_45 : decode mX12_readThing.2.1 45 = .ok (.aload_n 0, 1) := by decide +kernel
theorem dX12_readThing_46 : decode mX12_readThing.2.1 46 = .ok (.getfield 20, 3) := by decide +kernel
theorem dX12_readThing_49 : decode mX12_readThing.2.1 49 = .ok (.aload_n 0, 1) := by decide +kernel
theorem dX12_readThing_50 : decode mX12_readThing.2.1 50 = .ok (.getfield 289, 3) := by decide +kernel
theorem dX12_readThing_53 : decode mX12_readThing.2.1 53 = .ok (.iaload, 1) := by decide +kernel
theorem dX12_readThing_54 : decode mX12_readThing.2.1 54 = .ok (.iadd, 1) := by decide +kernel
theorem dX12_readThing_55 : decode mX12_readThing.2.1 55 = .ok (.istore_n 1, 1) := by decide +kernel
theorem dX12_readThing_56 : decode mX12_readThing.2.1 56 = .ok (.aload_n 0, 1) := by decide +kernel
theorem dX12_readThing_57 : decode mX12_readThing.2.1 57 = .ok (.getfield 46, 3) := by decide +kernel
theorem dX12_readThing_60 : decode mX12_readThing.2.1 60 = .ok (.iload_n 1, 1) := by decide +kernel
theorem dX12_readThing_61 : decode mX12_readThing.2.1 61 = .ok (.aload_n 0, 1) := by decide +kernel
theorem dX12_readThing_62 : decode mX12_readThing.2.1 62 = .ok (.getfield 261, 3) := by decide +kernel
theorem dX12_readThing_65 : decode mX12_readThing.2.1 65 = .ok (.lastore, 1) := by decide +kernel
theorem dX12_readThing_66 : decode mX12_readThing.2.1 66 = .ok (.aload_n 0, 1) := by decide +kernel
theorem dX12_readThing_67 : decode mX12_readThing.2.1 67 = .ok (.invokevirtual 283, 3) := by decide +kernel
theorem dX12_readThing_70 : decode mX12_readThing.2.1 70 = .ok (.aload_n 0, 1) := by decide +kernel
theorem dX12_readThing_71 : decode mX12_readThing.2.1 71 = .ok (.aload_n 0, 1) := by decide +kernel
theorem dX12_readThing_72 : decode mX12_readThing.2.1 72 = .ok (.ldc2_w 232, 3) := by decide +kernel
theorem dX12_readThing_75 : decode mX12_readThing.2.1 75 = .ok (.invokevirtual 316, 3) := by decide +kernel
theorem dX12_readThing_78 : decode mX12_readThing.2.1 78 = .ok (.invokevirtual 338, 3) := by decide +kernel
theorem dX12_readThing_81 : decode mX12_readThing.2.1 81 = .ok (.aload_n 0, 1) := by decide +kernel
theorem dX12_readThing_82 : decode mX12_readThing.2.1 82 = .ok (.getfield 33, 3) := by decide +kernel
theorem dX12_readThing_85 : decode mX12_readThing.2.1 85 = .ok (.iload_n 1, 1) := by decide +kernel
theorem dX12_readThing_86 : decode mX12_readThing.2.1 86 = .ok (.aload_n 0, 1) := by decide +kernel
theorem dX12_readThing_87 : decode mX12_readThing.2.1 87 = .ok (.iconst 1, 1) := by decide +kernel
theorem dX12_readThing_88 : decode mX12_readThing.2.1 88 = .ok (.sipush 999, 3) := by decide +kernel
theorem dX12_readThing_91 : decode mX12_readThing.2.1 91 = .ok (.invokevirtual 322, 3) := by decide +kernel
theorem dX12_readThing_94 : decode mX12_readThing.2.1 94 = .ok (.iastore, 1) := by decide +kernel
theorem dX12_readThing_95 : decode mX12_readThing.2.1 95 = .ok (.aload_n 0, 1) := by decide +kernel
theorem dX12_readThing_96 : decode mX12_readThing.2.1 96 = .ok (.getfield 20, 3) := by decide +kernel
theorem dX12_readThing_99 : decode mX12_readThing.2.1 99 = .ok (.aload_n 0, 1) := by decide +kernel
theorem dX12_readThing_100 : decode mX12_readThing.2.1 100 = .ok (.getfield 289, 3) := by decide +kernel
theorem dX12_readThing_103 : decode mX12_readThing.2.1 103 = .ok (.dup2, 1) := by decide +kernel
theorem dX12_readThing_104 : decode mX12_readThing.2.1 104 = .ok (.iaload, 1) := by decide +kernel
theorem dX12_readThing_105 : decode mX12_readThing.2.1 105 = .ok (.iconst 1, 1) := by decide +kernel
theorem dX12_readThing_106 : decode mX12_readThing.2.1 106 = .ok (.iadd, 1) := by decide +kernel
theorem dX12_readThing_107 : decode mX12_readThing.2.1 107 = .ok (.iastore, 1) := by decide +kernel
theorem dX12_readThing_108 : decode mX12_readThing.2.1 108 = .ok (.return_, 1) := by decide +kernel
theorem dX12_thingHere_0 : decode mX12_thingHere.2.1 0 = .ok (.iconst 0, 1) := by decide +kernel
theorem dX12_thingHere_1 : decode mX12_thingHere.2.1 1 = .ok (.istore_n 1, 1) := by decide +kernel
theorem dX12_thingHere_2 : decode mX12_thingHere.2.1 2 = .ok (.iload_n 1, 1) := by decide +kernel
theorem dX12_thingHere_3 : decode mX12_thingHere.2.1 3 = .ok (.aload_n 0, 1) := by decide +kernel
theorem dX12_thingHere_4 : decode mX12_thingHere.2.1 4 = .ok (.getfield 20, 3) := by decide +kernel
theorem dX12_thingHere_7 : decode mX12_thingHere.2.1 7 = .ok (.aload_n 0, 1) := by decide +kernel
theorem dX12_thingHere_8 : decode mX12_thingHere.2.1 8 = .ok (.getfield 289, 3) := by decide +kernel
theorem dX12_thingHere_11 : decode mX12_thingHere.2.1 11 = .ok (.iaload, 1) := by decide +kernel
theorem dX12_thingHere_12 : decode mX12_thingHere.2.1 12 = .ok (.if_icmp .ge 40, 3) := by decide +kernel
theorem dX12_thingHere_15 : decode mX12_thingHere.2.1 15 = .ok (.aload_n 0, 1) := by decide +kernel
theorem dX12_thingHere_16 : decode mX12_thingHere.2.1 16 = .ok (.getfield 254, 3) := by decide +kernel
theorem dX12_thingHere_19 : decode mX12_thingHere.2.1 19 = .ok (.iconst 2, 1) := by decide +kernel
theorem dX12_thingHere_20 : decode mX12_thingHere.2.1 20 = .ok (.if_icmp .ne 26, 3) := by decide +kernel
theorem dX12_thingHere_23 : decode mX12_thingHere.2.1 23 = .ok (.aload_n 0, 1) := by decide +kernel
theorem dX12_thingHere_24 : decode mX12_thingHere.2.1 24 = .ok (.getfield 46, 3) := by decide +kernel
theorem dX12_thingHere_27 : decode mX12_thingHere.2.1 27 = .ok (.iconst 5, 1) := by decide +kernel
theorem dX12_thingHere_28 : decode mX12_thingHere.2.1 28 = .ok (.aload_n 0, 1) := by decide +kernel
theorem dX12_thingHere_29 : decode mX12_thingHere.2.1 29 = .ok (.getfield 289, 3) := by decide +kernel
theorem dX12_thingHere_32 : decode mX12_thingHere.2.1 32 = .ok (.imul, 1) := by decide +kernel
theorem dX12_thingHere_33 : decode mX12_thingHere.2.1 33 = .ok (.iload_n 1, 1) := by decide +kernel
theorem dX12_thingHere_34 : decode mX12_thingHere.2.1 34 = .ok (.iadd, 1) := by decide +kernel
theorem dX12_thingHere_35 : decode mX12_thingHere.2.1 35 = .ok (.laload, 1) := by decide +kernel
theorem dX12_thingHere_36 : decode mX12_thingHere.2.1 36 = .ok (.aload_n 0, 1) := by decide +kernel
theorem dX12_thingHere_37 : decode mX12_thingHere.2.1 37 = .ok (.getfield 261, 3) := by decide +kernel
theorem dX12_thingHere_40 : decode mX12_thingHere.2.1 40 = .ok (.lcmp, 1) := by decide +kernel
theorem dX12_thingHere_41 : decode mX12_thingHere.2.1 41 = .ok (.ifCond .ne 5, 3) := by decide +kernel
theorem dX12_thingHere_44 : decode mX12_thingHere.2.1 44 = .ok (.iload_n 1, 1) := by decide +kernel
theorem dX12_thingHere_45 : decode mX12_thingHere.2.1 45 = .ok (.ireturn, 1) := by decide +kernel
theorem dX12_thingHere_46 : decode mX12_thingHere.2.1 46 = .ok (.iinc 1 1, 3) := by decide +kernel
theorem dX12_thingHere_49 : decode mX12_thingHere.2.1 49 = .ok (.goto (-47), 3) := by decide +kernel
theorem dX12_thingHere_52 : decode mX12_thingHere.2.1 52 = .ok (.iconst (-1), 1) := by decide +kernel
theorem dX12_thingHere_53 : decode mX12_thingHere.2.1 53 = .ok (.ireturn, 1) := by decide +kernel
theorem dX12_must_0 : decode mX12_must.2.1 0 = .ok (.aload_n 0, 1) := by decide +kernel
theorem dX12_must_1 : decode mX12_must.2.1 1 = .ok (.invokevirtual 279, 3) := by decide +kernel
theorem dX12_must_4 : decode mX12_must.2.1 4 = .ok (.ifCond .ne 4, 3) := by decide +kernel
theorem dX12_must_7 : decode mX12_must.2.1 7 = .ok (.return_, 1) := by decide +kernel
theorem dX12_must_8 : decode mX12_must.2.1 8 = .ok (.iload_n 1, 1) := by decide +kernel
theorem dX12_must_9 : decode mX12_must.2.1 9 = .ok (.ifCond .eq 10, 3) := by decide +kernel
theorem dX12_must_12 : decode mX12_must.2.1 12 = .ok (.aload_n 0, 1) := by decide +kernel
theorem dX12_must_13 : decode mX12_must.2.1 13 = .ok (.invokevirtual 283, 3) := by decide +kernel
theorem dX12_must_16 : decode mX12_must.2.1 16 = .ok (.goto 7, 3) := by decide +kernel
theorem dX12_must_19 : decode mX12_must.2.1 19 = .ok (.aload_n 0, 1) := by decide +kernel
theorem dX12_must_20 : decode mX12_must.2.1 20 = .ok (.invokevirtual 286, 3) := by decide +kernel
theorem dX12_must_23 : decode mX12_must.2.1 23 = .ok (.return_, 1) := by decide +kernel
theorem dX12_readRow_0 : decode mX12_readRow.2.1 0 = .ok (.aload_n 0, 1) := by decide +kernel
theorem dX12_readRow_1 : decode mX12_readRow.2.1 1 = .ok (.getfield 43, 3) := by decide +kernel
theorem dX12_readRow_4 : decode mX12_readRow.2.1 4 = .ok (.aload_n 0, 1) := by decide +kernel
theorem dX12_readRow_5 : decode mX12_readRow.2.1 5 = .ok (.getfield 289, 3) := by decide +kernel
theorem dX12_readRow_8 : decode mX12_readRow.2.1 8 = .ok (.iconst 1, 1) := by decide +kernel
theorem dX12_readRow_9 : decode mX12_readRow.2.1 9 = .ok (.bastore, 1) := by decide +kernel
theorem dX12_readRow_10 : decode mX12_readRow.2.1 10 = .ok (.aload_n 0, 1) := by decide +kernel
theorem dX12_readRow_11 : decode mX12_readRow.2.1 11 = .ok (.invokevirtual 342, 3) := by decide +kernel
theorem dX12_readRow_14 : decode mX12_readRow.2.1 14 = .ok (.istore_n 1, 1) := by decide +kernel
theorem dX12_readRow_15 : decode mX12_readRow.2.1 15 = .ok (.aload_n 0, 1) := by decide +kernel
theorem dX12_readRow_16 : decode mX12_readRow.2.1 16 = .ok (.getfield 254, 3) := by decide +kernel
theorem dX12_readRow_19 : decode mX12_readRow.2.1 19 = .ok (.iconst 2, 1) := by decide +kernel
theorem dX12_readRow_20 : decode mX12_readRow.2.1 20 = .ok (.if_icmp .eq 10, 3) := by decide +kernel
theorem dX12_readRow_23 : decode mX12_readRow.2.1 23 = .ok (.aload_n 0, 1) := by decide +kernel
theorem dX12_readRow_24 : decode mX12_readRow.2.1 24 = .ok (.invokevirtual 286, 3) := by decide +kernel
theorem dX12_readRow_27 : decode mX12_readRow.2.1 27 = .ok (.goto 36, 3) := by decide +kernel
theorem dX12_readRow_30 : decode mX12_readRow.2.1 30 = .ok (.iload_n 1, 1) := by decide +kernel
theorem dX12_readRow_31 : decode mX12_readRow.2.1 31 = .ok (.ifCond .ge 15, 3) := by decide +kernel
theorem dX12_readRow_34 : decode mX12_readRow.2.1 34 = .ok (.aload_n 0, 1) := by decide +kernel
theorem dX12_readRow_35 : decode mX12_readRow.2.1 35 = .ok (.iconst 5, 1) := by decide +kernel
theorem dX12_readRow_36 : decode mX12_readRow.2.1 36 = .ok (.aload_n 0, 1) := by decide +kernel
theorem dX12_readRow_37 : decode mX12_readRow.2.1 37 = .ok (.getfield 247, 3) := by decide +kernel
theorem dX12_readRow_40 : decode mX12_readRow.2.1 40 = .ok (.invokevirtual 275, 3) := by decide +kernel
theorem dX12_readRow_43 : decode mX12_readRow.2.1 43 = .ok (.goto 20, 3) := by decide +kernel
theorem dX12_readRow_46 : decode mX12_readRow.2.1 46 = .ok (.aload_n 0, 1) := by decide +kernel
theorem dX12_readRow_47 : decode mX12_readRow.2.1 47 = .ok (.iload_n 1, 1) := by decide +kernel
theorem dX12_readRow_48 : decode mX12_readRow.2.1 48 = .ok (.invokevirtual 346, 3) := by decide +kernel
theorem dX12_readRow_51 : decode mX12_readRow.2.1 51 = .ok (.ifCond .eq 12, 3) := by decide +kernel
theorem dX12_readRow_54 : decode mX12_readRow.2.1 54 = .ok (.aload_n 0, 1) := by decide +kernel
theorem dX12_readRow_55 : decode mX12_readRow.2.1 55 = .ok (.iconst 3, 1) := by decide +kernel
theorem dX12_readRow_56 : decode mX12_readRow.2.1 56 = .ok (.aload_n 0, 1) := by decide +kernel
theorem dX12_readRow_57 : decode mX12_readRow.2.1 57 = .ok (.getfield 247, 3) := by decide +kernel
theorem dX12_readRow_60 : decode mX12_readRow.2.1 60 = .ok (.invokevirtual 275, 3) := by decide +kernel
theorem dX12_readRow_63 : decode mX12_readRow.2.1 63 = .ok (.aload_n 0, 1) := by decide +kernel
theorem dX12_readRow_64 : decode mX12_readRow.2.1 64 = .ok (.invokevirtual 279, 3) := by decide +kernel
theorem dX12_readRow_67 : decode mX12_readRow.2.1 67 = .ok (.ifCond .ne 4, 3) := by decide +kernel
theorem dX12_readRow_70 : decode mX12_readRow.2.1 70 = .ok (.return_, 1) := by decide +kernel
theorem dX12_readRow_71 : decode mX12_readRow.2.1 71 = .ok (.aload_n 0, 1) := by decide +kernel
theorem dX12_readRow_72 : decode mX12_readRow.2.1 72 = .ok (.getfield 30, 3) := by decide +kernel
theorem dX12_readRow_75 : decode mX12_readRow.2.1 75 = .ok (.iconst 5, 1) := by decide +kernel
theorem dX12_readRow_76 : decode mX12_readRow.2.1 76 = .ok (.aload_n 0, 1) := by decide +kernel
theorem dX12_readRow_77 : decode mX12_readRow.2.1 77 = .ok (.getfield 289, 3) := by decide +kernel
theorem dX12_readRow_80 : decode mX12_readRow.2.1 80 = .ok (.imul, 1) := by decide +kernel
theorem dX12_readRow_81 : decode mX12_readRow.2.1 81 = .ok (.aload_n 0, 1) := by decide +kernel
theorem dX12_readRow_82 : decode mX12_readRow.2.1 82 = .ok (.getfield 27, 3) := by decide +kernel
theorem dX12_readRow_85 : decode mX12_readRow.2.1 85 = .ok (.aload_n 0, 1) := by decide +kernel
theorem dX12_readRow_86 : decode mX12_readRow.2.1 86 = .ok (.getfield 289, 3) := by decide +kernel
theorem dX12_readRow_89 : decode mX12_readRow.2.1 89 = .ok (.iaload, 1) := by decide +kernel
theorem dX12_readRow_90 : decode mX12_readRow.2.1 90 = .ok (.iadd, 1) := by decide +kernel
theorem dX12_readRow_91 : decode mX12_readRow.2.1 91 = .ok (.iload_n 1, 1) := by decide +kernel
theorem dX12_readRow_92 : decode mX12_readRow.2.1 92 = .ok (.iastore, 1) := by decide +kernel
theorem dX12_readRow_93 : decode mX12_readRow.2.1 93 = .ok (.aload_n 0, 1) := by decide +kernel
theorem dX12_readRow_94 : decode mX12_readRow.2.1 94 = .ok (.getfield 27, 3) := by decide +kernel
theorem dX12_readRow_97 : decode mX12_readRow.2.1 97 = .ok (.aload_n 0, 1) := by decide +kernel
theorem dX12_readRow_98 : decode mX12_readRow.2.1 98 = .ok (.getfield 289, 3) := by decide +kernel
theorem dX12_readRow_101 : decode mX12_readRow.2.1 101 = .ok (.dup2, 1) := by decide +kernel
theorem dX12_readRow_102 : decode mX12_readRow.2.1 102 = .ok (.iaload, 1) := by decide +kernel
theorem dX12_readRow_103 : decode mX12_readRow.2.1 103 = .ok (.iconst 1, 1) := by decide +kernel
theorem dX12_readRow_104 : decode mX12_readRow.2.1 104 = .ok (.iadd, 1) := by decide +kernel
theorem dX12_readRow_105 : decode mX12_readRow.2.1 105 = .ok (.iastore, 1) := by decide +kernel
theorem dX12_readRow_106 : decode mX12_readRow.2.1 106 = .ok (.aload_n 0, 1) := by decide +kernel
theorem dX12_readRow_107 : decode mX12_readRow.2.1 107 = .ok (.invokevirtual 283, 3) := by decide +kernel
theorem dX12_readRow_110 : decode mX12_readRow.2.1 110 = .ok (.aload_n 0, 1) := by decide +kernel
theorem dX12_readRow_111 : decode mX12_readRow.2.1 111 = .ok (.getfield 254, 3) := by decide +kernel
theorem dX12_readRow_114 : decode mX12_readRow.2.1 114 = .ok (.iconst 2, 1) := by decide +kernel
theorem dX12_readRow_115 : decode mX12_readRow.2.1 115 = .ok (.if_icmp .eq (-105), 3) := by decide +kernel
theorem dX12_readRow_118 : decode mX12_readRow.2.1 118 = .ok (.return_, 1) := by decide +kernel
theorem dX12_isInRow_0 : decode mX12_isInRow.2.1 0 = .ok (.iconst 0, 1) := by decide +kernel
theorem dX12_isInRow_1 : decode mX12_isInRow.2.1 1 = .ok (.istore_n 2, 1) := by decide +kernel
theorem dX12_isInRow_2 : decode mX12_isInRow.2.1 2 = .ok (.iload_n 2, 1) := by decide +kernel
theorem dX12_isInRow_3 : decode mX12_isInRow.2.1 3 = .ok (.aload_n 0, 1) := by decide +kernel
theorem dX12_isInRow_4 : decode mX12_isInRow.2.1 4 = .ok (.getfield 27, 3) := by decide +kernel
theorem dX12_isInRow_7 : decode mX12_isInRow.2.1 7 = .ok (.aload_n 0, 1) := by decide +kernel
theorem dX12_isInRow_8 : decode mX12_isInRow.2.1 8 = .ok (.getfield 289, 3) := by decide +kernel
theorem dX12_isInRow_11 : decode mX12_isInRow.2.1 11 = .ok (.iaload, 1) := by decide +kernel
theorem dX12_isInRow_12 : decode mX12_isInRow.2.1 12 = .ok (.if_icmp .ge 28, 3) := by decide +kernel
theorem dX12_isInRow_15 : decode mX12_isInRow.2.1 15 = .ok (.aload_n 0, 1) := by decide +kernel
theorem dX12_isInRow_16 : decode mX12_isInRow.2.1 16 = .ok (.getfield 30, 3) := by decide +kernel
theorem dX12_isInRow_19 : decode mX12_isInRow.2.1 19 = .ok (.iconst 5, 1) := by decide +kernel
theorem dX12_isInRow_20 : decode mX12_isInRow.2.1 20 = .ok (.aload_n 0, 1) := by decide +kernel
theorem dX12_isInRow_21 : decode mX12_isInRow.2.1 21 = .ok (.getfield 289, 3) := by decide +kernel
theorem dX12_isInRow_24 : decode mX12_isInRow.2.1 24 = .ok (.imul, 1) := by decide +kernel
theorem dX12_isInRow_25 : decode mX12_isInRow.2.1 25 = .ok (.iload_n 2, 1) := by decide +kernel
theorem dX12_isInRow_26 : decode mX12_isInRow.2.1 26 = .ok (.iadd, 1) := by decide +kernel
theorem dX12_isInRow_27 : decode mX12_isInRow.2.1 27 = .ok (.iaload, 1) := by decide +kernel
theorem dX12_isInRow_28 : decode mX12_isInRow.2.1 28 = .ok (.iload_n 1, 1) := by decide +kernel
theorem dX12_isInRow_29 : decode mX12_isInRow.2.1 29 = .ok (.if_icmp .ne 5, 3) := by decide +kernel
theorem dX12_isInRow_32 : decode mX12_isInRow.2.1 32 = .ok (.iconst 1, 1) := by decide +kernel
theorem dX12_isInRow_33 : decode mX12_isInRow.2.1 33 = .ok (.ireturn, 1) := by decide +kernel
theorem dX12_isInRow_34 : decode mX12_isInRow.2.1 34 = .ok (.iinc 2 1, 3) := by decide +kernel
theorem dX12_isInRow_37 : decode mX12_isInRow.2.1 37 = .ok (.goto (-35), 3) := by decide +kernel
theorem dX12_isInRow_40 : decode mX12_isInRow.2.1 40 = .ok (.iconst 0, 1) := by decide +kernel
theorem dX12_isInRow_41 : decode mX12_isInRow.2.1 41 = .ok (.ireturn, 1) := by decide +kernel
theorem dX12_readPlan_0 : decode mX12_readPlan.2.1 0 = .ok (.aload_n 0, 1) := by decide +kernel
theorem dX12_readPlan_1 : decode mX12_readPlan.2.1 1 = .ok (.getfield 254, 3) := by decide +kernel
theorem dX12_readPlan_4 : decode mX12_readPlan.2.1 4 = .ok (.iconst 2, 1) := by decide +kernel
theorem dX12_readPlan_5 : decode mX12_readPlan.2.1 5 = .ok (.if_icmp .eq 10, 3) := by decide +kernel
theorem dX12_readPlan_8 : decode mX12_readPlan.2.1 8 = .ok (.aload_n 0, 1) := by decide +kernel
theorem dX12_readPlan_9 : decode mX12_readPlan.2.1 9 = .ok (.invokevirtual 286, 3) := by decide +kernel
theorem dX12_readPlan_12 : decode mX12_readPlan.2.1 12 = .ok (.goto 19, 3) := by decide +kernel
theorem dX12_readPlan_15 : decode mX12_readPlan.2.1 15 = .ok (.aload_n 0, 1) := by decide +kernel
theorem dX12_readPlan_16 : decode mX12_readPlan.2.1 16 = .ok (.invokevirtual 349, 3) := by decide +kernel
theorem dX12_readPlan_19 : decode mX12_readPlan.2.1 19 = .ok (.ifCond .lt 12, 3) := by decide +kernel
theorem dX12_readPlan_22 : decode mX12_readPlan.2.1 22 = .ok (.aload_n 0, 1) := by decide +kernel
theorem dX12_readPlan_23 : decode mX12_readPlan.2.1 23 = .ok (.iconst 3, 1) := by decide +kernel
theorem dX12_readPlan_24 : decode mX12_readPlan.2.1 24 = .ok (.aload_n 0, 1) := by decide +kernel
theorem dX12_readPlan_25 : decode mX12_readPlan.2.1 25 = .ok (.getfield 247, 3) := by decide +kernel
theorem dX12_readPlan_28 : decode mX12_readPlan.2.1 28 = .ok (.invokevirtual 275, 3) := by decide +kernel
theorem dX12_readPlan_31 : decode mX12_readPlan.2.1 31 = .ok (.aload_n 0, 1) := by decide +kernel
theorem dX12_readPlan_32 : decode mX12_readPlan.2.1 32 = .ok (.invokevirtual 279, 3) := by decide +kernel
theorem dX12_readPlan_35 : decode mX12_readPlan.2.1 35 = .ok (.ifCond .ne 4, 3) := by decide +kernel
theorem dX12_readPlan_38 : decode mX12_readPlan.2.1 38 = .ok (.return_, 1) := by decide +kernel
theorem dX12_readPlan_39 : decode mX12_readPlan.2.1 39 = .ok (.iconst 3, 1) := by decide +kernel
theorem dX12_readPlan_40 : decode mX12_readPlan.2.1 40 = .ok (.aload_n 0, 1) := by decide +kernel
theorem dX12_readPlan_41 : decode mX12_readPlan.2.1 41 = .ok (.getfield 289, 3) := by decide +kernel
theorem dX12_readPlan_44 : decode mX12_readPlan.2.1 44 = .ok (.imul, 1) := by decide +kernel
theorem dX12_readPlan_45 : decode mX12_readPlan.2.1 45 = .ok (.aload_n 0, 1) := by decide +kernel
theorem dX12_readPlan_46 : decode mX12_readPlan.2.1 46 = .ok (.getfield 53, 3) := by decide +kernel
theorem dX12_readPlan_49 : decode mX12_readPlan.2.1 49 = .ok (.aload_n 0, 1) := by decide +kernel
theorem dX12_readPlan_50 : decode mX12_readPlan.2.1 50 = .ok (.getfield 289, 3) := by decide +kernel
theorem dX12_readPlan_53 : decode mX12_readPlan.2.1 53 = .ok (.iaload, 1) := by decide +kernel
theorem dX12_readPlan_54 : decode mX12_readPlan.2.1 54 = .ok (.iadd, 1) := by decide +kernel
theorem dX12_readPlan_55 : decode mX12_readPlan.2.1 55 = .ok (.istore_n 1, 1) := by decide +kernel
theorem dX12_readPlan_56 : decode mX12_readPlan.2.1 56 = .ok (.aload_n 0, 1) := by decide +kernel
theorem dX12_readPlan_57 : decode mX12_readPlan.2.1 57 = .ok (.getfield 50, 3) := by decide +kernel
theorem dX12_readPlan_60 : decode mX12_readPlan.2.1 60 = .ok (.iload_n 1, 1) := by decide +kernel
theorem dX12_readPlan_61 : decode mX12_readPlan.2.1 61 = .ok (.aload_n 0, 1) := by decide +kernel
theorem dX12_readPlan_62 : decode mX12_readPlan.2.1 62 = .ok (.getfield 261, 3) := by decide +kernel
theorem dX12_readPlan_65 : decode mX12_readPlan.2.1 65 = .ok (.lastore, 1) := by decide +kernel
theorem dX12_readPlan_66 : decode mX12_readPlan.2.1 66 = .ok (.aload_n 0, 1) := by decide +kernel
theorem dX12_readPlan_67 : decode mX12_readPlan.2.1 67 = .ok (.invokevirtual 283, 3) := by decide +kernel
theorem dX12_readPlan_70 : decode mX12_readPlan.2.1 70 = .ok (.aload_n 0, 1) := by decide +kernel
theorem dX12_readPlan_71 : decode mX12_readPlan.2.1 71 = .ok (.iconst 0, 1) := by decide +kernel
theorem dX12_readPlan_72 : decode mX12_readPlan.2.1 72 = .ok (.putfield 352, 3) := by decide +kernel
theorem dX12_readPlan_75 : decode mX12_readPlan.2.1 75 = .ok (.aload_n 0, 1) := by decide +kernel
theorem dX12_readPlan_76 : decode mX12_readPlan.2.1 76 = .ok (.invokevirtual 355, 3) := by decide +kernel
theorem dX12_readPlan_79 : decode mX12_readPlan.2.1 79 = .ok (.istore_n 2, 1) := by decide +kernel
theorem dX12_readPlan_80 : decode mX12_readPlan.2.1 80 = .ok (.aload_n 0, 1) := by decide +kernel
theorem dX12_readPlan_81 : decode mX12_readPlan.2.1 81 = .ok (.invokevirtual 279, 3) := by decide +kernel
theorem dX12_readPlan_84 : decode mX12_readPlan.2.1 84 = .ok (.ifCond .eq 19, 3) := by decide +kernel
theorem dX12_readPlan_87 : decode mX12_readPlan.2.1 87 = .ok (.aload_n 0, 1) := by decide +kernel
theorem dX12_readPlan_88 : decode mX12_readPlan.2.1 88 = .ok (.getfield 352, 3) := by decide +kernel
theorem dX12_readPlan_91 : decode mX12_readPlan.2.1 91 = .ok (.ifCond .le 12, 3) := by decide +kernel
theorem dX12_readPlan_94 : decode mX12_readPlan.2.1 94 = .ok (.aload_n 0, 1) := by decide +kernel
theorem dX12_readPlan_95 : decode mX12_readPlan.2.1 95 = .ok (.iload_n 2, 1) := by decide +kernel
theorem dX12_readPlan_96 : decode mX12_readPlan.2.1 96 = .ok (.invokevirtual 358, 3) := by decide +kernel
theorem dX12_readPlan_99 : decode mX12_readPlan.2.1 99 = .ok (.istore_n 2, 1) := by decide +kernel
theorem dX12_readPlan_100 : decode mX12_readPlan.2.1 100 = .ok (.goto (-20), 3) := by decide +kernel
theorem dX12_readPlan_103 : decode mX12_readPlan.2.1 103 = .ok (.aload_n 0, 1) := by decide +kernel
theorem dX12_readPlan_104 : decode mX12_readPlan.2.1 104 = .ok (.getfield 59, 3) := by decide +kernel
theorem dX12_readPlan_107 : decode mX12_readPlan.2.1 107 = .ok (.iload_n 1, 1) := by decide +kernel
theorem dX12_readPlan_108 : decode mX12_readPlan.2.1 108 = .ok (.iload_n 2, 1) := by decide +kernel
theorem dX12_readPlan_109 : decode mX12_readPlan.2.1 109 = .ok (.iastore, 1) := by decide +kernel
theorem dX12_readPlan_110 : decode mX12_readPlan.2.1 110 = .ok (.aload_n 0, 1) := by decide +kernel
theorem dX12_readPlan_111 : decode mX12_readPlan.2.1 111 = .ok (.getfield 53, 3) := by decide +kernel
theorem dX12_readPlan_114 : decode mX12_readPlan.2.1 114 = .ok (.aload_n 0, 1) := by decide +kernel
theorem dX12_readPlan_115 : decode mX12_readPlan.2.1 115 = .ok (.getfield 289, 3) := by decide +kernel
theorem dX12_readPlan_118 : decode mX12_readPlan.2.1 118 = .ok (.dup2, 1) := by decide +kernel
theorem dX12_readPlan_119 : decode mX12_readPlan.2.1 119 = .ok (.iaload, 1) := by decide +kernel
theorem dX12_readPlan_120 : decode mX12_readPlan.2.1 120 = .ok (.iconst 1, 1) := by decide +kernel
theorem dX12_readPlan_121 : decode mX12_readPlan.2.1 121 = .ok (.iadd, 1) := by decide +kernel
theorem dX12_readPlan_122 : decode mX12_readPlan.2.1 122 = .ok (.iastore, 1) := by decide +kernel
theorem dX12_readPlan_123 : decode mX12_readPlan.2.1 123 = .ok (.return_, 1) := by decide +kernel
theorem dX12_planHere_0 : decode mX12_planHere.2.1 0 = .ok (.iconst 0, 1) := by decide +kernel
theorem dX12_planHere_1 : decode mX12_planHere.2.1 1 = .ok (.istore_n 1, 1) := by decide +kernel
theorem dX12_planHere_2 : decode mX12_planHere.2.1 2 = .ok (.iload_n 1, 1) := by decide +kernel
theorem dX12_planHere_3 : decode mX12_planHere.2.1 3 = .ok (.aload_n 0, 1) := by decide +kernel
theorem dX12_planHere_4 : decode mX12_planHere.2.1 4 = .ok (.getfield 53, 3) := by decide +kernel
theorem dX12_planHere_7 : decode mX12_planHere.2.1 7 = .ok (.aload_n 0, 1) := by decide +kernel
theorem dX12_planHere_8 : decode mX12_planHere.2.1 8 = .ok (.getfield 289, 3) := by decide +kernel
theorem dX12_planHere_11 : decode mX12_planHere.2.1 11 = .ok (.iaload, 1) := by decide +kernel
theorem dX12_planHere_12 : decode mX12_planHere.2.1 12 = .ok (.if_icmp .ge 40, 3) := by decide +kernel
theorem dX12_planHere_15 : decode mX12_planHere.2.1 15 = .ok (.aload_n 0, 1) := by decide +kernel
theorem dX12_planHere_16 : decode mX12_planHere.2.1 16 = .ok (.getfield 254, 3) := by decide +kernel
theorem dX12_planHere_19 : decode mX12_planHere.2.1 19 = .ok (.iconst 2, 1) := by decide +kernel
theorem dX12_planHere_20 : decode mX12_planHere.2.1 20 = .ok (.if_icmp .ne 26, 3) := by decide +kernel
theorem dX12_planHere_23 : decode mX12_planHere.2.1 23 = .ok (.aload_n 0, 1) := by decide +kernel
theorem dX12_planHere_24 : decode mX12_planHere.2.1 24 = .ok (.getfield 50, 3) := by decide +kernel
theorem dX12_planHere_27 : decode mX12_planHere.2.1 27 = .ok (.iconst 3, 1) := by decide +kernel
theorem dX12_planHere_28 : decode mX12_planHere.2.1 28 = .ok (.aload_n 0, 1) := by decide +kernel
theorem dX12_planHere_29 : decode mX12_planHere.2.1 29 = .ok (.getfield 289, 3) := by decide +kernel
theorem dX12_planHere_32 : decode mX12_planHere.2.1 32 = .ok (.imul, 1) := by decide +kernel
theorem dX12_planHere_33 : decode mX12_planHere.2.1 33 = .ok (.iload_n 1, 1) := by decide +kernel
theorem dX12_planHere_34 : decode mX12_planHere.2.1 34 = .ok (.iadd, 1) := by decide +kernel
theorem dX12_planHere_35 : decode mX12_planHere.2.1 35 = .ok (.laload, 1) := by decide +kernel
theorem dX12_planHere_36 : decode mX12_planHere.2.1 36 = .ok (.aload_n 0, 1) := by decide +kernel
theorem dX12_planHere_37 : decode mX12_planHere.2.1 37 = .ok (.getfield 261, 3) := by decide +kernel
theorem dX12_planHere_40 : decode mX12_planHere.2.1 40 = .ok (.lcmp, 1) := by decide +kernel
theorem dX12_planHere_41 : decode mX12_planHere.2.1 41 = .ok (.ifCond .ne 5, 3) := by decide +kernel
theorem dX12_planHere_44 : decode mX12_planHere.2.1 44 = .ok (.iload_n 1, 1) := by decide +kernel
theorem dX12_planHere_45 : decode mX12_planHere.2.1 45 = .ok (.ireturn, 1) := by decide +kernel
theorem dX12_planHere_46 : decode mX12_planHere.2.1 46 = .ok (.iinc 1 1, 3) := by decide +kernel
theorem dX12_planHere_49 : decode mX12_planHere.2.1 49 = .ok (.goto (-47), 3) := by decide +kernel
theorem dX12_planHere_52 : decode mX12_planHere.2.1 52 = .ok (.iconst (-1), 1) := by decide +kernel
theorem dX12_planHere_53 : decode mX12_planHere.2.1 53 = .ok (.ireturn, 1) := by decide +kernel
theorem dX12_readP_0 : decode mX12_readP.2.1 0 = .ok (.aload_n 0, 1) := by decide +kernel
theorem dX12_readP_1 : decode mX12_readP.2.1 1 = .ok (.invokevirtual 279, 3) := by decide +kernel
theorem dX12_readP_4 : decode mX12_readP.2.1 4 = .ok (.ifCond .eq 76, 3) := by decide +kernel
theorem dX12_readP_7 : decode mX12_readP.2.1 7 = .ok (.aload_n 0, 1) := by decide +kernel
theorem dX12_readP_8 : decode mX12_readP.2.1 8 = .ok (.ldc2_w 242, 3) := by decide +kernel
theorem dX12_readP_11 : decode mX12_readP.2.1 11 = .ok (.invokevirtual 316, 3) := by decide +kernel
theorem dX12_readP_14 : decode mX12_readP.2.1 14 = .ok (.istore_n 1, 1) := by decide +kernel
theorem dX12_readP_15 : decode mX12_readP.2.1 15 = .ok (.aload_n 0, 1) := by decide +kernel
theorem dX12_readP_16 : decode mX12_readP.2.1 16 = .ok (.getfield 352, 3) := by decide +kernel
theorem dX12_readP_19 : decode mX12_readP.2.1 19 = .ok (.bipush 10, 2) := by decide +kernel
theorem dX12_readP_21 : decode mX12_readP.2.1 21 = .ok (.if_icmp .gt 29, 3) := by decide +kernel
theorem dX12_readP_24 : decode mX12_readP.2.1 24 = .ok (.iload_n 1, 1) := by decide +kernel
theorem dX12_readP_25 : decode mX12_readP.2.1 25 = .ok (.ifCond .ne 29, 3) := by decide +kernel
theorem dX12_readP_28 : decode mX12_readP.2.1 28 = .ok (.aload_n 0, 1) := by decide +kernel
theorem dX12_readP_29 : decode mX12_readP.2.1 29 = .ok (.getfield 254, 3) := by decide +kernel
theorem dX12_readP_32 : decode mX12_readP.2.1 32 = .ok (.iconst 2, 1) := by decide +kernel
theorem dX12_readP_33 : decode mX12_readP.2.1 33 = .ok (.if_icmp .ne 17, 3) := by decide +kernel
theorem dX12_readP_36 : decode mX12_readP.2.1 36 = .ok (.aload_n 0, 1) := by decide +kernel
theorem dX12_readP_37 : decode mX12_readP.2.1 37 = .ok (.getfield 56, 3) := by decide +kernel
theorem dX12_readP_40 : decode mX12_readP.2.1 40 = .ok (.aload_n 0, 1) := by decide +kernel
theorem dX12_readP_41 : decode mX12_readP.2.1 41 = .ok (.getfield 289, 3) := by decide +kernel
theorem dX12_readP_44 : decode mX12_readP.2.1 44 = .ok (.iaload, 1) := by decide +kernel
theorem dX12_readP_45 : decode mX12_readP.2.1 45 = .ok (.bipush 60, 2) := by decide +kernel
theorem dX12_readP_47 : decode mX12_readP.2.1 47 = .ok (.if_icmp .ne 7, 3) := by decide +kernel
theorem dX12_readP_50 : decode mX12_readP.2.1 50 = .ok (.aload_n 0, 1) := by decide +kernel
theorem dX12_readP_51 : decode mX12_readP.2.1 51 = .ok (.invokevirtual 286, 3) := by decide +kernel
theorem dX12_readP_54 : decode mX12_readP.2.1 54 = .ok (.aload_n 0, 1) := by decide +kernel
theorem dX12_readP_55 : decode mX12_readP.2.1 55 = .ok (.invokevirtual 279, 3) := by decide +kernel
theorem dX12_readP_58 : decode mX12_readP.2.1 58 = .ok (.ifCond .ne 5, 3) := by decide +kernel
theorem dX12_readP_61 : decode mX12_readP.2.1 61 = .ok (.iconst (-1), 1) := by decide +kernel
theorem dX12_readP_62 : decode mX12_readP.2.1 62 = .ok (.ireturn, 1) := by decide +kernel
theorem dX12_readP_63 : decode mX12_readP.2.1 63 = .ok (.iload_n 1, 1) := by decide +kernel
theorem dX12_readP_64 : decode mX12_readP.2.1 64 = .ok (.ifCond .eq 9, 3) := by decide +kernel
theorem dX12_readP_67 : decode mX12_readP.2.1 67 = .ok (.aload_n 0, 1) := by decide +kernel
theorem dX12_readP_68 : decode mX12_readP.2.1 68 = .ok (.invokevirtual 283, 3) := by decide +kernel
theorem dX12_readP_71 : decode mX12_readP.2.1 71 = .ok (.iconst (-1), 1) := by decide +kernel
theorem dX12_readP_72 : decode mX12_readP.2.1 72 = .ok (.ireturn, 1) := by decide +kernel
theorem dX12_readP_73 : decode mX12_readP.2.1 73 = .ok (.aload_n 0, 1) := by decide +kernel
theorem dX12_readP_74 : decode mX12_readP.2.1 74 = .ok (.invokevirtual 361, 3) := by decide +kernel
theorem dX12_readP_77 : decode mX12_readP.2.1 77 = .ok (.goto (-77), 3) := by decide +kernel
theorem dX12_readP_80 : decode mX12_readP.2.1 80 = .ok (.iconst (-1), 1) := by decide +kernel
theorem dX12_readP_81 : decode mX12_readP.2.1 81 = .ok (.ireturn, 1) := by decide +kernel
theorem dX12_readTwo_0 : decode mX12_readTwo.2.1 0 = .ok (.bipush 60, 2) := by decide +kernel
theorem dX12_readTwo_2 : decode mX12_readTwo.2.1 2 = .ok (.aload_n 0, 1) := by decide +kernel
theorem dX12_readTwo_3 : decode mX12_readTwo.2.1 3 = .ok (.getfield 289, 3) := by decide +kernel
theorem dX12_readTwo_6 : decode mX12_readTwo.2.1 6 = .ok (.imul, 1) := by decide +kernel
theorem dX12_readTwo_7 : decode mX12_readTwo.2.1 7 = .ok (.aload_n 0, 1) := by decide +kernel
theorem dX12_readTwo_8 : decode mX12_readTwo.2.1 8 = .ok (.getfield 56, 3) := by decide +kernel
theorem dX12_readTwo_11 : decode mX12_readTwo.2.1 11 = .ok (.aload_n 0, 1) := by decide +kernel
theorem dX12_readTwo_12 : decode mX12_readTwo.2.1 12 = .ok (.getfield 289, 3) := by decide +kernel
theorem dX12_readTwo_15 : decode mX12_readTwo.2.1 15 = .ok (.iaload, 1) := by decide +kernel
theorem dX12_readTwo_16 : decode mX12_readTwo.2.1 16 = .ok (.iadd, 1) := by decide +kernel
theorem dX12_readTwo_17 : decode mX12_readTwo.2.1 17 = .ok (.istore_n 1, 1) := by decide +kernel
theorem dX12_readTwo_18 : decode mX12_readTwo.2.1 18 = .ok (.aload_n 0, 1) := by decide +kernel
theorem dX12_readTwo_19 : decode mX12_readTwo.2.1 19 = .ok (.getfield 62, 3) := by decide +kernel
theorem dX12_readTwo_22 : decode mX12_readTwo.2.1 22 = .ok (.iload_n 1, 1) := by decide +kernel
theorem dX12_readTwo_23 : decode mX12_readTwo.2.1 23 = .ok (.aload_n 0, 1) := by decide +kernel
theorem dX12_readTwo_24 : decode mX12_readTwo.2.1 24 = .ok (.invokevirtual 342, 3) := by decide +kernel
theorem dX12_readTwo_27 : decode mX12_readTwo.2.1 27 = .ok (.iastore, 1) := by decide +kernel
theorem dX12_readTwo_28 : decode mX12_readTwo.2.1 28 = .ok (.aload_n 0, 1) := by decide +kernel
theorem dX12_readTwo_29 : decode mX12_readTwo.2.1 29 = .ok (.getfield 62, 3) := by decide +kernel
theorem dX12_readTwo_32 : decode mX12_readTwo.2.1 32 = .ok (.iload_n 1, 1) := by decide +kernel
theorem dX12_readTwo_33 : decode mX12_readTwo.2.1 33 = .ok (.iaload, 1) := by decide +kernel
theorem dX12_readTwo_34 : decode mX12_readTwo.2.1 34 = .ok (.ifCond .ge 12, 3) := by decide +kernel
theorem dX12_readTwo_37 : decode mX12_readTwo.2.1 37 = .ok (.aload_n 0, 1) := by decide +kernel
theorem dX12_readTwo_38 : decode mX12_readTwo.2.1 38 = .ok (.iconst 5, 1) := by decide +kernel
theorem dX12_readTwo_39 : decode mX12_readTwo.2.1 39 = .ok (.aload_n 0, 1) := by decide +kernel
theorem dX12_readTwo_40 : decode mX12_readTwo.2.1 40 = .ok (.getfield 247, 3) := by decide +kernel
theorem dX12_readTwo_43 : decode mX12_readTwo.2.1 43 = .ok (.invokevirtual 275, 3) := by decide +kernel
theorem dX12_readTwo_46 : decode mX12_readTwo.2.1 46 = .ok (.aload_n 0, 1) := by decide +kernel
theorem dX12_readTwo_47 : decode mX12_readTwo.2.1 47 = .ok (.invokevirtual 279, 3) := by decide +kernel
theorem dX12_readTwo_50 : decode mX12_readTwo.2.1 50 = .ok (.ifCond .eq 7, 3) := by decide +kernel
theorem dX12_readTwo_53 : decode mX12_readTwo.2.1 53 = .ok (.aload_n 0, 1) := by decide +kernel
theorem dX12_readTwo_54 : decode mX12_readTwo.2.1 54 = .ok (.invokevirtual 283, 3) := by decide +kernel
theorem dX12_readTwo_57 : decode mX12_readTwo.2.1 57 = .ok (.aload_n 0, 1) := by decide +kernel
theorem dX12_readTwo_58 : decode mX12_readTwo.2.1 58 = .ok (.getfield 65, 3) := by decide +kernel
theorem dX12_readTwo_61 : decode mX12_readTwo.2.1 61 = .ok (.iload_n 1, 1) := by decide +kernel
theorem dX12_readTwo_62 : decode mX12_readTwo.2.1 62 = .ok (.aload_n 0, 1) := by decide +kernel
theorem dX12_readTwo_63 : decode mX12_readTwo.2.1 63 = .ok (.invokevirtual 342, 3) := by decide +kernel
theorem dX12_readTwo_66 : decode mX12_readTwo.2.1 66 = .ok (.iastore, 1) := by decide +kernel
theorem dX12_readTwo_67 : decode mX12_readTwo.2.1 67 = .ok (.aload_n 0, 1) := by decide +kernel
theorem dX12_readTwo_68 : decode mX12_readTwo.2.1 68 = .ok (.invokevirtual 279, 3) := by decide +kernel
theorem dX12_readTwo_71 : decode mX12_readTwo.2.1 71 = .ok (.ifCond .eq 15, 3) := by decide +kernel
theorem dX12_readTwo_74 : decode mX12_readTwo.2.1 74 = .ok (.aload_n 0, 1) := by decide +kernel
theorem dX12_readTwo_75 : decode mX12_readTwo.2.1 75 = .ok (.getfield 254, 3) := by decide +kernel
theorem dX12_readTwo_78 : decode mX12_readTwo.2.1 78 = .ok (.iconst 2, 1) := by decide +kernel
theorem dX12_readTwo_79 : decode mX12_readTwo.2.1 79 = .ok (.if_icmp .eq 7, 3) := by decide +kernel
theorem dX12_readTwo_82 : decode mX12_readTwo.2.1 82 = .ok (.aload_n 0, 1) := by decide +kernel
theorem dX12_readTwo_83 : decode mX12_readTwo.2.1 83 = .ok (.invokevirtual 286, 3) := by decide +kernel
theorem dX12_readTwo_86 : decode mX12_readTwo.2.1 86 = .ok (.aload_n 0, 1) := by decide +kernel
theorem dX12_readTwo_87 : decode mX12_readTwo.2.1 87 = .ok (.invokevirtual 279, 3) := by decide +kernel
theorem dX12_readTwo_90 : decode mX12_readTwo.2.1 90 = .ok (.ifCond .eq 21, 3) := by decide +kernel
theorem dX12_readTwo_93 : decode mX12_readTwo.2.1 93 = .ok (.aload_n 0, 1) := by decide +kernel
theorem dX12_readTwo_94 : decode mX12_readTwo.2.1 94 = .ok (.getfield 65, 3) := by decide +kernel
theorem dX12_readTwo_97 : decode mX12_readTwo.2.1 97 = .ok (.iload_n 1, 1) := by decide +kernel
theorem dX12_readTwo_98 : decode mX12_readTwo.2.1 98 = .ok (.iaload, 1) := by decide +kernel
theorem dX12_readTwo_99 : decode mX12_readTwo.2.1 99 = .ok (.ifCond .ge 12, 3) := by decide +kernel
theorem dX12_readTwo_102 : decode mX12_readTwo.2.1 102 = .ok (.aload_n 0, 1) := by decide +kernel
theorem dX12_readTwo_103 : decode mX12_readTwo.2.1 103 = .ok (.iconst 5, 1) := by decide +kernel
theorem dX12_readTwo_104 : decode mX12_readTwo.2.1 104 = .ok (.aload_n 0, 1) := by decide +kernel
theorem dX12_readTwo_105 : decode mX12_readTwo.2.1 105 = .ok (.getfield 247, 3) := by decide +kernel
theorem dX12_readTwo_108 : decode mX12_readTwo.2.1 108 = .ok (.invokevirtual 275, 3) := by decide +kernel
theorem dX12_readTwo_111 : decode mX12_readTwo.2.1 111 = .ok (.aload_n 0, 1) := by decide +kernel
theorem dX12_readTwo_112 : decode mX12_readTwo.2.1 112 = .ok (.invokevirtual 279, 3) := by decide +kernel
theorem dX12_readTwo_115 : decode mX12_readTwo.2.1 115 = .ok (.ifCond .eq 27, 3) := by decide +kernel
theorem dX12_readTwo_118 : decode mX12_readTwo.2.1 118 = .ok (.aload_n 0, 1) := by decide +kernel
theorem dX12_readTwo_119 : decode mX12_readTwo.2.1 119 = .ok (.getfield 65, 3) := by decide +kernel
theorem dX12_readTwo_122 : decode mX12_readTwo.2.1 122 = .ok (.iload_n 1, 1) := by decide +kernel
theorem dX12_readTwo_123 : decode mX12_readTwo.2.1 123 = .ok (.iaload, 1) := by decide +kernel
theorem dX12_readTwo_124 : decode mX12_readTwo.2.1 124 = .ok (.aload_n 0, 1) := by decide +kernel
theorem dX12_readTwo_125 : decode mX12_readTwo.2.1 125 = .ok (.getfield 62, 3) := by decide +kernel
theorem dX12_readTwo_128 : decode mX12_readTwo.2.1 128 = .ok (.iload_n 1, 1) := by decide +kernel
theorem dX12_readTwo_129 : decode mX12_readTwo.2.1 129 = .ok (.iaload, 1) := by decide +kernel
theorem dX12_readTwo_130 : decode mX12_readTwo.2.1 130 = .ok (.if_icmp .ne 12, 3) := by decide +kernel
theorem dX12_readTwo_133 : decode mX12_readTwo.2.1 133 = .ok (.aload_n 0, 1) := by decide +kernel
theorem dX12_readTwo_134 : decode mX12_readTwo.2.1 134 = .ok (.iconst 3, 1) := by decide +kernel
theorem dX12_readTwo_135 : decode mX12_readTwo.2.1 135 = .ok (.aload_n 0, 1) := by decide +kernel
theorem dX12_readTwo_136 : decode mX12_readTwo.2.1 136 = .ok (.getfield 247, 3) := by decide +kernel
theorem dX12_readTwo_139 : decode mX12_readTwo.2.1 139 = .ok (.invokevirtual 275, 3) := by decide +kernel
theorem dX12_readTwo_142 : decode mX12_readTwo.2.1 142 = .ok (.aload_n 0, 1) := by decide +kernel
theorem dX12_readTwo_143 : decode mX12_readTwo.2.1 143 = .ok (.invokevirtual 279, 3) := by decide +kernel
theorem dX12_readTwo_146 : decode mX12_readTwo.2.1 146 = .ok (.ifCond .eq 7, 3) := by decide +kernel
theorem dX12_readTwo_149 : decode mX12_readTwo.2.1 149 = .ok (.aload_n 0, 1) := by decide +kernel
theorem dX12_readTwo_150 : decode mX12_readTwo.2.1 150 = .ok (.invokevirtual 283, 3) := by decide +kernel
theorem dX12_readTwo_153 : decode mX12_readTwo.2.1 153 = .ok (.aload_n 0, 1) := by decide +kernel
theorem dX12_readTwo_154 : decode mX12_readTwo.2.1 154 = .ok (.aload_n 0, 1) := by decide +kernel
theorem dX12_readTwo_155 : decode mX12_readTwo.2.1 155 = .ok (.bipush 40, 2) := by decide +kernel
theorem dX12_readTwo_157 : decode mX12_readTwo.2.1 157 = .ok (.invokevirtual 335, 3) := by decide +kernel
theorem dX12_readTwo_160 : decode mX12_readTwo.2.1 160 = .ok (.invokevirtual 338, 3) := by decide +kernel
theorem dX12_readTwo_163 : decode mX12_readTwo.2.1 163 = .ok (.aload_n 0, 1) := by decide +kernel
theorem dX12_readTwo_164 : decode mX12_readTwo.2.1 164 = .ok (.invokevirtual 279, 3) := by decide +kernel
theorem dX12_readTwo_167 : decode mX12_readTwo.2.1 167 = .ok (.ifCond .ne 4, 3) := by decide +kernel
theorem dX12_readTwo_170 : decode mX12_readTwo.2.1 170 = .ok (.return_, 1) := by decide +kernel
theorem dX12_readTwo_171 : decode mX12_readTwo.2.1 171 = .ok (.aload_n 0, 1) := by decide +kernel
theorem dX12_readTwo_172 : decode mX12_readTwo.2.1 172 = .ok (.getfield 56, 3) := by decide +kernel
theorem dX12_readTwo_175 : decode mX12_readTwo.2.1 175 = .ok (.aload_n 0, 1) := by decide +kernel
theorem dX12_readTwo_176 : decode mX12_readTwo.2.1 176 = .ok (.getfield 289, 3) := by decide +kernel
theorem dX12_readTwo_179 : decode mX12_readTwo.2.1 179 = .ok (.dup2, 1) := by decide +kernel
theorem dX12_readTwo_180 : decode mX12_readTwo.2.1 180 = .ok (.iaload, 1) := by decide +kernel
theorem dX12_readTwo_181 : decode mX12_readTwo.2.1 181 = .ok (.iconst 1, 1) := by decide +kernel
theorem dX12_readTwo_182 : decode mX12_readTwo.2.1 182 = .ok (.iadd, 1) := by decide +kernel
theorem dX12_readTwo_183 : decode mX12_readTwo.2.1 183 = .ok (.iastore, 1) := by decide +kernel
theorem dX12_readTwo_184 : decode mX12_readTwo.2.1 184 = .ok (.iconst 0, 1) := by decide +kernel
theorem dX12_readTwo_185 : decode mX12_readTwo.2.1 185 = .ok (.istore_n 2, 1) := by decide +kernel
theorem dX12_readTwo_186 : decode mX12_readTwo.2.1 186 = .ok (.iload_n 2, 1) := by decide +kernel
theorem dX12_readTwo_187 : decode mX12_readTwo.2.1 187 = .ok (.iconst 3, 1) := by decide +kernel
theorem dX12_readTwo_188 : decode mX12_readTwo.2.1 188 = .ok (.if_icmp .ge 20, 3) := by decide +kernel
theorem dX12_readTwo_191 : decode mX12_readTwo.2.1 191 = .ok (.aload_n 0, 1) := by decide +kernel
theorem dX12_readTwo_192 : decode mX12_readTwo.2.1 192 = .ok (.getfield 68, 3) := by decide +kernel
theorem dX12_readTwo_195 : decode mX12_readTwo.2.1 195 = .ok (.iconst 3, 1) := by decide +kernel
theorem dX12_readTwo_196 : decode mX12_readTwo.2.1 196 = .ok (.iload_n 1, 1) := by decide +kernel
theorem dX12_readTwo_197 : decode mX12_readTwo.2.1 197 = .ok (.imul, 1) := by decide +kernel
theorem dX12_readTwo_198 : decode mX12_readTwo.2.1 198 = .ok (.iload_n 2, 1) := by decide +kernel
theorem dX12_readTwo_199 : decode mX12_readTwo.2.1 199 = .ok (.iadd, 1) := by decide +kernel
theorem dX12_readTwo_200 : decode mX12_readTwo.2.1 200 = .ok (.iconst (-1), 1) := by decide +kernel
theorem dX12_readTwo_201 : decode mX12_readTwo.2.1 201 = .ok (.iastore, 1) := by decide +kernel
theorem dX12_readTwo_202 : decode mX12_readTwo.2.1 202 = .ok (.iinc 2 1, 3) := by decide +kernel
theorem dX12_readTwo_205 : decode mX12_readTwo.2.1 205 = .ok (.goto (-19), 3) := by decide +kernel
theorem dX12_readTwo_208 : decode mX12_readTwo.2.1 208 = .ok (.aload_n 0, 1) := by decide +kernel
theorem dX12_readTwo_209 : decode mX12_readTwo.2.1 209 = .ok (.getfield 71, 3) := by decide +kernel
theorem dX12_readTwo_212 : decode mX12_readTwo.2.1 212 = .ok (.aload_n 0, 1) := by decide +kernel
theorem dX12_readTwo_213 : decode mX12_readTwo.2.1 213 = .ok (.getfield 352, 3) := by decide +kernel
theorem dX12_readTwo_216 : decode mX12_readTwo.2.1 216 = .ok (.iload_n 1, 1) := by decide +kernel
theorem dX12_readTwo_217 : decode mX12_readTwo.2.1 217 = .ok (.iastore, 1) := by decide +kernel
theorem dX12_readTwo_218 : decode mX12_readTwo.2.1 218 = .ok (.aload_n 0, 1) := by decide +kernel
theorem dX12_readTwo_219 : decode mX12_readTwo.2.1 219 = .ok (.getfield 74, 3) := by decide +kernel
theorem dX12_readTwo_222 : decode mX12_readTwo.2.1 222 = .ok (.aload_n 0, 1) := by decide +kernel
theorem dX12_readTwo_223 : decode mX12_readTwo.2.1 223 = .ok (.getfield 352, 3) := by decide +kernel
theorem dX12_readTwo_226 : decode mX12_readTwo.2.1 226 = .ok (.iconst 0, 1) := by decide +kernel
theorem dX12_readTwo_227 : decode mX12_readTwo.2.1 227 = .ok (.iastore, 1) := by decide +kernel
theorem dX12_readTwo_228 : decode mX12_readTwo.2.1 228 = .ok (.aload_n 0, 1) := by decide +kernel
theorem dX12_readTwo_229 : decode mX12_readTwo.2.1 229 = .ok (.dup, 1) := by decide +kernel
theorem dX12_readTwo_230 : decode mX12_readTwo.2.1 230 = .ok (.getfield 352, 3) := by decide +kernel
theorem dX12_readTwo_233 : decode mX12_readTwo.2.1 233 = .ok (.iconst 1, 1) := by decide +kernel
theorem dX12_readTwo_234 : decode mX12_readTwo.2.1 234 = .ok (.iadd, 1) := by decide +kernel
theorem dX12_readTwo_235 : decode mX12_readTwo.2.1 235 = .ok (.putfield 352, 3) := by decide +kernel
theorem dX12_readTwo_238 : decode mX12_readTwo.2.1 238 = .ok (.return_, 1) := by decide +kernel
theorem dX12_isSignHere_0 : decode mX12_isSignHere.2.1 0 = .ok (.aload_n 0, 1) := by decide +kernel
theorem dX12_isSignHere_1 : decode mX12_isSignHere.2.1 1 = .ok (.getfield 254, 3) := by decide +kernel
theorem dX12_isSignHere_4 : decode mX12_isSignHere.2.1 4 = .ok (.iconst 5, 1) := by decide +kernel
theorem dX12_isSignHere_5 : decode mX12_isSignHere.2.1 5 = .ok (.if_icmp .ne 19, 3) := by decide +kernel
theorem dX12_isSignHere_8 : decode mX12_isSignHere.2.1 8 = .ok (.aload_n 0, 1) := by decide +kernel
theorem dX12_isSignHere_9 : decode mX12_isSignHere.2.1 9 = .ok (.aload_n 0, 1) := by decide +kernel
theorem dX12_isSignHere_10 : decode mX12_isSignHere.2.1 10 = .ok (.getfield 247, 3) := by decide +kernel
theorem dX12_isSignHere_13 : decode mX12_isSignHere.2.1 13 = .ok (.invokevirtual 250, 3) := by decide +kernel
theorem dX12_isSignHere_16 : decode mX12_isSignHere.2.1 16 = .ok (.iload_n 1, 1) := by decide +kernel
theorem dX12_isSignHere_17 : decode mX12_isSignHere.2.1 17 = .ok (.if_icmp .ne 7, 3) := by decide +kernel
theorem dX12_isSignHere_20 : decode mX12_isSignHere.2.1 20 = .ok (.iconst 1, 1) := by decide +kernel
theorem dX12_isSignHere_21 : decode mX12_isSignHere.2.1 21 = .ok (.goto 4, 3) := by decide +kernel
theorem dX12_isSignHere_24 : decode mX12_isSignHere.2.1 24 = .ok (.iconst 0, 1) := by decide +kernel
theorem dX12_isSignHere_25 : decode mX12_isSignHere.2.1 25 = .ok (.ireturn, 1) := by decide +kernel
theorem bX12_clearBank_0 {d : Nat} {g : xSt} {r : Option Value × xSt}  (W : xWf g) (hi9 : vp_in (xI g 113 31) 2) (hi19 : vp_in (xI g 113 31) 2) (hi29 : vp_in (xI g 113 31) 2) (hi39 : vp_in (xI g 113 31) 2) (hi49 : vp_in (xI g 113 31) 2) (hi59 : vp_in (xI g 113 31) 2) (hi69 : vp_in (xI g 113 31) 2) (k : xX d mX12_clearBank 70 [some (.ref 113)] [] (xWI (xWI (xWI (xWI (xWI (xWI (xWI g 116 (xI g 113 31).toNatClampNeg 0) 117 (xI g 113 31).toNatClampNeg 0) 118 (xI g 113 31).toNatClampNeg 0) 121 (xI g 113 31).toNatClampNeg 0) 122 (xI g 113 31).toNatClampNeg 0) 123 (xI g 113 31).toNatClampNeg 0) 126 (xI g 113 31).toNatClampNeg 0) = some r) : xX d mX12_clearBank 0 [some (.ref 113)] [] g = some r :=
  Y_aload_n dX12_clearBank_0 rfl <| Y_getR dX12_clearBank_1 f_11_20 (by rw [ft_11_11]; rfl) (xis W 113 11 s_113 (Nat.le_of_ble_eq_true rfl)) (xptr W 113 11 p_113_11) <| Y_aload_n dX12_clearBank_4 rfl <| Y_getI dX12_clearBank_5 f_11_289 ft_11_31 (xis W 113 11 s_113 (Nat.le_of_ble_eq_true rfl)) <| Y_iconst 0 dX12_clearBank_8 ic_0 <| Y_iast dX12_clearBank_9 (xarr W (o := 116) s_116 (Nat.le_of_ble_eq_true rfl)) hi9 <| Y_aload_n dX12_clearBank_10 rfl <| Y_getR dX12_clearBank_11 f_11_24 (by rw [ft_11_12]; rfl) (xis W 113 11 s_113 (Nat.le_of_ble_eq_true rfl)) (xptr W 113 12 p_113_12) <| Y_aload_n dX12_clearBank_14 rfl <| Y_getI dX12_clearBank_15 f_11_289 ft_11_31 (xis W 113 11 s_113 (Nat.le_of_ble_eq_true rfl)) <| Y_iconst 0 dX12_clearBank_18 ic_0 <| Y_iast dX12_clearBank_19 (xarr W (o := 117) s_117 (Nat.le_of_ble_eq_true rfl)) hi19 <| Y_aload_n dX12_clearBank_20 rfl <| Y_getR dX12_clearBank_21 f_11_27 (by rw [ft_11_13]; rfl) (xis W 113 11 s_113 (Nat.le_of_ble_eq_true rfl)) (xptr W 113 13 p_113_13) <| Y_aload_n dX12_clearBank_24 rfl <| Y_getI dX12_clearBank_25 f_11_289 ft_11_31 (xis W 113 11 s_113 (Nat.le_of_ble_eq_true rfl)) <| Y_iconst 0 dX12_clearBank_28 ic_0 <| Y_iast dX12_clearBank_29 (xarr W (o := 118) s_118 (Nat.le_of_ble_eq_true rfl)) hi29 <| Y_aload_n dX12_clearBank_30 rfl <| Y_getR dX12_clearBank_31 f_11_36 (by rw [ft_11_16]; rfl) (xis W 113 11 s_113 (Nat.le_of_ble_eq_true rfl)) (xptr W 113 16 p_113_16) <| Y_aload_n dX12_clearBank_34 rfl <| Y_getI dX12_clearBank_35 f_11_289 ft_11_31 (xis W 113 11 s_113 (Nat.le_of_ble_eq_true rfl)) <| Y_iconst 0 dX12_clearBank_38 ic_0 <| Y_zast dX12_clearBank_39 (xarr W (o := 121) s_121 (Nat.le_of_ble_eq_true rfl)) hi39 (by decide) <| Y_aload_n dX12_clearBank_40 rfl <| Y_getR dX12_clearBank_41 f_11_40 (by rw [ft_11_17]; rfl) (xis W 113 11 s_113 (Nat.le_of_ble_eq_true rfl)) (xptr W 113 17 p_113_17) <| Y_aload_n dX12_clearBank_44 rfl <| Y_getI dX12_clearBank_45 f_11_289 ft_11_31 (xis W 113 11 s_113 (Nat.le_of_ble_eq_true rfl)) <| Y_iconst 0 dX12_clearBank_48 ic_0 <| Y_zast dX12_clearBank_49 (xarr W (o := 122) s_122 (Nat.le_of_ble_eq_true rfl)) hi49 (by decide) <| Y_aload_n dX12_clearBank_50 rfl <| Y_getR dX12_clearBank_51 f_11_43 (by rw [ft_11_18]; rfl) (xis W 113 11 s_113 (Nat.le_of_ble_eq_true rfl)) (xptr W 113 18 p_113_18) <| Y_aload_n dX12_clearBank_54 rfl <| Y_getI dX12_clearBank_55 f_11_289 ft_11_31 (xis W 113 11 s_113 (Nat.le_of_ble_eq_true rfl)) <| Y_iconst 0 dX12_clearBank_58 ic_0 <| Y_zast dX12_clearBank_59 (xarr W (o := 123) s_123 (Nat.le_of_ble_eq_true rfl)) hi59 (by decide) <| Y_aload_n dX12_clearBank_60 rfl <| Y_getR dX12_clearBank_61 f_11_53 (by rw [ft_11_21]; rfl) (xis W 113 11 s_113 (Nat.le_of_ble_eq_true rfl)) (xptr W 113 21 p_113_21) <| Y_aload_n dX12_clearBank_64 rfl <| Y_getI dX12_clearBank_65 f_11_289 ft_11_31 (xis W 113 11 s_113 (Nat.le_of_ble_eq_true rfl)) <| Y_iconst 0 dX12_clearBank_68 ic_0 <| Y_iast dX12_clearBank_69 (xarr W (o := 126) s_126 (Nat.le_of_ble_eq_true rfl)) hi69 <| X_le (xle_s xle_0) k
theorem bX12_clearBank_70 {d : Nat} {g : xSt} {r : Option Value × xSt}  (W : xWf g) (hi79 : vp_in (xI g 113 31) 2) (k : r = (none, xWI g 127 (xI g 113 31).toNatClampNeg 0)) : xX d mX12_clearBank 70 [some (.ref 113)] [] g = some r :=
  Y_aload_n dX12_clearBank_70 rfl <| Y_getR dX12_clearBank_71 f_11_56 (by rw [ft_11_22]; rfl) (xis W 113 11 s_113 (Nat.le_of_ble_eq_true rfl)) (xptr W 113 22 p_113_22) <| Y_aload_n dX12_clearBank_74 rfl <| Y_getI dX12_clearBank_75 f_11_289 ft_11_31 (xis W 113 11 s_113 (Nat.le_of_ble_eq_true rfl)) <| Y_iconst 0 dX12_clearBank_78 ic_0 <| Y_iast dX12_clearBank_79 (xarr W (o := 127) s_127 (Nat.le_of_ble_eq_true rfl)) hi79 <| Y_ret dX12_clearBank_80 rfl k
theorem bX12_layOrders_0 {d : Nat} {g : xSt} {r : Option Value × xSt}  (W : xWf g) (k : xX (d + 1) mX12_layOrders 9 [some (.ref 113), some (.int 1), some (.int 0), none, none] [] (xWI g 113 34 0) = some r) : xX (d + 1) mX12_layOrders 0 [some (.ref 113), none, none, none, none] [] g = some r :=
  Y_aload_n dX12_layOrders_0 rfl <| Y_iconst 0 dX12_layOrders_1 ic_0 <| Y_putI dX12_layOrders_2 f_11_371 fn_11_34 ft_11_34 (xis W 113 11 s_113 (Nat.le_of_ble_eq_true rfl)) <| Y_iconst 1 dX12_layOrders_5 ic_1 <| Y_istore_n dX12_layOrders_6 rfl rfl <| Y_iconst 0 dX12_layOrders_7 ic_0 <| Y_istore_n dX12_layOrders_8 rfl rfl <| X_le (xle_s (xle_s (xle_s (xle_n (xle_n xle_0))))) k
theorem bX12_layOrders_9 {d : Nat} {g : xSt} {r : Option Value × xSt} {a1 a2 r11 : Int32} {g11 : xSt} (W : xWf g) (hk11 : xCallM d mX12_thingMany [.ref 113] g = some (some (.int r11), g11)) (W11 : xWf g11) (k1 : r11 ≤ a2 → xX (d + 1) mX12_layOrders 27 [some (.ref 113), some (.int a1), none, none, none] [] g11 = some r) (k2 : ¬ (r11 ≤ a2) → xX (d + 1) mX12_layOrders 17 [some (.ref 113), some (.int a1), some (.int a2), none, none] [] g11 = some r) : xX (d + 1) mX12_layOrders 9 [some (.ref 113), some (.int a1), some (.int a2), none, none] [] g = some r :=
  Y_iload_n dX12_layOrders_9 rfl <| Y_aload_n dX12_layOrders_10 rfl <| Y_callV1 dX12_layOrders_11 cl_11_364 rfl rfl (xis W 113 11 s_113 (Nat.le_of_ble_eq_true rfl)) rfl rfl rfl (hk11) <| Y_ge 27 dX12_layOrders_14 rfl (fun q => X_le (xle_s (xle_s (xle_n (xle_n (xle_n xle_0))))) (k1 q)) (fun q => X_le (xle_s (xle_s (xle_s (xle_n (xle_n xle_0))))) (k2 q))
theorem bX12_layOrders_17 {d : Nat} {g : xSt} {r : Option Value × xSt} {a1 a2 : Int32} (k : xX (d + 1) mX12_layOrders 9 [some (.ref 113), some (.int (a1 * 5)), some (.int (a2 + 1)), none, none] [] g = some r) : xX (d + 1) mX12_layOrders 17 [some (.ref 113), some (.int a1), some (.int a2), none, none] [] g = some r :=
  Y_iload_n dX12_layOrders_17 rfl <| Y_iconst 5 dX12_layOrders_18 ic_5 <| Y_imul dX12_layOrders_19 <| Y_istore_n dX12_layOrders_20 rfl rfl <| Y_iinc 1 dX12_layOrders_21 rfl ic_1 rfl rfl <| Y_goto 9 dX12_layOrders_24 rfl <| X_le (xle_s (xle_s (xle_s (xle_n (xle_n xle_0))))) k
theorem bX12_layOrders_27 {d : Nat} {g : xSt} {r : Option Value × xSt} {a1 : Int32} (k : xX (d + 1) mX12_layOrders 29 [some (.ref 113), some (.int a1), some (.int 0), none, none] [] g = some r) : xX (d + 1) mX12_layOrders 27 [some (.ref 113), some (.int a1), none, none, none] [] g = some r :=
  Y_iconst 0 dX12_layOrders_27 ic_0 <| Y_istore_n dX12_layOrders_28 rfl rfl <| X_le (xle_s (xle_s (xle_s (xle_n (xle_n xle_0))))) k
theorem bX12_layOrders_29 {d : Nat} {g : xSt} {r : Option Value × xSt} {a1 a2 : Int32} (k1 : a1 ≤ a2 → xX (d + 1) mX12_layOrders 134 [none, none, none, none, none] [] g = some r) (k2 : ¬ (a1 ≤ a2) → xX (d + 1) mX12_layOrders 34 [some (.ref 113), some (.int a1), some (.int a2), none, none] [] g = some r) : xX (d + 1) mX12_layOrders 29 [some (.ref 113), some (.int a1), some (.int a2), none, none] [] g = some r :=
  Y_iload_n dX12_layOrders_29 rfl <| Y_iload_n dX12_layOrders_30 rfl <| Y_ge 134 dX12_layOrders_31 rfl (fun q => X_le (xle_n (xle_n (xle_n (xle_n (xle_n xle_0))))) (k1 q)) (fun q => X_le (xle_s (xle_s (xle_s (xle_n (xle_n xle_0))))) (k2 q))
theorem bX12_layOrders_34 {d : Nat} {g : xSt} {r : Option Value × xSt} {a1 a2 r37 : Int32} {g37 : xSt} (W : xWf g) (hk37 : xCallM d mX12_thingMany [.ref 113] g = some (some (.int r37), g37)) (W37 : xWf g37) (k : xX (d + 1) mX12_layOrders 44 [some (.ref 113), some (.int a1), some (.int a2), some (.int a2), some (.int (r37 - 1))] [] g37 = some r) : xX (d + 1) mX12_layOrders 34 [some (.ref 113), some (.int a1), some (.int a2), none, none] [] g = some r :=
  Y_iload_n dX12_layOrders_34 rfl <| Y_istore_n dX12_layOrders_35 rfl rfl <| Y_aload_n dX12_layOrders_36 rfl <| Y_callV1 dX12_layOrders_37 cl_11_364 rfl rfl (xis W 113 11 s_113 (Nat.le_of_ble_eq_true rfl)) rfl rfl rfl (hk37) <| Y_iconst 1 dX12_layOrders_40 ic_1 <| Y_isub dX12_layOrders_41 <| Y_istore dX12_layOrders_42 rfl rfl <| X_le (xle_s (xle_s (xle_s (xle_s (xle_s xle_0))))) k
theorem bX12_layOrders_44 {d : Nat} {g : xSt} {r : Option Value × xSt} {a1 a2 a3 a4 : Int32} (k1 : a4 < 0 → xX (d + 1) mX12_layOrders 69 [some (.ref 113), some (.int a1), some (.int a2), none, none] [] g = some r) (k2 : ¬ (a4 < 0) → xX (d + 1) mX12_layOrders 49 [some (.ref 113), some (.int a1), some (.int a2), some (.int a3), some (.int a4)] [] g = some r) : xX (d + 1) mX12_layOrders 44 [some (.ref 113), some (.int a1), some (.int a2), some (.int a3), some (.int a4)] [] g = some r :=
  Y_iload dX12_layOrders_44 rfl <| Y_lt0 69 dX12_layOrders_46 rfl (fun q => X_le (xle_s (xle_s (xle_s (xle_n (xle_n xle_0))))) (k1 q)) (fun q => X_le (xle_s (xle_s (xle_s (xle_s (xle_s xle_0))))) (k2 q))
theorem bX12_layOrders_49 {d : Nat} {g : xSt} {r : Option Value × xSt} {a1 a2 a3 a4 : Int32} (W : xWf g) (hi58 : vp_in a4 5) (k : xX (d + 1) mX12_layOrders 44 [some (.ref 113), some (.int a1), some (.int a2), some (.int (a3 / 5)), some (.int (a4 + (-1)))] [] (xWI g 135 a4.toNatClampNeg (a3 - a3 / 5 * 5)) = some r) : xX (d + 1) mX12_layOrders 49 [some (.ref 113), some (.int a1), some (.int a2), some (.int a3), some (.int a4)] [] g = some r :=
  Y_aload_n dX12_layOrders_49 rfl <| Y_getR dX12_layOrders_50 f_11_80 (by rw [ft_11_33]; rfl) (xis W 113 11 s_113 (Nat.le_of_ble_eq_true rfl)) (xptr W 113 33 p_113_33) <| Y_iload dX12_layOrders_53 rfl <| Y_iload_n dX12_layOrders_55 rfl <| Y_iconst 5 dX12_layOrders_56 ic_5 <| Y_irem dX12_layOrders_57 (by decide) <| Y_iast dX12_layOrders_58 (xarr W (o := 135) s_135 (Nat.le_of_ble_eq_true rfl)) hi58 <| Y_iload_n dX12_layOrders_59 rfl <| Y_iconst 5 dX12_layOrders_60 ic_5 <| Y_idiv dX12_layOrders_61 (by decide) <| Y_istore_n dX12_layOrders_62 rfl rfl <| Y_iinc (-1) dX12_layOrders_63 rfl ic_m1 rfl rfl <| Y_goto 44 dX12_layOrders_66 rfl <| X_le (xle_s (xle_s (xle_s (xle_s (xle_s xle_0))))) k
theorem bX12_layOrders_69 {d : Nat} {g : xSt} {r : Option Value × xSt} {a1 a2 r70 : Int32} {g70 : xSt} (W : xWf g) (hk70 : xCallM d mX12_isOrder [.ref 113] g = some (some (.int r70), g70)) (W70 : xWf g70) (k1 : r70 = 0 → xX (d + 1) mX12_layOrders 76 [some (.ref 113), some (.int a1), some (.int a2), none, none] [] g70 = some r) (k2 : ¬ (r70 = 0) → xX (d + 1) mX12_layOrders 79 [some (.ref 113), some (.int a1), some (.int a2), none, none] [] g70 = some r) : xX (d + 1) mX12_layOrders 69 [some (.ref 113), some (.int a1), some (.int a2), none, none] [] g = some r :=
  Y_aload_n dX12_layOrders_69 rfl <| Y_callV1 dX12_layOrders_70 cl_11_374 rfl rfl (xis W 113 11 s_113 (Nat.le_of_ble_eq_true rfl)) rfl rfl rfl (hk70) <| Y_ne0 79 dX12_layOrders_73 rfl (fun q => X_le (xle_s (xle_s (xle_s (xle_n (xle_n xle_0))))) (k1 q)) (fun q => X_le (xle_s (xle_s (xle_s (xle_n (xle_n xle_0))))) (k2 q))
theorem bX12_layOrders_76 {d : Nat} {g : xSt} {r : Option Value × xSt} {a1 a2 : Int32} (k : xX (d + 1) mX12_layOrders 128 [some (.ref 113), some (.int a1), some (.int a2), none, none] [] g = some r) : xX (d + 1) mX12_layOrders 76 [some (.ref 113), some (.int a1), some (.int a2), none, none] [] g = some r :=
  Y_goto 128 dX12_layOrders_76 rfl <| X_le (xle_s (xle_s (xle_s (xle_n (xle_n xle_0))))) k
theorem bX12_layOrders_79 {d : Nat} {g : xSt} {r : Option Value × xSt} {a1 a2 : Int32} (k : xX (d + 1) mX12_layOrders 82 [some (.ref 113), some (.int a1), some (.int a2), none, some (.int 0)] [] g = some r) : xX (d + 1) mX12_layOrders 79 [some (.ref 113), some (.int a1), some (.int a2), none, none] [] g = some r :=
  Y_iconst 0 dX12_layOrders_79 ic_0 <| Y_istore dX12_layOrders_80 rfl rfl <| X_le (xle_s (xle_s (xle_s (xle_n (xle_s xle_0))))) k
theorem bX12_layOrders_82 {d : Nat} {g : xSt} {r : Option Value × xSt} {a1 a2 a4 r85 : Int32} {g85 : xSt} (W : xWf g) (hk85 : xCallM d mX12_thingMany [.ref 113] g = some (some (.int r85), g85)) (W85 : xWf g85) (k1 : r85 ≤ a4 → xX (d + 1) mX12_layOrders 118 [some (.ref 113), some (.int a1), some (.int a2), none, none] [] g85 = some r) (k2 : ¬ (r85 ≤ a4) → xX (d + 1) mX12_layOrders 91 [some (.ref 113), some (.int a1), some (.int a2), none, some (.int a4)] [] g85 = some r) : xX (d + 1) mX12_layOrders 82 [some (.ref 113), some (.int a1), some (.int a2), none, some (.int a4)] [] g = some r :=
  Y_iload dX12_layOrders_82 rfl <| Y_aload_n dX12_layOrders_84 rfl <| Y_callV1 dX12_layOrders_85 cl_11_364 rfl rfl (xis W 113 11 s_113 (Nat.le_of_ble_eq_true rfl)) rfl rfl rfl (hk85) <| Y_ge 118 dX12_layOrders_88 rfl (fun q => X_le (xle_s (xle_s (xle_s (xle_n (xle_n xle_0))))) (k1 q)) (fun q => X_le (xle_s (xle_s (xle_s (xle_n (xle_s xle_0))))) (k2 q))
theorem bX12_layOrders_91 {d : Nat} {g : xSt} {r : Option Value × xSt} {a1 a2 a4 : Int32} (W : xWf g) (hi110 : vp_in a4 5) (hi111 : vp_in ((5 * (xI g 113 34)) + a4) 2705) (k : xX (d + 1) mX12_layOrders 82 [some (.ref 113), some (.int a1), some (.int a2), none, some (.int (a4 + 1))] [] (xWI g 134 ((5 * (xI g 113 34)) + a4).toNatClampNeg (xI g 135 a4.toNatClampNeg)) = some r) : xX (d + 1) mX12_layOrders 91 [some (.ref 113), some (.int a1), some (.int a2), none, some (.int a4)] [] g = some r :=
  Y_aload_n dX12_layOrders_91 rfl <| Y_getR dX12_layOrders_92 f_11_77 (by rw [ft_11_32]; rfl) (xis W 113 11 s_113 (Nat.le_of_ble_eq_true rfl)) (xptr W 113 32 p_113_32) <| Y_iconst 5 dX12_layOrders_95 ic_5 <| Y_aload_n dX12_layOrders_96 rfl <| Y_getI dX12_layOrders_97 f_11_371 ft_11_34 (xis W 113 11 s_113 (Nat.le_of_ble_eq_true rfl)) <| Y_imul dX12_layOrders_100 <| Y_iload dX12_layOrders_101 rfl <| Y_iadd dX12_layOrders_103 <| Y_aload_n dX12_layOrders_104 rfl <| Y_getR dX12_layOrders_105 f_11_80 (by rw [ft_11_33]; rfl) (xis W 113 11 s_113 (Nat.le_of_ble_eq_true rfl)) (xptr W 113 33 p_113_33) <| Y_iload dX12_layOrders_108 rfl <| Y_iald dX12_layOrders_110 (xarr W (o := 135) s_135 (Nat.le_of_ble_eq_true rfl)) hi110 <| Y_iast dX12_layOrders_111 (xarr W (o := 134) s_134 (Nat.le_of_ble_eq_true rfl)) hi111 <| Y_iinc 1 dX12_layOrders_112 rfl ic_1 rfl rfl <| Y_goto 82 dX12_layOrders_115 rfl <| X_le (xle_s (xle_s (xle_s (xle_n (xle_s xle_0))))) k
theorem bX12_layOrders_118 {d : Nat} {g : xSt} {r : Option Value × xSt} {a1 a2 : Int32} (W : xWf g) (k : xX (d + 1) mX12_layOrders 128 [some (.ref 113), some (.int a1), some (.int a2), none, none] [] (xWI g 113 34 ((xI g 113 34) + 1)) = some r) : xX (d + 1) mX12_layOrders 118 [some (.ref 113), some (.int a1), some (.int a2), none, none] [] g = some r :=
  Y_aload_n dX12_layOrders_118 rfl <| Y_dup dX12_layOrders_119 rfl <| Y_getI dX12_layOrders_120 f_11_371 ft_11_34 (xis W 113 11 s_113 (Nat.le_of_ble_eq_true rfl)) <| Y_iconst 1 dX12_layOrders_123 ic_1 <| Y_iadd dX12_layOrders_124 <| Y_putI dX12_layOrders_125 f_11_371 fn_11_34 ft_11_34 (xis W 113 11 s_113 (Nat.le_of_ble_eq_true rfl)) <| X_le (xle_s (xle_s (xle_s (xle_n (xle_n xle_0))))) k
theorem bX12_layOrders_128 {d : Nat} {g : xSt} {r : Option Value × xSt} {a1 a2 : Int32} (k : xX (d + 1) mX12_layOrders 29 [some (.ref 113), some (.int a1), some (.int (a2 + 1)), none, none] [] g = some r) : xX (d + 1) mX12_layOrders 128 [some (.ref 113), some (.int a1), some (.int a2), none, none] [] g = some r :=
  Y_iinc 1 dX12_layOrders_128 rfl ic_1 rfl rfl <| Y_goto 29 dX12_layOrders_131 rfl <| X_le (xle_s (xle_s (xle_s (xle_n (xle_n xle_0))))) k
theorem bX12_layOrders_134 {d : Nat} {g : xSt} {r : Option Value × xSt}  (k : r = (none, g)) : xX (d + 1) mX12_layOrders 134 [none, none, none, none, none] [] g = some r :=
  Y_ret dX12_layOrders_134 rfl k
theorem bX12_thingMany_0 {d : Nat} {g : xSt} {r : Option Value × xSt}  (W : xWf g) (hi8 : vp_in (xI g 113 30) 2) (k : r = (some (.int (xI g 116 (xI g 113 30).toNatClampNeg)), g)) : xX d mX12_thingMany 0 [some (.ref 113)] [] g = some r :=
  Y_aload_n dX12_thingMany_0 rfl <| Y_getR dX12_thingMany_1 f_11_20 (by rw [ft_11_11]; rfl) (xis W 113 11 s_113 (Nat.le_of_ble_eq_true rfl)) (xptr W 113 11 p_113_11) <| Y_aload_n dX12_thingMany_4 rfl <| Y_getI dX12_thingMany_5 f_11_295 ft_11_30 (xis W 113 11 s_113 (Nat.le_of_ble_eq_true rfl)) <| Y_iald dX12_thingMany_8 (xarr W (o := 116) s_116 (Nat.le_of_ble_eq_true rfl)) hi8 <| Y_iret dX12_thingMany_9 rfl k
theorem bX12_isOrder_0 {d : Nat} {g : xSt} {r : Option Value × xSt}  (k : xX (d + 1) mX12_isOrder 2 [some (.ref 113), some (.int 0), none, none] [] g = some r) : xX (d + 1) mX12_isOrder 0 [some (.ref 113), none, none, none] [] g = some r :=
  Y_iconst 0 dX12_isOrder_0 ic_0 <| Y_istore_n dX12_isOrder_1 rfl rfl <| X_le (xle_s (xle_s (xle_n (xle_n xle_0)))) k
theorem bX12_isOrder_2 {d : Nat} {g : xSt} {r : Option Value × xSt} {a1 r4 : Int32} {g4 : xSt} (W : xWf g) (hk4 : xCallM d mX12_thingMany [.ref 113] g = some (some (.int r4), g4)) (W4 : xWf g4) (k1 : r4 ≤ a1 → xX (d + 1) mX12_isOrder 103 [none, none, none, none] [] g4 = some r) (k2 : ¬ (r4 ≤ a1) → xX (d + 1) mX12_isOrder 10 [some (.ref 113), some (.int a1), none, none] [] g4 = some r) : xX (d + 1) mX12_isOrder 2 [some (.ref 113), some (.int a1), none, none] [] g = some r :=
  Y_iload_n dX12_isOrder_2 rfl <| Y_aload_n dX12_isOrder_3 rfl <| Y_callV1 dX12_isOrder_4 cl_11_364 rfl rfl (xis W 113 11 s_113 (Nat.le_of_ble_eq_true rfl)) rfl rfl rfl (hk4) <| Y_ge 103 dX12_isOrder_7 rfl (fun q => X_le (xle_n (xle_n (xle_n (xle_n xle_0)))) (k1 q)) (fun q => X_le (xle_s (xle_s (xle_n (xle_n xle_0)))) (k2 q))
theorem bX12_isOrder_10 {d : Nat} {g : xSt} {r : Option Value × xSt} {a1 : Int32} (k : xX (d + 1) mX12_isOrder 14 [some (.ref 113), some (.int a1), some (.int 0), some (.int 0)] [] g = some r) : xX (d + 1) mX12_isOrder 10 [some (.ref 113), some (.int a1), none, none] [] g = some r :=
  Y_iconst 0 dX12_isOrder_10 ic_0 <| Y_istore_n dX12_isOrder_11 rfl rfl <| Y_iconst 0 dX12_isOrder_12 ic_0 <| Y_istore_n dX12_isOrder_13 rfl rfl <| X_le (xle_s (xle_s (xle_s (xle_s xle_0)))) k
theorem bX12_isOrder_14 {d : Nat} {g : xSt} {r : Option Value × xSt} {a1 a2 a3 r16 : Int32} {g16 : xSt} (W : xWf g) (hk16 : xCallM d mX12_thingMany [.ref 113] g = some (some (.int r16), g16)) (W16 : xWf g16) (k1 : r16 ≤ a3 → xX (d + 1) mX12_isOrder 85 [some (.ref 113), some (.int a1), some (.int a2), none] [] g16 = some r) (k2 : ¬ (r16 ≤ a3) → xX (d + 1) mX12_isOrder 22 [some (.ref 113), some (.int a1), some (.int a2), some (.int a3)] [] g16 = some r) : xX (d + 1) mX12_isOrder 14 [some (.ref 113), some (.int a1), some (.int a2), some (.int a3)] [] g = some r :=
  Y_iload_n dX12_isOrder_14 rfl <| Y_aload_n dX12_isOrder_15 rfl <| Y_callV1 dX12_isOrder_16 cl_11_364 rfl rfl (xis W 113 11 s_113 (Nat.le_of_ble_eq_true rfl)) rfl rfl rfl (hk16) <| Y_ge 85 dX12_isOrder_19 rfl (fun q => X_le (xle_s (xle_s (xle_s (xle_n xle_0)))) (k1 q)) (fun q => X_le (xle_s (xle_s (xle_s (xle_s xle_0)))) (k2 q))
theorem bX12_isOrder_22 {d : Nat} {g : xSt} {r : Option Value × xSt} {a1 a2 a3 : Int32} (W : xWf g) (hi28 : vp_in a3 5) (hi34 : vp_in a1 5) (k1 : (xI g 135 a1.toNatClampNeg) ≤ (xI g 135 a3.toNatClampNeg) → xX (d + 1) mX12_isOrder 42 [some (.ref 113), some (.int a1), none, some (.int a3)] [.int a2] g = some r) (k2 : ¬ ((xI g 135 a1.toNatClampNeg) ≤ (xI g 135 a3.toNatClampNeg)) → xX (d + 1) mX12_isOrder 38 [some (.ref 113), some (.int a1), none, some (.int a3)] [.int a2] g = some r) : xX (d + 1) mX12_isOrder 22 [some (.ref 113), some (.int a1), some (.int a2), some (.int a3)] [] g = some r :=
  Y_iload_n dX12_isOrder_22 rfl <| Y_aload_n dX12_isOrder_23 rfl <| Y_getR dX12_isOrder_24 f_11_80 (by rw [ft_11_33]; rfl) (xis W 113 11 s_113 (Nat.le_of_ble_eq_true rfl)) (xptr W 113 33 p_113_33) <| Y_iload_n dX12_isOrder_27 rfl <| Y_iald dX12_isOrder_28 (xarr W (o := 135) s_135 (Nat.le_of_ble_eq_true rfl)) hi28 <| Y_aload_n dX12_isOrder_29 rfl <| Y_getR dX12_isOrder_30 f_11_80 (by rw [ft_11_33]; rfl) (xis W 113 11 s_113 (Nat.le_of_ble_eq_true rfl)) (xptr W 113 33 p_113_33) <| Y_iload_n dX12_isOrder_33 rfl <| Y_iald dX12_isOrder_34 (xarr W (o := 135) s_135 (Nat.le_of_ble_eq_true rfl)) hi34 <| Y_ge 42 dX12_isOrder_35 rfl (fun q => X_le (xle_s (xle_s (xle_n (xle_s xle_0)))) (k1 q)) (fun q => X_le (xle_s (xle_s (xle_n (xle_s xle_0)))) (k2 q))
theorem bX12_isOrder_38 {d : Nat} {g : xSt} {r : Option Value × xSt} {a1 a3 s0 : Int32} (k : xX (d + 1) mX12_isOrder 43 [some (.ref 113), some (.int a1), none, some (.int a3)] [.int 1, .int s0] g = some r) : xX (d + 1) mX12_isOrder 38 [some (.ref 113), some (.int a1), none, some (.int a3)] [.int s0] g = some r :=
  Y_iconst 1 dX12_isOrder_38 ic_1 <| Y_goto 43 dX12_isOrder_39 rfl <| X_le (xle_s (xle_s (xle_n (xle_s xle_0)))) k
theorem bX12_isOrder_42 {d : Nat} {g : xSt} {r : Option Value × xSt} {a1 a3 s0 : Int32} (k : xX (d + 1) mX12_isOrder 43 [some (.ref 113), some (.int a1), none, some (.int a3)] [.int 0, .int s0] g = some r) : xX (d + 1) mX12_isOrder 42 [some (.ref 113), some (.int a1), none, some (.int a3)] [.int s0] g = some r :=
  Y_iconst 0 dX12_isOrder_42 ic_0 <| X_le (xle_s (xle_s (xle_n (xle_s xle_0)))) k
theorem bX12_isOrder_43 {d : Nat} {g : xSt} {r : Option Value × xSt} {a1 a3 s1 s0 : Int32} (k1 : a3 = a1 → xX (d + 1) mX12_isOrder 79 [some (.ref 113), some (.int a1), some (.int (s1 + s0)), some (.int a3)] [] g = some r) (k2 : ¬ (a3 = a1) → xX (d + 1) mX12_isOrder 50 [some (.ref 113), some (.int a1), some (.int (s1 + s0)), some (.int a3)] [] g = some r) : xX (d + 1) mX12_isOrder 43 [some (.ref 113), some (.int a1), none, some (.int a3)] [.int s0, .int s1] g = some r :=
  Y_iadd dX12_isOrder_43 <| Y_istore_n dX12_isOrder_44 rfl rfl <| Y_iload_n dX12_isOrder_45 rfl <| Y_iload_n dX12_isOrder_46 rfl <| Y_eq 79 dX12_isOrder_47 rfl (fun q => X_le (xle_s (xle_s (xle_s (xle_s xle_0)))) (k1 q)) (fun q => X_le (xle_s (xle_s (xle_s (xle_s xle_0)))) (k2 q))
theorem bX12_isOrder_50 {d : Nat} {g : xSt} {r : Option Value × xSt} {a1 a2 a3 : Int32} (W : xWf g) (hi55 : vp_in a3 5) (hi61 : vp_in a1 5) (k1 : (xI g 135 a3.toNatClampNeg) = (xI g 135 a1.toNatClampNeg) → xX (d + 1) mX12_isOrder 65 [some (.ref 113), some (.int a1), some (.int a2), some (.int a3)] [] g = some r) (k2 : ¬ ((xI g 135 a3.toNatClampNeg) = (xI g 135 a1.toNatClampNeg)) → xX (d + 1) mX12_isOrder 79 [some (.ref 113), some (.int a1), some (.int a2), some (.int a3)] [] g = some r) : xX (d + 1) mX12_isOrder 50 [some (.ref 113), some (.int a1), some (.int a2), some (.int a3)] [] g = some r :=
  Y_aload_n dX12_isOrder_50 rfl <| Y_getR dX12_isOrder_51 f_11_80 (by rw [ft_11_33]; rfl) (xis W 113 11 s_113 (Nat.le_of_ble_eq_true rfl)) (xptr W 113 33 p_113_33) <| Y_iload_n dX12_isOrder_54 rfl <| Y_iald dX12_isOrder_55 (xarr W (o := 135) s_135 (Nat.le_of_ble_eq_true rfl)) hi55 <| Y_aload_n dX12_isOrder_56 rfl <| Y_getR dX12_isOrder_57 f_11_80 (by rw [ft_11_33]; rfl) (xis W 113 11 s_113 (Nat.le_of_ble_eq_true rfl)) (xptr W 113 33 p_113_33) <| Y_iload_n dX12_isOrder_60 rfl <| Y_iald dX12_isOrder_61 (xarr W (o := 135) s_135 (Nat.le_of_ble_eq_true rfl)) hi61 <| Y_ne 79 dX12_isOrder_62 rfl (fun q => X_le (xle_s (xle_s (xle_s (xle_s xle_0)))) (k1 q)) (fun q => X_le (xle_s (xle_s (xle_s (xle_s xle_0)))) (k2 q))
theorem bX12_isOrder_65 {d : Nat} {g : xSt} {r : Option Value × xSt} {a1 a2 a3 : Int32} (W : xWf g) (hi73 : vp_in (xI g 113 30) 2) (k1 : (xI g 121 (xI g 113 30).toNatClampNeg) = 0 → xX (d + 1) mX12_isOrder 77 [none, none, none, none] [] g = some r) (k2 : ¬ ((xI g 121 (xI g 113 30).toNatClampNeg) = 0) → xX (d + 1) mX12_isOrder 79 [some (.ref 113), some (.int a1), some (.int a2), some (.int a3)] [] g = some r) : xX (d + 1) mX12_isOrder 65 [some (.ref 113), some (.int a1), some (.int a2), some (.int a3)] [] g = some r :=
  Y_aload_n dX12_isOrder_65 rfl <| Y_getR dX12_isOrder_66 f_11_36 (by rw [ft_11_16]; rfl) (xis W 113 11 s_113 (Nat.le_of_ble_eq_true rfl)) (xptr W 113 16 p_113_16) <| Y_aload_n dX12_isOrder_69 rfl <| Y_getI dX12_isOrder_70 f_11_295 ft_11_30 (xis W 113 11 s_113 (Nat.le_of_ble_eq_true rfl)) <| Y_zald dX12_isOrder_73 (xarr W (o := 121) s_121 (Nat.le_of_ble_eq_true rfl)) hi73 <| Y_ne0 79 dX12_isOrder_74 rfl (fun q => X_le (xle_n (xle_n (xle_n (xle_n xle_0)))) (k1 q)) (fun q => X_le (xle_s (xle_s (xle_s (xle_s xle_0)))) (k2 q))
theorem bX12_isOrder_77 {d : Nat} {g : xSt} {r : Option Value × xSt}  (k : r = (some (.int 0), g)) : xX (d + 1) mX12_isOrder 77 [none, none, none, none] [] g = some r :=
  Y_iconst 0 dX12_isOrder_77 ic_0 <| Y_zret dX12_isOrder_78 rfl (by decide) k
theorem bX12_isOrder_79 {d : Nat} {g : xSt} {r : Option Value × xSt} {a1 a2 a3 : Int32} (k : xX (d + 1) mX12_isOrder 14 [some (.ref 113), some (.int a1), some (.int a2), some (.int (a3 + 1))] [] g = some r) : xX (d + 1) mX12_isOrder 79 [some (.ref 113), some (.int a1), some (.int a2), some (.int a3)] [] g = some r :=
  Y_iinc 1 dX12_isOrder_79 rfl ic_1 rfl rfl <| Y_goto 14 dX12_isOrder_82 rfl <| X_le (xle_s (xle_s (xle_s (xle_s xle_0)))) k
theorem bX12_isOrder_85 {d : Nat} {g : xSt} {r : Option Value × xSt} {a1 a2 : Int32} (W : xWf g) (hi91 : vp_in a1 5) (k1 : a2 = (xI g 135 a1.toNatClampNeg) → xX (d + 1) mX12_isOrder 97 [some (.ref 113), some (.int a1), none, none] [] g = some r) (k2 : ¬ (a2 = (xI g 135 a1.toNatClampNeg)) → xX (d + 1) mX12_isOrder 95 [none, none, none, none] [] g = some r) : xX (d + 1) mX12_isOrder 85 [some (.ref 113), some (.int a1), some (.int a2), none] [] g = some r :=
  Y_iload_n dX12_isOrder_85 rfl <| Y_aload_n dX12_isOrder_86 rfl <| Y_getR dX12_isOrder_87 f_11_80 (by rw [ft_11_33]; rfl) (xis W 113 11 s_113 (Nat.le_of_ble_eq_true rfl)) (xptr W 113 33 p_113_33) <| Y_iload_n dX12_isOrder_90 rfl <| Y_iald dX12_isOrder_91 (xarr W (o := 135) s_135 (Nat.le_of_ble_eq_true rfl)) hi91 <| Y_eq 97 dX12_isOrder_92 rfl (fun q => X_le (xle_s (xle_s (xle_n (xle_n xle_0)))) (k1 q)) (fun q => X_le (xle_n (xle_n (xle_n (xle_n xle_0)))) (k2 q))
theorem bX12_isOrder_95 {d : Nat} {g : xSt} {r : Option Value × xSt}  (k : r = (some (.int 0), g)) : xX (d + 1) mX12_isOrder 95 [none, none, none, none] [] g = some r :=
  Y_iconst 0 dX12_isOrder_95 ic_0 <| Y_zret dX12_isOrder_96 rfl (by decide) k
theorem bX12_isOrder_97 {d : Nat} {g : xSt} {r : Option Value × xSt} {a1 : Int32} (k : xX (d + 1) mX12_isOrder 2 [some (.ref 113), some (.int (a1 + 1)), none, none] [] g = some r) : xX (d + 1) mX12_isOrder 97 [some (.ref 113), some (.int a1), none, none] [] g = some r :=
  Y_iinc 1 dX12_isOrder_97 rfl ic_1 rfl rfl <| Y_goto 2 dX12_isOrder_100 rfl <| X_le (xle_s (xle_s (xle_n (xle_n xle_0)))) k
theorem bX12_isOrder_103 {d : Nat} {g : xSt} {r : Option Value × xSt}  (k : r = (some (.int 1), g)) : xX (d + 1) mX12_isOrder 103 [none, none, none, none] [] g = some r :=
  Y_iconst 1 dX12_isOrder_103 ic_1 <| Y_zret dX12_isOrder_104 rfl (by decide) k
theorem bX12_street_0 {d : Nat} {g : xSt} {r : Option Value × xSt}  (W : xWf g) (k : xX (d + 1) mX12_street 20 [some (.ref 113), some (.int 0)] [] (xWI (xWI (xWI g 113 4 0) 113 5 (-1)) 113 3 (xI g 113 2)) = some r) : xX (d + 1) mX12_street 0 [some (.ref 113), none] [] g = some r :=
  Y_aload_n dX12_street_0 rfl <| Y_iconst 0 dX12_street_1 ic_0 <| Y_putI dX12_street_2 f_11_227 fn_11_4 ft_11_4 (xis W 113 11 s_113 (Nat.le_of_ble_eq_true rfl)) <| Y_aload_n dX12_street_5 rfl <| Y_iconst (-1) dX12_street_6 ic_m1 <| Y_putI dX12_street_7 f_11_16 fn_11_5 ft_11_5 (xis W 113 11 s_113 (Nat.le_of_ble_eq_true rfl)) <| Y_aload_n dX12_street_10 rfl <| Y_aload_n dX12_street_11 rfl <| Y_getI dX12_street_12 f_11_292 ft_11_2 (xis W 113 11 s_113 (Nat.le_of_ble_eq_true rfl)) <| Y_putI dX12_street_15 f_11_224 fn_11_3 ft_11_3 (xis W 113 11 s_113 (Nat.le_of_ble_eq_true rfl)) <| Y_iconst 0 dX12_street_18 ic_0 <| Y_istore_n dX12_street_19 rfl rfl <| X_le (xle_s (xle_s xle_0)) k
theorem bX12_street_20 {d : Nat} {g : xSt} {r : Option Value × xSt} {a1 : Int32} (W : xWf g) (k1 : (xI g 113 3) ≤ a1 → xX (d + 1) mX12_street 46 [some (.ref 113), none] [] g = some r) (k2 : ¬ ((xI g 113 3) ≤ a1) → xX (d + 1) mX12_street 28 [some (.ref 113), some (.int a1)] [] g = some r) : xX (d + 1) mX12_street 20 [some (.ref 113), some (.int a1)] [] g = some r :=
  Y_iload_n dX12_street_20 rfl <| Y_aload_n dX12_street_21 rfl <| Y_getI dX12_street_22 f_11_224 ft_11_3 (xis W 113 11 s_113 (Nat.le_of_ble_eq_true rfl)) <| Y_ge 46 dX12_street_25 rfl (fun q => X_le (xle_s (xle_n xle_0)) (k1 q)) (fun q => X_le (xle_s (xle_s xle_0)) (k2 q))
theorem bX12_street_28 {d : Nat} {g : xSt} {r : Option Value × xSt} {a1 : Int32} (W : xWf g) (hi38 : vp_in a1 1220) (hi39 : vp_in a1 1200) (k : xX (d + 1) mX12_street 20 [some (.ref 113), some (.int (a1 + 1))] [] (xWI g 115 a1.toNatClampNeg (Int32.toInt8 (xI g 114 a1.toNatClampNeg)).toInt32) = some r) : xX (d + 1) mX12_street 28 [some (.ref 113), some (.int a1)] [] g = some r :=
  Y_aload_n dX12_street_28 rfl <| Y_getR dX12_street_29 f_11_13 (by rw [ft_11_1]; rfl) (xis W 113 11 s_113 (Nat.le_of_ble_eq_true rfl)) (xptr W 113 1 p_113_1) <| Y_iload_n dX12_street_32 rfl <| Y_aload_n dX12_street_33 rfl <| Y_getR dX12_street_34 f_11_7 (by rw [ft_11_0]; rfl) (xis W 113 11 s_113 (Nat.le_of_ble_eq_true rfl)) (xptr W 113 0 p_113_0) <| Y_iload_n dX12_street_37 rfl <| Y_bald dX12_street_38 (xarr W (o := 114) s_114 (Nat.le_of_ble_eq_true rfl)) hi38 <| Y_bast dX12_street_39 (xarr W (o := 115) s_115 (Nat.le_of_ble_eq_true rfl)) hi39 <| Y_iinc 1 dX12_street_40 rfl ic_1 rfl rfl <| Y_goto 20 dX12_street_43 rfl <| X_le (xle_s (xle_s xle_0)) k
theorem bX12_street_46 {d : Nat} {g : xSt} {r : Option Value × xSt} {g67 g71 : xSt} (W : xWf g) (hk67 : xCallM d mX12_clearBank [.ref 113] (xWI (xWI (xWI g 113 2 0) 113 7 0) 113 31 (1 - (xI g 113 30))) = some (none, g67)) (W67 : xWf g67) (hk71 : xCallM d mX12_goOn [.ref 113] g67 = some (none, g71)) (W71 : xWf g71) (k : xX (d + 1) mX12_street 74 [some (.ref 113), none] [] g71 = some r) : xX (d + 1) mX12_street 46 [some (.ref 113), none] [] g = some r :=
  Y_aload_n dX12_street_46 rfl <| Y_iconst 0 dX12_street_47 ic_0 <| Y_putI dX12_street_48 f_11_292 fn_11_2 ft_11_2 (xis W 113 11 s_113 (Nat.le_of_ble_eq_true rfl)) <| Y_aload_n dX12_street_51 rfl <| Y_iconst 0 dX12_street_52 ic_0 <| Y_putI dX12_street_53 f_11_244 fn_11_7 ft_11_7 (xis W 113 11 s_113 (Nat.le_of_ble_eq_true rfl)) <| Y_aload_n dX12_street_56 rfl <| Y_iconst 1 dX12_street_57 ic_1 <| Y_aload_n dX12_street_58 rfl <| Y_getI dX12_street_59 f_11_295 ft_11_30 (xis W 113 11 s_113 (Nat.le_of_ble_eq_true rfl)) <| Y_isub dX12_street_62 <| Y_putI dX12_street_63 f_11_289 fn_11_31 ft_11_31 (xis W 113 11 s_113 (Nat.le_of_ble_eq_true rfl)) <| Y_aload_n dX12_street_66 rfl <| Y_callV0 dX12_street_67 cl_11_218 rfl rfl (xis W 113 11 s_113 (Nat.le_of_ble_eq_true rfl)) rfl rfl rfl (hk67) <| Y_aload_n dX12_street_70 rfl <| Y_callV0 dX12_street_71 cl_11_283 rfl rfl (xis W67 113 11 s_113 (Nat.le_of_ble_eq_true rfl)) rfl rfl rfl (hk71) <| X_le (xle_s (xle_n xle_0)) k
theorem bX12_street_74 {d : Nat} {g : xSt} {r : Option Value × xSt} {r75 : Int32} {g75 : xSt} (W : xWf g) (hk75 : xCallM d mX12_isGood [.ref 113] g = some (some (.int r75), g75)) (W75 : xWf g75) (k1 : r75 = 0 → xX (d + 1) mX12_street 95 [some (.ref 113), none] [] g75 = some r) (k2 : ¬ (r75 = 0) → xX (d + 1) mX12_street 81 [some (.ref 113), none] [] g75 = some r) : xX (d + 1) mX12_street 74 [some (.ref 113), none] [] g = some r :=
  Y_aload_n dX12_street_74 rfl <| Y_callV1 dX12_street_75 cl_11_279 rfl rfl (xis W 113 11 s_113 (Nat.le_of_ble_eq_true rfl)) rfl rfl rfl (hk75) <| Y_eq0 95 dX12_street_78 rfl (fun q => X_le (xle_s (xle_n xle_0)) (k1 q)) (fun q => X_le (xle_s (xle_n xle_0)) (k2 q))
theorem bX12_street_81 {d : Nat} {g : xSt} {r : Option Value × xSt}  (W : xWf g) (k1 : (xI g 113 8) = 0 → xX (d + 1) mX12_street 95 [some (.ref 113), none] [] g = some r) (k2 : ¬ ((xI g 113 8) = 0) → xX (d + 1) mX12_street 88 [some (.ref 113), none] [] g = some r) : xX (d + 1) mX12_street 81 [some (.ref 113), none] [] g = some r :=
  Y_aload_n dX12_street_81 rfl <| Y_getI dX12_street_82 f_11_254 ft_11_8 (xis W 113 11 s_113 (Nat.le_of_ble_eq_true rfl)) <| Y_eq0 95 dX12_street_85 rfl (fun q => X_le (xle_s (xle_n xle_0)) (k1 q)) (fun q => X_le (xle_s (xle_n xle_0)) (k2 q))
theorem bX12_street_88 {d : Nat} {g : xSt} {r : Option Value × xSt} {g89 : xSt} (W : xWf g) (hk89 : xCallM d mX12_readLine [.ref 113] g = some (none, g89)) (W89 : xWf g89) (k : xX (d + 1) mX12_street 74 [some (.ref 113), none] [] g89 = some r) : xX (d + 1) mX12_street 88 [some (.ref 113), none] [] g = some r :=
  Y_aload_n dX12_street_88 rfl <| Y_callV0 dX12_street_89 cl_11_298 rfl rfl (xis W 113 11 s_113 (Nat.le_of_ble_eq_true rfl)) rfl rfl rfl (hk89) <| Y_goto 74 dX12_street_92 rfl <| X_le (xle_s (xle_n xle_0)) k
theorem bX12_street_95 {d : Nat} {g : xSt} {r : Option Value × xSt} {r96 : Int32} {g96 : xSt} (W : xWf g) (hk96 : xCallM d mX12_isGood [.ref 113] g = some (some (.int r96), g96)) (W96 : xWf g96) (k1 : r96 = 0 → xX (d + 1) mX12_street 102 [none, none] [] g96 = some r) (k2 : ¬ (r96 = 0) → xX (d + 1) mX12_street 104 [some (.ref 113), none] [] g96 = some r) : xX (d + 1) mX12_street 95 [some (.ref 113), none] [] g = some r :=
  Y_aload_n dX12_street_95 rfl <| Y_callV1 dX12_street_96 cl_11_279 rfl rfl (xis W 113 11 s_113 (Nat.le_of_ble_eq_true rfl)) rfl rfl rfl (hk96) <| Y_ne0 104 dX12_street_99 rfl (fun q => X_le (xle_n (xle_n xle_0)) (k1 q)) (fun q => X_le (xle_s (xle_n xle_0)) (k2 q))
theorem bX12_street_102 {d : Nat} {g : xSt} {r : Option Value × xSt}  (k : r = (some (.int (-1)), g)) : xX (d + 1) mX12_street 102 [none, none] [] g = some r :=
  Y_iconst (-1) dX12_street_102 ic_m1 <| Y_iret dX12_street_103 rfl k
theorem bX12_street_104 {d : Nat} {g : xSt} {r : Option Value × xSt} {g113 g117 : xSt} (W : xWf g) (hk113 : xCallM d mX12_layClerk [.ref 113] (xWI g 113 30 (xI g 113 31)) = some (none, g113)) (W113 : xWf g113) (hk117 : xCallM d mX12_layOrders [.ref 113] g113 = some (none, g117)) (W117 : xWf g117) (k : xX (d + 1) mX12_street 137 [some (.ref 113), some (.int 0)] [] (xWI (xWI (xWI g117 113 44 0) 113 46 0) 113 47 0) = some r) : xX (d + 1) mX12_street 104 [some (.ref 113), none] [] g = some r :=
  Y_aload_n dX12_street_104 rfl <| Y_aload_n dX12_street_105 rfl <| Y_getI dX12_street_106 f_11_289 ft_11_31 (xis W 113 11 s_113 (Nat.le_of_ble_eq_true rfl)) <| Y_putI dX12_street_109 f_11_295 fn_11_30 ft_11_30 (xis W 113 11 s_113 (Nat.le_of_ble_eq_true rfl)) <| Y_aload_n dX12_street_112 rfl <| Y_callV0 dX12_street_113 cl_11_301 rfl rfl (xis W 113 11 s_113 (Nat.le_of_ble_eq_true rfl)) rfl rfl rfl (hk113) <| Y_aload_n dX12_street_116 rfl <| Y_callV0 dX12_street_117 cl_11_221 rfl rfl (xis W113 113 11 s_113 (Nat.le_of_ble_eq_true rfl)) rfl rfl rfl (hk117) <| Y_aload_n dX12_street_120 rfl <| Y_iconst 0 dX12_street_121 ic_0 <| Y_putI dX12_street_122 f_11_304 fn_11_44 ft_11_44 (xis W117 113 11 s_113 (Nat.le_of_ble_eq_true rfl)) <| Y_aload_n dX12_street_125 rfl <| Y_iconst 0 dX12_street_126 ic_0 <| Y_putI dX12_street_127 f_11_307 fn_11_46 ft_11_46 (xis W117 113 11 s_113 (Nat.le_of_ble_eq_true rfl)) <| Y_aload_n dX12_street_130 rfl <| Y_iconst 0 dX12_street_131 ic_0 <| Y_putI dX12_street_132 f_11_310 fn_11_47 ft_11_47 (xis W117 113 11 s_113 (Nat.le_of_ble_eq_true rfl)) <| Y_iconst 0 dX12_street_135 ic_0 <| Y_istore_n dX12_street_136 rfl rfl <| X_le (xle_s (xle_s xle_0)) k
theorem bX12_street_137 {d : Nat} {g : xSt} {r : Option Value × xSt} {a1 : Int32} (k1 : 5 ≤ a1 → xX (d + 1) mX12_street 167 [some (.ref 113), none] [] g = some r) (k2 : ¬ (5 ≤ a1) → xX (d + 1) mX12_street 142 [some (.ref 113), some (.int a1)] [] g = some r) : xX (d + 1) mX12_street 137 [some (.ref 113), some (.int a1)] [] g = some r :=
  Y_iload_n dX12_street_137 rfl <| Y_iconst 5 dX12_street_138 ic_5 <| Y_ge 167 dX12_street_139 rfl (fun q => X_le (xle_s (xle_n xle_0)) (k1 q)) (fun q => X_le (xle_s (xle_s xle_0)) (k2 q))
theorem bX12_street_142 {d : Nat} {g : xSt} {r : Option Value × xSt} {a1 : Int32} (W : xWf g) (hi159 : vp_in ((5 * (xI g 113 30)) + a1) 10) (hi160 : vp_in a1 5) (k : xX (d + 1) mX12_street 137 [some (.ref 113), some (.int (a1 + 1))] [] (xWI g 143 a1.toNatClampNeg (xI g 120 ((5 * (xI g 113 30)) + a1).toNatClampNeg)) = some r) : xX (d + 1) mX12_street 142 [some (.ref 113), some (.int a1)] [] g = some r :=
  Y_aload_n dX12_street_142 rfl <| Y_getR dX12_street_143 f_11_104 (by rw [ft_11_42]; rfl) (xis W 113 11 s_113 (Nat.le_of_ble_eq_true rfl)) (xptr W 113 42 p_113_42) <| Y_iload_n dX12_street_146 rfl <| Y_aload_n dX12_street_147 rfl <| Y_getR dX12_street_148 f_11_33 (by rw [ft_11_15]; rfl) (xis W 113 11 s_113 (Nat.le_of_ble_eq_true rfl)) (xptr W 113 15 p_113_15) <| Y_iconst 5 dX12_street_151 ic_5 <| Y_aload_n dX12_street_152 rfl <| Y_getI dX12_street_153 f_11_295 ft_11_30 (xis W 113 11 s_113 (Nat.le_of_ble_eq_true rfl)) <| Y_imul dX12_street_156 <| Y_iload_n dX12_street_157 rfl <| Y_iadd dX12_street_158 <| Y_iald dX12_street_159 (xarr W (o := 120) s_120 (Nat.le_of_ble_eq_true rfl)) hi159 <| Y_iast dX12_street_160 (xarr W (o := 143) s_143 (Nat.le_of_ble_eq_true rfl)) hi160 <| Y_iinc 1 dX12_street_161 rfl ic_1 rfl rfl <| Y_goto 137 dX12_street_164 rfl <| X_le (xle_s (xle_s xle_0)) k
theorem bX12_street_167 {d : Nat} {g : xSt} {r : Option Value × xSt}  (W : xWf g) (k : xX (d + 1) mX12_street 174 [some (.ref 113), some (.int 0)] [] (xWI g 113 54 0) = some r) : xX (d + 1) mX12_street 167 [some (.ref 113), none] [] g = some r :=
  Y_aload_n dX12_street_167 rfl <| Y_iconst 0 dX12_street_168 ic_0 <| Y_putI dX12_street_169 f_11_313 fn_11_54 ft_11_54 (xis W 113 11 s_113 (Nat.le_of_ble_eq_true rfl)) <| Y_iconst 0 dX12_street_172 ic_0 <| Y_istore_n dX12_street_173 rfl rfl <| X_le (xle_s (xle_s xle_0)) k
theorem bX12_street_174 {d : Nat} {g : xSt} {r : Option Value × xSt} {a1 : Int32} (k1 : 3 ≤ a1 → xX (d + 1) mX12_street 192 [some (.ref 113), none] [] g = some r) (k2 : ¬ (3 ≤ a1) → xX (d + 1) mX12_street 179 [some (.ref 113), some (.int a1)] [] g = some r) : xX (d + 1) mX12_street 174 [some (.ref 113), some (.int a1)] [] g = some r :=
  Y_iload_n dX12_street_174 rfl <| Y_iconst 3 dX12_street_175 ic_3 <| Y_ge 192 dX12_street_176 rfl (fun q => X_le (xle_s (xle_n xle_0)) (k1 q)) (fun q => X_le (xle_s (xle_s xle_0)) (k2 q))
theorem bX12_street_179 {d : Nat} {g : xSt} {r : Option Value × xSt} {a1 : Int32} (W : xWf g) (hi185 : vp_in a1 3) (k : xX (d + 1) mX12_street 174 [some (.ref 113), some (.int (a1 + 1))] [] (xWI g 174 a1.toNatClampNeg (-1)) = some r) : xX (d + 1) mX12_street 179 [some (.ref 113), some (.int a1)] [] g = some r :=
  Y_aload_n dX12_street_179 rfl <| Y_getR dX12_street_180 f_11_197 (by rw [ft_11_83]; rfl) (xis W 113 11 s_113 (Nat.le_of_ble_eq_true rfl)) (xptr W 113 83 p_113_83) <| Y_iload_n dX12_street_183 rfl <| Y_iconst (-1) dX12_street_184 ic_m1 <| Y_iast dX12_street_185 (xarr W (o := 174) s_174 (Nat.le_of_ble_eq_true rfl)) hi185 <| Y_iinc 1 dX12_street_186 rfl ic_1 rfl rfl <| Y_goto 174 dX12_street_189 rfl <| X_le (xle_s (xle_s xle_0)) k
theorem bX12_street_192 {d : Nat} {g : xSt} {r : Option Value × xSt}  (W : xWf g) (hi200 : vp_in (xI g 113 30) 2) (k : r = (some (.int (xI g 116 (xI g 113 30).toNatClampNeg)), g)) : xX (d + 1) mX12_street 192 [some (.ref 113), none] [] g = some r :=
  Y_aload_n dX12_street_192 rfl <| Y_getR dX12_street_193 f_11_20 (by rw [ft_11_11]; rfl) (xis W 113 11 s_113 (Nat.le_of_ble_eq_true rfl)) (xptr W 113 11 p_113_11) <| Y_aload_n dX12_street_196 rfl <| Y_getI dX12_street_197 f_11_295 ft_11_30 (xis W 113 11 s_113 (Nat.le_of_ble_eq_true rfl)) <| Y_iald dX12_street_200 (xarr W (o := 116) s_116 (Nat.le_of_ble_eq_true rfl)) hi200 <| Y_iret dX12_street_201 rfl k
theorem bX12_goOn_0 {d : Nat} {g : xSt} {r : Option Value × xSt}  (W : xWf g) (k : xX (d + 1) mX12_goOn 8 [some (.ref 113), none, none] [] (xWI g 113 6 (xI g 113 7)) = some r) : xX (d + 1) mX12_goOn 0 [some (.ref 113), none, none] [] g = some r :=
  Y_aload_n dX12_goOn_0 rfl <| Y_aload_n dX12_goOn_1 rfl <| Y_getI dX12_goOn_2 f_11_244 ft_11_7 (xis W 113 11 s_113 (Nat.le_of_ble_eq_true rfl)) <| Y_putI dX12_goOn_5 f_11_247 fn_11_6 ft_11_6 (xis W 113 11 s_113 (Nat.le_of_ble_eq_true rfl)) <| X_le (xle_s (xle_n (xle_n xle_0))) k
theorem bX12_goOn_8 {d : Nat} {g : xSt} {r : Option Value × xSt}  (W : xWf g) (k1 : (xI g 113 3) ≤ (xI g 113 6) → xX (d + 1) mX12_goOn 58 [some (.ref 113), none, none] [] g = some r) (k2 : ¬ ((xI g 113 3) ≤ (xI g 113 6)) → xX (d + 1) mX12_goOn 19 [some (.ref 113), none, none] [] g = some r) : xX (d + 1) mX12_goOn 8 [some (.ref 113), none, none] [] g = some r :=
  Y_aload_n dX12_goOn_8 rfl <| Y_getI dX12_goOn_9 f_11_247 ft_11_6 (xis W 113 11 s_113 (Nat.le_of_ble_eq_true rfl)) <| Y_aload_n dX12_goOn_12 rfl <| Y_getI dX12_goOn_13 f_11_224 ft_11_3 (xis W 113 11 s_113 (Nat.le_of_ble_eq_true rfl)) <| Y_ge 58 dX12_goOn_16 rfl (fun q => X_le (xle_s (xle_n (xle_n xle_0))) (k1 q)) (fun q => X_le (xle_s (xle_n (xle_n xle_0))) (k2 q))
theorem bX12_goOn_19 {d : Nat} {g : xSt} {r : Option Value × xSt} {r24 : Int32} {g24 : xSt} (W : xWf g) (hk24 : xCallM d mX12_sign [.ref 113, .int (xI g 113 6)] g = some (some (.int r24), g24)) (W24 : xWf g24) (k1 : r24 = 32 → xX (d + 1) mX12_goOn 45 [some (.ref 113), none, none] [] g24 = some r) (k2 : ¬ (r24 = 32) → xX (d + 1) mX12_goOn 32 [some (.ref 113), none, none] [] g24 = some r) : xX (d + 1) mX12_goOn 19 [some (.ref 113), none, none] [] g = some r :=
  Y_aload_n dX12_goOn_19 rfl <| Y_aload_n dX12_goOn_20 rfl <| Y_getI dX12_goOn_21 f_11_247 ft_11_6 (xis W 113 11 s_113 (Nat.le_of_ble_eq_true rfl)) <| Y_callV1 dX12_goOn_24 cl_11_250 rfl rfl (xis W 113 11 s_113 (Nat.le_of_ble_eq_true rfl)) rfl rfl rfl (hk24) <| Y_bipush 32 dX12_goOn_27 bp_32 <| Y_eq 45 dX12_goOn_29 rfl (fun q => X_le (xle_s (xle_n (xle_n xle_0))) (k1 q)) (fun q => X_le (xle_s (xle_n (xle_n xle_0))) (k2 q))
theorem bX12_goOn_32 {d : Nat} {g : xSt} {r : Option Value × xSt} {r37 : Int32} {g37 : xSt} (W : xWf g) (hk37 : xCallM d mX12_sign [.ref 113, .int (xI g 113 6)] g = some (some (.int r37), g37)) (W37 : xWf g37) (k1 : r37 = 10 → xX (d + 1) mX12_goOn 45 [some (.ref 113), none, none] [] g37 = some r) (k2 : ¬ (r37 = 10) → xX (d + 1) mX12_goOn 58 [some (.ref 113), none, none] [] g37 = some r) : xX (d + 1) mX12_goOn 32 [some (.ref 113), none, none] [] g = some r :=
  Y_aload_n dX12_goOn_32 rfl <| Y_aload_n dX12_goOn_33 rfl <| Y_getI dX12_goOn_34 f_11_247 ft_11_6 (xis W 113 11 s_113 (Nat.le_of_ble_eq_true rfl)) <| Y_callV1 dX12_goOn_37 cl_11_250 rfl rfl (xis W 113 11 s_113 (Nat.le_of_ble_eq_true rfl)) rfl rfl rfl (hk37) <| Y_bipush 10 dX12_goOn_40 bp_10 <| Y_ne 58 dX12_goOn_42 rfl (fun q => X_le (xle_s (xle_n (xle_n xle_0))) (k1 q)) (fun q => X_le (xle_s (xle_n (xle_n xle_0))) (k2 q))
theorem bX12_goOn_45 {d : Nat} {g : xSt} {r : Option Value × xSt}  (W : xWf g) (k : xX (d + 1) mX12_goOn 8 [some (.ref 113), none, none] [] (xWI g 113 6 ((xI g 113 6) + 1)) = some r) : xX (d + 1) mX12_goOn 45 [some (.ref 113), none, none] [] g = some r :=
  Y_aload_n dX12_goOn_45 rfl <| Y_dup dX12_goOn_46 rfl <| Y_getI dX12_goOn_47 f_11_247 ft_11_6 (xis W 113 11 s_113 (Nat.le_of_ble_eq_true rfl)) <| Y_iconst 1 dX12_goOn_50 ic_1 <| Y_iadd dX12_goOn_51 <| Y_putI dX12_goOn_52 f_11_247 fn_11_6 ft_11_6 (xis W 113 11 s_113 (Nat.le_of_ble_eq_true rfl)) <| Y_goto 8 dX12_goOn_55 rfl <| X_le (xle_s (xle_n (xle_n xle_0))) k
theorem bX12_goOn_58 {d : Nat} {g : xSt} {r : Option Value × xSt} {r63 : Int32} {g63 : xSt} (W : xWf g) (hk63 : xCallM d mX12_sign [.ref 113, .int (xI g 113 6)] g = some (some (.int r63), g63)) (W63 : xWf g63) (k1 : (xI g63 113 6) < (xI g63 113 3) → xX (d + 1) mX12_goOn 112 [some (.ref 113), some (.int r63), none] [] (xWI g63 113 7 ((xI g63 113 6) + 1)) = some r) (k2 : ¬ ((xI g63 113 6) < (xI g63 113 3)) → xX (d + 1) mX12_goOn 88 [some (.ref 113), none, none] [] (xWI g63 113 7 ((xI g63 113 6) + 1)) = some r) : xX (d + 1) mX12_goOn 58 [some (.ref 113), none, none] [] g = some r :=
  Y_aload_n dX12_goOn_58 rfl <| Y_aload_n dX12_goOn_59 rfl <| Y_getI dX12_goOn_60 f_11_247 ft_11_6 (xis W 113 11 s_113 (Nat.le_of_ble_eq_true rfl)) <| Y_callV1 dX12_goOn_63 cl_11_250 rfl rfl (xis W 113 11 s_113 (Nat.le_of_ble_eq_true rfl)) rfl rfl rfl (hk63) <| Y_istore_n dX12_goOn_66 rfl rfl <| Y_aload_n dX12_goOn_67 rfl <| Y_aload_n dX12_goOn_68 rfl <| Y_getI dX12_goOn_69 f_11_247 ft_11_6 (xis W63 113 11 s_113 (Nat.le_of_ble_eq_true rfl)) <| Y_iconst 1 dX12_goOn_72 ic_1 <| Y_iadd dX12_goOn_73 <| Y_putI dX12_goOn_74 f_11_244 fn_11_7 ft_11_7 (xis W63 113 11 s_113 (Nat.le_of_ble_eq_true rfl)) <| Y_aload_n dX12_goOn_77 rfl <| Y_getI dX12_goOn_78 f_11_247 ft_11_6 (xis W63 113 11 s_113 (Nat.le_of_ble_eq_true rfl)) <| Y_aload_n dX12_goOn_81 rfl <| Y_getI dX12_goOn_82 f_11_224 ft_11_3 (xis W63 113 11 s_113 (Nat.le_of_ble_eq_true rfl)) <| Y_lt 112 dX12_goOn_85 rfl (fun q => X_le (xle_s (xle_s (xle_n xle_0))) (k1 q)) (fun q => X_le (xle_s (xle_n (xle_n xle_0))) (k2 q))
theorem bX12_goOn_88 {d : Nat} {g : xSt} {r : Option Value × xSt}  (W : xWf g) (k : xX (d + 1) mX12_goOn 394 [none, none, none] [] (xWI (xWI (xWI g 113 8 0) 113 6 (xI g 113 3)) 113 7 (xI g 113 3)) = some r) : xX (d + 1) mX12_goOn 88 [some (.ref 113), none, none] [] g = some r :=
  Y_aload_n dX12_goOn_88 rfl <| Y_iconst 0 dX12_goOn_89 ic_0 <| Y_putI dX12_goOn_90 f_11_254 fn_11_8 ft_11_8 (xis W 113 11 s_113 (Nat.le_of_ble_eq_true rfl)) <| Y_aload_n dX12_goOn_93 rfl <| Y_aload_n dX12_goOn_94 rfl <| Y_getI dX12_goOn_95 f_11_224 ft_11_3 (xis W 113 11 s_113 (Nat.le_of_ble_eq_true rfl)) <| Y_putI dX12_goOn_98 f_11_247 fn_11_6 ft_11_6 (xis W 113 11 s_113 (Nat.le_of_ble_eq_true rfl)) <| Y_aload_n dX12_goOn_101 rfl <| Y_aload_n dX12_goOn_102 rfl <| Y_getI dX12_goOn_103 f_11_224 ft_11_3 (xis W 113 11 s_113 (Nat.le_of_ble_eq_true rfl)) <| Y_putI dX12_goOn_106 f_11_244 fn_11_7 ft_11_7 (xis W 113 11 s_113 (Nat.le_of_ble_eq_true rfl)) <| Y_goto 394 dX12_goOn_109 rfl <| X_le (xle_n (xle_n (xle_n xle_0))) k
theorem bX12_goOn_112 {d : Nat} {g : xSt} {r : Option Value × xSt} {a1 r113 : Int32} {g113 : xSt} (hk113 : xCallM d mX12_isLetter [.int a1] g = some (some (.int r113), g113)) (W113 : xWf g113) (k1 : r113 = 0 → xX (d + 1) mX12_goOn 239 [some (.ref 113), some (.int a1), none] [] g113 = some r) (k2 : ¬ (r113 = 0) → xX (d + 1) mX12_goOn 119 [some (.ref 113), none, none] [] g113 = some r) : xX (d + 1) mX12_goOn 112 [some (.ref 113), some (.int a1), none] [] g = some r :=
  Y_iload_n dX12_goOn_112 rfl <| Y_callS1 dX12_goOn_113 cl_11_257 rfl rfl rfl rfl rfl (hk113) <| Y_eq0 239 dX12_goOn_116 rfl (fun q => X_le (xle_s (xle_s (xle_n xle_0))) (k1 q)) (fun q => X_le (xle_s (xle_n (xle_n xle_0))) (k2 q))
theorem bX12_goOn_119 {d : Nat} {g : xSt} {r : Option Value × xSt} {r124 r127 : Int32} {g124 g127 : xSt} (W : xWf g) (hk124 : xCallM d mX12_sign [.ref 113, .int (xI g 113 7)] g = some (some (.int r124), g124)) (W124 : xWf g124) (hk127 : xCallM d mX12_isLetter [.int r124] g124 = some (some (.int r127), g127)) (W127 : xWf g127) (k1 : r127 = 0 → xX (d + 1) mX12_goOn 146 [some (.ref 113), none, none] [] g127 = some r) (k2 : ¬ (r127 = 0) → xX (d + 1) mX12_goOn 133 [some (.ref 113), none, none] [] g127 = some r) : xX (d + 1) mX12_goOn 119 [some (.ref 113), none, none] [] g = some r :=
  Y_aload_n dX12_goOn_119 rfl <| Y_aload_n dX12_goOn_120 rfl <| Y_getI dX12_goOn_121 f_11_244 ft_11_7 (xis W 113 11 s_113 (Nat.le_of_ble_eq_true rfl)) <| Y_callV1 dX12_goOn_124 cl_11_250 rfl rfl (xis W 113 11 s_113 (Nat.le_of_ble_eq_true rfl)) rfl rfl rfl (hk124) <| Y_callS1 dX12_goOn_127 cl_11_257 rfl rfl rfl rfl rfl (hk127) <| Y_eq0 146 dX12_goOn_130 rfl (fun q => X_le (xle_s (xle_n (xle_n xle_0))) (k1 q)) (fun q => X_le (xle_s (xle_n (xle_n xle_0))) (k2 q))
theorem bX12_goOn_133 {d : Nat} {g : xSt} {r : Option Value × xSt}  (W : xWf g) (k : xX (d + 1) mX12_goOn 119 [some (.ref 113), none, none] [] (xWI g 113 7 ((xI g 113 7) + 1)) = some r) : xX (d + 1) mX12_goOn 133 [some (.ref 113), none, none] [] g = some r :=
  Y_aload_n dX12_goOn_133 rfl <| Y_dup dX12_goOn_134 rfl <| Y_getI dX12_goOn_135 f_11_244 ft_11_7 (xis W 113 11 s_113 (Nat.le_of_ble_eq_true rfl)) <| Y_iconst 1 dX12_goOn_138 ic_1 <| Y_iadd dX12_goOn_139 <| Y_putI dX12_goOn_140 f_11_244 fn_11_7 ft_11_7 (xis W 113 11 s_113 (Nat.le_of_ble_eq_true rfl)) <| Y_goto 119 dX12_goOn_143 rfl <| X_le (xle_s (xle_n (xle_n xle_0))) k
theorem bX12_goOn_146 {d : Nat} {g : xSt} {r : Option Value × xSt}  (W : xWf g) (k : xX (d + 1) mX12_goOn 156 [some (.ref 113), none, some (.int (xI g 113 6))] [] (xWL g 113 10 0) = some r) : xX (d + 1) mX12_goOn 146 [some (.ref 113), none, none] [] g = some r :=
  Y_aload_n dX12_goOn_146 rfl <| Y_lconst 0 dX12_goOn_147 rfl <| Y_putJ dX12_goOn_148 f_11_261 fn_11_10 ft_11_10 (xis W 113 11 s_113 (Nat.le_of_ble_eq_true rfl)) <| Y_aload_n dX12_goOn_151 rfl <| Y_getI dX12_goOn_152 f_11_247 ft_11_6 (xis W 113 11 s_113 (Nat.le_of_ble_eq_true rfl)) <| Y_istore_n dX12_goOn_155 rfl rfl <| X_le (xle_s (xle_n (xle_s xle_0))) k
theorem bX12_goOn_156 {d : Nat} {g : xSt} {r : Option Value × xSt} {a2 : Int32} (W : xWf g) (k1 : (xI g 113 7) ≤ a2 → xX (d + 1) mX12_goOn 199 [some (.ref 113), none, none] [] g = some r) (k2 : ¬ ((xI g 113 7) ≤ a2) → xX (d + 1) mX12_goOn 164 [some (.ref 113), none, some (.int a2)] [] g = some r) : xX (d + 1) mX12_goOn 156 [some (.ref 113), none, some (.int a2)] [] g = some r :=
  Y_iload_n dX12_goOn_156 rfl <| Y_aload_n dX12_goOn_157 rfl <| Y_getI dX12_goOn_158 f_11_244 ft_11_7 (xis W 113 11 s_113 (Nat.le_of_ble_eq_true rfl)) <| Y_ge 199 dX12_goOn_161 rfl (fun q => X_le (xle_s (xle_n (xle_n xle_0))) (k1 q)) (fun q => X_le (xle_s (xle_n (xle_s xle_0))) (k2 q))
theorem bX12_goOn_164 {d : Nat} {g : xSt} {r : Option Value × xSt} {a2 : Int32} (W : xWf g) (k1 : ((xI g 113 6) + 8) ≤ a2 → xX (d + 1) mX12_goOn 199 [some (.ref 113), none, none] [] g = some r) (k2 : ¬ (((xI g 113 6) + 8) ≤ a2) → xX (d + 1) mX12_goOn 175 [some (.ref 113), none, some (.int a2)] [] g = some r) : xX (d + 1) mX12_goOn 164 [some (.ref 113), none, some (.int a2)] [] g = some r :=
  Y_iload_n dX12_goOn_164 rfl <| Y_aload_n dX12_goOn_165 rfl <| Y_getI dX12_goOn_166 f_11_247 ft_11_6 (xis W 113 11 s_113 (Nat.le_of_ble_eq_true rfl)) <| Y_bipush 8 dX12_goOn_169 bp_8 <| Y_iadd dX12_goOn_171 <| Y_ge 199 dX12_goOn_172 rfl (fun q => X_le (xle_s (xle_n (xle_n xle_0))) (k1 q)) (fun q => X_le (xle_s (xle_n (xle_s xle_0))) (k2 q))
theorem bX12_goOn_175 {d : Nat} {g : xSt} {r : Option Value × xSt} {a2 r185 : Int32} {g185 : xSt} (W : xWf g) (hk185 : xCallM d mX12_sign [.ref 113, .int a2] g = some (some (.int r185), g185)) (W185 : xWf g185) (k : xX (d + 1) mX12_goOn 156 [some (.ref 113), none, some (.int (a2 + 1))] [] (xWL g185 113 10 (((xL g 113 10) <<< (Int32.toInt64 8 &&& 63)) ||| (Int32.toInt64 r185))) = some r) : xX (d + 1) mX12_goOn 175 [some (.ref 113), none, some (.int a2)] [] g = some r :=
  Y_aload_n dX12_goOn_175 rfl <| Y_aload_n dX12_goOn_176 rfl <| Y_getJ dX12_goOn_177 f_11_261 ft_11_10 (xis W 113 11 s_113 (Nat.le_of_ble_eq_true rfl)) <| Y_bipush 8 dX12_goOn_180 bp_8 <| Y_lshl dX12_goOn_182 <| Y_aload_n dX12_goOn_183 rfl <| Y_iload_n dX12_goOn_184 rfl <| Y_callV1 dX12_goOn_185 cl_11_250 rfl rfl (xis W 113 11 s_113 (Nat.le_of_ble_eq_true rfl)) rfl rfl rfl (hk185) <| Y_i2l dX12_goOn_188 <| Y_lor dX12_goOn_189 <| Y_putJ dX12_goOn_190 f_11_261 fn_11_10 ft_11_10 (xis W185 113 11 s_113 (Nat.le_of_ble_eq_true rfl)) <| Y_iinc 1 dX12_goOn_193 rfl ic_1 rfl rfl <| Y_goto 156 dX12_goOn_196 rfl <| X_le (xle_s (xle_n (xle_s xle_0))) k
theorem bX12_goOn_199 {d : Nat} {g : xSt} {r : Option Value × xSt}  (W : xWf g) (k1 : ((xI g 113 7) - (xI g 113 6)) ≤ 8 → xX (d + 1) mX12_goOn 218 [some (.ref 113), none, none] [.ref 113] g = some r) (k2 : ¬ (((xI g 113 7) - (xI g 113 6)) ≤ 8) → xX (d + 1) mX12_goOn 214 [none, none, none] [.ref 113] g = some r) : xX (d + 1) mX12_goOn 199 [some (.ref 113), none, none] [] g = some r :=
  Y_aload_n dX12_goOn_199 rfl <| Y_aload_n dX12_goOn_200 rfl <| Y_getI dX12_goOn_201 f_11_244 ft_11_7 (xis W 113 11 s_113 (Nat.le_of_ble_eq_true rfl)) <| Y_aload_n dX12_goOn_204 rfl <| Y_getI dX12_goOn_205 f_11_247 ft_11_6 (xis W 113 11 s_113 (Nat.le_of_ble_eq_true rfl)) <| Y_isub dX12_goOn_208 <| Y_bipush 8 dX12_goOn_209 bp_8 <| Y_le 218 dX12_goOn_211 rfl (fun q => X_le (xle_s (xle_n (xle_n xle_0))) (k1 q)) (fun q => X_le (xle_n (xle_n (xle_n xle_0))) (k2 q))
theorem bX12_goOn_214 {d : Nat} {g : xSt} {r : Option Value × xSt}  (k : xX (d + 1) mX12_goOn 233 [none, none, none] [.int 1, .ref 113] g = some r) : xX (d + 1) mX12_goOn 214 [none, none, none] [.ref 113] g = some r :=
  Y_iconst 1 dX12_goOn_214 ic_1 <| Y_goto 233 dX12_goOn_215 rfl <| X_le (xle_n (xle_n (xle_n xle_0))) k
theorem bX12_goOn_218 {d : Nat} {g : xSt} {r : Option Value × xSt} {r222 : Int32} {g222 : xSt} (W : xWf g) (hk222 : xCallM d mX12_isKept [.long (xL g 113 10)] g = some (some (.int r222), g222)) (W222 : xWf g222) (k1 : r222 = 0 → xX (d + 1) mX12_goOn 232 [none, none, none] [.ref 113] g222 = some r) (k2 : ¬ (r222 = 0) → xX (d + 1) mX12_goOn 228 [none, none, none] [.ref 113] g222 = some r) : xX (d + 1) mX12_goOn 218 [some (.ref 113), none, none] [.ref 113] g = some r :=
  Y_aload_n dX12_goOn_218 rfl <| Y_getJ dX12_goOn_219 f_11_261 ft_11_10 (xis W 113 11 s_113 (Nat.le_of_ble_eq_true rfl)) <| Y_callS1 dX12_goOn_222 cl_11_265 rfl rfl rfl rfl rfl (hk222) <| Y_eq0 232 dX12_goOn_225 rfl (fun q => X_le (xle_n (xle_n (xle_n xle_0))) (k1 q)) (fun q => X_le (xle_n (xle_n (xle_n xle_0))) (k2 q))
theorem bX12_goOn_228 {d : Nat} {g : xSt} {r : Option Value × xSt}  (k : xX (d + 1) mX12_goOn 233 [none, none, none] [.int 3, .ref 113] g = some r) : xX (d + 1) mX12_goOn 228 [none, none, none] [.ref 113] g = some r :=
  Y_iconst 3 dX12_goOn_228 ic_3 <| Y_goto 233 dX12_goOn_229 rfl <| X_le (xle_n (xle_n (xle_n xle_0))) k
theorem bX12_goOn_232 {d : Nat} {g : xSt} {r : Option Value × xSt}  (k : xX (d + 1) mX12_goOn 233 [none, none, none] [.int 2, .ref 113] g = some r) : xX (d + 1) mX12_goOn 232 [none, none, none] [.ref 113] g = some r :=
  Y_iconst 2 dX12_goOn_232 ic_2 <| X_le (xle_n (xle_n (xle_n xle_0))) k
theorem bX12_goOn_233 {d : Nat} {g : xSt} {r : Option Value × xSt} {s0 : Int32} (W : xWf g) (k : xX (d + 1) mX12_goOn 394 [none, none, none] [] (xWI g 113 8 s0) = some r) : xX (d + 1) mX12_goOn 233 [none, none, none] [.int s0, .ref 113] g = some r :=
  Y_putI dX12_goOn_233 f_11_254 fn_11_8 ft_11_8 (xis W 113 11 s_113 (Nat.le_of_ble_eq_true rfl)) <| Y_goto 394 dX12_goOn_236 rfl <| X_le (xle_n (xle_n (xle_n xle_0))) k
theorem bX12_goOn_239 {d : Nat} {g : xSt} {r : Option Value × xSt} {a1 r240 : Int32} {g240 : xSt} (hk240 : xCallM d mX12_isDigit [.int a1] g = some (some (.int r240), g240)) (W240 : xWf g240) (k1 : r240 = 0 → xX (d + 1) mX12_goOn 361 [some (.ref 113), some (.int a1), none] [] g240 = some r) (k2 : ¬ (r240 = 0) → xX (d + 1) mX12_goOn 246 [some (.ref 113), none, none] [] g240 = some r) : xX (d + 1) mX12_goOn 239 [some (.ref 113), some (.int a1), none] [] g = some r :=
  Y_iload_n dX12_goOn_239 rfl <| Y_callS1 dX12_goOn_240 cl_11_269 rfl rfl rfl rfl rfl (hk240) <| Y_eq0 361 dX12_goOn_243 rfl (fun q => X_le (xle_s (xle_s (xle_n xle_0))) (k1 q)) (fun q => X_le (xle_s (xle_n (xle_n xle_0))) (k2 q))
theorem bX12_goOn_246 {d : Nat} {g : xSt} {r : Option Value × xSt}  (W : xWf g) (k : xX (d + 1) mX12_goOn 259 [some (.ref 113), none, none] [] (xWI (xWI g 113 9 0) 113 7 (xI g 113 6)) = some r) : xX (d + 1) mX12_goOn 246 [some (.ref 113), none, none] [] g = some r :=
  Y_aload_n dX12_goOn_246 rfl <| Y_iconst 0 dX12_goOn_247 ic_0 <| Y_putI dX12_goOn_248 f_11_272 fn_11_9 ft_11_9 (xis W 113 11 s_113 (Nat.le_of_ble_eq_true rfl)) <| Y_aload_n dX12_goOn_251 rfl <| Y_aload_n dX12_goOn_252 rfl <| Y_getI dX12_goOn_253 f_11_247 ft_11_6 (xis W 113 11 s_113 (Nat.le_of_ble_eq_true rfl)) <| Y_putI dX12_goOn_256 f_11_244 fn_11_7 ft_11_7 (xis W 113 11 s_113 (Nat.le_of_ble_eq_true rfl)) <| X_le (xle_s (xle_n (xle_n xle_0))) k
theorem bX12_goOn_259 {d : Nat} {g : xSt} {r : Option Value × xSt} {r264 r267 : Int32} {g264 g267 : xSt} (W : xWf g) (hk264 : xCallM d mX12_sign [.ref 113, .int (xI g 113 7)] g = some (some (.int r264), g264)) (W264 : xWf g264) (hk267 : xCallM d mX12_isDigit [.int r264] g264 = some (some (.int r267), g267)) (W267 : xWf g267) (k1 : r267 = 0 → xX (d + 1) mX12_goOn 322 [some (.ref 113), none, none] [] g267 = some r) (k2 : ¬ (r267 = 0) → xX (d + 1) mX12_goOn 273 [some (.ref 113), none, none] [] g267 = some r) : xX (d + 1) mX12_goOn 259 [some (.ref 113), none, none] [] g = some r :=
  Y_aload_n dX12_goOn_259 rfl <| Y_aload_n dX12_goOn_260 rfl <| Y_getI dX12_goOn_261 f_11_244 ft_11_7 (xis W 113 11 s_113 (Nat.le_of_ble_eq_true rfl)) <| Y_callV1 dX12_goOn_264 cl_11_250 rfl rfl (xis W 113 11 s_113 (Nat.le_of_ble_eq_true rfl)) rfl rfl rfl (hk264) <| Y_callS1 dX12_goOn_267 cl_11_269 rfl rfl rfl rfl rfl (hk267) <| Y_eq0 322 dX12_goOn_270 rfl (fun q => X_le (xle_s (xle_n (xle_n xle_0))) (k1 q)) (fun q => X_le (xle_s (xle_n (xle_n xle_0))) (k2 q))
theorem bX12_goOn_273 {d : Nat} {g : xSt} {r : Option Value × xSt}  (W : xWf g) (k1 : 4 ≤ ((xI g 113 7) - (xI g 113 6)) → xX (d + 1) mX12_goOn 309 [some (.ref 113), none, none] [] g = some r) (k2 : ¬ (4 ≤ ((xI g 113 7) - (xI g 113 6))) → xX (d + 1) mX12_goOn 286 [some (.ref 113), none, none] [] g = some r) : xX (d + 1) mX12_goOn 273 [some (.ref 113), none, none] [] g = some r :=
  Y_aload_n dX12_goOn_273 rfl <| Y_getI dX12_goOn_274 f_11_244 ft_11_7 (xis W 113 11 s_113 (Nat.le_of_ble_eq_true rfl)) <| Y_aload_n dX12_goOn_277 rfl <| Y_getI dX12_goOn_278 f_11_247 ft_11_6 (xis W 113 11 s_113 (Nat.le_of_ble_eq_true rfl)) <| Y_isub dX12_goOn_281 <| Y_iconst 4 dX12_goOn_282 ic_4 <| Y_ge 309 dX12_goOn_283 rfl (fun q => X_le (xle_s (xle_n (xle_n xle_0))) (k1 q)) (fun q => X_le (xle_s (xle_n (xle_n xle_0))) (k2 q))
theorem bX12_goOn_286 {d : Nat} {g : xSt} {r : Option Value × xSt} {r299 : Int32} {g299 : xSt} (W : xWf g) (hk299 : xCallM d mX12_sign [.ref 113, .int (xI g 113 7)] g = some (some (.int r299), g299)) (W299 : xWf g299) (k : xX (d + 1) mX12_goOn 309 [some (.ref 113), none, none] [] (xWI g299 113 9 (((10 * (xI g 113 9)) + r299) - 48)) = some r) : xX (d + 1) mX12_goOn 286 [some (.ref 113), none, none] [] g = some r :=
  Y_aload_n dX12_goOn_286 rfl <| Y_bipush 10 dX12_goOn_287 bp_10 <| Y_aload_n dX12_goOn_289 rfl <| Y_getI dX12_goOn_290 f_11_272 ft_11_9 (xis W 113 11 s_113 (Nat.le_of_ble_eq_true rfl)) <| Y_imul dX12_goOn_293 <| Y_aload_n dX12_goOn_294 rfl <| Y_aload_n dX12_goOn_295 rfl <| Y_getI dX12_goOn_296 f_11_244 ft_11_7 (xis W 113 11 s_113 (Nat.le_of_ble_eq_true rfl)) <| Y_callV1 dX12_goOn_299 cl_11_250 rfl rfl (xis W 113 11 s_113 (Nat.le_of_ble_eq_true rfl)) rfl rfl rfl (hk299) <| Y_iadd dX12_goOn_302 <| Y_bipush 48 dX12_goOn_303 bp_48 <| Y_isub dX12_goOn_305 <| Y_putI dX12_goOn_306 f_11_272 fn_11_9 ft_11_9 (xis W299 113 11 s_113 (Nat.le_of_ble_eq_true rfl)) <| X_le (xle_s (xle_n (xle_n xle_0))) k
theorem bX12_goOn_309 {d : Nat} {g : xSt} {r : Option Value × xSt}  (W : xWf g) (k : xX (d + 1) mX12_goOn 259 [some (.ref 113), none, none] [] (xWI g 113 7 ((xI g 113 7) + 1)) = some r) : xX (d + 1) mX12_goOn 309 [some (.ref 113), none, none] [] g = some r :=
  Y_aload_n dX12_goOn_309 rfl <| Y_dup dX12_goOn_310 rfl <| Y_getI dX12_goOn_311 f_11_244 ft_11_7 (xis W 113 11 s_113 (Nat.le_of_ble_eq_true rfl)) <| Y_iconst 1 dX12_goOn_314 ic_1 <| Y_iadd dX12_goOn_315 <| Y_putI dX12_goOn_316 f_11_244 fn_11_7 ft_11_7 (xis W 113 11 s_113 (Nat.le_of_ble_eq_true rfl)) <| Y_goto 259 dX12_goOn_319 rfl <| X_le (xle_s (xle_n (xle_n xle_0))) k
theorem bX12_goOn_322 {d : Nat} {g : xSt} {r : Option Value × xSt}  (W : xWf g) (k1 : 4 < ((xI g 113 7) - (xI g 113 6)) → xX (d + 1) mX12_goOn 350 [none, none, none] [.ref 113] g = some r) (k2 : ¬ (4 < ((xI g 113 7) - (xI g 113 6))) → xX (d + 1) mX12_goOn 336 [some (.ref 113), none, none] [.ref 113] g = some r) : xX (d + 1) mX12_goOn 322 [some (.ref 113), none, none] [] g = some r :=
  Y_aload_n dX12_goOn_322 rfl <| Y_aload_n dX12_goOn_323 rfl <| Y_getI dX12_goOn_324 f_11_244 ft_11_7 (xis W 113 11 s_113 (Nat.le_of_ble_eq_true rfl)) <| Y_aload_n dX12_goOn_327 rfl <| Y_getI dX12_goOn_328 f_11_247 ft_11_6 (xis W 113 11 s_113 (Nat.le_of_ble_eq_true rfl)) <| Y_isub dX12_goOn_331 <| Y_iconst 4 dX12_goOn_332 ic_4 <| Y_gt 350 dX12_goOn_333 rfl (fun q => X_le (xle_n (xle_n (xle_n xle_0))) (k1 q)) (fun q => X_le (xle_s (xle_n (xle_n xle_0))) (k2 q))
theorem bX12_goOn_336 {d : Nat} {g : xSt} {r : Option Value × xSt} {r341 r344 : Int32} {g341 g344 : xSt} (W : xWf g) (hk341 : xCallM d mX12_sign [.ref 113, .int (xI g 113 7)] g = some (some (.int r341), g341)) (W341 : xWf g341) (hk344 : xCallM d mX12_isLetter [.int r341] g341 = some (some (.int r344), g344)) (W344 : xWf g344) (k1 : r344 = 0 → xX (d + 1) mX12_goOn 354 [none, none, none] [.ref 113] g344 = some r) (k2 : ¬ (r344 = 0) → xX (d + 1) mX12_goOn 350 [none, none, none] [.ref 113] g344 = some r) : xX (d + 1) mX12_goOn 336 [some (.ref 113), none, none] [.ref 113] g = some r :=
  Y_aload_n dX12_goOn_336 rfl <| Y_aload_n dX12_goOn_337 rfl <| Y_getI dX12_goOn_338 f_11_244 ft_11_7 (xis W 113 11 s_113 (Nat.le_of_ble_eq_true rfl)) <| Y_callV1 dX12_goOn_341 cl_11_250 rfl rfl (xis W 113 11 s_113 (Nat.le_of_ble_eq_true rfl)) rfl rfl rfl (hk341) <| Y_callS1 dX12_goOn_344 cl_11_257 rfl rfl rfl rfl rfl (hk344) <| Y_eq0 354 dX12_goOn_347 rfl (fun q => X_le (xle_n (xle_n (xle_n xle_0))) (k1 q)) (fun q => X_le (xle_n (xle_n (xle_n xle_0))) (k2 q))
theorem bX12_goOn_350 {d : Nat} {g : xSt} {r : Option Value × xSt}  (k : xX (d + 1) mX12_goOn 355 [none, none, none] [.int 1, .ref 113] g = some r) : xX (d + 1) mX12_goOn 350 [none, none, none] [.ref 113] g = some r :=
  Y_iconst 1 dX12_goOn_350 ic_1 <| Y_goto 355 dX12_goOn_351 rfl <| X_le (xle_n (xle_n (xle_n xle_0))) k
theorem bX12_goOn_354 {d : Nat} {g : xSt} {r : Option Value × xSt}  (k : xX (d + 1) mX12_goOn 355 [none, none, none] [.int 4, .ref 113] g = some r) : xX (d + 1) mX12_goOn 354 [none, none, none] [.ref 113] g = some r :=
  Y_iconst 4 dX12_goOn_354 ic_4 <| X_le (xle_n (xle_n (xle_n xle_0))) k
theorem bX12_goOn_355 {d : Nat} {g : xSt} {r : Option Value × xSt} {s0 : Int32} (W : xWf g) (k : xX (d + 1) mX12_goOn 394 [none, none, none] [] (xWI g 113 8 s0) = some r) : xX (d + 1) mX12_goOn 355 [none, none, none] [.int s0, .ref 113] g = some r :=
  Y_putI dX12_goOn_355 f_11_254 fn_11_8 ft_11_8 (xis W 113 11 s_113 (Nat.le_of_ble_eq_true rfl)) <| Y_goto 394 dX12_goOn_358 rfl <| X_le (xle_n (xle_n (xle_n xle_0))) k
theorem bX12_goOn_361 {d : Nat} {g : xSt} {r : Option Value × xSt} {a1 : Int32} (k1 : a1 = 59 → xX (d + 1) mX12_goOn 386 [none, none, none] [.ref 113] g = some r) (k2 : ¬ (a1 = 59) → xX (d + 1) mX12_goOn 368 [none, some (.int a1), none] [.ref 113] g = some r) : xX (d + 1) mX12_goOn 361 [some (.ref 113), some (.int a1), none] [] g = some r :=
  Y_aload_n dX12_goOn_361 rfl <| Y_iload_n dX12_goOn_362 rfl <| Y_bipush 59 dX12_goOn_363 bp_59 <| Y_eq 386 dX12_goOn_365 rfl (fun q => X_le (xle_n (xle_n (xle_n xle_0))) (k1 q)) (fun q => X_le (xle_n (xle_s (xle_n xle_0))) (k2 q))
theorem bX12_goOn_368 {d : Nat} {g : xSt} {r : Option Value × xSt} {a1 : Int32} (k1 : a1 = 40 → xX (d + 1) mX12_goOn 386 [none, none, none] [.ref 113] g = some r) (k2 : ¬ (a1 = 40) → xX (d + 1) mX12_goOn 374 [none, some (.int a1), none] [.ref 113] g = some r) : xX (d + 1) mX12_goOn 368 [none, some (.int a1), none] [.ref 113] g = some r :=
  Y_iload_n dX12_goOn_368 rfl <| Y_bipush 40 dX12_goOn_369 bp_40 <| Y_eq 386 dX12_goOn_371 rfl (fun q => X_le (xle_n (xle_n (xle_n xle_0))) (k1 q)) (fun q => X_le (xle_n (xle_s (xle_n xle_0))) (k2 q))
theorem bX12_goOn_374 {d : Nat} {g : xSt} {r : Option Value × xSt} {a1 : Int32} (k1 : a1 = 41 → xX (d + 1) mX12_goOn 386 [none, none, none] [.ref 113] g = some r) (k2 : ¬ (a1 = 41) → xX (d + 1) mX12_goOn 380 [none, some (.int a1), none] [.ref 113] g = some r) : xX (d + 1) mX12_goOn 374 [none, some (.int a1), none] [.ref 113] g = some r :=
  Y_iload_n dX12_goOn_374 rfl <| Y_bipush 41 dX12_goOn_375 bp_41 <| Y_eq 386 dX12_goOn_377 rfl (fun q => X_le (xle_n (xle_n (xle_n xle_0))) (k1 q)) (fun q => X_le (xle_n (xle_s (xle_n xle_0))) (k2 q))
theorem bX12_goOn_380 {d : Nat} {g : xSt} {r : Option Value × xSt} {a1 : Int32} (k1 : a1 = 47 → xX (d + 1) mX12_goOn 386 [none, none, none] [.ref 113] g = some r) (k2 : ¬ (a1 = 47) → xX (d + 1) mX12_goOn 390 [none, none, none] [.ref 113] g = some r) : xX (d + 1) mX12_goOn 380 [none, some (.int a1), none] [.ref 113] g = some r :=
  Y_iload_n dX12_goOn_380 rfl <| Y_bipush 47 dX12_goOn_381 bp_47 <| Y_ne 390 dX12_goOn_383 rfl (fun q => X_le (xle_n (xle_n (xle_n xle_0))) (k1 q)) (fun q => X_le (xle_n (xle_n (xle_n xle_0))) (k2 q))
theorem bX12_goOn_386 {d : Nat} {g : xSt} {r : Option Value × xSt}  (k : xX (d + 1) mX12_goOn 391 [none, none, none] [.int 5, .ref 113] g = some r) : xX (d + 1) mX12_goOn 386 [none, none, none] [.ref 113] g = some r :=
  Y_iconst 5 dX12_goOn_386 ic_5 <| Y_goto 391 dX12_goOn_387 rfl <| X_le (xle_n (xle_n (xle_n xle_0))) k
theorem bX12_goOn_390 {d : Nat} {g : xSt} {r : Option Value × xSt}  (k : xX (d + 1) mX12_goOn 391 [none, none, none] [.int 1, .ref 113] g = some r) : xX (d + 1) mX12_goOn 390 [none, none, none] [.ref 113] g = some r :=
  Y_iconst 1 dX12_goOn_390 ic_1 <| X_le (xle_n (xle_n (xle_n xle_0))) k
theorem bX12_goOn_391 {d : Nat} {g : xSt} {r : Option Value × xSt} {s0 : Int32} (W : xWf g) (k : xX (d + 1) mX12_goOn 394 [none, none, none] [] (xWI g 113 8 s0) = some r) : xX (d + 1) mX12_goOn 391 [none, none, none] [.int s0, .ref 113] g = some r :=
  Y_putI dX12_goOn_391 f_11_254 fn_11_8 ft_11_8 (xis W 113 11 s_113 (Nat.le_of_ble_eq_true rfl)) <| X_le (xle_n (xle_n (xle_n xle_0))) k
theorem bX12_goOn_394 {d : Nat} {g : xSt} {r : Option Value × xSt}  (k : r = (none, g)) : xX (d + 1) mX12_goOn 394 [none, none, none] [] g = some r :=
  Y_ret dX12_goOn_394 rfl k
theorem bX12_sign_0 {d : Nat} {g : xSt} {r : Option Value × xSt} {a1 : Int32} (W : xWf g) (k1 : (xI g 113 3) ≤ a1 → xX d mX12_sign 21 [none, none] [] g = some r) (k2 : ¬ ((xI g 113 3) ≤ a1) → xX d mX12_sign 8 [some (.ref 113), some (.int a1)] [] g = some r) : xX d mX12_sign 0 [some (.ref 113), some (.int a1)] [] g = some r :=
  Y_iload_n dX12_sign_0 rfl <| Y_aload_n dX12_sign_1 rfl <| Y_getI dX12_sign_2 f_11_224 ft_11_3 (xis W 113 11 s_113 (Nat.le_of_ble_eq_true rfl)) <| Y_ge 21 dX12_sign_5 rfl (fun q => X_le (xle_n (xle_n xle_0)) (k1 q)) (fun q => X_le (xle_s (xle_s xle_0)) (k2 q))
theorem bX12_sign_8 {d : Nat} {g : xSt} {r : Option Value × xSt} {a1 : Int32} (W : xWf g) (hi13 : vp_in a1 1200) (k : xX d mX12_sign 22 [none, none] [.int ((xI g 115 a1.toNatClampNeg) &&& 255)] g = some r) : xX d mX12_sign 8 [some (.ref 113), some (.int a1)] [] g = some r :=
  Y_aload_n dX12_sign_8 rfl <| Y_getR dX12_sign_9 f_11_13 (by rw [ft_11_1]; rfl) (xis W 113 11 s_113 (Nat.le_of_ble_eq_true rfl)) (xptr W 113 1 p_113_1) <| Y_iload_n dX12_sign_12 rfl <| Y_bald dX12_sign_13 (xarr W (o := 115) s_115 (Nat.le_of_ble_eq_true rfl)) hi13 <| Y_sipush 255 dX12_sign_14 sp_255 <| Y_iand dX12_sign_17 <| Y_goto 22 dX12_sign_18 rfl <| X_le (xle_n (xle_n xle_0)) k
theorem bX12_sign_21 {d : Nat} {g : xSt} {r : Option Value × xSt}  (k : xX d mX12_sign 22 [none, none] [.int 0] g = some r) : xX d mX12_sign 21 [none, none] [] g = some r :=
  Y_iconst 0 dX12_sign_21 ic_0 <| X_le (xle_n (xle_n xle_0)) k
theorem bX12_sign_22 {d : Nat} {g : xSt} {r : Option Value × xSt} {s0 : Int32} (k : r = (some (.int s0), g)) : xX d mX12_sign 22 [none, none] [.int s0] g = some r :=
  Y_iret dX12_sign_22 rfl k
theorem bX12_isLetter_0 {d : Nat} {g : xSt} {r : Option Value × xSt} {a0 : Int32} (k1 : a0 < 97 → xX d mX12_isLetter 16 [none] [] g = some r) (k2 : ¬ (a0 < 97) → xX d mX12_isLetter 6 [some (.int a0)] [] g = some r) : xX d mX12_isLetter 0 [some (.int a0)] [] g = some r :=
  Y_iload_n dX12_isLetter_0 rfl <| Y_bipush 97 dX12_isLetter_1 bp_97 <| Y_lt 16 dX12_isLetter_3 rfl (fun q => X_le (xle_n xle_0) (k1 q)) (fun q => X_le (xle_s xle_0) (k2 q))
theorem bX12_isLetter_6 {d : Nat} {g : xSt} {r : Option Value × xSt} {a0 : Int32} (k1 : 122 < a0 → xX d mX12_isLetter 16 [none] [] g = some r) (k2 : ¬ (122 < a0) → xX d mX12_isLetter 12 [none] [] g = some r) : xX d mX12_isLetter 6 [some (.int a0)] [] g = some r :=
  Y_iload_n dX12_isLetter_6 rfl <| Y_bipush 122 dX12_isLetter_7 bp_122 <| Y_gt 16 dX12_isLetter_9 rfl (fun q => X_le (xle_n xle_0) (k1 q)) (fun q => X_le (xle_n xle_0) (k2 q))
theorem bX12_isLetter_12 {d : Nat} {g : xSt} {r : Option Value × xSt}  (k : xX d mX12_isLetter 17 [none] [.int 1] g = some r) : xX d mX12_isLetter 12 [none] [] g = some r :=
  Y_iconst 1 dX12_isLetter_12 ic_1 <| Y_goto 17 dX12_isLetter_13 rfl <| X_le (xle_n xle_0) k
theorem bX12_isLetter_16 {d : Nat} {g : xSt} {r : Option Value × xSt}  (k : xX d mX12_isLetter 17 [none] [.int 0] g = some r) : xX d mX12_isLetter 16 [none] [] g = some r :=
  Y_iconst 0 dX12_isLetter_16 ic_0 <| X_le (xle_n xle_0) k
theorem bX12_isLetter_17 {d : Nat} {g : xSt} {r : Option Value × xSt} {s0 : Int32} (hz17 : s0 = 0 ∨ s0 = 1) (k : r = (some (.int s0), g)) : xX d mX12_isLetter 17 [none] [.int s0] g = some r :=
  Y_zret dX12_isLetter_17 rfl (hz17) k
theorem bX12_isKept_0 {d : Nat} {g : xSt} {r : Option Value × xSt} {a0 : Int64} (k1 : (lg_cmp a0 499967946343) = 0 → xX d mX12_isKept 56 [none, none] [] g = some r) (k2 : ¬ ((lg_cmp a0 499967946343) = 0) → xX d mX12_isKept 8 [some (.long a0), none] [] g = some r) : xX d mX12_isKept 0 [some (.long a0), none] [] g = some r :=
  Y_lload_n dX12_isKept_0 rfl <| Y_ldc2 dX12_isKept_1 kl_11_230 <| Y_lcmp dX12_isKept_4 <| Y_eq0 56 dX12_isKept_5 rfl (fun q => X_le (xle_n (xle_n xle_0)) (k1 q)) (fun q => X_le (xle_s (xle_n xle_0)) (k2 q))
theorem bX12_isKept_8 {d : Nat} {g : xSt} {r : Option Value × xSt} {a0 : Int64} (k1 : (lg_cmp a0 131277443786867) = 0 → xX d mX12_isKept 56 [none, none] [] g = some r) (k2 : ¬ ((lg_cmp a0 131277443786867) = 0) → xX d mX12_isKept 16 [some (.long a0), none] [] g = some r) : xX d mX12_isKept 8 [some (.long a0), none] [] g = some r :=
  Y_lload_n dX12_isKept_8 rfl <| Y_ldc2 dX12_isKept_9 kl_11_232 <| Y_lcmp dX12_isKept_12 <| Y_eq0 56 dX12_isKept_13 rfl (fun q => X_le (xle_n (xle_n xle_0)) (k1 q)) (fun q => X_le (xle_s (xle_n xle_0)) (k2 q))
theorem bX12_isKept_16 {d : Nat} {g : xSt} {r : Option Value × xSt} {a0 : Int64} (k1 : (lg_cmp a0 500219604595) = 0 → xX d mX12_isKept 56 [none, none] [] g = some r) (k2 : ¬ ((lg_cmp a0 500219604595) = 0) → xX d mX12_isKept 24 [some (.long a0), none] [] g = some r) : xX d mX12_isKept 16 [some (.long a0), none] [] g = some r :=
  Y_lload_n dX12_isKept_16 rfl <| Y_ldc2 dX12_isKept_17 kl_11_234 <| Y_lcmp dX12_isKept_20 <| Y_eq0 56 dX12_isKept_21 rfl (fun q => X_le (xle_n (xle_n xle_0)) (k1 q)) (fun q => X_le (xle_s (xle_n xle_0)) (k2 q))
theorem bX12_isKept_24 {d : Nat} {g : xSt} {r : Option Value × xSt} {a0 : Int64} (k1 : (lg_cmp a0 126943821523827) = 0 → xX d mX12_isKept 56 [none, none] [] g = some r) (k2 : ¬ ((lg_cmp a0 126943821523827) = 0) → xX d mX12_isKept 32 [some (.long a0), none] [] g = some r) : xX d mX12_isKept 24 [some (.long a0), none] [] g = some r :=
  Y_lload_n dX12_isKept_24 rfl <| Y_ldc2 dX12_isKept_25 kl_11_236 <| Y_lcmp dX12_isKept_28 <| Y_eq0 56 dX12_isKept_29 rfl (fun q => X_le (xle_n (xle_n xle_0)) (k1 q)) (fun q => X_le (xle_s (xle_n xle_0)) (k2 q))
theorem bX12_isKept_32 {d : Nat} {g : xSt} {r : Option Value × xSt} {a0 : Int64} (k1 : (lg_cmp a0 7499639) = 0 → xX d mX12_isKept 56 [none, none] [] g = some r) (k2 : ¬ ((lg_cmp a0 7499639) = 0) → xX d mX12_isKept 40 [some (.long a0), none] [] g = some r) : xX d mX12_isKept 32 [some (.long a0), none] [] g = some r :=
  Y_lload_n dX12_isKept_32 rfl <| Y_ldc2 dX12_isKept_33 kl_11_238 <| Y_lcmp dX12_isKept_36 <| Y_eq0 56 dX12_isKept_37 rfl (fun q => X_le (xle_n (xle_n xle_0)) (k1 q)) (fun q => X_le (xle_s (xle_n xle_0)) (k2 q))
theorem bX12_isKept_40 {d : Nat} {g : xSt} {r : Option Value × xSt} {a0 : Int64} (k1 : (lg_cmp a0 1886151022) = 0 → xX d mX12_isKept 56 [none, none] [] g = some r) (k2 : ¬ ((lg_cmp a0 1886151022) = 0) → xX d mX12_isKept 48 [some (.long a0), none] [] g = some r) : xX d mX12_isKept 40 [some (.long a0), none] [] g = some r :=
  Y_lload_n dX12_isKept_40 rfl <| Y_ldc2 dX12_isKept_41 kl_11_240 <| Y_lcmp dX12_isKept_44 <| Y_eq0 56 dX12_isKept_45 rfl (fun q => X_le (xle_n (xle_n xle_0)) (k1 q)) (fun q => X_le (xle_s (xle_n xle_0)) (k2 q))
theorem bX12_isKept_48 {d : Nat} {g : xSt} {r : Option Value × xSt} {a0 : Int64} (k1 : (lg_cmp a0 1685024357) = 0 → xX d mX12_isKept 56 [none, none] [] g = some r) (k2 : ¬ ((lg_cmp a0 1685024357) = 0) → xX d mX12_isKept 60 [none, none] [] g = some r) : xX d mX12_isKept 48 [some (.long a0), none] [] g = some r :=
  Y_lload_n dX12_isKept_48 rfl <| Y_ldc2 dX12_isKept_49 kl_11_242 <| Y_lcmp dX12_isKept_52 <| Y_ne0 60 dX12_isKept_53 rfl (fun q => X_le (xle_n (xle_n xle_0)) (k1 q)) (fun q => X_le (xle_n (xle_n xle_0)) (k2 q))
theorem bX12_isKept_56 {d : Nat} {g : xSt} {r : Option Value × xSt}  (k : xX d mX12_isKept 61 [none, none] [.int 1] g = some r) : xX d mX12_isKept 56 [none, none] [] g = some r :=
  Y_iconst 1 dX12_isKept_56 ic_1 <| Y_goto 61 dX12_isKept_57 rfl <| X_le (xle_n (xle_n xle_0)) k
theorem bX12_isKept_60 {d : Nat} {g : xSt} {r : Option Value × xSt}  (k : xX d mX12_isKept 61 [none, none] [.int 0] g = some r) : xX d mX12_isKept 60 [none, none] [] g = some r :=
  Y_iconst 0 dX12_isKept_60 ic_0 <| X_le (xle_n (xle_n xle_0)) k
theorem bX12_isKept_61 {d : Nat} {g : xSt} {r : Option Value × xSt} {s0 : Int32} (hz61 : s0 = 0 ∨ s0 = 1) (k : r = (some (.int s0), g)) : xX d mX12_isKept 61 [none, none] [.int s0] g = some r :=
  Y_zret dX12_isKept_61 rfl (hz61) k
theorem bX12_isDigit_0 {d : Nat} {g : xSt} {r : Option Value × xSt} {a0 : Int32} (k1 : a0 < 48 → xX d mX12_isDigit 16 [none] [] g = some r) (k2 : ¬ (a0 < 48) → xX d mX12_isDigit 6 [some (.int a0)] [] g = some r) : xX d mX12_isDigit 0 [some (.int a0)] [] g = some r :=
  Y_iload_n dX12_isDigit_0 rfl <| Y_bipush 48 dX12_isDigit_1 bp_48 <| Y_lt 16 dX12_isDigit_3 rfl (fun q => X_le (xle_n xle_0) (k1 q)) (fun q => X_le (xle_s xle_0) (k2 q))
theorem bX12_isDigit_6 {d : Nat} {g : xSt} {r : Option Value × xSt} {a0 : Int32} (k1 : 57 < a0 → xX d mX12_isDigit 16 [none] [] g = some r) (k2 : ¬ (57 < a0) → xX d mX12_isDigit 12 [none] [] g = some r) : xX d mX12_isDigit 6 [some (.int a0)] [] g = some r :=
  Y_iload_n dX12_isDigit_6 rfl <| Y_bipush 57 dX12_isDigit_7 bp_57 <| Y_gt 16 dX12_isDigit_9 rfl (fun q => X_le (xle_n xle_0) (k1 q)) (fun q => X_le (xle_n xle_0) (k2 q))
theorem bX12_isDigit_12 {d : Nat} {g : xSt} {r : Option Value × xSt}  (k : xX d mX12_isDigit 17 [none] [.int 1] g = some r) : xX d mX12_isDigit 12 [none] [] g = some r :=
  Y_iconst 1 dX12_isDigit_12 ic_1 <| Y_goto 17 dX12_isDigit_13 rfl <| X_le (xle_n xle_0) k
theorem bX12_isDigit_16 {d : Nat} {g : xSt} {r : Option Value × xSt}  (k : xX d mX12_isDigit 17 [none] [.int 0] g = some r) : xX d mX12_isDigit 16 [none] [] g = some r :=
  Y_iconst 0 dX12_isDigit_16 ic_0 <| X_le (xle_n xle_0) k
theorem bX12_isDigit_17 {d : Nat} {g : xSt} {r : Option Value × xSt} {s0 : Int32} (hz17 : s0 = 0 ∨ s0 = 1) (k : r = (some (.int s0), g)) : xX d mX12_isDigit 17 [none] [.int s0] g = some r :=
  Y_zret dX12_isDigit_17 rfl (hz17) k
theorem bX12_isGood_0 {d : Nat} {g : xSt} {r : Option Value × xSt}  (W : xWf g) (k1 : (xI g 113 4) = 0 → xX d mX12_isGood 7 [none] [] g = some r) (k2 : ¬ ((xI g 113 4) = 0) → xX d mX12_isGood 11 [none] [] g = some r) : xX d mX12_isGood 0 [some (.ref 113)] [] g = some r :=
  Y_aload_n dX12_isGood_0 rfl <| Y_getI dX12_isGood_1 f_11_227 ft_11_4 (xis W 113 11 s_113 (Nat.le_of_ble_eq_true rfl)) <| Y_ne0 11 dX12_isGood_4 rfl (fun q => X_le (xle_n xle_0) (k1 q)) (fun q => X_le (xle_n xle_0) (k2 q))
theorem bX12_isGood_7 {d : Nat} {g : xSt} {r : Option Value × xSt}  (k : xX d mX12_isGood 12 [none] [.int 1] g = some r) : xX d mX12_isGood 7 [none] [] g = some r :=
  Y_iconst 1 dX12_isGood_7 ic_1 <| Y_goto 12 dX12_isGood_8 rfl <| X_le (xle_n xle_0) k
theorem bX12_isGood_11 {d : Nat} {g : xSt} {r : Option Value × xSt}  (k : xX d mX12_isGood 12 [none] [.int 0] g = some r) : xX d mX12_isGood 11 [none] [] g = some r :=
  Y_iconst 0 dX12_isGood_11 ic_0 <| X_le (xle_n xle_0) k
theorem bX12_isGood_12 {d : Nat} {g : xSt} {r : Option Value × xSt} {s0 : Int32} (hz12 : s0 = 0 ∨ s0 = 1) (k : r = (some (.int s0), g)) : xX d mX12_isGood 12 [none] [.int s0] g = some r :=
  Y_zret dX12_isGood_12 rfl (hz12) k
theorem bX12_readLine_0 {d : Nat} {g : xSt} {r : Option Value × xSt}  (W : xWf g) (k1 : (xI g 113 8) = 3 → xX (d + 1) mX12_readLine 13 [some (.ref 113), some (.long (xL g 113 10)), none] [] g = some r) (k2 : ¬ ((xI g 113 8) = 3) → xX (d + 1) mX12_readLine 20 [some (.ref 113), some (.long (xL g 113 10)), none] [] g = some r) : xX (d + 1) mX12_readLine 0 [some (.ref 113), none, none] [] g = some r :=
  Y_aload_n dX12_readLine_0 rfl <| Y_getJ dX12_readLine_1 f_11_261 ft_11_10 (xis W 113 11 s_113 (Nat.le_of_ble_eq_true rfl)) <| Y_lstore_n dX12_readLine_4 rfl rfl <| Y_aload_n dX12_readLine_5 rfl <| Y_getI dX12_readLine_6 f_11_254 ft_11_8 (xis W 113 11 s_113 (Nat.le_of_ble_eq_true rfl)) <| Y_iconst 3 dX12_readLine_9 ic_3 <| Y_ne 20 dX12_readLine_10 rfl (fun q => X_le (xle_s (xle_s (xle_n xle_0))) (k1 q)) (fun q => X_le (xle_s (xle_s (xle_n xle_0))) (k2 q))
theorem bX12_readLine_13 {d : Nat} {g : xSt} {r : Option Value × xSt} {a1 : Int64} {r14 : Int32} {g14 : xSt} (W : xWf g) (hk14 : xCallM d mX12_isFull [.ref 113] g = some (some (.int r14), g14)) (W14 : xWf g14) (k1 : r14 = 0 → xX (d + 1) mX12_readLine 24 [some (.ref 113), some (.long a1), none] [] g14 = some r) (k2 : ¬ (r14 = 0) → xX (d + 1) mX12_readLine 20 [some (.ref 113), some (.long a1), none] [] g14 = some r) : xX (d + 1) mX12_readLine 13 [some (.ref 113), some (.long a1), none] [] g = some r :=
  Y_aload_n dX12_readLine_13 rfl <| Y_callV1 dX12_readLine_14 cl_11_319 rfl rfl (xis W 113 11 s_113 (Nat.le_of_ble_eq_true rfl)) rfl rfl rfl (hk14) <| Y_eq0 24 dX12_readLine_17 rfl (fun q => X_le (xle_s (xle_s (xle_n xle_0))) (k1 q)) (fun q => X_le (xle_s (xle_s (xle_n xle_0))) (k2 q))
theorem bX12_readLine_20 {d : Nat} {g : xSt} {r : Option Value × xSt} {a1 : Int64} {g21 : xSt} (W : xWf g) (hk21 : xCallM d mX12_misplaced [.ref 113] g = some (none, g21)) (W21 : xWf g21) (k : xX (d + 1) mX12_readLine 24 [some (.ref 113), some (.long a1), none] [] g21 = some r) : xX (d + 1) mX12_readLine 20 [some (.ref 113), some (.long a1), none] [] g = some r :=
  Y_aload_n dX12_readLine_20 rfl <| Y_callV0 dX12_readLine_21 cl_11_286 rfl rfl (xis W 113 11 s_113 (Nat.le_of_ble_eq_true rfl)) rfl rfl rfl (hk21) <| X_le (xle_s (xle_s (xle_n xle_0))) k
theorem bX12_readLine_24 {d : Nat} {g : xSt} {r : Option Value × xSt} {a1 : Int64} {r25 : Int32} {g25 : xSt} (W : xWf g) (hk25 : xCallM d mX12_isGood [.ref 113] g = some (some (.int r25), g25)) (W25 : xWf g25) (k1 : r25 = 0 → xX (d + 1) mX12_readLine 31 [none, none, none] [] g25 = some r) (k2 : ¬ (r25 = 0) → xX (d + 1) mX12_readLine 32 [some (.ref 113), some (.long a1), none] [] g25 = some r) : xX (d + 1) mX12_readLine 24 [some (.ref 113), some (.long a1), none] [] g = some r :=
  Y_aload_n dX12_readLine_24 rfl <| Y_callV1 dX12_readLine_25 cl_11_279 rfl rfl (xis W 113 11 s_113 (Nat.le_of_ble_eq_true rfl)) rfl rfl rfl (hk25) <| Y_ne0 32 dX12_readLine_28 rfl (fun q => X_le (xle_n (xle_n (xle_n xle_0))) (k1 q)) (fun q => X_le (xle_s (xle_s (xle_n xle_0))) (k2 q))
theorem bX12_readLine_31 {d : Nat} {g : xSt} {r : Option Value × xSt}  (k : r = (none, g)) : xX (d + 1) mX12_readLine 31 [none, none, none] [] g = some r :=
  Y_ret dX12_readLine_31 rfl k
theorem bX12_readLine_32 {d : Nat} {g : xSt} {r : Option Value × xSt} {a1 : Int64} {g33 : xSt} (W : xWf g) (hk33 : xCallM d mX12_goOn [.ref 113] g = some (none, g33)) (W33 : xWf g33) (k1 : (lg_cmp a1 500219604595) = 0 → xX (d + 1) mX12_readLine 44 [some (.ref 113), some (.long a1), none] [] g33 = some r) (k2 : ¬ ((lg_cmp a1 500219604595) = 0) → xX (d + 1) mX12_readLine 54 [some (.ref 113), some (.long a1), none] [] g33 = some r) : xX (d + 1) mX12_readLine 32 [some (.ref 113), some (.long a1), none] [] g = some r :=
  Y_aload_n dX12_readLine_32 rfl <| Y_callV0 dX12_readLine_33 cl_11_283 rfl rfl (xis W 113 11 s_113 (Nat.le_of_ble_eq_true rfl)) rfl rfl rfl (hk33) <| Y_lload_n dX12_readLine_36 rfl <| Y_ldc2 dX12_readLine_37 kl_11_234 <| Y_lcmp dX12_readLine_40 <| Y_ne0 54 dX12_readLine_41 rfl (fun q => X_le (xle_s (xle_s (xle_n xle_0))) (k1 q)) (fun q => X_le (xle_s (xle_s (xle_n xle_0))) (k2 q))
theorem bX12_readLine_44 {d : Nat} {g : xSt} {r : Option Value × xSt} {a1 : Int64} (W : xWf g) (hi53 : vp_in (xI g 113 31) 2) (k : xX (d + 1) mX12_readLine 54 [some (.ref 113), some (.long a1), none] [] (xWI g 121 (xI g 113 31).toNatClampNeg 1) = some r) : xX (d + 1) mX12_readLine 44 [some (.ref 113), some (.long a1), none] [] g = some r :=
  Y_aload_n dX12_readLine_44 rfl <| Y_getR dX12_readLine_45 f_11_36 (by rw [ft_11_16]; rfl) (xis W 113 11 s_113 (Nat.le_of_ble_eq_true rfl)) (xptr W 113 16 p_113_16) <| Y_aload_n dX12_readLine_48 rfl <| Y_getI dX12_readLine_49 f_11_289 ft_11_31 (xis W 113 11 s_113 (Nat.le_of_ble_eq_true rfl)) <| Y_iconst 1 dX12_readLine_52 ic_1 <| Y_zast dX12_readLine_53 (xarr W (o := 121) s_121 (Nat.le_of_ble_eq_true rfl)) hi53 (by decide) <| X_le (xle_s (xle_s (xle_n xle_0))) k
theorem bX12_readLine_54 {d : Nat} {g : xSt} {r : Option Value × xSt} {a1 : Int64} (k1 : (lg_cmp a1 126943821523827) = 0 → xX (d + 1) mX12_readLine 62 [some (.ref 113), some (.long a1), none] [] g = some r) (k2 : ¬ ((lg_cmp a1 126943821523827) = 0) → xX (d + 1) mX12_readLine 88 [some (.ref 113), some (.long a1), none] [] g = some r) : xX (d + 1) mX12_readLine 54 [some (.ref 113), some (.long a1), none] [] g = some r :=
  Y_lload_n dX12_readLine_54 rfl <| Y_ldc2 dX12_readLine_55 kl_11_236 <| Y_lcmp dX12_readLine_58 <| Y_ne0 88 dX12_readLine_59 rfl (fun q => X_le (xle_s (xle_s (xle_n xle_0))) (k1 q)) (fun q => X_le (xle_s (xle_s (xle_n xle_0))) (k2 q))
theorem bX12_readLine_62 {d : Nat} {g : xSt} {r : Option Value × xSt} {a1 : Int64} {r84 : Int32} {g84 : xSt} (W : xWf g) (hi71 : vp_in (xI g 113 31) 2) (hk84 : xCallM d mX12_numeral [.ref 113, .int 0, .int 99] (xWI g 122 (xI g 113 31).toNatClampNeg 1) = some (some (.int r84), g84)) (W84 : xWf g84) (hi87 : vp_in (xI g 113 31) 2) (k : xX (d + 1) mX12_readLine 88 [some (.ref 113), some (.long a1), none] [] (xWI g84 117 (xI g 113 31).toNatClampNeg r84) = some r) : xX (d + 1) mX12_readLine 62 [some (.ref 113), some (.long a1), none] [] g = some r :=
  Y_aload_n dX12_readLine_62 rfl <| Y_getR dX12_readLine_63 f_11_40 (by rw [ft_11_17]; rfl) (xis W 113 11 s_113 (Nat.le_of_ble_eq_true rfl)) (xptr W 113 17 p_113_17) <| Y_aload_n dX12_readLine_66 rfl <| Y_getI dX12_readLine_67 f_11_289 ft_11_31 (xis W 113 11 s_113 (Nat.le_of_ble_eq_true rfl)) <| Y_iconst 1 dX12_readLine_70 ic_1 <| Y_zast dX12_readLine_71 (xarr W (o := 122) s_122 (Nat.le_of_ble_eq_true rfl)) hi71 (by decide) <| Y_aload_n dX12_readLine_72 rfl <| Y_getR dX12_readLine_73 f_11_24 (by rw [ft_11_12]; rfl) (xis W 113 11 s_113 (Nat.le_of_ble_eq_true rfl)) (xptr W 113 12 p_113_12) <| Y_aload_n dX12_readLine_76 rfl <| Y_getI dX12_readLine_77 f_11_289 ft_11_31 (xis W 113 11 s_113 (Nat.le_of_ble_eq_true rfl)) <| Y_aload_n dX12_readLine_80 rfl <| Y_iconst 0 dX12_readLine_81 ic_0 <| Y_bipush 99 dX12_readLine_82 bp_99 <| Y_callV1 dX12_readLine_84 cl_11_322 rfl rfl (xis W 113 11 s_113 (Nat.le_of_ble_eq_true rfl)) rfl rfl rfl (hk84) <| Y_iast dX12_readLine_87 (xarr W84 (o := 117) s_117 (Nat.le_of_ble_eq_true rfl)) hi87 <| X_le (xle_s (xle_s (xle_n xle_0))) k
theorem bX12_readLine_88 {d : Nat} {g : xSt} {r : Option Value × xSt} {a1 : Int64} (k1 : (lg_cmp a1 499967946343) = 0 → xX (d + 1) mX12_readLine 96 [some (.ref 113), some (.long a1), none] [] g = some r) (k2 : ¬ ((lg_cmp a1 499967946343) = 0) → xX (d + 1) mX12_readLine 100 [some (.ref 113), some (.long a1), none] [] g = some r) : xX (d + 1) mX12_readLine 88 [some (.ref 113), some (.long a1), none] [] g = some r :=
  Y_lload_n dX12_readLine_88 rfl <| Y_ldc2 dX12_readLine_89 kl_11_230 <| Y_lcmp dX12_readLine_92 <| Y_ne0 100 dX12_readLine_93 rfl (fun q => X_le (xle_s (xle_s (xle_n xle_0))) (k1 q)) (fun q => X_le (xle_s (xle_s (xle_n xle_0))) (k2 q))
theorem bX12_readLine_96 {d : Nat} {g : xSt} {r : Option Value × xSt} {a1 : Int64} {g97 : xSt} (W : xWf g) (hk97 : xCallM d mX12_readThing [.ref 113] g = some (none, g97)) (W97 : xWf g97) (k : xX (d + 1) mX12_readLine 100 [some (.ref 113), some (.long a1), none] [] g97 = some r) : xX (d + 1) mX12_readLine 96 [some (.ref 113), some (.long a1), none] [] g = some r :=
  Y_aload_n dX12_readLine_96 rfl <| Y_callV0 dX12_readLine_97 cl_11_326 rfl rfl (xis W 113 11 s_113 (Nat.le_of_ble_eq_true rfl)) rfl rfl rfl (hk97) <| X_le (xle_s (xle_s (xle_n xle_0))) k
theorem bX12_readLine_100 {d : Nat} {g : xSt} {r : Option Value × xSt} {a1 : Int64} (k1 : (lg_cmp a1 7499639) = 0 → xX (d + 1) mX12_readLine 108 [some (.ref 113), some (.long a1), none] [] g = some r) (k2 : ¬ ((lg_cmp a1 7499639) = 0) → xX (d + 1) mX12_readLine 112 [some (.ref 113), some (.long a1), none] [] g = some r) : xX (d + 1) mX12_readLine 100 [some (.ref 113), some (.long a1), none] [] g = some r :=
  Y_lload_n dX12_readLine_100 rfl <| Y_ldc2 dX12_readLine_101 kl_11_238 <| Y_lcmp dX12_readLine_104 <| Y_ne0 112 dX12_readLine_105 rfl (fun q => X_le (xle_s (xle_s (xle_n xle_0))) (k1 q)) (fun q => X_le (xle_s (xle_s (xle_n xle_0))) (k2 q))
theorem bX12_readLine_108 {d : Nat} {g : xSt} {r : Option Value × xSt} {a1 : Int64} {g109 : xSt} (W : xWf g) (hk109 : xCallM d mX12_readRow [.ref 113] g = some (none, g109)) (W109 : xWf g109) (k : xX (d + 1) mX12_readLine 112 [some (.ref 113), some (.long a1), none] [] g109 = some r) : xX (d + 1) mX12_readLine 108 [some (.ref 113), some (.long a1), none] [] g = some r :=
  Y_aload_n dX12_readLine_108 rfl <| Y_callV0 dX12_readLine_109 cl_11_329 rfl rfl (xis W 113 11 s_113 (Nat.le_of_ble_eq_true rfl)) rfl rfl rfl (hk109) <| X_le (xle_s (xle_s (xle_n xle_0))) k
theorem bX12_readLine_112 {d : Nat} {g : xSt} {r : Option Value × xSt} {a1 : Int64} (k1 : (lg_cmp a1 1886151022) = 0 → xX (d + 1) mX12_readLine 120 [some (.ref 113), none, none] [] g = some r) (k2 : ¬ ((lg_cmp a1 1886151022) = 0) → xX (d + 1) mX12_readLine 124 [some (.ref 113), none, none] [] g = some r) : xX (d + 1) mX12_readLine 112 [some (.ref 113), some (.long a1), none] [] g = some r :=
  Y_lload_n dX12_readLine_112 rfl <| Y_ldc2 dX12_readLine_113 kl_11_240 <| Y_lcmp dX12_readLine_116 <| Y_ne0 124 dX12_readLine_117 rfl (fun q => X_le (xle_s (xle_n (xle_n xle_0))) (k1 q)) (fun q => X_le (xle_s (xle_n (xle_n xle_0))) (k2 q))
theorem bX12_readLine_120 {d : Nat} {g : xSt} {r : Option Value × xSt} {g121 : xSt} (W : xWf g) (hk121 : xCallM d mX12_readPlan [.ref 113] g = some (none, g121)) (W121 : xWf g121) (k : xX (d + 1) mX12_readLine 124 [some (.ref 113), none, none] [] g121 = some r) : xX (d + 1) mX12_readLine 120 [some (.ref 113), none, none] [] g = some r :=
  Y_aload_n dX12_readLine_120 rfl <| Y_callV0 dX12_readLine_121 cl_11_332 rfl rfl (xis W 113 11 s_113 (Nat.le_of_ble_eq_true rfl)) rfl rfl rfl (hk121) <| X_le (xle_s (xle_n (xle_n xle_0))) k
theorem bX12_readLine_124 {d : Nat} {g : xSt} {r : Option Value × xSt} {r128 : Int32} {g128 g131 : xSt} (W : xWf g) (hk128 : xCallM d mX12_isSignHere [.ref 113, .int 59] g = some (some (.int r128), g128)) (W128 : xWf g128) (hk131 : xCallM d mX12_must [.ref 113, .int r128] g128 = some (none, g131)) (W131 : xWf g131) (k : r = (none, g131)) : xX (d + 1) mX12_readLine 124 [some (.ref 113), none, none] [] g = some r :=
  Y_aload_n dX12_readLine_124 rfl <| Y_aload_n dX12_readLine_125 rfl <| Y_bipush 59 dX12_readLine_126 bp_59 <| Y_callV1 dX12_readLine_128 cl_11_335 rfl rfl (xis W 113 11 s_113 (Nat.le_of_ble_eq_true rfl)) rfl rfl rfl (hk128) <| Y_callV0 dX12_readLine_131 cl_11_338 rfl rfl (xis W128 113 11 s_113 (Nat.le_of_ble_eq_true rfl)) rfl rfl rfl (hk131) <| Y_ret dX12_readLine_134 rfl k
theorem bX12_isFull_0 {d : Nat} {g : xSt} {r : Option Value × xSt} {r4 : Int32} {g4 : xSt} (W : xWf g) (hk4 : xCallM d mX12_isWord [.ref 113, .long 499967946343] g = some (some (.int r4), g4)) (W4 : xWf g4) (k1 : r4 = 0 → xX (d + 1) mX12_isFull 29 [some (.ref 113)] [] g4 = some r) (k2 : ¬ (r4 = 0) → xX (d + 1) mX12_isFull 10 [some (.ref 113)] [] g4 = some r) : xX (d + 1) mX12_isFull 0 [some (.ref 113)] [] g = some r :=
  Y_aload_n dX12_isFull_0 rfl <| Y_ldc2 dX12_isFull_1 kl_11_230 <| Y_callV1 dX12_isFull_4 cl_11_316 rfl rfl (xis W 113 11 s_113 (Nat.le_of_ble_eq_true rfl)) rfl rfl rfl (hk4) <| Y_eq0 29 dX12_isFull_7 rfl (fun q => X_le (xle_s xle_0) (k1 q)) (fun q => X_le (xle_s xle_0) (k2 q))
theorem bX12_isFull_10 {d : Nat} {g : xSt} {r : Option Value × xSt}  (W : xWf g) (hi18 : vp_in (xI g 113 31) 2) (k1 : (xI g 116 (xI g 113 31).toNatClampNeg) = 5 → xX (d + 1) mX12_isFull 23 [none] [] g = some r) (k2 : ¬ ((xI g 116 (xI g 113 31).toNatClampNeg) = 5) → xX (d + 1) mX12_isFull 27 [none] [] g = some r) : xX (d + 1) mX12_isFull 10 [some (.ref 113)] [] g = some r :=
  Y_aload_n dX12_isFull_10 rfl <| Y_getR dX12_isFull_11 f_11_20 (by rw [ft_11_11]; rfl) (xis W 113 11 s_113 (Nat.le_of_ble_eq_true rfl)) (xptr W 113 11 p_113_11) <| Y_aload_n dX12_isFull_14 rfl <| Y_getI dX12_isFull_15 f_11_289 ft_11_31 (xis W 113 11 s_113 (Nat.le_of_ble_eq_true rfl)) <| Y_iald dX12_isFull_18 (xarr W (o := 116) s_116 (Nat.le_of_ble_eq_true rfl)) hi18 <| Y_iconst 5 dX12_isFull_19 ic_5 <| Y_ne 27 dX12_isFull_20 rfl (fun q => X_le (xle_n xle_0) (k1 q)) (fun q => X_le (xle_n xle_0) (k2 q))
theorem bX12_isFull_23 {d : Nat} {g : xSt} {r : Option Value × xSt}  (k : xX (d + 1) mX12_isFull 28 [none] [.int 1] g = some r) : xX (d + 1) mX12_isFull 23 [none] [] g = some r :=
  Y_iconst 1 dX12_isFull_23 ic_1 <| Y_goto 28 dX12_isFull_24 rfl <| X_le (xle_n xle_0) k
theorem bX12_isFull_27 {d : Nat} {g : xSt} {r : Option Value × xSt}  (k : xX (d + 1) mX12_isFull 28 [none] [.int 0] g = some r) : xX (d + 1) mX12_isFull 27 [none] [] g = some r :=
  Y_iconst 0 dX12_isFull_27 ic_0 <| X_le (xle_n xle_0) k
theorem bX12_isFull_28 {d : Nat} {g : xSt} {r : Option Value × xSt} {s0 : Int32} (hz28 : s0 = 0 ∨ s0 = 1) (k : r = (some (.int s0), g)) : xX (d + 1) mX12_isFull 28 [none] [.int s0] g = some r :=
  Y_zret dX12_isFull_28 rfl (hz28) k
theorem bX12_isFull_29 {d : Nat} {g : xSt} {r : Option Value × xSt} {r33 : Int32} {g33 : xSt} (W : xWf g) (hk33 : xCallM d mX12_isWord [.ref 113, .long 500219604595] g = some (some (.int r33), g33)) (W33 : xWf g33) (k1 : r33 = 0 → xX (d + 1) mX12_isFull 49 [some (.ref 113)] [] g33 = some r) (k2 : ¬ (r33 = 0) → xX (d + 1) mX12_isFull 39 [some (.ref 113)] [] g33 = some r) : xX (d + 1) mX12_isFull 29 [some (.ref 113)] [] g = some r :=
  Y_aload_n dX12_isFull_29 rfl <| Y_ldc2 dX12_isFull_30 kl_11_234 <| Y_callV1 dX12_isFull_33 cl_11_316 rfl rfl (xis W 113 11 s_113 (Nat.le_of_ble_eq_true rfl)) rfl rfl rfl (hk33) <| Y_eq0 49 dX12_isFull_36 rfl (fun q => X_le (xle_s xle_0) (k1 q)) (fun q => X_le (xle_s xle_0) (k2 q))
theorem bX12_isFull_39 {d : Nat} {g : xSt} {r : Option Value × xSt}  (W : xWf g) (hi47 : vp_in (xI g 113 31) 2) (hz48 : (xI g 121 (xI g 113 31).toNatClampNeg) = 0 ∨ (xI g 121 (xI g 113 31).toNatClampNeg) = 1) (k : r = (some (.int (xI g 121 (xI g 113 31).toNatClampNeg)), g)) : xX (d + 1) mX12_isFull 39 [some (.ref 113)] [] g = some r :=
  Y_aload_n dX12_isFull_39 rfl <| Y_getR dX12_isFull_40 f_11_36 (by rw [ft_11_16]; rfl) (xis W 113 11 s_113 (Nat.le_of_ble_eq_true rfl)) (xptr W 113 16 p_113_16) <| Y_aload_n dX12_isFull_43 rfl <| Y_getI dX12_isFull_44 f_11_289 ft_11_31 (xis W 113 11 s_113 (Nat.le_of_ble_eq_true rfl)) <| Y_zald dX12_isFull_47 (xarr W (o := 121) s_121 (Nat.le_of_ble_eq_true rfl)) hi47 <| Y_zret dX12_isFull_48 rfl (hz48) k
theorem bX12_isFull_49 {d : Nat} {g : xSt} {r : Option Value × xSt} {r53 : Int32} {g53 : xSt} (W : xWf g) (hk53 : xCallM d mX12_isWord [.ref 113, .long 126943821523827] g = some (some (.int r53), g53)) (W53 : xWf g53) (k1 : r53 = 0 → xX (d + 1) mX12_isFull 69 [some (.ref 113)] [] g53 = some r) (k2 : ¬ (r53 = 0) → xX (d + 1) mX12_isFull 59 [some (.ref 113)] [] g53 = some r) : xX (d + 1) mX12_isFull 49 [some (.ref 113)] [] g = some r :=
  Y_aload_n dX12_isFull_49 rfl <| Y_ldc2 dX12_isFull_50 kl_11_236 <| Y_callV1 dX12_isFull_53 cl_11_316 rfl rfl (xis W 113 11 s_113 (Nat.le_of_ble_eq_true rfl)) rfl rfl rfl (hk53) <| Y_eq0 69 dX12_isFull_56 rfl (fun q => X_le (xle_s xle_0) (k1 q)) (fun q => X_le (xle_s xle_0) (k2 q))
theorem bX12_isFull_59 {d : Nat} {g : xSt} {r : Option Value × xSt}  (W : xWf g) (hi67 : vp_in (xI g 113 31) 2) (hz68 : (xI g 122 (xI g 113 31).toNatClampNeg) = 0 ∨ (xI g 122 (xI g 113 31).toNatClampNeg) = 1) (k : r = (some (.int (xI g 122 (xI g 113 31).toNatClampNeg)), g)) : xX (d + 1) mX12_isFull 59 [some (.ref 113)] [] g = some r :=
  Y_aload_n dX12_isFull_59 rfl <| Y_getR dX12_isFull_60 f_11_40 (by rw [ft_11_17]; rfl) (xis W 113 11 s_113 (Nat.le_of_ble_eq_true rfl)) (xptr W 113 17 p_113_17) <| Y_aload_n dX12_isFull_63 rfl <| Y_getI dX12_isFull_64 f_11_289 ft_11_31 (xis W 113 11 s_113 (Nat.le_of_ble_eq_true rfl)) <| Y_zald dX12_isFull_67 (xarr W (o := 122) s_122 (Nat.le_of_ble_eq_true rfl)) hi67 <| Y_zret dX12_isFull_68 rfl (hz68) k
theorem bX12_isFull_69 {d : Nat} {g : xSt} {r : Option Value × xSt} {r73 : Int32} {g73 : xSt} (W : xWf g) (hk73 : xCallM d mX12_isWord [.ref 113, .long 1886151022] g = some (some (.int r73), g73)) (W73 : xWf g73) (k1 : r73 = 0 → xX (d + 1) mX12_isFull 98 [some (.ref 113)] [] g73 = some r) (k2 : ¬ (r73 = 0) → xX (d + 1) mX12_isFull 79 [some (.ref 113)] [] g73 = some r) : xX (d + 1) mX12_isFull 69 [some (.ref 113)] [] g = some r :=
  Y_aload_n dX12_isFull_69 rfl <| Y_ldc2 dX12_isFull_70 kl_11_240 <| Y_callV1 dX12_isFull_73 cl_11_316 rfl rfl (xis W 113 11 s_113 (Nat.le_of_ble_eq_true rfl)) rfl rfl rfl (hk73) <| Y_eq0 98 dX12_isFull_76 rfl (fun q => X_le (xle_s xle_0) (k1 q)) (fun q => X_le (xle_s xle_0) (k2 q))
theorem bX12_isFull_79 {d : Nat} {g : xSt} {r : Option Value × xSt}  (W : xWf g) (hi87 : vp_in (xI g 113 31) 2) (k1 : (xI g 126 (xI g 113 31).toNatClampNeg) = 3 → xX (d + 1) mX12_isFull 92 [none] [] g = some r) (k2 : ¬ ((xI g 126 (xI g 113 31).toNatClampNeg) = 3) → xX (d + 1) mX12_isFull 96 [none] [] g = some r) : xX (d + 1) mX12_isFull 79 [some (.ref 113)] [] g = some r :=
  Y_aload_n dX12_isFull_79 rfl <| Y_getR dX12_isFull_80 f_11_53 (by rw [ft_11_21]; rfl) (xis W 113 11 s_113 (Nat.le_of_ble_eq_true rfl)) (xptr W 113 21 p_113_21) <| Y_aload_n dX12_isFull_83 rfl <| Y_getI dX12_isFull_84 f_11_289 ft_11_31 (xis W 113 11 s_113 (Nat.le_of_ble_eq_true rfl)) <| Y_iald dX12_isFull_87 (xarr W (o := 126) s_126 (Nat.le_of_ble_eq_true rfl)) hi87 <| Y_iconst 3 dX12_isFull_88 ic_3 <| Y_ne 96 dX12_isFull_89 rfl (fun q => X_le (xle_n xle_0) (k1 q)) (fun q => X_le (xle_n xle_0) (k2 q))
theorem bX12_isFull_92 {d : Nat} {g : xSt} {r : Option Value × xSt}  (k : xX (d + 1) mX12_isFull 97 [none] [.int 1] g = some r) : xX (d + 1) mX12_isFull 92 [none] [] g = some r :=
  Y_iconst 1 dX12_isFull_92 ic_1 <| Y_goto 97 dX12_isFull_93 rfl <| X_le (xle_n xle_0) k
theorem bX12_isFull_96 {d : Nat} {g : xSt} {r : Option Value × xSt}  (k : xX (d + 1) mX12_isFull 97 [none] [.int 0] g = some r) : xX (d + 1) mX12_isFull 96 [none] [] g = some r :=
  Y_iconst 0 dX12_isFull_96 ic_0 <| X_le (xle_n xle_0) k
theorem bX12_isFull_97 {d : Nat} {g : xSt} {r : Option Value × xSt} {s0 : Int32} (hz97 : s0 = 0 ∨ s0 = 1) (k : r = (some (.int s0), g)) : xX (d + 1) mX12_isFull 97 [none] [.int s0] g = some r :=
  Y_zret dX12_isFull_97 rfl (hz97) k
theorem bX12_isFull_98 {d : Nat} {g : xSt} {r : Option Value × xSt} {r102 : Int32} {g102 : xSt} (W : xWf g) (hk102 : xCallM d mX12_isWord [.ref 113, .long 7499639] g = some (some (.int r102), g102)) (W102 : xWf g102) (k1 : r102 = 0 → xX (d + 1) mX12_isFull 120 [none] [] g102 = some r) (k2 : ¬ (r102 = 0) → xX (d + 1) mX12_isFull 108 [some (.ref 113)] [] g102 = some r) : xX (d + 1) mX12_isFull 98 [some (.ref 113)] [] g = some r :=
  Y_aload_n dX12_isFull_98 rfl <| Y_ldc2 dX12_isFull_99 kl_11_238 <| Y_callV1 dX12_isFull_102 cl_11_316 rfl rfl (xis W 113 11 s_113 (Nat.le_of_ble_eq_true rfl)) rfl rfl rfl (hk102) <| Y_eq0 120 dX12_isFull_105 rfl (fun q => X_le (xle_n xle_0) (k1 q)) (fun q => X_le (xle_s xle_0) (k2 q))
theorem bX12_isFull_108 {d : Nat} {g : xSt} {r : Option Value × xSt}  (W : xWf g) (hi116 : vp_in (xI g 113 31) 2) (k1 : (xI g 123 (xI g 113 31).toNatClampNeg) = 0 → xX (d + 1) mX12_isFull 124 [none] [] g = some r) (k2 : ¬ ((xI g 123 (xI g 113 31).toNatClampNeg) = 0) → xX (d + 1) mX12_isFull 120 [none] [] g = some r) : xX (d + 1) mX12_isFull 108 [some (.ref 113)] [] g = some r :=
  Y_aload_n dX12_isFull_108 rfl <| Y_getR dX12_isFull_109 f_11_43 (by rw [ft_11_18]; rfl) (xis W 113 11 s_113 (Nat.le_of_ble_eq_true rfl)) (xptr W 113 18 p_113_18) <| Y_aload_n dX12_isFull_112 rfl <| Y_getI dX12_isFull_113 f_11_289 ft_11_31 (xis W 113 11 s_113 (Nat.le_of_ble_eq_true rfl)) <| Y_zald dX12_isFull_116 (xarr W (o := 123) s_123 (Nat.le_of_ble_eq_true rfl)) hi116 <| Y_eq0 124 dX12_isFull_117 rfl (fun q => X_le (xle_n xle_0) (k1 q)) (fun q => X_le (xle_n xle_0) (k2 q))
theorem bX12_isFull_120 {d : Nat} {g : xSt} {r : Option Value × xSt}  (k : xX (d + 1) mX12_isFull 125 [none] [.int 1] g = some r) : xX (d + 1) mX12_isFull 120 [none] [] g = some r :=
  Y_iconst 1 dX12_isFull_120 ic_1 <| Y_goto 125 dX12_isFull_121 rfl <| X_le (xle_n xle_0) k
theorem bX12_isFull_124 {d : Nat} {g : xSt} {r : Option Value × xSt}  (k : xX (d + 1) mX12_isFull 125 [none] [.int 0] g = some r) : xX (d + 1) mX12_isFull 124 [none] [] g = some r :=
  Y_iconst 0 dX12_isFull_124 ic_0 <| X_le (xle_n xle_0) k
theorem bX12_isFull_125 {d : Nat} {g : xSt} {r : Option Value × xSt} {s0 : Int32} (hz125 : s0 = 0 ∨ s0 = 1) (k : r = (some (.int s0), g)) : xX (d + 1) mX12_isFull 125 [none] [.int s0] g = some r :=
  Y_zret dX12_isFull_125 rfl (hz125) k
theorem bX12_isWord_0 {d : Nat} {g : xSt} {r : Option Value × xSt} {a1 : Int64} (W : xWf g) (k1 : (xI g 113 8) = 3 → xX d mX12_isWord 8 [some (.ref 113), some (.long a1), none] [] g = some r) (k2 : ¬ ((xI g 113 8) = 3) → xX d mX12_isWord 21 [none, none, none] [] g = some r) : xX d mX12_isWord 0 [some (.ref 113), some (.long a1), none] [] g = some r :=
  Y_aload_n dX12_isWord_0 rfl <| Y_getI dX12_isWord_1 f_11_254 ft_11_8 (xis W 113 11 s_113 (Nat.le_of_ble_eq_true rfl)) <| Y_iconst 3 dX12_isWord_4 ic_3 <| Y_ne 21 dX12_isWord_5 rfl (fun q => X_le (xle_s (xle_s (xle_n xle_0))) (k1 q)) (fun q => X_le (xle_n (xle_n (xle_n xle_0))) (k2 q))
theorem bX12_isWord_8 {d : Nat} {g : xSt} {r : Option Value × xSt} {a1 : Int64} (W : xWf g) (k1 : (lg_cmp (xL g 113 10) a1) = 0 → xX d mX12_isWord 17 [none, none, none] [] g = some r) (k2 : ¬ ((lg_cmp (xL g 113 10) a1) = 0) → xX d mX12_isWord 21 [none, none, none] [] g = some r) : xX d mX12_isWord 8 [some (.ref 113), some (.long a1), none] [] g = some r :=
  Y_aload_n dX12_isWord_8 rfl <| Y_getJ dX12_isWord_9 f_11_261 ft_11_10 (xis W 113 11 s_113 (Nat.le_of_ble_eq_true rfl)) <| Y_lload_n dX12_isWord_12 rfl <| Y_lcmp dX12_isWord_13 <| Y_ne0 21 dX12_isWord_14 rfl (fun q => X_le (xle_n (xle_n (xle_n xle_0))) (k1 q)) (fun q => X_le (xle_n (xle_n (xle_n xle_0))) (k2 q))
theorem bX12_isWord_17 {d : Nat} {g : xSt} {r : Option Value × xSt}  (k : xX d mX12_isWord 22 [none, none, none] [.int 1] g = some r) : xX d mX12_isWord 17 [none, none, none] [] g = some r :=
  Y_iconst 1 dX12_isWord_17 ic_1 <| Y_goto 22 dX12_isWord_18 rfl <| X_le (xle_n (xle_n (xle_n xle_0))) k
theorem bX12_isWord_21 {d : Nat} {g : xSt} {r : Option Value × xSt}  (k : xX d mX12_isWord 22 [none, none, none] [.int 0] g = some r) : xX d mX12_isWord 21 [none, none, none] [] g = some r :=
  Y_iconst 0 dX12_isWord_21 ic_0 <| X_le (xle_n (xle_n (xle_n xle_0))) k
theorem bX12_isWord_22 {d : Nat} {g : xSt} {r : Option Value × xSt} {s0 : Int32} (hz22 : s0 = 0 ∨ s0 = 1) (k : r = (some (.int s0), g)) : xX d mX12_isWord 22 [none, none, none] [.int s0] g = some r :=
  Y_zret dX12_isWord_22 rfl (hz22) k
theorem bX12_misplaced_0 {d : Nat} {g : xSt} {r : Option Value × xSt}  (W : xWf g) (k1 : (xI g 113 8) = 1 → xX (d + 1) mX12_misplaced 9 [some (.ref 113)] [.ref 113] g = some r) (k2 : ¬ ((xI g 113 8) = 1) → xX (d + 1) mX12_misplaced 13 [some (.ref 113)] [.ref 113] g = some r) : xX (d + 1) mX12_misplaced 0 [some (.ref 113)] [] g = some r :=
  Y_aload_n dX12_misplaced_0 rfl <| Y_aload_n dX12_misplaced_1 rfl <| Y_getI dX12_misplaced_2 f_11_254 ft_11_8 (xis W 113 11 s_113 (Nat.le_of_ble_eq_true rfl)) <| Y_iconst 1 dX12_misplaced_5 ic_1 <| Y_ne 13 dX12_misplaced_6 rfl (fun q => X_le (xle_s xle_0) (k1 q)) (fun q => X_le (xle_s xle_0) (k2 q))
theorem bX12_misplaced_9 {d : Nat} {g : xSt} {r : Option Value × xSt}  (k : xX (d + 1) mX12_misplaced 14 [some (.ref 113)] [.int 1, .ref 113] g = some r) : xX (d + 1) mX12_misplaced 9 [some (.ref 113)] [.ref 113] g = some r :=
  Y_iconst 1 dX12_misplaced_9 ic_1 <| Y_goto 14 dX12_misplaced_10 rfl <| X_le (xle_s xle_0) k
theorem bX12_misplaced_13 {d : Nat} {g : xSt} {r : Option Value × xSt}  (k : xX (d + 1) mX12_misplaced 14 [some (.ref 113)] [.int 2, .ref 113] g = some r) : xX (d + 1) mX12_misplaced 13 [some (.ref 113)] [.ref 113] g = some r :=
  Y_iconst 2 dX12_misplaced_13 ic_2 <| X_le (xle_s xle_0) k
theorem bX12_misplaced_14 {d : Nat} {g : xSt} {r : Option Value × xSt} {s0 : Int32} {g18 : xSt} (W : xWf g) (hk18 : xCallM d mX12_fails [.ref 113, .int s0, .int (xI g 113 6)] g = some (none, g18)) (W18 : xWf g18) (k : r = (none, g18)) : xX (d + 1) mX12_misplaced 14 [some (.ref 113)] [.int s0, .ref 113] g = some r :=
  Y_aload_n dX12_misplaced_14 rfl <| Y_getI dX12_misplaced_15 f_11_247 ft_11_6 (xis W 113 11 s_113 (Nat.le_of_ble_eq_true rfl)) <| Y_callV0 dX12_misplaced_18 cl_11_275 rfl rfl (xis W 113 11 s_113 (Nat.le_of_ble_eq_true rfl)) rfl rfl rfl (hk18) <| Y_ret dX12_misplaced_21 rfl k
theorem bX12_fails_0 {d : Nat} {g : xSt} {r : Option Value × xSt} {a1 a2 : Int32} (W : xWf g) (k1 : (xI g 113 4) ≤ 0 → xX d mX12_fails 8 [some (.ref 113), some (.int a1), some (.int a2)] [] g = some r) (k2 : ¬ ((xI g 113 4) ≤ 0) → xX d mX12_fails 7 [none, none, none] [] g = some r) : xX d mX12_fails 0 [some (.ref 113), some (.int a1), some (.int a2)] [] g = some r :=
  Y_aload_n dX12_fails_0 rfl <| Y_getI dX12_fails_1 f_11_227 ft_11_4 (xis W 113 11 s_113 (Nat.le_of_ble_eq_true rfl)) <| Y_le0 8 dX12_fails_4 rfl (fun q => X_le (xle_s (xle_s (xle_s xle_0))) (k1 q)) (fun q => X_le (xle_n (xle_n (xle_n xle_0))) (k2 q))
theorem bX12_fails_7 {d : Nat} {g : xSt} {r : Option Value × xSt}  (k : r = (none, g)) : xX d mX12_fails 7 [none, none, none] [] g = some r :=
  Y_ret dX12_fails_7 rfl k
theorem bX12_fails_8 {d : Nat} {g : xSt} {r : Option Value × xSt} {a1 a2 : Int32} (W : xWf g) (k : r = (none, xWI (xWI g 113 4 a1) 113 5 a2)) : xX d mX12_fails 8 [some (.ref 113), some (.int a1), some (.int a2)] [] g = some r :=
  Y_aload_n dX12_fails_8 rfl <| Y_iload_n dX12_fails_9 rfl <| Y_putI dX12_fails_10 f_11_227 fn_11_4 ft_11_4 (xis W 113 11 s_113 (Nat.le_of_ble_eq_true rfl)) <| Y_aload_n dX12_fails_13 rfl <| Y_iload_n dX12_fails_14 rfl <| Y_putI dX12_fails_15 f_11_16 fn_11_5 ft_11_5 (xis W 113 11 s_113 (Nat.le_of_ble_eq_true rfl)) <| Y_ret dX12_fails_18 rfl k
theorem bX12_numeral_0 {d : Nat} {g : xSt} {r : Option Value × xSt} {a1 a2 r1 : Int32} {g1 : xSt} (W : xWf g) (hk1 : xCallM d mX12_isGood [.ref 113] g = some (some (.int r1), g1)) (W1 : xWf g1) (k1 : r1 = 0 → xX (d + 1) mX12_numeral 7 [none, some (.int a1), none, none] [] g1 = some r) (k2 : ¬ (r1 = 0) → xX (d + 1) mX12_numeral 9 [some (.ref 113), some (.int a1), some (.int a2), none] [] g1 = some r) : xX (d + 1) mX12_numeral 0 [some (.ref 113), some (.int a1), some (.int a2), none] [] g = some r :=
  Y_aload_n dX12_numeral_0 rfl <| Y_callV1 dX12_numeral_1 cl_11_279 rfl rfl (xis W 113 11 s_113 (Nat.le_of_ble_eq_true rfl)) rfl rfl rfl (hk1) <| Y_ne0 9 dX12_numeral_4 rfl (fun q => X_le (xle_n (xle_s (xle_n (xle_n xle_0)))) (k1 q)) (fun q => X_le (xle_s (xle_s (xle_s (xle_n xle_0)))) (k2 q))
theorem bX12_numeral_7 {d : Nat} {g : xSt} {r : Option Value × xSt} {a1 : Int32} (k : r = (some (.int a1), g)) : xX (d + 1) mX12_numeral 7 [none, some (.int a1), none, none] [] g = some r :=
  Y_iload_n dX12_numeral_7 rfl <| Y_iret dX12_numeral_8 rfl k
theorem bX12_numeral_9 {d : Nat} {g : xSt} {r : Option Value × xSt} {a1 a2 : Int32} (W : xWf g) (k1 : (xI g 113 8) = 4 → xX (d + 1) mX12_numeral 21 [some (.ref 113), some (.int a1), some (.int a2), none] [] g = some r) (k2 : ¬ ((xI g 113 8) = 4) → xX (d + 1) mX12_numeral 17 [some (.ref 113), some (.int a1), some (.int a2), none] [] g = some r) : xX (d + 1) mX12_numeral 9 [some (.ref 113), some (.int a1), some (.int a2), none] [] g = some r :=
  Y_aload_n dX12_numeral_9 rfl <| Y_getI dX12_numeral_10 f_11_254 ft_11_8 (xis W 113 11 s_113 (Nat.le_of_ble_eq_true rfl)) <| Y_iconst 4 dX12_numeral_13 ic_4 <| Y_eq 21 dX12_numeral_14 rfl (fun q => X_le (xle_s (xle_s (xle_s (xle_n xle_0)))) (k1 q)) (fun q => X_le (xle_s (xle_s (xle_s (xle_n xle_0)))) (k2 q))
theorem bX12_numeral_17 {d : Nat} {g : xSt} {r : Option Value × xSt} {a1 a2 : Int32} {g18 : xSt} (W : xWf g) (hk18 : xCallM d mX12_misplaced [.ref 113] g = some (none, g18)) (W18 : xWf g18) (k : xX (d + 1) mX12_numeral 21 [some (.ref 113), some (.int a1), some (.int a2), none] [] g18 = some r) : xX (d + 1) mX12_numeral 17 [some (.ref 113), some (.int a1), some (.int a2), none] [] g = some r :=
  Y_aload_n dX12_numeral_17 rfl <| Y_callV0 dX12_numeral_18 cl_11_286 rfl rfl (xis W 113 11 s_113 (Nat.le_of_ble_eq_true rfl)) rfl rfl rfl (hk18) <| X_le (xle_s (xle_s (xle_s (xle_n xle_0)))) k
theorem bX12_numeral_21 {d : Nat} {g : xSt} {r : Option Value × xSt} {a1 a2 r22 : Int32} {g22 : xSt} (W : xWf g) (hk22 : xCallM d mX12_isGood [.ref 113] g = some (some (.int r22), g22)) (W22 : xWf g22) (k1 : r22 = 0 → xX (d + 1) mX12_numeral 53 [some (.ref 113), some (.int a1), none, none] [] g22 = some r) (k2 : ¬ (r22 = 0) → xX (d + 1) mX12_numeral 28 [some (.ref 113), some (.int a1), some (.int a2), none] [] g22 = some r) : xX (d + 1) mX12_numeral 21 [some (.ref 113), some (.int a1), some (.int a2), none] [] g = some r :=
  Y_aload_n dX12_numeral_21 rfl <| Y_callV1 dX12_numeral_22 cl_11_279 rfl rfl (xis W 113 11 s_113 (Nat.le_of_ble_eq_true rfl)) rfl rfl rfl (hk22) <| Y_eq0 53 dX12_numeral_25 rfl (fun q => X_le (xle_s (xle_s (xle_n (xle_n xle_0)))) (k1 q)) (fun q => X_le (xle_s (xle_s (xle_s (xle_n xle_0)))) (k2 q))
theorem bX12_numeral_28 {d : Nat} {g : xSt} {r : Option Value × xSt} {a1 a2 : Int32} (W : xWf g) (k1 : (xI g 113 9) < a1 → xX (d + 1) mX12_numeral 44 [some (.ref 113), some (.int a1), none, none] [] g = some r) (k2 : ¬ ((xI g 113 9) < a1) → xX (d + 1) mX12_numeral 36 [some (.ref 113), some (.int a1), some (.int a2), none] [] g = some r) : xX (d + 1) mX12_numeral 28 [some (.ref 113), some (.int a1), some (.int a2), none] [] g = some r :=
  Y_aload_n dX12_numeral_28 rfl <| Y_getI dX12_numeral_29 f_11_272 ft_11_9 (xis W 113 11 s_113 (Nat.le_of_ble_eq_true rfl)) <| Y_iload_n dX12_numeral_32 rfl <| Y_lt 44 dX12_numeral_33 rfl (fun q => X_le (xle_s (xle_s (xle_n (xle_n xle_0)))) (k1 q)) (fun q => X_le (xle_s (xle_s (xle_s (xle_n xle_0)))) (k2 q))
theorem bX12_numeral_36 {d : Nat} {g : xSt} {r : Option Value × xSt} {a1 a2 : Int32} (W : xWf g) (k1 : (xI g 113 9) ≤ a2 → xX (d + 1) mX12_numeral 53 [some (.ref 113), some (.int a1), none, none] [] g = some r) (k2 : ¬ ((xI g 113 9) ≤ a2) → xX (d + 1) mX12_numeral 44 [some (.ref 113), some (.int a1), none, none] [] g = some r) : xX (d + 1) mX12_numeral 36 [some (.ref 113), some (.int a1), some (.int a2), none] [] g = some r :=
  Y_aload_n dX12_numeral_36 rfl <| Y_getI dX12_numeral_37 f_11_272 ft_11_9 (xis W 113 11 s_113 (Nat.le_of_ble_eq_true rfl)) <| Y_iload_n dX12_numeral_40 rfl <| Y_le 53 dX12_numeral_41 rfl (fun q => X_le (xle_s (xle_s (xle_n (xle_n xle_0)))) (k1 q)) (fun q => X_le (xle_s (xle_s (xle_n (xle_n xle_0)))) (k2 q))
theorem bX12_numeral_44 {d : Nat} {g : xSt} {r : Option Value × xSt} {a1 : Int32} {g50 : xSt} (W : xWf g) (hk50 : xCallM d mX12_fails [.ref 113, .int 4, .int (xI g 113 6)] g = some (none, g50)) (W50 : xWf g50) (k : xX (d + 1) mX12_numeral 53 [some (.ref 113), some (.int a1), none, none] [] g50 = some r) : xX (d + 1) mX12_numeral 44 [some (.ref 113), some (.int a1), none, none] [] g = some r :=
  Y_aload_n dX12_numeral_44 rfl <| Y_iconst 4 dX12_numeral_45 ic_4 <| Y_aload_n dX12_numeral_46 rfl <| Y_getI dX12_numeral_47 f_11_247 ft_11_6 (xis W 113 11 s_113 (Nat.le_of_ble_eq_true rfl)) <| Y_callV0 dX12_numeral_50 cl_11_275 rfl rfl (xis W 113 11 s_113 (Nat.le_of_ble_eq_true rfl)) rfl rfl rfl (hk50) <| X_le (xle_s (xle_s (xle_n (xle_n xle_0)))) k
theorem bX12_numeral_53 {d : Nat} {g : xSt} {r : Option Value × xSt} {a1 r59 : Int32} {g59 : xSt} (W : xWf g) (hk59 : xCallM d mX12_isGood [.ref 113] g = some (some (.int r59), g59)) (W59 : xWf g59) (k1 : r59 = 0 → xX (d + 1) mX12_numeral 69 [some (.ref 113), some (.int a1), none, some (.int (xI g 113 9))] [] g59 = some r) (k2 : ¬ (r59 = 0) → xX (d + 1) mX12_numeral 65 [some (.ref 113), some (.int a1), none, some (.int (xI g 113 9))] [] g59 = some r) : xX (d + 1) mX12_numeral 53 [some (.ref 113), some (.int a1), none, none] [] g = some r :=
  Y_aload_n dX12_numeral_53 rfl <| Y_getI dX12_numeral_54 f_11_272 ft_11_9 (xis W 113 11 s_113 (Nat.le_of_ble_eq_true rfl)) <| Y_istore_n dX12_numeral_57 rfl rfl <| Y_aload_n dX12_numeral_58 rfl <| Y_callV1 dX12_numeral_59 cl_11_279 rfl rfl (xis W 113 11 s_113 (Nat.le_of_ble_eq_true rfl)) rfl rfl rfl (hk59) <| Y_eq0 69 dX12_numeral_62 rfl (fun q => X_le (xle_s (xle_s (xle_n (xle_s xle_0)))) (k1 q)) (fun q => X_le (xle_s (xle_s (xle_n (xle_s xle_0)))) (k2 q))
theorem bX12_numeral_65 {d : Nat} {g : xSt} {r : Option Value × xSt} {a1 a3 : Int32} {g66 : xSt} (W : xWf g) (hk66 : xCallM d mX12_goOn [.ref 113] g = some (none, g66)) (W66 : xWf g66) (k : xX (d + 1) mX12_numeral 69 [some (.ref 113), some (.int a1), none, some (.int a3)] [] g66 = some r) : xX (d + 1) mX12_numeral 65 [some (.ref 113), some (.int a1), none, some (.int a3)] [] g = some r :=
  Y_aload_n dX12_numeral_65 rfl <| Y_callV0 dX12_numeral_66 cl_11_283 rfl rfl (xis W 113 11 s_113 (Nat.le_of_ble_eq_true rfl)) rfl rfl rfl (hk66) <| X_le (xle_s (xle_s (xle_n (xle_s xle_0)))) k
theorem bX12_numeral_69 {d : Nat} {g : xSt} {r : Option Value × xSt} {a1 a3 r70 : Int32} {g70 : xSt} (W : xWf g) (hk70 : xCallM d mX12_isGood [.ref 113] g = some (some (.int r70), g70)) (W70 : xWf g70) (k1 : r70 = 0 → xX (d + 1) mX12_numeral 80 [none, some (.int a1), none, none] [] g70 = some r) (k2 : ¬ (r70 = 0) → xX (d + 1) mX12_numeral 76 [none, none, none, some (.int a3)] [] g70 = some r) : xX (d + 1) mX12_numeral 69 [some (.ref 113), some (.int a1), none, some (.int a3)] [] g = some r :=
  Y_aload_n dX12_numeral_69 rfl <| Y_callV1 dX12_numeral_70 cl_11_279 rfl rfl (xis W 113 11 s_113 (Nat.le_of_ble_eq_true rfl)) rfl rfl rfl (hk70) <| Y_eq0 80 dX12_numeral_73 rfl (fun q => X_le (xle_n (xle_s (xle_n (xle_n xle_0)))) (k1 q)) (fun q => X_le (xle_n (xle_n (xle_n (xle_s xle_0)))) (k2 q))
theorem bX12_numeral_76 {d : Nat} {g : xSt} {r : Option Value × xSt} {a3 : Int32} (k : xX (d + 1) mX12_numeral 81 [none, none, none, none] [.int a3] g = some r) : xX (d + 1) mX12_numeral 76 [none, none, none, some (.int a3)] [] g = some r :=
  Y_iload_n dX12_numeral_76 rfl <| Y_goto 81 dX12_numeral_77 rfl <| X_le (xle_n (xle_n (xle_n (xle_n xle_0)))) k
theorem bX12_numeral_80 {d : Nat} {g : xSt} {r : Option Value × xSt} {a1 : Int32} (k : xX (d + 1) mX12_numeral 81 [none, none, none, none] [.int a1] g = some r) : xX (d + 1) mX12_numeral 80 [none, some (.int a1), none, none] [] g = some r :=
  Y_iload_n dX12_numeral_80 rfl <| X_le (xle_n (xle_n (xle_n (xle_n xle_0)))) k
theorem bX12_numeral_81 {d : Nat} {g : xSt} {r : Option Value × xSt} {s0 : Int32} (k : r = (some (.int s0), g)) : xX (d + 1) mX12_numeral 81 [none, none, none, none] [.int s0] g = some r :=
  Y_iret dX12_numeral_81 rfl k
theorem bX12_readThing_0 {d : Nat} {g : xSt} {r : Option Value × xSt}  (W : xWf g) (k1 : (xI g 113 8) = 2 → xX (d + 1) mX12_readThing 15 [some (.ref 113), none] [] g = some r) (k2 : ¬ ((xI g 113 8) = 2) → xX (d + 1) mX12_readThing 8 [some (.ref 113), none] [] g = some r) : xX (d + 1) mX12_readThing 0 [some (.ref 113), none] [] g = some r :=
  Y_aload_n dX12_readThing_0 rfl <| Y_getI dX12_readThing_1 f_11_254 ft_11_8 (xis W 113 11 s_113 (Nat.le_of_ble_eq_true rfl)) <| Y_iconst 2 dX12_readThing_4 ic_2 <| Y_eq 15 dX12_readThing_5 rfl (fun q => X_le (xle_s (xle_n xle_0)) (k1 q)) (fun q => X_le (xle_s (xle_n xle_0)) (k2 q))
theorem bX12_readThing_8 {d : Nat} {g : xSt} {r : Option Value × xSt} {g9 : xSt} (W : xWf g) (hk9 : xCallM d mX12_misplaced [.ref 113] g = some (none, g9)) (W9 : xWf g9) (k : xX (d + 1) mX12_readThing 31 [some (.ref 113), none] [] g9 = some r) : xX (d + 1) mX12_readThing 8 [some (.ref 113), none] [] g = some r :=
  Y_aload_n dX12_readThing_8 rfl <| Y_callV0 dX12_readThing_9 cl_11_286 rfl rfl (xis W 113 11 s_113 (Nat.le_of_ble_eq_true rfl)) rfl rfl rfl (hk9) <| Y_goto 31 dX12_readThing_12 rfl <| X_le (xle_s (xle_n xle_0)) k
theorem bX12_readThing_15 {d : Nat} {g : xSt} {r : Option Value × xSt} {r16 : Int32} {g16 : xSt} (W : xWf g) (hk16 : xCallM d mX12_thingHere [.ref 113] g = some (some (.int r16), g16)) (W16 : xWf g16) (k1 : r16 < 0 → xX (d + 1) mX12_readThing 31 [some (.ref 113), none] [] g16 = some r) (k2 : ¬ (r16 < 0) → xX (d + 1) mX12_readThing 22 [some (.ref 113), none] [] g16 = some r) : xX (d + 1) mX12_readThing 15 [some (.ref 113), none] [] g = some r :=
  Y_aload_n dX12_readThing_15 rfl <| Y_callV1 dX12_readThing_16 cl_11_342 rfl rfl (xis W 113 11 s_113 (Nat.le_of_ble_eq_true rfl)) rfl rfl rfl (hk16) <| Y_lt0 31 dX12_readThing_19 rfl (fun q => X_le (xle_s (xle_n xle_0)) (k1 q)) (fun q => X_le (xle_s (xle_n xle_0)) (k2 q))
theorem bX12_readThing_22 {d : Nat} {g : xSt} {r : Option Value × xSt} {g28 : xSt} (W : xWf g) (hk28 : xCallM d mX12_fails [.ref 113, .int 3, .int (xI g 113 6)] g = some (none, g28)) (W28 : xWf g28) (k : xX (d + 1) mX12_readThing 31 [some (.ref 113), none] [] g28 = some r) : xX (d + 1) mX12_readThing 22 [some (.ref 113), none] [] g = some r :=
  Y_aload_n dX12_readThing_22 rfl <| Y_iconst 3 dX12_readThing_23 ic_3 <| Y_aload_n dX12_readThing_24 rfl <| Y_getI dX12_readThing_25 f_11_247 ft_11_6 (xis W 113 11 s_113 (Nat.le_of_ble_eq_true rfl)) <| Y_callV0 dX12_readThing_28 cl_11_275 rfl rfl (xis W 113 11 s_113 (Nat.le_of_ble_eq_true rfl)) rfl rfl rfl (hk28) <| X_le (xle_s (xle_n xle_0)) k
theorem bX12_readThing_31 {d : Nat} {g : xSt} {r : Option Value × xSt} {r32 : Int32} {g32 : xSt} (W : xWf g) (hk32 : xCallM d mX12_isGood [.ref 113] g = some (some (.int r32), g32)) (W32 : xWf g32) (k1 : r32 = 0 → xX (d + 1) mX12_readThing 38 [none, none] [] g32 = some r) (k2 : ¬ (r32 = 0) → xX (d + 1) mX12_readThing 39 [some (.ref 113), none] [] g32 = some r) : xX (d + 1) mX12_readThing 31 [some (.ref 113), none] [] g = some r :=
  Y_aload_n dX12_readThing_31 rfl <| Y_callV1 dX12_readThing_32 cl_11_279 rfl rfl (xis W 113 11 s_113 (Nat.le_of_ble_eq_true rfl)) rfl rfl rfl (hk32) <| Y_ne0 39 dX12_readThing_35 rfl (fun q => X_le (xle_n (xle_n xle_0)) (k1 q)) (fun q => X_le (xle_s (xle_n xle_0)) (k2 q))
theorem bX12_readThing_38 {d : Nat} {g : xSt} {r : Option Value × xSt}  (k : r = (none, g)) : xX (d + 1) mX12_readThing 38 [none, none] [] g = some r :=
  Y_ret dX12_readThing_38 rfl k
theorem bX12_readThing_39 {d : Nat} {g : xSt} {r : Option Value × xSt} {g67 g75 g78 g91 : xSt} {r75 r91 : Int32} (W : xWf g) (hi53 : vp_in (xI g 113 31) 2) (hi65 : vp_in ((5 * (xI g 113 31)) + (xI g 116 (xI g 113 31).toNatClampNeg)) 10) (hk67 : xCallM d mX12_goOn [.ref 113] (xWL g 124 ((5 * (xI g 113 31)) + (xI g 116 (xI g 113 31).toNatClampNeg)).toNatClampNeg (xL g 113 10)) = some (none, g67)) (W67 : xWf g67) (hk75 : xCallM d mX12_isWord [.ref 113, .long 131277443786867] g67 = some (some (.int r75), g75)) (W75 : xWf g75) (hk78 : xCallM d mX12_must [.ref 113, .int r75] g75 = some (none, g78)) (W78 : xWf g78) (hk91 : xCallM d mX12_numeral [.ref 113, .int 1, .int 999] g78 = some (some (.int r91), g91)) (W91 : xWf g91) (hi94 : vp_in ((5 * (xI g 113 31)) + (xI g 116 (xI g 113 31).toNatClampNeg)) 10) (hi104 : vp_in (xI g91 113 31) 2) (hi107 : vp_in (xI g91 113 31) 2) (k : r = (none, xWI (xWI g91 120 ((5 * (xI g 113 31)) + (xI g 116 (xI g 113 31).toNatClampNeg)).toNatClampNeg r91) 116 (xI g91 113 31).toNatClampNeg ((xI g91 116 (xI g91 113 31).toNatClampNeg) + 1))) : xX (d + 1) mX12_readThing 39 [some (.ref 113), none] [] g = some r :=
  Y_iconst 5 dX12_readThing_39 ic_5 <| Y_aload_n dX12_readThing_40 rfl <| Y_getI dX12_readThing_41 f_11_289 ft_11_31 (xis W 113 11 s_113 (Nat.le_of_ble_eq_true rfl)) <| Y_imul dX12_readThing_44 <| Y_aload_n dX12_readThing_45 rfl <| Y_getR dX12_readThing_46 f_11_20 (by rw [ft_11_11]; rfl) (xis W 113 11 s_113 (Nat.le_of_ble_eq_true rfl)) (xptr W 113 11 p_113_11) <| Y_aload_n dX12_readThing_49 rfl <| Y_getI dX12_readThing_50 f_11_289 ft_11_31 (xis W 113 11 s_113 (Nat.le_of_ble_eq_true rfl)) <| Y_iald dX12_readThing_53 (xarr W (o := 116) s_116 (Nat.le_of_ble_eq_true rfl)) hi53 <| Y_iadd dX12_readThing_54 <| Y_istore_n dX12_readThing_55 rfl rfl <| Y_aload_n dX12_readThing_56 rfl <| Y_getR dX12_readThing_57 f_11_46 (by rw [ft_11_19]; rfl) (xis W 113 11 s_113 (Nat.le_of_ble_eq_true rfl)) (xptr W 113 19 p_113_19) <| Y_iload_n dX12_readThing_60 rfl <| Y_aload_n dX12_readThing_61 rfl <| Y_getJ dX12_readThing_62 f_11_261 ft_11_10 (xis W 113 11 s_113 (Nat.le_of_ble_eq_true rfl)) <| Y_last dX12_readThing_65 (xarr W (o := 124) s_124 (Nat.le_of_ble_eq_true rfl)) hi65 <| Y_aload_n dX12_readThing_66 rfl <| Y_callV0 dX12_readThing_67 cl_11_283 rfl rfl (xis W 113 11 s_113 (Nat.le_of_ble_eq_true rfl)) rfl rfl rfl (hk67) <| Y_aload_n dX12_readThing_70 rfl <| Y_aload_n dX12_readThing_71 rfl <| Y_ldc2 dX12_readThing_72 kl_11_232 <| Y_callV1 dX12_readThing_75 cl_11_316 rfl rfl (xis W67 113 11 s_113 (Nat.le_of_ble_eq_true rfl)) rfl rfl rfl (hk75) <| Y_callV0 dX12_readThing_78 cl_11_338 rfl rfl (xis W75 113 11 s_113 (Nat.le_of_ble_eq_true rfl)) rfl rfl rfl (hk78) <| Y_aload_n dX12_readThing_81 rfl <| Y_getR dX12_readThing_82 f_11_33 (by rw [ft_11_15]; rfl) (xis W78 113 11 s_113 (Nat.le_of_ble_eq_true rfl)) (xptr W78 113 15 p_113_15) <| Y_iload_n dX12_readThing_85 rfl <| Y_aload_n dX12_readThing_86 rfl <| Y_iconst 1 dX12_readThing_87 ic_1 <| Y_sipush 999 dX12_readThing_88 sp_999 <| Y_callV1 dX12_readThing_91 cl_11_322 rfl rfl (xis W78 113 11 s_113 (Nat.le_of_ble_eq_true rfl)) rfl rfl rfl (hk91) <| Y_iast dX12_readThing_94 (xarr W91 (o := 120) s_120 (Nat.le_of_ble_eq_true rfl)) hi94 <| Y_aload_n dX12_readThing_95 rfl <| Y_getR dX12_readThing_96 f_11_20 (by rw [ft_11_11]; rfl) (xis W91 113 11 s_113 (Nat.le_of_ble_eq_true rfl)) (xptr W91 113 11 p_113_11) <| Y_aload_n dX12_readThing_99 rfl <| Y_getI dX12_readThing_100 f_11_289 ft_11_31 (xis W91 113 11 s_113 (Nat.le_of_ble_eq_true rfl)) <| Y_dup2 dX12_readThing_103 rfl rfl <| Y_iald dX12_readThing_104 (xarr W91 (o := 116) s_116 (Nat.le_of_ble_eq_true rfl)) hi104 <| Y_iconst 1 dX12_readThing_105 ic_1 <| Y_iadd dX12_readThing_106 <| Y_iast dX12_readThing_107 (xarr W91 (o := 116) s_116 (Nat.le_of_ble_eq_true rfl)) hi107 <| Y_ret dX12_readThing_108 rfl k
theorem bX12_thingHere_0 {d : Nat} {g : xSt} {r : Option Value × xSt}  (k : xX d mX12_thingHere 2 [some (.ref 113), some (.int 0)] [] g = some r) : xX d mX12_thingHere 0 [some (.ref 113), none] [] g = some r :=
  Y_iconst 0 dX12_thingHere_0 ic_0 <| Y_istore_n dX12_thingHere_1 rfl rfl <| X_le (xle_s (xle_s xle_0)) k
theorem bX12_thingHere_2 {d : Nat} {g : xSt} {r : Option Value × xSt} {a1 : Int32} (W : xWf g) (hi11 : vp_in (xI g 113 31) 2) (k1 : (xI g 116 (xI g 113 31).toNatClampNeg) ≤ a1 → xX d mX12_thingHere 52 [none, none] [] g = some r) (k2 : ¬ ((xI g 116 (xI g 113 31).toNatClampNeg) ≤ a1) → xX d mX12_thingHere 15 [some (.ref 113), some (.int a1)] [] g = some r) : xX d mX12_thingHere 2 [some (.ref 113), some (.int a1)] [] g = some r :=
  Y_iload_n dX12_thingHere_2 rfl <| Y_aload_n dX12_thingHere_3 rfl <| Y_getR dX12_thingHere_4 f_11_20 (by rw [ft_11_11]; rfl) (xis W 113 11 s_113 (Nat.le_of_ble_eq_true rfl)) (xptr W 113 11 p_113_11) <| Y_aload_n dX12_thingHere_7 rfl <| Y_getI dX12_thingHere_8 f_11_289 ft_11_31 (xis W 113 11 s_113 (Nat.le_of_ble_eq_true rfl)) <| Y_iald dX12_thingHere_11 (xarr W (o := 116) s_116 (Nat.le_of_ble_eq_true rfl)) hi11 <| Y_ge 52 dX12_thingHere_12 rfl (fun q => X_le (xle_n (xle_n xle_0)) (k1 q)) (fun q => X_le (xle_s (xle_s xle_0)) (k2 q))
theorem bX12_thingHere_15 {d : Nat} {g : xSt} {r : Option Value × xSt} {a1 : Int32} (W : xWf g) (k1 : (xI g 113 8) = 2 → xX d mX12_thingHere 23 [some (.ref 113), some (.int a1)] [] g = some r) (k2 : ¬ ((xI g 113 8) = 2) → xX d mX12_thingHere 46 [some (.ref 113), some (.int a1)] [] g = some r) : xX d mX12_thingHere 15 [some (.ref 113), some (.int a1)] [] g = some r :=
  Y_aload_n dX12_thingHere_15 rfl <| Y_getI dX12_thingHere_16 f_11_254 ft_11_8 (xis W 113 11 s_113 (Nat.le_of_ble_eq_true rfl)) <| Y_iconst 2 dX12_thingHere_19 ic_2 <| Y_ne 46 dX12_thingHere_20 rfl (fun q => X_le (xle_s (xle_s xle_0)) (k1 q)) (fun q => X_le (xle_s (xle_s xle_0)) (k2 q))
theorem bX12_thingHere_23 {d : Nat} {g : xSt} {r : Option Value × xSt} {a1 : Int32} (W : xWf g) (hi35 : vp_in ((5 * (xI g 113 31)) + a1) 10) (k1 : (lg_cmp (xL g 124 ((5 * (xI g 113 31)) + a1).toNatClampNeg) (xL g 113 10)) = 0 → xX d mX12_thingHere 44 [none, some (.int a1)] [] g = some r) (k2 : ¬ ((lg_cmp (xL g 124 ((5 * (xI g 113 31)) + a1).toNatClampNeg) (xL g 113 10)) = 0) → xX d mX12_thingHere 46 [some (.ref 113), some (.int a1)] [] g = some r) : xX d mX12_thingHere 23 [some (.ref 113), some (.int a1)] [] g = some r :=
  Y_aload_n dX12_thingHere_23 rfl <| Y_getR dX12_thingHere_24 f_11_46 (by rw [ft_11_19]; rfl) (xis W 113 11 s_113 (Nat.le_of_ble_eq_true rfl)) (xptr W 113 19 p_113_19) <| Y_iconst 5 dX12_thingHere_27 ic_5 <| Y_aload_n dX12_thingHere_28 rfl <| Y_getI dX12_thingHere_29 f_11_289 ft_11_31 (xis W 113 11 s_113 (Nat.le_of_ble_eq_true rfl)) <| Y_imul dX12_thingHere_32 <| Y_iload_n dX12_thingHere_33 rfl <| Y_iadd dX12_thingHere_34 <| Y_lald dX12_thingHere_35 (xarr W (o := 124) s_124 (Nat.le_of_ble_eq_true rfl)) hi35 <| Y_aload_n dX12_thingHere_36 rfl <| Y_getJ dX12_thingHere_37 f_11_261 ft_11_10 (xis W 113 11 s_113 (Nat.le_of_ble_eq_true rfl)) <| Y_lcmp dX12_thingHere_40 <| Y_ne0 46 dX12_thingHere_41 rfl (fun q => X_le (xle_n (xle_s xle_0)) (k1 q)) (fun q => X_le (xle_s (xle_s xle_0)) (k2 q))
theorem bX12_thingHere_44 {d : Nat} {g : xSt} {r : Option Value × xSt} {a1 : Int32} (k : r = (some (.int a1), g)) : xX d mX12_thingHere 44 [none, some (.int a1)] [] g = some r :=
  Y_iload_n dX12_thingHere_44 rfl <| Y_iret dX12_thingHere_45 rfl k
theorem bX12_thingHere_46 {d : Nat} {g : xSt} {r : Option Value × xSt} {a1 : Int32} (k : xX d mX12_thingHere 2 [some (.ref 113), some (.int (a1 + 1))] [] g = some r) : xX d mX12_thingHere 46 [some (.ref 113), some (.int a1)] [] g = some r :=
  Y_iinc 1 dX12_thingHere_46 rfl ic_1 rfl rfl <| Y_goto 2 dX12_thingHere_49 rfl <| X_le (xle_s (xle_s xle_0)) k
theorem bX12_thingHere_52 {d : Nat} {g : xSt} {r : Option Value × xSt}  (k : r = (some (.int (-1)), g)) : xX d mX12_thingHere 52 [none, none] [] g = some r :=
  Y_iconst (-1) dX12_thingHere_52 ic_m1 <| Y_iret dX12_thingHere_53 rfl k
theorem bX12_must_0 {d : Nat} {g : xSt} {r : Option Value × xSt} {a1 r1 : Int32} {g1 : xSt} (W : xWf g) (hk1 : xCallM d mX12_isGood [.ref 113] g = some (some (.int r1), g1)) (W1 : xWf g1) (k1 : r1 = 0 → xX (d + 1) mX12_must 7 [none, none] [] g1 = some r) (k2 : ¬ (r1 = 0) → xX (d + 1) mX12_must 8 [some (.ref 113), some (.int a1)] [] g1 = some r) : xX (d + 1) mX12_must 0 [some (.ref 113), some (.int a1)] [] g = some r :=
  Y_aload_n dX12_must_0 rfl <| Y_callV1 dX12_must_1 cl_11_279 rfl rfl (xis W 113 11 s_113 (Nat.le_of_ble_eq_true rfl)) rfl rfl rfl (hk1) <| Y_ne0 8 dX12_must_4 rfl (fun q => X_le (xle_n (xle_n xle_0)) (k1 q)) (fun q => X_le (xle_s (xle_s xle_0)) (k2 q))
theorem bX12_must_7 {d : Nat} {g : xSt} {r : Option Value × xSt}  (k : r = (none, g)) : xX (d + 1) mX12_must 7 [none, none] [] g = some r :=
  Y_ret dX12_must_7 rfl k
theorem bX12_must_8 {d : Nat} {g : xSt} {r : Option Value × xSt} {a1 : Int32} (k1 : a1 = 0 → xX (d + 1) mX12_must 19 [some (.ref 113), none] [] g = some r) (k2 : ¬ (a1 = 0) → xX (d + 1) mX12_must 12 [some (.ref 113), none] [] g = some r) : xX (d + 1) mX12_must 8 [some (.ref 113), some (.int a1)] [] g = some r :=
  Y_iload_n dX12_must_8 rfl <| Y_eq0 19 dX12_must_9 rfl (fun q => X_le (xle_s (xle_n xle_0)) (k1 q)) (fun q => X_le (xle_s (xle_n xle_0)) (k2 q))
theorem bX12_must_12 {d : Nat} {g : xSt} {r : Option Value × xSt} {g13 : xSt} (W : xWf g) (hk13 : xCallM d mX12_goOn [.ref 113] g = some (none, g13)) (W13 : xWf g13) (k : xX (d + 1) mX12_must 23 [none, none] [] g13 = some r) : xX (d + 1) mX12_must 12 [some (.ref 113), none] [] g = some r :=
  Y_aload_n dX12_must_12 rfl <| Y_callV0 dX12_must_13 cl_11_283 rfl rfl (xis W 113 11 s_113 (Nat.le_of_ble_eq_true rfl)) rfl rfl rfl (hk13) <| Y_goto 23 dX12_must_16 rfl <| X_le (xle_n (xle_n xle_0)) k
theorem bX12_must_19 {d : Nat} {g : xSt} {r : Option Value × xSt} {g20 : xSt} (W : xWf g) (hk20 : xCallM d mX12_misplaced [.ref 113] g = some (none, g20)) (W20 : xWf g20) (k : xX (d + 1) mX12_must 23 [none, none] [] g20 = some r) : xX (d + 1) mX12_must 19 [some (.ref 113), none] [] g = some r :=
  Y_aload_n dX12_must_19 rfl <| Y_callV0 dX12_must_20 cl_11_286 rfl rfl (xis W 113 11 s_113 (Nat.le_of_ble_eq_true rfl)) rfl rfl rfl (hk20) <| X_le (xle_n (xle_n xle_0)) k
theorem bX12_must_23 {d : Nat} {g : xSt} {r : Option Value × xSt}  (k : r = (none, g)) : xX (d + 1) mX12_must 23 [none, none] [] g = some r :=
  Y_ret dX12_must_23 rfl k
theorem bX12_readRow_0 {d : Nat} {g : xSt} {r : Option Value × xSt}  (W : xWf g) (hi9 : vp_in (xI g 113 31) 2) (k : xX (d + 1) mX12_readRow 10 [some (.ref 113), none] [] (xWI g 123 (xI g 113 31).toNatClampNeg 1) = some r) : xX (d + 1) mX12_readRow 0 [some (.ref 113), none] [] g = some r :=
  Y_aload_n dX12_readRow_0 rfl <| Y_getR dX12_readRow_1 f_11_43 (by rw [ft_11_18]; rfl) (xis W 113 11 s_113 (Nat.le_of_ble_eq_true rfl)) (xptr W 113 18 p_113_18) <| Y_aload_n dX12_readRow_4 rfl <| Y_getI dX12_readRow_5 f_11_289 ft_11_31 (xis W 113 11 s_113 (Nat.le_of_ble_eq_true rfl)) <| Y_iconst 1 dX12_readRow_8 ic_1 <| Y_zast dX12_readRow_9 (xarr W (o := 123) s_123 (Nat.le_of_ble_eq_true rfl)) hi9 (by decide) <| X_le (xle_s (xle_n xle_0)) k
theorem bX12_readRow_10 {d : Nat} {g : xSt} {r : Option Value × xSt} {r11 : Int32} {g11 : xSt} (W : xWf g) (hk11 : xCallM d mX12_thingHere [.ref 113] g = some (some (.int r11), g11)) (W11 : xWf g11) (k1 : (xI g11 113 8) = 2 → xX (d + 1) mX12_readRow 30 [some (.ref 113), some (.int r11)] [] g11 = some r) (k2 : ¬ ((xI g11 113 8) = 2) → xX (d + 1) mX12_readRow 23 [some (.ref 113), some (.int r11)] [] g11 = some r) : xX (d + 1) mX12_readRow 10 [some (.ref 113), none] [] g = some r :=
  Y_aload_n dX12_readRow_10 rfl <| Y_callV1 dX12_readRow_11 cl_11_342 rfl rfl (xis W 113 11 s_113 (Nat.le_of_ble_eq_true rfl)) rfl rfl rfl (hk11) <| Y_istore_n dX12_readRow_14 rfl rfl <| Y_aload_n dX12_readRow_15 rfl <| Y_getI dX12_readRow_16 f_11_254 ft_11_8 (xis W11 113 11 s_113 (Nat.le_of_ble_eq_true rfl)) <| Y_iconst 2 dX12_readRow_19 ic_2 <| Y_eq 30 dX12_readRow_20 rfl (fun q => X_le (xle_s (xle_s xle_0)) (k1 q)) (fun q => X_le (xle_s (xle_s xle_0)) (k2 q))
theorem bX12_readRow_23 {d : Nat} {g : xSt} {r : Option Value × xSt} {a1 : Int32} {g24 : xSt} (W : xWf g) (hk24 : xCallM d mX12_misplaced [.ref 113] g = some (none, g24)) (W24 : xWf g24) (k : xX (d + 1) mX12_readRow 63 [some (.ref 113), some (.int a1)] [] g24 = some r) : xX (d + 1) mX12_readRow 23 [some (.ref 113), some (.int a1)] [] g = some r :=
  Y_aload_n dX12_readRow_23 rfl <| Y_callV0 dX12_readRow_24 cl_11_286 rfl rfl (xis W 113 11 s_113 (Nat.le_of_ble_eq_true rfl)) rfl rfl rfl (hk24) <| Y_goto 63 dX12_readRow_27 rfl <| X_le (xle_s (xle_s xle_0)) k
theorem bX12_readRow_30 {d : Nat} {g : xSt} {r : Option Value × xSt} {a1 : Int32} (k1 : 0 ≤ a1 → xX (d + 1) mX12_readRow 46 [some (.ref 113), some (.int a1)] [] g = some r) (k2 : ¬ (0 ≤ a1) → xX (d + 1) mX12_readRow 34 [some (.ref 113), some (.int a1)] [] g = some r) : xX (d + 1) mX12_readRow 30 [some (.ref 113), some (.int a1)] [] g = some r :=
  Y_iload_n dX12_readRow_30 rfl <| Y_ge0 46 dX12_readRow_31 rfl (fun q => X_le (xle_s (xle_s xle_0)) (k1 q)) (fun q => X_le (xle_s (xle_s xle_0)) (k2 q))
theorem bX12_readRow_34 {d : Nat} {g : xSt} {r : Option Value × xSt} {a1 : Int32} {g40 : xSt} (W : xWf g) (hk40 : xCallM d mX12_fails [.ref 113, .int 5, .int (xI g 113 6)] g = some (none, g40)) (W40 : xWf g40) (k : xX (d + 1) mX12_readRow 63 [some (.ref 113), some (.int a1)] [] g40 = some r) : xX (d + 1) mX12_readRow 34 [some (.ref 113), some (.int a1)] [] g = some r :=
  Y_aload_n dX12_readRow_34 rfl <| Y_iconst 5 dX12_readRow_35 ic_5 <| Y_aload_n dX12_readRow_36 rfl <| Y_getI dX12_readRow_37 f_11_247 ft_11_6 (xis W 113 11 s_113 (Nat.le_of_ble_eq_true rfl)) <| Y_callV0 dX12_readRow_40 cl_11_275 rfl rfl (xis W 113 11 s_113 (Nat.le_of_ble_eq_true rfl)) rfl rfl rfl (hk40) <| Y_goto 63 dX12_readRow_43 rfl <| X_le (xle_s (xle_s xle_0)) k
theorem bX12_readRow_46 {d : Nat} {g : xSt} {r : Option Value × xSt} {a1 r48 : Int32} {g48 : xSt} (W : xWf g) (hk48 : xCallM d mX12_isInRow [.ref 113, .int a1] g = some (some (.int r48), g48)) (W48 : xWf g48) (k1 : r48 = 0 → xX (d + 1) mX12_readRow 63 [some (.ref 113), some (.int a1)] [] g48 = some r) (k2 : ¬ (r48 = 0) → xX (d + 1) mX12_readRow 54 [some (.ref 113), some (.int a1)] [] g48 = some r) : xX (d + 1) mX12_readRow 46 [some (.ref 113), some (.int a1)] [] g = some r :=
  Y_aload_n dX12_readRow_46 rfl <| Y_iload_n dX12_readRow_47 rfl <| Y_callV1 dX12_readRow_48 cl_11_346 rfl rfl (xis W 113 11 s_113 (Nat.le_of_ble_eq_true rfl)) rfl rfl rfl (hk48) <| Y_eq0 63 dX12_readRow_51 rfl (fun q => X_le (xle_s (xle_s xle_0)) (k1 q)) (fun q => X_le (xle_s (xle_s xle_0)) (k2 q))
theorem bX12_readRow_54 {d : Nat} {g : xSt} {r : Option Value × xSt} {a1 : Int32} {g60 : xSt} (W : xWf g) (hk60 : xCallM d mX12_fails [.ref 113, .int 3, .int (xI g 113 6)] g = some (none, g60)) (W60 : xWf g60) (k : xX (d + 1) mX12_readRow 63 [some (.ref 113), some (.int a1)] [] g60 = some r) : xX (d + 1) mX12_readRow 54 [some (.ref 113), some (.int a1)] [] g = some r :=
  Y_aload_n dX12_readRow_54 rfl <| Y_iconst 3 dX12_readRow_55 ic_3 <| Y_aload_n dX12_readRow_56 rfl <| Y_getI dX12_readRow_57 f_11_247 ft_11_6 (xis W 113 11 s_113 (Nat.le_of_ble_eq_true rfl)) <| Y_callV0 dX12_readRow_60 cl_11_275 rfl rfl (xis W 113 11 s_113 (Nat.le_of_ble_eq_true rfl)) rfl rfl rfl (hk60) <| X_le (xle_s (xle_s xle_0)) k
theorem bX12_readRow_63 {d : Nat} {g : xSt} {r : Option Value × xSt} {a1 r64 : Int32} {g64 : xSt} (W : xWf g) (hk64 : xCallM d mX12_isGood [.ref 113] g = some (some (.int r64), g64)) (W64 : xWf g64) (k1 : r64 = 0 → xX (d + 1) mX12_readRow 70 [none, none] [] g64 = some r) (k2 : ¬ (r64 = 0) → xX (d + 1) mX12_readRow 71 [some (.ref 113), some (.int a1)] [] g64 = some r) : xX (d + 1) mX12_readRow 63 [some (.ref 113), some (.int a1)] [] g = some r :=
  Y_aload_n dX12_readRow_63 rfl <| Y_callV1 dX12_readRow_64 cl_11_279 rfl rfl (xis W 113 11 s_113 (Nat.le_of_ble_eq_true rfl)) rfl rfl rfl (hk64) <| Y_ne0 71 dX12_readRow_67 rfl (fun q => X_le (xle_n (xle_n xle_0)) (k1 q)) (fun q => X_le (xle_s (xle_s xle_0)) (k2 q))
theorem bX12_readRow_70 {d : Nat} {g : xSt} {r : Option Value × xSt}  (k : r = (none, g)) : xX (d + 1) mX12_readRow 70 [none, none] [] g = some r :=
  Y_ret dX12_readRow_70 rfl k
theorem bX12_readRow_71 {d : Nat} {g : xSt} {r : Option Value × xSt} {a1 : Int32} {g107 : xSt} (W : xWf g) (hi89 : vp_in (xI g 113 31) 2) (hi92 : vp_in ((5 * (xI g 113 31)) + (xI g 118 (xI g 113 31).toNatClampNeg)) 10) (hi102 : vp_in (xI g 113 31) 2) (hi105 : vp_in (xI g 113 31) 2) (hk107 : xCallM d mX12_goOn [.ref 113] (xWI (xWI g 119 ((5 * (xI g 113 31)) + (xI g 118 (xI g 113 31).toNatClampNeg)).toNatClampNeg a1) 118 (xI g 113 31).toNatClampNeg ((xI g 118 (xI g 113 31).toNatClampNeg) + 1)) = some (none, g107)) (W107 : xWf g107) (k1 : (xI g107 113 8) = 2 → xX (d + 1) mX12_readRow 10 [some (.ref 113), none] [] g107 = some r) (k2 : ¬ ((xI g107 113 8) = 2) → xX (d + 1) mX12_readRow 118 [none, none] [] g107 = some r) : xX (d + 1) mX12_readRow 71 [some (.ref 113), some (.int a1)] [] g = some r :=
  Y_aload_n dX12_readRow_71 rfl <| Y_getR dX12_readRow_72 f_11_30 (by rw [ft_11_14]; rfl) (xis W 113 11 s_113 (Nat.le_of_ble_eq_true rfl)) (xptr W 113 14 p_113_14) <| Y_iconst 5 dX12_readRow_75 ic_5 <| Y_aload_n dX12_readRow_76 rfl <| Y_getI dX12_readRow_77 f_11_289 ft_11_31 (xis W 113 11 s_113 (Nat.le_of_ble_eq_true rfl)) <| Y_imul dX12_readRow_80 <| Y_aload_n dX12_readRow_81 rfl <| Y_getR dX12_readRow_82 f_11_27 (by rw [ft_11_13]; rfl) (xis W 113 11 s_113 (Nat.le_of_ble_eq_true rfl)) (xptr W 113 13 p_113_13) <| Y_aload_n dX12_readRow_85 rfl <| Y_getI dX12_readRow_86 f_11_289 ft_11_31 (xis W 113 11 s_113 (Nat.le_of_ble_eq_true rfl)) <| Y_iald dX12_readRow_89 (xarr W (o := 118) s_118 (Nat.le_of_ble_eq_true rfl)) hi89 <| Y_iadd dX12_readRow_90 <| Y_iload_n dX12_readRow_91 rfl <| Y_iast dX12_readRow_92 (xarr W (o := 119) s_119 (Nat.le_of_ble_eq_true rfl)) hi92 <| Y_aload_n dX12_readRow_93 rfl <| Y_getR dX12_readRow_94 f_11_27 (by rw [ft_11_13]; rfl) (xis W 113 11 s_113 (Nat.le_of_ble_eq_true rfl)) (xptr W 113 13 p_113_13) <| Y_aload_n dX12_readRow_97 rfl <| Y_getI dX12_readRow_98 f_11_289 ft_11_31 (xis W 113 11 s_113 (Nat.le_of_ble_eq_true rfl)) <| Y_dup2 dX12_readRow_101 rfl rfl <| Y_iald dX12_readRow_102 (xarr W (o := 118) s_118 (Nat.le_of_ble_eq_true rfl)) hi102 <| Y_iconst 1 dX12_readRow_103 ic_1 <| Y_iadd dX12_readRow_104 <| Y_iast dX12_readRow_105 (xarr W (o := 118) s_118 (Nat.le_of_ble_eq_true rfl)) hi105 <| Y_aload_n dX12_readRow_106 rfl <| Y_callV0 dX12_readRow_107 cl_11_283 rfl rfl (xis W 113 11 s_113 (Nat.le_of_ble_eq_true rfl)) rfl rfl rfl (hk107) <| Y_aload_n dX12_readRow_110 rfl <| Y_getI dX12_readRow_111 f_11_254 ft_11_8 (xis W107 113 11 s_113 (Nat.le_of_ble_eq_true rfl)) <| Y_iconst 2 dX12_readRow_114 ic_2 <| Y_eq 10 dX12_readRow_115 rfl (fun q => X_le (xle_s (xle_n xle_0)) (k1 q)) (fun q => X_le (xle_n (xle_n xle_0)) (k2 q))
theorem bX12_readRow_118 {d : Nat} {g : xSt} {r : Option Value × xSt}  (k : r = (none, g)) : xX (d + 1) mX12_readRow 118 [none, none] [] g = some r :=
  Y_ret dX12_readRow_118 rfl k
theorem bX12_isInRow_0 {d : Nat} {g : xSt} {r : Option Value × xSt} {a1 : Int32} (k : xX d mX12_isInRow 2 [some (.ref 113), some (.int a1), some (.int 0)] [] g = some r) : xX d mX12_isInRow 0 [some (.ref 113), some (.int a1), none] [] g = some r :=
  Y_iconst 0 dX12_isInRow_0 ic_0 <| Y_istore_n dX12_isInRow_1 rfl rfl <| X_le (xle_s (xle_s (xle_s xle_0))) k
theorem bX12_isInRow_2 {d : Nat} {g : xSt} {r : Option Value × xSt} {a1 a2 : Int32} (W : xWf g) (hi11 : vp_in (xI g 113 31) 2) (k1 : (xI g 118 (xI g 113 31).toNatClampNeg) ≤ a2 → xX d mX12_isInRow 40 [none, none, none] [] g = some r) (k2 : ¬ ((xI g 118 (xI g 113 31).toNatClampNeg) ≤ a2) → xX d mX12_isInRow 15 [some (.ref 113), some (.int a1), some (.int a2)] [] g = some r) : xX d mX12_isInRow 2 [some (.ref 113), some (.int a1), some (.int a2)] [] g = some r :=
  Y_iload_n dX12_isInRow_2 rfl <| Y_aload_n dX12_isInRow_3 rfl <| Y_getR dX12_isInRow_4 f_11_27 (by rw [ft_11_13]; rfl) (xis W 113 11 s_113 (Nat.le_of_ble_eq_true rfl)) (xptr W 113 13 p_113_13) <| Y_aload_n dX12_isInRow_7 rfl <| Y_getI dX12_isInRow_8 f_11_289 ft_11_31 (xis W 113 11 s_113 (Nat.le_of_ble_eq_true rfl)) <| Y_iald dX12_isInRow_11 (xarr W (o := 118) s_118 (Nat.le_of_ble_eq_true rfl)) hi11 <| Y_ge 40 dX12_isInRow_12 rfl (fun q => X_le (xle_n (xle_n (xle_n xle_0))) (k1 q)) (fun q => X_le (xle_s (xle_s (xle_s xle_0))) (k2 q))
theorem bX12_isInRow_15 {d : Nat} {g : xSt} {r : Option Value × xSt} {a1 a2 : Int32} (W : xWf g) (hi27 : vp_in ((5 * (xI g 113 31)) + a2) 10) (k1 : (xI g 119 ((5 * (xI g 113 31)) + a2).toNatClampNeg) = a1 → xX d mX12_isInRow 32 [none, none, none] [] g = some r) (k2 : ¬ ((xI g 119 ((5 * (xI g 113 31)) + a2).toNatClampNeg) = a1) → xX d mX12_isInRow 34 [some (.ref 113), some (.int a1), some (.int a2)] [] g = some r) : xX d mX12_isInRow 15 [some (.ref 113), some (.int a1), some (.int a2)] [] g = some r :=
  Y_aload_n dX12_isInRow_15 rfl <| Y_getR dX12_isInRow_16 f_11_30 (by rw [ft_11_14]; rfl) (xis W 113 11 s_113 (Nat.le_of_ble_eq_true rfl)) (xptr W 113 14 p_113_14) <| Y_iconst 5 dX12_isInRow_19 ic_5 <| Y_aload_n dX12_isInRow_20 rfl <| Y_getI dX12_isInRow_21 f_11_289 ft_11_31 (xis W 113 11 s_113 (Nat.le_of_ble_eq_true rfl)) <| Y_imul dX12_isInRow_24 <| Y_iload_n dX12_isInRow_25 rfl <| Y_iadd dX12_isInRow_26 <| Y_iald dX12_isInRow_27 (xarr W (o := 119) s_119 (Nat.le_of_ble_eq_true rfl)) hi27 <| Y_iload_n dX12_isInRow_28 rfl <| Y_ne 34 dX12_isInRow_29 rfl (fun q => X_le (xle_n (xle_n (xle_n xle_0))) (k1 q)) (fun q => X_le (xle_s (xle_s (xle_s xle_0))) (k2 q))
theorem bX12_isInRow_32 {d : Nat} {g : xSt} {r : Option Value × xSt}  (k : r = (some (.int 1), g)) : xX d mX12_isInRow 32 [none, none, none] [] g = some r :=
  Y_iconst 1 dX12_isInRow_32 ic_1 <| Y_zret dX12_isInRow_33 rfl (by decide) k
theorem bX12_isInRow_34 {d : Nat} {g : xSt} {r : Option Value × xSt} {a1 a2 : Int32} (k : xX d mX12_isInRow 2 [some (.ref 113), some (.int a1), some (.int (a2 + 1))] [] g = some r) : xX d mX12_isInRow 34 [some (.ref 113), some (.int a1), some (.int a2)] [] g = some r :=
  Y_iinc 1 dX12_isInRow_34 rfl ic_1 rfl rfl <| Y_goto 2 dX12_isInRow_37 rfl <| X_le (xle_s (xle_s (xle_s xle_0))) k
theorem bX12_isInRow_40 {d : Nat} {g : xSt} {r : Option Value × xSt}  (k : r = (some (.int 0), g)) : xX d mX12_isInRow 40 [none, none, none] [] g = some r :=
  Y_iconst 0 dX12_isInRow_40 ic_0 <| Y_zret dX12_isInRow_41 rfl (by decide) k
theorem bX12_readPlan_0 {d : Nat} {g : xSt} {r : Option Value × xSt}  (W : xWf g) (k1 : (xI g 113 8) = 2 → xX (d + 1) mX12_readPlan 15 [some (.ref 113), none, none] [] g = some r) (k2 : ¬ ((xI g 113 8) = 2) → xX (d + 1) mX12_readPlan 8 [some (.ref 113), none, none] [] g = some r) : xX (d + 1) mX12_readPlan 0 [some (.ref 113), none, none] [] g = some r :=
  Y_aload_n dX12_readPlan_0 rfl <| Y_getI dX12_readPlan_1 f_11_254 ft_11_8 (xis W 113 11 s_113 (Nat.le_of_ble_eq_true rfl)) <| Y_iconst 2 dX12_readPlan_4 ic_2 <| Y_eq 15 dX12_readPlan_5 rfl (fun q => X_le (xle_s (xle_n (xle_n xle_0))) (k1 q)) (fun q => X_le (xle_s (xle_n (xle_n xle_0))) (k2 q))
theorem bX12_readPlan_8 {d : Nat} {g : xSt} {r : Option Value × xSt} {g9 : xSt} (W : xWf g) (hk9 : xCallM d mX12_misplaced [.ref 113] g = some (none, g9)) (W9 : xWf g9) (k : xX (d + 1) mX12_readPlan 31 [some (.ref 113), none, none] [] g9 = some r) : xX (d + 1) mX12_readPlan 8 [some (.ref 113), none, none] [] g = some r :=
  Y_aload_n dX12_readPlan_8 rfl <| Y_callV0 dX12_readPlan_9 cl_11_286 rfl rfl (xis W 113 11 s_113 (Nat.le_of_ble_eq_true rfl)) rfl rfl rfl (hk9) <| Y_goto 31 dX12_readPlan_12 rfl <| X_le (xle_s (xle_n (xle_n xle_0))) k
theorem bX12_readPlan_15 {d : Nat} {g : xSt} {r : Option Value × xSt} {r16 : Int32} {g16 : xSt} (W : xWf g) (hk16 : xCallM d mX12_planHere [.ref 113] g = some (some (.int r16), g16)) (W16 : xWf g16) (k1 : r16 < 0 → xX (d + 1) mX12_readPlan 31 [some (.ref 113), none, none] [] g16 = some r) (k2 : ¬ (r16 < 0) → xX (d + 1) mX12_readPlan 22 [some (.ref 113), none, none] [] g16 = some r) : xX (d + 1) mX12_readPlan 15 [some (.ref 113), none, none] [] g = some r :=
  Y_aload_n dX12_readPlan_15 rfl <| Y_callV1 dX12_readPlan_16 cl_11_349 rfl rfl (xis W 113 11 s_113 (Nat.le_of_ble_eq_true rfl)) rfl rfl rfl (hk16) <| Y_lt0 31 dX12_readPlan_19 rfl (fun q => X_le (xle_s (xle_n (xle_n xle_0))) (k1 q)) (fun q => X_le (xle_s (xle_n (xle_n xle_0))) (k2 q))
theorem bX12_readPlan_22 {d : Nat} {g : xSt} {r : Option Value × xSt} {g28 : xSt} (W : xWf g) (hk28 : xCallM d mX12_fails [.ref 113, .int 3, .int (xI g 113 6)] g = some (none, g28)) (W28 : xWf g28) (k : xX (d + 1) mX12_readPlan 31 [some (.ref 113), none, none] [] g28 = some r) : xX (d + 1) mX12_readPlan 22 [some (.ref 113), none, none] [] g = some r :=
  Y_aload_n dX12_readPlan_22 rfl <| Y_iconst 3 dX12_readPlan_23 ic_3 <| Y_aload_n dX12_readPlan_24 rfl <| Y_getI dX12_readPlan_25 f_11_247 ft_11_6 (xis W 113 11 s_113 (Nat.le_of_ble_eq_true rfl)) <| Y_callV0 dX12_readPlan_28 cl_11_275 rfl rfl (xis W 113 11 s_113 (Nat.le_of_ble_eq_true rfl)) rfl rfl rfl (hk28) <| X_le (xle_s (xle_n (xle_n xle_0))) k
theorem bX12_readPlan_31 {d : Nat} {g : xSt} {r : Option Value × xSt} {r32 : Int32} {g32 : xSt} (W : xWf g) (hk32 : xCallM d mX12_isGood [.ref 113] g = some (some (.int r32), g32)) (W32 : xWf g32) (k1 : r32 = 0 → xX (d + 1) mX12_readPlan 38 [none, none, none] [] g32 = some r) (k2 : ¬ (r32 = 0) → xX (d + 1) mX12_readPlan 39 [some (.ref 113), none, none] [] g32 = some r) : xX (d + 1) mX12_readPlan 31 [some (.ref 113), none, none] [] g = some r :=
  Y_aload_n dX12_readPlan_31 rfl <| Y_callV1 dX12_readPlan_32 cl_11_279 rfl rfl (xis W 113 11 s_113 (Nat.le_of_ble_eq_true rfl)) rfl rfl rfl (hk32) <| Y_ne0 39 dX12_readPlan_35 rfl (fun q => X_le (xle_n (xle_n (xle_n xle_0))) (k1 q)) (fun q => X_le (xle_s (xle_n (xle_n xle_0))) (k2 q))
theorem bX12_readPlan_38 {d : Nat} {g : xSt} {r : Option Value × xSt}  (k : r = (none, g)) : xX (d + 1) mX12_readPlan 38 [none, none, none] [] g = some r :=
  Y_ret dX12_readPlan_38 rfl k
theorem bX12_readPlan_39 {d : Nat} {g : xSt} {r : Option Value × xSt} {g67 g76 : xSt} {r76 : Int32} (W : xWf g) (hi53 : vp_in (xI g 113 31) 2) (hi65 : vp_in ((3 * (xI g 113 31)) + (xI g 126 (xI g 113 31).toNatClampNeg)) 6) (hk67 : xCallM d mX12_goOn [.ref 113] (xWL g 125 ((3 * (xI g 113 31)) + (xI g 126 (xI g 113 31).toNatClampNeg)).toNatClampNeg (xL g 113 10)) = some (none, g67)) (W67 : xWf g67) (hk76 : xCallM d mX12_readP [.ref 113] (xWI g67 113 29 0) = some (some (.int r76), g76)) (W76 : xWf g76) (k : xX (d + 1) mX12_readPlan 80 [some (.ref 113), some (.int ((3 * (xI g 113 31)) + (xI g 126 (xI g 113 31).toNatClampNeg))), some (.int r76)] [] g76 = some r) : xX (d + 1) mX12_readPlan 39 [some (.ref 113), none, none] [] g = some r :=
  Y_iconst 3 dX12_readPlan_39 ic_3 <| Y_aload_n dX12_readPlan_40 rfl <| Y_getI dX12_readPlan_41 f_11_289 ft_11_31 (xis W 113 11 s_113 (Nat.le_of_ble_eq_true rfl)) <| Y_imul dX12_readPlan_44 <| Y_aload_n dX12_readPlan_45 rfl <| Y_getR dX12_readPlan_46 f_11_53 (by rw [ft_11_21]; rfl) (xis W 113 11 s_113 (Nat.le_of_ble_eq_true rfl)) (xptr W 113 21 p_113_21) <| Y_aload_n dX12_readPlan_49 rfl <| Y_getI dX12_readPlan_50 f_11_289 ft_11_31 (xis W 113 11 s_113 (Nat.le_of_ble_eq_true rfl)) <| Y_iald dX12_readPlan_53 (xarr W (o := 126) s_126 (Nat.le_of_ble_eq_true rfl)) hi53 <| Y_iadd dX12_readPlan_54 <| Y_istore_n dX12_readPlan_55 rfl rfl <| Y_aload_n dX12_readPlan_56 rfl <| Y_getR dX12_readPlan_57 f_11_50 (by rw [ft_11_20]; rfl) (xis W 113 11 s_113 (Nat.le_of_ble_eq_true rfl)) (xptr W 113 20 p_113_20) <| Y_iload_n dX12_readPlan_60 rfl <| Y_aload_n dX12_readPlan_61 rfl <| Y_getJ dX12_readPlan_62 f_11_261 ft_11_10 (xis W 113 11 s_113 (Nat.le_of_ble_eq_true rfl)) <| Y_last dX12_readPlan_65 (xarr W (o := 125) s_125 (Nat.le_of_ble_eq_true rfl)) hi65 <| Y_aload_n dX12_readPlan_66 rfl <| Y_callV0 dX12_readPlan_67 cl_11_283 rfl rfl (xis W 113 11 s_113 (Nat.le_of_ble_eq_true rfl)) rfl rfl rfl (hk67) <| Y_aload_n dX12_readPlan_70 rfl <| Y_iconst 0 dX12_readPlan_71 ic_0 <| Y_putI dX12_readPlan_72 f_11_352 fn_11_29 ft_11_29 (xis W67 113 11 s_113 (Nat.le_of_ble_eq_true rfl)) <| Y_aload_n dX12_readPlan_75 rfl <| Y_callV1 dX12_readPlan_76 cl_11_355 rfl rfl (xis W67 113 11 s_113 (Nat.le_of_ble_eq_true rfl)) rfl rfl rfl (hk76) <| Y_istore_n dX12_readPlan_79 rfl rfl <| X_le (xle_s (xle_s (xle_s xle_0))) k
theorem bX12_readPlan_80 {d : Nat} {g : xSt} {r : Option Value × xSt} {a1 a2 r81 : Int32} {g81 : xSt} (W : xWf g) (hk81 : xCallM d mX12_isGood [.ref 113] g = some (some (.int r81), g81)) (W81 : xWf g81) (k1 : r81 = 0 → xX (d + 1) mX12_readPlan 103 [some (.ref 113), some (.int a1), some (.int a2)] [] g81 = some r) (k2 : ¬ (r81 = 0) → xX (d + 1) mX12_readPlan 87 [some (.ref 113), some (.int a1), some (.int a2)] [] g81 = some r) : xX (d + 1) mX12_readPlan 80 [some (.ref 113), some (.int a1), some (.int a2)] [] g = some r :=
  Y_aload_n dX12_readPlan_80 rfl <| Y_callV1 dX12_readPlan_81 cl_11_279 rfl rfl (xis W 113 11 s_113 (Nat.le_of_ble_eq_true rfl)) rfl rfl rfl (hk81) <| Y_eq0 103 dX12_readPlan_84 rfl (fun q => X_le (xle_s (xle_s (xle_s xle_0))) (k1 q)) (fun q => X_le (xle_s (xle_s (xle_s xle_0))) (k2 q))
theorem bX12_readPlan_87 {d : Nat} {g : xSt} {r : Option Value × xSt} {a1 a2 : Int32} (W : xWf g) (k1 : (xI g 113 29) ≤ 0 → xX (d + 1) mX12_readPlan 103 [some (.ref 113), some (.int a1), some (.int a2)] [] g = some r) (k2 : ¬ ((xI g 113 29) ≤ 0) → xX (d + 1) mX12_readPlan 94 [some (.ref 113), some (.int a1), some (.int a2)] [] g = some r) : xX (d + 1) mX12_readPlan 87 [some (.ref 113), some (.int a1), some (.int a2)] [] g = some r :=
  Y_aload_n dX12_readPlan_87 rfl <| Y_getI dX12_readPlan_88 f_11_352 ft_11_29 (xis W 113 11 s_113 (Nat.le_of_ble_eq_true rfl)) <| Y_le0 103 dX12_readPlan_91 rfl (fun q => X_le (xle_s (xle_s (xle_s xle_0))) (k1 q)) (fun q => X_le (xle_s (xle_s (xle_s xle_0))) (k2 q))
theorem bX12_readPlan_94 {d : Nat} {g : xSt} {r : Option Value × xSt} {a1 a2 r96 : Int32} {g96 : xSt} (W : xWf g) (hk96 : xCallM d mX12_closes [.ref 113, .int a2] g = some (some (.int r96), g96)) (W96 : xWf g96) (k : xX (d + 1) mX12_readPlan 80 [some (.ref 113), some (.int a1), some (.int r96)] [] g96 = some r) : xX (d + 1) mX12_readPlan 94 [some (.ref 113), some (.int a1), some (.int a2)] [] g = some r :=
  Y_aload_n dX12_readPlan_94 rfl <| Y_iload_n dX12_readPlan_95 rfl <| Y_callV1 dX12_readPlan_96 cl_11_358 rfl rfl (xis W 113 11 s_113 (Nat.le_of_ble_eq_true rfl)) rfl rfl rfl (hk96) <| Y_istore_n dX12_readPlan_99 rfl rfl <| Y_goto 80 dX12_readPlan_100 rfl <| X_le (xle_s (xle_s (xle_s xle_0))) k
theorem bX12_readPlan_103 {d : Nat} {g : xSt} {r : Option Value × xSt} {a1 a2 : Int32} (W : xWf g) (hi109 : vp_in a1 6) (hi119 : vp_in (xI g 113 31) 2) (hi122 : vp_in (xI g 113 31) 2) (k : r = (none, xWI (xWI g 128 a1.toNatClampNeg a2) 126 (xI g 113 31).toNatClampNeg ((xI g 126 (xI g 113 31).toNatClampNeg) + 1))) : xX (d + 1) mX12_readPlan 103 [some (.ref 113), some (.int a1), some (.int a2)] [] g = some r :=
  Y_aload_n dX12_readPlan_103 rfl <| Y_getR dX12_readPlan_104 f_11_59 (by rw [ft_11_23]; rfl) (xis W 113 11 s_113 (Nat.le_of_ble_eq_true rfl)) (xptr W 113 23 p_113_23) <| Y_iload_n dX12_readPlan_107 rfl <| Y_iload_n dX12_readPlan_108 rfl <| Y_iast dX12_readPlan_109 (xarr W (o := 128) s_128 (Nat.le_of_ble_eq_true rfl)) hi109 <| Y_aload_n dX12_readPlan_110 rfl <| Y_getR dX12_readPlan_111 f_11_53 (by rw [ft_11_21]; rfl) (xis W 113 11 s_113 (Nat.le_of_ble_eq_true rfl)) (xptr W 113 21 p_113_21) <| Y_aload_n dX12_readPlan_114 rfl <| Y_getI dX12_readPlan_115 f_11_289 ft_11_31 (xis W 113 11 s_113 (Nat.le_of_ble_eq_true rfl)) <| Y_dup2 dX12_readPlan_118 rfl rfl <| Y_iald dX12_readPlan_119 (xarr W (o := 126) s_126 (Nat.le_of_ble_eq_true rfl)) hi119 <| Y_iconst 1 dX12_readPlan_120 ic_1 <| Y_iadd dX12_readPlan_121 <| Y_iast dX12_readPlan_122 (xarr W (o := 126) s_126 (Nat.le_of_ble_eq_true rfl)) hi122 <| Y_ret dX12_readPlan_123 rfl k
theorem bX12_planHere_0 {d : Nat} {g : xSt} {r : Option Value × xSt}  (k : xX d mX12_planHere 2 [some (.ref 113), some (.int 0)] [] g = some r) : xX d mX12_planHere 0 [some (.ref 113), none] [] g = some r :=
  Y_iconst 0 dX12_planHere_0 ic_0 <| Y_istore_n dX12_planHere_1 rfl rfl <| X_le (xle_s (xle_s xle_0)) k
theorem bX12_planHere_2 {d : Nat} {g : xSt} {r : Option Value × xSt} {a1 : Int32} (W : xWf g) (hi11 : vp_in (xI g 113 31) 2) (k1 : (xI g 126 (xI g 113 31).toNatClampNeg) ≤ a1 → xX d mX12_planHere 52 [none, none] [] g = some r) (k2 : ¬ ((xI g 126 (xI g 113 31).toNatClampNeg) ≤ a1) → xX d mX12_planHere 15 [some (.ref 113), some (.int a1)] [] g = some r) : xX d mX12_planHere 2 [some (.ref 113), some (.int a1)] [] g = some r :=
  Y_iload_n dX12_planHere_2 rfl <| Y_aload_n dX12_planHere_3 rfl <| Y_getR dX12_planHere_4 f_11_53 (by rw [ft_11_21]; rfl) (xis W 113 11 s_113 (Nat.le_of_ble_eq_true rfl)) (xptr W 113 21 p_113_21) <| Y_aload_n dX12_planHere_7 rfl <| Y_getI dX12_planHere_8 f_11_289 ft_11_31 (xis W 113 11 s_113 (Nat.le_of_ble_eq_true rfl)) <| Y_iald dX12_planHere_11 (xarr W (o := 126) s_126 (Nat.le_of_ble_eq_true rfl)) hi11 <| Y_ge 52 dX12_planHere_12 rfl (fun q => X_le (xle_n (xle_n xle_0)) (k1 q)) (fun q => X_le (xle_s (xle_s xle_0)) (k2 q))
theorem bX12_planHere_15 {d : Nat} {g : xSt} {r : Option Value × xSt} {a1 : Int32} (W : xWf g) (k1 : (xI g 113 8) = 2 → xX d mX12_planHere 23 [some (.ref 113), some (.int a1)] [] g = some r) (k2 : ¬ ((xI g 113 8) = 2) → xX d mX12_planHere 46 [some (.ref 113), some (.int a1)] [] g = some r) : xX d mX12_planHere 15 [some (.ref 113), some (.int a1)] [] g = some r :=
  Y_aload_n dX12_planHere_15 rfl <| Y_getI dX12_planHere_16 f_11_254 ft_11_8 (xis W 113 11 s_113 (Nat.le_of_ble_eq_true rfl)) <| Y_iconst 2 dX12_planHere_19 ic_2 <| Y_ne 46 dX12_planHere_20 rfl (fun q => X_le (xle_s (xle_s xle_0)) (k1 q)) (fun q => X_le (xle_s (xle_s xle_0)) (k2 q))
theorem bX12_planHere_23 {d : Nat} {g : xSt} {r : Option Value × xSt} {a1 : Int32} (W : xWf g) (hi35 : vp_in ((3 * (xI g 113 31)) + a1) 6) (k1 : (lg_cmp (xL g 125 ((3 * (xI g 113 31)) + a1).toNatClampNeg) (xL g 113 10)) = 0 → xX d mX12_planHere 44 [none, some (.int a1)] [] g = some r) (k2 : ¬ ((lg_cmp (xL g 125 ((3 * (xI g 113 31)) + a1).toNatClampNeg) (xL g 113 10)) = 0) → xX d mX12_planHere 46 [some (.ref 113), some (.int a1)] [] g = some r) : xX d mX12_planHere 23 [some (.ref 113), some (.int a1)] [] g = some r :=
  Y_aload_n dX12_planHere_23 rfl <| Y_getR dX12_planHere_24 f_11_50 (by rw [ft_11_20]; rfl) (xis W 113 11 s_113 (Nat.le_of_ble_eq_true rfl)) (xptr W 113 20 p_113_20) <| Y_iconst 3 dX12_planHere_27 ic_3 <| Y_aload_n dX12_planHere_28 rfl <| Y_getI dX12_planHere_29 f_11_289 ft_11_31 (xis W 113 11 s_113 (Nat.le_of_ble_eq_true rfl)) <| Y_imul dX12_planHere_32 <| Y_iload_n dX12_planHere_33 rfl <| Y_iadd dX12_planHere_34 <| Y_lald dX12_planHere_35 (xarr W (o := 125) s_125 (Nat.le_of_ble_eq_true rfl)) hi35 <| Y_aload_n dX12_planHere_36 rfl <| Y_getJ dX12_planHere_37 f_11_261 ft_11_10 (xis W 113 11 s_113 (Nat.le_of_ble_eq_true rfl)) <| Y_lcmp dX12_planHere_40 <| Y_ne0 46 dX12_planHere_41 rfl (fun q => X_le (xle_n (xle_s xle_0)) (k1 q)) (fun q => X_le (xle_s (xle_s xle_0)) (k2 q))
theorem bX12_planHere_44 {d : Nat} {g : xSt} {r : Option Value × xSt} {a1 : Int32} (k : r = (some (.int a1), g)) : xX d mX12_planHere 44 [none, some (.int a1)] [] g = some r :=
  Y_iload_n dX12_planHere_44 rfl <| Y_iret dX12_planHere_45 rfl k
theorem bX12_planHere_46 {d : Nat} {g : xSt} {r : Option Value × xSt} {a1 : Int32} (k : xX d mX12_planHere 2 [some (.ref 113), some (.int (a1 + 1))] [] g = some r) : xX d mX12_planHere 46 [some (.ref 113), some (.int a1)] [] g = some r :=
  Y_iinc 1 dX12_planHere_46 rfl ic_1 rfl rfl <| Y_goto 2 dX12_planHere_49 rfl <| X_le (xle_s (xle_s xle_0)) k
theorem bX12_planHere_52 {d : Nat} {g : xSt} {r : Option Value × xSt}  (k : r = (some (.int (-1)), g)) : xX d mX12_planHere 52 [none, none] [] g = some r :=
  Y_iconst (-1) dX12_planHere_52 ic_m1 <| Y_iret dX12_planHere_53 rfl k
theorem bX12_readP_0 {d : Nat} {g : xSt} {r : Option Value × xSt} {r1 : Int32} {g1 : xSt} (W : xWf g) (hk1 : xCallM d mX12_isGood [.ref 113] g = some (some (.int r1), g1)) (W1 : xWf g1) (k1 : r1 = 0 → xX (d + 1) mX12_readP 80 [none, none] [] g1 = some r) (k2 : ¬ (r1 = 0) → xX (d + 1) mX12_readP 7 [some (.ref 113), none] [] g1 = some r) : xX (d + 1) mX12_readP 0 [some (.ref 113), none] [] g = some r :=
  Y_aload_n dX12_readP_0 rfl <| Y_callV1 dX12_readP_1 cl_11_279 rfl rfl (xis W 113 11 s_113 (Nat.le_of_ble_eq_true rfl)) rfl rfl rfl (hk1) <| Y_eq0 80 dX12_readP_4 rfl (fun q => X_le (xle_n (xle_n xle_0)) (k1 q)) (fun q => X_le (xle_s (xle_n xle_0)) (k2 q))
theorem bX12_readP_7 {d : Nat} {g : xSt} {r : Option Value × xSt} {r11 : Int32} {g11 : xSt} (W : xWf g) (hk11 : xCallM d mX12_isWord [.ref 113, .long 1685024357] g = some (some (.int r11), g11)) (W11 : xWf g11) (k1 : 10 < (xI g11 113 29) → xX (d + 1) mX12_readP 50 [some (.ref 113), some (.int r11)] [] g11 = some r) (k2 : ¬ (10 < (xI g11 113 29)) → xX (d + 1) mX12_readP 24 [some (.ref 113), some (.int r11)] [] g11 = some r) : xX (d + 1) mX12_readP 7 [some (.ref 113), none] [] g = some r :=
  Y_aload_n dX12_readP_7 rfl <| Y_ldc2 dX12_readP_8 kl_11_242 <| Y_callV1 dX12_readP_11 cl_11_316 rfl rfl (xis W 113 11 s_113 (Nat.le_of_ble_eq_true rfl)) rfl rfl rfl (hk11) <| Y_istore_n dX12_readP_14 rfl rfl <| Y_aload_n dX12_readP_15 rfl <| Y_getI dX12_readP_16 f_11_352 ft_11_29 (xis W11 113 11 s_113 (Nat.le_of_ble_eq_true rfl)) <| Y_bipush 10 dX12_readP_19 bp_10 <| Y_gt 50 dX12_readP_21 rfl (fun q => X_le (xle_s (xle_s xle_0)) (k1 q)) (fun q => X_le (xle_s (xle_s xle_0)) (k2 q))
theorem bX12_readP_24 {d : Nat} {g : xSt} {r : Option Value × xSt} {a1 : Int32} (k1 : a1 = 0 → xX (d + 1) mX12_readP 28 [some (.ref 113), some (.int a1)] [] g = some r) (k2 : ¬ (a1 = 0) → xX (d + 1) mX12_readP 54 [some (.ref 113), some (.int a1)] [] g = some r) : xX (d + 1) mX12_readP 24 [some (.ref 113), some (.int a1)] [] g = some r :=
  Y_iload_n dX12_readP_24 rfl <| Y_ne0 54 dX12_readP_25 rfl (fun q => X_le (xle_s (xle_s xle_0)) (k1 q)) (fun q => X_le (xle_s (xle_s xle_0)) (k2 q))
theorem bX12_readP_28 {d : Nat} {g : xSt} {r : Option Value × xSt} {a1 : Int32} (W : xWf g) (k1 : (xI g 113 8) = 2 → xX (d + 1) mX12_readP 36 [some (.ref 113), some (.int a1)] [] g = some r) (k2 : ¬ ((xI g 113 8) = 2) → xX (d + 1) mX12_readP 50 [some (.ref 113), some (.int a1)] [] g = some r) : xX (d + 1) mX12_readP 28 [some (.ref 113), some (.int a1)] [] g = some r :=
  Y_aload_n dX12_readP_28 rfl <| Y_getI dX12_readP_29 f_11_254 ft_11_8 (xis W 113 11 s_113 (Nat.le_of_ble_eq_true rfl)) <| Y_iconst 2 dX12_readP_32 ic_2 <| Y_ne 50 dX12_readP_33 rfl (fun q => X_le (xle_s (xle_s xle_0)) (k1 q)) (fun q => X_le (xle_s (xle_s xle_0)) (k2 q))
theorem bX12_readP_36 {d : Nat} {g : xSt} {r : Option Value × xSt} {a1 : Int32} (W : xWf g) (hi44 : vp_in (xI g 113 31) 2) (k1 : (xI g 127 (xI g 113 31).toNatClampNeg) = 60 → xX (d + 1) mX12_readP 50 [some (.ref 113), some (.int a1)] [] g = some r) (k2 : ¬ ((xI g 127 (xI g 113 31).toNatClampNeg) = 60) → xX (d + 1) mX12_readP 54 [some (.ref 113), some (.int a1)] [] g = some r) : xX (d + 1) mX12_readP 36 [some (.ref 113), some (.int a1)] [] g = some r :=
  Y_aload_n dX12_readP_36 rfl <| Y_getR dX12_readP_37 f_11_56 (by rw [ft_11_22]; rfl) (xis W 113 11 s_113 (Nat.le_of_ble_eq_true rfl)) (xptr W 113 22 p_113_22) <| Y_aload_n dX12_readP_40 rfl <| Y_getI dX12_readP_41 f_11_289 ft_11_31 (xis W 113 11 s_113 (Nat.le_of_ble_eq_true rfl)) <| Y_iald dX12_readP_44 (xarr W (o := 127) s_127 (Nat.le_of_ble_eq_true rfl)) hi44 <| Y_bipush 60 dX12_readP_45 bp_60 <| Y_ne 54 dX12_readP_47 rfl (fun q => X_le (xle_s (xle_s xle_0)) (k1 q)) (fun q => X_le (xle_s (xle_s xle_0)) (k2 q))
theorem bX12_readP_50 {d : Nat} {g : xSt} {r : Option Value × xSt} {a1 : Int32} {g51 : xSt} (W : xWf g) (hk51 : xCallM d mX12_misplaced [.ref 113] g = some (none, g51)) (W51 : xWf g51) (k : xX (d + 1) mX12_readP 54 [some (.ref 113), some (.int a1)] [] g51 = some r) : xX (d + 1) mX12_readP 50 [some (.ref 113), some (.int a1)] [] g = some r :=
  Y_aload_n dX12_readP_50 rfl <| Y_callV0 dX12_readP_51 cl_11_286 rfl rfl (xis W 113 11 s_113 (Nat.le_of_ble_eq_true rfl)) rfl rfl rfl (hk51) <| X_le (xle_s (xle_s xle_0)) k
theorem bX12_readP_54 {d : Nat} {g : xSt} {r : Option Value × xSt} {a1 r55 : Int32} {g55 : xSt} (W : xWf g) (hk55 : xCallM d mX12_isGood [.ref 113] g = some (some (.int r55), g55)) (W55 : xWf g55) (k1 : r55 = 0 → xX (d + 1) mX12_readP 61 [none, none] [] g55 = some r) (k2 : ¬ (r55 = 0) → xX (d + 1) mX12_readP 63 [some (.ref 113), some (.int a1)] [] g55 = some r) : xX (d + 1) mX12_readP 54 [some (.ref 113), some (.int a1)] [] g = some r :=
  Y_aload_n dX12_readP_54 rfl <| Y_callV1 dX12_readP_55 cl_11_279 rfl rfl (xis W 113 11 s_113 (Nat.le_of_ble_eq_true rfl)) rfl rfl rfl (hk55) <| Y_ne0 63 dX12_readP_58 rfl (fun q => X_le (xle_n (xle_n xle_0)) (k1 q)) (fun q => X_le (xle_s (xle_s xle_0)) (k2 q))
theorem bX12_readP_61 {d : Nat} {g : xSt} {r : Option Value × xSt}  (k : r = (some (.int (-1)), g)) : xX (d + 1) mX12_readP 61 [none, none] [] g = some r :=
  Y_iconst (-1) dX12_readP_61 ic_m1 <| Y_iret dX12_readP_62 rfl k
theorem bX12_readP_63 {d : Nat} {g : xSt} {r : Option Value × xSt} {a1 : Int32} (k1 : a1 = 0 → xX (d + 1) mX12_readP 73 [some (.ref 113), none] [] g = some r) (k2 : ¬ (a1 = 0) → xX (d + 1) mX12_readP 67 [some (.ref 113), none] [] g = some r) : xX (d + 1) mX12_readP 63 [some (.ref 113), some (.int a1)] [] g = some r :=
  Y_iload_n dX12_readP_63 rfl <| Y_eq0 73 dX12_readP_64 rfl (fun q => X_le (xle_s (xle_n xle_0)) (k1 q)) (fun q => X_le (xle_s (xle_n xle_0)) (k2 q))
theorem bX12_readP_67 {d : Nat} {g : xSt} {r : Option Value × xSt} {g68 : xSt} (W : xWf g) (hk68 : xCallM d mX12_goOn [.ref 113] g = some (none, g68)) (W68 : xWf g68) (k : r = (some (.int (-1)), g68)) : xX (d + 1) mX12_readP 67 [some (.ref 113), none] [] g = some r :=
  Y_aload_n dX12_readP_67 rfl <| Y_callV0 dX12_readP_68 cl_11_283 rfl rfl (xis W 113 11 s_113 (Nat.le_of_ble_eq_true rfl)) rfl rfl rfl (hk68) <| Y_iconst (-1) dX12_readP_71 ic_m1 <| Y_iret dX12_readP_72 rfl k
theorem bX12_readP_73 {d : Nat} {g : xSt} {r : Option Value × xSt} {g74 : xSt} (W : xWf g) (hk74 : xCallM d mX12_readTwo [.ref 113] g = some (none, g74)) (W74 : xWf g74) (k : xX (d + 1) mX12_readP 0 [some (.ref 113), none] [] g74 = some r) : xX (d + 1) mX12_readP 73 [some (.ref 113), none] [] g = some r :=
  Y_aload_n dX12_readP_73 rfl <| Y_callV0 dX12_readP_74 cl_11_361 rfl rfl (xis W 113 11 s_113 (Nat.le_of_ble_eq_true rfl)) rfl rfl rfl (hk74) <| Y_goto 0 dX12_readP_77 rfl <| X_le (xle_s (xle_n xle_0)) k
theorem bX12_readP_80 {d : Nat} {g : xSt} {r : Option Value × xSt}  (k : r = (some (.int (-1)), g)) : xX (d + 1) mX12_readP 80 [none, none] [] g = some r :=
  Y_iconst (-1) dX12_readP_80 ic_m1 <| Y_iret dX12_readP_81 rfl k
theorem bX12_readTwo_0 {d : Nat} {g : xSt} {r : Option Value × xSt} {r24 : Int32} {g24 : xSt} (W : xWf g) (hi15 : vp_in (xI g 113 31) 2) (hk24 : xCallM d mX12_thingHere [.ref 113] g = some (some (.int r24), g24)) (W24 : xWf g24) (hi27 : vp_in ((60 * (xI g 113 31)) + (xI g 127 (xI g 113 31).toNatClampNeg)) 120) (hi33 : vp_in ((60 * (xI g 113 31)) + (xI g 127 (xI g 113 31).toNatClampNeg)) 120) (k1 : 0 ≤ (xI (xWI g24 129 ((60 * (xI g 113 31)) + (xI g 127 (xI g 113 31).toNatClampNeg)).toNatClampNeg r24) 129 ((60 * (xI g 113 31)) + (xI g 127 (xI g 113 31).toNatClampNeg)).toNatClampNeg) → xX (d + 1) mX12_readTwo 46 [some (.ref 113), some (.int ((60 * (xI g 113 31)) + (xI g 127 (xI g 113 31).toNatClampNeg))), none] [] (xWI g24 129 ((60 * (xI g 113 31)) + (xI g 127 (xI g 113 31).toNatClampNeg)).toNatClampNeg r24) = some r) (k2 : ¬ (0 ≤ (xI (xWI g24 129 ((60 * (xI g 113 31)) + (xI g 127 (xI g 113 31).toNatClampNeg)).toNatClampNeg r24) 129 ((60 * (xI g 113 31)) + (xI g 127 (xI g 113 31).toNatClampNeg)).toNatClampNeg)) → xX (d + 1) mX12_readTwo 37 [some (.ref 113), some (.int ((60 * (xI g 113 31)) + (xI g 127 (xI g 113 31).toNatClampNeg))), none] [] (xWI g24 129 ((60 * (xI g 113 31)) + (xI g 127 (xI g 113 31).toNatClampNeg)).toNatClampNeg r24) = some r) : xX (d + 1) mX12_readTwo 0 [some (.ref 113), none, none] [] g = some r :=
  Y_bipush 60 dX12_readTwo_0 bp_60 <| Y_aload_n dX12_readTwo_2 rfl <| Y_getI dX12_readTwo_3 f_11_289 ft_11_31 (xis W 113 11 s_113 (Nat.le_of_ble_eq_true rfl)) <| Y_imul dX12_readTwo_6 <| Y_aload_n dX12_readTwo_7 rfl <| Y_getR dX12_readTwo_8 f_11_56 (by rw [ft_11_22]; rfl) (xis W 113 11 s_113 (Nat.le_of_ble_eq_true rfl)) (xptr W 113 22 p_113_22) <| Y_aload_n dX12_readTwo_11 rfl <| Y_getI dX12_readTwo_12 f_11_289 ft_11_31 (xis W 113 11 s_113 (Nat.le_of_ble_eq_true rfl)) <| Y_iald dX12_readTwo_15 (xarr W (o := 127) s_127 (Nat.le_of_ble_eq_true rfl)) hi15 <| Y_iadd dX12_readTwo_16 <| Y_istore_n dX12_readTwo_17 rfl rfl <| Y_aload_n dX12_readTwo_18 rfl <| Y_getR dX12_readTwo_19 f_11_62 (by rw [ft_11_24]; rfl) (xis W 113 11 s_113 (Nat.le_of_ble_eq_true rfl)) (xptr W 113 24 p_113_24) <| Y_iload_n dX12_readTwo_22 rfl <| Y_aload_n dX12_readTwo_23 rfl <| Y_callV1 dX12_readTwo_24 cl_11_342 rfl rfl (xis W 113 11 s_113 (Nat.le_of_ble_eq_true rfl)) rfl rfl rfl (hk24) <| Y_iast dX12_readTwo_27 (xarr W24 (o := 129) s_129 (Nat.le_of_ble_eq_true rfl)) hi27 <| Y_aload_n dX12_readTwo_28 rfl <| Y_getR dX12_readTwo_29 f_11_62 (by rw [ft_11_24]; rfl) (xis W24 113 11 s_113 (Nat.le_of_ble_eq_true rfl)) (xptr W24 113 24 p_113_24) <| Y_iload_n dX12_readTwo_32 rfl <| Y_iald dX12_readTwo_33 (xarr W24 (o := 129) s_129 (Nat.le_of_ble_eq_true rfl)) hi33 <| Y_ge0 46 dX12_readTwo_34 rfl (fun q => X_le (xle_s (xle_s (xle_n xle_0))) (k1 q)) (fun q => X_le (xle_s (xle_s (xle_n xle_0))) (k2 q))
theorem bX12_readTwo_37 {d : Nat} {g : xSt} {r : Option Value × xSt} {a1 : Int32} {g43 : xSt} (W : xWf g) (hk43 : xCallM d mX12_fails [.ref 113, .int 5, .int (xI g 113 6)] g = some (none, g43)) (W43 : xWf g43) (k : xX (d + 1) mX12_readTwo 46 [some (.ref 113), some (.int a1), none] [] g43 = some r) : xX (d + 1) mX12_readTwo 37 [some (.ref 113), some (.int a1), none] [] g = some r :=
  Y_aload_n dX12_readTwo_37 rfl <| Y_iconst 5 dX12_readTwo_38 ic_5 <| Y_aload_n dX12_readTwo_39 rfl <| Y_getI dX12_readTwo_40 f_11_247 ft_11_6 (xis W 113 11 s_113 (Nat.le_of_ble_eq_true rfl)) <| Y_callV0 dX12_readTwo_43 cl_11_275 rfl rfl (xis W 113 11 s_113 (Nat.le_of_ble_eq_true rfl)) rfl rfl rfl (hk43) <| X_le (xle_s (xle_s (xle_n xle_0))) k
theorem bX12_readTwo_46 {d : Nat} {g : xSt} {r : Option Value × xSt} {a1 r47 : Int32} {g47 : xSt} (W : xWf g) (hk47 : xCallM d mX12_isGood [.ref 113] g = some (some (.int r47), g47)) (W47 : xWf g47) (k1 : r47 = 0 → xX (d + 1) mX12_readTwo 57 [some (.ref 113), some (.int a1), none] [] g47 = some r) (k2 : ¬ (r47 = 0) → xX (d + 1) mX12_readTwo 53 [some (.ref 113), some (.int a1), none] [] g47 = some r) : xX (d + 1) mX12_readTwo 46 [some (.ref 113), some (.int a1), none] [] g = some r :=
  Y_aload_n dX12_readTwo_46 rfl <| Y_callV1 dX12_readTwo_47 cl_11_279 rfl rfl (xis W 113 11 s_113 (Nat.le_of_ble_eq_true rfl)) rfl rfl rfl (hk47) <| Y_eq0 57 dX12_readTwo_50 rfl (fun q => X_le (xle_s (xle_s (xle_n xle_0))) (k1 q)) (fun q => X_le (xle_s (xle_s (xle_n xle_0))) (k2 q))
theorem bX12_readTwo_53 {d : Nat} {g : xSt} {r : Option Value × xSt} {a1 : Int32} {g54 : xSt} (W : xWf g) (hk54 : xCallM d mX12_goOn [.ref 113] g = some (none, g54)) (W54 : xWf g54) (k : xX (d + 1) mX12_readTwo 57 [some (.ref 113), some (.int a1), none] [] g54 = some r) : xX (d + 1) mX12_readTwo 53 [some (.ref 113), some (.int a1), none] [] g = some r :=
  Y_aload_n dX12_readTwo_53 rfl <| Y_callV0 dX12_readTwo_54 cl_11_283 rfl rfl (xis W 113 11 s_113 (Nat.le_of_ble_eq_true rfl)) rfl rfl rfl (hk54) <| X_le (xle_s (xle_s (xle_n xle_0))) k
theorem bX12_readTwo_57 {d : Nat} {g : xSt} {r : Option Value × xSt} {a1 r63 r68 : Int32} {g63 g68 : xSt} (W : xWf g) (hk63 : xCallM d mX12_thingHere [.ref 113] g = some (some (.int r63), g63)) (W63 : xWf g63) (hi66 : vp_in a1 120) (hk68 : xCallM d mX12_isGood [.ref 113] (xWI g63 130 a1.toNatClampNeg r63) = some (some (.int r68), g68)) (W68 : xWf g68) (k1 : r68 = 0 → xX (d + 1) mX12_readTwo 86 [some (.ref 113), some (.int a1), none] [] g68 = some r) (k2 : ¬ (r68 = 0) → xX (d + 1) mX12_readTwo 74 [some (.ref 113), some (.int a1), none] [] g68 = some r) : xX (d + 1) mX12_readTwo 57 [some (.ref 113), some (.int a1), none] [] g = some r :=
  Y_aload_n dX12_readTwo_57 rfl <| Y_getR dX12_readTwo_58 f_11_65 (by rw [ft_11_25]; rfl) (xis W 113 11 s_113 (Nat.le_of_ble_eq_true rfl)) (xptr W 113 25 p_113_25) <| Y_iload_n dX12_readTwo_61 rfl <| Y_aload_n dX12_readTwo_62 rfl <| Y_callV1 dX12_readTwo_63 cl_11_342 rfl rfl (xis W 113 11 s_113 (Nat.le_of_ble_eq_true rfl)) rfl rfl rfl (hk63) <| Y_iast dX12_readTwo_66 (xarr W63 (o := 130) s_130 (Nat.le_of_ble_eq_true rfl)) hi66 <| Y_aload_n dX12_readTwo_67 rfl <| Y_callV1 dX12_readTwo_68 cl_11_279 rfl rfl (xis W63 113 11 s_113 (Nat.le_of_ble_eq_true rfl)) rfl rfl rfl (hk68) <| Y_eq0 86 dX12_readTwo_71 rfl (fun q => X_le (xle_s (xle_s (xle_n xle_0))) (k1 q)) (fun q => X_le (xle_s (xle_s (xle_n xle_0))) (k2 q))
theorem bX12_readTwo_74 {d : Nat} {g : xSt} {r : Option Value × xSt} {a1 : Int32} (W : xWf g) (k1 : (xI g 113 8) = 2 → xX (d + 1) mX12_readTwo 86 [some (.ref 113), some (.int a1), none] [] g = some r) (k2 : ¬ ((xI g 113 8) = 2) → xX (d + 1) mX12_readTwo 82 [some (.ref 113), some (.int a1), none] [] g = some r) : xX (d + 1) mX12_readTwo 74 [some (.ref 113), some (.int a1), none] [] g = some r :=
  Y_aload_n dX12_readTwo_74 rfl <| Y_getI dX12_readTwo_75 f_11_254 ft_11_8 (xis W 113 11 s_113 (Nat.le_of_ble_eq_true rfl)) <| Y_iconst 2 dX12_readTwo_78 ic_2 <| Y_eq 86 dX12_readTwo_79 rfl (fun q => X_le (xle_s (xle_s (xle_n xle_0))) (k1 q)) (fun q => X_le (xle_s (xle_s (xle_n xle_0))) (k2 q))
theorem bX12_readTwo_82 {d : Nat} {g : xSt} {r : Option Value × xSt} {a1 : Int32} {g83 : xSt} (W : xWf g) (hk83 : xCallM d mX12_misplaced [.ref 113] g = some (none, g83)) (W83 : xWf g83) (k : xX (d + 1) mX12_readTwo 86 [some (.ref 113), some (.int a1), none] [] g83 = some r) : xX (d + 1) mX12_readTwo 82 [some (.ref 113), some (.int a1), none] [] g = some r :=
  Y_aload_n dX12_readTwo_82 rfl <| Y_callV0 dX12_readTwo_83 cl_11_286 rfl rfl (xis W 113 11 s_113 (Nat.le_of_ble_eq_true rfl)) rfl rfl rfl (hk83) <| X_le (xle_s (xle_s (xle_n xle_0))) k
theorem bX12_readTwo_86 {d : Nat} {g : xSt} {r : Option Value × xSt} {a1 r87 : Int32} {g87 : xSt} (W : xWf g) (hk87 : xCallM d mX12_isGood [.ref 113] g = some (some (.int r87), g87)) (W87 : xWf g87) (k1 : r87 = 0 → xX (d + 1) mX12_readTwo 111 [some (.ref 113), some (.int a1), none] [] g87 = some r) (k2 : ¬ (r87 = 0) → xX (d + 1) mX12_readTwo 93 [some (.ref 113), some (.int a1), none] [] g87 = some r) : xX (d + 1) mX12_readTwo 86 [some (.ref 113), some (.int a1), none] [] g = some r :=
  Y_aload_n dX12_readTwo_86 rfl <| Y_callV1 dX12_readTwo_87 cl_11_279 rfl rfl (xis W 113 11 s_113 (Nat.le_of_ble_eq_true rfl)) rfl rfl rfl (hk87) <| Y_eq0 111 dX12_readTwo_90 rfl (fun q => X_le (xle_s (xle_s (xle_n xle_0))) (k1 q)) (fun q => X_le (xle_s (xle_s (xle_n xle_0))) (k2 q))
theorem bX12_readTwo_93 {d : Nat} {g : xSt} {r : Option Value × xSt} {a1 : Int32} (W : xWf g) (hi98 : vp_in a1 120) (k1 : 0 ≤ (xI g 130 a1.toNatClampNeg) → xX (d + 1) mX12_readTwo 111 [some (.ref 113), some (.int a1), none] [] g = some r) (k2 : ¬ (0 ≤ (xI g 130 a1.toNatClampNeg)) → xX (d + 1) mX12_readTwo 102 [some (.ref 113), some (.int a1), none] [] g = some r) : xX (d + 1) mX12_readTwo 93 [some (.ref 113), some (.int a1), none] [] g = some r :=
  Y_aload_n dX12_readTwo_93 rfl <| Y_getR dX12_readTwo_94 f_11_65 (by rw [ft_11_25]; rfl) (xis W 113 11 s_113 (Nat.le_of_ble_eq_true rfl)) (xptr W 113 25 p_113_25) <| Y_iload_n dX12_readTwo_97 rfl <| Y_iald dX12_readTwo_98 (xarr W (o := 130) s_130 (Nat.le_of_ble_eq_true rfl)) hi98 <| Y_ge0 111 dX12_readTwo_99 rfl (fun q => X_le (xle_s (xle_s (xle_n xle_0))) (k1 q)) (fun q => X_le (xle_s (xle_s (xle_n xle_0))) (k2 q))
theorem bX12_readTwo_102 {d : Nat} {g : xSt} {r : Option Value × xSt} {a1 : Int32} {g108 : xSt} (W : xWf g) (hk108 : xCallM d mX12_fails [.ref 113, .int 5, .int (xI g 113 6)] g = some (none, g108)) (W108 : xWf g108) (k : xX (d + 1) mX12_readTwo 111 [some (.ref 113), some (.int a1), none] [] g108 = some r) : xX (d + 1) mX12_readTwo 102 [some (.ref 113), some (.int a1), none] [] g = some r :=
  Y_aload_n dX12_readTwo_102 rfl <| Y_iconst 5 dX12_readTwo_103 ic_5 <| Y_aload_n dX12_readTwo_104 rfl <| Y_getI dX12_readTwo_105 f_11_247 ft_11_6 (xis W 113 11 s_113 (Nat.le_of_ble_eq_true rfl)) <| Y_callV0 dX12_readTwo_108 cl_11_275 rfl rfl (xis W 113 11 s_113 (Nat.le_of_ble_eq_true rfl)) rfl rfl rfl (hk108) <| X_le (xle_s (xle_s (xle_n xle_0))) k
theorem bX12_readTwo_111 {d : Nat} {g : xSt} {r : Option Value × xSt} {a1 r112 : Int32} {g112 : xSt} (W : xWf g) (hk112 : xCallM d mX12_isGood [.ref 113] g = some (some (.int r112), g112)) (W112 : xWf g112) (k1 : r112 = 0 → xX (d + 1) mX12_readTwo 142 [some (.ref 113), some (.int a1), none] [] g112 = some r) (k2 : ¬ (r112 = 0) → xX (d + 1) mX12_readTwo 118 [some (.ref 113), some (.int a1), none] [] g112 = some r) : xX (d + 1) mX12_readTwo 111 [some (.ref 113), some (.int a1), none] [] g = some r :=
  Y_aload_n dX12_readTwo_111 rfl <| Y_callV1 dX12_readTwo_112 cl_11_279 rfl rfl (xis W 113 11 s_113 (Nat.le_of_ble_eq_true rfl)) rfl rfl rfl (hk112) <| Y_eq0 142 dX12_readTwo_115 rfl (fun q => X_le (xle_s (xle_s (xle_n xle_0))) (k1 q)) (fun q => X_le (xle_s (xle_s (xle_n xle_0))) (k2 q))
theorem bX12_readTwo_118 {d : Nat} {g : xSt} {r : Option Value × xSt} {a1 : Int32} (W : xWf g) (hi123 : vp_in a1 120) (hi129 : vp_in a1 120) (k1 : (xI g 130 a1.toNatClampNeg) = (xI g 129 a1.toNatClampNeg) → xX (d + 1) mX12_readTwo 133 [some (.ref 113), some (.int a1), none] [] g = some r) (k2 : ¬ ((xI g 130 a1.toNatClampNeg) = (xI g 129 a1.toNatClampNeg)) → xX (d + 1) mX12_readTwo 142 [some (.ref 113), some (.int a1), none] [] g = some r) : xX (d + 1) mX12_readTwo 118 [some (.ref 113), some (.int a1), none] [] g = some r :=
  Y_aload_n dX12_readTwo_118 rfl <| Y_getR dX12_readTwo_119 f_11_65 (by rw [ft_11_25]; rfl) (xis W 113 11 s_113 (Nat.le_of_ble_eq_true rfl)) (xptr W 113 25 p_113_25) <| Y_iload_n dX12_readTwo_122 rfl <| Y_iald dX12_readTwo_123 (xarr W (o := 130) s_130 (Nat.le_of_ble_eq_true rfl)) hi123 <| Y_aload_n dX12_readTwo_124 rfl <| Y_getR dX12_readTwo_125 f_11_62 (by rw [ft_11_24]; rfl) (xis W 113 11 s_113 (Nat.le_of_ble_eq_true rfl)) (xptr W 113 24 p_113_24) <| Y_iload_n dX12_readTwo_128 rfl <| Y_iald dX12_readTwo_129 (xarr W (o := 129) s_129 (Nat.le_of_ble_eq_true rfl)) hi129 <| Y_ne 142 dX12_readTwo_130 rfl (fun q => X_le (xle_s (xle_s (xle_n xle_0))) (k1 q)) (fun q => X_le (xle_s (xle_s (xle_n xle_0))) (k2 q))
theorem bX12_readTwo_133 {d : Nat} {g : xSt} {r : Option Value × xSt} {a1 : Int32} {g139 : xSt} (W : xWf g) (hk139 : xCallM d mX12_fails [.ref 113, .int 3, .int (xI g 113 6)] g = some (none, g139)) (W139 : xWf g139) (k : xX (d + 1) mX12_readTwo 142 [some (.ref 113), some (.int a1), none] [] g139 = some r) : xX (d + 1) mX12_readTwo 133 [some (.ref 113), some (.int a1), none] [] g = some r :=
  Y_aload_n dX12_readTwo_133 rfl <| Y_iconst 3 dX12_readTwo_134 ic_3 <| Y_aload_n dX12_readTwo_135 rfl <| Y_getI dX12_readTwo_136 f_11_247 ft_11_6 (xis W 113 11 s_113 (Nat.le_of_ble_eq_true rfl)) <| Y_callV0 dX12_readTwo_139 cl_11_275 rfl rfl (xis W 113 11 s_113 (Nat.le_of_ble_eq_true rfl)) rfl rfl rfl (hk139) <| X_le (xle_s (xle_s (xle_n xle_0))) k
theorem bX12_readTwo_142 {d : Nat} {g : xSt} {r : Option Value × xSt} {a1 r143 : Int32} {g143 : xSt} (W : xWf g) (hk143 : xCallM d mX12_isGood [.ref 113] g = some (some (.int r143), g143)) (W143 : xWf g143) (k1 : r143 = 0 → xX (d + 1) mX12_readTwo 153 [some (.ref 113), some (.int a1), none] [] g143 = some r) (k2 : ¬ (r143 = 0) → xX (d + 1) mX12_readTwo 149 [some (.ref 113), some (.int a1), none] [] g143 = some r) : xX (d + 1) mX12_readTwo 142 [some (.ref 113), some (.int a1), none] [] g = some r :=
  Y_aload_n dX12_readTwo_142 rfl <| Y_callV1 dX12_readTwo_143 cl_11_279 rfl rfl (xis W 113 11 s_113 (Nat.le_of_ble_eq_true rfl)) rfl rfl rfl (hk143) <| Y_eq0 153 dX12_readTwo_146 rfl (fun q => X_le (xle_s (xle_s (xle_n xle_0))) (k1 q)) (fun q => X_le (xle_s (xle_s (xle_n xle_0))) (k2 q))
theorem bX12_readTwo_149 {d : Nat} {g : xSt} {r : Option Value × xSt} {a1 : Int32} {g150 : xSt} (W : xWf g) (hk150 : xCallM d mX12_goOn [.ref 113] g = some (none, g150)) (W150 : xWf g150) (k : xX (d + 1) mX12_readTwo 153 [some (.ref 113), some (.int a1), none] [] g150 = some r) : xX (d + 1) mX12_readTwo 149 [some (.ref 113), some (.int a1), none] [] g = some r :=
  Y_aload_n dX12_readTwo_149 rfl <| Y_callV0 dX12_readTwo_150 cl_11_283 rfl rfl (xis W 113 11 s_113 (Nat.le_of_ble_eq_true rfl)) rfl rfl rfl (hk150) <| X_le (xle_s (xle_s (xle_n xle_0))) k
theorem bX12_readTwo_153 {d : Nat} {g : xSt} {r : Option Value × xSt} {a1 r157 r164 : Int32} {g157 g160 g164 : xSt} (W : xWf g) (hk157 : xCallM d mX12_isSignHere [.ref 113, .int 40] g = some (some (.int r157), g157)) (W157 : xWf g157) (hk160 : xCallM d mX12_must [.ref 113, .int r157] g157 = some (none, g160)) (W160 : xWf g160) (hk164 : xCallM d mX12_isGood [.ref 113] g160 = some (some (.int r164), g164)) (W164 : xWf g164) (k1 : r164 = 0 → xX (d + 1) mX12_readTwo 170 [none, none, none] [] g164 = some r) (k2 : ¬ (r164 = 0) → xX (d + 1) mX12_readTwo 171 [some (.ref 113), some (.int a1), none] [] g164 = some r) : xX (d + 1) mX12_readTwo 153 [some (.ref 113), some (.int a1), none] [] g = some r :=
  Y_aload_n dX12_readTwo_153 rfl <| Y_aload_n dX12_readTwo_154 rfl <| Y_bipush 40 dX12_readTwo_155 bp_40 <| Y_callV1 dX12_readTwo_157 cl_11_335 rfl rfl (xis W 113 11 s_113 (Nat.le_of_ble_eq_true rfl)) rfl rfl rfl (hk157) <| Y_callV0 dX12_readTwo_160 cl_11_338 rfl rfl (xis W157 113 11 s_113 (Nat.le_of_ble_eq_true rfl)) rfl rfl rfl (hk160) <| Y_aload_n dX12_readTwo_163 rfl <| Y_callV1 dX12_readTwo_164 cl_11_279 rfl rfl (xis W160 113 11 s_113 (Nat.le_of_ble_eq_true rfl)) rfl rfl rfl (hk164) <| Y_ne0 171 dX12_readTwo_167 rfl (fun q => X_le (xle_n (xle_n (xle_n xle_0))) (k1 q)) (fun q => X_le (xle_s (xle_s (xle_n xle_0))) (k2 q))
theorem bX12_readTwo_170 {d : Nat} {g : xSt} {r : Option Value × xSt}  (k : r = (none, g)) : xX (d + 1) mX12_readTwo 170 [none, none, none] [] g = some r :=
  Y_ret dX12_readTwo_170 rfl k
theorem bX12_readTwo_171 {d : Nat} {g : xSt} {r : Option Value × xSt} {a1 : Int32} (W : xWf g) (hi180 : vp_in (xI g 113 31) 2) (hi183 : vp_in (xI g 113 31) 2) (k : xX (d + 1) mX12_readTwo 186 [some (.ref 113), some (.int a1), some (.int 0)] [] (xWI g 127 (xI g 113 31).toNatClampNeg ((xI g 127 (xI g 113 31).toNatClampNeg) + 1)) = some r) : xX (d + 1) mX12_readTwo 171 [some (.ref 113), some (.int a1), none] [] g = some r :=
  Y_aload_n dX12_readTwo_171 rfl <| Y_getR dX12_readTwo_172 f_11_56 (by rw [ft_11_22]; rfl) (xis W 113 11 s_113 (Nat.le_of_ble_eq_true rfl)) (xptr W 113 22 p_113_22) <| Y_aload_n dX12_readTwo_175 rfl <| Y_getI dX12_readTwo_176 f_11_289 ft_11_31 (xis W 113 11 s_113 (Nat.le_of_ble_eq_true rfl)) <| Y_dup2 dX12_readTwo_179 rfl rfl <| Y_iald dX12_readTwo_180 (xarr W (o := 127) s_127 (Nat.le_of_ble_eq_true rfl)) hi180 <| Y_iconst 1 dX12_readTwo_181 ic_1 <| Y_iadd dX12_readTwo_182 <| Y_iast dX12_readTwo_183 (xarr W (o := 127) s_127 (Nat.le_of_ble_eq_true rfl)) hi183 <| Y_iconst 0 dX12_readTwo_184 ic_0 <| Y_istore_n dX12_readTwo_185 rfl rfl <| X_le (xle_s (xle_s (xle_s xle_0))) k
theorem bX12_readTwo_186 {d : Nat} {g : xSt} {r : Option Value × xSt} {a1 a2 : Int32} (k1 : 3 ≤ a2 → xX (d + 1) mX12_readTwo 208 [some (.ref 113), some (.int a1), none] [] g = some r) (k2 : ¬ (3 ≤ a2) → xX (d + 1) mX12_readTwo 191 [some (.ref 113), some (.int a1), some (.int a2)] [] g = some r) : xX (d + 1) mX12_readTwo 186 [some (.ref 113), some (.int a1), some (.int a2)] [] g = some r :=
  Y_iload_n dX12_readTwo_186 rfl <| Y_iconst 3 dX12_readTwo_187 ic_3 <| Y_ge 208 dX12_readTwo_188 rfl (fun q => X_le (xle_s (xle_s (xle_n xle_0))) (k1 q)) (fun q => X_le (xle_s (xle_s (xle_s xle_0))) (k2 q))
theorem bX12_readTwo_191 {d : Nat} {g : xSt} {r : Option Value × xSt} {a1 a2 : Int32} (W : xWf g) (hi201 : vp_in ((3 * a1) + a2) 360) (k : xX (d + 1) mX12_readTwo 186 [some (.ref 113), some (.int a1), some (.int (a2 + 1))] [] (xWI g 131 ((3 * a1) + a2).toNatClampNeg (-1)) = some r) : xX (d + 1) mX12_readTwo 191 [some (.ref 113), some (.int a1), some (.int a2)] [] g = some r :=
  Y_aload_n dX12_readTwo_191 rfl <| Y_getR dX12_readTwo_192 f_11_68 (by rw [ft_11_26]; rfl) (xis W 113 11 s_113 (Nat.le_of_ble_eq_true rfl)) (xptr W 113 26 p_113_26) <| Y_iconst 3 dX12_readTwo_195 ic_3 <| Y_iload_n dX12_readTwo_196 rfl <| Y_imul dX12_readTwo_197 <| Y_iload_n dX12_readTwo_198 rfl <| Y_iadd dX12_readTwo_199 <| Y_iconst (-1) dX12_readTwo_200 ic_m1 <| Y_iast dX12_readTwo_201 (xarr W (o := 131) s_131 (Nat.le_of_ble_eq_true rfl)) hi201 <| Y_iinc 1 dX12_readTwo_202 rfl ic_1 rfl rfl <| Y_goto 186 dX12_readTwo_205 rfl <| X_le (xle_s (xle_s (xle_s xle_0))) k
theorem bX12_readTwo_208 {d : Nat} {g : xSt} {r : Option Value × xSt} {a1 : Int32} (W : xWf g) (hi217 : vp_in (xI g 113 29) 12) (hi227 : vp_in (xI g 113 29) 12) (k : r = (none, xWI (xWI (xWI g 132 (xI g 113 29).toNatClampNeg a1) 133 (xI g 113 29).toNatClampNeg 0) 113 29 ((xI g 113 29) + 1))) : xX (d + 1) mX12_readTwo 208 [some (.ref 113), some (.int a1), none] [] g = some r :=
  Y_aload_n dX12_readTwo_208 rfl <| Y_getR dX12_readTwo_209 f_11_71 (by rw [ft_11_27]; rfl) (xis W 113 11 s_113 (Nat.le_of_ble_eq_true rfl)) (xptr W 113 27 p_113_27) <| Y_aload_n dX12_readTwo_212 rfl <| Y_getI dX12_readTwo_213 f_11_352 ft_11_29 (xis W 113 11 s_113 (Nat.le_of_ble_eq_true rfl)) <| Y_iload_n dX12_readTwo_216 rfl <| Y_iast dX12_readTwo_217 (xarr W (o := 132) s_132 (Nat.le_of_ble_eq_true rfl)) hi217 <| Y_aload_n dX12_readTwo_218 rfl <| Y_getR dX12_readTwo_219 f_11_74 (by rw [ft_11_28]; rfl) (xis W 113 11 s_113 (Nat.le_of_ble_eq_true rfl)) (xptr W 113 28 p_113_28) <| Y_aload_n dX12_readTwo_222 rfl <| Y_getI dX12_readTwo_223 f_11_352 ft_11_29 (xis W 113 11 s_113 (Nat.le_of_ble_eq_true rfl)) <| Y_iconst 0 dX12_readTwo_226 ic_0 <| Y_iast dX12_readTwo_227 (xarr W (o := 133) s_133 (Nat.le_of_ble_eq_true rfl)) hi227 <| Y_aload_n dX12_readTwo_228 rfl <| Y_dup dX12_readTwo_229 rfl <| Y_getI dX12_readTwo_230 f_11_352 ft_11_29 (xis W 113 11 s_113 (Nat.le_of_ble_eq_true rfl)) <| Y_iconst 1 dX12_readTwo_233 ic_1 <| Y_iadd dX12_readTwo_234 <| Y_putI dX12_readTwo_235 f_11_352 fn_11_29 ft_11_29 (xis W 113 11 s_113 (Nat.le_of_ble_eq_true rfl)) <| Y_ret dX12_readTwo_238 rfl k
theorem bX12_isSignHere_0 {d : Nat} {g : xSt} {r : Option Value × xSt} {a1 : Int32} (W : xWf g) (k1 : (xI g 113 8) = 5 → xX (d + 1) mX12_isSignHere 8 [some (.ref 113), some (.int a1)] [] g = some r) (k2 : ¬ ((xI g 113 8) = 5) → xX (d + 1) mX12_isSignHere 24 [none, none] [] g = some r) : xX (d + 1) mX12_isSignHere 0 [some (.ref 113), some (.int a1)] [] g = some r :=
  Y_aload_n dX12_isSignHere_0 rfl <| Y_getI dX12_isSignHere_1 f_11_254 ft_11_8 (xis W 113 11 s_113 (Nat.le_of_ble_eq_true rfl)) <| Y_iconst 5 dX12_isSignHere_4 ic_5 <| Y_ne 24 dX12_isSignHere_5 rfl (fun q => X_le (xle_s (xle_s xle_0)) (k1 q)) (fun q => X_le (xle_n (xle_n xle_0)) (k2 q))
theorem bX12_isSignHere_8 {d : Nat} {g : xSt} {r : Option Value × xSt} {a1 r13 : Int32} {g13 : xSt} (W : xWf g) (hk13 : xCallM d mX12_sign [.ref 113, .int (xI g 113 6)] g = some (some (.int r13), g13)) (W13 : xWf g13) (k1 : r13 = a1 → xX (d + 1) mX12_isSignHere 20 [none, none] [] g13 = some r) (k2 : ¬ (r13 = a1) → xX (d + 1) mX12_isSignHere 24 [none, none] [] g13 = some r) : xX (d + 1) mX12_isSignHere 8 [some (.ref 113), some (.int a1)] [] g = some r :=
  Y_aload_n dX12_isSignHere_8 rfl <| Y_aload_n dX12_isSignHere_9 rfl <| Y_getI dX12_isSignHere_10 f_11_247 ft_11_6 (xis W 113 11 s_113 (Nat.le_of_ble_eq_true rfl)) <| Y_callV1 dX12_isSignHere_13 cl_11_250 rfl rfl (xis W 113 11 s_113 (Nat.le_of_ble_eq_true rfl)) rfl rfl rfl (hk13) <| Y_iload_n dX12_isSignHere_16 rfl <| Y_ne 24 dX12_isSignHere_17 rfl (fun q => X_le (xle_n (xle_n xle_0)) (k1 q)) (fun q => X_le (xle_n (xle_n xle_0)) (k2 q))
theorem bX12_isSignHere_20 {d : Nat} {g : xSt} {r : Option Value × xSt}  (k : xX (d + 1) mX12_isSignHere 25 [none, none] [.int 1] g = some r) : xX (d + 1) mX12_isSignHere 20 [none, none] [] g = some r :=
  Y_iconst 1 dX12_isSignHere_20 ic_1 <| Y_goto 25 dX12_isSignHere_21 rfl <| X_le (xle_n (xle_n xle_0)) k
theorem bX12_isSignHere_24 {d : Nat} {g : xSt} {r : Option Value × xSt}  (k : xX (d + 1) mX12_isSignHere 25 [none, none] [.int 0] g = some r) : xX (d + 1) mX12_isSignHere 24 [none, none] [] g = some r :=
  Y_iconst 0 dX12_isSignHere_24 ic_0 <| X_le (xle_n (xle_n xle_0)) k
theorem bX12_isSignHere_25 {d : Nat} {g : xSt} {r : Option Value × xSt} {s0 : Int32} (hz25 : s0 = 0 ∨ s0 = 1) (k : r = (some (.int s0), g)) : xX (d + 1) mX12_isSignHere 25 [none, none] [.int s0] g = some r :=
  Y_zret dX12_isSignHere_25 rfl (hz25) k
