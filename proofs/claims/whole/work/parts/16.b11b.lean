/-! stretches of HeavierRowModel, by program (wip/whole/genall.py) -/
theorem dX12_closes_0 : decode mX12_closes.2.1 0 = .ok (.aload_n 0, 1) := by decide +kernel
theorem dX12_closes_1 : decode mX12_closes.2.1 1 = .ok (.getfield 352, 3) := by decide +kernel
theorem dX12_closes_4 : decode mX12_closes.2.1 4 = .ok (.iconst 1, 1) := by decide +kernel
theorem dX12_closes_5 : decode mX12_closes.2.1 5 = .ok (.isub, 1) := by decide +kernel
theorem dX12_closes_6 : decode mX12_closes.2.1 6 = .ok (.istore_n 2, 1) := by decide +kernel
theorem dX12_closes_7 : decode mX12_closes.2.1 7 = .ok (.aload_n 0, 1) := by decide +kernel
theorem dX12_closes_8 : decode mX12_closes.2.1 8 = .ok (.getfield 68, 3) := by decide +kernel
theorem dX12_closes_11 : decode mX12_closes.2.1 11 = .ok (.iconst 3, 1) := by decide +kernel
theorem dX12_closes_12 : decode mX12_closes.2.1 12 = .ok (.aload_n 0, 1) := by decide +kernel
theorem dX12_closes_13 : decode mX12_closes.2.1 13 = .ok (.getfield 71, 3) := by decide +kernel
theorem dX12_closes_16 : decode mX12_closes.2.1 16 = .ok (.iload_n 2, 1) := by decide +kernel
theorem dX12_closes_17 : decode mX12_closes.2.1 17 = .ok (.iaload, 1) := by decide +kernel
theorem dX12_closes_18 : decode mX12_closes.2.1 18 = .ok (.imul, 1) := by decide +kernel
theorem dX12_closes_19 : decode mX12_closes.2.1 19 = .ok (.aload_n 0, 1) := by decide +kernel
theorem dX12_closes_20 : decode mX12_closes.2.1 20 = .ok (.getfield 74, 3) := by decide +kernel
theorem dX12_closes_23 : decode mX12_closes.2.1 23 = .ok (.iload_n 2, 1) := by decide +kernel
theorem dX12_closes_24 : decode mX12_closes.2.1 24 = .ok (.iaload, 1) := by decide +kernel
theorem dX12_closes_25 : decode mX12_closes.2.1 25 = .ok (.iadd, 1) := by decide +kernel
theorem dX12_closes_26 : decode mX12_closes.2.1 26 = .ok (.iload_n 1, 1) := by decide +kernel
theorem dX12_closes_27 : decode mX12_closes.2.1 27 = .ok (.iastore, 1) := by decide +kernel
theorem dX12_closes_28 : decode mX12_closes.2.1 28 = .ok (.aload_n 0, 1) := by decide +kernel
theorem dX12_closes_29 : decode mX12_closes.2.1 29 = .ok (.getfield 74, 3) := by decide +kernel
theorem dX12_closes_32 : decode mX12_closes.2.1 32 = .ok (.iload_n 2, 1) := by decide +kernel
theorem dX12_closes_33 : decode mX12_closes.2.1 33 = .ok (.dup2, 1) := by decide +kernel
theorem dX12_closes_34 : decode mX12_closes.2.1 34 = .ok (.iaload, 1) := by decide +kernel
theorem dX12_closes_35 : decode mX12_closes.2.1 35 = .ok (.iconst 1, 1) := by decide +kernel
theorem dX12_closes_36 : decode mX12_closes.2.1 36 = .ok (.iadd, 1) := by decide +kernel
theorem dX12_closes_37 : decode mX12_closes.2.1 37 = .ok (.iastore, 1) := by decide +kernel
theorem dX12_closes_38 : decode mX12_closes.2.1 38 = .ok (.aload_n 0, 1) := by decide +kernel
theorem dX12_closes_39 : decode mX12_closes.2.1 39 = .ok (.getfield 74, 3) := by decide +kernel
theorem dX12_closes_42 : decode mX12_closes.2.1 42 = .ok (.iload_n 2, 1) := by decide +kernel
theorem dX12_closes_43 : decode mX12_closes.2.1 43 = .ok (.iaload, 1) := by decide +kernel
theorem dX12_closes_44 : decode mX12_closes.2.1 44 = .ok (.iconst 1, 1) := by decide +kernel
theorem dX12_closes_45 : decode mX12_closes.2.1 45 = .ok (.if_icmp .eq 22, 3) := by decide +kernel
theorem dX12_closes_48 : decode mX12_closes.2.1 48 = .ok (.aload_n 0, 1) := by decide +kernel
theorem dX12_closes_49 : decode mX12_closes.2.1 49 = .ok (.getfield 74, 3) := by decide +kernel
theorem dX12_closes_52 : decode mX12_closes.2.1 52 = .ok (.iload_n 2, 1) := by decide +kernel
theorem dX12_closes_53 : decode mX12_closes.2.1 53 = .ok (.iaload, 1) := by decide +kernel
theorem dX12_closes_54 : decode mX12_closes.2.1 54 = .ok (.iconst 2, 1) := by decide +kernel
theorem dX12_closes_55 : decode mX12_closes.2.1 55 = .ok (.if_icmp .ne 27, 3) := by decide +kernel
theorem dX12_closes_58 : decode mX12_closes.2.1 58 = .ok (.aload_n 0, 1) := by decide +kernel
theorem dX12_closes_59 : decode mX12_closes.2.1 59 = .ok (.bipush 47, 2) := by decide +kernel
theorem dX12_closes_61 : decode mX12_closes.2.1 61 = .ok (.invokevirtual 335, 3) := by decide +kernel
theorem dX12_closes_64 : decode mX12_closes.2.1 64 = .ok (.ifCond .eq 18, 3) := by decide +kernel
theorem dX12_closes_67 : decode mX12_closes.2.1 67 = .ok (.aload_n 0, 1) := by decide +kernel
theorem dX12_closes_68 : decode mX12_closes.2.1 68 = .ok (.aload_n 0, 1) := by decide +kernel
theorem dX12_closes_69 : decode mX12_closes.2.1 69 = .ok (.bipush 47, 2) := by decide +kernel
theorem dX12_closes_71 : decode mX12_closes.2.1 71 = .ok (.invokevirtual 335, 3) := by decide +kernel
theorem dX12_closes_74 : decode mX12_closes.2.1 74 = .ok (.invokevirtual 338, 3) := by decide +kernel
theorem dX12_closes_77 : decode mX12_closes.2.1 77 = .ok (.aload_n 0, 1) := by decide +kernel
theorem dX12_closes_78 : decode mX12_closes.2.1 78 = .ok (.invokevirtual 355, 3) := by decide +kernel
theorem dX12_closes_81 : decode mX12_closes.2.1 81 = .ok (.ireturn, 1) := by decide +kernel
theorem dX12_closes_82 : decode mX12_closes.2.1 82 = .ok (.aload_n 0, 1) := by decide +kernel
theorem dX12_closes_83 : decode mX12_closes.2.1 83 = .ok (.aload_n 0, 1) := by decide +kernel
theorem dX12_closes_84 : decode mX12_closes.2.1 84 = .ok (.bipush 41, 2) := by decide +kernel
theorem dX12_closes_86 : decode mX12_closes.2.1 86 = .ok (.invokevirtual 335, 3) := by decide +kernel
theorem dX12_closes_89 : decode mX12_closes.2.1 89 = .ok (.invokevirtual 338, 3) := by decide +kernel
theorem dX12_closes_92 : decode mX12_closes.2.1 92 = .ok (.aload_n 0, 1) := by decide +kernel
theorem dX12_closes_93 : decode mX12_closes.2.1 93 = .ok (.dup, 1) := by decide +kernel
theorem dX12_closes_94 : decode mX12_closes.2.1 94 = .ok (.getfield 352, 3) := by decide +kernel
theorem dX12_closes_97 : decode mX12_closes.2.1 97 = .ok (.iconst 1, 1) := by decide +kernel
theorem dX12_closes_98 : decode mX12_closes.2.1 98 = .ok (.isub, 1) := by decide +kernel
theorem dX12_closes_99 : decode mX12_closes.2.1 99 = .ok (.putfield 352, 3) := by decide +kernel
theorem dX12_closes_102 : decode mX12_closes.2.1 102 = .ok (.aload_n 0, 1) := by decide +kernel
theorem dX12_closes_103 : decode mX12_closes.2.1 103 = .ok (.getfield 71, 3) := by decide +kernel
theorem dX12_closes_106 : decode mX12_closes.2.1 106 = .ok (.iload_n 2, 1) := by decide +kernel
theorem dX12_closes_107 : decode mX12_closes.2.1 107 = .ok (.iaload, 1) := by decide +kernel
theorem dX12_closes_108 : decode mX12_closes.2.1 108 = .ok (.ireturn, 1) := by decide +kernel
theorem dX12_layClerk_0 : decode mX12_layClerk.2.1 0 = .ok (.iconst 0, 1) := by decide +kernel
theorem dX12_layClerk_1 : decode mX12_layClerk.2.1 1 = .ok (.istore_n 1, 1) := by decide +kernel
theorem dX12_layClerk_2 : decode mX12_layClerk.2.1 2 = .ok (.iload_n 1, 1) := by decide +kernel
theorem dX12_layClerk_3 : decode mX12_layClerk.2.1 3 = .ok (.aload_n 0, 1) := by decide +kernel
theorem dX12_layClerk_4 : decode mX12_layClerk.2.1 4 = .ok (.getfield 20, 3) := by decide +kernel
theorem dX12_layClerk_7 : decode mX12_layClerk.2.1 7 = .ok (.aload_n 0, 1) := by decide +kernel
theorem dX12_layClerk_8 : decode mX12_layClerk.2.1 8 = .ok (.getfield 295, 3) := by decide +kernel
theorem dX12_layClerk_11 : decode mX12_layClerk.2.1 11 = .ok (.iaload, 1) := by decide +kernel
theorem dX12_layClerk_12 : decode mX12_layClerk.2.1 12 = .ok (.if_icmp .ge 55, 3) := by decide +kernel
theorem dX12_layClerk_15 : decode mX12_layClerk.2.1 15 = .ok (.aload_n 0, 1) := by decide +kernel
theorem dX12_layClerk_16 : decode mX12_layClerk.2.1 16 = .ok (.iload_n 1, 1) := by decide +kernel
theorem dX12_layClerk_17 : decode mX12_layClerk.2.1 17 = .ok (.invokevirtual 346, 3) := by decide +kernel
theorem dX12_layClerk_20 : decode mX12_layClerk.2.1 20 = .ok (.ifCond .eq 6, 3) := by decide +kernel
theorem dX12_layClerk_23 : decode mX12_layClerk.2.1 23 = .ok (.goto 38, 3) := by decide +kernel
theorem dX12_layClerk_26 : decode mX12_layClerk.2.1 26 = .ok (.aload_n 0, 1) := by decide +kernel
theorem dX12_layClerk_27 : decode mX12_layClerk.2.1 27 = .ok (.getfield 30, 3) := by decide +kernel
theorem dX12_layClerk_30 : decode mX12_layClerk.2.1 30 = .ok (.iconst 5, 1) := by decide +kernel
theorem dX12_layClerk_31 : decode mX12_layClerk.2.1 31 = .ok (.aload_n 0, 1) := by decide +kernel
theorem dX12_layClerk_32 : decode mX12_layClerk.2.1 32 = .ok (.getfield 295, 3) := by decide +kernel
theorem dX12_layClerk_35 : decode mX12_layClerk.2.1 35 = .ok (.imul, 1) := by decide +kernel
theorem dX12_layClerk_36 : decode mX12_layClerk.2.1 36 = .ok (.aload_n 0, 1) := by decide +kernel
theorem dX12_layClerk_37 : decode mX12_layClerk.2.1 37 = .ok (.getfield 27, 3) := by decide +kernel
theorem dX12_layClerk_40 : decode mX12_layClerk.2.1 40 = .ok (.aload_n 0, 1) := by decide +kernel
theorem dX12_layClerk_41 : decode mX12_layClerk.2.1 41 = .ok (.getfield 295, 3) := by decide +kernel
theorem dX12_layClerk_44 : decode mX12_layClerk.2.1 44 = .ok (.iaload, 1) := by decide +kernel
theorem dX12_layClerk_45 : decode mX12_layClerk.2.1 45 = .ok (.iadd, 1) := by decide +kernel
theorem dX12_layClerk_46 : decode mX12_layClerk.2.1 46 = .ok (.iload_n 1, 1) := by decide +kernel
theorem dX12_layClerk_47 : decode mX12_layClerk.2.1 47 = .ok (.iastore, 1) := by decide +kernel
theorem dX12_layClerk_48 : decode mX12_layClerk.2.1 48 = .ok (.aload_n 0, 1) := by decide +kernel
theorem dX12_layClerk_49 : decode mX12_layClerk.2.1 49 = .ok (.getfield 27, 3) := by decide +kernel
theorem dX12_layClerk_52 : decode mX12_layClerk.2.1 52 = .ok (.aload_n 0, 1) := by decide +kernel
theorem dX12_layClerk_53 : decode mX12_layClerk.2.1 53 = .ok (.getfield 295, 3) := by decide +kernel
theorem dX12_layClerk_56 : decode mX12_layClerk.2.1 56 = .ok (.dup2, 1) := by decide +kernel
theorem dX12_layClerk_57 : decode mX12_layClerk.2.1 57 = .ok (.iaload, 1) := by decide +kernel
theorem dX12_layClerk_58 : decode mX12_layClerk.2.1 58 = .ok (.iconst 1, 1) := by decide +kernel
theorem dX12_layClerk_59 : decode mX12_layClerk.2.1 59 = .ok (.iadd, 1) := by decide +kernel
theorem dX12_layClerk_60 : decode mX12_layClerk.2.1 60 = .ok (.iastore, 1) := by decide +kernel
theorem dX12_layClerk_61 : decode mX12_layClerk.2.1 61 = .ok (.iinc 1 1, 3) := by decide +kernel
theorem dX12_layClerk_64 : decode mX12_layClerk.2.1 64 = .ok (.goto (-62), 3) := by decide +kernel
theorem dX12_layClerk_67 : decode mX12_layClerk.2.1 67 = .ok (.return_, 1) := by decide +kernel
theorem dX12_fault_0 : decode mX12_fault.2.1 0 = .ok (.iload_n 1, 1) := by decide +kernel
theorem dX12_fault_1 : decode mX12_fault.2.1 1 = .ok (.ifCond .ne 10, 3) := by decide +kernel
theorem dX12_fault_4 : decode mX12_fault.2.1 4 = .ok (.aload_n 0, 1) := by decide +kernel
theorem dX12_fault_5 : decode mX12_fault.2.1 5 = .ok (.getfield 227, 3) := by decide +kernel
theorem dX12_fault_8 : decode mX12_fault.2.1 8 = .ok (.goto 16, 3) := by decide +kernel
theorem dX12_fault_11 : decode mX12_fault.2.1 11 = .ok (.iload_n 1, 1) := by decide +kernel
theorem dX12_fault_12 : decode mX12_fault.2.1 12 = .ok (.iconst 1, 1) := by decide +kernel
theorem dX12_fault_13 : decode mX12_fault.2.1 13 = .ok (.if_icmp .ne 10, 3) := by decide +kernel
theorem dX12_fault_16 : decode mX12_fault.2.1 16 = .ok (.aload_n 0, 1) := by decide +kernel
theorem dX12_fault_17 : decode mX12_fault.2.1 17 = .ok (.getfield 16, 3) := by decide +kernel
theorem dX12_fault_20 : decode mX12_fault.2.1 20 = .ok (.goto 4, 3) := by decide +kernel
theorem dX12_fault_23 : decode mX12_fault.2.1 23 = .ok (.iconst (-1), 1) := by decide +kernel
theorem dX12_fault_24 : decode mX12_fault.2.1 24 = .ok (.ireturn, 1) := by decide +kernel
theorem dX12_clerk_0 : decode mX12_clerk.2.1 0 = .ok (.iload_n 1, 1) := by decide +kernel
theorem dX12_clerk_1 : decode mX12_clerk.2.1 1 = .ok (.iconst 0, 1) := by decide +kernel
theorem dX12_clerk_2 : decode mX12_clerk.2.1 2 = .ok (.aload_n 0, 1) := by decide +kernel
theorem dX12_clerk_3 : decode mX12_clerk.2.1 3 = .ok (.invokevirtual 364, 3) := by decide +kernel
theorem dX12_clerk_6 : decode mX12_clerk.2.1 6 = .ok (.iconst 1, 1) := by decide +kernel
theorem dX12_clerk_7 : decode mX12_clerk.2.1 7 = .ok (.isub, 1) := by decide +kernel
theorem dX12_clerk_8 : decode mX12_clerk.2.1 8 = .ok (.invokestatic 367, 3) := by decide +kernel
theorem dX12_clerk_11 : decode mX12_clerk.2.1 11 = .ok (.ifCond .eq 19, 3) := by decide +kernel
theorem dX12_clerk_14 : decode mX12_clerk.2.1 14 = .ok (.aload_n 0, 1) := by decide +kernel
theorem dX12_clerk_15 : decode mX12_clerk.2.1 15 = .ok (.getfield 30, 3) := by decide +kernel
theorem dX12_clerk_18 : decode mX12_clerk.2.1 18 = .ok (.iconst 5, 1) := by decide +kernel
theorem dX12_clerk_19 : decode mX12_clerk.2.1 19 = .ok (.aload_n 0, 1) := by decide +kernel
theorem dX12_clerk_20 : decode mX12_clerk.2.1 20 = .ok (.getfield 295, 3) := by decide +kernel
theorem dX12_clerk_23 : decode mX12_clerk.2.1 23 = .ok (.imul, 1) := by decide +kernel
theorem dX12_clerk_24 : decode mX12_clerk.2.1 24 = .ok (.iload_n 1, 1) := by decide +kernel
theorem dX12_clerk_25 : decode mX12_clerk.2.1 25 = .ok (.iadd, 1) := by decide +kernel
theorem dX12_clerk_26 : decode mX12_clerk.2.1 26 = .ok (.iaload, 1) := by decide +kernel
theorem dX12_clerk_27 : decode mX12_clerk.2.1 27 = .ok (.goto 4, 3) := by decide +kernel
theorem dX12_clerk_30 : decode mX12_clerk.2.1 30 = .ok (.iconst (-1), 1) := by decide +kernel
theorem dX12_clerk_31 : decode mX12_clerk.2.1 31 = .ok (.ireturn, 1) := by decide +kernel
theorem dX12_isIn_0 : decode mX12_isIn.2.1 0 = .ok (.iload_n 0, 1) := by decide +kernel
theorem dX12_isIn_1 : decode mX12_isIn.2.1 1 = .ok (.iload_n 1, 1) := by decide +kernel
theorem dX12_isIn_2 : decode mX12_isIn.2.1 2 = .ok (.if_icmp .lt 12, 3) := by decide +kernel
theorem dX12_isIn_5 : decode mX12_isIn.2.1 5 = .ok (.iload_n 0, 1) := by decide +kernel
theorem dX12_isIn_6 : decode mX12_isIn.2.1 6 = .ok (.iload_n 2, 1) := by decide +kernel
theorem dX12_isIn_7 : decode mX12_isIn.2.1 7 = .ok (.if_icmp .gt 7, 3) := by decide +kernel
theorem dX12_isIn_10 : decode mX12_isIn.2.1 10 = .ok (.iconst 1, 1) := by decide +kernel
theorem dX12_isIn_11 : decode mX12_isIn.2.1 11 = .ok (.goto 4, 3) := by decide +kernel
theorem dX12_isIn_14 : decode mX12_isIn.2.1 14 = .ok (.iconst 0, 1) := by decide +kernel
theorem dX12_isIn_15 : decode mX12_isIn.2.1 15 = .ok (.ireturn, 1) := by decide +kernel
theorem dX12_weigh_0 : decode mX12_weigh.2.1 0 = .ok (.aload_n 0, 1) := by decide +kernel
theorem dX12_weigh_1 : decode mX12_weigh.2.1 1 = .ok (.iload_n 1, 1) := by decide +kernel
theorem dX12_weigh_2 : decode mX12_weigh.2.1 2 = .ok (.iload_n 2, 1) := by decide +kernel
theorem dX12_weigh_3 : decode mX12_weigh.2.1 3 = .ok (.invokevirtual 380, 3) := by decide +kernel
theorem dX12_weigh_6 : decode mX12_weigh.2.1 6 = .ok (.ifCond .eq 12, 3) := by decide +kernel
theorem dX12_weigh_9 : decode mX12_weigh.2.1 9 = .ok (.aload_n 0, 1) := by decide +kernel
theorem dX12_weigh_10 : decode mX12_weigh.2.1 10 = .ok (.getfield 304, 3) := by decide +kernel
theorem dX12_weigh_13 : decode mX12_weigh.2.1 13 = .ok (.bipush 60, 2) := by decide +kernel
theorem dX12_weigh_15 : decode mX12_weigh.2.1 15 = .ok (.if_icmp .ne 5, 3) := by decide +kernel
theorem dX12_weigh_18 : decode mX12_weigh.2.1 18 = .ok (.iconst (-1), 1) := by decide +kernel
theorem dX12_weigh_19 : decode mX12_weigh.2.1 19 = .ok (.ireturn, 1) := by decide +kernel
theorem dX12_weigh_20 : decode mX12_weigh.2.1 20 = .ok (.iconst 0, 1) := by decide +kernel
theorem dX12_weigh_21 : decode mX12_weigh.2.1 21 = .ok (.istore_n 3, 1) := by decide +kernel
theorem dX12_weigh_22 : decode mX12_weigh.2.1 22 = .ok (.iconst 0, 1) := by decide +kernel
theorem dX12_weigh_23 : decode mX12_weigh.2.1 23 = .ok (.istore 4, 2) := by decide +kernel
theorem dX12_weigh_25 : decode mX12_weigh.2.1 25 = .ok (.iload 4, 2) := by decide +kernel
theorem dX12_weigh_27 : decode mX12_weigh.2.1 27 = .ok (.aload_n 0, 1) := by decide +kernel
theorem dX12_weigh_28 : decode mX12_weigh.2.1 28 = .ok (.invokevirtual 364, 3) := by decide +kernel
theorem dX12_weigh_31 : decode mX12_weigh.2.1 31 = .ok (.if_icmp .ge 33, 3) := by decide +kernel
theorem dX12_weigh_34 : decode mX12_weigh.2.1 34 = .ok (.iload_n 3, 1) := by decide +kernel
theorem dX12_weigh_35 : decode mX12_weigh.2.1 35 = .ok (.iload_n 1, 1) := by decide +kernel
theorem dX12_weigh_36 : decode mX12_weigh.2.1 36 = .ok (.iload 4, 2) := by decide +kernel
theorem dX12_weigh_38 : decode mX12_weigh.2.1 38 = .ok (.ishr, 1) := by decide +kernel
theorem dX12_weigh_39 : decode mX12_weigh.2.1 39 = .ok (.iconst 1, 1) := by decide +kernel
theorem dX12_weigh_40 : decode mX12_weigh.2.1 40 = .ok (.iand, 1) := by decide +kernel
theorem dX12_weigh_41 : decode mX12_weigh.2.1 41 = .ok (.iload_n 2, 1) := by decide +kernel
theorem dX12_weigh_42 : decode mX12_weigh.2.1 42 = .ok (.iload 4, 2) := by decide +kernel
theorem dX12_weigh_44 : decode mX12_weigh.2.1 44 = .ok (.ishr, 1) := by decide +kernel
theorem dX12_weigh_45 : decode mX12_weigh.2.1 45 = .ok (.iconst 1, 1) := by decide +kernel
theorem dX12_weigh_46 : decode mX12_weigh.2.1 46 = .ok (.iand, 1) := by decide +kernel
theorem dX12_weigh_47 : decode mX12_weigh.2.1 47 = .ok (.isub, 1) := by decide +kernel
theorem dX12_weigh_48 : decode mX12_weigh.2.1 48 = .ok (.aload_n 0, 1) := by decide +kernel
theorem dX12_weigh_49 : decode mX12_weigh.2.1 49 = .ok (.getfield 104, 3) := by decide +kernel
theorem dX12_weigh_52 : decode mX12_weigh.2.1 52 = .ok (.iload 4, 2) := by decide +kernel
theorem dX12_weigh_54 : decode mX12_weigh.2.1 54 = .ok (.iaload, 1) := by decide +kernel
theorem dX12_weigh_55 : decode mX12_weigh.2.1 55 = .ok (.imul, 1) := by decide +kernel
theorem dX12_weigh_56 : decode mX12_weigh.2.1 56 = .ok (.iadd, 1) := by decide +kernel
theorem dX12_weigh_57 : decode mX12_weigh.2.1 57 = .ok (.istore_n 3, 1) := by decide +kernel
theorem dX12_weigh_58 : decode mX12_weigh.2.1 58 = .ok (.iinc 4 1, 3) := by decide +kernel
theorem dX12_weigh_61 : decode mX12_weigh.2.1 61 = .ok (.goto (-36), 3) := by decide +kernel
theorem dX12_weigh_64 : decode mX12_weigh.2.1 64 = .ok (.aload_n 0, 1) := by decide +kernel
theorem dX12_weigh_65 : decode mX12_weigh.2.1 65 = .ok (.iload_n 3, 1) := by decide +kernel
theorem dX12_weigh_66 : decode mX12_weigh.2.1 66 = .ok (.invokevirtual 384, 3) := by decide +kernel
theorem dX12_weigh_69 : decode mX12_weigh.2.1 69 = .ok (.istore 4, 2) := by decide +kernel
theorem dX12_weigh_71 : decode mX12_weigh.2.1 71 = .ok (.aload_n 0, 1) := by decide +kernel
theorem dX12_weigh_72 : decode mX12_weigh.2.1 72 = .ok (.iload_n 1, 1) := by decide +kernel
theorem dX12_weigh_73 : decode mX12_weigh.2.1 73 = .ok (.iload_n 2, 1) := by decide +kernel
theorem dX12_weigh_74 : decode mX12_weigh.2.1 74 = .ok (.iload 4, 2) := by decide +kernel
theorem dX12_weigh_76 : decode mX12_weigh.2.1 76 = .ok (.invokevirtual 387, 3) := by decide +kernel
theorem dX12_weigh_79 : decode mX12_weigh.2.1 79 = .ok (.iload 4, 2) := by decide +kernel
theorem dX12_weigh_81 : decode mX12_weigh.2.1 81 = .ok (.ireturn, 1) := by decide +kernel
theorem dX12_areHeaps_0 : decode mX12_areHeaps.2.1 0 = .ok (.iconst 1, 1) := by decide +kernel
theorem dX12_areHeaps_1 : decode mX12_areHeaps.2.1 1 = .ok (.aload_n 0, 1) := by decide +kernel
theorem dX12_areHeaps_2 : decode mX12_areHeaps.2.1 2 = .ok (.invokevirtual 364, 3) := by decide +kernel
theorem dX12_areHeaps_5 : decode mX12_areHeaps.2.1 5 = .ok (.ishl, 1) := by decide +kernel
theorem dX12_areHeaps_6 : decode mX12_areHeaps.2.1 6 = .ok (.istore_n 3, 1) := by decide +kernel
theorem dX12_areHeaps_7 : decode mX12_areHeaps.2.1 7 = .ok (.iload_n 1, 1) := by decide +kernel
theorem dX12_areHeaps_8 : decode mX12_areHeaps.2.1 8 = .ok (.ifCond .le 27, 3) := by decide +kernel
theorem dX12_areHeaps_11 : decode mX12_areHeaps.2.1 11 = .ok (.iload_n 2, 1) := by decide +kernel
theorem dX12_areHeaps_12 : decode mX12_areHeaps.2.1 12 = .ok (.ifCond .le 23, 3) := by decide +kernel
theorem dX12_areHeaps_15 : decode mX12_areHeaps.2.1 15 = .ok (.iload_n 1, 1) := by decide +kernel
theorem dX12_areHeaps_16 : decode mX12_areHeaps.2.1 16 = .ok (.iload_n 3, 1) := by decide +kernel
theorem dX12_areHeaps_17 : decode mX12_areHeaps.2.1 17 = .ok (.if_icmp .ge 18, 3) := by decide +kernel
theorem dX12_areHeaps_20 : decode mX12_areHeaps.2.1 20 = .ok (.iload_n 2, 1) := by decide +kernel
theorem dX12_areHeaps_21 : decode mX12_areHeaps.2.1 21 = .ok (.iload_n 3, 1) := by decide +kernel
theorem dX12_areHeaps_22 : decode mX12_areHeaps.2.1 22 = .ok (.if_icmp .ge 13, 3) := by decide +kernel
theorem dX12_areHeaps_25 : decode mX12_areHeaps.2.1 25 = .ok (.iload_n 1, 1) := by decide +kernel
theorem dX12_areHeaps_26 : decode mX12_areHeaps.2.1 26 = .ok (.iload_n 2, 1) := by decide +kernel
theorem dX12_areHeaps_27 : decode mX12_areHeaps.2.1 27 = .ok (.iand, 1) := by decide +kernel
theorem dX12_areHeaps_28 : decode mX12_areHeaps.2.1 28 = .ok (.ifCond .ne 7, 3) := by decide +kernel
theorem dX12_areHeaps_31 : decode mX12_areHeaps.2.1 31 = .ok (.iconst 1, 1) := by decide +kernel
theorem dX12_areHeaps_32 : decode mX12_areHeaps.2.1 32 = .ok (.goto 4, 3) := by decide +kernel
theorem dX12_areHeaps_35 : decode mX12_areHeaps.2.1 35 = .ok (.iconst 0, 1) := by decide +kernel
theorem dX12_areHeaps_36 : decode mX12_areHeaps.2.1 36 = .ok (.ireturn, 1) := by decide +kernel
theorem dX12_saysBy_0 : decode mX12_saysBy.2.1 0 = .ok (.iload_n 1, 1) := by decide +kernel
theorem dX12_saysBy_1 : decode mX12_saysBy.2.1 1 = .ok (.aload_n 0, 1) := by decide +kernel
theorem dX12_saysBy_2 : decode mX12_saysBy.2.1 2 = .ok (.getfield 24, 3) := by decide +kernel
theorem dX12_saysBy_5 : decode mX12_saysBy.2.1 5 = .ok (.aload_n 0, 1) := by decide +kernel
theorem dX12_saysBy_6 : decode mX12_saysBy.2.1 6 = .ok (.getfield 295, 3) := by decide +kernel
theorem dX12_saysBy_9 : decode mX12_saysBy.2.1 9 = .ok (.iaload, 1) := by decide +kernel
theorem dX12_saysBy_10 : decode mX12_saysBy.2.1 10 = .ok (.if_icmp .le 7, 3) := by decide +kernel
theorem dX12_saysBy_13 : decode mX12_saysBy.2.1 13 = .ok (.iconst 1, 1) := by decide +kernel
theorem dX12_saysBy_14 : decode mX12_saysBy.2.1 14 = .ok (.goto 22, 3) := by decide +kernel
theorem dX12_saysBy_17 : decode mX12_saysBy.2.1 17 = .ok (.iload_n 1, 1) := by decide +kernel
theorem dX12_saysBy_18 : decode mX12_saysBy.2.1 18 = .ok (.aload_n 0, 1) := by decide +kernel
theorem dX12_saysBy_19 : decode mX12_saysBy.2.1 19 = .ok (.getfield 24, 3) := by decide +kernel
theorem dX12_saysBy_22 : decode mX12_saysBy.2.1 22 = .ok (.aload_n 0, 1) := by decide +kernel
theorem dX12_saysBy_23 : decode mX12_saysBy.2.1 23 = .ok (.getfield 295, 3) := by decide +kernel
theorem dX12_saysBy_26 : decode mX12_saysBy.2.1 26 = .ok (.iaload, 1) := by decide +kernel
theorem dX12_saysBy_27 : decode mX12_saysBy.2.1 27 = .ok (.ineg, 1) := by decide +kernel
theorem dX12_saysBy_28 : decode mX12_saysBy.2.1 28 = .ok (.if_icmp .ge 7, 3) := by decide +kernel
theorem dX12_saysBy_31 : decode mX12_saysBy.2.1 31 = .ok (.iconst 2, 1) := by decide +kernel
theorem dX12_saysBy_32 : decode mX12_saysBy.2.1 32 = .ok (.goto 4, 3) := by decide +kernel
theorem dX12_saysBy_35 : decode mX12_saysBy.2.1 35 = .ok (.iconst 0, 1) := by decide +kernel
theorem dX12_saysBy_36 : decode mX12_saysBy.2.1 36 = .ok (.ireturn, 1) := by decide +kernel
theorem dX12_add_0 : decode mX12_add.2.1 0 = .ok (.aload_n 0, 1) := by decide +kernel
theorem dX12_add_1 : decode mX12_add.2.1 1 = .ok (.getfield 83, 3) := by decide +kernel
theorem dX12_add_4 : decode mX12_add.2.1 4 = .ok (.aload_n 0, 1) := by decide +kernel
theorem dX12_add_5 : decode mX12_add.2.1 5 = .ok (.getfield 304, 3) := by decide +kernel
theorem dX12_add_8 : decode mX12_add.2.1 8 = .ok (.iload_n 1, 1) := by decide +kernel
theorem dX12_add_9 : decode mX12_add.2.1 9 = .ok (.iastore, 1) := by decide +kernel
theorem dX12_add_10 : decode mX12_add.2.1 10 = .ok (.aload_n 0, 1) := by decide +kernel
theorem dX12_add_11 : decode mX12_add.2.1 11 = .ok (.getfield 86, 3) := by decide +kernel
theorem dX12_add_14 : decode mX12_add.2.1 14 = .ok (.aload_n 0, 1) := by decide +kernel
theorem dX12_add_15 : decode mX12_add.2.1 15 = .ok (.getfield 304, 3) := by decide +kernel
theorem dX12_add_18 : decode mX12_add.2.1 18 = .ok (.iload_n 2, 1) := by decide +kernel
theorem dX12_add_19 : decode mX12_add.2.1 19 = .ok (.iastore, 1) := by decide +kernel
theorem dX12_add_20 : decode mX12_add.2.1 20 = .ok (.aload_n 0, 1) := by decide +kernel
theorem dX12_add_21 : decode mX12_add.2.1 21 = .ok (.getfield 89, 3) := by decide +kernel
theorem dX12_add_24 : decode mX12_add.2.1 24 = .ok (.aload_n 0, 1) := by decide +kernel
theorem dX12_add_25 : decode mX12_add.2.1 25 = .ok (.getfield 304, 3) := by decide +kernel
theorem dX12_add_28 : decode mX12_add.2.1 28 = .ok (.iload_n 3, 1) := by decide +kernel
theorem dX12_add_29 : decode mX12_add.2.1 29 = .ok (.iastore, 1) := by decide +kernel
theorem dX12_add_30 : decode mX12_add.2.1 30 = .ok (.aload_n 0, 1) := by decide +kernel
theorem dX12_add_31 : decode mX12_add.2.1 31 = .ok (.getfield 92, 3) := by decide +kernel
theorem dX12_add_34 : decode mX12_add.2.1 34 = .ok (.aload_n 0, 1) := by decide +kernel
theorem dX12_add_35 : decode mX12_add.2.1 35 = .ok (.getfield 304, 3) := by decide +kernel
theorem dX12_add_38 : decode mX12_add.2.1 38 = .ok (.aload_n 0, 1) := by decide +kernel
theorem dX12_add_39 : decode mX12_add.2.1 39 = .ok (.getfield 377, 3) := by decide +kernel
theorem dX12_add_42 : decode mX12_add.2.1 42 = .ok (.iastore, 1) := by decide +kernel
theorem dX12_add_43 : decode mX12_add.2.1 43 = .ok (.aload_n 0, 1) := by decide +kernel
theorem dX12_add_44 : decode mX12_add.2.1 44 = .ok (.getfield 95, 3) := by decide +kernel
theorem dX12_add_47 : decode mX12_add.2.1 47 = .ok (.aload_n 0, 1) := by decide +kernel
theorem dX12_add_48 : decode mX12_add.2.1 48 = .ok (.getfield 304, 3) := by decide +kernel
theorem dX12_add_51 : decode mX12_add.2.1 51 = .ok (.iconst (-1), 1) := by decide +kernel
theorem dX12_add_52 : decode mX12_add.2.1 52 = .ok (.iastore, 1) := by decide +kernel
theorem dX12_add_53 : decode mX12_add.2.1 53 = .ok (.aload_n 0, 1) := by decide +kernel
theorem dX12_add_54 : decode mX12_add.2.1 54 = .ok (.dup, 1) := by decide +kernel
theorem dX12_add_55 : decode mX12_add.2.1 55 = .ok (.getfield 304, 3) := by decide +kernel
theorem dX12_add_58 : decode mX12_add.2.1 58 = .ok (.iconst 1, 1) := by decide +kernel
theorem dX12_add_59 : decode mX12_add.2.1 59 = .ok (.iadd, 1) := by decide +kernel
theorem dX12_add_60 : decode mX12_add.2.1 60 = .ok (.putfield 304, 3) := by decide +kernel
theorem dX12_add_63 : decode mX12_add.2.1 63 = .ok (.return_, 1) := by decide +kernel
theorem dX12_told_0 : decode mX12_told.2.1 0 = .ok (.aload_n 0, 1) := by decide +kernel
theorem dX12_told_1 : decode mX12_told.2.1 1 = .ok (.iload_n 1, 1) := by decide +kernel
theorem dX12_told_2 : decode mX12_told.2.1 2 = .ok (.iload_n 2, 1) := by decide +kernel
theorem dX12_told_3 : decode mX12_told.2.1 3 = .ok (.invokevirtual 380, 3) := by decide +kernel
theorem dX12_told_6 : decode mX12_told.2.1 6 = .ok (.ifCond .eq 21, 3) := by decide +kernel
theorem dX12_told_9 : decode mX12_told.2.1 9 = .ok (.iload_n 3, 1) := by decide +kernel
theorem dX12_told_10 : decode mX12_told.2.1 10 = .ok (.iconst 0, 1) := by decide +kernel
theorem dX12_told_11 : decode mX12_told.2.1 11 = .ok (.iconst 2, 1) := by decide +kernel
theorem dX12_told_12 : decode mX12_told.2.1 12 = .ok (.invokestatic 367, 3) := by decide +kernel
theorem dX12_told_15 : decode mX12_told.2.1 15 = .ok (.ifCond .eq 12, 3) := by decide +kernel
theorem dX12_told_18 : decode mX12_told.2.1 18 = .ok (.aload_n 0, 1) := by decide +kernel
theorem dX12_told_19 : decode mX12_told.2.1 19 = .ok (.getfield 304, 3) := by decide +kernel
theorem dX12_told_22 : decode mX12_told.2.1 22 = .ok (.bipush 60, 2) := by decide +kernel
theorem dX12_told_24 : decode mX12_told.2.1 24 = .ok (.if_icmp .ne 5, 3) := by decide +kernel
theorem dX12_told_27 : decode mX12_told.2.1 27 = .ok (.iconst (-1), 1) := by decide +kernel
theorem dX12_told_28 : decode mX12_told.2.1 28 = .ok (.ireturn, 1) := by decide +kernel
theorem dX12_told_29 : decode mX12_told.2.1 29 = .ok (.aload_n 0, 1) := by decide +kernel
theorem dX12_told_30 : decode mX12_told.2.1 30 = .ok (.iload_n 1, 1) := by decide +kernel
theorem dX12_told_31 : decode mX12_told.2.1 31 = .ok (.iload_n 2, 1) := by decide +kernel
theorem dX12_told_32 : decode mX12_told.2.1 32 = .ok (.iload_n 3, 1) := by decide +kernel
theorem dX12_told_33 : decode mX12_told.2.1 33 = .ok (.invokevirtual 387, 3) := by decide +kernel
theorem dX12_told_36 : decode mX12_told.2.1 36 = .ok (.aload_n 0, 1) := by decide +kernel
theorem dX12_told_37 : decode mX12_told.2.1 37 = .ok (.getfield 304, 3) := by decide +kernel
theorem dX12_told_40 : decode mX12_told.2.1 40 = .ok (.iconst 1, 1) := by decide +kernel
theorem dX12_told_41 : decode mX12_told.2.1 41 = .ok (.isub, 1) := by decide +kernel
theorem dX12_told_42 : decode mX12_told.2.1 42 = .ok (.ireturn, 1) := by decide +kernel
theorem dX12_weighing_0 : decode mX12_weighing.2.1 0 = .ok (.iload_n 1, 1) := by decide +kernel
theorem dX12_weighing_1 : decode mX12_weighing.2.1 1 = .ok (.iconst 0, 1) := by decide +kernel
theorem dX12_weighing_2 : decode mX12_weighing.2.1 2 = .ok (.aload_n 0, 1) := by decide +kernel
theorem dX12_weighing_3 : decode mX12_weighing.2.1 3 = .ok (.getfield 304, 3) := by decide +kernel
theorem dX12_weighing_6 : decode mX12_weighing.2.1 6 = .ok (.iconst 1, 1) := by decide +kernel
theorem dX12_weighing_7 : decode mX12_weighing.2.1 7 = .ok (.isub, 1) := by decide +kernel
theorem dX12_weighing_8 : decode mX12_weighing.2.1 8 = .ok (.invokestatic 367, 3) := by decide +kernel
theorem dX12_weighing_11 : decode mX12_weighing.2.1 11 = .ok (.ifCond .ne 5, 3) := by decide +kernel
theorem dX12_weighing_14 : decode mX12_weighing.2.1 14 = .ok (.iconst (-1), 1) := by decide +kernel
theorem dX12_weighing_15 : decode mX12_weighing.2.1 15 = .ok (.ireturn, 1) := by decide +kernel
theorem dX12_weighing_16 : decode mX12_weighing.2.1 16 = .ok (.iload_n 2, 1) := by decide +kernel
theorem dX12_weighing_17 : decode mX12_weighing.2.1 17 = .ok (.ifCond .ne 12, 3) := by decide +kernel
theorem dX12_weighing_20 : decode mX12_weighing.2.1 20 = .ok (.aload_n 0, 1) := by decide +kernel
theorem dX12_weighing_21 : decode mX12_weighing.2.1 21 = .ok (.getfield 83, 3) := by decide +kernel
theorem dX12_weighing_24 : decode mX12_weighing.2.1 24 = .ok (.iload_n 1, 1) := by decide +kernel
theorem dX12_weighing_25 : decode mX12_weighing.2.1 25 = .ok (.iaload, 1) := by decide +kernel
theorem dX12_weighing_26 : decode mX12_weighing.2.1 26 = .ok (.goto 54, 3) := by decide +kernel
theorem dX12_weighing_29 : decode mX12_weighing.2.1 29 = .ok (.iload_n 2, 1) := by decide +kernel
theorem dX12_weighing_30 : decode mX12_weighing.2.1 30 = .ok (.iconst 1, 1) := by decide +kernel
theorem dX12_weighing_31 : decode mX12_weighing.2.1 31 = .ok (.if_icmp .ne 12, 3) := by decide +kernel
theorem dX12_weighing_34 : decode mX12_weighing.2.1 34 = .ok (.aload_n 0, 1) := by decide +kernel
theorem dX12_weighing_35 : decode mX12_weighing.2.1 35 = .ok (.getfield 86, 3) := by decide +kernel
theorem dX12_weighing_38 : decode mX12_weighing.2.1 38 = .ok (.iload_n 1, 1) := by decide +kernel
theorem dX12_weighing_39 : decode mX12_weighing.2.1 39 = .ok (.iaload, 1) := by decide +kernel
theorem dX12_weighing_40 : decode mX12_weighing.2.1 40 = .ok (.goto 40, 3) := by decide +kernel
theorem dX12_weighing_43 : decode mX12_weighing.2.1 43 = .ok (.iload_n 2, 1) := by decide +kernel
theorem dX12_weighing_44 : decode mX12_weighing.2.1 44 = .ok (.iconst 2, 1) := by decide +kernel
theorem dX12_weighing_45 : decode mX12_weighing.2.1 45 = .ok (.if_icmp .ne 12, 3) := by decide +kernel
theorem dX12_weighing_48 : decode mX12_weighing.2.1 48 = .ok (.aload_n 0, 1) := by decide +kernel
theorem dX12_weighing_49 : decode mX12_weighing.2.1 49 = .ok (.getfield 89, 3) := by decide +kernel
theorem dX12_weighing_52 : decode mX12_weighing.2.1 52 = .ok (.iload_n 1, 1) := by decide +kernel
theorem dX12_weighing_53 : decode mX12_weighing.2.1 53 = .ok (.iaload, 1) := by decide +kernel
theorem dX12_weighing_54 : decode mX12_weighing.2.1 54 = .ok (.goto 26, 3) := by decide +kernel
theorem dX12_weighing_57 : decode mX12_weighing.2.1 57 = .ok (.iload_n 2, 1) := by decide +kernel
theorem dX12_weighing_58 : decode mX12_weighing.2.1 58 = .ok (.iconst 3, 1) := by decide +kernel
theorem dX12_weighing_59 : decode mX12_weighing.2.1 59 = .ok (.if_icmp .ne 20, 3) := by decide +kernel
theorem dX12_weighing_62 : decode mX12_weighing.2.1 62 = .ok (.aload_n 0, 1) := by decide +kernel
theorem dX12_weighing_63 : decode mX12_weighing.2.1 63 = .ok (.getfield 95, 3) := by decide +kernel
theorem dX12_weighing_66 : decode mX12_weighing.2.1 66 = .ok (.iload_n 1, 1) := by decide +kernel
theorem dX12_weighing_67 : decode mX12_weighing.2.1 67 = .ok (.iaload, 1) := by decide +kernel
theorem dX12_weighing_68 : decode mX12_weighing.2.1 68 = .ok (.ifCond .lt 7, 3) := by decide +kernel
theorem dX12_weighing_71 : decode mX12_weighing.2.1 71 = .ok (.iconst 1, 1) := by decide +kernel
theorem dX12_weighing_72 : decode mX12_weighing.2.1 72 = .ok (.goto 8, 3) := by decide +kernel
theorem dX12_weighing_75 : decode mX12_weighing.2.1 75 = .ok (.iconst 0, 1) := by decide +kernel
theorem dX12_weighing_76 : decode mX12_weighing.2.1 76 = .ok (.goto 4, 3) := by decide +kernel
theorem dX12_weighing_79 : decode mX12_weighing.2.1 79 = .ok (.iconst (-1), 1) := by decide +kernel
theorem dX12_weighing_80 : decode mX12_weighing.2.1 80 = .ok (.ireturn, 1) := by decide +kernel
theorem dX12_wet_0 : decode mX12_wet.2.1 0 = .ok (.aload_n 0, 1) := by decide +kernel
theorem dX12_wet_1 : decode mX12_wet.2.1 1 = .ok (.invokevirtual 364, 3) := by decide +kernel
theorem dX12_wet_4 : decode mX12_wet.2.1 4 = .ok (.istore_n 1, 1) := by decide +kernel
theorem dX12_wet_5 : decode mX12_wet.2.1 5 = .ok (.iload_n 1, 1) := by decide +kernel
theorem dX12_wet_6 : decode mX12_wet.2.1 6 = .ok (.iconst 2, 1) := by decide +kernel
theorem dX12_wet_7 : decode mX12_wet.2.1 7 = .ok (.if_icmp .lt 12, 3) := by decide +kernel
theorem dX12_wet_10 : decode mX12_wet.2.1 10 = .ok (.aload_n 0, 1) := by decide +kernel
theorem dX12_wet_11 : decode mX12_wet.2.1 11 = .ok (.getfield 307, 3) := by decide +kernel
theorem dX12_wet_14 : decode mX12_wet.2.1 14 = .ok (.bipush 40, 2) := by decide +kernel
theorem dX12_wet_16 : decode mX12_wet.2.1 16 = .ok (.if_icmp .ne 5, 3) := by decide +kernel
theorem dX12_wet_19 : decode mX12_wet.2.1 19 = .ok (.iconst (-1), 1) := by decide +kernel
theorem dX12_wet_20 : decode mX12_wet.2.1 20 = .ok (.ireturn, 1) := by decide +kernel
theorem dX12_wet_21 : decode mX12_wet.2.1 21 = .ok (.iconst 0, 1) := by decide +kernel
theorem dX12_wet_22 : decode mX12_wet.2.1 22 = .ok (.istore_n 2, 1) := by decide +kernel
theorem dX12_wet_23 : decode mX12_wet.2.1 23 = .ok (.iload_n 2, 1) := by decide +kernel
theorem dX12_wet_24 : decode mX12_wet.2.1 24 = .ok (.iload_n 1, 1) := by decide +kernel
theorem dX12_wet_25 : decode mX12_wet.2.1 25 = .ok (.if_icmp .ge 64, 3) := by decide +kernel
theorem dX12_wet_28 : decode mX12_wet.2.1 28 = .ok (.iload_n 2, 1) := by decide +kernel
theorem dX12_wet_29 : decode mX12_wet.2.1 29 = .ok (.istore_n 3, 1) := by decide +kernel
theorem dX12_wet_30 : decode mX12_wet.2.1 30 = .ok (.iload_n 3, 1) := by decide +kernel
theorem dX12_wet_31 : decode mX12_wet.2.1 31 = .ok (.ifCond .le 45, 3) := by decide +kernel
theorem dX12_wet_34 : decode mX12_wet.2.1 34 = .ok (.aload_n 0, 1) := by decide +kernel
theorem dX12_wet_35 : decode mX12_wet.2.1 35 = .ok (.getfield 104, 3) := by decide +kernel
theorem dX12_wet_38 : decode mX12_wet.2.1 38 = .ok (.aload_n 0, 1) := by decide +kernel
theorem dX12_wet_39 : decode mX12_wet.2.1 39 = .ok (.getfield 107, 3) := by decide +kernel
theorem dX12_wet_42 : decode mX12_wet.2.1 42 = .ok (.iload_n 3, 1) := by decide +kernel
theorem dX12_wet_43 : decode mX12_wet.2.1 43 = .ok (.iconst 1, 1) := by decide +kernel
theorem dX12_wet_44 : decode mX12_wet.2.1 44 = .ok (.isub, 1) := by decide +kernel
theorem dX12_wet_45 : decode mX12_wet.2.1 45 = .ok (.iaload, 1) := by decide +kernel
theorem dX12_wet_46 : decode mX12_wet.2.1 46 = .ok (.iaload, 1) := by decide +kernel
theorem dX12_wet_47 : decode mX12_wet.2.1 47 = .ok (.aload_n 0, 1) := by decide +kernel
theorem dX12_wet_48 : decode mX12_wet.2.1 48 = .ok (.getfield 104, 3) := by decide +kernel
theorem dX12_wet_51 : decode mX12_wet.2.1 51 = .ok (.iload_n 2, 1) := by decide +kernel
theorem dX12_wet_52 : decode mX12_wet.2.1 52 = .ok (.iaload, 1) := by decide +kernel
theorem dX12_wet_53 : decode mX12_wet.2.1 53 = .ok (.if_icmp .ge 23, 3) := by decide +kernel
theorem dX12_wet_56 : decode mX12_wet.2.1 56 = .ok (.aload_n 0, 1) := by decide +kernel
theorem dX12_wet_57 : decode mX12_wet.2.1 57 = .ok (.getfield 107, 3) := by decide +kernel
theorem dX12_wet_60 : decode mX12_wet.2.1 60 = .ok (.iload_n 3, 1) := by decide +kernel
theorem dX12_wet_61 : decode mX12_wet.2.1 61 = .ok (.aload_n 0, 1) := by decide +kernel
theorem dX12_wet_62 : decode mX12_wet.2.1 62 = .ok (.getfield 107, 3) := by decide +kernel
theorem dX12_wet_65 : decode mX12_wet.2.1 65 = .ok (.iload_n 3, 1) := by decide +kernel
theorem dX12_wet_66 : decode mX12_wet.2.1 66 = .ok (.iconst 1, 1) := by decide +kernel
theorem dX12_wet_67 : decode mX12_wet.2.1 67 = .ok (.isub, 1) := by decide +kernel
theorem dX12_wet_68 : decode mX12_wet.2.1 68 = .ok (.iaload, 1) := by decide +kernel
theorem dX12_wet_69 : decode mX12_wet.2.1 69 = .ok (.iastore, 1) := by decide +kernel
theorem dX12_wet_70 : decode mX12_wet.2.1 70 = .ok (.iinc 3 (-1), 3) := by decide +kernel
theorem dX12_wet_73 : decode mX12_wet.2.1 73 = .ok (.goto (-43), 3) := by decide +kernel
theorem dX12_wet_76 : decode mX12_wet.2.1 76 = .ok (.aload_n 0, 1) := by decide +kernel
theorem dX12_wet_77 : decode mX12_wet.2.1 77 = .ok (.getfield 107, 3) := by decide +kernel
theorem dX12_wet_80 : decode mX12_wet.2.1 80 = .ok (.iload_n 3, 1) := by decide +kernel
theorem dX12_wet_81 : decode mX12_wet.2.1 81 = .ok (.iload_n 2, 1) := by decide +kernel
theorem dX12_wet_82 : decode mX12_wet.2.1 82 = .ok (.iastore, 1) := by decide +kernel
theorem dX12_wet_83 : decode mX12_wet.2.1 83 = .ok (.iinc 2 1, 3) := by decide +kernel
theorem dX12_wet_86 : decode mX12_wet.2.1 86 = .ok (.goto (-63), 3) := by decide +kernel
theorem dX12_wet_89 : decode mX12_wet.2.1 89 = .ok (.aload_n 0, 1) := by decide +kernel
theorem dX12_wet_90 : decode mX12_wet.2.1 90 = .ok (.sipush 137, 3) := by decide +kernel
theorem dX12_wet_93 : decode mX12_wet.2.1 93 = .ok (.aload_n 0, 1) := by decide +kernel
theorem dX12_wet_94 : decode mX12_wet.2.1 94 = .ok (.getfield 310, 3) := by decide +kernel
theorem dX12_wet_97 : decode mX12_wet.2.1 97 = .ok (.imul, 1) := by decide +kernel
theorem dX12_wet_98 : decode mX12_wet.2.1 98 = .ok (.bipush 71, 2) := by decide +kernel
theorem dX12_wet_100 : decode mX12_wet.2.1 100 = .ok (.iadd, 1) := by decide +kernel
theorem dX12_wet_101 : decode mX12_wet.2.1 101 = .ok (.sipush 1000, 3) := by decide +kernel
theorem dX12_wet_104 : decode mX12_wet.2.1 104 = .ok (.irem, 1) := by decide +kernel
theorem dX12_wet_105 : decode mX12_wet.2.1 105 = .ok (.putfield 310, 3) := by decide +kernel
theorem dX12_wet_108 : decode mX12_wet.2.1 108 = .ok (.aload_n 0, 1) := by decide +kernel
theorem dX12_wet_109 : decode mX12_wet.2.1 109 = .ok (.getfield 310, 3) := by decide +kernel
theorem dX12_wet_112 : decode mX12_wet.2.1 112 = .ok (.iload_n 1, 1) := by decide +kernel
theorem dX12_wet_113 : decode mX12_wet.2.1 113 = .ok (.iconst 1, 1) := by decide +kernel
theorem dX12_wet_114 : decode mX12_wet.2.1 114 = .ok (.isub, 1) := by decide +kernel
theorem dX12_wet_115 : decode mX12_wet.2.1 115 = .ok (.irem, 1) := by decide +kernel
theorem dX12_wet_116 : decode mX12_wet.2.1 116 = .ok (.istore_n 2, 1) := by decide +kernel
theorem dX12_wet_117 : decode mX12_wet.2.1 117 = .ok (.aload_n 0, 1) := by decide +kernel
theorem dX12_wet_118 : decode mX12_wet.2.1 118 = .ok (.getfield 104, 3) := by decide +kernel
theorem dX12_wet_121 : decode mX12_wet.2.1 121 = .ok (.aload_n 0, 1) := by decide +kernel
theorem dX12_wet_122 : decode mX12_wet.2.1 122 = .ok (.getfield 107, 3) := by decide +kernel
theorem dX12_wet_125 : decode mX12_wet.2.1 125 = .ok (.iload_n 2, 1) := by decide +kernel
theorem dX12_wet_126 : decode mX12_wet.2.1 126 = .ok (.iaload, 1) := by decide +kernel
theorem dX12_wet_127 : decode mX12_wet.2.1 127 = .ok (.iaload, 1) := by decide +kernel
theorem dX12_wet_128 : decode mX12_wet.2.1 128 = .ok (.istore_n 3, 1) := by decide +kernel
theorem dX12_wet_129 : decode mX12_wet.2.1 129 = .ok (.aload_n 0, 1) := by decide +kernel
theorem dX12_wet_130 : decode mX12_wet.2.1 130 = .ok (.getfield 104, 3) := by decide +kernel
theorem dX12_wet_133 : decode mX12_wet.2.1 133 = .ok (.aload_n 0, 1) := by decide +kernel
theorem dX12_wet_134 : decode mX12_wet.2.1 134 = .ok (.getfield 107, 3) := by decide +kernel
theorem dX12_wet_137 : decode mX12_wet.2.1 137 = .ok (.iload_n 2, 1) := by decide +kernel
theorem dX12_wet_138 : decode mX12_wet.2.1 138 = .ok (.iaload, 1) := by decide +kernel
theorem dX12_wet_139 : decode mX12_wet.2.1 139 = .ok (.aload_n 0, 1) := by decide +kernel
theorem dX12_wet_140 : decode mX12_wet.2.1 140 = .ok (.getfield 104, 3) := by decide +kernel
theorem dX12_wet_143 : decode mX12_wet.2.1 143 = .ok (.aload_n 0, 1) := by decide +kernel
theorem dX12_wet_144 : decode mX12_wet.2.1 144 = .ok (.getfield 107, 3) := by decide +kernel
theorem dX12_wet_147 : decode mX12_wet.2.1 147 = .ok (.iload_n 2, 1) := by decide +kernel
theorem dX12_wet_148 : decode mX12_wet.2.1 148 = .ok (.iconst 1, 1) := by decide +kernel
theorem dX12_wet_149 : decode mX12_wet.2.1 149 = .ok (.iadd, 1) := by decide +kernel
theorem dX12_wet_150 : decode mX12_wet.2.1 150 = .ok (.iaload, 1) := by decide +kernel
theorem dX12_wet_151 : decode mX12_wet.2.1 151 = .ok (.iaload, 1) := by decide +kernel
theorem dX12_wet_152 : decode mX12_wet.2.1 152 = .ok (.iastore, 1) := by decide +kernel
theorem dX12_wet_153 : decode mX12_wet.2.1 153 = .ok (.aload_n 0, 1) := by decide +kernel
theorem dX12_wet_154 : decode mX12_wet.2.1 154 = .ok (.getfield 104, 3) := by decide +kernel
theorem dX12_wet_157 : decode mX12_wet.2.1 157 = .ok (.aload_n 0, 1) := by decide +kernel
theorem dX12_wet_158 : decode mX12_wet.2.1 158 = .ok (.getfield 107, 3) := by decide +kernel
theorem dX12_wet_161 : decode mX12_wet.2.1 161 = .ok (.iload_n 2, 1) := by decide +kernel
theorem dX12_wet_162 : decode mX12_wet.2.1 162 = .ok (.iconst 1, 1) := by decide +kernel
theorem dX12_wet_163 : decode mX12_wet.2.1 163 = .ok (.iadd, 1) := by decide +kernel
theorem dX12_wet_164 : decode mX12_wet.2.1 164 = .ok (.iaload, 1) := by decide +kernel
theorem dX12_wet_165 : decode mX12_wet.2.1 165 = .ok (.iload_n 3, 1) := by decide +kernel
theorem dX12_wet_166 : decode mX12_wet.2.1 166 = .ok (.iastore, 1) := by decide +kernel
theorem dX12_wet_167 : decode mX12_wet.2.1 167 = .ok (.aload_n 0, 1) := by decide +kernel
theorem dX12_wet_168 : decode mX12_wet.2.1 168 = .ok (.getfield 98, 3) := by decide +kernel
theorem dX12_wet_171 : decode mX12_wet.2.1 171 = .ok (.aload_n 0, 1) := by decide +kernel
theorem dX12_wet_172 : decode mX12_wet.2.1 172 = .ok (.getfield 307, 3) := by decide +kernel
theorem dX12_wet_175 : decode mX12_wet.2.1 175 = .ok (.aload_n 0, 1) := by decide +kernel
theorem dX12_wet_176 : decode mX12_wet.2.1 176 = .ok (.getfield 377, 3) := by decide +kernel
theorem dX12_wet_179 : decode mX12_wet.2.1 179 = .ok (.iastore, 1) := by decide +kernel
theorem dX12_wet_180 : decode mX12_wet.2.1 180 = .ok (.aload_n 0, 1) := by decide +kernel
theorem dX12_wet_181 : decode mX12_wet.2.1 181 = .ok (.getfield 101, 3) := by decide +kernel
theorem dX12_wet_184 : decode mX12_wet.2.1 184 = .ok (.aload_n 0, 1) := by decide +kernel
theorem dX12_wet_185 : decode mX12_wet.2.1 185 = .ok (.getfield 307, 3) := by decide +kernel
theorem dX12_wet_188 : decode mX12_wet.2.1 188 = .ok (.aload_n 0, 1) := by decide +kernel
theorem dX12_wet_189 : decode mX12_wet.2.1 189 = .ok (.getfield 304, 3) := by decide +kernel
theorem dX12_wet_192 : decode mX12_wet.2.1 192 = .ok (.iastore, 1) := by decide +kernel
theorem dX12_wet_193 : decode mX12_wet.2.1 193 = .ok (.aload_n 0, 1) := by decide +kernel
theorem dX12_wet_194 : decode mX12_wet.2.1 194 = .ok (.dup, 1) := by decide +kernel
theorem dX12_wet_195 : decode mX12_wet.2.1 195 = .ok (.getfield 307, 3) := by decide +kernel
theorem dX12_wet_198 : decode mX12_wet.2.1 198 = .ok (.iconst 1, 1) := by decide +kernel
theorem dX12_wet_199 : decode mX12_wet.2.1 199 = .ok (.iadd, 1) := by decide +kernel
theorem dX12_wet_200 : decode mX12_wet.2.1 200 = .ok (.putfield 307, 3) := by decide +kernel
theorem dX12_wet_203 : decode mX12_wet.2.1 203 = .ok (.iload_n 2, 1) := by decide +kernel
theorem dX12_wet_204 : decode mX12_wet.2.1 204 = .ok (.ireturn, 1) := by decide +kernel
theorem dX12_untell_0 : decode mX12_untell.2.1 0 = .ok (.iload_n 1, 1) := by decide +kernel
theorem dX12_untell_1 : decode mX12_untell.2.1 1 = .ok (.iconst 0, 1) := by decide +kernel
theorem dX12_untell_2 : decode mX12_untell.2.1 2 = .ok (.aload_n 0, 1) := by decide +kernel
theorem dX12_untell_3 : decode mX12_untell.2.1 3 = .ok (.getfield 304, 3) := by decide +kernel
theorem dX12_untell_6 : decode mX12_untell.2.1 6 = .ok (.iconst 1, 1) := by decide +kernel
theorem dX12_untell_7 : decode mX12_untell.2.1 7 = .ok (.isub, 1) := by decide +kernel
theorem dX12_untell_8 : decode mX12_untell.2.1 8 = .ok (.invokestatic 367, 3) := by decide +kernel
theorem dX12_untell_11 : decode mX12_untell.2.1 11 = .ok (.ifCond .eq 12, 3) := by decide +kernel
theorem dX12_untell_14 : decode mX12_untell.2.1 14 = .ok (.aload_n 0, 1) := by decide +kernel
theorem dX12_untell_15 : decode mX12_untell.2.1 15 = .ok (.getfield 95, 3) := by decide +kernel
theorem dX12_untell_18 : decode mX12_untell.2.1 18 = .ok (.iload_n 1, 1) := by decide +kernel
theorem dX12_untell_19 : decode mX12_untell.2.1 19 = .ok (.iaload, 1) := by decide +kernel
theorem dX12_untell_20 : decode mX12_untell.2.1 20 = .ok (.ifCond .lt 5, 3) := by decide +kernel
theorem dX12_untell_23 : decode mX12_untell.2.1 23 = .ok (.iconst 0, 1) := by decide +kernel
theorem dX12_untell_24 : decode mX12_untell.2.1 24 = .ok (.ireturn, 1) := by decide +kernel
theorem dX12_untell_25 : decode mX12_untell.2.1 25 = .ok (.aload_n 0, 1) := by decide +kernel
theorem dX12_untell_26 : decode mX12_untell.2.1 26 = .ok (.getfield 95, 3) := by decide +kernel
theorem dX12_untell_29 : decode mX12_untell.2.1 29 = .ok (.iload_n 1, 1) := by decide +kernel
theorem dX12_untell_30 : decode mX12_untell.2.1 30 = .ok (.aload_n 0, 1) := by decide +kernel
theorem dX12_untell_31 : decode mX12_untell.2.1 31 = .ok (.getfield 377, 3) := by decide +kernel
theorem dX12_untell_34 : decode mX12_untell.2.1 34 = .ok (.iastore, 1) := by decide +kernel
theorem dX12_untell_35 : decode mX12_untell.2.1 35 = .ok (.iconst 1, 1) := by decide +kernel
theorem dX12_untell_36 : decode mX12_untell.2.1 36 = .ok (.ireturn, 1) := by decide +kernel
theorem dX12_later_0 : decode mX12_later.2.1 0 = .ok (.iload_n 1, 1) := by decide +kernel
theorem dX12_later_1 : decode mX12_later.2.1 1 = .ok (.iconst 0, 1) := by decide +kernel
theorem dX12_later_2 : decode mX12_later.2.1 2 = .ok (.sipush 1000, 3) := by decide +kernel
theorem dX12_later_5 : decode mX12_later.2.1 5 = .ok (.invokestatic 367, 3) := by decide +kernel
theorem dX12_later_8 : decode mX12_later.2.1 8 = .ok (.ifCond .eq 15, 3) := by decide +kernel
theorem dX12_later_11 : decode mX12_later.2.1 11 = .ok (.aload_n 0, 1) := by decide +kernel
theorem dX12_later_12 : decode mX12_later.2.1 12 = .ok (.getfield 377, 3) := by decide +kernel
theorem dX12_later_15 : decode mX12_later.2.1 15 = .ok (.iload_n 1, 1) := by decide +kernel
theorem dX12_later_16 : decode mX12_later.2.1 16 = .ok (.iadd, 1) := by decide +kernel
theorem dX12_later_17 : decode mX12_later.2.1 17 = .ok (.ldc_w 391, 3) := by decide +kernel
theorem dX12_later_20 : decode mX12_later.2.1 20 = .ok (.if_icmp .le 5, 3) := by decide +kernel
theorem dX12_later_23 : decode mX12_later.2.1 23 = .ok (.iconst (-1), 1) := by decide +kernel
theorem dX12_later_24 : decode mX12_later.2.1 24 = .ok (.ireturn, 1) := by decide +kernel
theorem dX12_later_25 : decode mX12_later.2.1 25 = .ok (.aload_n 0, 1) := by decide +kernel
theorem dX12_later_26 : decode mX12_later.2.1 26 = .ok (.dup, 1) := by decide +kernel
theorem dX12_later_27 : decode mX12_later.2.1 27 = .ok (.getfield 377, 3) := by decide +kernel
theorem dX12_later_30 : decode mX12_later.2.1 30 = .ok (.iload_n 1, 1) := by decide +kernel
theorem dX12_later_31 : decode mX12_later.2.1 31 = .ok (.iadd, 1) := by decide +kernel
theorem dX12_later_32 : decode mX12_later.2.1 32 = .ok (.putfield 377, 3) := by decide +kernel
theorem dX12_later_35 : decode mX12_later.2.1 35 = .ok (.aload_n 0, 1) := by decide +kernel
theorem dX12_later_36 : decode mX12_later.2.1 36 = .ok (.getfield 377, 3) := by decide +kernel
theorem dX12_later_39 : decode mX12_later.2.1 39 = .ok (.ireturn, 1) := by decide +kernel
theorem dX12_lies_0 : decode mX12_lies.2.1 0 = .ok (.iload_n 1, 1) := by decide +kernel
theorem dX12_lies_1 : decode mX12_lies.2.1 1 = .ok (.iconst 0, 1) := by decide +kernel
theorem dX12_lies_2 : decode mX12_lies.2.1 2 = .ok (.aload_n 0, 1) := by decide +kernel
theorem dX12_lies_3 : decode mX12_lies.2.1 3 = .ok (.getfield 313, 3) := by decide +kernel
theorem dX12_lies_6 : decode mX12_lies.2.1 6 = .ok (.iconst 1, 1) := by decide +kernel
theorem dX12_lies_7 : decode mX12_lies.2.1 7 = .ok (.isub, 1) := by decide +kernel
theorem dX12_lies_8 : decode mX12_lies.2.1 8 = .ok (.invokestatic 367, 3) := by decide +kernel
theorem dX12_lies_11 : decode mX12_lies.2.1 11 = .ok (.ifCond .eq 12, 3) := by decide +kernel
theorem dX12_lies_14 : decode mX12_lies.2.1 14 = .ok (.aload_n 0, 1) := by decide +kernel
theorem dX12_lies_15 : decode mX12_lies.2.1 15 = .ok (.getfield 122, 3) := by decide +kernel
theorem dX12_lies_18 : decode mX12_lies.2.1 18 = .ok (.iload_n 1, 1) := by decide +kernel
theorem dX12_lies_19 : decode mX12_lies.2.1 19 = .ok (.iaload, 1) := by decide +kernel
theorem dX12_lies_20 : decode mX12_lies.2.1 20 = .ok (.goto 4, 3) := by decide +kernel
theorem dX12_lies_23 : decode mX12_lies.2.1 23 = .ok (.iconst (-1), 1) := by decide +kernel
theorem dX12_lies_24 : decode mX12_lies.2.1 24 = .ok (.ireturn, 1) := by decide +kernel
theorem dX12_left_0 : decode mX12_left.2.1 0 = .ok (.aload_n 0, 1) := by decide +kernel
theorem dX12_left_1 : decode mX12_left.2.1 1 = .ok (.iconst 0, 1) := by decide +kernel
theorem dX12_left_2 : decode mX12_left.2.1 2 = .ok (.putfield 313, 3) := by decide +kernel
theorem dX12_left_5 : decode mX12_left.2.1 5 = .ok (.iload_n 1, 1) := by decide +kernel
theorem dX12_left_6 : decode mX12_left.2.1 6 = .ok (.iconst 0, 1) := by decide +kernel
theorem dX12_left_7 : decode mX12_left.2.1 7 = .ok (.bipush 60, 2) := by decide +kernel
theorem dX12_left_9 : decode mX12_left.2.1 9 = .ok (.invokestatic 367, 3) := by decide +kernel
theorem dX12_left_12 : decode mX12_left.2.1 12 = .ok (.ifCond .ne 5, 3) := by decide +kernel
theorem dX12_left_15 : decode mX12_left.2.1 15 = .ok (.iconst (-1), 1) := by decide +kernel
theorem dX12_left_16 : decode mX12_left.2.1 16 = .ok (.ireturn, 1) := by decide +kernel
theorem dX12_left_17 : decode mX12_left.2.1 17 = .ok (.aload_n 0, 1) := by decide +kernel
theorem dX12_left_18 : decode mX12_left.2.1 18 = .ok (.iload_n 1, 1) := by decide +kernel
theorem dX12_left_19 : decode mX12_left.2.1 19 = .ok (.iload_n 2, 1) := by decide +kernel
theorem dX12_left_20 : decode mX12_left.2.1 20 = .ok (.invokevirtual 414, 3) := by decide +kernel
theorem dX12_left_23 : decode mX12_left.2.1 23 = .ok (.aload_n 0, 1) := by decide +kernel
theorem dX12_left_24 : decode mX12_left.2.1 24 = .ok (.getfield 408, 3) := by decide +kernel
theorem dX12_left_27 : decode mX12_left.2.1 27 = .ok (.ifCond .le 13, 3) := by decide +kernel
theorem dX12_left_30 : decode mX12_left.2.1 30 = .ok (.aload_n 0, 1) := by decide +kernel
theorem dX12_left_31 : decode mX12_left.2.1 31 = .ok (.aload_n 0, 1) := by decide +kernel
theorem dX12_left_32 : decode mX12_left.2.1 32 = .ok (.getfield 110, 3) := by decide +kernel
theorem dX12_left_35 : decode mX12_left.2.1 35 = .ok (.iconst 0, 1) := by decide +kernel
theorem dX12_left_36 : decode mX12_left.2.1 36 = .ok (.iaload, 1) := by decide +kernel
theorem dX12_left_37 : decode mX12_left.2.1 37 = .ok (.invokevirtual 417, 3) := by decide +kernel
theorem dX12_left_40 : decode mX12_left.2.1 40 = .ok (.aload_n 0, 1) := by decide +kernel
theorem dX12_left_41 : decode mX12_left.2.1 41 = .ok (.getfield 408, 3) := by decide +kernel
theorem dX12_left_44 : decode mX12_left.2.1 44 = .ok (.ireturn, 1) := by decide +kernel
theorem dX12_layLeft_0 : decode mX12_layLeft.2.1 0 = .ok (.aload_n 0, 1) := by decide +kernel
theorem dX12_layLeft_1 : decode mX12_layLeft.2.1 1 = .ok (.iconst 0, 1) := by decide +kernel
theorem dX12_layLeft_2 : decode mX12_layLeft.2.1 2 = .ok (.putfield 408, 3) := by decide +kernel
theorem dX12_layLeft_5 : decode mX12_layLeft.2.1 5 = .ok (.iconst 0, 1) := by decide +kernel
theorem dX12_layLeft_6 : decode mX12_layLeft.2.1 6 = .ok (.istore_n 3, 1) := by decide +kernel
theorem dX12_layLeft_7 : decode mX12_layLeft.2.1 7 = .ok (.iload_n 3, 1) := by decide +kernel
theorem dX12_layLeft_8 : decode mX12_layLeft.2.1 8 = .ok (.aload_n 0, 1) := by decide +kernel
theorem dX12_layLeft_9 : decode mX12_layLeft.2.1 9 = .ok (.getfield 371, 3) := by decide +kernel
theorem dX12_layLeft_12 : decode mX12_layLeft.2.1 12 = .ok (.if_icmp .ge 42, 3) := by decide +kernel
theorem dX12_layLeft_15 : decode mX12_layLeft.2.1 15 = .ok (.aload_n 0, 1) := by decide +kernel
theorem dX12_layLeft_16 : decode mX12_layLeft.2.1 16 = .ok (.iload_n 3, 1) := by decide +kernel
theorem dX12_layLeft_17 : decode mX12_layLeft.2.1 17 = .ok (.iload_n 2, 1) := by decide +kernel
theorem dX12_layLeft_18 : decode mX12_layLeft.2.1 18 = .ok (.invokevirtual 411, 3) := by decide +kernel
theorem dX12_layLeft_21 : decode mX12_layLeft.2.1 21 = .ok (.iload_n 1, 1) := by decide +kernel
theorem dX12_layLeft_22 : decode mX12_layLeft.2.1 22 = .ok (.if_icmp .le 6, 3) := by decide +kernel
theorem dX12_layLeft_25 : decode mX12_layLeft.2.1 25 = .ok (.goto 23, 3) := by decide +kernel
theorem dX12_layLeft_28 : decode mX12_layLeft.2.1 28 = .ok (.aload_n 0, 1) := by decide +kernel
theorem dX12_layLeft_29 : decode mX12_layLeft.2.1 29 = .ok (.getfield 110, 3) := by decide +kernel
theorem dX12_layLeft_32 : decode mX12_layLeft.2.1 32 = .ok (.aload_n 0, 1) := by decide +kernel
theorem dX12_layLeft_33 : decode mX12_layLeft.2.1 33 = .ok (.getfield 408, 3) := by decide +kernel
theorem dX12_layLeft_36 : decode mX12_layLeft.2.1 36 = .ok (.iload_n 3, 1) := by decide +kernel
theorem dX12_layLeft_37 : decode mX12_layLeft.2.1 37 = .ok (.iastore, 1) := by decide +kernel
theorem dX12_layLeft_38 : decode mX12_layLeft.2.1 38 = .ok (.aload_n 0, 1) := by decide +kernel
theorem dX12_layLeft_39 : decode mX12_layLeft.2.1 39 = .ok (.dup, 1) := by decide +kernel
theorem dX12_layLeft_40 : decode mX12_layLeft.2.1 40 = .ok (.getfield 408, 3) := by decide +kernel
theorem dX12_layLeft_43 : decode mX12_layLeft.2.1 43 = .ok (.iconst 1, 1) := by decide +kernel
theorem dX12_layLeft_44 : decode mX12_layLeft.2.1 44 = .ok (.iadd, 1) := by decide +kernel
theorem dX12_layLeft_45 : decode mX12_layLeft.2.1 45 = .ok (.putfield 408, 3) := by decide +kernel
theorem dX12_layLeft_48 : decode mX12_layLeft.2.1 48 = .ok (.iinc 3 1, 3) := by decide +kernel
theorem dX12_layLeft_51 : decode mX12_layLeft.2.1 51 = .ok (.goto (-44), 3) := by decide +kernel
theorem dX12_layLeft_54 : decode mX12_layLeft.2.1 54 = .ok (.return_, 1) := by decide +kernel
theorem dX12_wrongBy_0 : decode mX12_wrongBy.2.1 0 = .ok (.iconst 0, 1) := by decide +kernel
theorem dX12_wrongBy_1 : decode mX12_wrongBy.2.1 1 = .ok (.istore_n 3, 1) := by decide +kernel
theorem dX12_wrongBy_2 : decode mX12_wrongBy.2.1 2 = .ok (.iconst 0, 1) := by decide +kernel
theorem dX12_wrongBy_3 : decode mX12_wrongBy.2.1 3 = .ok (.istore 4, 2) := by decide +kernel
theorem dX12_wrongBy_5 : decode mX12_wrongBy.2.1 5 = .ok (.iload 4, 2) := by decide +kernel
theorem dX12_wrongBy_7 : decode mX12_wrongBy.2.1 7 = .ok (.aload_n 0, 1) := by decide +kernel
theorem dX12_wrongBy_8 : decode mX12_wrongBy.2.1 8 = .ok (.getfield 304, 3) := by decide +kernel
theorem dX12_wrongBy_11 : decode mX12_wrongBy.2.1 11 = .ok (.if_icmp .ge 71, 3) := by decide +kernel
theorem dX12_wrongBy_14 : decode mX12_wrongBy.2.1 14 = .ok (.iload_n 3, 1) := by decide +kernel
theorem dX12_wrongBy_15 : decode mX12_wrongBy.2.1 15 = .ok (.aload_n 0, 1) := by decide +kernel
theorem dX12_wrongBy_16 : decode mX12_wrongBy.2.1 16 = .ok (.iload 4, 2) := by decide +kernel
theorem dX12_wrongBy_18 : decode mX12_wrongBy.2.1 18 = .ok (.iload_n 2, 1) := by decide +kernel
theorem dX12_wrongBy_19 : decode mX12_wrongBy.2.1 19 = .ok (.invokevirtual 395, 3) := by decide +kernel
theorem dX12_wrongBy_22 : decode mX12_wrongBy.2.1 22 = .ok (.ifCond .eq 51, 3) := by decide +kernel
theorem dX12_wrongBy_25 : decode mX12_wrongBy.2.1 25 = .ok (.aload_n 0, 1) := by decide +kernel
theorem dX12_wrongBy_26 : decode mX12_wrongBy.2.1 26 = .ok (.iload 4, 2) := by decide +kernel
theorem dX12_wrongBy_28 : decode mX12_wrongBy.2.1 28 = .ok (.invokevirtual 398, 3) := by decide +kernel
theorem dX12_wrongBy_31 : decode mX12_wrongBy.2.1 31 = .ok (.ifCond .eq 42, 3) := by decide +kernel
theorem dX12_wrongBy_34 : decode mX12_wrongBy.2.1 34 = .ok (.aload_n 0, 1) := by decide +kernel
theorem dX12_wrongBy_35 : decode mX12_wrongBy.2.1 35 = .ok (.iload_n 1, 1) := by decide +kernel
theorem dX12_wrongBy_36 : decode mX12_wrongBy.2.1 36 = .ok (.aload_n 0, 1) := by decide +kernel
theorem dX12_wrongBy_37 : decode mX12_wrongBy.2.1 37 = .ok (.getfield 83, 3) := by decide +kernel
theorem dX12_wrongBy_40 : decode mX12_wrongBy.2.1 40 = .ok (.iload 4, 2) := by decide +kernel
theorem dX12_wrongBy_42 : decode mX12_wrongBy.2.1 42 = .ok (.iaload, 1) := by decide +kernel
theorem dX12_wrongBy_43 : decode mX12_wrongBy.2.1 43 = .ok (.invokestatic 401, 3) := by decide +kernel
theorem dX12_wrongBy_46 : decode mX12_wrongBy.2.1 46 = .ok (.aload_n 0, 1) := by decide +kernel
theorem dX12_wrongBy_47 : decode mX12_wrongBy.2.1 47 = .ok (.getfield 86, 3) := by decide +kernel
theorem dX12_wrongBy_50 : decode mX12_wrongBy.2.1 50 = .ok (.iload 4, 2) := by decide +kernel
theorem dX12_wrongBy_52 : decode mX12_wrongBy.2.1 52 = .ok (.iaload, 1) := by decide +kernel
theorem dX12_wrongBy_53 : decode mX12_wrongBy.2.1 53 = .ok (.invokestatic 401, 3) := by decide +kernel
theorem dX12_wrongBy_56 : decode mX12_wrongBy.2.1 56 = .ok (.invokevirtual 404, 3) := by decide +kernel
theorem dX12_wrongBy_59 : decode mX12_wrongBy.2.1 59 = .ok (.aload_n 0, 1) := by decide +kernel
theorem dX12_wrongBy_60 : decode mX12_wrongBy.2.1 60 = .ok (.getfield 89, 3) := by decide +kernel
theorem dX12_wrongBy_63 : decode mX12_wrongBy.2.1 63 = .ok (.iload 4, 2) := by decide +kernel
theorem dX12_wrongBy_65 : decode mX12_wrongBy.2.1 65 = .ok (.iaload, 1) := by decide +kernel
theorem dX12_wrongBy_66 : decode mX12_wrongBy.2.1 66 = .ok (.if_icmp .eq 7, 3) := by decide +kernel
theorem dX12_wrongBy_69 : decode mX12_wrongBy.2.1 69 = .ok (.iconst 1, 1) := by decide +kernel
theorem dX12_wrongBy_70 : decode mX12_wrongBy.2.1 70 = .ok (.goto 4, 3) := by decide +kernel
theorem dX12_wrongBy_73 : decode mX12_wrongBy.2.1 73 = .ok (.iconst 0, 1) := by decide +kernel
theorem dX12_wrongBy_74 : decode mX12_wrongBy.2.1 74 = .ok (.iadd, 1) := by decide +kernel
theorem dX12_wrongBy_75 : decode mX12_wrongBy.2.1 75 = .ok (.istore_n 3, 1) := by decide +kernel
theorem dX12_wrongBy_76 : decode mX12_wrongBy.2.1 76 = .ok (.iinc 4 1, 3) := by decide +kernel
theorem dX12_wrongBy_79 : decode mX12_wrongBy.2.1 79 = .ok (.goto (-74), 3) := by decide +kernel
theorem dX12_wrongBy_82 : decode mX12_wrongBy.2.1 82 = .ok (.iload_n 3, 1) := by decide +kernel
theorem dX12_wrongBy_83 : decode mX12_wrongBy.2.1 83 = .ok (.ireturn, 1) := by decide +kernel
theorem dX12_counts_0 : decode mX12_counts.2.1 0 = .ok (.aload_n 0, 1) := by decide +kernel
theorem dX12_counts_1 : decode mX12_counts.2.1 1 = .ok (.getfield 92, 3) := by decide +kernel
theorem dX12_counts_4 : decode mX12_counts.2.1 4 = .ok (.iload_n 1, 1) := by decide +kernel
theorem dX12_counts_5 : decode mX12_counts.2.1 5 = .ok (.iaload, 1) := by decide +kernel
theorem dX12_counts_6 : decode mX12_counts.2.1 6 = .ok (.iload_n 2, 1) := by decide +kernel
theorem dX12_counts_7 : decode mX12_counts.2.1 7 = .ok (.if_icmp .gt 22, 3) := by decide +kernel
theorem dX12_counts_10 : decode mX12_counts.2.1 10 = .ok (.aload_n 0, 1) := by decide +kernel
theorem dX12_counts_11 : decode mX12_counts.2.1 11 = .ok (.getfield 95, 3) := by decide +kernel
theorem dX12_counts_14 : decode mX12_counts.2.1 14 = .ok (.iload_n 1, 1) := by decide +kernel
theorem dX12_counts_15 : decode mX12_counts.2.1 15 = .ok (.iaload, 1) := by decide +kernel
theorem dX12_counts_16 : decode mX12_counts.2.1 16 = .ok (.ifCond .lt 15, 3) := by decide +kernel
theorem dX12_counts_19 : decode mX12_counts.2.1 19 = .ok (.aload_n 0, 1) := by decide +kernel
theorem dX12_counts_20 : decode mX12_counts.2.1 20 = .ok (.getfield 95, 3) := by decide +kernel
theorem dX12_counts_23 : decode mX12_counts.2.1 23 = .ok (.iload_n 1, 1) := by decide +kernel
theorem dX12_counts_24 : decode mX12_counts.2.1 24 = .ok (.iaload, 1) := by decide +kernel
theorem dX12_counts_25 : decode mX12_counts.2.1 25 = .ok (.iload_n 2, 1) := by decide +kernel
theorem dX12_counts_26 : decode mX12_counts.2.1 26 = .ok (.if_icmp .gt 5, 3) := by decide +kernel
theorem dX12_counts_29 : decode mX12_counts.2.1 29 = .ok (.iconst 0, 1) := by decide +kernel
theorem dX12_counts_30 : decode mX12_counts.2.1 30 = .ok (.ireturn, 1) := by decide +kernel
theorem dX12_counts_31 : decode mX12_counts.2.1 31 = .ok (.iconst 0, 1) := by decide +kernel
theorem dX12_counts_32 : decode mX12_counts.2.1 32 = .ok (.istore_n 3, 1) := by decide +kernel
theorem dX12_counts_33 : decode mX12_counts.2.1 33 = .ok (.iload_n 3, 1) := by decide +kernel
theorem dX12_counts_34 : decode mX12_counts.2.1 34 = .ok (.aload_n 0, 1) := by decide +kernel
theorem dX12_counts_35 : decode mX12_counts.2.1 35 = .ok (.getfield 307, 3) := by decide +kernel
theorem dX12_counts_38 : decode mX12_counts.2.1 38 = .ok (.if_icmp .ge 31, 3) := by decide +kernel
theorem dX12_counts_41 : decode mX12_counts.2.1 41 = .ok (.aload_n 0, 1) := by decide +kernel
theorem dX12_counts_42 : decode mX12_counts.2.1 42 = .ok (.getfield 98, 3) := by decide +kernel
theorem dX12_counts_45 : decode mX12_counts.2.1 45 = .ok (.iload_n 3, 1) := by decide +kernel
theorem dX12_counts_46 : decode mX12_counts.2.1 46 = .ok (.iaload, 1) := by decide +kernel
theorem dX12_counts_47 : decode mX12_counts.2.1 47 = .ok (.iload_n 2, 1) := by decide +kernel
theorem dX12_counts_48 : decode mX12_counts.2.1 48 = .ok (.if_icmp .gt 15, 3) := by decide +kernel
theorem dX12_counts_51 : decode mX12_counts.2.1 51 = .ok (.iload_n 1, 1) := by decide +kernel
theorem dX12_counts_52 : decode mX12_counts.2.1 52 = .ok (.aload_n 0, 1) := by decide +kernel
theorem dX12_counts_53 : decode mX12_counts.2.1 53 = .ok (.getfield 101, 3) := by decide +kernel
theorem dX12_counts_56 : decode mX12_counts.2.1 56 = .ok (.iload_n 3, 1) := by decide +kernel
theorem dX12_counts_57 : decode mX12_counts.2.1 57 = .ok (.iaload, 1) := by decide +kernel
theorem dX12_counts_58 : decode mX12_counts.2.1 58 = .ok (.if_icmp .ge 5, 3) := by decide +kernel
theorem dX12_counts_61 : decode mX12_counts.2.1 61 = .ok (.iconst 0, 1) := by decide +kernel
theorem dX12_counts_62 : decode mX12_counts.2.1 62 = .ok (.ireturn, 1) := by decide +kernel
theorem dX12_counts_63 : decode mX12_counts.2.1 63 = .ok (.iinc 3 1, 3) := by decide +kernel
theorem dX12_counts_66 : decode mX12_counts.2.1 66 = .ok (.goto (-33), 3) := by decide +kernel
theorem dX12_counts_69 : decode mX12_counts.2.1 69 = .ok (.iconst 1, 1) := by decide +kernel
theorem dX12_counts_70 : decode mX12_counts.2.1 70 = .ok (.ireturn, 1) := by decide +kernel
theorem dX12_isSingle_0 : decode mX12_isSingle.2.1 0 = .ok (.aload_n 0, 1) := by decide +kernel
theorem dX12_isSingle_1 : decode mX12_isSingle.2.1 1 = .ok (.getfield 83, 3) := by decide +kernel
theorem dX12_isSingle_4 : decode mX12_isSingle.2.1 4 = .ok (.iload_n 1, 1) := by decide +kernel
theorem dX12_isSingle_5 : decode mX12_isSingle.2.1 5 = .ok (.iaload, 1) := by decide +kernel
theorem dX12_isSingle_6 : decode mX12_isSingle.2.1 6 = .ok (.invokestatic 392, 3) := by decide +kernel
theorem dX12_isSingle_9 : decode mX12_isSingle.2.1 9 = .ok (.iconst 1, 1) := by decide +kernel
theorem dX12_isSingle_10 : decode mX12_isSingle.2.1 10 = .ok (.if_icmp .ne 20, 3) := by decide +kernel
theorem dX12_isSingle_13 : decode mX12_isSingle.2.1 13 = .ok (.aload_n 0, 1) := by decide +kernel
theorem dX12_isSingle_14 : decode mX12_isSingle.2.1 14 = .ok (.getfield 86, 3) := by decide +kernel
theorem dX12_isSingle_17 : decode mX12_isSingle.2.1 17 = .ok (.iload_n 1, 1) := by decide +kernel
theorem dX12_isSingle_18 : decode mX12_isSingle.2.1 18 = .ok (.iaload, 1) := by decide +kernel
theorem dX12_isSingle_19 : decode mX12_isSingle.2.1 19 = .ok (.invokestatic 392, 3) := by decide +kernel
theorem dX12_isSingle_22 : decode mX12_isSingle.2.1 22 = .ok (.iconst 1, 1) := by decide +kernel
theorem dX12_isSingle_23 : decode mX12_isSingle.2.1 23 = .ok (.if_icmp .ne 7, 3) := by decide +kernel
theorem dX12_isSingle_26 : decode mX12_isSingle.2.1 26 = .ok (.iconst 1, 1) := by decide +kernel
theorem dX12_isSingle_27 : decode mX12_isSingle.2.1 27 = .ok (.goto 4, 3) := by decide +kernel
theorem dX12_isSingle_30 : decode mX12_isSingle.2.1 30 = .ok (.iconst 0, 1) := by decide +kernel
theorem dX12_isSingle_31 : decode mX12_isSingle.2.1 31 = .ok (.ireturn, 1) := by decide +kernel
theorem dX12_bitsOf_0 : decode mX12_bitsOf.2.1 0 = .ok (.iconst 0, 1) := by decide +kernel
theorem dX12_bitsOf_1 : decode mX12_bitsOf.2.1 1 = .ok (.istore_n 1, 1) := by decide +kernel
theorem dX12_bitsOf_2 : decode mX12_bitsOf.2.1 2 = .ok (.iconst 0, 1) := by decide +kernel
theorem dX12_bitsOf_3 : decode mX12_bitsOf.2.1 3 = .ok (.istore_n 2, 1) := by decide +kernel
theorem dX12_bitsOf_4 : decode mX12_bitsOf.2.1 4 = .ok (.iload_n 2, 1) := by decide +kernel
theorem dX12_bitsOf_5 : decode mX12_bitsOf.2.1 5 = .ok (.bipush 31, 2) := by decide +kernel
theorem dX12_bitsOf_7 : decode mX12_bitsOf.2.1 7 = .ok (.if_icmp .ge 17, 3) := by decide +kernel
theorem dX12_bitsOf_10 : decode mX12_bitsOf.2.1 10 = .ok (.iload_n 1, 1) := by decide +kernel
theorem dX12_bitsOf_11 : decode mX12_bitsOf.2.1 11 = .ok (.iload_n 0, 1) := by decide +kernel
theorem dX12_bitsOf_12 : decode mX12_bitsOf.2.1 12 = .ok (.iload_n 2, 1) := by decide +kernel
theorem dX12_bitsOf_13 : decode mX12_bitsOf.2.1 13 = .ok (.ishr, 1) := by decide +kernel
theorem dX12_bitsOf_14 : decode mX12_bitsOf.2.1 14 = .ok (.iconst 1, 1) := by decide +kernel
theorem dX12_bitsOf_15 : decode mX12_bitsOf.2.1 15 = .ok (.iand, 1) := by decide +kernel
theorem dX12_bitsOf_16 : decode mX12_bitsOf.2.1 16 = .ok (.iadd, 1) := by decide +kernel
theorem dX12_bitsOf_17 : decode mX12_bitsOf.2.1 17 = .ok (.istore_n 1, 1) := by decide +kernel
theorem dX12_bitsOf_18 : decode mX12_bitsOf.2.1 18 = .ok (.iinc 2 1, 3) := by decide +kernel
theorem dX12_bitsOf_21 : decode mX12_bitsOf.2.1 21 = .ok (.goto (-17), 3) := by decide +kernel
theorem dX12_bitsOf_24 : decode mX12_bitsOf.2.1 24 = .ok (.iload_n 1, 1) := by decide +kernel
theorem dX12_bitsOf_25 : decode mX12_bitsOf.2.1 25 = .ok (.ireturn, 1) := by decide +kernel
theorem dX12_lowest_0 : decode mX12_lowest.2.1 0 = .ok (.iconst 0, 1) := by decide +kernel
theorem dX12_lowest_1 : decode mX12_lowest.2.1 1 = .ok (.istore_n 1, 1) := by decide +kernel
theorem dX12_lowest_2 : decode mX12_lowest.2.1 2 = .ok (.iload_n 0, 1) := by decide +kernel
theorem dX12_lowest_3 : decode mX12_lowest.2.1 3 = .ok (.iload_n 1, 1) := by decide +kernel
theorem dX12_lowest_4 : decode mX12_lowest.2.1 4 = .ok (.ishr, 1) := by decide +kernel
theorem dX12_lowest_5 : decode mX12_lowest.2.1 5 = .ok (.iconst 1, 1) := by decide +kernel
theorem dX12_lowest_6 : decode mX12_lowest.2.1 6 = .ok (.iand, 1) := by decide +kernel
theorem dX12_lowest_7 : decode mX12_lowest.2.1 7 = .ok (.ifCond .ne 9, 3) := by decide +kernel
theorem dX12_lowest_10 : decode mX12_lowest.2.1 10 = .ok (.iinc 1 1, 3) := by decide +kernel
theorem dX12_lowest_13 : decode mX12_lowest.2.1 13 = .ok (.goto (-11), 3) := by decide +kernel
theorem dX12_lowest_16 : decode mX12_lowest.2.1 16 = .ok (.iload_n 1, 1) := by decide +kernel
theorem dX12_lowest_17 : decode mX12_lowest.2.1 17 = .ok (.ireturn, 1) := by decide +kernel
theorem dX12_saidBy_0 : decode mX12_saidBy.2.1 0 = .ok (.aload_n 0, 1) := by decide +kernel
theorem dX12_saidBy_1 : decode mX12_saidBy.2.1 1 = .ok (.getfield 77, 3) := by decide +kernel
theorem dX12_saidBy_4 : decode mX12_saidBy.2.1 4 = .ok (.iconst 5, 1) := by decide +kernel
theorem dX12_saidBy_5 : decode mX12_saidBy.2.1 5 = .ok (.iload_n 1, 1) := by decide +kernel
theorem dX12_saidBy_6 : decode mX12_saidBy.2.1 6 = .ok (.imul, 1) := by decide +kernel
theorem dX12_saidBy_7 : decode mX12_saidBy.2.1 7 = .ok (.iload_n 2, 1) := by decide +kernel
theorem dX12_saidBy_8 : decode mX12_saidBy.2.1 8 = .ok (.iadd, 1) := by decide +kernel
theorem dX12_saidBy_9 : decode mX12_saidBy.2.1 9 = .ok (.iaload, 1) := by decide +kernel
theorem dX12_saidBy_10 : decode mX12_saidBy.2.1 10 = .ok (.istore 4, 2) := by decide +kernel
theorem dX12_saidBy_12 : decode mX12_saidBy.2.1 12 = .ok (.aload_n 0, 1) := by decide +kernel
theorem dX12_saidBy_13 : decode mX12_saidBy.2.1 13 = .ok (.getfield 77, 3) := by decide +kernel
theorem dX12_saidBy_16 : decode mX12_saidBy.2.1 16 = .ok (.iconst 5, 1) := by decide +kernel
theorem dX12_saidBy_17 : decode mX12_saidBy.2.1 17 = .ok (.iload_n 1, 1) := by decide +kernel
theorem dX12_saidBy_18 : decode mX12_saidBy.2.1 18 = .ok (.imul, 1) := by decide +kernel
theorem dX12_saidBy_19 : decode mX12_saidBy.2.1 19 = .ok (.iload_n 3, 1) := by decide +kernel
theorem dX12_saidBy_20 : decode mX12_saidBy.2.1 20 = .ok (.iadd, 1) := by decide +kernel
theorem dX12_saidBy_21 : decode mX12_saidBy.2.1 21 = .ok (.iaload, 1) := by decide +kernel
theorem dX12_saidBy_22 : decode mX12_saidBy.2.1 22 = .ok (.istore 5, 2) := by decide +kernel
theorem dX12_saidBy_24 : decode mX12_saidBy.2.1 24 = .ok (.iload 4, 2) := by decide +kernel
theorem dX12_saidBy_26 : decode mX12_saidBy.2.1 26 = .ok (.iload 5, 2) := by decide +kernel
theorem dX12_saidBy_28 : decode mX12_saidBy.2.1 28 = .ok (.if_icmp .ge 7, 3) := by decide +kernel
theorem dX12_saidBy_31 : decode mX12_saidBy.2.1 31 = .ok (.iconst 1, 1) := by decide +kernel
theorem dX12_saidBy_32 : decode mX12_saidBy.2.1 32 = .ok (.goto 15, 3) := by decide +kernel
theorem dX12_saidBy_35 : decode mX12_saidBy.2.1 35 = .ok (.iload 4, 2) := by decide +kernel
theorem dX12_saidBy_37 : decode mX12_saidBy.2.1 37 = .ok (.iload 5, 2) := by decide +kernel
theorem dX12_saidBy_39 : decode mX12_saidBy.2.1 39 = .ok (.if_icmp .le 7, 3) := by decide +kernel
theorem dX12_saidBy_42 : decode mX12_saidBy.2.1 42 = .ok (.iconst 2, 1) := by decide +kernel
theorem dX12_saidBy_43 : decode mX12_saidBy.2.1 43 = .ok (.goto 4, 3) := by decide +kernel
theorem dX12_saidBy_46 : decode mX12_saidBy.2.1 46 = .ok (.iconst 0, 1) := by decide +kernel
theorem dX12_saidBy_47 : decode mX12_saidBy.2.1 47 = .ok (.ireturn, 1) := by decide +kernel
theorem dX12_layPlaces_0 : decode mX12_layPlaces.2.1 0 = .ok (.iconst 0, 1) := by decide +kernel
theorem dX12_layPlaces_1 : decode mX12_layPlaces.2.1 1 = .ok (.istore_n 2, 1) := by decide +kernel
theorem dX12_layPlaces_2 : decode mX12_layPlaces.2.1 2 = .ok (.iload_n 2, 1) := by decide +kernel
theorem dX12_layPlaces_3 : decode mX12_layPlaces.2.1 3 = .ok (.aload_n 0, 1) := by decide +kernel
theorem dX12_layPlaces_4 : decode mX12_layPlaces.2.1 4 = .ok (.invokevirtual 364, 3) := by decide +kernel
theorem dX12_layPlaces_7 : decode mX12_layPlaces.2.1 7 = .ok (.if_icmp .ge 25, 3) := by decide +kernel
theorem dX12_layPlaces_10 : decode mX12_layPlaces.2.1 10 = .ok (.aload_n 0, 1) := by decide +kernel
theorem dX12_layPlaces_11 : decode mX12_layPlaces.2.1 11 = .ok (.getfield 122, 3) := by decide +kernel
theorem dX12_layPlaces_14 : decode mX12_layPlaces.2.1 14 = .ok (.iload_n 2, 1) := by decide +kernel
theorem dX12_layPlaces_15 : decode mX12_layPlaces.2.1 15 = .ok (.aload_n 0, 1) := by decide +kernel
theorem dX12_layPlaces_16 : decode mX12_layPlaces.2.1 16 = .ok (.getfield 77, 3) := by decide +kernel
theorem dX12_layPlaces_19 : decode mX12_layPlaces.2.1 19 = .ok (.iconst 5, 1) := by decide +kernel
theorem dX12_layPlaces_20 : decode mX12_layPlaces.2.1 20 = .ok (.iload_n 1, 1) := by decide +kernel
theorem dX12_layPlaces_21 : decode mX12_layPlaces.2.1 21 = .ok (.imul, 1) := by decide +kernel
theorem dX12_layPlaces_22 : decode mX12_layPlaces.2.1 22 = .ok (.iload_n 2, 1) := by decide +kernel
theorem dX12_layPlaces_23 : decode mX12_layPlaces.2.1 23 = .ok (.iadd, 1) := by decide +kernel
theorem dX12_layPlaces_24 : decode mX12_layPlaces.2.1 24 = .ok (.iaload, 1) := by decide +kernel
theorem dX12_layPlaces_25 : decode mX12_layPlaces.2.1 25 = .ok (.iastore, 1) := by decide +kernel
theorem dX12_layPlaces_26 : decode mX12_layPlaces.2.1 26 = .ok (.iinc 2 1, 3) := by decide +kernel
theorem dX12_layPlaces_29 : decode mX12_layPlaces.2.1 29 = .ok (.goto (-27), 3) := by decide +kernel
theorem dX12_layPlaces_32 : decode mX12_layPlaces.2.1 32 = .ok (.aload_n 0, 1) := by decide +kernel
theorem dX12_layPlaces_33 : decode mX12_layPlaces.2.1 33 = .ok (.aload_n 0, 1) := by decide +kernel
theorem dX12_layPlaces_34 : decode mX12_layPlaces.2.1 34 = .ok (.invokevirtual 364, 3) := by decide +kernel
theorem dX12_layPlaces_37 : decode mX12_layPlaces.2.1 37 = .ok (.putfield 313, 3) := by decide +kernel
theorem dX12_layPlaces_40 : decode mX12_layPlaces.2.1 40 = .ok (.return_, 1) := by decide +kernel
theorem dX12_struck_0 : decode mX12_struck.2.1 0 = .ok (.iconst 0, 1) := by decide +kernel
theorem dX12_struck_1 : decode mX12_struck.2.1 1 = .ok (.istore_n 2, 1) := by decide +kernel
theorem dX12_struck_2 : decode mX12_struck.2.1 2 = .ok (.iconst 1, 1) := by decide +kernel
theorem dX12_struck_3 : decode mX12_struck.2.1 3 = .ok (.istore_n 3, 1) := by decide +kernel
theorem dX12_struck_4 : decode mX12_struck.2.1 4 = .ok (.iload_n 3, 1) := by decide +kernel
theorem dX12_struck_5 : decode mX12_struck.2.1 5 = .ok (.aload_n 0, 1) := by decide +kernel
theorem dX12_struck_6 : decode mX12_struck.2.1 6 = .ok (.getfield 371, 3) := by decide +kernel
theorem dX12_struck_9 : decode mX12_struck.2.1 9 = .ok (.if_icmp .ge 26, 3) := by decide +kernel
theorem dX12_struck_12 : decode mX12_struck.2.1 12 = .ok (.aload_n 0, 1) := by decide +kernel
theorem dX12_struck_13 : decode mX12_struck.2.1 13 = .ok (.iload_n 3, 1) := by decide +kernel
theorem dX12_struck_14 : decode mX12_struck.2.1 14 = .ok (.iload_n 1, 1) := by decide +kernel
theorem dX12_struck_15 : decode mX12_struck.2.1 15 = .ok (.invokevirtual 411, 3) := by decide +kernel
theorem dX12_struck_18 : decode mX12_struck.2.1 18 = .ok (.aload_n 0, 1) := by decide +kernel
theorem dX12_struck_19 : decode mX12_struck.2.1 19 = .ok (.iload_n 2, 1) := by decide +kernel
theorem dX12_struck_20 : decode mX12_struck.2.1 20 = .ok (.iload_n 1, 1) := by decide +kernel
theorem dX12_struck_21 : decode mX12_struck.2.1 21 = .ok (.invokevirtual 411, 3) := by decide +kernel
theorem dX12_struck_24 : decode mX12_struck.2.1 24 = .ok (.if_icmp .ge 5, 3) := by decide +kernel
theorem dX12_struck_27 : decode mX12_struck.2.1 27 = .ok (.iload_n 3, 1) := by decide +kernel
theorem dX12_struck_28 : decode mX12_struck.2.1 28 = .ok (.istore_n 2, 1) := by decide +kernel
theorem dX12_struck_29 : decode mX12_struck.2.1 29 = .ok (.iinc 3 1, 3) := by decide +kernel
theorem dX12_struck_32 : decode mX12_struck.2.1 32 = .ok (.goto (-28), 3) := by decide +kernel
theorem dX12_struck_35 : decode mX12_struck.2.1 35 = .ok (.aload_n 0, 1) := by decide +kernel
theorem dX12_struck_36 : decode mX12_struck.2.1 36 = .ok (.iload_n 2, 1) := by decide +kernel
theorem dX12_struck_37 : decode mX12_struck.2.1 37 = .ok (.invokevirtual 417, 3) := by decide +kernel
theorem dX12_struck_40 : decode mX12_struck.2.1 40 = .ok (.aload_n 0, 1) := by decide +kernel
theorem dX12_struck_41 : decode mX12_struck.2.1 41 = .ok (.iload_n 2, 1) := by decide +kernel
theorem dX12_struck_42 : decode mX12_struck.2.1 42 = .ok (.iload_n 1, 1) := by decide +kernel
theorem dX12_struck_43 : decode mX12_struck.2.1 43 = .ok (.invokevirtual 411, 3) := by decide +kernel
theorem dX12_struck_46 : decode mX12_struck.2.1 46 = .ok (.ireturn, 1) := by decide +kernel
theorem dX12_place_0 : decode mX12_place.2.1 0 = .ok (.aload_n 0, 1) := by decide +kernel
theorem dX12_place_1 : decode mX12_place.2.1 1 = .ok (.iload_n 1, 1) := by decide +kernel
theorem dX12_place_2 : decode mX12_place.2.1 2 = .ok (.invokevirtual 421, 3) := by decide +kernel
theorem dX12_place_5 : decode mX12_place.2.1 5 = .ok (.ifCond .eq 11, 3) := by decide +kernel
theorem dX12_place_8 : decode mX12_place.2.1 8 = .ok (.aload_n 0, 1) := by decide +kernel
theorem dX12_place_9 : decode mX12_place.2.1 9 = .ok (.iload_n 3, 1) := by decide +kernel
theorem dX12_place_10 : decode mX12_place.2.1 10 = .ok (.invokevirtual 424, 3) := by decide +kernel
theorem dX12_place_13 : decode mX12_place.2.1 13 = .ok (.ifCond .ne 5, 3) := by decide +kernel
theorem dX12_place_16 : decode mX12_place.2.1 16 = .ok (.iconst (-1), 1) := by decide +kernel
theorem dX12_place_17 : decode mX12_place.2.1 17 = .ok (.ireturn, 1) := by decide +kernel
theorem dX12_place_18 : decode mX12_place.2.1 18 = .ok (.aload_n 0, 1) := by decide +kernel
theorem dX12_place_19 : decode mX12_place.2.1 19 = .ok (.iconst 0, 1) := by decide +kernel
theorem dX12_place_20 : decode mX12_place.2.1 20 = .ok (.iload_n 1, 1) := by decide +kernel
theorem dX12_place_21 : decode mX12_place.2.1 21 = .ok (.invokevirtual 427, 3) := by decide +kernel
theorem dX12_place_24 : decode mX12_place.2.1 24 = .ok (.istore 4, 2) := by decide +kernel
theorem dX12_place_26 : decode mX12_place.2.1 26 = .ok (.iconst 1, 1) := by decide +kernel
theorem dX12_place_27 : decode mX12_place.2.1 27 = .ok (.istore 5, 2) := by decide +kernel
theorem dX12_place_29 : decode mX12_place.2.1 29 = .ok (.iload 5, 2) := by decide +kernel
theorem dX12_place_31 : decode mX12_place.2.1 31 = .ok (.aload_n 0, 1) := by decide +kernel
theorem dX12_place_32 : decode mX12_place.2.1 32 = .ok (.getfield 408, 3) := by decide +kernel
theorem dX12_place_35 : decode mX12_place.2.1 35 = .ok (.if_icmp .ge 43, 3) := by decide +kernel
theorem dX12_place_38 : decode mX12_place.2.1 38 = .ok (.aload_n 0, 1) := by decide +kernel
theorem dX12_place_39 : decode mX12_place.2.1 39 = .ok (.iload 5, 2) := by decide +kernel
theorem dX12_place_41 : decode mX12_place.2.1 41 = .ok (.iload_n 1, 1) := by decide +kernel
theorem dX12_place_42 : decode mX12_place.2.1 42 = .ok (.invokevirtual 427, 3) := by decide +kernel
theorem dX12_place_45 : decode mX12_place.2.1 45 = .ok (.istore 6, 2) := by decide +kernel
theorem dX12_place_47 : decode mX12_place.2.1 47 = .ok (.iload_n 2, 1) := by decide +kernel
theorem dX12_place_48 : decode mX12_place.2.1 48 = .ok (.ifCond .eq 13, 3) := by decide +kernel
theorem dX12_place_51 : decode mX12_place.2.1 51 = .ok (.iload 6, 2) := by decide +kernel
theorem dX12_place_53 : decode mX12_place.2.1 53 = .ok (.iload 4, 2) := by decide +kernel
theorem dX12_place_55 : decode mX12_place.2.1 55 = .ok (.if_icmp .le 17, 3) := by decide +kernel
theorem dX12_place_58 : decode mX12_place.2.1 58 = .ok (.goto 10, 3) := by decide +kernel
theorem dX12_place_61 : decode mX12_place.2.1 61 = .ok (.iload 6, 2) := by decide +kernel
theorem dX12_place_63 : decode mX12_place.2.1 63 = .ok (.iload 4, 2) := by decide +kernel
theorem dX12_place_65 : decode mX12_place.2.1 65 = .ok (.if_icmp .ge 7, 3) := by decide +kernel
theorem dX12_place_68 : decode mX12_place.2.1 68 = .ok (.iload 6, 2) := by decide +kernel
theorem dX12_place_70 : decode mX12_place.2.1 70 = .ok (.istore 4, 2) := by decide +kernel
theorem dX12_place_72 : decode mX12_place.2.1 72 = .ok (.iinc 5 1, 3) := by decide +kernel
theorem dX12_place_75 : decode mX12_place.2.1 75 = .ok (.goto (-46), 3) := by decide +kernel
theorem dX12_place_78 : decode mX12_place.2.1 78 = .ok (.iload 4, 2) := by decide +kernel
theorem dX12_place_80 : decode mX12_place.2.1 80 = .ok (.ireturn, 1) := by decide +kernel
theorem dX12_isThing_0 : decode mX12_isThing.2.1 0 = .ok (.iload_n 1, 1) := by decide +kernel
theorem dX12_isThing_1 : decode mX12_isThing.2.1 1 = .ok (.iconst 0, 1) := by decide +kernel
theorem dX12_isThing_2 : decode mX12_isThing.2.1 2 = .ok (.aload_n 0, 1) := by decide +kernel
theorem dX12_isThing_3 : decode mX12_isThing.2.1 3 = .ok (.invokevirtual 364, 3) := by decide +kernel
theorem dX12_isThing_6 : decode mX12_isThing.2.1 6 = .ok (.iconst 1, 1) := by decide +kernel
theorem dX12_isThing_7 : decode mX12_isThing.2.1 7 = .ok (.isub, 1) := by decide +kernel
theorem dX12_isThing_8 : decode mX12_isThing.2.1 8 = .ok (.invokestatic 367, 3) := by decide +kernel
theorem dX12_isThing_11 : decode mX12_isThing.2.1 11 = .ok (.ireturn, 1) := by decide +kernel
theorem dX12_hasLeft_0 : decode mX12_hasLeft.2.1 0 = .ok (.aload_n 0, 1) := by decide +kernel
theorem dX12_hasLeft_1 : decode mX12_hasLeft.2.1 1 = .ok (.iconst 0, 1) := by decide +kernel
theorem dX12_hasLeft_2 : decode mX12_hasLeft.2.1 2 = .ok (.iload_n 1, 1) := by decide +kernel
theorem dX12_hasLeft_3 : decode mX12_hasLeft.2.1 3 = .ok (.invokevirtual 414, 3) := by decide +kernel
theorem dX12_hasLeft_6 : decode mX12_hasLeft.2.1 6 = .ok (.aload_n 0, 1) := by decide +kernel
theorem dX12_hasLeft_7 : decode mX12_hasLeft.2.1 7 = .ok (.getfield 408, 3) := by decide +kernel
theorem dX12_hasLeft_10 : decode mX12_hasLeft.2.1 10 = .ok (.ifCond .le 7, 3) := by decide +kernel
theorem dX12_hasLeft_13 : decode mX12_hasLeft.2.1 13 = .ok (.iconst 1, 1) := by decide +kernel
theorem dX12_hasLeft_14 : decode mX12_hasLeft.2.1 14 = .ok (.goto 4, 3) := by decide +kernel
theorem dX12_hasLeft_17 : decode mX12_hasLeft.2.1 17 = .ok (.iconst 0, 1) := by decide +kernel
theorem dX12_hasLeft_18 : decode mX12_hasLeft.2.1 18 = .ok (.ireturn, 1) := by decide +kernel
theorem dX12_placeLeft_0 : decode mX12_placeLeft.2.1 0 = .ok (.aload_n 0, 1) := by decide +kernel
theorem dX12_placeLeft_1 : decode mX12_placeLeft.2.1 1 = .ok (.getfield 77, 3) := by decide +kernel
theorem dX12_placeLeft_4 : decode mX12_placeLeft.2.1 4 = .ok (.iconst 5, 1) := by decide +kernel
theorem dX12_placeLeft_5 : decode mX12_placeLeft.2.1 5 = .ok (.aload_n 0, 1) := by decide +kernel
theorem dX12_placeLeft_6 : decode mX12_placeLeft.2.1 6 = .ok (.getfield 110, 3) := by decide +kernel
theorem dX12_placeLeft_9 : decode mX12_placeLeft.2.1 9 = .ok (.iload_n 1, 1) := by decide +kernel
theorem dX12_placeLeft_10 : decode mX12_placeLeft.2.1 10 = .ok (.iaload, 1) := by decide +kernel
theorem dX12_placeLeft_11 : decode mX12_placeLeft.2.1 11 = .ok (.imul, 1) := by decide +kernel
theorem dX12_placeLeft_12 : decode mX12_placeLeft.2.1 12 = .ok (.iload_n 2, 1) := by decide +kernel
theorem dX12_placeLeft_13 : decode mX12_placeLeft.2.1 13 = .ok (.iadd, 1) := by decide +kernel
theorem dX12_placeLeft_14 : decode mX12_placeLeft.2.1 14 = .ok (.iaload, 1) := by decide +kernel
theorem dX12_placeLeft_15 : decode mX12_placeLeft.2.1 15 = .ok (.ireturn, 1) := by decide +kernel
theorem dX12_stand_0 : decode mX12_stand.2.1 0 = .ok (.iload_n 1, 1) := by decide +kernel
theorem dX12_stand_1 : decode mX12_stand.2.1 1 = .ok (.iconst 0, 1) := by decide +kernel
theorem dX12_stand_2 : decode mX12_stand.2.1 2 = .ok (.iconst 4, 1) := by decide +kernel
theorem dX12_stand_3 : decode mX12_stand.2.1 3 = .ok (.invokestatic 367, 3) := by decide +kernel
theorem dX12_stand_6 : decode mX12_stand.2.1 6 = .ok (.ifCond .eq 11, 3) := by decide +kernel
theorem dX12_stand_9 : decode mX12_stand.2.1 9 = .ok (.aload_n 0, 1) := by decide +kernel
theorem dX12_stand_10 : decode mX12_stand.2.1 10 = .ok (.iload_n 3, 1) := by decide +kernel
theorem dX12_stand_11 : decode mX12_stand.2.1 11 = .ok (.invokevirtual 424, 3) := by decide +kernel
theorem dX12_stand_14 : decode mX12_stand.2.1 14 = .ok (.ifCond .ne 5, 3) := by decide +kernel
theorem dX12_stand_17 : decode mX12_stand.2.1 17 = .ok (.iconst (-1), 1) := by decide +kernel
theorem dX12_stand_18 : decode mX12_stand.2.1 18 = .ok (.ireturn, 1) := by decide +kernel
theorem dX12_stand_19 : decode mX12_stand.2.1 19 = .ok (.iconst 0, 1) := by decide +kernel
theorem dX12_stand_20 : decode mX12_stand.2.1 20 = .ok (.istore 4, 2) := by decide +kernel
theorem dX12_stand_22 : decode mX12_stand.2.1 22 = .ok (.iconst 0, 1) := by decide +kernel
theorem dX12_stand_23 : decode mX12_stand.2.1 23 = .ok (.istore 5, 2) := by decide +kernel
theorem dX12_stand_25 : decode mX12_stand.2.1 25 = .ok (.iload 5, 2) := by decide +kernel
theorem dX12_stand_27 : decode mX12_stand.2.1 27 = .ok (.aload_n 0, 1) := by decide +kernel
theorem dX12_stand_28 : decode mX12_stand.2.1 28 = .ok (.invokevirtual 364, 3) := by decide +kernel
theorem dX12_stand_31 : decode mX12_stand.2.1 31 = .ok (.if_icmp .ge 82, 3) := by decide +kernel
theorem dX12_stand_34 : decode mX12_stand.2.1 34 = .ok (.iconst 0, 1) := by decide +kernel
theorem dX12_stand_35 : decode mX12_stand.2.1 35 = .ok (.istore 6, 2) := by decide +kernel
theorem dX12_stand_37 : decode mX12_stand.2.1 37 = .ok (.iconst 0, 1) := by decide +kernel
theorem dX12_stand_38 : decode mX12_stand.2.1 38 = .ok (.istore 7, 2) := by decide +kernel
theorem dX12_stand_40 : decode mX12_stand.2.1 40 = .ok (.iload 7, 2) := by decide +kernel
theorem dX12_stand_42 : decode mX12_stand.2.1 42 = .ok (.aload_n 0, 1) := by decide +kernel
theorem dX12_stand_43 : decode mX12_stand.2.1 43 = .ok (.getfield 408, 3) := by decide +kernel
theorem dX12_stand_46 : decode mX12_stand.2.1 46 = .ok (.if_icmp .ge 31, 3) := by decide +kernel
theorem dX12_stand_49 : decode mX12_stand.2.1 49 = .ok (.iload 6, 2) := by decide +kernel
theorem dX12_stand_51 : decode mX12_stand.2.1 51 = .ok (.aload_n 0, 1) := by decide +kernel
theorem dX12_stand_52 : decode mX12_stand.2.1 52 = .ok (.iload 7, 2) := by decide +kernel
theorem dX12_stand_54 : decode mX12_stand.2.1 54 = .ok (.iload 5, 2) := by decide +kernel
theorem dX12_stand_56 : decode mX12_stand.2.1 56 = .ok (.invokevirtual 427, 3) := by decide +kernel
theorem dX12_stand_59 : decode mX12_stand.2.1 59 = .ok (.iload_n 1, 1) := by decide +kernel
theorem dX12_stand_60 : decode mX12_stand.2.1 60 = .ok (.if_icmp .ne 7, 3) := by decide +kernel
theorem dX12_stand_63 : decode mX12_stand.2.1 63 = .ok (.iconst 1, 1) := by decide +kernel
theorem dX12_stand_64 : decode mX12_stand.2.1 64 = .ok (.goto 4, 3) := by decide +kernel
theorem dX12_stand_67 : decode mX12_stand.2.1 67 = .ok (.iconst 0, 1) := by decide +kernel
theorem dX12_stand_68 : decode mX12_stand.2.1 68 = .ok (.iadd, 1) := by decide +kernel
theorem dX12_stand_69 : decode mX12_stand.2.1 69 = .ok (.istore 6, 2) := by decide +kernel
theorem dX12_stand_71 : decode mX12_stand.2.1 71 = .ok (.iinc 7 1, 3) := by decide +kernel
theorem dX12_stand_74 : decode mX12_stand.2.1 74 = .ok (.goto (-34), 3) := by decide +kernel
theorem dX12_stand_77 : decode mX12_stand.2.1 77 = .ok (.iload_n 2, 1) := by decide +kernel
theorem dX12_stand_78 : decode mX12_stand.2.1 78 = .ok (.ifCond .eq 11, 3) := by decide +kernel
theorem dX12_stand_81 : decode mX12_stand.2.1 81 = .ok (.iload 6, 2) := by decide +kernel
theorem dX12_stand_83 : decode mX12_stand.2.1 83 = .ok (.ifCond .le 24, 3) := by decide +kernel
theorem dX12_stand_86 : decode mX12_stand.2.1 86 = .ok (.goto 12, 3) := by decide +kernel
theorem dX12_stand_89 : decode mX12_stand.2.1 89 = .ok (.iload 6, 2) := by decide +kernel
theorem dX12_stand_91 : decode mX12_stand.2.1 91 = .ok (.aload_n 0, 1) := by decide +kernel
theorem dX12_stand_92 : decode mX12_stand.2.1 92 = .ok (.getfield 408, 3) := by decide +kernel
theorem dX12_stand_95 : decode mX12_stand.2.1 95 = .ok (.if_icmp .ne 12, 3) := by decide +kernel
theorem dX12_stand_98 : decode mX12_stand.2.1 98 = .ok (.iload 4, 2) := by decide +kernel
theorem dX12_stand_100 : decode mX12_stand.2.1 100 = .ok (.iconst 1, 1) := by decide +kernel
theorem dX12_stand_101 : decode mX12_stand.2.1 101 = .ok (.iload 5, 2) := by decide +kernel
theorem dX12_stand_103 : decode mX12_stand.2.1 103 = .ok (.ishl, 1) := by decide +kernel
theorem dX12_stand_104 : decode mX12_stand.2.1 104 = .ok (.ior, 1) := by decide +kernel
theorem dX12_stand_105 : decode mX12_stand.2.1 105 = .ok (.istore 4, 2) := by decide +kernel
theorem dX12_stand_107 : decode mX12_stand.2.1 107 = .ok (.iinc 5 1, 3) := by decide +kernel
theorem dX12_stand_110 : decode mX12_stand.2.1 110 = .ok (.goto (-85), 3) := by decide +kernel
theorem dX12_stand_113 : decode mX12_stand.2.1 113 = .ok (.iload 4, 2) := by decide +kernel
theorem dX12_stand_115 : decode mX12_stand.2.1 115 = .ok (.ireturn, 1) := by decide +kernel
theorem dX12_surely_0 : decode mX12_surely.2.1 0 = .ok (.aload_n 0, 1) := by decide +kernel
theorem dX12_surely_1 : decode mX12_surely.2.1 1 = .ok (.iload_n 1, 1) := by decide +kernel
theorem dX12_surely_2 : decode mX12_surely.2.1 2 = .ok (.iload_n 2, 1) := by decide +kernel
theorem dX12_surely_3 : decode mX12_surely.2.1 3 = .ok (.invokevirtual 433, 3) := by decide +kernel
theorem dX12_surely_6 : decode mX12_surely.2.1 6 = .ok (.ifCond .eq 20, 3) := by decide +kernel
theorem dX12_surely_9 : decode mX12_surely.2.1 9 = .ok (.aload_n 0, 1) := by decide +kernel
theorem dX12_surely_10 : decode mX12_surely.2.1 10 = .ok (.iload_n 3, 1) := by decide +kernel
theorem dX12_surely_11 : decode mX12_surely.2.1 11 = .ok (.invokevirtual 424, 3) := by decide +kernel
theorem dX12_surely_14 : decode mX12_surely.2.1 14 = .ok (.ifCond .eq 12, 3) := by decide +kernel
theorem dX12_surely_17 : decode mX12_surely.2.1 17 = .ok (.aload_n 0, 1) := by decide +kernel
theorem dX12_surely_18 : decode mX12_surely.2.1 18 = .ok (.iload_n 1, 1) := by decide +kernel
theorem dX12_surely_19 : decode mX12_surely.2.1 19 = .ok (.iload_n 2, 1) := by decide +kernel
theorem dX12_surely_20 : decode mX12_surely.2.1 20 = .ok (.invokevirtual 436, 3) := by decide +kernel
theorem dX12_surely_23 : decode mX12_surely.2.1 23 = .ok (.goto 4, 3) := by decide +kernel
theorem dX12_surely_26 : decode mX12_surely.2.1 26 = .ok (.iconst (-1), 1) := by decide +kernel
theorem dX12_surely_27 : decode mX12_surely.2.1 27 = .ok (.ireturn, 1) := by decide +kernel
theorem dX12_areTwo_0 : decode mX12_areTwo.2.1 0 = .ok (.aload_n 0, 1) := by decide +kernel
theorem dX12_areTwo_1 : decode mX12_areTwo.2.1 1 = .ok (.iload_n 1, 1) := by decide +kernel
theorem dX12_areTwo_2 : decode mX12_areTwo.2.1 2 = .ok (.invokevirtual 421, 3) := by decide +kernel
theorem dX12_areTwo_5 : decode mX12_areTwo.2.1 5 = .ok (.ifCond .eq 20, 3) := by decide +kernel
theorem dX12_areTwo_8 : decode mX12_areTwo.2.1 8 = .ok (.aload_n 0, 1) := by decide +kernel
theorem dX12_areTwo_9 : decode mX12_areTwo.2.1 9 = .ok (.iload_n 2, 1) := by decide +kernel
theorem dX12_areTwo_10 : decode mX12_areTwo.2.1 10 = .ok (.invokevirtual 421, 3) := by decide +kernel
theorem dX12_areTwo_13 : decode mX12_areTwo.2.1 13 = .ok (.ifCond .eq 12, 3) := by decide +kernel
theorem dX12_areTwo_16 : decode mX12_areTwo.2.1 16 = .ok (.iload_n 1, 1) := by decide +kernel
theorem dX12_areTwo_17 : decode mX12_areTwo.2.1 17 = .ok (.iload_n 2, 1) := by decide +kernel
theorem dX12_areTwo_18 : decode mX12_areTwo.2.1 18 = .ok (.if_icmp .eq 7, 3) := by decide +kernel
theorem dX12_areTwo_21 : decode mX12_areTwo.2.1 21 = .ok (.iconst 1, 1) := by decide +kernel
theorem dX12_areTwo_22 : decode mX12_areTwo.2.1 22 = .ok (.goto 4, 3) := by decide +kernel
theorem dX12_areTwo_25 : decode mX12_areTwo.2.1 25 = .ok (.iconst 0, 1) := by decide +kernel
theorem dX12_areTwo_26 : decode mX12_areTwo.2.1 26 = .ok (.ireturn, 1) := by decide +kernel
theorem dX12_sureOf_0 : decode mX12_sureOf.2.1 0 = .ok (.iconst 0, 1) := by decide +kernel
theorem dX12_sureOf_1 : decode mX12_sureOf.2.1 1 = .ok (.istore_n 3, 1) := by decide +kernel
theorem dX12_sureOf_2 : decode mX12_sureOf.2.1 2 = .ok (.iload_n 3, 1) := by decide +kernel
theorem dX12_sureOf_3 : decode mX12_sureOf.2.1 3 = .ok (.iconst 3, 1) := by decide +kernel
theorem dX12_sureOf_4 : decode mX12_sureOf.2.1 4 = .ok (.if_icmp .ge 25, 3) := by decide +kernel
theorem dX12_sureOf_7 : decode mX12_sureOf.2.1 7 = .ok (.aload_n 0, 1) := by decide +kernel
theorem dX12_sureOf_8 : decode mX12_sureOf.2.1 8 = .ok (.iload_n 1, 1) := by decide +kernel
theorem dX12_sureOf_9 : decode mX12_sureOf.2.1 9 = .ok (.iload_n 2, 1) := by decide +kernel
theorem dX12_sureOf_10 : decode mX12_sureOf.2.1 10 = .ok (.iload_n 3, 1) := by decide +kernel
theorem dX12_sureOf_11 : decode mX12_sureOf.2.1 11 = .ok (.invokevirtual 430, 3) := by decide +kernel
theorem dX12_sureOf_14 : decode mX12_sureOf.2.1 14 = .ok (.aload_n 0, 1) := by decide +kernel
theorem dX12_sureOf_15 : decode mX12_sureOf.2.1 15 = .ok (.getfield 408, 3) := by decide +kernel
theorem dX12_sureOf_18 : decode mX12_sureOf.2.1 18 = .ok (.if_icmp .ne 5, 3) := by decide +kernel
theorem dX12_sureOf_21 : decode mX12_sureOf.2.1 21 = .ok (.iload_n 3, 1) := by decide +kernel
theorem dX12_sureOf_22 : decode mX12_sureOf.2.1 22 = .ok (.ireturn, 1) := by decide +kernel
theorem dX12_sureOf_23 : decode mX12_sureOf.2.1 23 = .ok (.iinc 3 1, 3) := by decide +kernel
theorem dX12_sureOf_26 : decode mX12_sureOf.2.1 26 = .ok (.goto (-24), 3) := by decide +kernel
theorem dX12_sureOf_29 : decode mX12_sureOf.2.1 29 = .ok (.bipush (-2), 2) := by decide +kernel
theorem dX12_sureOf_31 : decode mX12_sureOf.2.1 31 = .ok (.ireturn, 1) := by decide +kernel
theorem dX12_howMany_0 : decode mX12_howMany.2.1 0 = .ok (.iconst 0, 1) := by decide +kernel
theorem dX12_howMany_1 : decode mX12_howMany.2.1 1 = .ok (.istore 4, 2) := by decide +kernel
theorem dX12_howMany_3 : decode mX12_howMany.2.1 3 = .ok (.iconst 0, 1) := by decide +kernel
theorem dX12_howMany_4 : decode mX12_howMany.2.1 4 = .ok (.istore 5, 2) := by decide +kernel
theorem dX12_howMany_6 : decode mX12_howMany.2.1 6 = .ok (.iload 5, 2) := by decide +kernel
theorem dX12_howMany_8 : decode mX12_howMany.2.1 8 = .ok (.aload_n 0, 1) := by decide +kernel
theorem dX12_howMany_9 : decode mX12_howMany.2.1 9 = .ok (.getfield 408, 3) := by decide +kernel
theorem dX12_howMany_12 : decode mX12_howMany.2.1 12 = .ok (.if_icmp .ge 36, 3) := by decide +kernel
theorem dX12_howMany_15 : decode mX12_howMany.2.1 15 = .ok (.iload 4, 2) := by decide +kernel
theorem dX12_howMany_17 : decode mX12_howMany.2.1 17 = .ok (.aload_n 0, 1) := by decide +kernel
theorem dX12_howMany_18 : decode mX12_howMany.2.1 18 = .ok (.aload_n 0, 1) := by decide +kernel
theorem dX12_howMany_19 : decode mX12_howMany.2.1 19 = .ok (.getfield 110, 3) := by decide +kernel
theorem dX12_howMany_22 : decode mX12_howMany.2.1 22 = .ok (.iload 5, 2) := by decide +kernel
theorem dX12_howMany_24 : decode mX12_howMany.2.1 24 = .ok (.iaload, 1) := by decide +kernel
theorem dX12_howMany_25 : decode mX12_howMany.2.1 25 = .ok (.iload_n 1, 1) := by decide +kernel
theorem dX12_howMany_26 : decode mX12_howMany.2.1 26 = .ok (.iload_n 2, 1) := by decide +kernel
theorem dX12_howMany_27 : decode mX12_howMany.2.1 27 = .ok (.invokevirtual 404, 3) := by decide +kernel
theorem dX12_howMany_30 : decode mX12_howMany.2.1 30 = .ok (.iload_n 3, 1) := by decide +kernel
theorem dX12_howMany_31 : decode mX12_howMany.2.1 31 = .ok (.if_icmp .ne 7, 3) := by decide +kernel
theorem dX12_howMany_34 : decode mX12_howMany.2.1 34 = .ok (.iconst 1, 1) := by decide +kernel
theorem dX12_howMany_35 : decode mX12_howMany.2.1 35 = .ok (.goto 4, 3) := by decide +kernel
theorem dX12_howMany_38 : decode mX12_howMany.2.1 38 = .ok (.iconst 0, 1) := by decide +kernel
theorem dX12_howMany_39 : decode mX12_howMany.2.1 39 = .ok (.iadd, 1) := by decide +kernel
theorem dX12_howMany_40 : decode mX12_howMany.2.1 40 = .ok (.istore 4, 2) := by decide +kernel
theorem dX12_howMany_42 : decode mX12_howMany.2.1 42 = .ok (.iinc 5 1, 3) := by decide +kernel
theorem dX12_howMany_45 : decode mX12_howMany.2.1 45 = .ok (.goto (-39), 3) := by decide +kernel
theorem dX12_howMany_48 : decode mX12_howMany.2.1 48 = .ok (.iload 4, 2) := by decide +kernel
theorem dX12_howMany_50 : decode mX12_howMany.2.1 50 = .ok (.ireturn, 1) := by decide +kernel
theorem dX12_fewest_0 : decode mX12_fewest.2.1 0 = .ok (.aload_n 0, 1) := by decide +kernel
theorem dX12_fewest_1 : decode mX12_fewest.2.1 1 = .ok (.iload_n 1, 1) := by decide +kernel
theorem dX12_fewest_2 : decode mX12_fewest.2.1 2 = .ok (.iload_n 2, 1) := by decide +kernel
theorem dX12_fewest_3 : decode mX12_fewest.2.1 3 = .ok (.invokevirtual 508, 3) := by decide +kernel
theorem dX12_fewest_6 : decode mX12_fewest.2.1 6 = .ok (.ifCond .ne 5, 3) := by decide +kernel
theorem dX12_fewest_9 : decode mX12_fewest.2.1 9 = .ok (.iconst (-1), 1) := by decide +kernel
theorem dX12_fewest_10 : decode mX12_fewest.2.1 10 = .ok (.ireturn, 1) := by decide +kernel
theorem dX12_fewest_11 : decode mX12_fewest.2.1 11 = .ok (.aload_n 0, 1) := by decide +kernel
theorem dX12_fewest_12 : decode mX12_fewest.2.1 12 = .ok (.iload_n 1, 1) := by decide +kernel
theorem dX12_fewest_13 : decode mX12_fewest.2.1 13 = .ok (.iload_n 2, 1) := by decide +kernel
theorem dX12_fewest_14 : decode mX12_fewest.2.1 14 = .ok (.iload_n 3, 1) := by decide +kernel
theorem dX12_fewest_15 : decode mX12_fewest.2.1 15 = .ok (.invokevirtual 511, 3) := by decide +kernel
theorem dX12_fewest_18 : decode mX12_fewest.2.1 18 = .ok (.ifCond .eq 11, 3) := by decide +kernel
theorem dX12_fewest_21 : decode mX12_fewest.2.1 21 = .ok (.aload_n 0, 1) := by decide +kernel
theorem dX12_fewest_22 : decode mX12_fewest.2.1 22 = .ok (.iconst 0, 1) := by decide +kernel
theorem dX12_fewest_23 : decode mX12_fewest.2.1 23 = .ok (.invokevirtual 514, 3) := by decide +kernel
theorem dX12_fewest_26 : decode mX12_fewest.2.1 26 = .ok (.goto 5, 3) := by decide +kernel
theorem dX12_fewest_29 : decode mX12_fewest.2.1 29 = .ok (.bipush (-2), 2) := by decide +kernel
theorem dX12_fewest_31 : decode mX12_fewest.2.1 31 = .ok (.ireturn, 1) := by decide +kernel
theorem dX12_isGoal_0 : decode mX12_isGoal.2.1 0 = .ok (.iload_n 1, 1) := by decide +kernel
theorem dX12_isGoal_1 : decode mX12_isGoal.2.1 1 = .ok (.ifCond .eq 30, 3) := by decide +kernel
theorem dX12_isGoal_4 : decode mX12_isGoal.2.1 4 = .ok (.iload_n 1, 1) := by decide +kernel
theorem dX12_isGoal_5 : decode mX12_isGoal.2.1 5 = .ok (.iconst 1, 1) := by decide +kernel
theorem dX12_isGoal_6 : decode mX12_isGoal.2.1 6 = .ok (.if_icmp .ne 12, 3) := by decide +kernel
theorem dX12_isGoal_9 : decode mX12_isGoal.2.1 9 = .ok (.iload_n 2, 1) := by decide +kernel
theorem dX12_isGoal_10 : decode mX12_isGoal.2.1 10 = .ok (.iconst 0, 1) := by decide +kernel
theorem dX12_isGoal_11 : decode mX12_isGoal.2.1 11 = .ok (.iconst 4, 1) := by decide +kernel
theorem dX12_isGoal_12 : decode mX12_isGoal.2.1 12 = .ok (.invokestatic 367, 3) := by decide +kernel
theorem dX12_isGoal_15 : decode mX12_isGoal.2.1 15 = .ok (.ifCond .ne 16, 3) := by decide +kernel
theorem dX12_isGoal_18 : decode mX12_isGoal.2.1 18 = .ok (.iload_n 1, 1) := by decide +kernel
theorem dX12_isGoal_19 : decode mX12_isGoal.2.1 19 = .ok (.iconst 2, 1) := by decide +kernel
theorem dX12_isGoal_20 : decode mX12_isGoal.2.1 20 = .ok (.if_icmp .ne 15, 3) := by decide +kernel
theorem dX12_isGoal_23 : decode mX12_isGoal.2.1 23 = .ok (.aload_n 0, 1) := by decide +kernel
theorem dX12_isGoal_24 : decode mX12_isGoal.2.1 24 = .ok (.iload_n 2, 1) := by decide +kernel
theorem dX12_isGoal_25 : decode mX12_isGoal.2.1 25 = .ok (.invokevirtual 421, 3) := by decide +kernel
theorem dX12_isGoal_28 : decode mX12_isGoal.2.1 28 = .ok (.ifCond .eq 7, 3) := by decide +kernel
theorem dX12_isGoal_31 : decode mX12_isGoal.2.1 31 = .ok (.iconst 1, 1) := by decide +kernel
theorem dX12_isGoal_32 : decode mX12_isGoal.2.1 32 = .ok (.goto 4, 3) := by decide +kernel
theorem dX12_isGoal_35 : decode mX12_isGoal.2.1 35 = .ok (.iconst 0, 1) := by decide +kernel
theorem dX12_isGoal_36 : decode mX12_isGoal.2.1 36 = .ok (.ireturn, 1) := by decide +kernel
theorem dX12_layGoal_0 : decode mX12_layGoal.2.1 0 = .ok (.aload_n 0, 1) := by decide +kernel
theorem dX12_layGoal_1 : decode mX12_layGoal.2.1 1 = .ok (.iconst 0, 1) := by decide +kernel
theorem dX12_layGoal_2 : decode mX12_layGoal.2.1 2 = .ok (.iload_n 3, 1) := by decide +kernel
theorem dX12_layGoal_3 : decode mX12_layGoal.2.1 3 = .ok (.invokevirtual 414, 3) := by decide +kernel
theorem dX12_layGoal_6 : decode mX12_layGoal.2.1 6 = .ok (.aload_n 0, 1) := by decide +kernel
theorem dX12_layGoal_7 : decode mX12_layGoal.2.1 7 = .ok (.getfield 408, 3) := by decide +kernel
theorem dX12_layGoal_10 : decode mX12_layGoal.2.1 10 = .ok (.bipush 120, 2) := by decide +kernel
theorem dX12_layGoal_12 : decode mX12_layGoal.2.1 12 = .ok (.if_icmp .le 5, 3) := by decide +kernel
theorem dX12_layGoal_15 : decode mX12_layGoal.2.1 15 = .ok (.iconst 0, 1) := by decide +kernel
theorem dX12_layGoal_16 : decode mX12_layGoal.2.1 16 = .ok (.ireturn, 1) := by decide +kernel
theorem dX12_layGoal_17 : decode mX12_layGoal.2.1 17 = .ok (.aload_n 0, 1) := by decide +kernel
theorem dX12_layGoal_18 : decode mX12_layGoal.2.1 18 = .ok (.invokevirtual 502, 3) := by decide +kernel
theorem dX12_layGoal_21 : decode mX12_layGoal.2.1 21 = .ok (.aload_n 0, 1) := by decide +kernel
theorem dX12_layGoal_22 : decode mX12_layGoal.2.1 22 = .ok (.iload_n 1, 1) := by decide +kernel
theorem dX12_layGoal_23 : decode mX12_layGoal.2.1 23 = .ok (.iload_n 2, 1) := by decide +kernel
theorem dX12_layGoal_24 : decode mX12_layGoal.2.1 24 = .ok (.invokevirtual 505, 3) := by decide +kernel
theorem dX12_layGoal_27 : decode mX12_layGoal.2.1 27 = .ok (.iconst 1, 1) := by decide +kernel
theorem dX12_layGoal_28 : decode mX12_layGoal.2.1 28 = .ok (.ireturn, 1) := by decide +kernel
theorem dX12_layPairs_0 : decode mX12_layPairs.2.1 0 = .ok (.aload_n 0, 1) := by decide +kernel
theorem dX12_layPairs_1 : decode mX12_layPairs.2.1 1 = .ok (.iconst 0, 1) := by decide +kernel
theorem dX12_layPairs_2 : decode mX12_layPairs.2.1 2 = .ok (.putfield 439, 3) := by decide +kernel
theorem dX12_layPairs_5 : decode mX12_layPairs.2.1 5 = .ok (.iconst 0, 1) := by decide +kernel
theorem dX12_layPairs_6 : decode mX12_layPairs.2.1 6 = .ok (.istore_n 1, 1) := by decide +kernel
theorem dX12_layPairs_7 : decode mX12_layPairs.2.1 7 = .ok (.iload_n 1, 1) := by decide +kernel
theorem dX12_layPairs_8 : decode mX12_layPairs.2.1 8 = .ok (.aload_n 0, 1) := by decide +kernel
theorem dX12_layPairs_9 : decode mX12_layPairs.2.1 9 = .ok (.invokevirtual 364, 3) := by decide +kernel
theorem dX12_layPairs_12 : decode mX12_layPairs.2.1 12 = .ok (.if_icmp .ge 57, 3) := by decide +kernel
theorem dX12_layPairs_15 : decode mX12_layPairs.2.1 15 = .ok (.iload_n 1, 1) := by decide +kernel
theorem dX12_layPairs_16 : decode mX12_layPairs.2.1 16 = .ok (.iconst 1, 1) := by decide +kernel
theorem dX12_layPairs_17 : decode mX12_layPairs.2.1 17 = .ok (.iadd, 1) := by decide +kernel
theorem dX12_layPairs_18 : decode mX12_layPairs.2.1 18 = .ok (.istore_n 2, 1) := by decide +kernel
theorem dX12_layPairs_19 : decode mX12_layPairs.2.1 19 = .ok (.iload_n 2, 1) := by decide +kernel
theorem dX12_layPairs_20 : decode mX12_layPairs.2.1 20 = .ok (.aload_n 0, 1) := by decide +kernel
theorem dX12_layPairs_21 : decode mX12_layPairs.2.1 21 = .ok (.invokevirtual 364, 3) := by decide +kernel
theorem dX12_layPairs_24 : decode mX12_layPairs.2.1 24 = .ok (.if_icmp .ge 39, 3) := by decide +kernel
theorem dX12_layPairs_27 : decode mX12_layPairs.2.1 27 = .ok (.aload_n 0, 1) := by decide +kernel
theorem dX12_layPairs_28 : decode mX12_layPairs.2.1 28 = .ok (.getfield 125, 3) := by decide +kernel
theorem dX12_layPairs_31 : decode mX12_layPairs.2.1 31 = .ok (.aload_n 0, 1) := by decide +kernel
theorem dX12_layPairs_32 : decode mX12_layPairs.2.1 32 = .ok (.getfield 439, 3) := by decide +kernel
theorem dX12_layPairs_35 : decode mX12_layPairs.2.1 35 = .ok (.iload_n 1, 1) := by decide +kernel
theorem dX12_layPairs_36 : decode mX12_layPairs.2.1 36 = .ok (.iastore, 1) := by decide +kernel
theorem dX12_layPairs_37 : decode mX12_layPairs.2.1 37 = .ok (.aload_n 0, 1) := by decide +kernel
theorem dX12_layPairs_38 : decode mX12_layPairs.2.1 38 = .ok (.getfield 128, 3) := by decide +kernel
theorem dX12_layPairs_41 : decode mX12_layPairs.2.1 41 = .ok (.aload_n 0, 1) := by decide +kernel
theorem dX12_layPairs_42 : decode mX12_layPairs.2.1 42 = .ok (.getfield 439, 3) := by decide +kernel
theorem dX12_layPairs_45 : decode mX12_layPairs.2.1 45 = .ok (.iload_n 2, 1) := by decide +kernel
theorem dX12_layPairs_46 : decode mX12_layPairs.2.1 46 = .ok (.iastore, 1) := by decide +kernel
theorem dX12_layPairs_47 : decode mX12_layPairs.2.1 47 = .ok (.aload_n 0, 1) := by decide +kernel
theorem dX12_layPairs_48 : decode mX12_layPairs.2.1 48 = .ok (.dup, 1) := by decide +kernel
theorem dX12_layPairs_49 : decode mX12_layPairs.2.1 49 = .ok (.getfield 439, 3) := by decide +kernel
theorem dX12_layPairs_52 : decode mX12_layPairs.2.1 52 = .ok (.iconst 1, 1) := by decide +kernel
theorem dX12_layPairs_53 : decode mX12_layPairs.2.1 53 = .ok (.iadd, 1) := by decide +kernel
theorem dX12_layPairs_54 : decode mX12_layPairs.2.1 54 = .ok (.putfield 439, 3) := by decide +kernel
theorem dX12_layPairs_57 : decode mX12_layPairs.2.1 57 = .ok (.iinc 2 1, 3) := by decide +kernel
theorem dX12_layPairs_60 : decode mX12_layPairs.2.1 60 = .ok (.goto (-41), 3) := by decide +kernel
theorem dX12_layPairs_63 : decode mX12_layPairs.2.1 63 = .ok (.iinc 1 1, 3) := by decide +kernel
theorem dX12_layPairs_66 : decode mX12_layPairs.2.1 66 = .ok (.goto (-59), 3) := by decide +kernel
theorem dX12_layPairs_69 : decode mX12_layPairs.2.1 69 = .ok (.iconst 0, 1) := by decide +kernel
theorem dX12_layPairs_70 : decode mX12_layPairs.2.1 70 = .ok (.istore_n 1, 1) := by decide +kernel
theorem dX12_layPairs_71 : decode mX12_layPairs.2.1 71 = .ok (.iload_n 1, 1) := by decide +kernel
theorem dX12_layPairs_72 : decode mX12_layPairs.2.1 72 = .ok (.aload_n 0, 1) := by decide +kernel
theorem dX12_layPairs_73 : decode mX12_layPairs.2.1 73 = .ok (.getfield 439, 3) := by decide +kernel
theorem dX12_layPairs_76 : decode mX12_layPairs.2.1 76 = .ok (.if_icmp .ge 123, 3) := by decide +kernel
theorem dX12_layPairs_79 : decode mX12_layPairs.2.1 79 = .ok (.iconst 0, 1) := by decide +kernel
theorem dX12_layPairs_80 : decode mX12_layPairs.2.1 80 = .ok (.istore_n 2, 1) := by decide +kernel
theorem dX12_layPairs_81 : decode mX12_layPairs.2.1 81 = .ok (.iload_n 2, 1) := by decide +kernel
theorem dX12_layPairs_82 : decode mX12_layPairs.2.1 82 = .ok (.iconst 3, 1) := by decide +kernel
theorem dX12_layPairs_83 : decode mX12_layPairs.2.1 83 = .ok (.if_icmp .ge 31, 3) := by decide +kernel
theorem dX12_layPairs_86 : decode mX12_layPairs.2.1 86 = .ok (.aload_n 0, 1) := by decide +kernel
theorem dX12_layPairs_87 : decode mX12_layPairs.2.1 87 = .ok (.getfield 131, 3) := by decide +kernel
theorem dX12_layPairs_90 : decode mX12_layPairs.2.1 90 = .ok (.iconst 3, 1) := by decide +kernel
theorem dX12_layPairs_91 : decode mX12_layPairs.2.1 91 = .ok (.iload_n 1, 1) := by decide +kernel
theorem dX12_layPairs_92 : decode mX12_layPairs.2.1 92 = .ok (.imul, 1) := by decide +kernel
theorem dX12_layPairs_93 : decode mX12_layPairs.2.1 93 = .ok (.iload_n 2, 1) := by decide +kernel
theorem dX12_layPairs_94 : decode mX12_layPairs.2.1 94 = .ok (.iadd, 1) := by decide +kernel
theorem dX12_layPairs_95 : decode mX12_layPairs.2.1 95 = .ok (.lconst 0, 1) := by decide +kernel
theorem dX12_layPairs_96 : decode mX12_layPairs.2.1 96 = .ok (.lastore, 1) := by decide +kernel
theorem dX12_layPairs_97 : decode mX12_layPairs.2.1 97 = .ok (.aload_n 0, 1) := by decide +kernel
theorem dX12_layPairs_98 : decode mX12_layPairs.2.1 98 = .ok (.getfield 134, 3) := by decide +kernel
theorem dX12_layPairs_101 : decode mX12_layPairs.2.1 101 = .ok (.iconst 3, 1) := by decide +kernel
theorem dX12_layPairs_102 : decode mX12_layPairs.2.1 102 = .ok (.iload_n 1, 1) := by decide +kernel
theorem dX12_layPairs_103 : decode mX12_layPairs.2.1 103 = .ok (.imul, 1) := by decide +kernel
theorem dX12_layPairs_104 : decode mX12_layPairs.2.1 104 = .ok (.iload_n 2, 1) := by decide +kernel
theorem dX12_layPairs_105 : decode mX12_layPairs.2.1 105 = .ok (.iadd, 1) := by decide +kernel
theorem dX12_layPairs_106 : decode mX12_layPairs.2.1 106 = .ok (.lconst 0, 1) := by decide +kernel
theorem dX12_layPairs_107 : decode mX12_layPairs.2.1 107 = .ok (.lastore, 1) := by decide +kernel
theorem dX12_layPairs_108 : decode mX12_layPairs.2.1 108 = .ok (.iinc 2 1, 3) := by decide +kernel
theorem dX12_layPairs_111 : decode mX12_layPairs.2.1 111 = .ok (.goto (-30), 3) := by decide +kernel
theorem dX12_layPairs_114 : decode mX12_layPairs.2.1 114 = .ok (.iconst 0, 1) := by decide +kernel
theorem dX12_layPairs_115 : decode mX12_layPairs.2.1 115 = .ok (.istore_n 2, 1) := by decide +kernel
theorem dX12_layPairs_116 : decode mX12_layPairs.2.1 116 = .ok (.iload_n 2, 1) := by decide +kernel
theorem dX12_layPairs_117 : decode mX12_layPairs.2.1 117 = .ok (.aload_n 0, 1) := by decide +kernel
theorem dX12_layPairs_118 : decode mX12_layPairs.2.1 118 = .ok (.getfield 408, 3) := by decide +kernel
theorem dX12_layPairs_121 : decode mX12_layPairs.2.1 121 = .ok (.if_icmp .ge 72, 3) := by decide +kernel
theorem dX12_layPairs_124 : decode mX12_layPairs.2.1 124 = .ok (.iconst 3, 1) := by decide +kernel
theorem dX12_layPairs_125 : decode mX12_layPairs.2.1 125 = .ok (.iload_n 1, 1) := by decide +kernel
theorem dX12_layPairs_126 : decode mX12_layPairs.2.1 126 = .ok (.imul, 1) := by decide +kernel
theorem dX12_layPairs_127 : decode mX12_layPairs.2.1 127 = .ok (.aload_n 0, 1) := by decide +kernel
theorem dX12_layPairs_128 : decode mX12_layPairs.2.1 128 = .ok (.aload_n 0, 1) := by decide +kernel
theorem dX12_layPairs_129 : decode mX12_layPairs.2.1 129 = .ok (.getfield 110, 3) := by decide +kernel
theorem dX12_layPairs_132 : decode mX12_layPairs.2.1 132 = .ok (.iload_n 2, 1) := by decide +kernel
theorem dX12_layPairs_133 : decode mX12_layPairs.2.1 133 = .ok (.iaload, 1) := by decide +kernel
theorem dX12_layPairs_134 : decode mX12_layPairs.2.1 134 = .ok (.aload_n 0, 1) := by decide +kernel
theorem dX12_layPairs_135 : decode mX12_layPairs.2.1 135 = .ok (.getfield 125, 3) := by decide +kernel
theorem dX12_layPairs_138 : decode mX12_layPairs.2.1 138 = .ok (.iload_n 1, 1) := by decide +kernel
theorem dX12_layPairs_139 : decode mX12_layPairs.2.1 139 = .ok (.iaload, 1) := by decide +kernel
theorem dX12_layPairs_140 : decode mX12_layPairs.2.1 140 = .ok (.aload_n 0, 1) := by decide +kernel
theorem dX12_layPairs_141 : decode mX12_layPairs.2.1 141 = .ok (.getfield 128, 3) := by decide +kernel
theorem dX12_layPairs_144 : decode mX12_layPairs.2.1 144 = .ok (.iload_n 1, 1) := by decide +kernel
theorem dX12_layPairs_145 : decode mX12_layPairs.2.1 145 = .ok (.iaload, 1) := by decide +kernel
theorem dX12_layPairs_146 : decode mX12_layPairs.2.1 146 = .ok (.invokevirtual 404, 3) := by decide +kernel
theorem dX12_layPairs_149 : decode mX12_layPairs.2.1 149 = .ok (.iadd, 1) := by decide +kernel
theorem dX12_layPairs_150 : decode mX12_layPairs.2.1 150 = .ok (.istore_n 3, 1) := by decide +kernel
theorem dX12_layPairs_151 : decode mX12_layPairs.2.1 151 = .ok (.iload_n 2, 1) := by decide +kernel
theorem dX12_layPairs_152 : decode mX12_layPairs.2.1 152 = .ok (.bipush 60, 2) := by decide +kernel
theorem dX12_layPairs_154 : decode mX12_layPairs.2.1 154 = .ok (.if_icmp .ge 18, 3) := by decide +kernel
theorem dX12_layPairs_157 : decode mX12_layPairs.2.1 157 = .ok (.aload_n 0, 1) := by decide +kernel
theorem dX12_layPairs_158 : decode mX12_layPairs.2.1 158 = .ok (.getfield 131, 3) := by decide +kernel
theorem dX12_layPairs_161 : decode mX12_layPairs.2.1 161 = .ok (.iload_n 3, 1) := by decide +kernel
theorem dX12_layPairs_162 : decode mX12_layPairs.2.1 162 = .ok (.dup2, 1) := by decide +kernel
theorem dX12_layPairs_163 : decode mX12_layPairs.2.1 163 = .ok (.laload, 1) := by decide +kernel
theorem dX12_layPairs_164 : decode mX12_layPairs.2.1 164 = .ok (.lconst 1, 1) := by decide +kernel
theorem dX12_layPairs_165 : decode mX12_layPairs.2.1 165 = .ok (.iload_n 2, 1) := by decide +kernel
theorem dX12_layPairs_166 : decode mX12_layPairs.2.1 166 = .ok (.lshl, 1) := by decide +kernel
theorem dX12_layPairs_167 : decode mX12_layPairs.2.1 167 = .ok (.lor, 1) := by decide +kernel
theorem dX12_layPairs_168 : decode mX12_layPairs.2.1 168 = .ok (.lastore, 1) := by decide +kernel
theorem dX12_layPairs_169 : decode mX12_layPairs.2.1 169 = .ok (.goto 18, 3) := by decide +kernel
theorem dX12_layPairs_172 : decode mX12_layPairs.2.1 172 = .ok (.aload_n 0, 1) := by decide +kernel
theorem dX12_layPairs_173 : decode mX12_layPairs.2.1 173 = .ok (.getfield 134, 3) := by decide +kernel
theorem dX12_layPairs_176 : decode mX12_layPairs.2.1 176 = .ok (.iload_n 3, 1) := by decide +kernel
theorem dX12_layPairs_177 : decode mX12_layPairs.2.1 177 = .ok (.dup2, 1) := by decide +kernel
theorem dX12_layPairs_178 : decode mX12_layPairs.2.1 178 = .ok (.laload, 1) := by decide +kernel
theorem dX12_layPairs_179 : decode mX12_layPairs.2.1 179 = .ok (.lconst 1, 1) := by decide +kernel
theorem dX12_layPairs_180 : decode mX12_layPairs.2.1 180 = .ok (.iload_n 2, 1) := by decide +kernel
theorem dX12_layPairs_181 : decode mX12_layPairs.2.1 181 = .ok (.bipush 60, 2) := by decide +kernel
theorem dX12_layPairs_183 : decode mX12_layPairs.2.1 183 = .ok (.isub, 1) := by decide +kernel
theorem dX12_layPairs_184 : decode mX12_layPairs.2.1 184 = .ok (.lshl, 1) := by decide +kernel
theorem dX12_layPairs_185 : decode mX12_layPairs.2.1 185 = .ok (.lor, 1) := by decide +kernel
theorem dX12_layPairs_186 : decode mX12_layPairs.2.1 186 = .ok (.lastore, 1) := by decide +kernel
theorem dX12_layPairs_187 : decode mX12_layPairs.2.1 187 = .ok (.iinc 2 1, 3) := by decide +kernel
theorem dX12_layPairs_190 : decode mX12_layPairs.2.1 190 = .ok (.goto (-74), 3) := by decide +kernel
theorem dX12_layPairs_193 : decode mX12_layPairs.2.1 193 = .ok (.iinc 1 1, 3) := by decide +kernel
theorem dX12_layPairs_196 : decode mX12_layPairs.2.1 196 = .ok (.goto (-125), 3) := by decide +kernel
theorem dX12_layPairs_199 : decode mX12_layPairs.2.1 199 = .ok (.return_, 1) := by decide +kernel
theorem dX12_layGoals_0 : decode mX12_layGoals.2.1 0 = .ok (.iconst 0, 1) := by decide +kernel
theorem dX12_layGoals_1 : decode mX12_layGoals.2.1 1 = .ok (.istore_n 3, 1) := by decide +kernel
theorem dX12_layGoals_2 : decode mX12_layGoals.2.1 2 = .ok (.iload_n 3, 1) := by decide +kernel
theorem dX12_layGoals_3 : decode mX12_layGoals.2.1 3 = .ok (.aload_n 0, 1) := by decide +kernel
theorem dX12_layGoals_4 : decode mX12_layGoals.2.1 4 = .ok (.getfield 408, 3) := by decide +kernel
theorem dX12_layGoals_7 : decode mX12_layGoals.2.1 7 = .ok (.if_icmp .ge 83, 3) := by decide +kernel
theorem dX12_layGoals_10 : decode mX12_layGoals.2.1 10 = .ok (.iload_n 3, 1) := by decide +kernel
theorem dX12_layGoals_11 : decode mX12_layGoals.2.1 11 = .ok (.istore 4, 2) := by decide +kernel
theorem dX12_layGoals_13 : decode mX12_layGoals.2.1 13 = .ok (.iload_n 1, 1) := by decide +kernel
theorem dX12_layGoals_14 : decode mX12_layGoals.2.1 14 = .ok (.iconst 2, 1) := by decide +kernel
theorem dX12_layGoals_15 : decode mX12_layGoals.2.1 15 = .ok (.if_icmp .ne 11, 3) := by decide +kernel
theorem dX12_layGoals_18 : decode mX12_layGoals.2.1 18 = .ok (.aload_n 0, 1) := by decide +kernel
theorem dX12_layGoals_19 : decode mX12_layGoals.2.1 19 = .ok (.iload_n 3, 1) := by decide +kernel
theorem dX12_layGoals_20 : decode mX12_layGoals.2.1 20 = .ok (.iload_n 2, 1) := by decide +kernel
theorem dX12_layGoals_21 : decode mX12_layGoals.2.1 21 = .ok (.invokevirtual 427, 3) := by decide +kernel
theorem dX12_layGoals_24 : decode mX12_layGoals.2.1 24 = .ok (.istore 4, 2) := by decide +kernel
theorem dX12_layGoals_26 : decode mX12_layGoals.2.1 26 = .ok (.iload_n 1, 1) := by decide +kernel
theorem dX12_layGoals_27 : decode mX12_layGoals.2.1 27 = .ok (.iconst 1, 1) := by decide +kernel
theorem dX12_layGoals_28 : decode mX12_layGoals.2.1 28 = .ok (.if_icmp .ne 48, 3) := by decide +kernel
theorem dX12_layGoals_31 : decode mX12_layGoals.2.1 31 = .ok (.iconst 0, 1) := by decide +kernel
theorem dX12_layGoals_32 : decode mX12_layGoals.2.1 32 = .ok (.istore 4, 2) := by decide +kernel
theorem dX12_layGoals_34 : decode mX12_layGoals.2.1 34 = .ok (.iconst 0, 1) := by decide +kernel
theorem dX12_layGoals_35 : decode mX12_layGoals.2.1 35 = .ok (.istore 5, 2) := by decide +kernel
theorem dX12_layGoals_37 : decode mX12_layGoals.2.1 37 = .ok (.iload 5, 2) := by decide +kernel
theorem dX12_layGoals_39 : decode mX12_layGoals.2.1 39 = .ok (.aload_n 0, 1) := by decide +kernel
theorem dX12_layGoals_40 : decode mX12_layGoals.2.1 40 = .ok (.invokevirtual 364, 3) := by decide +kernel
theorem dX12_layGoals_43 : decode mX12_layGoals.2.1 43 = .ok (.if_icmp .ge 33, 3) := by decide +kernel
theorem dX12_layGoals_46 : decode mX12_layGoals.2.1 46 = .ok (.iload 4, 2) := by decide +kernel
theorem dX12_layGoals_48 : decode mX12_layGoals.2.1 48 = .ok (.aload_n 0, 1) := by decide +kernel
theorem dX12_layGoals_49 : decode mX12_layGoals.2.1 49 = .ok (.iload_n 3, 1) := by decide +kernel
theorem dX12_layGoals_50 : decode mX12_layGoals.2.1 50 = .ok (.iload 5, 2) := by decide +kernel
theorem dX12_layGoals_52 : decode mX12_layGoals.2.1 52 = .ok (.invokevirtual 427, 3) := by decide +kernel
theorem dX12_layGoals_55 : decode mX12_layGoals.2.1 55 = .ok (.iload_n 2, 1) := by decide +kernel
theorem dX12_layGoals_56 : decode mX12_layGoals.2.1 56 = .ok (.if_icmp .ne 10, 3) := by decide +kernel
theorem dX12_layGoals_59 : decode mX12_layGoals.2.1 59 = .ok (.iconst 1, 1) := by decide +kernel
theorem dX12_layGoals_60 : decode mX12_layGoals.2.1 60 = .ok (.iload 5, 2) := by decide +kernel
theorem dX12_layGoals_62 : decode mX12_layGoals.2.1 62 = .ok (.ishl, 1) := by decide +kernel
theorem dX12_layGoals_63 : decode mX12_layGoals.2.1 63 = .ok (.goto 4, 3) := by decide +kernel
theorem dX12_layGoals_66 : decode mX12_layGoals.2.1 66 = .ok (.iconst 0, 1) := by decide +kernel
theorem dX12_layGoals_67 : decode mX12_layGoals.2.1 67 = .ok (.ior, 1) := by decide +kernel
theorem dX12_layGoals_68 : decode mX12_layGoals.2.1 68 = .ok (.istore 4, 2) := by decide +kernel
theorem dX12_layGoals_70 : decode mX12_layGoals.2.1 70 = .ok (.iinc 5 1, 3) := by decide +kernel
theorem dX12_layGoals_73 : decode mX12_layGoals.2.1 73 = .ok (.goto (-36), 3) := by decide +kernel
theorem dX12_layGoals_76 : decode mX12_layGoals.2.1 76 = .ok (.aload_n 0, 1) := by decide +kernel
theorem dX12_layGoals_77 : decode mX12_layGoals.2.1 77 = .ok (.getfield 113, 3) := by decide +kernel
theorem dX12_layGoals_80 : decode mX12_layGoals.2.1 80 = .ok (.iload_n 3, 1) := by decide +kernel
theorem dX12_layGoals_81 : decode mX12_layGoals.2.1 81 = .ok (.iload 4, 2) := by decide +kernel
theorem dX12_layGoals_83 : decode mX12_layGoals.2.1 83 = .ok (.iastore, 1) := by decide +kernel
theorem dX12_layGoals_84 : decode mX12_layGoals.2.1 84 = .ok (.iinc 3 1, 3) := by decide +kernel
theorem dX12_layGoals_87 : decode mX12_layGoals.2.1 87 = .ok (.goto (-85), 3) := by decide +kernel
theorem dX12_layGoals_90 : decode mX12_layGoals.2.1 90 = .ok (.return_, 1) := by decide +kernel
theorem bX12_closes_0 {d : Nat} {g : xSt} {r : Option Value × xSt} {a1 : Int32} (W : xWf g) (hi17 : vp_in ((xI g 113 29) - 1) 12) (hi24 : vp_in ((xI g 113 29) - 1) 12) (hi27 : vp_in ((3 * (xI g 132 ((xI g 113 29) - 1).toNatClampNeg)) + (xI g 133 ((xI g 113 29) - 1).toNatClampNeg)) 360) (hi34 : vp_in ((xI g 113 29) - 1) 12) (hi37 : vp_in ((xI g 113 29) - 1) 12) (hi43 : vp_in ((xI g 113 29) - 1) 12) (k1 : (xI (xWI (xWI g 131 ((3 * (xI g 132 ((xI g 113 29) - 1).toNatClampNeg)) + (xI g 133 ((xI g 113 29) - 1).toNatClampNeg)).toNatClampNeg a1) 133 ((xI g 113 29) - 1).toNatClampNeg ((xI g 133 ((xI g 113 29) - 1).toNatClampNeg) + 1)) 133 ((xI g 113 29) - 1).toNatClampNeg) = 1 → xX (d + 1) mX12_closes 67 [some (.ref 113), none, none] [] (xWI (xWI g 131 ((3 * (xI g 132 ((xI g 113 29) - 1).toNatClampNeg)) + (xI g 133 ((xI g 113 29) - 1).toNatClampNeg)).toNatClampNeg a1) 133 ((xI g 113 29) - 1).toNatClampNeg ((xI g 133 ((xI g 113 29) - 1).toNatClampNeg) + 1)) = some r) (k2 : ¬ ((xI (xWI (xWI g 131 ((3 * (xI g 132 ((xI g 113 29) - 1).toNatClampNeg)) + (xI g 133 ((xI g 113 29) - 1).toNatClampNeg)).toNatClampNeg a1) 133 ((xI g 113 29) - 1).toNatClampNeg ((xI g 133 ((xI g 113 29) - 1).toNatClampNeg) + 1)) 133 ((xI g 113 29) - 1).toNatClampNeg) = 1) → xX (d + 1) mX12_closes 48 [some (.ref 113), none, some (.int ((xI g 113 29) - 1))] [] (xWI (xWI g 131 ((3 * (xI g 132 ((xI g 113 29) - 1).toNatClampNeg)) + (xI g 133 ((xI g 113 29) - 1).toNatClampNeg)).toNatClampNeg a1) 133 ((xI g 113 29) - 1).toNatClampNeg ((xI g 133 ((xI g 113 29) - 1).toNatClampNeg) + 1)) = some r) : xX (d + 1) mX12_closes 0 [some (.ref 113), some (.int a1), none] [] g = some r :=
  Y_aload_n dX12_closes_0 rfl <| Y_getI dX12_closes_1 f_11_352 ft_11_29 (xis W 113 11 s_113 (Nat.le_of_ble_eq_true rfl)) <| Y_iconst 1 dX12_closes_4 ic_1 <| Y_isub dX12_closes_5 <| Y_istore_n dX12_closes_6 rfl rfl <| Y_aload_n dX12_closes_7 rfl <| Y_getR dX12_closes_8 f_11_68 (by rw [ft_11_26]; rfl) (xis W 113 11 s_113 (Nat.le_of_ble_eq_true rfl)) (xptr W 113 26 p_113_26) <| Y_iconst 3 dX12_closes_11 ic_3 <| Y_aload_n dX12_closes_12 rfl <| Y_getR dX12_closes_13 f_11_71 (by rw [ft_11_27]; rfl) (xis W 113 11 s_113 (Nat.le_of_ble_eq_true rfl)) (xptr W 113 27 p_113_27) <| Y_iload_n dX12_closes_16 rfl <| Y_iald dX12_closes_17 (xarr W (o := 132) s_132 (Nat.le_of_ble_eq_true rfl)) hi17 <| Y_imul dX12_closes_18 <| Y_aload_n dX12_closes_19 rfl <| Y_getR dX12_closes_20 f_11_74 (by rw [ft_11_28]; rfl) (xis W 113 11 s_113 (Nat.le_of_ble_eq_true rfl)) (xptr W 113 28 p_113_28) <| Y_iload_n dX12_closes_23 rfl <| Y_iald dX12_closes_24 (xarr W (o := 133) s_133 (Nat.le_of_ble_eq_true rfl)) hi24 <| Y_iadd dX12_closes_25 <| Y_iload_n dX12_closes_26 rfl <| Y_iast dX12_closes_27 (xarr W (o := 131) s_131 (Nat.le_of_ble_eq_true rfl)) hi27 <| Y_aload_n dX12_closes_28 rfl <| Y_getR dX12_closes_29 f_11_74 (by rw [ft_11_28]; rfl) (xis W 113 11 s_113 (Nat.le_of_ble_eq_true rfl)) (xptr W 113 28 p_113_28) <| Y_iload_n dX12_closes_32 rfl <| Y_dup2 dX12_closes_33 rfl rfl <| Y_iald dX12_closes_34 (xarr W (o := 133) s_133 (Nat.le_of_ble_eq_true rfl)) hi34 <| Y_iconst 1 dX12_closes_35 ic_1 <| Y_iadd dX12_closes_36 <| Y_iast dX12_closes_37 (xarr W (o := 133) s_133 (Nat.le_of_ble_eq_true rfl)) hi37 <| Y_aload_n dX12_closes_38 rfl <| Y_getR dX12_closes_39 f_11_74 (by rw [ft_11_28]; rfl) (xis W 113 11 s_113 (Nat.le_of_ble_eq_true rfl)) (xptr W 113 28 p_113_28) <| Y_iload_n dX12_closes_42 rfl <| Y_iald dX12_closes_43 (xarr W (o := 133) s_133 (Nat.le_of_ble_eq_true rfl)) hi43 <| Y_iconst 1 dX12_closes_44 ic_1 <| Y_eq 67 dX12_closes_45 rfl (fun q => X_le (xle_s (xle_n (xle_n xle_0))) (k1 q)) (fun q => X_le (xle_s (xle_n (xle_s xle_0))) (k2 q))
theorem bX12_closes_48 {d : Nat} {g : xSt} {r : Option Value × xSt} {a2 : Int32} (W : xWf g) (hi53 : vp_in a2 12) (k1 : (xI g 133 a2.toNatClampNeg) = 2 → xX (d + 1) mX12_closes 58 [some (.ref 113), none, some (.int a2)] [] g = some r) (k2 : ¬ ((xI g 133 a2.toNatClampNeg) = 2) → xX (d + 1) mX12_closes 82 [some (.ref 113), none, some (.int a2)] [] g = some r) : xX (d + 1) mX12_closes 48 [some (.ref 113), none, some (.int a2)] [] g = some r :=
  Y_aload_n dX12_closes_48 rfl <| Y_getR dX12_closes_49 f_11_74 (by rw [ft_11_28]; rfl) (xis W 113 11 s_113 (Nat.le_of_ble_eq_true rfl)) (xptr W 113 28 p_113_28) <| Y_iload_n dX12_closes_52 rfl <| Y_iald dX12_closes_53 (xarr W (o := 133) s_133 (Nat.le_of_ble_eq_true rfl)) hi53 <| Y_iconst 2 dX12_closes_54 ic_2 <| Y_ne 82 dX12_closes_55 rfl (fun q => X_le (xle_s (xle_n (xle_s xle_0))) (k1 q)) (fun q => X_le (xle_s (xle_n (xle_s xle_0))) (k2 q))
theorem bX12_closes_58 {d : Nat} {g : xSt} {r : Option Value × xSt} {a2 r61 : Int32} {g61 : xSt} (W : xWf g) (hk61 : xCallM d mX12_isSignHere [.ref 113, .int 47] g = some (some (.int r61), g61)) (W61 : xWf g61) (k1 : r61 = 0 → xX (d + 1) mX12_closes 82 [some (.ref 113), none, some (.int a2)] [] g61 = some r) (k2 : ¬ (r61 = 0) → xX (d + 1) mX12_closes 67 [some (.ref 113), none, none] [] g61 = some r) : xX (d + 1) mX12_closes 58 [some (.ref 113), none, some (.int a2)] [] g = some r :=
  Y_aload_n dX12_closes_58 rfl <| Y_bipush 47 dX12_closes_59 bp_47 <| Y_callV1 dX12_closes_61 cl_11_335 rfl rfl (xis W 113 11 s_113 (Nat.le_of_ble_eq_true rfl)) rfl rfl rfl (hk61) <| Y_eq0 82 dX12_closes_64 rfl (fun q => X_le (xle_s (xle_n (xle_s xle_0))) (k1 q)) (fun q => X_le (xle_s (xle_n (xle_n xle_0))) (k2 q))
theorem bX12_closes_67 {d : Nat} {g : xSt} {r : Option Value × xSt} {r71 r78 : Int32} {g71 g74 g78 : xSt} (W : xWf g) (hk71 : xCallM d mX12_isSignHere [.ref 113, .int 47] g = some (some (.int r71), g71)) (W71 : xWf g71) (hk74 : xCallM d mX12_must [.ref 113, .int r71] g71 = some (none, g74)) (W74 : xWf g74) (hk78 : xCallM d mX12_readP [.ref 113] g74 = some (some (.int r78), g78)) (W78 : xWf g78) (k : r = (some (.int r78), g78)) : xX (d + 1) mX12_closes 67 [some (.ref 113), none, none] [] g = some r :=
  Y_aload_n dX12_closes_67 rfl <| Y_aload_n dX12_closes_68 rfl <| Y_bipush 47 dX12_closes_69 bp_47 <| Y_callV1 dX12_closes_71 cl_11_335 rfl rfl (xis W 113 11 s_113 (Nat.le_of_ble_eq_true rfl)) rfl rfl rfl (hk71) <| Y_callV0 dX12_closes_74 cl_11_338 rfl rfl (xis W71 113 11 s_113 (Nat.le_of_ble_eq_true rfl)) rfl rfl rfl (hk74) <| Y_aload_n dX12_closes_77 rfl <| Y_callV1 dX12_closes_78 cl_11_355 rfl rfl (xis W74 113 11 s_113 (Nat.le_of_ble_eq_true rfl)) rfl rfl rfl (hk78) <| Y_iret dX12_closes_81 rfl k
theorem bX12_closes_82 {d : Nat} {g : xSt} {r : Option Value × xSt} {a2 r86 : Int32} {g86 g89 : xSt} (W : xWf g) (hk86 : xCallM d mX12_isSignHere [.ref 113, .int 41] g = some (some (.int r86), g86)) (W86 : xWf g86) (hk89 : xCallM d mX12_must [.ref 113, .int r86] g86 = some (none, g89)) (W89 : xWf g89) (hi107 : vp_in a2 12) (k : r = (some (.int (xI g89 132 a2.toNatClampNeg)), xWI g89 113 29 ((xI g89 113 29) - 1))) : xX (d + 1) mX12_closes 82 [some (.ref 113), none, some (.int a2)] [] g = some r :=
  Y_aload_n dX12_closes_82 rfl <| Y_aload_n dX12_closes_83 rfl <| Y_bipush 41 dX12_closes_84 bp_41 <| Y_callV1 dX12_closes_86 cl_11_335 rfl rfl (xis W 113 11 s_113 (Nat.le_of_ble_eq_true rfl)) rfl rfl rfl (hk86) <| Y_callV0 dX12_closes_89 cl_11_338 rfl rfl (xis W86 113 11 s_113 (Nat.le_of_ble_eq_true rfl)) rfl rfl rfl (hk89) <| Y_aload_n dX12_closes_92 rfl <| Y_dup dX12_closes_93 rfl <| Y_getI dX12_closes_94 f_11_352 ft_11_29 (xis W89 113 11 s_113 (Nat.le_of_ble_eq_true rfl)) <| Y_iconst 1 dX12_closes_97 ic_1 <| Y_isub dX12_closes_98 <| Y_putI dX12_closes_99 f_11_352 fn_11_29 ft_11_29 (xis W89 113 11 s_113 (Nat.le_of_ble_eq_true rfl)) <| Y_aload_n dX12_closes_102 rfl <| Y_getR dX12_closes_103 f_11_71 (by rw [ft_11_27]; rfl) (xis W89 113 11 s_113 (Nat.le_of_ble_eq_true rfl)) (xptr W89 113 27 p_113_27) <| Y_iload_n dX12_closes_106 rfl <| Y_iald dX12_closes_107 (xarr W89 (o := 132) s_132 (Nat.le_of_ble_eq_true rfl)) hi107 <| Y_iret dX12_closes_108 rfl k
theorem bX12_layClerk_0 {d : Nat} {g : xSt} {r : Option Value × xSt}  (k : xX (d + 1) mX12_layClerk 2 [some (.ref 113), some (.int 0)] [] g = some r) : xX (d + 1) mX12_layClerk 0 [some (.ref 113), none] [] g = some r :=
  Y_iconst 0 dX12_layClerk_0 ic_0 <| Y_istore_n dX12_layClerk_1 rfl rfl <| X_le (xle_s (xle_s xle_0)) k
theorem bX12_layClerk_2 {d : Nat} {g : xSt} {r : Option Value × xSt} {a1 : Int32} (W : xWf g) (hi11 : vp_in (xI g 113 30) 2) (k1 : (xI g 116 (xI g 113 30).toNatClampNeg) ≤ a1 → xX (d + 1) mX12_layClerk 67 [none, none] [] g = some r) (k2 : ¬ ((xI g 116 (xI g 113 30).toNatClampNeg) ≤ a1) → xX (d + 1) mX12_layClerk 15 [some (.ref 113), some (.int a1)] [] g = some r) : xX (d + 1) mX12_layClerk 2 [some (.ref 113), some (.int a1)] [] g = some r :=
  Y_iload_n dX12_layClerk_2 rfl <| Y_aload_n dX12_layClerk_3 rfl <| Y_getR dX12_layClerk_4 f_11_20 (by rw [ft_11_11]; rfl) (xis W 113 11 s_113 (Nat.le_of_ble_eq_true rfl)) (xptr W 113 11 p_113_11) <| Y_aload_n dX12_layClerk_7 rfl <| Y_getI dX12_layClerk_8 f_11_295 ft_11_30 (xis W 113 11 s_113 (Nat.le_of_ble_eq_true rfl)) <| Y_iald dX12_layClerk_11 (xarr W (o := 116) s_116 (Nat.le_of_ble_eq_true rfl)) hi11 <| Y_ge 67 dX12_layClerk_12 rfl (fun q => X_le (xle_n (xle_n xle_0)) (k1 q)) (fun q => X_le (xle_s (xle_s xle_0)) (k2 q))
theorem bX12_layClerk_15 {d : Nat} {g : xSt} {r : Option Value × xSt} {a1 r17 : Int32} {g17 : xSt} (W : xWf g) (hk17 : xCallM d mX12_isInRow [.ref 113, .int a1] g = some (some (.int r17), g17)) (W17 : xWf g17) (k1 : r17 = 0 → xX (d + 1) mX12_layClerk 26 [some (.ref 113), some (.int a1)] [] g17 = some r) (k2 : ¬ (r17 = 0) → xX (d + 1) mX12_layClerk 23 [some (.ref 113), some (.int a1)] [] g17 = some r) : xX (d + 1) mX12_layClerk 15 [some (.ref 113), some (.int a1)] [] g = some r :=
  Y_aload_n dX12_layClerk_15 rfl <| Y_iload_n dX12_layClerk_16 rfl <| Y_callV1 dX12_layClerk_17 cl_11_346 rfl rfl (xis W 113 11 s_113 (Nat.le_of_ble_eq_true rfl)) rfl rfl rfl (hk17) <| Y_eq0 26 dX12_layClerk_20 rfl (fun q => X_le (xle_s (xle_s xle_0)) (k1 q)) (fun q => X_le (xle_s (xle_s xle_0)) (k2 q))
theorem bX12_layClerk_23 {d : Nat} {g : xSt} {r : Option Value × xSt} {a1 : Int32} (k : xX (d + 1) mX12_layClerk 61 [some (.ref 113), some (.int a1)] [] g = some r) : xX (d + 1) mX12_layClerk 23 [some (.ref 113), some (.int a1)] [] g = some r :=
  Y_goto 61 dX12_layClerk_23 rfl <| X_le (xle_s (xle_s xle_0)) k
theorem bX12_layClerk_26 {d : Nat} {g : xSt} {r : Option Value × xSt} {a1 : Int32} (W : xWf g) (hi44 : vp_in (xI g 113 30) 2) (hi47 : vp_in ((5 * (xI g 113 30)) + (xI g 118 (xI g 113 30).toNatClampNeg)) 10) (hi57 : vp_in (xI g 113 30) 2) (hi60 : vp_in (xI g 113 30) 2) (k : xX (d + 1) mX12_layClerk 61 [some (.ref 113), some (.int a1)] [] (xWI (xWI g 119 ((5 * (xI g 113 30)) + (xI g 118 (xI g 113 30).toNatClampNeg)).toNatClampNeg a1) 118 (xI g 113 30).toNatClampNeg ((xI g 118 (xI g 113 30).toNatClampNeg) + 1)) = some r) : xX (d + 1) mX12_layClerk 26 [some (.ref 113), some (.int a1)] [] g = some r :=
  Y_aload_n dX12_layClerk_26 rfl <| Y_getR dX12_layClerk_27 f_11_30 (by rw [ft_11_14]; rfl) (xis W 113 11 s_113 (Nat.le_of_ble_eq_true rfl)) (xptr W 113 14 p_113_14) <| Y_iconst 5 dX12_layClerk_30 ic_5 <| Y_aload_n dX12_layClerk_31 rfl <| Y_getI dX12_layClerk_32 f_11_295 ft_11_30 (xis W 113 11 s_113 (Nat.le_of_ble_eq_true rfl)) <| Y_imul dX12_layClerk_35 <| Y_aload_n dX12_layClerk_36 rfl <| Y_getR dX12_layClerk_37 f_11_27 (by rw [ft_11_13]; rfl) (xis W 113 11 s_113 (Nat.le_of_ble_eq_true rfl)) (xptr W 113 13 p_113_13) <| Y_aload_n dX12_layClerk_40 rfl <| Y_getI dX12_layClerk_41 f_11_295 ft_11_30 (xis W 113 11 s_113 (Nat.le_of_ble_eq_true rfl)) <| Y_iald dX12_layClerk_44 (xarr W (o := 118) s_118 (Nat.le_of_ble_eq_true rfl)) hi44 <| Y_iadd dX12_layClerk_45 <| Y_iload_n dX12_layClerk_46 rfl <| Y_iast dX12_layClerk_47 (xarr W (o := 119) s_119 (Nat.le_of_ble_eq_true rfl)) hi47 <| Y_aload_n dX12_layClerk_48 rfl <| Y_getR dX12_layClerk_49 f_11_27 (by rw [ft_11_13]; rfl) (xis W 113 11 s_113 (Nat.le_of_ble_eq_true rfl)) (xptr W 113 13 p_113_13) <| Y_aload_n dX12_layClerk_52 rfl <| Y_getI dX12_layClerk_53 f_11_295 ft_11_30 (xis W 113 11 s_113 (Nat.le_of_ble_eq_true rfl)) <| Y_dup2 dX12_layClerk_56 rfl rfl <| Y_iald dX12_layClerk_57 (xarr W (o := 118) s_118 (Nat.le_of_ble_eq_true rfl)) hi57 <| Y_iconst 1 dX12_layClerk_58 ic_1 <| Y_iadd dX12_layClerk_59 <| Y_iast dX12_layClerk_60 (xarr W (o := 118) s_118 (Nat.le_of_ble_eq_true rfl)) hi60 <| X_le (xle_s (xle_s xle_0)) k
theorem bX12_layClerk_61 {d : Nat} {g : xSt} {r : Option Value × xSt} {a1 : Int32} (k : xX (d + 1) mX12_layClerk 2 [some (.ref 113), some (.int (a1 + 1))] [] g = some r) : xX (d + 1) mX12_layClerk 61 [some (.ref 113), some (.int a1)] [] g = some r :=
  Y_iinc 1 dX12_layClerk_61 rfl ic_1 rfl rfl <| Y_goto 2 dX12_layClerk_64 rfl <| X_le (xle_s (xle_s xle_0)) k
theorem bX12_layClerk_67 {d : Nat} {g : xSt} {r : Option Value × xSt}  (k : r = (none, g)) : xX (d + 1) mX12_layClerk 67 [none, none] [] g = some r :=
  Y_ret dX12_layClerk_67 rfl k
theorem bX12_fault_0 {d : Nat} {g : xSt} {r : Option Value × xSt} {a1 : Int32} (k1 : a1 = 0 → xX d mX12_fault 4 [some (.ref 113), none] [] g = some r) (k2 : ¬ (a1 = 0) → xX d mX12_fault 11 [some (.ref 113), some (.int a1)] [] g = some r) : xX d mX12_fault 0 [some (.ref 113), some (.int a1)] [] g = some r :=
  Y_iload_n dX12_fault_0 rfl <| Y_ne0 11 dX12_fault_1 rfl (fun q => X_le (xle_s (xle_n xle_0)) (k1 q)) (fun q => X_le (xle_s (xle_s xle_0)) (k2 q))
theorem bX12_fault_4 {d : Nat} {g : xSt} {r : Option Value × xSt}  (W : xWf g) (k : xX d mX12_fault 24 [none, none] [.int (xI g 113 4)] g = some r) : xX d mX12_fault 4 [some (.ref 113), none] [] g = some r :=
  Y_aload_n dX12_fault_4 rfl <| Y_getI dX12_fault_5 f_11_227 ft_11_4 (xis W 113 11 s_113 (Nat.le_of_ble_eq_true rfl)) <| Y_goto 24 dX12_fault_8 rfl <| X_le (xle_n (xle_n xle_0)) k
theorem bX12_fault_11 {d : Nat} {g : xSt} {r : Option Value × xSt} {a1 : Int32} (k1 : a1 = 1 → xX d mX12_fault 16 [some (.ref 113), none] [] g = some r) (k2 : ¬ (a1 = 1) → xX d mX12_fault 23 [none, none] [] g = some r) : xX d mX12_fault 11 [some (.ref 113), some (.int a1)] [] g = some r :=
  Y_iload_n dX12_fault_11 rfl <| Y_iconst 1 dX12_fault_12 ic_1 <| Y_ne 23 dX12_fault_13 rfl (fun q => X_le (xle_s (xle_n xle_0)) (k1 q)) (fun q => X_le (xle_n (xle_n xle_0)) (k2 q))
theorem bX12_fault_16 {d : Nat} {g : xSt} {r : Option Value × xSt}  (W : xWf g) (k : xX d mX12_fault 24 [none, none] [.int (xI g 113 5)] g = some r) : xX d mX12_fault 16 [some (.ref 113), none] [] g = some r :=
  Y_aload_n dX12_fault_16 rfl <| Y_getI dX12_fault_17 f_11_16 ft_11_5 (xis W 113 11 s_113 (Nat.le_of_ble_eq_true rfl)) <| Y_goto 24 dX12_fault_20 rfl <| X_le (xle_n (xle_n xle_0)) k
theorem bX12_fault_23 {d : Nat} {g : xSt} {r : Option Value × xSt}  (k : xX d mX12_fault 24 [none, none] [.int (-1)] g = some r) : xX d mX12_fault 23 [none, none] [] g = some r :=
  Y_iconst (-1) dX12_fault_23 ic_m1 <| X_le (xle_n (xle_n xle_0)) k
theorem bX12_fault_24 {d : Nat} {g : xSt} {r : Option Value × xSt} {s0 : Int32} (k : r = (some (.int s0), g)) : xX d mX12_fault 24 [none, none] [.int s0] g = some r :=
  Y_iret dX12_fault_24 rfl k
theorem bX12_clerk_0 {d : Nat} {g : xSt} {r : Option Value × xSt} {a1 r3 r8 : Int32} {g3 g8 : xSt} (W : xWf g) (hk3 : xCallM d mX12_thingMany [.ref 113] g = some (some (.int r3), g3)) (W3 : xWf g3) (hk8 : xCallM d mX12_isIn [.int a1, .int 0, .int (r3 - 1)] g3 = some (some (.int r8), g8)) (W8 : xWf g8) (k1 : r8 = 0 → xX (d + 1) mX12_clerk 30 [none, none] [] g8 = some r) (k2 : ¬ (r8 = 0) → xX (d + 1) mX12_clerk 14 [some (.ref 113), some (.int a1)] [] g8 = some r) : xX (d + 1) mX12_clerk 0 [some (.ref 113), some (.int a1)] [] g = some r :=
  Y_iload_n dX12_clerk_0 rfl <| Y_iconst 0 dX12_clerk_1 ic_0 <| Y_aload_n dX12_clerk_2 rfl <| Y_callV1 dX12_clerk_3 cl_11_364 rfl rfl (xis W 113 11 s_113 (Nat.le_of_ble_eq_true rfl)) rfl rfl rfl (hk3) <| Y_iconst 1 dX12_clerk_6 ic_1 <| Y_isub dX12_clerk_7 <| Y_callS1 dX12_clerk_8 cl_11_367 rfl rfl rfl rfl rfl (hk8) <| Y_eq0 30 dX12_clerk_11 rfl (fun q => X_le (xle_n (xle_n xle_0)) (k1 q)) (fun q => X_le (xle_s (xle_s xle_0)) (k2 q))
theorem bX12_clerk_14 {d : Nat} {g : xSt} {r : Option Value × xSt} {a1 : Int32} (W : xWf g) (hi26 : vp_in ((5 * (xI g 113 30)) + a1) 10) (k : xX (d + 1) mX12_clerk 31 [none, none] [.int (xI g 119 ((5 * (xI g 113 30)) + a1).toNatClampNeg)] g = some r) : xX (d + 1) mX12_clerk 14 [some (.ref 113), some (.int a1)] [] g = some r :=
  Y_aload_n dX12_clerk_14 rfl <| Y_getR dX12_clerk_15 f_11_30 (by rw [ft_11_14]; rfl) (xis W 113 11 s_113 (Nat.le_of_ble_eq_true rfl)) (xptr W 113 14 p_113_14) <| Y_iconst 5 dX12_clerk_18 ic_5 <| Y_aload_n dX12_clerk_19 rfl <| Y_getI dX12_clerk_20 f_11_295 ft_11_30 (xis W 113 11 s_113 (Nat.le_of_ble_eq_true rfl)) <| Y_imul dX12_clerk_23 <| Y_iload_n dX12_clerk_24 rfl <| Y_iadd dX12_clerk_25 <| Y_iald dX12_clerk_26 (xarr W (o := 119) s_119 (Nat.le_of_ble_eq_true rfl)) hi26 <| Y_goto 31 dX12_clerk_27 rfl <| X_le (xle_n (xle_n xle_0)) k
theorem bX12_clerk_30 {d : Nat} {g : xSt} {r : Option Value × xSt}  (k : xX (d + 1) mX12_clerk 31 [none, none] [.int (-1)] g = some r) : xX (d + 1) mX12_clerk 30 [none, none] [] g = some r :=
  Y_iconst (-1) dX12_clerk_30 ic_m1 <| X_le (xle_n (xle_n xle_0)) k
theorem bX12_clerk_31 {d : Nat} {g : xSt} {r : Option Value × xSt} {s0 : Int32} (k : r = (some (.int s0), g)) : xX (d + 1) mX12_clerk 31 [none, none] [.int s0] g = some r :=
  Y_iret dX12_clerk_31 rfl k
theorem bX12_isIn_0 {d : Nat} {g : xSt} {r : Option Value × xSt} {a0 a1 a2 : Int32} (k1 : a0 < a1 → xX d mX12_isIn 14 [none, none, none] [] g = some r) (k2 : ¬ (a0 < a1) → xX d mX12_isIn 5 [some (.int a0), none, some (.int a2)] [] g = some r) : xX d mX12_isIn 0 [some (.int a0), some (.int a1), some (.int a2)] [] g = some r :=
  Y_iload_n dX12_isIn_0 rfl <| Y_iload_n dX12_isIn_1 rfl <| Y_lt 14 dX12_isIn_2 rfl (fun q => X_le (xle_n (xle_n (xle_n xle_0))) (k1 q)) (fun q => X_le (xle_s (xle_n (xle_s xle_0))) (k2 q))
theorem bX12_isIn_5 {d : Nat} {g : xSt} {r : Option Value × xSt} {a0 a2 : Int32} (k1 : a2 < a0 → xX d mX12_isIn 14 [none, none, none] [] g = some r) (k2 : ¬ (a2 < a0) → xX d mX12_isIn 10 [none, none, none] [] g = some r) : xX d mX12_isIn 5 [some (.int a0), none, some (.int a2)] [] g = some r :=
  Y_iload_n dX12_isIn_5 rfl <| Y_iload_n dX12_isIn_6 rfl <| Y_gt 14 dX12_isIn_7 rfl (fun q => X_le (xle_n (xle_n (xle_n xle_0))) (k1 q)) (fun q => X_le (xle_n (xle_n (xle_n xle_0))) (k2 q))
theorem bX12_isIn_10 {d : Nat} {g : xSt} {r : Option Value × xSt}  (k : xX d mX12_isIn 15 [none, none, none] [.int 1] g = some r) : xX d mX12_isIn 10 [none, none, none] [] g = some r :=
  Y_iconst 1 dX12_isIn_10 ic_1 <| Y_goto 15 dX12_isIn_11 rfl <| X_le (xle_n (xle_n (xle_n xle_0))) k
theorem bX12_isIn_14 {d : Nat} {g : xSt} {r : Option Value × xSt}  (k : xX d mX12_isIn 15 [none, none, none] [.int 0] g = some r) : xX d mX12_isIn 14 [none, none, none] [] g = some r :=
  Y_iconst 0 dX12_isIn_14 ic_0 <| X_le (xle_n (xle_n (xle_n xle_0))) k
theorem bX12_isIn_15 {d : Nat} {g : xSt} {r : Option Value × xSt} {s0 : Int32} (hz15 : s0 = 0 ∨ s0 = 1) (k : r = (some (.int s0), g)) : xX d mX12_isIn 15 [none, none, none] [.int s0] g = some r :=
  Y_zret dX12_isIn_15 rfl (hz15) k
theorem bX12_weigh_0 {d : Nat} {g : xSt} {r : Option Value × xSt} {a1 a2 r3 : Int32} {g3 : xSt} (W : xWf g) (hk3 : xCallM d mX12_areHeaps [.ref 113, .int a1, .int a2] g = some (some (.int r3), g3)) (W3 : xWf g3) (k1 : r3 = 0 → xX (d + 1) mX12_weigh 18 [none, none, none, none, none] [] g3 = some r) (k2 : ¬ (r3 = 0) → xX (d + 1) mX12_weigh 9 [some (.ref 113), some (.int a1), some (.int a2), none, none] [] g3 = some r) : xX (d + 1) mX12_weigh 0 [some (.ref 113), some (.int a1), some (.int a2), none, none] [] g = some r :=
  Y_aload_n dX12_weigh_0 rfl <| Y_iload_n dX12_weigh_1 rfl <| Y_iload_n dX12_weigh_2 rfl <| Y_callV1 dX12_weigh_3 cl_11_380 rfl rfl (xis W 113 11 s_113 (Nat.le_of_ble_eq_true rfl)) rfl rfl rfl (hk3) <| Y_eq0 18 dX12_weigh_6 rfl (fun q => X_le (xle_n (xle_n (xle_n (xle_n (xle_n xle_0))))) (k1 q)) (fun q => X_le (xle_s (xle_s (xle_s (xle_n (xle_n xle_0))))) (k2 q))
theorem bX12_weigh_9 {d : Nat} {g : xSt} {r : Option Value × xSt} {a1 a2 : Int32} (W : xWf g) (k1 : (xI g 113 44) = 60 → xX (d + 1) mX12_weigh 18 [none, none, none, none, none] [] g = some r) (k2 : ¬ ((xI g 113 44) = 60) → xX (d + 1) mX12_weigh 20 [some (.ref 113), some (.int a1), some (.int a2), none, none] [] g = some r) : xX (d + 1) mX12_weigh 9 [some (.ref 113), some (.int a1), some (.int a2), none, none] [] g = some r :=
  Y_aload_n dX12_weigh_9 rfl <| Y_getI dX12_weigh_10 f_11_304 ft_11_44 (xis W 113 11 s_113 (Nat.le_of_ble_eq_true rfl)) <| Y_bipush 60 dX12_weigh_13 bp_60 <| Y_ne 20 dX12_weigh_15 rfl (fun q => X_le (xle_n (xle_n (xle_n (xle_n (xle_n xle_0))))) (k1 q)) (fun q => X_le (xle_s (xle_s (xle_s (xle_n (xle_n xle_0))))) (k2 q))
theorem bX12_weigh_18 {d : Nat} {g : xSt} {r : Option Value × xSt}  (k : r = (some (.int (-1)), g)) : xX (d + 1) mX12_weigh 18 [none, none, none, none, none] [] g = some r :=
  Y_iconst (-1) dX12_weigh_18 ic_m1 <| Y_iret dX12_weigh_19 rfl k
theorem bX12_weigh_20 {d : Nat} {g : xSt} {r : Option Value × xSt} {a1 a2 : Int32} (k : xX (d + 1) mX12_weigh 25 [some (.ref 113), some (.int a1), some (.int a2), some (.int 0), some (.int 0)] [] g = some r) : xX (d + 1) mX12_weigh 20 [some (.ref 113), some (.int a1), some (.int a2), none, none] [] g = some r :=
  Y_iconst 0 dX12_weigh_20 ic_0 <| Y_istore_n dX12_weigh_21 rfl rfl <| Y_iconst 0 dX12_weigh_22 ic_0 <| Y_istore dX12_weigh_23 rfl rfl <| X_le (xle_s (xle_s (xle_s (xle_s (xle_s xle_0))))) k
theorem bX12_weigh_25 {d : Nat} {g : xSt} {r : Option Value × xSt} {a1 a2 a3 a4 r28 : Int32} {g28 : xSt} (W : xWf g) (hk28 : xCallM d mX12_thingMany [.ref 113] g = some (some (.int r28), g28)) (W28 : xWf g28) (k1 : r28 ≤ a4 → xX (d + 1) mX12_weigh 64 [some (.ref 113), some (.int a1), some (.int a2), some (.int a3), none] [] g28 = some r) (k2 : ¬ (r28 ≤ a4) → xX (d + 1) mX12_weigh 34 [some (.ref 113), some (.int a1), some (.int a2), some (.int a3), some (.int a4)] [] g28 = some r) : xX (d + 1) mX12_weigh 25 [some (.ref 113), some (.int a1), some (.int a2), some (.int a3), some (.int a4)] [] g = some r :=
  Y_iload dX12_weigh_25 rfl <| Y_aload_n dX12_weigh_27 rfl <| Y_callV1 dX12_weigh_28 cl_11_364 rfl rfl (xis W 113 11 s_113 (Nat.le_of_ble_eq_true rfl)) rfl rfl rfl (hk28) <| Y_ge 64 dX12_weigh_31 rfl (fun q => X_le (xle_s (xle_s (xle_s (xle_s (xle_n xle_0))))) (k1 q)) (fun q => X_le (xle_s (xle_s (xle_s (xle_s (xle_s xle_0))))) (k2 q))
theorem bX12_weigh_34 {d : Nat} {g : xSt} {r : Option Value × xSt} {a1 a2 a3 a4 : Int32} (W : xWf g) (hi54 : vp_in a4 5) (k : xX (d + 1) mX12_weigh 25 [some (.ref 113), some (.int a1), some (.int a2), some (.int (a3 + ((((a1 >>> (a4 &&& 31)) &&& 1) - ((a2 >>> (a4 &&& 31)) &&& 1)) * (xI g 143 a4.toNatClampNeg)))), some (.int (a4 + 1))] [] g = some r) : xX (d + 1) mX12_weigh 34 [some (.ref 113), some (.int a1), some (.int a2), some (.int a3), some (.int a4)] [] g = some r :=
  Y_iload_n dX12_weigh_34 rfl <| Y_iload_n dX12_weigh_35 rfl <| Y_iload dX12_weigh_36 rfl <| Y_ishr dX12_weigh_38 <| Y_iconst 1 dX12_weigh_39 ic_1 <| Y_iand dX12_weigh_40 <| Y_iload_n dX12_weigh_41 rfl <| Y_iload dX12_weigh_42 rfl <| Y_ishr dX12_weigh_44 <| Y_iconst 1 dX12_weigh_45 ic_1 <| Y_iand dX12_weigh_46 <| Y_isub dX12_weigh_47 <| Y_aload_n dX12_weigh_48 rfl <| Y_getR dX12_weigh_49 f_11_104 (by rw [ft_11_42]; rfl) (xis W 113 11 s_113 (Nat.le_of_ble_eq_true rfl)) (xptr W 113 42 p_113_42) <| Y_iload dX12_weigh_52 rfl <| Y_iald dX12_weigh_54 (xarr W (o := 143) s_143 (Nat.le_of_ble_eq_true rfl)) hi54 <| Y_imul dX12_weigh_55 <| Y_iadd dX12_weigh_56 <| Y_istore_n dX12_weigh_57 rfl rfl <| Y_iinc 1 dX12_weigh_58 rfl ic_1 rfl rfl <| Y_goto 25 dX12_weigh_61 rfl <| X_le (xle_s (xle_s (xle_s (xle_s (xle_s xle_0))))) k
theorem bX12_weigh_64 {d : Nat} {g : xSt} {r : Option Value × xSt} {a1 a2 a3 r66 : Int32} {g66 g76 : xSt} (W : xWf g) (hk66 : xCallM d mX12_saysBy [.ref 113, .int a3] g = some (some (.int r66), g66)) (W66 : xWf g66) (hk76 : xCallM d mX12_add [.ref 113, .int a1, .int a2, .int r66] g66 = some (none, g76)) (W76 : xWf g76) (k : r = (some (.int r66), g76)) : xX (d + 1) mX12_weigh 64 [some (.ref 113), some (.int a1), some (.int a2), some (.int a3), none] [] g = some r :=
  Y_aload_n dX12_weigh_64 rfl <| Y_iload_n dX12_weigh_65 rfl <| Y_callV1 dX12_weigh_66 cl_11_384 rfl rfl (xis W 113 11 s_113 (Nat.le_of_ble_eq_true rfl)) rfl rfl rfl (hk66) <| Y_istore dX12_weigh_69 rfl rfl <| Y_aload_n dX12_weigh_71 rfl <| Y_iload_n dX12_weigh_72 rfl <| Y_iload_n dX12_weigh_73 rfl <| Y_iload dX12_weigh_74 rfl <| Y_callV0 dX12_weigh_76 cl_11_387 rfl rfl (xis W66 113 11 s_113 (Nat.le_of_ble_eq_true rfl)) rfl rfl rfl (hk76) <| Y_iload dX12_weigh_79 rfl <| Y_iret dX12_weigh_81 rfl k
theorem bX12_areHeaps_0 {d : Nat} {g : xSt} {r : Option Value × xSt} {a1 a2 r2 : Int32} {g2 : xSt} (W : xWf g) (hk2 : xCallM d mX12_thingMany [.ref 113] g = some (some (.int r2), g2)) (W2 : xWf g2) (k1 : a1 ≤ 0 → xX (d + 1) mX12_areHeaps 35 [none, none, none, none] [] g2 = some r) (k2 : ¬ (a1 ≤ 0) → xX (d + 1) mX12_areHeaps 11 [none, some (.int a1), some (.int a2), some (.int (1 <<< (r2 &&& 31)))] [] g2 = some r) : xX (d + 1) mX12_areHeaps 0 [some (.ref 113), some (.int a1), some (.int a2), none] [] g = some r :=
  Y_iconst 1 dX12_areHeaps_0 ic_1 <| Y_aload_n dX12_areHeaps_1 rfl <| Y_callV1 dX12_areHeaps_2 cl_11_364 rfl rfl (xis W 113 11 s_113 (Nat.le_of_ble_eq_true rfl)) rfl rfl rfl (hk2) <| Y_ishl dX12_areHeaps_5 <| Y_istore_n dX12_areHeaps_6 rfl rfl <| Y_iload_n dX12_areHeaps_7 rfl <| Y_le0 35 dX12_areHeaps_8 rfl (fun q => X_le (xle_n (xle_n (xle_n (xle_n xle_0)))) (k1 q)) (fun q => X_le (xle_n (xle_s (xle_s (xle_s xle_0)))) (k2 q))
theorem bX12_areHeaps_11 {d : Nat} {g : xSt} {r : Option Value × xSt} {a1 a2 a3 : Int32} (k1 : a2 ≤ 0 → xX (d + 1) mX12_areHeaps 35 [none, none, none, none] [] g = some r) (k2 : ¬ (a2 ≤ 0) → xX (d + 1) mX12_areHeaps 15 [none, some (.int a1), some (.int a2), some (.int a3)] [] g = some r) : xX (d + 1) mX12_areHeaps 11 [none, some (.int a1), some (.int a2), some (.int a3)] [] g = some r :=
  Y_iload_n dX12_areHeaps_11 rfl <| Y_le0 35 dX12_areHeaps_12 rfl (fun q => X_le (xle_n (xle_n (xle_n (xle_n xle_0)))) (k1 q)) (fun q => X_le (xle_n (xle_s (xle_s (xle_s xle_0)))) (k2 q))
theorem bX12_areHeaps_15 {d : Nat} {g : xSt} {r : Option Value × xSt} {a1 a2 a3 : Int32} (k1 : a3 ≤ a1 → xX (d + 1) mX12_areHeaps 35 [none, none, none, none] [] g = some r) (k2 : ¬ (a3 ≤ a1) → xX (d + 1) mX12_areHeaps 20 [none, some (.int a1), some (.int a2), some (.int a3)] [] g = some r) : xX (d + 1) mX12_areHeaps 15 [none, some (.int a1), some (.int a2), some (.int a3)] [] g = some r :=
  Y_iload_n dX12_areHeaps_15 rfl <| Y_iload_n dX12_areHeaps_16 rfl <| Y_ge 35 dX12_areHeaps_17 rfl (fun q => X_le (xle_n (xle_n (xle_n (xle_n xle_0)))) (k1 q)) (fun q => X_le (xle_n (xle_s (xle_s (xle_s xle_0)))) (k2 q))
theorem bX12_areHeaps_20 {d : Nat} {g : xSt} {r : Option Value × xSt} {a1 a2 a3 : Int32} (k1 : a3 ≤ a2 → xX (d + 1) mX12_areHeaps 35 [none, none, none, none] [] g = some r) (k2 : ¬ (a3 ≤ a2) → xX (d + 1) mX12_areHeaps 25 [none, some (.int a1), some (.int a2), none] [] g = some r) : xX (d + 1) mX12_areHeaps 20 [none, some (.int a1), some (.int a2), some (.int a3)] [] g = some r :=
  Y_iload_n dX12_areHeaps_20 rfl <| Y_iload_n dX12_areHeaps_21 rfl <| Y_ge 35 dX12_areHeaps_22 rfl (fun q => X_le (xle_n (xle_n (xle_n (xle_n xle_0)))) (k1 q)) (fun q => X_le (xle_n (xle_s (xle_s (xle_n xle_0)))) (k2 q))
theorem bX12_areHeaps_25 {d : Nat} {g : xSt} {r : Option Value × xSt} {a1 a2 : Int32} (k1 : (a1 &&& a2) = 0 → xX (d + 1) mX12_areHeaps 31 [none, none, none, none] [] g = some r) (k2 : ¬ ((a1 &&& a2) = 0) → xX (d + 1) mX12_areHeaps 35 [none, none, none, none] [] g = some r) : xX (d + 1) mX12_areHeaps 25 [none, some (.int a1), some (.int a2), none] [] g = some r :=
  Y_iload_n dX12_areHeaps_25 rfl <| Y_iload_n dX12_areHeaps_26 rfl <| Y_iand dX12_areHeaps_27 <| Y_ne0 35 dX12_areHeaps_28 rfl (fun q => X_le (xle_n (xle_n (xle_n (xle_n xle_0)))) (k1 q)) (fun q => X_le (xle_n (xle_n (xle_n (xle_n xle_0)))) (k2 q))
theorem bX12_areHeaps_31 {d : Nat} {g : xSt} {r : Option Value × xSt}  (k : xX (d + 1) mX12_areHeaps 36 [none, none, none, none] [.int 1] g = some r) : xX (d + 1) mX12_areHeaps 31 [none, none, none, none] [] g = some r :=
  Y_iconst 1 dX12_areHeaps_31 ic_1 <| Y_goto 36 dX12_areHeaps_32 rfl <| X_le (xle_n (xle_n (xle_n (xle_n xle_0)))) k
theorem bX12_areHeaps_35 {d : Nat} {g : xSt} {r : Option Value × xSt}  (k : xX (d + 1) mX12_areHeaps 36 [none, none, none, none] [.int 0] g = some r) : xX (d + 1) mX12_areHeaps 35 [none, none, none, none] [] g = some r :=
  Y_iconst 0 dX12_areHeaps_35 ic_0 <| X_le (xle_n (xle_n (xle_n (xle_n xle_0)))) k
theorem bX12_areHeaps_36 {d : Nat} {g : xSt} {r : Option Value × xSt} {s0 : Int32} (hz36 : s0 = 0 ∨ s0 = 1) (k : r = (some (.int s0), g)) : xX (d + 1) mX12_areHeaps 36 [none, none, none, none] [.int s0] g = some r :=
  Y_zret dX12_areHeaps_36 rfl (hz36) k
theorem bX12_saysBy_0 {d : Nat} {g : xSt} {r : Option Value × xSt} {a1 : Int32} (W : xWf g) (hi9 : vp_in (xI g 113 30) 2) (k1 : a1 ≤ (xI g 117 (xI g 113 30).toNatClampNeg) → xX d mX12_saysBy 17 [some (.ref 113), some (.int a1)] [] g = some r) (k2 : ¬ (a1 ≤ (xI g 117 (xI g 113 30).toNatClampNeg)) → xX d mX12_saysBy 13 [none, none] [] g = some r) : xX d mX12_saysBy 0 [some (.ref 113), some (.int a1)] [] g = some r :=
  Y_iload_n dX12_saysBy_0 rfl <| Y_aload_n dX12_saysBy_1 rfl <| Y_getR dX12_saysBy_2 f_11_24 (by rw [ft_11_12]; rfl) (xis W 113 11 s_113 (Nat.le_of_ble_eq_true rfl)) (xptr W 113 12 p_113_12) <| Y_aload_n dX12_saysBy_5 rfl <| Y_getI dX12_saysBy_6 f_11_295 ft_11_30 (xis W 113 11 s_113 (Nat.le_of_ble_eq_true rfl)) <| Y_iald dX12_saysBy_9 (xarr W (o := 117) s_117 (Nat.le_of_ble_eq_true rfl)) hi9 <| Y_le 17 dX12_saysBy_10 rfl (fun q => X_le (xle_s (xle_s xle_0)) (k1 q)) (fun q => X_le (xle_n (xle_n xle_0)) (k2 q))
theorem bX12_saysBy_13 {d : Nat} {g : xSt} {r : Option Value × xSt}  (k : xX d mX12_saysBy 36 [none, none] [.int 1] g = some r) : xX d mX12_saysBy 13 [none, none] [] g = some r :=
  Y_iconst 1 dX12_saysBy_13 ic_1 <| Y_goto 36 dX12_saysBy_14 rfl <| X_le (xle_n (xle_n xle_0)) k
theorem bX12_saysBy_17 {d : Nat} {g : xSt} {r : Option Value × xSt} {a1 : Int32} (W : xWf g) (hi26 : vp_in (xI g 113 30) 2) (k1 : (-(xI g 117 (xI g 113 30).toNatClampNeg)) ≤ a1 → xX d mX12_saysBy 35 [none, none] [] g = some r) (k2 : ¬ ((-(xI g 117 (xI g 113 30).toNatClampNeg)) ≤ a1) → xX d mX12_saysBy 31 [none, none] [] g = some r) : xX d mX12_saysBy 17 [some (.ref 113), some (.int a1)] [] g = some r :=
  Y_iload_n dX12_saysBy_17 rfl <| Y_aload_n dX12_saysBy_18 rfl <| Y_getR dX12_saysBy_19 f_11_24 (by rw [ft_11_12]; rfl) (xis W 113 11 s_113 (Nat.le_of_ble_eq_true rfl)) (xptr W 113 12 p_113_12) <| Y_aload_n dX12_saysBy_22 rfl <| Y_getI dX12_saysBy_23 f_11_295 ft_11_30 (xis W 113 11 s_113 (Nat.le_of_ble_eq_true rfl)) <| Y_iald dX12_saysBy_26 (xarr W (o := 117) s_117 (Nat.le_of_ble_eq_true rfl)) hi26 <| Y_ineg dX12_saysBy_27 <| Y_ge 35 dX12_saysBy_28 rfl (fun q => X_le (xle_n (xle_n xle_0)) (k1 q)) (fun q => X_le (xle_n (xle_n xle_0)) (k2 q))
theorem bX12_saysBy_31 {d : Nat} {g : xSt} {r : Option Value × xSt}  (k : xX d mX12_saysBy 36 [none, none] [.int 2] g = some r) : xX d mX12_saysBy 31 [none, none] [] g = some r :=
  Y_iconst 2 dX12_saysBy_31 ic_2 <| Y_goto 36 dX12_saysBy_32 rfl <| X_le (xle_n (xle_n xle_0)) k
theorem bX12_saysBy_35 {d : Nat} {g : xSt} {r : Option Value × xSt}  (k : xX d mX12_saysBy 36 [none, none] [.int 0] g = some r) : xX d mX12_saysBy 35 [none, none] [] g = some r :=
  Y_iconst 0 dX12_saysBy_35 ic_0 <| X_le (xle_n (xle_n xle_0)) k
theorem bX12_saysBy_36 {d : Nat} {g : xSt} {r : Option Value × xSt} {s0 : Int32} (k : r = (some (.int s0), g)) : xX d mX12_saysBy 36 [none, none] [.int s0] g = some r :=
  Y_iret dX12_saysBy_36 rfl k
theorem bX12_add_0 {d : Nat} {g : xSt} {r : Option Value × xSt} {a1 a2 a3 : Int32} (W : xWf g) (hi9 : vp_in (xI g 113 44) 60) (hi19 : vp_in (xI g 113 44) 60) (hi29 : vp_in (xI g 113 44) 60) (hi42 : vp_in (xI g 113 44) 60) (hi52 : vp_in (xI g 113 44) 60) (k : r = (none, xWI (xWI (xWI (xWI (xWI (xWI g 136 (xI g 113 44).toNatClampNeg a1) 137 (xI g 113 44).toNatClampNeg a2) 138 (xI g 113 44).toNatClampNeg a3) 139 (xI g 113 44).toNatClampNeg (xI g 113 45)) 140 (xI g 113 44).toNatClampNeg (-1)) 113 44 ((xI g 113 44) + 1))) : xX d mX12_add 0 [some (.ref 113), some (.int a1), some (.int a2), some (.int a3)] [] g = some r :=
  Y_aload_n dX12_add_0 rfl <| Y_getR dX12_add_1 f_11_83 (by rw [ft_11_35]; rfl) (xis W 113 11 s_113 (Nat.le_of_ble_eq_true rfl)) (xptr W 113 35 p_113_35) <| Y_aload_n dX12_add_4 rfl <| Y_getI dX12_add_5 f_11_304 ft_11_44 (xis W 113 11 s_113 (Nat.le_of_ble_eq_true rfl)) <| Y_iload_n dX12_add_8 rfl <| Y_iast dX12_add_9 (xarr W (o := 136) s_136 (Nat.le_of_ble_eq_true rfl)) hi9 <| Y_aload_n dX12_add_10 rfl <| Y_getR dX12_add_11 f_11_86 (by rw [ft_11_36]; rfl) (xis W 113 11 s_113 (Nat.le_of_ble_eq_true rfl)) (xptr W 113 36 p_113_36) <| Y_aload_n dX12_add_14 rfl <| Y_getI dX12_add_15 f_11_304 ft_11_44 (xis W 113 11 s_113 (Nat.le_of_ble_eq_true rfl)) <| Y_iload_n dX12_add_18 rfl <| Y_iast dX12_add_19 (xarr W (o := 137) s_137 (Nat.le_of_ble_eq_true rfl)) hi19 <| Y_aload_n dX12_add_20 rfl <| Y_getR dX12_add_21 f_11_89 (by rw [ft_11_37]; rfl) (xis W 113 11 s_113 (Nat.le_of_ble_eq_true rfl)) (xptr W 113 37 p_113_37) <| Y_aload_n dX12_add_24 rfl <| Y_getI dX12_add_25 f_11_304 ft_11_44 (xis W 113 11 s_113 (Nat.le_of_ble_eq_true rfl)) <| Y_iload_n dX12_add_28 rfl <| Y_iast dX12_add_29 (xarr W (o := 138) s_138 (Nat.le_of_ble_eq_true rfl)) hi29 <| Y_aload_n dX12_add_30 rfl <| Y_getR dX12_add_31 f_11_92 (by rw [ft_11_38]; rfl) (xis W 113 11 s_113 (Nat.le_of_ble_eq_true rfl)) (xptr W 113 38 p_113_38) <| Y_aload_n dX12_add_34 rfl <| Y_getI dX12_add_35 f_11_304 ft_11_44 (xis W 113 11 s_113 (Nat.le_of_ble_eq_true rfl)) <| Y_aload_n dX12_add_38 rfl <| Y_getI dX12_add_39 f_11_377 ft_11_45 (xis W 113 11 s_113 (Nat.le_of_ble_eq_true rfl)) <| Y_iast dX12_add_42 (xarr W (o := 139) s_139 (Nat.le_of_ble_eq_true rfl)) hi42 <| Y_aload_n dX12_add_43 rfl <| Y_getR dX12_add_44 f_11_95 (by rw [ft_11_39]; rfl) (xis W 113 11 s_113 (Nat.le_of_ble_eq_true rfl)) (xptr W 113 39 p_113_39) <| Y_aload_n dX12_add_47 rfl <| Y_getI dX12_add_48 f_11_304 ft_11_44 (xis W 113 11 s_113 (Nat.le_of_ble_eq_true rfl)) <| Y_iconst (-1) dX12_add_51 ic_m1 <| Y_iast dX12_add_52 (xarr W (o := 140) s_140 (Nat.le_of_ble_eq_true rfl)) hi52 <| Y_aload_n dX12_add_53 rfl <| Y_dup dX12_add_54 rfl <| Y_getI dX12_add_55 f_11_304 ft_11_44 (xis W 113 11 s_113 (Nat.le_of_ble_eq_true rfl)) <| Y_iconst 1 dX12_add_58 ic_1 <| Y_iadd dX12_add_59 <| Y_putI dX12_add_60 f_11_304 fn_11_44 ft_11_44 (xis W 113 11 s_113 (Nat.le_of_ble_eq_true rfl)) <| Y_ret dX12_add_63 rfl k
theorem bX12_told_0 {d : Nat} {g : xSt} {r : Option Value × xSt} {a1 a2 a3 r3 : Int32} {g3 : xSt} (W : xWf g) (hk3 : xCallM d mX12_areHeaps [.ref 113, .int a1, .int a2] g = some (some (.int r3), g3)) (W3 : xWf g3) (k1 : r3 = 0 → xX (d + 1) mX12_told 27 [none, none, none, none] [] g3 = some r) (k2 : ¬ (r3 = 0) → xX (d + 1) mX12_told 9 [some (.ref 113), some (.int a1), some (.int a2), some (.int a3)] [] g3 = some r) : xX (d + 1) mX12_told 0 [some (.ref 113), some (.int a1), some (.int a2), some (.int a3)] [] g = some r :=
  Y_aload_n dX12_told_0 rfl <| Y_iload_n dX12_told_1 rfl <| Y_iload_n dX12_told_2 rfl <| Y_callV1 dX12_told_3 cl_11_380 rfl rfl (xis W 113 11 s_113 (Nat.le_of_ble_eq_true rfl)) rfl rfl rfl (hk3) <| Y_eq0 27 dX12_told_6 rfl (fun q => X_le (xle_n (xle_n (xle_n (xle_n xle_0)))) (k1 q)) (fun q => X_le (xle_s (xle_s (xle_s (xle_s xle_0)))) (k2 q))
theorem bX12_told_9 {d : Nat} {g : xSt} {r : Option Value × xSt} {a1 a2 a3 r12 : Int32} {g12 : xSt} (hk12 : xCallM d mX12_isIn [.int a3, .int 0, .int 2] g = some (some (.int r12), g12)) (W12 : xWf g12) (k1 : r12 = 0 → xX (d + 1) mX12_told 27 [none, none, none, none] [] g12 = some r) (k2 : ¬ (r12 = 0) → xX (d + 1) mX12_told 18 [some (.ref 113), some (.int a1), some (.int a2), some (.int a3)] [] g12 = some r) : xX (d + 1) mX12_told 9 [some (.ref 113), some (.int a1), some (.int a2), some (.int a3)] [] g = some r :=
  Y_iload_n dX12_told_9 rfl <| Y_iconst 0 dX12_told_10 ic_0 <| Y_iconst 2 dX12_told_11 ic_2 <| Y_callS1 dX12_told_12 cl_11_367 rfl rfl rfl rfl rfl (hk12) <| Y_eq0 27 dX12_told_15 rfl (fun q => X_le (xle_n (xle_n (xle_n (xle_n xle_0)))) (k1 q)) (fun q => X_le (xle_s (xle_s (xle_s (xle_s xle_0)))) (k2 q))
theorem bX12_told_18 {d : Nat} {g : xSt} {r : Option Value × xSt} {a1 a2 a3 : Int32} (W : xWf g) (k1 : (xI g 113 44) = 60 → xX (d + 1) mX12_told 27 [none, none, none, none] [] g = some r) (k2 : ¬ ((xI g 113 44) = 60) → xX (d + 1) mX12_told 29 [some (.ref 113), some (.int a1), some (.int a2), some (.int a3)] [] g = some r) : xX (d + 1) mX12_told 18 [some (.ref 113), some (.int a1), some (.int a2), some (.int a3)] [] g = some r :=
  Y_aload_n dX12_told_18 rfl <| Y_getI dX12_told_19 f_11_304 ft_11_44 (xis W 113 11 s_113 (Nat.le_of_ble_eq_true rfl)) <| Y_bipush 60 dX12_told_22 bp_60 <| Y_ne 29 dX12_told_24 rfl (fun q => X_le (xle_n (xle_n (xle_n (xle_n xle_0)))) (k1 q)) (fun q => X_le (xle_s (xle_s (xle_s (xle_s xle_0)))) (k2 q))
theorem bX12_told_27 {d : Nat} {g : xSt} {r : Option Value × xSt}  (k : r = (some (.int (-1)), g)) : xX (d + 1) mX12_told 27 [none, none, none, none] [] g = some r :=
  Y_iconst (-1) dX12_told_27 ic_m1 <| Y_iret dX12_told_28 rfl k
theorem bX12_told_29 {d : Nat} {g : xSt} {r : Option Value × xSt} {a1 a2 a3 : Int32} {g33 : xSt} (W : xWf g) (hk33 : xCallM d mX12_add [.ref 113, .int a1, .int a2, .int a3] g = some (none, g33)) (W33 : xWf g33) (k : r = (some (.int ((xI g33 113 44) - 1)), g33)) : xX (d + 1) mX12_told 29 [some (.ref 113), some (.int a1), some (.int a2), some (.int a3)] [] g = some r :=
  Y_aload_n dX12_told_29 rfl <| Y_iload_n dX12_told_30 rfl <| Y_iload_n dX12_told_31 rfl <| Y_iload_n dX12_told_32 rfl <| Y_callV0 dX12_told_33 cl_11_387 rfl rfl (xis W 113 11 s_113 (Nat.le_of_ble_eq_true rfl)) rfl rfl rfl (hk33) <| Y_aload_n dX12_told_36 rfl <| Y_getI dX12_told_37 f_11_304 ft_11_44 (xis W33 113 11 s_113 (Nat.le_of_ble_eq_true rfl)) <| Y_iconst 1 dX12_told_40 ic_1 <| Y_isub dX12_told_41 <| Y_iret dX12_told_42 rfl k
theorem bX12_weighing_0 {d : Nat} {g : xSt} {r : Option Value × xSt} {a1 a2 r8 : Int32} {g8 : xSt} (W : xWf g) (hk8 : xCallM d mX12_isIn [.int a1, .int 0, .int ((xI g 113 44) - 1)] g = some (some (.int r8), g8)) (W8 : xWf g8) (k1 : r8 = 0 → xX (d + 1) mX12_weighing 14 [none, none, none] [] g8 = some r) (k2 : ¬ (r8 = 0) → xX (d + 1) mX12_weighing 16 [some (.ref 113), some (.int a1), some (.int a2)] [] g8 = some r) : xX (d + 1) mX12_weighing 0 [some (.ref 113), some (.int a1), some (.int a2)] [] g = some r :=
  Y_iload_n dX12_weighing_0 rfl <| Y_iconst 0 dX12_weighing_1 ic_0 <| Y_aload_n dX12_weighing_2 rfl <| Y_getI dX12_weighing_3 f_11_304 ft_11_44 (xis W 113 11 s_113 (Nat.le_of_ble_eq_true rfl)) <| Y_iconst 1 dX12_weighing_6 ic_1 <| Y_isub dX12_weighing_7 <| Y_callS1 dX12_weighing_8 cl_11_367 rfl rfl rfl rfl rfl (hk8) <| Y_ne0 16 dX12_weighing_11 rfl (fun q => X_le (xle_n (xle_n (xle_n xle_0))) (k1 q)) (fun q => X_le (xle_s (xle_s (xle_s xle_0))) (k2 q))
theorem bX12_weighing_14 {d : Nat} {g : xSt} {r : Option Value × xSt}  (k : r = (some (.int (-1)), g)) : xX (d + 1) mX12_weighing 14 [none, none, none] [] g = some r :=
  Y_iconst (-1) dX12_weighing_14 ic_m1 <| Y_iret dX12_weighing_15 rfl k
theorem bX12_weighing_16 {d : Nat} {g : xSt} {r : Option Value × xSt} {a1 a2 : Int32} (k1 : a2 = 0 → xX (d + 1) mX12_weighing 20 [some (.ref 113), some (.int a1), none] [] g = some r) (k2 : ¬ (a2 = 0) → xX (d + 1) mX12_weighing 29 [some (.ref 113), some (.int a1), some (.int a2)] [] g = some r) : xX (d + 1) mX12_weighing 16 [some (.ref 113), some (.int a1), some (.int a2)] [] g = some r :=
  Y_iload_n dX12_weighing_16 rfl <| Y_ne0 29 dX12_weighing_17 rfl (fun q => X_le (xle_s (xle_s (xle_n xle_0))) (k1 q)) (fun q => X_le (xle_s (xle_s (xle_s xle_0))) (k2 q))
theorem bX12_weighing_20 {d : Nat} {g : xSt} {r : Option Value × xSt} {a1 : Int32} (W : xWf g) (hi25 : vp_in a1 60) (k : xX (d + 1) mX12_weighing 80 [none, none, none] [.int (xI g 136 a1.toNatClampNeg)] g = some r) : xX (d + 1) mX12_weighing 20 [some (.ref 113), some (.int a1), none] [] g = some r :=
  Y_aload_n dX12_weighing_20 rfl <| Y_getR dX12_weighing_21 f_11_83 (by rw [ft_11_35]; rfl) (xis W 113 11 s_113 (Nat.le_of_ble_eq_true rfl)) (xptr W 113 35 p_113_35) <| Y_iload_n dX12_weighing_24 rfl <| Y_iald dX12_weighing_25 (xarr W (o := 136) s_136 (Nat.le_of_ble_eq_true rfl)) hi25 <| Y_goto 80 dX12_weighing_26 rfl <| X_le (xle_n (xle_n (xle_n xle_0))) k
theorem bX12_weighing_29 {d : Nat} {g : xSt} {r : Option Value × xSt} {a1 a2 : Int32} (k1 : a2 = 1 → xX (d + 1) mX12_weighing 34 [some (.ref 113), some (.int a1), none] [] g = some r) (k2 : ¬ (a2 = 1) → xX (d + 1) mX12_weighing 43 [some (.ref 113), some (.int a1), some (.int a2)] [] g = some r) : xX (d + 1) mX12_weighing 29 [some (.ref 113), some (.int a1), some (.int a2)] [] g = some r :=
  Y_iload_n dX12_weighing_29 rfl <| Y_iconst 1 dX12_weighing_30 ic_1 <| Y_ne 43 dX12_weighing_31 rfl (fun q => X_le (xle_s (xle_s (xle_n xle_0))) (k1 q)) (fun q => X_le (xle_s (xle_s (xle_s xle_0))) (k2 q))
theorem bX12_weighing_34 {d : Nat} {g : xSt} {r : Option Value × xSt} {a1 : Int32} (W : xWf g) (hi39 : vp_in a1 60) (k : xX (d + 1) mX12_weighing 80 [none, none, none] [.int (xI g 137 a1.toNatClampNeg)] g = some r) : xX (d + 1) mX12_weighing 34 [some (.ref 113), some (.int a1), none] [] g = some r :=
  Y_aload_n dX12_weighing_34 rfl <| Y_getR dX12_weighing_35 f_11_86 (by rw [ft_11_36]; rfl) (xis W 113 11 s_113 (Nat.le_of_ble_eq_true rfl)) (xptr W 113 36 p_113_36) <| Y_iload_n dX12_weighing_38 rfl <| Y_iald dX12_weighing_39 (xarr W (o := 137) s_137 (Nat.le_of_ble_eq_true rfl)) hi39 <| Y_goto 80 dX12_weighing_40 rfl <| X_le (xle_n (xle_n (xle_n xle_0))) k
theorem bX12_weighing_43 {d : Nat} {g : xSt} {r : Option Value × xSt} {a1 a2 : Int32} (k1 : a2 = 2 → xX (d + 1) mX12_weighing 48 [some (.ref 113), some (.int a1), none] [] g = some r) (k2 : ¬ (a2 = 2) → xX (d + 1) mX12_weighing 57 [some (.ref 113), some (.int a1), some (.int a2)] [] g = some r) : xX (d + 1) mX12_weighing 43 [some (.ref 113), some (.int a1), some (.int a2)] [] g = some r :=
  Y_iload_n dX12_weighing_43 rfl <| Y_iconst 2 dX12_weighing_44 ic_2 <| Y_ne 57 dX12_weighing_45 rfl (fun q => X_le (xle_s (xle_s (xle_n xle_0))) (k1 q)) (fun q => X_le (xle_s (xle_s (xle_s xle_0))) (k2 q))
theorem bX12_weighing_48 {d : Nat} {g : xSt} {r : Option Value × xSt} {a1 : Int32} (W : xWf g) (hi53 : vp_in a1 60) (k : xX (d + 1) mX12_weighing 80 [none, none, none] [.int (xI g 138 a1.toNatClampNeg)] g = some r) : xX (d + 1) mX12_weighing 48 [some (.ref 113), some (.int a1), none] [] g = some r :=
  Y_aload_n dX12_weighing_48 rfl <| Y_getR dX12_weighing_49 f_11_89 (by rw [ft_11_37]; rfl) (xis W 113 11 s_113 (Nat.le_of_ble_eq_true rfl)) (xptr W 113 37 p_113_37) <| Y_iload_n dX12_weighing_52 rfl <| Y_iald dX12_weighing_53 (xarr W (o := 138) s_138 (Nat.le_of_ble_eq_true rfl)) hi53 <| Y_goto 80 dX12_weighing_54 rfl <| X_le (xle_n (xle_n (xle_n xle_0))) k
theorem bX12_weighing_57 {d : Nat} {g : xSt} {r : Option Value × xSt} {a1 a2 : Int32} (k1 : a2 = 3 → xX (d + 1) mX12_weighing 62 [some (.ref 113), some (.int a1), none] [] g = some r) (k2 : ¬ (a2 = 3) → xX (d + 1) mX12_weighing 79 [none, none, none] [] g = some r) : xX (d + 1) mX12_weighing 57 [some (.ref 113), some (.int a1), some (.int a2)] [] g = some r :=
  Y_iload_n dX12_weighing_57 rfl <| Y_iconst 3 dX12_weighing_58 ic_3 <| Y_ne 79 dX12_weighing_59 rfl (fun q => X_le (xle_s (xle_s (xle_n xle_0))) (k1 q)) (fun q => X_le (xle_n (xle_n (xle_n xle_0))) (k2 q))
theorem bX12_weighing_62 {d : Nat} {g : xSt} {r : Option Value × xSt} {a1 : Int32} (W : xWf g) (hi67 : vp_in a1 60) (k1 : (xI g 140 a1.toNatClampNeg) < 0 → xX (d + 1) mX12_weighing 75 [none, none, none] [] g = some r) (k2 : ¬ ((xI g 140 a1.toNatClampNeg) < 0) → xX (d + 1) mX12_weighing 71 [none, none, none] [] g = some r) : xX (d + 1) mX12_weighing 62 [some (.ref 113), some (.int a1), none] [] g = some r :=
  Y_aload_n dX12_weighing_62 rfl <| Y_getR dX12_weighing_63 f_11_95 (by rw [ft_11_39]; rfl) (xis W 113 11 s_113 (Nat.le_of_ble_eq_true rfl)) (xptr W 113 39 p_113_39) <| Y_iload_n dX12_weighing_66 rfl <| Y_iald dX12_weighing_67 (xarr W (o := 140) s_140 (Nat.le_of_ble_eq_true rfl)) hi67 <| Y_lt0 75 dX12_weighing_68 rfl (fun q => X_le (xle_n (xle_n (xle_n xle_0))) (k1 q)) (fun q => X_le (xle_n (xle_n (xle_n xle_0))) (k2 q))
theorem bX12_weighing_71 {d : Nat} {g : xSt} {r : Option Value × xSt}  (k : xX (d + 1) mX12_weighing 80 [none, none, none] [.int 1] g = some r) : xX (d + 1) mX12_weighing 71 [none, none, none] [] g = some r :=
  Y_iconst 1 dX12_weighing_71 ic_1 <| Y_goto 80 dX12_weighing_72 rfl <| X_le (xle_n (xle_n (xle_n xle_0))) k
theorem bX12_weighing_75 {d : Nat} {g : xSt} {r : Option Value × xSt}  (k : xX (d + 1) mX12_weighing 80 [none, none, none] [.int 0] g = some r) : xX (d + 1) mX12_weighing 75 [none, none, none] [] g = some r :=
  Y_iconst 0 dX12_weighing_75 ic_0 <| Y_goto 80 dX12_weighing_76 rfl <| X_le (xle_n (xle_n (xle_n xle_0))) k
theorem bX12_weighing_79 {d : Nat} {g : xSt} {r : Option Value × xSt}  (k : xX (d + 1) mX12_weighing 80 [none, none, none] [.int (-1)] g = some r) : xX (d + 1) mX12_weighing 79 [none, none, none] [] g = some r :=
  Y_iconst (-1) dX12_weighing_79 ic_m1 <| X_le (xle_n (xle_n (xle_n xle_0))) k
theorem bX12_weighing_80 {d : Nat} {g : xSt} {r : Option Value × xSt} {s0 : Int32} (k : r = (some (.int s0), g)) : xX (d + 1) mX12_weighing 80 [none, none, none] [.int s0] g = some r :=
  Y_iret dX12_weighing_80 rfl k
theorem bX12_wet_0 {d : Nat} {g : xSt} {r : Option Value × xSt} {r1 : Int32} {g1 : xSt} (W : xWf g) (hk1 : xCallM d mX12_thingMany [.ref 113] g = some (some (.int r1), g1)) (W1 : xWf g1) (k1 : r1 < 2 → xX (d + 1) mX12_wet 19 [none, none, none, none] [] g1 = some r) (k2 : ¬ (r1 < 2) → xX (d + 1) mX12_wet 10 [some (.ref 113), some (.int r1), none, none] [] g1 = some r) : xX (d + 1) mX12_wet 0 [some (.ref 113), none, none, none] [] g = some r :=
  Y_aload_n dX12_wet_0 rfl <| Y_callV1 dX12_wet_1 cl_11_364 rfl rfl (xis W 113 11 s_113 (Nat.le_of_ble_eq_true rfl)) rfl rfl rfl (hk1) <| Y_istore_n dX12_wet_4 rfl rfl <| Y_iload_n dX12_wet_5 rfl <| Y_iconst 2 dX12_wet_6 ic_2 <| Y_lt 19 dX12_wet_7 rfl (fun q => X_le (xle_n (xle_n (xle_n (xle_n xle_0)))) (k1 q)) (fun q => X_le (xle_s (xle_s (xle_n (xle_n xle_0)))) (k2 q))
theorem bX12_wet_10 {d : Nat} {g : xSt} {r : Option Value × xSt} {a1 : Int32} (W : xWf g) (k1 : (xI g 113 46) = 40 → xX (d + 1) mX12_wet 19 [none, none, none, none] [] g = some r) (k2 : ¬ ((xI g 113 46) = 40) → xX (d + 1) mX12_wet 21 [some (.ref 113), some (.int a1), none, none] [] g = some r) : xX (d + 1) mX12_wet 10 [some (.ref 113), some (.int a1), none, none] [] g = some r :=
  Y_aload_n dX12_wet_10 rfl <| Y_getI dX12_wet_11 f_11_307 ft_11_46 (xis W 113 11 s_113 (Nat.le_of_ble_eq_true rfl)) <| Y_bipush 40 dX12_wet_14 bp_40 <| Y_ne 21 dX12_wet_16 rfl (fun q => X_le (xle_n (xle_n (xle_n (xle_n xle_0)))) (k1 q)) (fun q => X_le (xle_s (xle_s (xle_n (xle_n xle_0)))) (k2 q))
theorem bX12_wet_19 {d : Nat} {g : xSt} {r : Option Value × xSt}  (k : r = (some (.int (-1)), g)) : xX (d + 1) mX12_wet 19 [none, none, none, none] [] g = some r :=
  Y_iconst (-1) dX12_wet_19 ic_m1 <| Y_iret dX12_wet_20 rfl k
theorem bX12_wet_21 {d : Nat} {g : xSt} {r : Option Value × xSt} {a1 : Int32} (k : xX (d + 1) mX12_wet 23 [some (.ref 113), some (.int a1), some (.int 0), none] [] g = some r) : xX (d + 1) mX12_wet 21 [some (.ref 113), some (.int a1), none, none] [] g = some r :=
  Y_iconst 0 dX12_wet_21 ic_0 <| Y_istore_n dX12_wet_22 rfl rfl <| X_le (xle_s (xle_s (xle_s (xle_n xle_0)))) k
theorem bX12_wet_23 {d : Nat} {g : xSt} {r : Option Value × xSt} {a1 a2 : Int32} (k1 : a1 ≤ a2 → xX (d + 1) mX12_wet 89 [some (.ref 113), some (.int a1), none, none] [] g = some r) (k2 : ¬ (a1 ≤ a2) → xX (d + 1) mX12_wet 28 [some (.ref 113), some (.int a1), some (.int a2), none] [] g = some r) : xX (d + 1) mX12_wet 23 [some (.ref 113), some (.int a1), some (.int a2), none] [] g = some r :=
  Y_iload_n dX12_wet_23 rfl <| Y_iload_n dX12_wet_24 rfl <| Y_ge 89 dX12_wet_25 rfl (fun q => X_le (xle_s (xle_s (xle_n (xle_n xle_0)))) (k1 q)) (fun q => X_le (xle_s (xle_s (xle_s (xle_n xle_0)))) (k2 q))
theorem bX12_wet_28 {d : Nat} {g : xSt} {r : Option Value × xSt} {a1 a2 : Int32} (k : xX (d + 1) mX12_wet 30 [some (.ref 113), some (.int a1), some (.int a2), some (.int a2)] [] g = some r) : xX (d + 1) mX12_wet 28 [some (.ref 113), some (.int a1), some (.int a2), none] [] g = some r :=
  Y_iload_n dX12_wet_28 rfl <| Y_istore_n dX12_wet_29 rfl rfl <| X_le (xle_s (xle_s (xle_s (xle_s xle_0)))) k
theorem bX12_wet_30 {d : Nat} {g : xSt} {r : Option Value × xSt} {a1 a2 a3 : Int32} (k1 : a3 ≤ 0 → xX (d + 1) mX12_wet 76 [some (.ref 113), some (.int a1), some (.int a2), some (.int a3)] [] g = some r) (k2 : ¬ (a3 ≤ 0) → xX (d + 1) mX12_wet 34 [some (.ref 113), some (.int a1), some (.int a2), some (.int a3)] [] g = some r) : xX (d + 1) mX12_wet 30 [some (.ref 113), some (.int a1), some (.int a2), some (.int a3)] [] g = some r :=
  Y_iload_n dX12_wet_30 rfl <| Y_le0 76 dX12_wet_31 rfl (fun q => X_le (xle_s (xle_s (xle_s (xle_s xle_0)))) (k1 q)) (fun q => X_le (xle_s (xle_s (xle_s (xle_s xle_0)))) (k2 q))
theorem bX12_wet_34 {d : Nat} {g : xSt} {r : Option Value × xSt} {a1 a2 a3 : Int32} (W : xWf g) (hi45 : vp_in (a3 - 1) 5) (hi46 : vp_in (xI g 144 (a3 - 1).toNatClampNeg) 5) (hi52 : vp_in a2 5) (k1 : (xI g 143 a2.toNatClampNeg) ≤ (xI g 143 (xI g 144 (a3 - 1).toNatClampNeg).toNatClampNeg) → xX (d + 1) mX12_wet 76 [some (.ref 113), some (.int a1), some (.int a2), some (.int a3)] [] g = some r) (k2 : ¬ ((xI g 143 a2.toNatClampNeg) ≤ (xI g 143 (xI g 144 (a3 - 1).toNatClampNeg).toNatClampNeg)) → xX (d + 1) mX12_wet 56 [some (.ref 113), some (.int a1), some (.int a2), some (.int a3)] [] g = some r) : xX (d + 1) mX12_wet 34 [some (.ref 113), some (.int a1), some (.int a2), some (.int a3)] [] g = some r :=
  Y_aload_n dX12_wet_34 rfl <| Y_getR dX12_wet_35 f_11_104 (by rw [ft_11_42]; rfl) (xis W 113 11 s_113 (Nat.le_of_ble_eq_true rfl)) (xptr W 113 42 p_113_42) <| Y_aload_n dX12_wet_38 rfl <| Y_getR dX12_wet_39 f_11_107 (by rw [ft_11_43]; rfl) (xis W 113 11 s_113 (Nat.le_of_ble_eq_true rfl)) (xptr W 113 43 p_113_43) <| Y_iload_n dX12_wet_42 rfl <| Y_iconst 1 dX12_wet_43 ic_1 <| Y_isub dX12_wet_44 <| Y_iald dX12_wet_45 (xarr W (o := 144) s_144 (Nat.le_of_ble_eq_true rfl)) hi45 <| Y_iald dX12_wet_46 (xarr W (o := 143) s_143 (Nat.le_of_ble_eq_true rfl)) hi46 <| Y_aload_n dX12_wet_47 rfl <| Y_getR dX12_wet_48 f_11_104 (by rw [ft_11_42]; rfl) (xis W 113 11 s_113 (Nat.le_of_ble_eq_true rfl)) (xptr W 113 42 p_113_42) <| Y_iload_n dX12_wet_51 rfl <| Y_iald dX12_wet_52 (xarr W (o := 143) s_143 (Nat.le_of_ble_eq_true rfl)) hi52 <| Y_ge 76 dX12_wet_53 rfl (fun q => X_le (xle_s (xle_s (xle_s (xle_s xle_0)))) (k1 q)) (fun q => X_le (xle_s (xle_s (xle_s (xle_s xle_0)))) (k2 q))
theorem bX12_wet_56 {d : Nat} {g : xSt} {r : Option Value × xSt} {a1 a2 a3 : Int32} (W : xWf g) (hi68 : vp_in (a3 - 1) 5) (hi69 : vp_in a3 5) (k : xX (d + 1) mX12_wet 30 [some (.ref 113), some (.int a1), some (.int a2), some (.int (a3 + (-1)))] [] (xWI g 144 a3.toNatClampNeg (xI g 144 (a3 - 1).toNatClampNeg)) = some r) : xX (d + 1) mX12_wet 56 [some (.ref 113), some (.int a1), some (.int a2), some (.int a3)] [] g = some r :=
  Y_aload_n dX12_wet_56 rfl <| Y_getR dX12_wet_57 f_11_107 (by rw [ft_11_43]; rfl) (xis W 113 11 s_113 (Nat.le_of_ble_eq_true rfl)) (xptr W 113 43 p_113_43) <| Y_iload_n dX12_wet_60 rfl <| Y_aload_n dX12_wet_61 rfl <| Y_getR dX12_wet_62 f_11_107 (by rw [ft_11_43]; rfl) (xis W 113 11 s_113 (Nat.le_of_ble_eq_true rfl)) (xptr W 113 43 p_113_43) <| Y_iload_n dX12_wet_65 rfl <| Y_iconst 1 dX12_wet_66 ic_1 <| Y_isub dX12_wet_67 <| Y_iald dX12_wet_68 (xarr W (o := 144) s_144 (Nat.le_of_ble_eq_true rfl)) hi68 <| Y_iast dX12_wet_69 (xarr W (o := 144) s_144 (Nat.le_of_ble_eq_true rfl)) hi69 <| Y_iinc (-1) dX12_wet_70 rfl ic_m1 rfl rfl <| Y_goto 30 dX12_wet_73 rfl <| X_le (xle_s (xle_s (xle_s (xle_s xle_0)))) k
theorem bX12_wet_76 {d : Nat} {g : xSt} {r : Option Value × xSt} {a1 a2 a3 : Int32} (W : xWf g) (hi82 : vp_in a3 5) (k : xX (d + 1) mX12_wet 23 [some (.ref 113), some (.int a1), some (.int (a2 + 1)), none] [] (xWI g 144 a3.toNatClampNeg a2) = some r) : xX (d + 1) mX12_wet 76 [some (.ref 113), some (.int a1), some (.int a2), some (.int a3)] [] g = some r :=
  Y_aload_n dX12_wet_76 rfl <| Y_getR dX12_wet_77 f_11_107 (by rw [ft_11_43]; rfl) (xis W 113 11 s_113 (Nat.le_of_ble_eq_true rfl)) (xptr W 113 43 p_113_43) <| Y_iload_n dX12_wet_80 rfl <| Y_iload_n dX12_wet_81 rfl <| Y_iast dX12_wet_82 (xarr W (o := 144) s_144 (Nat.le_of_ble_eq_true rfl)) hi82 <| Y_iinc 1 dX12_wet_83 rfl ic_1 rfl rfl <| Y_goto 23 dX12_wet_86 rfl <| X_le (xle_s (xle_s (xle_s (xle_n xle_0)))) k
theorem bX12_wet_89 {d : Nat} {g : xSt} {r : Option Value × xSt} {a1 : Int32} (W : xWf g) (hz115 : ¬ (a1 - 1) = 0) (hi126 : vp_in ((((137 * (xI g 113 47)) + 71) - ((137 * (xI g 113 47)) + 71) / 1000 * 1000) - (((137 * (xI g 113 47)) + 71) - ((137 * (xI g 113 47)) + 71) / 1000 * 1000) / (a1 - 1) * (a1 - 1)) 5) (hi127 : vp_in (xI g 144 ((((137 * (xI g 113 47)) + 71) - ((137 * (xI g 113 47)) + 71) / 1000 * 1000) - (((137 * (xI g 113 47)) + 71) - ((137 * (xI g 113 47)) + 71) / 1000 * 1000) / (a1 - 1) * (a1 - 1)).toNatClampNeg) 5) (hi138 : vp_in ((((137 * (xI g 113 47)) + 71) - ((137 * (xI g 113 47)) + 71) / 1000 * 1000) - (((137 * (xI g 113 47)) + 71) - ((137 * (xI g 113 47)) + 71) / 1000 * 1000) / (a1 - 1) * (a1 - 1)) 5) (hi150 : vp_in (((((137 * (xI g 113 47)) + 71) - ((137 * (xI g 113 47)) + 71) / 1000 * 1000) - (((137 * (xI g 113 47)) + 71) - ((137 * (xI g 113 47)) + 71) / 1000 * 1000) / (a1 - 1) * (a1 - 1)) + 1) 5) (hi151 : vp_in (xI g 144 (((((137 * (xI g 113 47)) + 71) - ((137 * (xI g 113 47)) + 71) / 1000 * 1000) - (((137 * (xI g 113 47)) + 71) - ((137 * (xI g 113 47)) + 71) / 1000 * 1000) / (a1 - 1) * (a1 - 1)) + 1).toNatClampNeg) 5) (hi152 : vp_in (xI g 144 ((((137 * (xI g 113 47)) + 71) - ((137 * (xI g 113 47)) + 71) / 1000 * 1000) - (((137 * (xI g 113 47)) + 71) - ((137 * (xI g 113 47)) + 71) / 1000 * 1000) / (a1 - 1) * (a1 - 1)).toNatClampNeg) 5) (k : xX (d + 1) mX12_wet 153 [some (.ref 113), none, some (.int ((((137 * (xI g 113 47)) + 71) - ((137 * (xI g 113 47)) + 71) / 1000 * 1000) - (((137 * (xI g 113 47)) + 71) - ((137 * (xI g 113 47)) + 71) / 1000 * 1000) / (a1 - 1) * (a1 - 1))), some (.int (xI g 143 (xI g 144 ((((137 * (xI g 113 47)) + 71) - ((137 * (xI g 113 47)) + 71) / 1000 * 1000) - (((137 * (xI g 113 47)) + 71) - ((137 * (xI g 113 47)) + 71) / 1000 * 1000) / (a1 - 1) * (a1 - 1)).toNatClampNeg).toNatClampNeg))] [] (xWI (xWI g 113 47 (((137 * (xI g 113 47)) + 71) - ((137 * (xI g 113 47)) + 71) / 1000 * 1000)) 143 (xI g 144 ((((137 * (xI g 113 47)) + 71) - ((137 * (xI g 113 47)) + 71) / 1000 * 1000) - (((137 * (xI g 113 47)) + 71) - ((137 * (xI g 113 47)) + 71) / 1000 * 1000) / (a1 - 1) * (a1 - 1)).toNatClampNeg).toNatClampNeg (xI g 143 (xI g 144 (((((137 * (xI g 113 47)) + 71) - ((137 * (xI g 113 47)) + 71) / 1000 * 1000) - (((137 * (xI g 113 47)) + 71) - ((137 * (xI g 113 47)) + 71) / 1000 * 1000) / (a1 - 1) * (a1 - 1)) + 1).toNatClampNeg).toNatClampNeg)) = some r) : xX (d + 1) mX12_wet 89 [some (.ref 113), some (.int a1), none, none] [] g = some r :=
  Y_aload_n dX12_wet_89 rfl <| Y_sipush 137 dX12_wet_90 sp_137 <| Y_aload_n dX12_wet_93 rfl <| Y_getI dX12_wet_94 f_11_310 ft_11_47 (xis W 113 11 s_113 (Nat.le_of_ble_eq_true rfl)) <| Y_imul dX12_wet_97 <| Y_bipush 71 dX12_wet_98 bp_71 <| Y_iadd dX12_wet_100 <| Y_sipush 1000 dX12_wet_101 sp_1000 <| Y_irem dX12_wet_104 (by decide) <| Y_putI dX12_wet_105 f_11_310 fn_11_47 ft_11_47 (xis W 113 11 s_113 (Nat.le_of_ble_eq_true rfl)) <| Y_aload_n dX12_wet_108 rfl <| Y_getI dX12_wet_109 f_11_310 ft_11_47 (xis W 113 11 s_113 (Nat.le_of_ble_eq_true rfl)) <| Y_iload_n dX12_wet_112 rfl <| Y_iconst 1 dX12_wet_113 ic_1 <| Y_isub dX12_wet_114 <| Y_irem dX12_wet_115 (hz115) <| Y_istore_n dX12_wet_116 rfl rfl <| Y_aload_n dX12_wet_117 rfl <| Y_getR dX12_wet_118 f_11_104 (by rw [ft_11_42]; rfl) (xis W 113 11 s_113 (Nat.le_of_ble_eq_true rfl)) (xptr W 113 42 p_113_42) <| Y_aload_n dX12_wet_121 rfl <| Y_getR dX12_wet_122 f_11_107 (by rw [ft_11_43]; rfl) (xis W 113 11 s_113 (Nat.le_of_ble_eq_true rfl)) (xptr W 113 43 p_113_43) <| Y_iload_n dX12_wet_125 rfl <| Y_iald dX12_wet_126 (xarr W (o := 144) s_144 (Nat.le_of_ble_eq_true rfl)) hi126 <| Y_iald dX12_wet_127 (xarr W (o := 143) s_143 (Nat.le_of_ble_eq_true rfl)) hi127 <| Y_istore_n dX12_wet_128 rfl rfl <| Y_aload_n dX12_wet_129 rfl <| Y_getR dX12_wet_130 f_11_104 (by rw [ft_11_42]; rfl) (xis W 113 11 s_113 (Nat.le_of_ble_eq_true rfl)) (xptr W 113 42 p_113_42) <| Y_aload_n dX12_wet_133 rfl <| Y_getR dX12_wet_134 f_11_107 (by rw [ft_11_43]; rfl) (xis W 113 11 s_113 (Nat.le_of_ble_eq_true rfl)) (xptr W 113 43 p_113_43) <| Y_iload_n dX12_wet_137 rfl <| Y_iald dX12_wet_138 (xarr W (o := 144) s_144 (Nat.le_of_ble_eq_true rfl)) hi138 <| Y_aload_n dX12_wet_139 rfl <| Y_getR dX12_wet_140 f_11_104 (by rw [ft_11_42]; rfl) (xis W 113 11 s_113 (Nat.le_of_ble_eq_true rfl)) (xptr W 113 42 p_113_42) <| Y_aload_n dX12_wet_143 rfl <| Y_getR dX12_wet_144 f_11_107 (by rw [ft_11_43]; rfl) (xis W 113 11 s_113 (Nat.le_of_ble_eq_true rfl)) (xptr W 113 43 p_113_43) <| Y_iload_n dX12_wet_147 rfl <| Y_iconst 1 dX12_wet_148 ic_1 <| Y_iadd dX12_wet_149 <| Y_iald dX12_wet_150 (xarr W (o := 144) s_144 (Nat.le_of_ble_eq_true rfl)) hi150 <| Y_iald dX12_wet_151 (xarr W (o := 143) s_143 (Nat.le_of_ble_eq_true rfl)) hi151 <| Y_iast dX12_wet_152 (xarr W (o := 143) s_143 (Nat.le_of_ble_eq_true rfl)) hi152 <| X_le (xle_s (xle_n (xle_s (xle_s xle_0)))) k
theorem bX12_wet_153 {d : Nat} {g : xSt} {r : Option Value × xSt} {a2 a3 : Int32} (W : xWf g) (hi164 : vp_in (a2 + 1) 5) (hi166 : vp_in (xI g 144 (a2 + 1).toNatClampNeg) 5) (hi179 : vp_in (xI g 113 46) 40) (hi192 : vp_in (xI g 113 46) 40) (k : r = (some (.int a2), xWI (xWI (xWI (xWI g 143 (xI g 144 (a2 + 1).toNatClampNeg).toNatClampNeg a3) 141 (xI g 113 46).toNatClampNeg (xI g 113 45)) 142 (xI g 113 46).toNatClampNeg (xI g 113 44)) 113 46 ((xI g 113 46) + 1))) : xX (d + 1) mX12_wet 153 [some (.ref 113), none, some (.int a2), some (.int a3)] [] g = some r :=
  Y_aload_n dX12_wet_153 rfl <| Y_getR dX12_wet_154 f_11_104 (by rw [ft_11_42]; rfl) (xis W 113 11 s_113 (Nat.le_of_ble_eq_true rfl)) (xptr W 113 42 p_113_42) <| Y_aload_n dX12_wet_157 rfl <| Y_getR dX12_wet_158 f_11_107 (by rw [ft_11_43]; rfl) (xis W 113 11 s_113 (Nat.le_of_ble_eq_true rfl)) (xptr W 113 43 p_113_43) <| Y_iload_n dX12_wet_161 rfl <| Y_iconst 1 dX12_wet_162 ic_1 <| Y_iadd dX12_wet_163 <| Y_iald dX12_wet_164 (xarr W (o := 144) s_144 (Nat.le_of_ble_eq_true rfl)) hi164 <| Y_iload_n dX12_wet_165 rfl <| Y_iast dX12_wet_166 (xarr W (o := 143) s_143 (Nat.le_of_ble_eq_true rfl)) hi166 <| Y_aload_n dX12_wet_167 rfl <| Y_getR dX12_wet_168 f_11_98 (by rw [ft_11_40]; rfl) (xis W 113 11 s_113 (Nat.le_of_ble_eq_true rfl)) (xptr W 113 40 p_113_40) <| Y_aload_n dX12_wet_171 rfl <| Y_getI dX12_wet_172 f_11_307 ft_11_46 (xis W 113 11 s_113 (Nat.le_of_ble_eq_true rfl)) <| Y_aload_n dX12_wet_175 rfl <| Y_getI dX12_wet_176 f_11_377 ft_11_45 (xis W 113 11 s_113 (Nat.le_of_ble_eq_true rfl)) <| Y_iast dX12_wet_179 (xarr W (o := 141) s_141 (Nat.le_of_ble_eq_true rfl)) hi179 <| Y_aload_n dX12_wet_180 rfl <| Y_getR dX12_wet_181 f_11_101 (by rw [ft_11_41]; rfl) (xis W 113 11 s_113 (Nat.le_of_ble_eq_true rfl)) (xptr W 113 41 p_113_41) <| Y_aload_n dX12_wet_184 rfl <| Y_getI dX12_wet_185 f_11_307 ft_11_46 (xis W 113 11 s_113 (Nat.le_of_ble_eq_true rfl)) <| Y_aload_n dX12_wet_188 rfl <| Y_getI dX12_wet_189 f_11_304 ft_11_44 (xis W 113 11 s_113 (Nat.le_of_ble_eq_true rfl)) <| Y_iast dX12_wet_192 (xarr W (o := 142) s_142 (Nat.le_of_ble_eq_true rfl)) hi192 <| Y_aload_n dX12_wet_193 rfl <| Y_dup dX12_wet_194 rfl <| Y_getI dX12_wet_195 f_11_307 ft_11_46 (xis W 113 11 s_113 (Nat.le_of_ble_eq_true rfl)) <| Y_iconst 1 dX12_wet_198 ic_1 <| Y_iadd dX12_wet_199 <| Y_putI dX12_wet_200 f_11_307 fn_11_46 ft_11_46 (xis W 113 11 s_113 (Nat.le_of_ble_eq_true rfl)) <| Y_iload_n dX12_wet_203 rfl <| Y_iret dX12_wet_204 rfl k
theorem bX12_untell_0 {d : Nat} {g : xSt} {r : Option Value × xSt} {a1 r8 : Int32} {g8 : xSt} (W : xWf g) (hk8 : xCallM d mX12_isIn [.int a1, .int 0, .int ((xI g 113 44) - 1)] g = some (some (.int r8), g8)) (W8 : xWf g8) (k1 : r8 = 0 → xX (d + 1) mX12_untell 23 [none, none] [] g8 = some r) (k2 : ¬ (r8 = 0) → xX (d + 1) mX12_untell 14 [some (.ref 113), some (.int a1)] [] g8 = some r) : xX (d + 1) mX12_untell 0 [some (.ref 113), some (.int a1)] [] g = some r :=
  Y_iload_n dX12_untell_0 rfl <| Y_iconst 0 dX12_untell_1 ic_0 <| Y_aload_n dX12_untell_2 rfl <| Y_getI dX12_untell_3 f_11_304 ft_11_44 (xis W 113 11 s_113 (Nat.le_of_ble_eq_true rfl)) <| Y_iconst 1 dX12_untell_6 ic_1 <| Y_isub dX12_untell_7 <| Y_callS1 dX12_untell_8 cl_11_367 rfl rfl rfl rfl rfl (hk8) <| Y_eq0 23 dX12_untell_11 rfl (fun q => X_le (xle_n (xle_n xle_0)) (k1 q)) (fun q => X_le (xle_s (xle_s xle_0)) (k2 q))
theorem bX12_untell_14 {d : Nat} {g : xSt} {r : Option Value × xSt} {a1 : Int32} (W : xWf g) (hi19 : vp_in a1 60) (k1 : (xI g 140 a1.toNatClampNeg) < 0 → xX (d + 1) mX12_untell 25 [some (.ref 113), some (.int a1)] [] g = some r) (k2 : ¬ ((xI g 140 a1.toNatClampNeg) < 0) → xX (d + 1) mX12_untell 23 [none, none] [] g = some r) : xX (d + 1) mX12_untell 14 [some (.ref 113), some (.int a1)] [] g = some r :=
  Y_aload_n dX12_untell_14 rfl <| Y_getR dX12_untell_15 f_11_95 (by rw [ft_11_39]; rfl) (xis W 113 11 s_113 (Nat.le_of_ble_eq_true rfl)) (xptr W 113 39 p_113_39) <| Y_iload_n dX12_untell_18 rfl <| Y_iald dX12_untell_19 (xarr W (o := 140) s_140 (Nat.le_of_ble_eq_true rfl)) hi19 <| Y_lt0 25 dX12_untell_20 rfl (fun q => X_le (xle_s (xle_s xle_0)) (k1 q)) (fun q => X_le (xle_n (xle_n xle_0)) (k2 q))
theorem bX12_untell_23 {d : Nat} {g : xSt} {r : Option Value × xSt}  (k : r = (some (.int 0), g)) : xX (d + 1) mX12_untell 23 [none, none] [] g = some r :=
  Y_iconst 0 dX12_untell_23 ic_0 <| Y_zret dX12_untell_24 rfl (by decide) k
theorem bX12_untell_25 {d : Nat} {g : xSt} {r : Option Value × xSt} {a1 : Int32} (W : xWf g) (hi34 : vp_in a1 60) (k : r = (some (.int 1), xWI g 140 a1.toNatClampNeg (xI g 113 45))) : xX (d + 1) mX12_untell 25 [some (.ref 113), some (.int a1)] [] g = some r :=
  Y_aload_n dX12_untell_25 rfl <| Y_getR dX12_untell_26 f_11_95 (by rw [ft_11_39]; rfl) (xis W 113 11 s_113 (Nat.le_of_ble_eq_true rfl)) (xptr W 113 39 p_113_39) <| Y_iload_n dX12_untell_29 rfl <| Y_aload_n dX12_untell_30 rfl <| Y_getI dX12_untell_31 f_11_377 ft_11_45 (xis W 113 11 s_113 (Nat.le_of_ble_eq_true rfl)) <| Y_iast dX12_untell_34 (xarr W (o := 140) s_140 (Nat.le_of_ble_eq_true rfl)) hi34 <| Y_iconst 1 dX12_untell_35 ic_1 <| Y_zret dX12_untell_36 rfl (by decide) k
theorem bX12_later_0 {d : Nat} {g : xSt} {r : Option Value × xSt} {a1 r5 : Int32} {g5 : xSt} (hk5 : xCallM d mX12_isIn [.int a1, .int 0, .int 1000] g = some (some (.int r5), g5)) (W5 : xWf g5) (k1 : r5 = 0 → xX (d + 1) mX12_later 23 [none, none] [] g5 = some r) (k2 : ¬ (r5 = 0) → xX (d + 1) mX12_later 11 [some (.ref 113), some (.int a1)] [] g5 = some r) : xX (d + 1) mX12_later 0 [some (.ref 113), some (.int a1)] [] g = some r :=
  Y_iload_n dX12_later_0 rfl <| Y_iconst 0 dX12_later_1 ic_0 <| Y_sipush 1000 dX12_later_2 sp_1000 <| Y_callS1 dX12_later_5 cl_11_367 rfl rfl rfl rfl rfl (hk5) <| Y_eq0 23 dX12_later_8 rfl (fun q => X_le (xle_n (xle_n xle_0)) (k1 q)) (fun q => X_le (xle_s (xle_s xle_0)) (k2 q))
theorem bX12_later_11 {d : Nat} {g : xSt} {r : Option Value × xSt} {a1 : Int32} (W : xWf g) (k1 : ((xI g 113 45) + a1) ≤ 100000 → xX (d + 1) mX12_later 25 [some (.ref 113), some (.int a1)] [] g = some r) (k2 : ¬ (((xI g 113 45) + a1) ≤ 100000) → xX (d + 1) mX12_later 23 [none, none] [] g = some r) : xX (d + 1) mX12_later 11 [some (.ref 113), some (.int a1)] [] g = some r :=
  Y_aload_n dX12_later_11 rfl <| Y_getI dX12_later_12 f_11_377 ft_11_45 (xis W 113 11 s_113 (Nat.le_of_ble_eq_true rfl)) <| Y_iload_n dX12_later_15 rfl <| Y_iadd dX12_later_16 <| Y_ldc_w dX12_later_17 ki_11_391 <| Y_le 25 dX12_later_20 rfl (fun q => X_le (xle_s (xle_s xle_0)) (k1 q)) (fun q => X_le (xle_n (xle_n xle_0)) (k2 q))
theorem bX12_later_23 {d : Nat} {g : xSt} {r : Option Value × xSt}  (k : r = (some (.int (-1)), g)) : xX (d + 1) mX12_later 23 [none, none] [] g = some r :=
  Y_iconst (-1) dX12_later_23 ic_m1 <| Y_iret dX12_later_24 rfl k
theorem bX12_later_25 {d : Nat} {g : xSt} {r : Option Value × xSt} {a1 : Int32} (W : xWf g) (k : r = (some (.int ((xI g 113 45) + a1)), xWI g 113 45 ((xI g 113 45) + a1))) : xX (d + 1) mX12_later 25 [some (.ref 113), some (.int a1)] [] g = some r :=
  Y_aload_n dX12_later_25 rfl <| Y_dup dX12_later_26 rfl <| Y_getI dX12_later_27 f_11_377 ft_11_45 (xis W 113 11 s_113 (Nat.le_of_ble_eq_true rfl)) <| Y_iload_n dX12_later_30 rfl <| Y_iadd dX12_later_31 <| Y_putI dX12_later_32 f_11_377 fn_11_45 ft_11_45 (xis W 113 11 s_113 (Nat.le_of_ble_eq_true rfl)) <| Y_aload_n dX12_later_35 rfl <| Y_getI dX12_later_36 f_11_377 ft_11_45 (xis W 113 11 s_113 (Nat.le_of_ble_eq_true rfl)) <| Y_iret dX12_later_39 rfl k
theorem bX12_lies_0 {d : Nat} {g : xSt} {r : Option Value × xSt} {a1 r8 : Int32} {g8 : xSt} (W : xWf g) (hk8 : xCallM d mX12_isIn [.int a1, .int 0, .int ((xI g 113 54) - 1)] g = some (some (.int r8), g8)) (W8 : xWf g8) (k1 : r8 = 0 → xX (d + 1) mX12_lies 23 [none, none] [] g8 = some r) (k2 : ¬ (r8 = 0) → xX (d + 1) mX12_lies 14 [some (.ref 113), some (.int a1)] [] g8 = some r) : xX (d + 1) mX12_lies 0 [some (.ref 113), some (.int a1)] [] g = some r :=
  Y_iload_n dX12_lies_0 rfl <| Y_iconst 0 dX12_lies_1 ic_0 <| Y_aload_n dX12_lies_2 rfl <| Y_getI dX12_lies_3 f_11_313 ft_11_54 (xis W 113 11 s_113 (Nat.le_of_ble_eq_true rfl)) <| Y_iconst 1 dX12_lies_6 ic_1 <| Y_isub dX12_lies_7 <| Y_callS1 dX12_lies_8 cl_11_367 rfl rfl rfl rfl rfl (hk8) <| Y_eq0 23 dX12_lies_11 rfl (fun q => X_le (xle_n (xle_n xle_0)) (k1 q)) (fun q => X_le (xle_s (xle_s xle_0)) (k2 q))
theorem bX12_lies_14 {d : Nat} {g : xSt} {r : Option Value × xSt} {a1 : Int32} (W : xWf g) (hi19 : vp_in a1 25) (k : xX (d + 1) mX12_lies 24 [none, none] [.int (xI g 149 a1.toNatClampNeg)] g = some r) : xX (d + 1) mX12_lies 14 [some (.ref 113), some (.int a1)] [] g = some r :=
  Y_aload_n dX12_lies_14 rfl <| Y_getR dX12_lies_15 f_11_122 (by rw [ft_11_52]; rfl) (xis W 113 11 s_113 (Nat.le_of_ble_eq_true rfl)) (xptr W 113 52 p_113_52) <| Y_iload_n dX12_lies_18 rfl <| Y_iald dX12_lies_19 (xarr W (o := 149) s_149 (Nat.le_of_ble_eq_true rfl)) hi19 <| Y_goto 24 dX12_lies_20 rfl <| X_le (xle_n (xle_n xle_0)) k
theorem bX12_lies_23 {d : Nat} {g : xSt} {r : Option Value × xSt}  (k : xX (d + 1) mX12_lies 24 [none, none] [.int (-1)] g = some r) : xX (d + 1) mX12_lies 23 [none, none] [] g = some r :=
  Y_iconst (-1) dX12_lies_23 ic_m1 <| X_le (xle_n (xle_n xle_0)) k
theorem bX12_lies_24 {d : Nat} {g : xSt} {r : Option Value × xSt} {s0 : Int32} (k : r = (some (.int s0), g)) : xX (d + 1) mX12_lies 24 [none, none] [.int s0] g = some r :=
  Y_iret dX12_lies_24 rfl k
theorem bX12_left_0 {d : Nat} {g : xSt} {r : Option Value × xSt} {a1 a2 r9 : Int32} {g9 : xSt} (W : xWf g) (hk9 : xCallM d mX12_isIn [.int a1, .int 0, .int 60] (xWI g 113 54 0) = some (some (.int r9), g9)) (W9 : xWf g9) (k1 : r9 = 0 → xX (d + 1) mX12_left 15 [none, none, none] [] g9 = some r) (k2 : ¬ (r9 = 0) → xX (d + 1) mX12_left 17 [some (.ref 113), some (.int a1), some (.int a2)] [] g9 = some r) : xX (d + 1) mX12_left 0 [some (.ref 113), some (.int a1), some (.int a2)] [] g = some r :=
  Y_aload_n dX12_left_0 rfl <| Y_iconst 0 dX12_left_1 ic_0 <| Y_putI dX12_left_2 f_11_313 fn_11_54 ft_11_54 (xis W 113 11 s_113 (Nat.le_of_ble_eq_true rfl)) <| Y_iload_n dX12_left_5 rfl <| Y_iconst 0 dX12_left_6 ic_0 <| Y_bipush 60 dX12_left_7 bp_60 <| Y_callS1 dX12_left_9 cl_11_367 rfl rfl rfl rfl rfl (hk9) <| Y_ne0 17 dX12_left_12 rfl (fun q => X_le (xle_n (xle_n (xle_n xle_0))) (k1 q)) (fun q => X_le (xle_s (xle_s (xle_s xle_0))) (k2 q))
theorem bX12_left_15 {d : Nat} {g : xSt} {r : Option Value × xSt}  (k : r = (some (.int (-1)), g)) : xX (d + 1) mX12_left 15 [none, none, none] [] g = some r :=
  Y_iconst (-1) dX12_left_15 ic_m1 <| Y_iret dX12_left_16 rfl k
theorem bX12_left_17 {d : Nat} {g : xSt} {r : Option Value × xSt} {a1 a2 : Int32} {g20 : xSt} (W : xWf g) (hk20 : xCallM d mX12_layLeft [.ref 113, .int a1, .int a2] g = some (none, g20)) (W20 : xWf g20) (k1 : (xI g20 113 53) ≤ 0 → xX (d + 1) mX12_left 40 [some (.ref 113), none, none] [] g20 = some r) (k2 : ¬ ((xI g20 113 53) ≤ 0) → xX (d + 1) mX12_left 30 [some (.ref 113), none, none] [] g20 = some r) : xX (d + 1) mX12_left 17 [some (.ref 113), some (.int a1), some (.int a2)] [] g = some r :=
  Y_aload_n dX12_left_17 rfl <| Y_iload_n dX12_left_18 rfl <| Y_iload_n dX12_left_19 rfl <| Y_callV0 dX12_left_20 cl_11_414 rfl rfl (xis W 113 11 s_113 (Nat.le_of_ble_eq_true rfl)) rfl rfl rfl (hk20) <| Y_aload_n dX12_left_23 rfl <| Y_getI dX12_left_24 f_11_408 ft_11_53 (xis W20 113 11 s_113 (Nat.le_of_ble_eq_true rfl)) <| Y_le0 40 dX12_left_27 rfl (fun q => X_le (xle_s (xle_n (xle_n xle_0))) (k1 q)) (fun q => X_le (xle_s (xle_n (xle_n xle_0))) (k2 q))
theorem bX12_left_30 {d : Nat} {g : xSt} {r : Option Value × xSt} {g37 : xSt} (W : xWf g) (hi36 : vp_in 0 541) (hk37 : xCallM d mX12_layPlaces [.ref 113, .int (xI g 145 (0 : Int32).toNatClampNeg)] g = some (none, g37)) (W37 : xWf g37) (k : xX (d + 1) mX12_left 40 [some (.ref 113), none, none] [] g37 = some r) : xX (d + 1) mX12_left 30 [some (.ref 113), none, none] [] g = some r :=
  Y_aload_n dX12_left_30 rfl <| Y_aload_n dX12_left_31 rfl <| Y_getR dX12_left_32 f_11_110 (by rw [ft_11_48]; rfl) (xis W 113 11 s_113 (Nat.le_of_ble_eq_true rfl)) (xptr W 113 48 p_113_48) <| Y_iconst 0 dX12_left_35 ic_0 <| Y_iald dX12_left_36 (xarr W (o := 145) s_145 (Nat.le_of_ble_eq_true rfl)) hi36 <| Y_callV0 dX12_left_37 cl_11_417 rfl rfl (xis W 113 11 s_113 (Nat.le_of_ble_eq_true rfl)) rfl rfl rfl (hk37) <| X_le (xle_s (xle_n (xle_n xle_0))) k
theorem bX12_left_40 {d : Nat} {g : xSt} {r : Option Value × xSt}  (W : xWf g) (k : r = (some (.int (xI g 113 53)), g)) : xX (d + 1) mX12_left 40 [some (.ref 113), none, none] [] g = some r :=
  Y_aload_n dX12_left_40 rfl <| Y_getI dX12_left_41 f_11_408 ft_11_53 (xis W 113 11 s_113 (Nat.le_of_ble_eq_true rfl)) <| Y_iret dX12_left_44 rfl k
theorem bX12_layLeft_0 {d : Nat} {g : xSt} {r : Option Value × xSt} {a1 a2 : Int32} (W : xWf g) (k : xX (d + 1) mX12_layLeft 7 [some (.ref 113), some (.int a1), some (.int a2), some (.int 0)] [] (xWI g 113 53 0) = some r) : xX (d + 1) mX12_layLeft 0 [some (.ref 113), some (.int a1), some (.int a2), none] [] g = some r :=
  Y_aload_n dX12_layLeft_0 rfl <| Y_iconst 0 dX12_layLeft_1 ic_0 <| Y_putI dX12_layLeft_2 f_11_408 fn_11_53 ft_11_53 (xis W 113 11 s_113 (Nat.le_of_ble_eq_true rfl)) <| Y_iconst 0 dX12_layLeft_5 ic_0 <| Y_istore_n dX12_layLeft_6 rfl rfl <| X_le (xle_s (xle_s (xle_s (xle_s xle_0)))) k
theorem bX12_layLeft_7 {d : Nat} {g : xSt} {r : Option Value × xSt} {a1 a2 a3 : Int32} (W : xWf g) (k1 : (xI g 113 34) ≤ a3 → xX (d + 1) mX12_layLeft 54 [none, none, none, none] [] g = some r) (k2 : ¬ ((xI g 113 34) ≤ a3) → xX (d + 1) mX12_layLeft 15 [some (.ref 113), some (.int a1), some (.int a2), some (.int a3)] [] g = some r) : xX (d + 1) mX12_layLeft 7 [some (.ref 113), some (.int a1), some (.int a2), some (.int a3)] [] g = some r :=
  Y_iload_n dX12_layLeft_7 rfl <| Y_aload_n dX12_layLeft_8 rfl <| Y_getI dX12_layLeft_9 f_11_371 ft_11_34 (xis W 113 11 s_113 (Nat.le_of_ble_eq_true rfl)) <| Y_ge 54 dX12_layLeft_12 rfl (fun q => X_le (xle_n (xle_n (xle_n (xle_n xle_0)))) (k1 q)) (fun q => X_le (xle_s (xle_s (xle_s (xle_s xle_0)))) (k2 q))
theorem bX12_layLeft_15 {d : Nat} {g : xSt} {r : Option Value × xSt} {a1 a2 a3 r18 : Int32} {g18 : xSt} (W : xWf g) (hk18 : xCallM d mX12_wrongBy [.ref 113, .int a3, .int a2] g = some (some (.int r18), g18)) (W18 : xWf g18) (k1 : r18 ≤ a1 → xX (d + 1) mX12_layLeft 28 [some (.ref 113), some (.int a1), some (.int a2), some (.int a3)] [] g18 = some r) (k2 : ¬ (r18 ≤ a1) → xX (d + 1) mX12_layLeft 25 [some (.ref 113), some (.int a1), some (.int a2), some (.int a3)] [] g18 = some r) : xX (d + 1) mX12_layLeft 15 [some (.ref 113), some (.int a1), some (.int a2), some (.int a3)] [] g = some r :=
  Y_aload_n dX12_layLeft_15 rfl <| Y_iload_n dX12_layLeft_16 rfl <| Y_iload_n dX12_layLeft_17 rfl <| Y_callV1 dX12_layLeft_18 cl_11_411 rfl rfl (xis W 113 11 s_113 (Nat.le_of_ble_eq_true rfl)) rfl rfl rfl (hk18) <| Y_iload_n dX12_layLeft_21 rfl <| Y_le 28 dX12_layLeft_22 rfl (fun q => X_le (xle_s (xle_s (xle_s (xle_s xle_0)))) (k1 q)) (fun q => X_le (xle_s (xle_s (xle_s (xle_s xle_0)))) (k2 q))
theorem bX12_layLeft_25 {d : Nat} {g : xSt} {r : Option Value × xSt} {a1 a2 a3 : Int32} (k : xX (d + 1) mX12_layLeft 48 [some (.ref 113), some (.int a1), some (.int a2), some (.int a3)] [] g = some r) : xX (d + 1) mX12_layLeft 25 [some (.ref 113), some (.int a1), some (.int a2), some (.int a3)] [] g = some r :=
  Y_goto 48 dX12_layLeft_25 rfl <| X_le (xle_s (xle_s (xle_s (xle_s xle_0)))) k
theorem bX12_layLeft_28 {d : Nat} {g : xSt} {r : Option Value × xSt} {a1 a2 a3 : Int32} (W : xWf g) (hi37 : vp_in (xI g 113 53) 541) (k : xX (d + 1) mX12_layLeft 48 [some (.ref 113), some (.int a1), some (.int a2), some (.int a3)] [] (xWI (xWI g 145 (xI g 113 53).toNatClampNeg a3) 113 53 ((xI g 113 53) + 1)) = some r) : xX (d + 1) mX12_layLeft 28 [some (.ref 113), some (.int a1), some (.int a2), some (.int a3)] [] g = some r :=
  Y_aload_n dX12_layLeft_28 rfl <| Y_getR dX12_layLeft_29 f_11_110 (by rw [ft_11_48]; rfl) (xis W 113 11 s_113 (Nat.le_of_ble_eq_true rfl)) (xptr W 113 48 p_113_48) <| Y_aload_n dX12_layLeft_32 rfl <| Y_getI dX12_layLeft_33 f_11_408 ft_11_53 (xis W 113 11 s_113 (Nat.le_of_ble_eq_true rfl)) <| Y_iload_n dX12_layLeft_36 rfl <| Y_iast dX12_layLeft_37 (xarr W (o := 145) s_145 (Nat.le_of_ble_eq_true rfl)) hi37 <| Y_aload_n dX12_layLeft_38 rfl <| Y_dup dX12_layLeft_39 rfl <| Y_getI dX12_layLeft_40 f_11_408 ft_11_53 (xis W 113 11 s_113 (Nat.le_of_ble_eq_true rfl)) <| Y_iconst 1 dX12_layLeft_43 ic_1 <| Y_iadd dX12_layLeft_44 <| Y_putI dX12_layLeft_45 f_11_408 fn_11_53 ft_11_53 (xis W 113 11 s_113 (Nat.le_of_ble_eq_true rfl)) <| X_le (xle_s (xle_s (xle_s (xle_s xle_0)))) k
theorem bX12_layLeft_48 {d : Nat} {g : xSt} {r : Option Value × xSt} {a1 a2 a3 : Int32} (k : xX (d + 1) mX12_layLeft 7 [some (.ref 113), some (.int a1), some (.int a2), some (.int (a3 + 1))] [] g = some r) : xX (d + 1) mX12_layLeft 48 [some (.ref 113), some (.int a1), some (.int a2), some (.int a3)] [] g = some r :=
  Y_iinc 1 dX12_layLeft_48 rfl ic_1 rfl rfl <| Y_goto 7 dX12_layLeft_51 rfl <| X_le (xle_s (xle_s (xle_s (xle_s xle_0)))) k
theorem bX12_layLeft_54 {d : Nat} {g : xSt} {r : Option Value × xSt}  (k : r = (none, g)) : xX (d + 1) mX12_layLeft 54 [none, none, none, none] [] g = some r :=
  Y_ret dX12_layLeft_54 rfl k
theorem bX12_wrongBy_0 {d : Nat} {g : xSt} {r : Option Value × xSt} {a1 a2 : Int32} (k : xX (d + 1) mX12_wrongBy 5 [some (.ref 113), some (.int a1), some (.int a2), some (.int 0), some (.int 0)] [] g = some r) : xX (d + 1) mX12_wrongBy 0 [some (.ref 113), some (.int a1), some (.int a2), none, none] [] g = some r :=
  Y_iconst 0 dX12_wrongBy_0 ic_0 <| Y_istore_n dX12_wrongBy_1 rfl rfl <| Y_iconst 0 dX12_wrongBy_2 ic_0 <| Y_istore dX12_wrongBy_3 rfl rfl <| X_le (xle_s (xle_s (xle_s (xle_s (xle_s xle_0))))) k
theorem bX12_wrongBy_5 {d : Nat} {g : xSt} {r : Option Value × xSt} {a1 a2 a3 a4 : Int32} (W : xWf g) (k1 : (xI g 113 44) ≤ a4 → xX (d + 1) mX12_wrongBy 82 [none, none, none, some (.int a3), none] [] g = some r) (k2 : ¬ ((xI g 113 44) ≤ a4) → xX (d + 1) mX12_wrongBy 14 [some (.ref 113), some (.int a1), some (.int a2), some (.int a3), some (.int a4)] [] g = some r) : xX (d + 1) mX12_wrongBy 5 [some (.ref 113), some (.int a1), some (.int a2), some (.int a3), some (.int a4)] [] g = some r :=
  Y_iload dX12_wrongBy_5 rfl <| Y_aload_n dX12_wrongBy_7 rfl <| Y_getI dX12_wrongBy_8 f_11_304 ft_11_44 (xis W 113 11 s_113 (Nat.le_of_ble_eq_true rfl)) <| Y_ge 82 dX12_wrongBy_11 rfl (fun q => X_le (xle_n (xle_n (xle_n (xle_s (xle_n xle_0))))) (k1 q)) (fun q => X_le (xle_s (xle_s (xle_s (xle_s (xle_s xle_0))))) (k2 q))
theorem bX12_wrongBy_14 {d : Nat} {g : xSt} {r : Option Value × xSt} {a1 a2 a3 a4 r19 : Int32} {g19 : xSt} (W : xWf g) (hk19 : xCallM d mX12_counts [.ref 113, .int a4, .int a2] g = some (some (.int r19), g19)) (W19 : xWf g19) (k1 : r19 = 0 → xX (d + 1) mX12_wrongBy 73 [some (.ref 113), some (.int a1), some (.int a2), none, some (.int a4)] [.int a3] g19 = some r) (k2 : ¬ (r19 = 0) → xX (d + 1) mX12_wrongBy 25 [some (.ref 113), some (.int a1), some (.int a2), none, some (.int a4)] [.int a3] g19 = some r) : xX (d + 1) mX12_wrongBy 14 [some (.ref 113), some (.int a1), some (.int a2), some (.int a3), some (.int a4)] [] g = some r :=
  Y_iload_n dX12_wrongBy_14 rfl <| Y_aload_n dX12_wrongBy_15 rfl <| Y_iload dX12_wrongBy_16 rfl <| Y_iload_n dX12_wrongBy_18 rfl <| Y_callV1 dX12_wrongBy_19 cl_11_395 rfl rfl (xis W 113 11 s_113 (Nat.le_of_ble_eq_true rfl)) rfl rfl rfl (hk19) <| Y_eq0 73 dX12_wrongBy_22 rfl (fun q => X_le (xle_s (xle_s (xle_s (xle_n (xle_s xle_0))))) (k1 q)) (fun q => X_le (xle_s (xle_s (xle_s (xle_n (xle_s xle_0))))) (k2 q))
theorem bX12_wrongBy_25 {d : Nat} {g : xSt} {r : Option Value × xSt} {a1 a2 a4 s0 r28 : Int32} {g28 : xSt} (W : xWf g) (hk28 : xCallM d mX12_isSingle [.ref 113, .int a4] g = some (some (.int r28), g28)) (W28 : xWf g28) (k1 : r28 = 0 → xX (d + 1) mX12_wrongBy 73 [some (.ref 113), some (.int a1), some (.int a2), none, some (.int a4)] [.int s0] g28 = some r) (k2 : ¬ (r28 = 0) → xX (d + 1) mX12_wrongBy 34 [some (.ref 113), some (.int a1), some (.int a2), none, some (.int a4)] [.int s0] g28 = some r) : xX (d + 1) mX12_wrongBy 25 [some (.ref 113), some (.int a1), some (.int a2), none, some (.int a4)] [.int s0] g = some r :=
  Y_aload_n dX12_wrongBy_25 rfl <| Y_iload dX12_wrongBy_26 rfl <| Y_callV1 dX12_wrongBy_28 cl_11_398 rfl rfl (xis W 113 11 s_113 (Nat.le_of_ble_eq_true rfl)) rfl rfl rfl (hk28) <| Y_eq0 73 dX12_wrongBy_31 rfl (fun q => X_le (xle_s (xle_s (xle_s (xle_n (xle_s xle_0))))) (k1 q)) (fun q => X_le (xle_s (xle_s (xle_s (xle_n (xle_s xle_0))))) (k2 q))
theorem bX12_wrongBy_34 {d : Nat} {g : xSt} {r : Option Value × xSt} {a1 a2 a4 s0 r43 r53 r56 : Int32} {g43 g53 g56 : xSt} (W : xWf g) (hi42 : vp_in a4 60) (hk43 : xCallM d mX12_lowest [.int (xI g 136 a4.toNatClampNeg)] g = some (some (.int r43), g43)) (W43 : xWf g43) (hi52 : vp_in a4 60) (hk53 : xCallM d mX12_lowest [.int (xI g43 137 a4.toNatClampNeg)] g43 = some (some (.int r53), g53)) (W53 : xWf g53) (hk56 : xCallM d mX12_saidBy [.ref 113, .int a1, .int r43, .int r53] g53 = some (some (.int r56), g56)) (W56 : xWf g56) (hi65 : vp_in a4 60) (k1 : r56 = (xI g56 138 a4.toNatClampNeg) → xX (d + 1) mX12_wrongBy 73 [some (.ref 113), some (.int a1), some (.int a2), none, some (.int a4)] [.int s0] g56 = some r) (k2 : ¬ (r56 = (xI g56 138 a4.toNatClampNeg)) → xX (d + 1) mX12_wrongBy 69 [some (.ref 113), some (.int a1), some (.int a2), none, some (.int a4)] [.int s0] g56 = some r) : xX (d + 1) mX12_wrongBy 34 [some (.ref 113), some (.int a1), some (.int a2), none, some (.int a4)] [.int s0] g = some r :=
  Y_aload_n dX12_wrongBy_34 rfl <| Y_iload_n dX12_wrongBy_35 rfl <| Y_aload_n dX12_wrongBy_36 rfl <| Y_getR dX12_wrongBy_37 f_11_83 (by rw [ft_11_35]; rfl) (xis W 113 11 s_113 (Nat.le_of_ble_eq_true rfl)) (xptr W 113 35 p_113_35) <| Y_iload dX12_wrongBy_40 rfl <| Y_iald dX12_wrongBy_42 (xarr W (o := 136) s_136 (Nat.le_of_ble_eq_true rfl)) hi42 <| Y_callS1 dX12_wrongBy_43 cl_11_401 rfl rfl rfl rfl rfl (hk43) <| Y_aload_n dX12_wrongBy_46 rfl <| Y_getR dX12_wrongBy_47 f_11_86 (by rw [ft_11_36]; rfl) (xis W43 113 11 s_113 (Nat.le_of_ble_eq_true rfl)) (xptr W43 113 36 p_113_36) <| Y_iload dX12_wrongBy_50 rfl <| Y_iald dX12_wrongBy_52 (xarr W43 (o := 137) s_137 (Nat.le_of_ble_eq_true rfl)) hi52 <| Y_callS1 dX12_wrongBy_53 cl_11_401 rfl rfl rfl rfl rfl (hk53) <| Y_callV1 dX12_wrongBy_56 cl_11_404 rfl rfl (xis W53 113 11 s_113 (Nat.le_of_ble_eq_true rfl)) rfl rfl rfl (hk56) <| Y_aload_n dX12_wrongBy_59 rfl <| Y_getR dX12_wrongBy_60 f_11_89 (by rw [ft_11_37]; rfl) (xis W56 113 11 s_113 (Nat.le_of_ble_eq_true rfl)) (xptr W56 113 37 p_113_37) <| Y_iload dX12_wrongBy_63 rfl <| Y_iald dX12_wrongBy_65 (xarr W56 (o := 138) s_138 (Nat.le_of_ble_eq_true rfl)) hi65 <| Y_eq 73 dX12_wrongBy_66 rfl (fun q => X_le (xle_s (xle_s (xle_s (xle_n (xle_s xle_0))))) (k1 q)) (fun q => X_le (xle_s (xle_s (xle_s (xle_n (xle_s xle_0))))) (k2 q))
theorem bX12_wrongBy_69 {d : Nat} {g : xSt} {r : Option Value × xSt} {a1 a2 a4 s0 : Int32} (k : xX (d + 1) mX12_wrongBy 74 [some (.ref 113), some (.int a1), some (.int a2), none, some (.int a4)] [.int 1, .int s0] g = some r) : xX (d + 1) mX12_wrongBy 69 [some (.ref 113), some (.int a1), some (.int a2), none, some (.int a4)] [.int s0] g = some r :=
  Y_iconst 1 dX12_wrongBy_69 ic_1 <| Y_goto 74 dX12_wrongBy_70 rfl <| X_le (xle_s (xle_s (xle_s (xle_n (xle_s xle_0))))) k
theorem bX12_wrongBy_73 {d : Nat} {g : xSt} {r : Option Value × xSt} {a1 a2 a4 s0 : Int32} (k : xX (d + 1) mX12_wrongBy 74 [some (.ref 113), some (.int a1), some (.int a2), none, some (.int a4)] [.int 0, .int s0] g = some r) : xX (d + 1) mX12_wrongBy 73 [some (.ref 113), some (.int a1), some (.int a2), none, some (.int a4)] [.int s0] g = some r :=
  Y_iconst 0 dX12_wrongBy_73 ic_0 <| X_le (xle_s (xle_s (xle_s (xle_n (xle_s xle_0))))) k
theorem bX12_wrongBy_74 {d : Nat} {g : xSt} {r : Option Value × xSt} {a1 a2 a4 s1 s0 : Int32} (k : xX (d + 1) mX12_wrongBy 5 [some (.ref 113), some (.int a1), some (.int a2), some (.int (s1 + s0)), some (.int (a4 + 1))] [] g = some r) : xX (d + 1) mX12_wrongBy 74 [some (.ref 113), some (.int a1), some (.int a2), none, some (.int a4)] [.int s0, .int s1] g = some r :=
  Y_iadd dX12_wrongBy_74 <| Y_istore_n dX12_wrongBy_75 rfl rfl <| Y_iinc 1 dX12_wrongBy_76 rfl ic_1 rfl rfl <| Y_goto 5 dX12_wrongBy_79 rfl <| X_le (xle_s (xle_s (xle_s (xle_s (xle_s xle_0))))) k
theorem bX12_wrongBy_82 {d : Nat} {g : xSt} {r : Option Value × xSt} {a3 : Int32} (k : r = (some (.int a3), g)) : xX (d + 1) mX12_wrongBy 82 [none, none, none, some (.int a3), none] [] g = some r :=
  Y_iload_n dX12_wrongBy_82 rfl <| Y_iret dX12_wrongBy_83 rfl k
theorem bX12_counts_0 {d : Nat} {g : xSt} {r : Option Value × xSt} {a1 a2 : Int32} (W : xWf g) (hi5 : vp_in a1 60) (k1 : a2 < (xI g 139 a1.toNatClampNeg) → xX d mX12_counts 29 [none, none, none, none] [] g = some r) (k2 : ¬ (a2 < (xI g 139 a1.toNatClampNeg)) → xX d mX12_counts 10 [some (.ref 113), some (.int a1), some (.int a2), none] [] g = some r) : xX d mX12_counts 0 [some (.ref 113), some (.int a1), some (.int a2), none] [] g = some r :=
  Y_aload_n dX12_counts_0 rfl <| Y_getR dX12_counts_1 f_11_92 (by rw [ft_11_38]; rfl) (xis W 113 11 s_113 (Nat.le_of_ble_eq_true rfl)) (xptr W 113 38 p_113_38) <| Y_iload_n dX12_counts_4 rfl <| Y_iald dX12_counts_5 (xarr W (o := 139) s_139 (Nat.le_of_ble_eq_true rfl)) hi5 <| Y_iload_n dX12_counts_6 rfl <| Y_gt 29 dX12_counts_7 rfl (fun q => X_le (xle_n (xle_n (xle_n (xle_n xle_0)))) (k1 q)) (fun q => X_le (xle_s (xle_s (xle_s (xle_n xle_0)))) (k2 q))
theorem bX12_counts_10 {d : Nat} {g : xSt} {r : Option Value × xSt} {a1 a2 : Int32} (W : xWf g) (hi15 : vp_in a1 60) (k1 : (xI g 140 a1.toNatClampNeg) < 0 → xX d mX12_counts 31 [some (.ref 113), some (.int a1), some (.int a2), none] [] g = some r) (k2 : ¬ ((xI g 140 a1.toNatClampNeg) < 0) → xX d mX12_counts 19 [some (.ref 113), some (.int a1), some (.int a2), none] [] g = some r) : xX d mX12_counts 10 [some (.ref 113), some (.int a1), some (.int a2), none] [] g = some r :=
  Y_aload_n dX12_counts_10 rfl <| Y_getR dX12_counts_11 f_11_95 (by rw [ft_11_39]; rfl) (xis W 113 11 s_113 (Nat.le_of_ble_eq_true rfl)) (xptr W 113 39 p_113_39) <| Y_iload_n dX12_counts_14 rfl <| Y_iald dX12_counts_15 (xarr W (o := 140) s_140 (Nat.le_of_ble_eq_true rfl)) hi15 <| Y_lt0 31 dX12_counts_16 rfl (fun q => X_le (xle_s (xle_s (xle_s (xle_n xle_0)))) (k1 q)) (fun q => X_le (xle_s (xle_s (xle_s (xle_n xle_0)))) (k2 q))
theorem bX12_counts_19 {d : Nat} {g : xSt} {r : Option Value × xSt} {a1 a2 : Int32} (W : xWf g) (hi24 : vp_in a1 60) (k1 : a2 < (xI g 140 a1.toNatClampNeg) → xX d mX12_counts 31 [some (.ref 113), some (.int a1), some (.int a2), none] [] g = some r) (k2 : ¬ (a2 < (xI g 140 a1.toNatClampNeg)) → xX d mX12_counts 29 [none, none, none, none] [] g = some r) : xX d mX12_counts 19 [some (.ref 113), some (.int a1), some (.int a2), none] [] g = some r :=
  Y_aload_n dX12_counts_19 rfl <| Y_getR dX12_counts_20 f_11_95 (by rw [ft_11_39]; rfl) (xis W 113 11 s_113 (Nat.le_of_ble_eq_true rfl)) (xptr W 113 39 p_113_39) <| Y_iload_n dX12_counts_23 rfl <| Y_iald dX12_counts_24 (xarr W (o := 140) s_140 (Nat.le_of_ble_eq_true rfl)) hi24 <| Y_iload_n dX12_counts_25 rfl <| Y_gt 31 dX12_counts_26 rfl (fun q => X_le (xle_s (xle_s (xle_s (xle_n xle_0)))) (k1 q)) (fun q => X_le (xle_n (xle_n (xle_n (xle_n xle_0)))) (k2 q))
theorem bX12_counts_29 {d : Nat} {g : xSt} {r : Option Value × xSt}  (k : r = (some (.int 0), g)) : xX d mX12_counts 29 [none, none, none, none] [] g = some r :=
  Y_iconst 0 dX12_counts_29 ic_0 <| Y_zret dX12_counts_30 rfl (by decide) k
theorem bX12_counts_31 {d : Nat} {g : xSt} {r : Option Value × xSt} {a1 a2 : Int32} (k : xX d mX12_counts 33 [some (.ref 113), some (.int a1), some (.int a2), some (.int 0)] [] g = some r) : xX d mX12_counts 31 [some (.ref 113), some (.int a1), some (.int a2), none] [] g = some r :=
  Y_iconst 0 dX12_counts_31 ic_0 <| Y_istore_n dX12_counts_32 rfl rfl <| X_le (xle_s (xle_s (xle_s (xle_s xle_0)))) k
theorem bX12_counts_33 {d : Nat} {g : xSt} {r : Option Value × xSt} {a1 a2 a3 : Int32} (W : xWf g) (k1 : (xI g 113 46) ≤ a3 → xX d mX12_counts 69 [none, none, none, none] [] g = some r) (k2 : ¬ ((xI g 113 46) ≤ a3) → xX d mX12_counts 41 [some (.ref 113), some (.int a1), some (.int a2), some (.int a3)] [] g = some r) : xX d mX12_counts 33 [some (.ref 113), some (.int a1), some (.int a2), some (.int a3)] [] g = some r :=
  Y_iload_n dX12_counts_33 rfl <| Y_aload_n dX12_counts_34 rfl <| Y_getI dX12_counts_35 f_11_307 ft_11_46 (xis W 113 11 s_113 (Nat.le_of_ble_eq_true rfl)) <| Y_ge 69 dX12_counts_38 rfl (fun q => X_le (xle_n (xle_n (xle_n (xle_n xle_0)))) (k1 q)) (fun q => X_le (xle_s (xle_s (xle_s (xle_s xle_0)))) (k2 q))
theorem bX12_counts_41 {d : Nat} {g : xSt} {r : Option Value × xSt} {a1 a2 a3 : Int32} (W : xWf g) (hi46 : vp_in a3 40) (k1 : a2 < (xI g 141 a3.toNatClampNeg) → xX d mX12_counts 63 [some (.ref 113), some (.int a1), some (.int a2), some (.int a3)] [] g = some r) (k2 : ¬ (a2 < (xI g 141 a3.toNatClampNeg)) → xX d mX12_counts 51 [some (.ref 113), some (.int a1), some (.int a2), some (.int a3)] [] g = some r) : xX d mX12_counts 41 [some (.ref 113), some (.int a1), some (.int a2), some (.int a3)] [] g = some r :=
  Y_aload_n dX12_counts_41 rfl <| Y_getR dX12_counts_42 f_11_98 (by rw [ft_11_40]; rfl) (xis W 113 11 s_113 (Nat.le_of_ble_eq_true rfl)) (xptr W 113 40 p_113_40) <| Y_iload_n dX12_counts_45 rfl <| Y_iald dX12_counts_46 (xarr W (o := 141) s_141 (Nat.le_of_ble_eq_true rfl)) hi46 <| Y_iload_n dX12_counts_47 rfl <| Y_gt 63 dX12_counts_48 rfl (fun q => X_le (xle_s (xle_s (xle_s (xle_s xle_0)))) (k1 q)) (fun q => X_le (xle_s (xle_s (xle_s (xle_s xle_0)))) (k2 q))
theorem bX12_counts_51 {d : Nat} {g : xSt} {r : Option Value × xSt} {a1 a2 a3 : Int32} (W : xWf g) (hi57 : vp_in a3 40) (k1 : (xI g 142 a3.toNatClampNeg) ≤ a1 → xX d mX12_counts 63 [some (.ref 113), some (.int a1), some (.int a2), some (.int a3)] [] g = some r) (k2 : ¬ ((xI g 142 a3.toNatClampNeg) ≤ a1) → xX d mX12_counts 61 [none, none, none, none] [] g = some r) : xX d mX12_counts 51 [some (.ref 113), some (.int a1), some (.int a2), some (.int a3)] [] g = some r :=
  Y_iload_n dX12_counts_51 rfl <| Y_aload_n dX12_counts_52 rfl <| Y_getR dX12_counts_53 f_11_101 (by rw [ft_11_41]; rfl) (xis W 113 11 s_113 (Nat.le_of_ble_eq_true rfl)) (xptr W 113 41 p_113_41) <| Y_iload_n dX12_counts_56 rfl <| Y_iald dX12_counts_57 (xarr W (o := 142) s_142 (Nat.le_of_ble_eq_true rfl)) hi57 <| Y_ge 63 dX12_counts_58 rfl (fun q => X_le (xle_s (xle_s (xle_s (xle_s xle_0)))) (k1 q)) (fun q => X_le (xle_n (xle_n (xle_n (xle_n xle_0)))) (k2 q))
theorem bX12_counts_61 {d : Nat} {g : xSt} {r : Option Value × xSt}  (k : r = (some (.int 0), g)) : xX d mX12_counts 61 [none, none, none, none] [] g = some r :=
  Y_iconst 0 dX12_counts_61 ic_0 <| Y_zret dX12_counts_62 rfl (by decide) k
theorem bX12_counts_63 {d : Nat} {g : xSt} {r : Option Value × xSt} {a1 a2 a3 : Int32} (k : xX d mX12_counts 33 [some (.ref 113), some (.int a1), some (.int a2), some (.int (a3 + 1))] [] g = some r) : xX d mX12_counts 63 [some (.ref 113), some (.int a1), some (.int a2), some (.int a3)] [] g = some r :=
  Y_iinc 1 dX12_counts_63 rfl ic_1 rfl rfl <| Y_goto 33 dX12_counts_66 rfl <| X_le (xle_s (xle_s (xle_s (xle_s xle_0)))) k
theorem bX12_counts_69 {d : Nat} {g : xSt} {r : Option Value × xSt}  (k : r = (some (.int 1), g)) : xX d mX12_counts 69 [none, none, none, none] [] g = some r :=
  Y_iconst 1 dX12_counts_69 ic_1 <| Y_zret dX12_counts_70 rfl (by decide) k
theorem bX12_isSingle_0 {d : Nat} {g : xSt} {r : Option Value × xSt} {a1 r6 : Int32} {g6 : xSt} (W : xWf g) (hi5 : vp_in a1 60) (hk6 : xCallM d mX12_bitsOf [.int (xI g 136 a1.toNatClampNeg)] g = some (some (.int r6), g6)) (W6 : xWf g6) (k1 : r6 = 1 → xX (d + 1) mX12_isSingle 13 [some (.ref 113), some (.int a1)] [] g6 = some r) (k2 : ¬ (r6 = 1) → xX (d + 1) mX12_isSingle 30 [none, none] [] g6 = some r) : xX (d + 1) mX12_isSingle 0 [some (.ref 113), some (.int a1)] [] g = some r :=
  Y_aload_n dX12_isSingle_0 rfl <| Y_getR dX12_isSingle_1 f_11_83 (by rw [ft_11_35]; rfl) (xis W 113 11 s_113 (Nat.le_of_ble_eq_true rfl)) (xptr W 113 35 p_113_35) <| Y_iload_n dX12_isSingle_4 rfl <| Y_iald dX12_isSingle_5 (xarr W (o := 136) s_136 (Nat.le_of_ble_eq_true rfl)) hi5 <| Y_callS1 dX12_isSingle_6 cl_11_392 rfl rfl rfl rfl rfl (hk6) <| Y_iconst 1 dX12_isSingle_9 ic_1 <| Y_ne 30 dX12_isSingle_10 rfl (fun q => X_le (xle_s (xle_s xle_0)) (k1 q)) (fun q => X_le (xle_n (xle_n xle_0)) (k2 q))
theorem bX12_isSingle_13 {d : Nat} {g : xSt} {r : Option Value × xSt} {a1 r19 : Int32} {g19 : xSt} (W : xWf g) (hi18 : vp_in a1 60) (hk19 : xCallM d mX12_bitsOf [.int (xI g 137 a1.toNatClampNeg)] g = some (some (.int r19), g19)) (W19 : xWf g19) (k1 : r19 = 1 → xX (d + 1) mX12_isSingle 26 [none, none] [] g19 = some r) (k2 : ¬ (r19 = 1) → xX (d + 1) mX12_isSingle 30 [none, none] [] g19 = some r) : xX (d + 1) mX12_isSingle 13 [some (.ref 113), some (.int a1)] [] g = some r :=
  Y_aload_n dX12_isSingle_13 rfl <| Y_getR dX12_isSingle_14 f_11_86 (by rw [ft_11_36]; rfl) (xis W 113 11 s_113 (Nat.le_of_ble_eq_true rfl)) (xptr W 113 36 p_113_36) <| Y_iload_n dX12_isSingle_17 rfl <| Y_iald dX12_isSingle_18 (xarr W (o := 137) s_137 (Nat.le_of_ble_eq_true rfl)) hi18 <| Y_callS1 dX12_isSingle_19 cl_11_392 rfl rfl rfl rfl rfl (hk19) <| Y_iconst 1 dX12_isSingle_22 ic_1 <| Y_ne 30 dX12_isSingle_23 rfl (fun q => X_le (xle_n (xle_n xle_0)) (k1 q)) (fun q => X_le (xle_n (xle_n xle_0)) (k2 q))
theorem bX12_isSingle_26 {d : Nat} {g : xSt} {r : Option Value × xSt}  (k : xX (d + 1) mX12_isSingle 31 [none, none] [.int 1] g = some r) : xX (d + 1) mX12_isSingle 26 [none, none] [] g = some r :=
  Y_iconst 1 dX12_isSingle_26 ic_1 <| Y_goto 31 dX12_isSingle_27 rfl <| X_le (xle_n (xle_n xle_0)) k
theorem bX12_isSingle_30 {d : Nat} {g : xSt} {r : Option Value × xSt}  (k : xX (d + 1) mX12_isSingle 31 [none, none] [.int 0] g = some r) : xX (d + 1) mX12_isSingle 30 [none, none] [] g = some r :=
  Y_iconst 0 dX12_isSingle_30 ic_0 <| X_le (xle_n (xle_n xle_0)) k
theorem bX12_isSingle_31 {d : Nat} {g : xSt} {r : Option Value × xSt} {s0 : Int32} (hz31 : s0 = 0 ∨ s0 = 1) (k : r = (some (.int s0), g)) : xX (d + 1) mX12_isSingle 31 [none, none] [.int s0] g = some r :=
  Y_zret dX12_isSingle_31 rfl (hz31) k
theorem bX12_bitsOf_0 {d : Nat} {g : xSt} {r : Option Value × xSt} {a0 : Int32} (k : xX d mX12_bitsOf 4 [some (.int a0), some (.int 0), some (.int 0)] [] g = some r) : xX d mX12_bitsOf 0 [some (.int a0), none, none] [] g = some r :=
  Y_iconst 0 dX12_bitsOf_0 ic_0 <| Y_istore_n dX12_bitsOf_1 rfl rfl <| Y_iconst 0 dX12_bitsOf_2 ic_0 <| Y_istore_n dX12_bitsOf_3 rfl rfl <| X_le (xle_s (xle_s (xle_s xle_0))) k
theorem bX12_bitsOf_4 {d : Nat} {g : xSt} {r : Option Value × xSt} {a0 a1 a2 : Int32} (k1 : 31 ≤ a2 → xX d mX12_bitsOf 24 [none, some (.int a1), none] [] g = some r) (k2 : ¬ (31 ≤ a2) → xX d mX12_bitsOf 10 [some (.int a0), some (.int a1), some (.int a2)] [] g = some r) : xX d mX12_bitsOf 4 [some (.int a0), some (.int a1), some (.int a2)] [] g = some r :=
  Y_iload_n dX12_bitsOf_4 rfl <| Y_bipush 31 dX12_bitsOf_5 bp_31 <| Y_ge 24 dX12_bitsOf_7 rfl (fun q => X_le (xle_n (xle_s (xle_n xle_0))) (k1 q)) (fun q => X_le (xle_s (xle_s (xle_s xle_0))) (k2 q))
theorem bX12_bitsOf_10 {d : Nat} {g : xSt} {r : Option Value × xSt} {a0 a1 a2 : Int32} (k : xX d mX12_bitsOf 4 [some (.int a0), some (.int (a1 + ((a0 >>> (a2 &&& 31)) &&& 1))), some (.int (a2 + 1))] [] g = some r) : xX d mX12_bitsOf 10 [some (.int a0), some (.int a1), some (.int a2)] [] g = some r :=
  Y_iload_n dX12_bitsOf_10 rfl <| Y_iload_n dX12_bitsOf_11 rfl <| Y_iload_n dX12_bitsOf_12 rfl <| Y_ishr dX12_bitsOf_13 <| Y_iconst 1 dX12_bitsOf_14 ic_1 <| Y_iand dX12_bitsOf_15 <| Y_iadd dX12_bitsOf_16 <| Y_istore_n dX12_bitsOf_17 rfl rfl <| Y_iinc 1 dX12_bitsOf_18 rfl ic_1 rfl rfl <| Y_goto 4 dX12_bitsOf_21 rfl <| X_le (xle_s (xle_s (xle_s xle_0))) k
theorem bX12_bitsOf_24 {d : Nat} {g : xSt} {r : Option Value × xSt} {a1 : Int32} (k : r = (some (.int a1), g)) : xX d mX12_bitsOf 24 [none, some (.int a1), none] [] g = some r :=
  Y_iload_n dX12_bitsOf_24 rfl <| Y_iret dX12_bitsOf_25 rfl k
theorem bX12_lowest_0 {d : Nat} {g : xSt} {r : Option Value × xSt} {a0 : Int32} (k : xX d mX12_lowest 2 [some (.int a0), some (.int 0)] [] g = some r) : xX d mX12_lowest 0 [some (.int a0), none] [] g = some r :=
  Y_iconst 0 dX12_lowest_0 ic_0 <| Y_istore_n dX12_lowest_1 rfl rfl <| X_le (xle_s (xle_s xle_0)) k
theorem bX12_lowest_2 {d : Nat} {g : xSt} {r : Option Value × xSt} {a0 a1 : Int32} (k1 : ((a0 >>> (a1 &&& 31)) &&& 1) = 0 → xX d mX12_lowest 10 [some (.int a0), some (.int a1)] [] g = some r) (k2 : ¬ (((a0 >>> (a1 &&& 31)) &&& 1) = 0) → xX d mX12_lowest 16 [none, some (.int a1)] [] g = some r) : xX d mX12_lowest 2 [some (.int a0), some (.int a1)] [] g = some r :=
  Y_iload_n dX12_lowest_2 rfl <| Y_iload_n dX12_lowest_3 rfl <| Y_ishr dX12_lowest_4 <| Y_iconst 1 dX12_lowest_5 ic_1 <| Y_iand dX12_lowest_6 <| Y_ne0 16 dX12_lowest_7 rfl (fun q => X_le (xle_s (xle_s xle_0)) (k1 q)) (fun q => X_le (xle_n (xle_s xle_0)) (k2 q))
theorem bX12_lowest_10 {d : Nat} {g : xSt} {r : Option Value × xSt} {a0 a1 : Int32} (k : xX d mX12_lowest 2 [some (.int a0), some (.int (a1 + 1))] [] g = some r) : xX d mX12_lowest 10 [some (.int a0), some (.int a1)] [] g = some r :=
  Y_iinc 1 dX12_lowest_10 rfl ic_1 rfl rfl <| Y_goto 2 dX12_lowest_13 rfl <| X_le (xle_s (xle_s xle_0)) k
theorem bX12_lowest_16 {d : Nat} {g : xSt} {r : Option Value × xSt} {a1 : Int32} (k : r = (some (.int a1), g)) : xX d mX12_lowest 16 [none, some (.int a1)] [] g = some r :=
  Y_iload_n dX12_lowest_16 rfl <| Y_iret dX12_lowest_17 rfl k
theorem bX12_saidBy_0 {d : Nat} {g : xSt} {r : Option Value × xSt} {a1 a2 a3 : Int32} (W : xWf g) (hi9 : vp_in ((5 * a1) + a2) 2705) (hi21 : vp_in ((5 * a1) + a3) 2705) (k1 : (xI g 134 ((5 * a1) + a3).toNatClampNeg) ≤ (xI g 134 ((5 * a1) + a2).toNatClampNeg) → xX d mX12_saidBy 35 [none, none, none, none, some (.int (xI g 134 ((5 * a1) + a2).toNatClampNeg)), some (.int (xI g 134 ((5 * a1) + a3).toNatClampNeg))] [] g = some r) (k2 : ¬ ((xI g 134 ((5 * a1) + a3).toNatClampNeg) ≤ (xI g 134 ((5 * a1) + a2).toNatClampNeg)) → xX d mX12_saidBy 31 [none, none, none, none, none, none] [] g = some r) : xX d mX12_saidBy 0 [some (.ref 113), some (.int a1), some (.int a2), some (.int a3), none, none] [] g = some r :=
  Y_aload_n dX12_saidBy_0 rfl <| Y_getR dX12_saidBy_1 f_11_77 (by rw [ft_11_32]; rfl) (xis W 113 11 s_113 (Nat.le_of_ble_eq_true rfl)) (xptr W 113 32 p_113_32) <| Y_iconst 5 dX12_saidBy_4 ic_5 <| Y_iload_n dX12_saidBy_5 rfl <| Y_imul dX12_saidBy_6 <| Y_iload_n dX12_saidBy_7 rfl <| Y_iadd dX12_saidBy_8 <| Y_iald dX12_saidBy_9 (xarr W (o := 134) s_134 (Nat.le_of_ble_eq_true rfl)) hi9 <| Y_istore dX12_saidBy_10 rfl rfl <| Y_aload_n dX12_saidBy_12 rfl <| Y_getR dX12_saidBy_13 f_11_77 (by rw [ft_11_32]; rfl) (xis W 113 11 s_113 (Nat.le_of_ble_eq_true rfl)) (xptr W 113 32 p_113_32) <| Y_iconst 5 dX12_saidBy_16 ic_5 <| Y_iload_n dX12_saidBy_17 rfl <| Y_imul dX12_saidBy_18 <| Y_iload_n dX12_saidBy_19 rfl <| Y_iadd dX12_saidBy_20 <| Y_iald dX12_saidBy_21 (xarr W (o := 134) s_134 (Nat.le_of_ble_eq_true rfl)) hi21 <| Y_istore dX12_saidBy_22 rfl rfl <| Y_iload dX12_saidBy_24 rfl <| Y_iload dX12_saidBy_26 rfl <| Y_ge 35 dX12_saidBy_28 rfl (fun q => X_le (xle_n (xle_n (xle_n (xle_n (xle_s (xle_s xle_0)))))) (k1 q)) (fun q => X_le (xle_n (xle_n (xle_n (xle_n (xle_n (xle_n xle_0)))))) (k2 q))
theorem bX12_saidBy_31 {d : Nat} {g : xSt} {r : Option Value × xSt}  (k : xX d mX12_saidBy 47 [none, none, none, none, none, none] [.int 1] g = some r) : xX d mX12_saidBy 31 [none, none, none, none, none, none] [] g = some r :=
  Y_iconst 1 dX12_saidBy_31 ic_1 <| Y_goto 47 dX12_saidBy_32 rfl <| X_le (xle_n (xle_n (xle_n (xle_n (xle_n (xle_n xle_0)))))) k
theorem bX12_saidBy_35 {d : Nat} {g : xSt} {r : Option Value × xSt} {a4 a5 : Int32} (k1 : a4 ≤ a5 → xX d mX12_saidBy 46 [none, none, none, none, none, none] [] g = some r) (k2 : ¬ (a4 ≤ a5) → xX d mX12_saidBy 42 [none, none, none, none, none, none] [] g = some r) : xX d mX12_saidBy 35 [none, none, none, none, some (.int a4), some (.int a5)] [] g = some r :=
  Y_iload dX12_saidBy_35 rfl <| Y_iload dX12_saidBy_37 rfl <| Y_le 46 dX12_saidBy_39 rfl (fun q => X_le (xle_n (xle_n (xle_n (xle_n (xle_n (xle_n xle_0)))))) (k1 q)) (fun q => X_le (xle_n (xle_n (xle_n (xle_n (xle_n (xle_n xle_0)))))) (k2 q))
theorem bX12_saidBy_42 {d : Nat} {g : xSt} {r : Option Value × xSt}  (k : xX d mX12_saidBy 47 [none, none, none, none, none, none] [.int 2] g = some r) : xX d mX12_saidBy 42 [none, none, none, none, none, none] [] g = some r :=
  Y_iconst 2 dX12_saidBy_42 ic_2 <| Y_goto 47 dX12_saidBy_43 rfl <| X_le (xle_n (xle_n (xle_n (xle_n (xle_n (xle_n xle_0)))))) k
theorem bX12_saidBy_46 {d : Nat} {g : xSt} {r : Option Value × xSt}  (k : xX d mX12_saidBy 47 [none, none, none, none, none, none] [.int 0] g = some r) : xX d mX12_saidBy 46 [none, none, none, none, none, none] [] g = some r :=
  Y_iconst 0 dX12_saidBy_46 ic_0 <| X_le (xle_n (xle_n (xle_n (xle_n (xle_n (xle_n xle_0)))))) k
theorem bX12_saidBy_47 {d : Nat} {g : xSt} {r : Option Value × xSt} {s0 : Int32} (k : r = (some (.int s0), g)) : xX d mX12_saidBy 47 [none, none, none, none, none, none] [.int s0] g = some r :=
  Y_iret dX12_saidBy_47 rfl k
theorem bX12_layPlaces_0 {d : Nat} {g : xSt} {r : Option Value × xSt} {a1 : Int32} (k : xX (d + 1) mX12_layPlaces 2 [some (.ref 113), some (.int a1), some (.int 0)] [] g = some r) : xX (d + 1) mX12_layPlaces 0 [some (.ref 113), some (.int a1), none] [] g = some r :=
  Y_iconst 0 dX12_layPlaces_0 ic_0 <| Y_istore_n dX12_layPlaces_1 rfl rfl <| X_le (xle_s (xle_s (xle_s xle_0))) k
theorem bX12_layPlaces_2 {d : Nat} {g : xSt} {r : Option Value × xSt} {a1 a2 r4 : Int32} {g4 : xSt} (W : xWf g) (hk4 : xCallM d mX12_thingMany [.ref 113] g = some (some (.int r4), g4)) (W4 : xWf g4) (k1 : r4 ≤ a2 → xX (d + 1) mX12_layPlaces 32 [some (.ref 113), none, none] [] g4 = some r) (k2 : ¬ (r4 ≤ a2) → xX (d + 1) mX12_layPlaces 10 [some (.ref 113), some (.int a1), some (.int a2)] [] g4 = some r) : xX (d + 1) mX12_layPlaces 2 [some (.ref 113), some (.int a1), some (.int a2)] [] g = some r :=
  Y_iload_n dX12_layPlaces_2 rfl <| Y_aload_n dX12_layPlaces_3 rfl <| Y_callV1 dX12_layPlaces_4 cl_11_364 rfl rfl (xis W 113 11 s_113 (Nat.le_of_ble_eq_true rfl)) rfl rfl rfl (hk4) <| Y_ge 32 dX12_layPlaces_7 rfl (fun q => X_le (xle_s (xle_n (xle_n xle_0))) (k1 q)) (fun q => X_le (xle_s (xle_s (xle_s xle_0))) (k2 q))
theorem bX12_layPlaces_10 {d : Nat} {g : xSt} {r : Option Value × xSt} {a1 a2 : Int32} (W : xWf g) (hi24 : vp_in ((5 * a1) + a2) 2705) (hi25 : vp_in a2 25) (k : xX (d + 1) mX12_layPlaces 2 [some (.ref 113), some (.int a1), some (.int (a2 + 1))] [] (xWI g 149 a2.toNatClampNeg (xI g 134 ((5 * a1) + a2).toNatClampNeg)) = some r) : xX (d + 1) mX12_layPlaces 10 [some (.ref 113), some (.int a1), some (.int a2)] [] g = some r :=
  Y_aload_n dX12_layPlaces_10 rfl <| Y_getR dX12_layPlaces_11 f_11_122 (by rw [ft_11_52]; rfl) (xis W 113 11 s_113 (Nat.le_of_ble_eq_true rfl)) (xptr W 113 52 p_113_52) <| Y_iload_n dX12_layPlaces_14 rfl <| Y_aload_n dX12_layPlaces_15 rfl <| Y_getR dX12_layPlaces_16 f_11_77 (by rw [ft_11_32]; rfl) (xis W 113 11 s_113 (Nat.le_of_ble_eq_true rfl)) (xptr W 113 32 p_113_32) <| Y_iconst 5 dX12_layPlaces_19 ic_5 <| Y_iload_n dX12_layPlaces_20 rfl <| Y_imul dX12_layPlaces_21 <| Y_iload_n dX12_layPlaces_22 rfl <| Y_iadd dX12_layPlaces_23 <| Y_iald dX12_layPlaces_24 (xarr W (o := 134) s_134 (Nat.le_of_ble_eq_true rfl)) hi24 <| Y_iast dX12_layPlaces_25 (xarr W (o := 149) s_149 (Nat.le_of_ble_eq_true rfl)) hi25 <| Y_iinc 1 dX12_layPlaces_26 rfl ic_1 rfl rfl <| Y_goto 2 dX12_layPlaces_29 rfl <| X_le (xle_s (xle_s (xle_s xle_0))) k
theorem bX12_layPlaces_32 {d : Nat} {g : xSt} {r : Option Value × xSt} {r34 : Int32} {g34 : xSt} (W : xWf g) (hk34 : xCallM d mX12_thingMany [.ref 113] g = some (some (.int r34), g34)) (W34 : xWf g34) (k : r = (none, xWI g34 113 54 r34)) : xX (d + 1) mX12_layPlaces 32 [some (.ref 113), none, none] [] g = some r :=
  Y_aload_n dX12_layPlaces_32 rfl <| Y_aload_n dX12_layPlaces_33 rfl <| Y_callV1 dX12_layPlaces_34 cl_11_364 rfl rfl (xis W 113 11 s_113 (Nat.le_of_ble_eq_true rfl)) rfl rfl rfl (hk34) <| Y_putI dX12_layPlaces_37 f_11_313 fn_11_54 ft_11_54 (xis W34 113 11 s_113 (Nat.le_of_ble_eq_true rfl)) <| Y_ret dX12_layPlaces_40 rfl k
theorem bX12_struck_0 {d : Nat} {g : xSt} {r : Option Value × xSt} {a1 : Int32} (k : xX (d + 1) mX12_struck 4 [some (.ref 113), some (.int a1), some (.int 0), some (.int 1)] [] g = some r) : xX (d + 1) mX12_struck 0 [some (.ref 113), some (.int a1), none, none] [] g = some r :=
  Y_iconst 0 dX12_struck_0 ic_0 <| Y_istore_n dX12_struck_1 rfl rfl <| Y_iconst 1 dX12_struck_2 ic_1 <| Y_istore_n dX12_struck_3 rfl rfl <| X_le (xle_s (xle_s (xle_s (xle_s xle_0)))) k
theorem bX12_struck_4 {d : Nat} {g : xSt} {r : Option Value × xSt} {a1 a2 a3 : Int32} (W : xWf g) (k1 : (xI g 113 34) ≤ a3 → xX (d + 1) mX12_struck 35 [some (.ref 113), some (.int a1), some (.int a2), none] [] g = some r) (k2 : ¬ ((xI g 113 34) ≤ a3) → xX (d + 1) mX12_struck 12 [some (.ref 113), some (.int a1), some (.int a2), some (.int a3)] [] g = some r) : xX (d + 1) mX12_struck 4 [some (.ref 113), some (.int a1), some (.int a2), some (.int a3)] [] g = some r :=
  Y_iload_n dX12_struck_4 rfl <| Y_aload_n dX12_struck_5 rfl <| Y_getI dX12_struck_6 f_11_371 ft_11_34 (xis W 113 11 s_113 (Nat.le_of_ble_eq_true rfl)) <| Y_ge 35 dX12_struck_9 rfl (fun q => X_le (xle_s (xle_s (xle_s (xle_n xle_0)))) (k1 q)) (fun q => X_le (xle_s (xle_s (xle_s (xle_s xle_0)))) (k2 q))
theorem bX12_struck_12 {d : Nat} {g : xSt} {r : Option Value × xSt} {a1 a2 a3 r15 r21 : Int32} {g15 g21 : xSt} (W : xWf g) (hk15 : xCallM d mX12_wrongBy [.ref 113, .int a3, .int a1] g = some (some (.int r15), g15)) (W15 : xWf g15) (hk21 : xCallM d mX12_wrongBy [.ref 113, .int a2, .int a1] g15 = some (some (.int r21), g21)) (W21 : xWf g21) (k1 : r21 ≤ r15 → xX (d + 1) mX12_struck 29 [some (.ref 113), some (.int a1), some (.int a2), some (.int a3)] [] g21 = some r) (k2 : ¬ (r21 ≤ r15) → xX (d + 1) mX12_struck 27 [some (.ref 113), some (.int a1), none, some (.int a3)] [] g21 = some r) : xX (d + 1) mX12_struck 12 [some (.ref 113), some (.int a1), some (.int a2), some (.int a3)] [] g = some r :=
  Y_aload_n dX12_struck_12 rfl <| Y_iload_n dX12_struck_13 rfl <| Y_iload_n dX12_struck_14 rfl <| Y_callV1 dX12_struck_15 cl_11_411 rfl rfl (xis W 113 11 s_113 (Nat.le_of_ble_eq_true rfl)) rfl rfl rfl (hk15) <| Y_aload_n dX12_struck_18 rfl <| Y_iload_n dX12_struck_19 rfl <| Y_iload_n dX12_struck_20 rfl <| Y_callV1 dX12_struck_21 cl_11_411 rfl rfl (xis W15 113 11 s_113 (Nat.le_of_ble_eq_true rfl)) rfl rfl rfl (hk21) <| Y_ge 29 dX12_struck_24 rfl (fun q => X_le (xle_s (xle_s (xle_s (xle_s xle_0)))) (k1 q)) (fun q => X_le (xle_s (xle_s (xle_n (xle_s xle_0)))) (k2 q))
theorem bX12_struck_27 {d : Nat} {g : xSt} {r : Option Value × xSt} {a1 a3 : Int32} (k : xX (d + 1) mX12_struck 29 [some (.ref 113), some (.int a1), some (.int a3), some (.int a3)] [] g = some r) : xX (d + 1) mX12_struck 27 [some (.ref 113), some (.int a1), none, some (.int a3)] [] g = some r :=
  Y_iload_n dX12_struck_27 rfl <| Y_istore_n dX12_struck_28 rfl rfl <| X_le (xle_s (xle_s (xle_s (xle_s xle_0)))) k
theorem bX12_struck_29 {d : Nat} {g : xSt} {r : Option Value × xSt} {a1 a2 a3 : Int32} (k : xX (d + 1) mX12_struck 4 [some (.ref 113), some (.int a1), some (.int a2), some (.int (a3 + 1))] [] g = some r) : xX (d + 1) mX12_struck 29 [some (.ref 113), some (.int a1), some (.int a2), some (.int a3)] [] g = some r :=
  Y_iinc 1 dX12_struck_29 rfl ic_1 rfl rfl <| Y_goto 4 dX12_struck_32 rfl <| X_le (xle_s (xle_s (xle_s (xle_s xle_0)))) k
theorem bX12_struck_35 {d : Nat} {g : xSt} {r : Option Value × xSt} {a1 a2 r43 : Int32} {g37 g43 : xSt} (W : xWf g) (hk37 : xCallM d mX12_layPlaces [.ref 113, .int a2] g = some (none, g37)) (W37 : xWf g37) (hk43 : xCallM d mX12_wrongBy [.ref 113, .int a2, .int a1] g37 = some (some (.int r43), g43)) (W43 : xWf g43) (k : r = (some (.int r43), g43)) : xX (d + 1) mX12_struck 35 [some (.ref 113), some (.int a1), some (.int a2), none] [] g = some r :=
  Y_aload_n dX12_struck_35 rfl <| Y_iload_n dX12_struck_36 rfl <| Y_callV0 dX12_struck_37 cl_11_417 rfl rfl (xis W 113 11 s_113 (Nat.le_of_ble_eq_true rfl)) rfl rfl rfl (hk37) <| Y_aload_n dX12_struck_40 rfl <| Y_iload_n dX12_struck_41 rfl <| Y_iload_n dX12_struck_42 rfl <| Y_callV1 dX12_struck_43 cl_11_411 rfl rfl (xis W37 113 11 s_113 (Nat.le_of_ble_eq_true rfl)) rfl rfl rfl (hk43) <| Y_iret dX12_struck_46 rfl k
theorem bX12_place_0 {d : Nat} {g : xSt} {r : Option Value × xSt} {a1 a2 a3 r2 : Int32} {g2 : xSt} (W : xWf g) (hk2 : xCallM d mX12_isThing [.ref 113, .int a1] g = some (some (.int r2), g2)) (W2 : xWf g2) (k1 : r2 = 0 → xX (d + 1) mX12_place 16 [none, none, none, none, none, none, none] [] g2 = some r) (k2 : ¬ (r2 = 0) → xX (d + 1) mX12_place 8 [some (.ref 113), some (.int a1), some (.int a2), some (.int a3), none, none, none] [] g2 = some r) : xX (d + 1) mX12_place 0 [some (.ref 113), some (.int a1), some (.int a2), some (.int a3), none, none, none] [] g = some r :=
  Y_aload_n dX12_place_0 rfl <| Y_iload_n dX12_place_1 rfl <| Y_callV1 dX12_place_2 cl_11_421 rfl rfl (xis W 113 11 s_113 (Nat.le_of_ble_eq_true rfl)) rfl rfl rfl (hk2) <| Y_eq0 16 dX12_place_5 rfl (fun q => X_le (xle_n (xle_n (xle_n (xle_n (xle_n (xle_n (xle_n xle_0))))))) (k1 q)) (fun q => X_le (xle_s (xle_s (xle_s (xle_s (xle_n (xle_n (xle_n xle_0))))))) (k2 q))
theorem bX12_place_8 {d : Nat} {g : xSt} {r : Option Value × xSt} {a1 a2 a3 r10 : Int32} {g10 : xSt} (W : xWf g) (hk10 : xCallM d mX12_hasLeft [.ref 113, .int a3] g = some (some (.int r10), g10)) (W10 : xWf g10) (k1 : r10 = 0 → xX (d + 1) mX12_place 16 [none, none, none, none, none, none, none] [] g10 = some r) (k2 : ¬ (r10 = 0) → xX (d + 1) mX12_place 18 [some (.ref 113), some (.int a1), some (.int a2), none, none, none, none] [] g10 = some r) : xX (d + 1) mX12_place 8 [some (.ref 113), some (.int a1), some (.int a2), some (.int a3), none, none, none] [] g = some r :=
  Y_aload_n dX12_place_8 rfl <| Y_iload_n dX12_place_9 rfl <| Y_callV1 dX12_place_10 cl_11_424 rfl rfl (xis W 113 11 s_113 (Nat.le_of_ble_eq_true rfl)) rfl rfl rfl (hk10) <| Y_ne0 18 dX12_place_13 rfl (fun q => X_le (xle_n (xle_n (xle_n (xle_n (xle_n (xle_n (xle_n xle_0))))))) (k1 q)) (fun q => X_le (xle_s (xle_s (xle_s (xle_n (xle_n (xle_n (xle_n xle_0))))))) (k2 q))
theorem bX12_place_16 {d : Nat} {g : xSt} {r : Option Value × xSt}  (k : r = (some (.int (-1)), g)) : xX (d + 1) mX12_place 16 [none, none, none, none, none, none, none] [] g = some r :=
  Y_iconst (-1) dX12_place_16 ic_m1 <| Y_iret dX12_place_17 rfl k
theorem bX12_place_18 {d : Nat} {g : xSt} {r : Option Value × xSt} {a1 a2 r21 : Int32} {g21 : xSt} (W : xWf g) (hk21 : xCallM d mX12_placeLeft [.ref 113, .int 0, .int a1] g = some (some (.int r21), g21)) (W21 : xWf g21) (k : xX (d + 1) mX12_place 29 [some (.ref 113), some (.int a1), some (.int a2), none, some (.int r21), some (.int 1), none] [] g21 = some r) : xX (d + 1) mX12_place 18 [some (.ref 113), some (.int a1), some (.int a2), none, none, none, none] [] g = some r :=
  Y_aload_n dX12_place_18 rfl <| Y_iconst 0 dX12_place_19 ic_0 <| Y_iload_n dX12_place_20 rfl <| Y_callV1 dX12_place_21 cl_11_427 rfl rfl (xis W 113 11 s_113 (Nat.le_of_ble_eq_true rfl)) rfl rfl rfl (hk21) <| Y_istore dX12_place_24 rfl rfl <| Y_iconst 1 dX12_place_26 ic_1 <| Y_istore dX12_place_27 rfl rfl <| X_le (xle_s (xle_s (xle_s (xle_n (xle_s (xle_s (xle_n xle_0))))))) k
theorem bX12_place_29 {d : Nat} {g : xSt} {r : Option Value × xSt} {a1 a2 a4 a5 : Int32} (W : xWf g) (k1 : (xI g 113 53) ≤ a5 → xX (d + 1) mX12_place 78 [none, none, none, none, some (.int a4), none, none] [] g = some r) (k2 : ¬ ((xI g 113 53) ≤ a5) → xX (d + 1) mX12_place 38 [some (.ref 113), some (.int a1), some (.int a2), none, some (.int a4), some (.int a5), none] [] g = some r) : xX (d + 1) mX12_place 29 [some (.ref 113), some (.int a1), some (.int a2), none, some (.int a4), some (.int a5), none] [] g = some r :=
  Y_iload dX12_place_29 rfl <| Y_aload_n dX12_place_31 rfl <| Y_getI dX12_place_32 f_11_408 ft_11_53 (xis W 113 11 s_113 (Nat.le_of_ble_eq_true rfl)) <| Y_ge 78 dX12_place_35 rfl (fun q => X_le (xle_n (xle_n (xle_n (xle_n (xle_s (xle_n (xle_n xle_0))))))) (k1 q)) (fun q => X_le (xle_s (xle_s (xle_s (xle_n (xle_s (xle_s (xle_n xle_0))))))) (k2 q))
theorem bX12_place_38 {d : Nat} {g : xSt} {r : Option Value × xSt} {a1 a2 a4 a5 r42 : Int32} {g42 : xSt} (W : xWf g) (hk42 : xCallM d mX12_placeLeft [.ref 113, .int a5, .int a1] g = some (some (.int r42), g42)) (W42 : xWf g42) (k1 : a2 = 0 → xX (d + 1) mX12_place 61 [some (.ref 113), some (.int a1), some (.int a2), none, some (.int a4), some (.int a5), some (.int r42)] [] g42 = some r) (k2 : ¬ (a2 = 0) → xX (d + 1) mX12_place 51 [some (.ref 113), some (.int a1), some (.int a2), none, some (.int a4), some (.int a5), some (.int r42)] [] g42 = some r) : xX (d + 1) mX12_place 38 [some (.ref 113), some (.int a1), some (.int a2), none, some (.int a4), some (.int a5), none] [] g = some r :=
  Y_aload_n dX12_place_38 rfl <| Y_iload dX12_place_39 rfl <| Y_iload_n dX12_place_41 rfl <| Y_callV1 dX12_place_42 cl_11_427 rfl rfl (xis W 113 11 s_113 (Nat.le_of_ble_eq_true rfl)) rfl rfl rfl (hk42) <| Y_istore dX12_place_45 rfl rfl <| Y_iload_n dX12_place_47 rfl <| Y_eq0 61 dX12_place_48 rfl (fun q => X_le (xle_s (xle_s (xle_s (xle_n (xle_s (xle_s (xle_s xle_0))))))) (k1 q)) (fun q => X_le (xle_s (xle_s (xle_s (xle_n (xle_s (xle_s (xle_s xle_0))))))) (k2 q))
theorem bX12_place_51 {d : Nat} {g : xSt} {r : Option Value × xSt} {a1 a2 a4 a5 a6 : Int32} (k1 : a6 ≤ a4 → xX (d + 1) mX12_place 72 [some (.ref 113), some (.int a1), some (.int a2), none, some (.int a4), some (.int a5), none] [] g = some r) (k2 : ¬ (a6 ≤ a4) → xX (d + 1) mX12_place 58 [some (.ref 113), some (.int a1), some (.int a2), none, none, some (.int a5), some (.int a6)] [] g = some r) : xX (d + 1) mX12_place 51 [some (.ref 113), some (.int a1), some (.int a2), none, some (.int a4), some (.int a5), some (.int a6)] [] g = some r :=
  Y_iload dX12_place_51 rfl <| Y_iload dX12_place_53 rfl <| Y_le 72 dX12_place_55 rfl (fun q => X_le (xle_s (xle_s (xle_s (xle_n (xle_s (xle_s (xle_n xle_0))))))) (k1 q)) (fun q => X_le (xle_s (xle_s (xle_s (xle_n (xle_n (xle_s (xle_s xle_0))))))) (k2 q))
theorem bX12_place_58 {d : Nat} {g : xSt} {r : Option Value × xSt} {a1 a2 a5 a6 : Int32} (k : xX (d + 1) mX12_place 68 [some (.ref 113), some (.int a1), some (.int a2), none, none, some (.int a5), some (.int a6)] [] g = some r) : xX (d + 1) mX12_place 58 [some (.ref 113), some (.int a1), some (.int a2), none, none, some (.int a5), some (.int a6)] [] g = some r :=
  Y_goto 68 dX12_place_58 rfl <| X_le (xle_s (xle_s (xle_s (xle_n (xle_n (xle_s (xle_s xle_0))))))) k
theorem bX12_place_61 {d : Nat} {g : xSt} {r : Option Value × xSt} {a1 a2 a4 a5 a6 : Int32} (k1 : a4 ≤ a6 → xX (d + 1) mX12_place 72 [some (.ref 113), some (.int a1), some (.int a2), none, some (.int a4), some (.int a5), none] [] g = some r) (k2 : ¬ (a4 ≤ a6) → xX (d + 1) mX12_place 68 [some (.ref 113), some (.int a1), some (.int a2), none, none, some (.int a5), some (.int a6)] [] g = some r) : xX (d + 1) mX12_place 61 [some (.ref 113), some (.int a1), some (.int a2), none, some (.int a4), some (.int a5), some (.int a6)] [] g = some r :=
  Y_iload dX12_place_61 rfl <| Y_iload dX12_place_63 rfl <| Y_ge 72 dX12_place_65 rfl (fun q => X_le (xle_s (xle_s (xle_s (xle_n (xle_s (xle_s (xle_n xle_0))))))) (k1 q)) (fun q => X_le (xle_s (xle_s (xle_s (xle_n (xle_n (xle_s (xle_s xle_0))))))) (k2 q))
theorem bX12_place_68 {d : Nat} {g : xSt} {r : Option Value × xSt} {a1 a2 a5 a6 : Int32} (k : xX (d + 1) mX12_place 72 [some (.ref 113), some (.int a1), some (.int a2), none, some (.int a6), some (.int a5), none] [] g = some r) : xX (d + 1) mX12_place 68 [some (.ref 113), some (.int a1), some (.int a2), none, none, some (.int a5), some (.int a6)] [] g = some r :=
  Y_iload dX12_place_68 rfl <| Y_istore dX12_place_70 rfl rfl <| X_le (xle_s (xle_s (xle_s (xle_n (xle_s (xle_s (xle_n xle_0))))))) k
theorem bX12_place_72 {d : Nat} {g : xSt} {r : Option Value × xSt} {a1 a2 a4 a5 : Int32} (k : xX (d + 1) mX12_place 29 [some (.ref 113), some (.int a1), some (.int a2), none, some (.int a4), some (.int (a5 + 1)), none] [] g = some r) : xX (d + 1) mX12_place 72 [some (.ref 113), some (.int a1), some (.int a2), none, some (.int a4), some (.int a5), none] [] g = some r :=
  Y_iinc 1 dX12_place_72 rfl ic_1 rfl rfl <| Y_goto 29 dX12_place_75 rfl <| X_le (xle_s (xle_s (xle_s (xle_n (xle_s (xle_s (xle_n xle_0))))))) k
theorem bX12_place_78 {d : Nat} {g : xSt} {r : Option Value × xSt} {a4 : Int32} (k : r = (some (.int a4), g)) : xX (d + 1) mX12_place 78 [none, none, none, none, some (.int a4), none, none] [] g = some r :=
  Y_iload dX12_place_78 rfl <| Y_iret dX12_place_80 rfl k
theorem bX12_isThing_0 {d : Nat} {g : xSt} {r : Option Value × xSt} {a1 r3 r8 : Int32} {g3 g8 : xSt} (W : xWf g) (hk3 : xCallM d mX12_thingMany [.ref 113] g = some (some (.int r3), g3)) (W3 : xWf g3) (hk8 : xCallM d mX12_isIn [.int a1, .int 0, .int (r3 - 1)] g3 = some (some (.int r8), g8)) (W8 : xWf g8) (hz11 : r8 = 0 ∨ r8 = 1) (k : r = (some (.int r8), g8)) : xX (d + 1) mX12_isThing 0 [some (.ref 113), some (.int a1)] [] g = some r :=
  Y_iload_n dX12_isThing_0 rfl <| Y_iconst 0 dX12_isThing_1 ic_0 <| Y_aload_n dX12_isThing_2 rfl <| Y_callV1 dX12_isThing_3 cl_11_364 rfl rfl (xis W 113 11 s_113 (Nat.le_of_ble_eq_true rfl)) rfl rfl rfl (hk3) <| Y_iconst 1 dX12_isThing_6 ic_1 <| Y_isub dX12_isThing_7 <| Y_callS1 dX12_isThing_8 cl_11_367 rfl rfl rfl rfl rfl (hk8) <| Y_zret dX12_isThing_11 rfl (hz11) k
theorem bX12_hasLeft_0 {d : Nat} {g : xSt} {r : Option Value × xSt} {a1 : Int32} {g3 : xSt} (W : xWf g) (hk3 : xCallM d mX12_layLeft [.ref 113, .int 0, .int a1] g = some (none, g3)) (W3 : xWf g3) (k1 : (xI g3 113 53) ≤ 0 → xX (d + 1) mX12_hasLeft 17 [none, none] [] g3 = some r) (k2 : ¬ ((xI g3 113 53) ≤ 0) → xX (d + 1) mX12_hasLeft 13 [none, none] [] g3 = some r) : xX (d + 1) mX12_hasLeft 0 [some (.ref 113), some (.int a1)] [] g = some r :=
  Y_aload_n dX12_hasLeft_0 rfl <| Y_iconst 0 dX12_hasLeft_1 ic_0 <| Y_iload_n dX12_hasLeft_2 rfl <| Y_callV0 dX12_hasLeft_3 cl_11_414 rfl rfl (xis W 113 11 s_113 (Nat.le_of_ble_eq_true rfl)) rfl rfl rfl (hk3) <| Y_aload_n dX12_hasLeft_6 rfl <| Y_getI dX12_hasLeft_7 f_11_408 ft_11_53 (xis W3 113 11 s_113 (Nat.le_of_ble_eq_true rfl)) <| Y_le0 17 dX12_hasLeft_10 rfl (fun q => X_le (xle_n (xle_n xle_0)) (k1 q)) (fun q => X_le (xle_n (xle_n xle_0)) (k2 q))
theorem bX12_hasLeft_13 {d : Nat} {g : xSt} {r : Option Value × xSt}  (k : xX (d + 1) mX12_hasLeft 18 [none, none] [.int 1] g = some r) : xX (d + 1) mX12_hasLeft 13 [none, none] [] g = some r :=
  Y_iconst 1 dX12_hasLeft_13 ic_1 <| Y_goto 18 dX12_hasLeft_14 rfl <| X_le (xle_n (xle_n xle_0)) k
theorem bX12_hasLeft_17 {d : Nat} {g : xSt} {r : Option Value × xSt}  (k : xX (d + 1) mX12_hasLeft 18 [none, none] [.int 0] g = some r) : xX (d + 1) mX12_hasLeft 17 [none, none] [] g = some r :=
  Y_iconst 0 dX12_hasLeft_17 ic_0 <| X_le (xle_n (xle_n xle_0)) k
theorem bX12_hasLeft_18 {d : Nat} {g : xSt} {r : Option Value × xSt} {s0 : Int32} (hz18 : s0 = 0 ∨ s0 = 1) (k : r = (some (.int s0), g)) : xX (d + 1) mX12_hasLeft 18 [none, none] [.int s0] g = some r :=
  Y_zret dX12_hasLeft_18 rfl (hz18) k
theorem bX12_placeLeft_0 {d : Nat} {g : xSt} {r : Option Value × xSt} {a1 a2 : Int32} (W : xWf g) (hi10 : vp_in a1 541) (hi14 : vp_in ((5 * (xI g 145 a1.toNatClampNeg)) + a2) 2705) (k : r = (some (.int (xI g 134 ((5 * (xI g 145 a1.toNatClampNeg)) + a2).toNatClampNeg)), g)) : xX d mX12_placeLeft 0 [some (.ref 113), some (.int a1), some (.int a2)] [] g = some r :=
  Y_aload_n dX12_placeLeft_0 rfl <| Y_getR dX12_placeLeft_1 f_11_77 (by rw [ft_11_32]; rfl) (xis W 113 11 s_113 (Nat.le_of_ble_eq_true rfl)) (xptr W 113 32 p_113_32) <| Y_iconst 5 dX12_placeLeft_4 ic_5 <| Y_aload_n dX12_placeLeft_5 rfl <| Y_getR dX12_placeLeft_6 f_11_110 (by rw [ft_11_48]; rfl) (xis W 113 11 s_113 (Nat.le_of_ble_eq_true rfl)) (xptr W 113 48 p_113_48) <| Y_iload_n dX12_placeLeft_9 rfl <| Y_iald dX12_placeLeft_10 (xarr W (o := 145) s_145 (Nat.le_of_ble_eq_true rfl)) hi10 <| Y_imul dX12_placeLeft_11 <| Y_iload_n dX12_placeLeft_12 rfl <| Y_iadd dX12_placeLeft_13 <| Y_iald dX12_placeLeft_14 (xarr W (o := 134) s_134 (Nat.le_of_ble_eq_true rfl)) hi14 <| Y_iret dX12_placeLeft_15 rfl k
theorem bX12_stand_0 {d : Nat} {g : xSt} {r : Option Value × xSt} {a1 a2 a3 r3 : Int32} {g3 : xSt} (hk3 : xCallM d mX12_isIn [.int a1, .int 0, .int 4] g = some (some (.int r3), g3)) (W3 : xWf g3) (k1 : r3 = 0 → xX (d + 1) mX12_stand 17 [none, none, none, none, none, none, none, none] [] g3 = some r) (k2 : ¬ (r3 = 0) → xX (d + 1) mX12_stand 9 [some (.ref 113), some (.int a1), some (.int a2), some (.int a3), none, none, none, none] [] g3 = some r) : xX (d + 1) mX12_stand 0 [some (.ref 113), some (.int a1), some (.int a2), some (.int a3), none, none, none, none] [] g = some r :=
  Y_iload_n dX12_stand_0 rfl <| Y_iconst 0 dX12_stand_1 ic_0 <| Y_iconst 4 dX12_stand_2 ic_4 <| Y_callS1 dX12_stand_3 cl_11_367 rfl rfl rfl rfl rfl (hk3) <| Y_eq0 17 dX12_stand_6 rfl (fun q => X_le (xle_n (xle_n (xle_n (xle_n (xle_n (xle_n (xle_n (xle_n xle_0)))))))) (k1 q)) (fun q => X_le (xle_s (xle_s (xle_s (xle_s (xle_n (xle_n (xle_n (xle_n xle_0)))))))) (k2 q))
theorem bX12_stand_9 {d : Nat} {g : xSt} {r : Option Value × xSt} {a1 a2 a3 r11 : Int32} {g11 : xSt} (W : xWf g) (hk11 : xCallM d mX12_hasLeft [.ref 113, .int a3] g = some (some (.int r11), g11)) (W11 : xWf g11) (k1 : r11 = 0 → xX (d + 1) mX12_stand 17 [none, none, none, none, none, none, none, none] [] g11 = some r) (k2 : ¬ (r11 = 0) → xX (d + 1) mX12_stand 19 [some (.ref 113), some (.int a1), some (.int a2), none, none, none, none, none] [] g11 = some r) : xX (d + 1) mX12_stand 9 [some (.ref 113), some (.int a1), some (.int a2), some (.int a3), none, none, none, none] [] g = some r :=
  Y_aload_n dX12_stand_9 rfl <| Y_iload_n dX12_stand_10 rfl <| Y_callV1 dX12_stand_11 cl_11_424 rfl rfl (xis W 113 11 s_113 (Nat.le_of_ble_eq_true rfl)) rfl rfl rfl (hk11) <| Y_ne0 19 dX12_stand_14 rfl (fun q => X_le (xle_n (xle_n (xle_n (xle_n (xle_n (xle_n (xle_n (xle_n xle_0)))))))) (k1 q)) (fun q => X_le (xle_s (xle_s (xle_s (xle_n (xle_n (xle_n (xle_n (xle_n xle_0)))))))) (k2 q))
theorem bX12_stand_17 {d : Nat} {g : xSt} {r : Option Value × xSt}  (k : r = (some (.int (-1)), g)) : xX (d + 1) mX12_stand 17 [none, none, none, none, none, none, none, none] [] g = some r :=
  Y_iconst (-1) dX12_stand_17 ic_m1 <| Y_iret dX12_stand_18 rfl k
theorem bX12_stand_19 {d : Nat} {g : xSt} {r : Option Value × xSt} {a1 a2 : Int32} (k : xX (d + 1) mX12_stand 25 [some (.ref 113), some (.int a1), some (.int a2), none, some (.int 0), some (.int 0), none, none] [] g = some r) : xX (d + 1) mX12_stand 19 [some (.ref 113), some (.int a1), some (.int a2), none, none, none, none, none] [] g = some r :=
  Y_iconst 0 dX12_stand_19 ic_0 <| Y_istore dX12_stand_20 rfl rfl <| Y_iconst 0 dX12_stand_22 ic_0 <| Y_istore dX12_stand_23 rfl rfl <| X_le (xle_s (xle_s (xle_s (xle_n (xle_s (xle_s (xle_n (xle_n xle_0)))))))) k
theorem bX12_stand_25 {d : Nat} {g : xSt} {r : Option Value × xSt} {a1 a2 a4 a5 r28 : Int32} {g28 : xSt} (W : xWf g) (hk28 : xCallM d mX12_thingMany [.ref 113] g = some (some (.int r28), g28)) (W28 : xWf g28) (k1 : r28 ≤ a5 → xX (d + 1) mX12_stand 113 [none, none, none, none, some (.int a4), none, none, none] [] g28 = some r) (k2 : ¬ (r28 ≤ a5) → xX (d + 1) mX12_stand 34 [some (.ref 113), some (.int a1), some (.int a2), none, some (.int a4), some (.int a5), none, none] [] g28 = some r) : xX (d + 1) mX12_stand 25 [some (.ref 113), some (.int a1), some (.int a2), none, some (.int a4), some (.int a5), none, none] [] g = some r :=
  Y_iload dX12_stand_25 rfl <| Y_aload_n dX12_stand_27 rfl <| Y_callV1 dX12_stand_28 cl_11_364 rfl rfl (xis W 113 11 s_113 (Nat.le_of_ble_eq_true rfl)) rfl rfl rfl (hk28) <| Y_ge 113 dX12_stand_31 rfl (fun q => X_le (xle_n (xle_n (xle_n (xle_n (xle_s (xle_n (xle_n (xle_n xle_0)))))))) (k1 q)) (fun q => X_le (xle_s (xle_s (xle_s (xle_n (xle_s (xle_s (xle_n (xle_n xle_0)))))))) (k2 q))
theorem bX12_stand_34 {d : Nat} {g : xSt} {r : Option Value × xSt} {a1 a2 a4 a5 : Int32} (k : xX (d + 1) mX12_stand 40 [some (.ref 113), some (.int a1), some (.int a2), none, some (.int a4), some (.int a5), some (.int 0), some (.int 0)] [] g = some r) : xX (d + 1) mX12_stand 34 [some (.ref 113), some (.int a1), some (.int a2), none, some (.int a4), some (.int a5), none, none] [] g = some r :=
  Y_iconst 0 dX12_stand_34 ic_0 <| Y_istore dX12_stand_35 rfl rfl <| Y_iconst 0 dX12_stand_37 ic_0 <| Y_istore dX12_stand_38 rfl rfl <| X_le (xle_s (xle_s (xle_s (xle_n (xle_s (xle_s (xle_s (xle_s xle_0)))))))) k
theorem bX12_stand_40 {d : Nat} {g : xSt} {r : Option Value × xSt} {a1 a2 a4 a5 a6 a7 : Int32} (W : xWf g) (k1 : (xI g 113 53) ≤ a7 → xX (d + 1) mX12_stand 77 [some (.ref 113), some (.int a1), some (.int a2), none, some (.int a4), some (.int a5), some (.int a6), none] [] g = some r) (k2 : ¬ ((xI g 113 53) ≤ a7) → xX (d + 1) mX12_stand 49 [some (.ref 113), some (.int a1), some (.int a2), none, some (.int a4), some (.int a5), some (.int a6), some (.int a7)] [] g = some r) : xX (d + 1) mX12_stand 40 [some (.ref 113), some (.int a1), some (.int a2), none, some (.int a4), some (.int a5), some (.int a6), some (.int a7)] [] g = some r :=
  Y_iload dX12_stand_40 rfl <| Y_aload_n dX12_stand_42 rfl <| Y_getI dX12_stand_43 f_11_408 ft_11_53 (xis W 113 11 s_113 (Nat.le_of_ble_eq_true rfl)) <| Y_ge 77 dX12_stand_46 rfl (fun q => X_le (xle_s (xle_s (xle_s (xle_n (xle_s (xle_s (xle_s (xle_n xle_0)))))))) (k1 q)) (fun q => X_le (xle_s (xle_s (xle_s (xle_n (xle_s (xle_s (xle_s (xle_s xle_0)))))))) (k2 q))
theorem bX12_stand_49 {d : Nat} {g : xSt} {r : Option Value × xSt} {a1 a2 a4 a5 a6 a7 r56 : Int32} {g56 : xSt} (W : xWf g) (hk56 : xCallM d mX12_placeLeft [.ref 113, .int a7, .int a5] g = some (some (.int r56), g56)) (W56 : xWf g56) (k1 : r56 = a1 → xX (d + 1) mX12_stand 63 [some (.ref 113), some (.int a1), some (.int a2), none, some (.int a4), some (.int a5), none, some (.int a7)] [.int a6] g56 = some r) (k2 : ¬ (r56 = a1) → xX (d + 1) mX12_stand 67 [some (.ref 113), some (.int a1), some (.int a2), none, some (.int a4), some (.int a5), none, some (.int a7)] [.int a6] g56 = some r) : xX (d + 1) mX12_stand 49 [some (.ref 113), some (.int a1), some (.int a2), none, some (.int a4), some (.int a5), some (.int a6), some (.int a7)] [] g = some r :=
  Y_iload dX12_stand_49 rfl <| Y_aload_n dX12_stand_51 rfl <| Y_iload dX12_stand_52 rfl <| Y_iload dX12_stand_54 rfl <| Y_callV1 dX12_stand_56 cl_11_427 rfl rfl (xis W 113 11 s_113 (Nat.le_of_ble_eq_true rfl)) rfl rfl rfl (hk56) <| Y_iload_n dX12_stand_59 rfl <| Y_ne 67 dX12_stand_60 rfl (fun q => X_le (xle_s (xle_s (xle_s (xle_n (xle_s (xle_s (xle_n (xle_s xle_0)))))))) (k1 q)) (fun q => X_le (xle_s (xle_s (xle_s (xle_n (xle_s (xle_s (xle_n (xle_s xle_0)))))))) (k2 q))
theorem bX12_stand_63 {d : Nat} {g : xSt} {r : Option Value × xSt} {a1 a2 a4 a5 a7 s0 : Int32} (k : xX (d + 1) mX12_stand 68 [some (.ref 113), some (.int a1), some (.int a2), none, some (.int a4), some (.int a5), none, some (.int a7)] [.int 1, .int s0] g = some r) : xX (d + 1) mX12_stand 63 [some (.ref 113), some (.int a1), some (.int a2), none, some (.int a4), some (.int a5), none, some (.int a7)] [.int s0] g = some r :=
  Y_iconst 1 dX12_stand_63 ic_1 <| Y_goto 68 dX12_stand_64 rfl <| X_le (xle_s (xle_s (xle_s (xle_n (xle_s (xle_s (xle_n (xle_s xle_0)))))))) k
theorem bX12_stand_67 {d : Nat} {g : xSt} {r : Option Value × xSt} {a1 a2 a4 a5 a7 s0 : Int32} (k : xX (d + 1) mX12_stand 68 [some (.ref 113), some (.int a1), some (.int a2), none, some (.int a4), some (.int a5), none, some (.int a7)] [.int 0, .int s0] g = some r) : xX (d + 1) mX12_stand 67 [some (.ref 113), some (.int a1), some (.int a2), none, some (.int a4), some (.int a5), none, some (.int a7)] [.int s0] g = some r :=
  Y_iconst 0 dX12_stand_67 ic_0 <| X_le (xle_s (xle_s (xle_s (xle_n (xle_s (xle_s (xle_n (xle_s xle_0)))))))) k
theorem bX12_stand_68 {d : Nat} {g : xSt} {r : Option Value × xSt} {a1 a2 a4 a5 a7 s1 s0 : Int32} (k : xX (d + 1) mX12_stand 40 [some (.ref 113), some (.int a1), some (.int a2), none, some (.int a4), some (.int a5), some (.int (s1 + s0)), some (.int (a7 + 1))] [] g = some r) : xX (d + 1) mX12_stand 68 [some (.ref 113), some (.int a1), some (.int a2), none, some (.int a4), some (.int a5), none, some (.int a7)] [.int s0, .int s1] g = some r :=
  Y_iadd dX12_stand_68 <| Y_istore dX12_stand_69 rfl rfl <| Y_iinc 1 dX12_stand_71 rfl ic_1 rfl rfl <| Y_goto 40 dX12_stand_74 rfl <| X_le (xle_s (xle_s (xle_s (xle_n (xle_s (xle_s (xle_s (xle_s xle_0)))))))) k
theorem bX12_stand_77 {d : Nat} {g : xSt} {r : Option Value × xSt} {a1 a2 a4 a5 a6 : Int32} (k1 : a2 = 0 → xX (d + 1) mX12_stand 89 [some (.ref 113), some (.int a1), some (.int a2), none, some (.int a4), some (.int a5), some (.int a6), none] [] g = some r) (k2 : ¬ (a2 = 0) → xX (d + 1) mX12_stand 81 [some (.ref 113), some (.int a1), some (.int a2), none, some (.int a4), some (.int a5), some (.int a6), none] [] g = some r) : xX (d + 1) mX12_stand 77 [some (.ref 113), some (.int a1), some (.int a2), none, some (.int a4), some (.int a5), some (.int a6), none] [] g = some r :=
  Y_iload_n dX12_stand_77 rfl <| Y_eq0 89 dX12_stand_78 rfl (fun q => X_le (xle_s (xle_s (xle_s (xle_n (xle_s (xle_s (xle_s (xle_n xle_0)))))))) (k1 q)) (fun q => X_le (xle_s (xle_s (xle_s (xle_n (xle_s (xle_s (xle_s (xle_n xle_0)))))))) (k2 q))
theorem bX12_stand_81 {d : Nat} {g : xSt} {r : Option Value × xSt} {a1 a2 a4 a5 a6 : Int32} (k1 : a6 ≤ 0 → xX (d + 1) mX12_stand 107 [some (.ref 113), some (.int a1), some (.int a2), none, some (.int a4), some (.int a5), none, none] [] g = some r) (k2 : ¬ (a6 ≤ 0) → xX (d + 1) mX12_stand 86 [some (.ref 113), some (.int a1), some (.int a2), none, some (.int a4), some (.int a5), none, none] [] g = some r) : xX (d + 1) mX12_stand 81 [some (.ref 113), some (.int a1), some (.int a2), none, some (.int a4), some (.int a5), some (.int a6), none] [] g = some r :=
  Y_iload dX12_stand_81 rfl <| Y_le0 107 dX12_stand_83 rfl (fun q => X_le (xle_s (xle_s (xle_s (xle_n (xle_s (xle_s (xle_n (xle_n xle_0)))))))) (k1 q)) (fun q => X_le (xle_s (xle_s (xle_s (xle_n (xle_s (xle_s (xle_n (xle_n xle_0)))))))) (k2 q))
theorem bX12_stand_86 {d : Nat} {g : xSt} {r : Option Value × xSt} {a1 a2 a4 a5 : Int32} (k : xX (d + 1) mX12_stand 98 [some (.ref 113), some (.int a1), some (.int a2), none, some (.int a4), some (.int a5), none, none] [] g = some r) : xX (d + 1) mX12_stand 86 [some (.ref 113), some (.int a1), some (.int a2), none, some (.int a4), some (.int a5), none, none] [] g = some r :=
  Y_goto 98 dX12_stand_86 rfl <| X_le (xle_s (xle_s (xle_s (xle_n (xle_s (xle_s (xle_n (xle_n xle_0)))))))) k
theorem bX12_stand_89 {d : Nat} {g : xSt} {r : Option Value × xSt} {a1 a2 a4 a5 a6 : Int32} (W : xWf g) (k1 : a6 = (xI g 113 53) → xX (d + 1) mX12_stand 98 [some (.ref 113), some (.int a1), some (.int a2), none, some (.int a4), some (.int a5), none, none] [] g = some r) (k2 : ¬ (a6 = (xI g 113 53)) → xX (d + 1) mX12_stand 107 [some (.ref 113), some (.int a1), some (.int a2), none, some (.int a4), some (.int a5), none, none] [] g = some r) : xX (d + 1) mX12_stand 89 [some (.ref 113), some (.int a1), some (.int a2), none, some (.int a4), some (.int a5), some (.int a6), none] [] g = some r :=
  Y_iload dX12_stand_89 rfl <| Y_aload_n dX12_stand_91 rfl <| Y_getI dX12_stand_92 f_11_408 ft_11_53 (xis W 113 11 s_113 (Nat.le_of_ble_eq_true rfl)) <| Y_ne 107 dX12_stand_95 rfl (fun q => X_le (xle_s (xle_s (xle_s (xle_n (xle_s (xle_s (xle_n (xle_n xle_0)))))))) (k1 q)) (fun q => X_le (xle_s (xle_s (xle_s (xle_n (xle_s (xle_s (xle_n (xle_n xle_0)))))))) (k2 q))
theorem bX12_stand_98 {d : Nat} {g : xSt} {r : Option Value × xSt} {a1 a2 a4 a5 : Int32} (k : xX (d + 1) mX12_stand 107 [some (.ref 113), some (.int a1), some (.int a2), none, some (.int (a4 ||| (1 <<< (a5 &&& 31)))), some (.int a5), none, none] [] g = some r) : xX (d + 1) mX12_stand 98 [some (.ref 113), some (.int a1), some (.int a2), none, some (.int a4), some (.int a5), none, none] [] g = some r :=
  Y_iload dX12_stand_98 rfl <| Y_iconst 1 dX12_stand_100 ic_1 <| Y_iload dX12_stand_101 rfl <| Y_ishl dX12_stand_103 <| Y_ior dX12_stand_104 <| Y_istore dX12_stand_105 rfl rfl <| X_le (xle_s (xle_s (xle_s (xle_n (xle_s (xle_s (xle_n (xle_n xle_0)))))))) k
theorem bX12_stand_107 {d : Nat} {g : xSt} {r : Option Value × xSt} {a1 a2 a4 a5 : Int32} (k : xX (d + 1) mX12_stand 25 [some (.ref 113), some (.int a1), some (.int a2), none, some (.int a4), some (.int (a5 + 1)), none, none] [] g = some r) : xX (d + 1) mX12_stand 107 [some (.ref 113), some (.int a1), some (.int a2), none, some (.int a4), some (.int a5), none, none] [] g = some r :=
  Y_iinc 1 dX12_stand_107 rfl ic_1 rfl rfl <| Y_goto 25 dX12_stand_110 rfl <| X_le (xle_s (xle_s (xle_s (xle_n (xle_s (xle_s (xle_n (xle_n xle_0)))))))) k
theorem bX12_stand_113 {d : Nat} {g : xSt} {r : Option Value × xSt} {a4 : Int32} (k : r = (some (.int a4), g)) : xX (d + 1) mX12_stand 113 [none, none, none, none, some (.int a4), none, none, none] [] g = some r :=
  Y_iload dX12_stand_113 rfl <| Y_iret dX12_stand_115 rfl k
theorem bX12_surely_0 {d : Nat} {g : xSt} {r : Option Value × xSt} {a1 a2 a3 r3 : Int32} {g3 : xSt} (W : xWf g) (hk3 : xCallM d mX12_areTwo [.ref 113, .int a1, .int a2] g = some (some (.int r3), g3)) (W3 : xWf g3) (k1 : r3 = 0 → xX (d + 1) mX12_surely 26 [none, none, none, none] [] g3 = some r) (k2 : ¬ (r3 = 0) → xX (d + 1) mX12_surely 9 [some (.ref 113), some (.int a1), some (.int a2), some (.int a3)] [] g3 = some r) : xX (d + 1) mX12_surely 0 [some (.ref 113), some (.int a1), some (.int a2), some (.int a3)] [] g = some r :=
  Y_aload_n dX12_surely_0 rfl <| Y_iload_n dX12_surely_1 rfl <| Y_iload_n dX12_surely_2 rfl <| Y_callV1 dX12_surely_3 cl_11_433 rfl rfl (xis W 113 11 s_113 (Nat.le_of_ble_eq_true rfl)) rfl rfl rfl (hk3) <| Y_eq0 26 dX12_surely_6 rfl (fun q => X_le (xle_n (xle_n (xle_n (xle_n xle_0)))) (k1 q)) (fun q => X_le (xle_s (xle_s (xle_s (xle_s xle_0)))) (k2 q))
theorem bX12_surely_9 {d : Nat} {g : xSt} {r : Option Value × xSt} {a1 a2 a3 r11 : Int32} {g11 : xSt} (W : xWf g) (hk11 : xCallM d mX12_hasLeft [.ref 113, .int a3] g = some (some (.int r11), g11)) (W11 : xWf g11) (k1 : r11 = 0 → xX (d + 1) mX12_surely 26 [none, none, none, none] [] g11 = some r) (k2 : ¬ (r11 = 0) → xX (d + 1) mX12_surely 17 [some (.ref 113), some (.int a1), some (.int a2), none] [] g11 = some r) : xX (d + 1) mX12_surely 9 [some (.ref 113), some (.int a1), some (.int a2), some (.int a3)] [] g = some r :=
  Y_aload_n dX12_surely_9 rfl <| Y_iload_n dX12_surely_10 rfl <| Y_callV1 dX12_surely_11 cl_11_424 rfl rfl (xis W 113 11 s_113 (Nat.le_of_ble_eq_true rfl)) rfl rfl rfl (hk11) <| Y_eq0 26 dX12_surely_14 rfl (fun q => X_le (xle_n (xle_n (xle_n (xle_n xle_0)))) (k1 q)) (fun q => X_le (xle_s (xle_s (xle_s (xle_n xle_0)))) (k2 q))
theorem bX12_surely_17 {d : Nat} {g : xSt} {r : Option Value × xSt} {a1 a2 r20 : Int32} {g20 : xSt} (W : xWf g) (hk20 : xCallM d mX12_sureOf [.ref 113, .int a1, .int a2] g = some (some (.int r20), g20)) (W20 : xWf g20) (k : xX (d + 1) mX12_surely 27 [none, none, none, none] [.int r20] g20 = some r) : xX (d + 1) mX12_surely 17 [some (.ref 113), some (.int a1), some (.int a2), none] [] g = some r :=
  Y_aload_n dX12_surely_17 rfl <| Y_iload_n dX12_surely_18 rfl <| Y_iload_n dX12_surely_19 rfl <| Y_callV1 dX12_surely_20 cl_11_436 rfl rfl (xis W 113 11 s_113 (Nat.le_of_ble_eq_true rfl)) rfl rfl rfl (hk20) <| Y_goto 27 dX12_surely_23 rfl <| X_le (xle_n (xle_n (xle_n (xle_n xle_0)))) k
theorem bX12_surely_26 {d : Nat} {g : xSt} {r : Option Value × xSt}  (k : xX (d + 1) mX12_surely 27 [none, none, none, none] [.int (-1)] g = some r) : xX (d + 1) mX12_surely 26 [none, none, none, none] [] g = some r :=
  Y_iconst (-1) dX12_surely_26 ic_m1 <| X_le (xle_n (xle_n (xle_n (xle_n xle_0)))) k
theorem bX12_surely_27 {d : Nat} {g : xSt} {r : Option Value × xSt} {s0 : Int32} (k : r = (some (.int s0), g)) : xX (d + 1) mX12_surely 27 [none, none, none, none] [.int s0] g = some r :=
  Y_iret dX12_surely_27 rfl k
theorem bX12_areTwo_0 {d : Nat} {g : xSt} {r : Option Value × xSt} {a1 a2 r2 : Int32} {g2 : xSt} (W : xWf g) (hk2 : xCallM d mX12_isThing [.ref 113, .int a1] g = some (some (.int r2), g2)) (W2 : xWf g2) (k1 : r2 = 0 → xX (d + 1) mX12_areTwo 25 [none, none, none] [] g2 = some r) (k2 : ¬ (r2 = 0) → xX (d + 1) mX12_areTwo 8 [some (.ref 113), some (.int a1), some (.int a2)] [] g2 = some r) : xX (d + 1) mX12_areTwo 0 [some (.ref 113), some (.int a1), some (.int a2)] [] g = some r :=
  Y_aload_n dX12_areTwo_0 rfl <| Y_iload_n dX12_areTwo_1 rfl <| Y_callV1 dX12_areTwo_2 cl_11_421 rfl rfl (xis W 113 11 s_113 (Nat.le_of_ble_eq_true rfl)) rfl rfl rfl (hk2) <| Y_eq0 25 dX12_areTwo_5 rfl (fun q => X_le (xle_n (xle_n (xle_n xle_0))) (k1 q)) (fun q => X_le (xle_s (xle_s (xle_s xle_0))) (k2 q))
theorem bX12_areTwo_8 {d : Nat} {g : xSt} {r : Option Value × xSt} {a1 a2 r10 : Int32} {g10 : xSt} (W : xWf g) (hk10 : xCallM d mX12_isThing [.ref 113, .int a2] g = some (some (.int r10), g10)) (W10 : xWf g10) (k1 : r10 = 0 → xX (d + 1) mX12_areTwo 25 [none, none, none] [] g10 = some r) (k2 : ¬ (r10 = 0) → xX (d + 1) mX12_areTwo 16 [none, some (.int a1), some (.int a2)] [] g10 = some r) : xX (d + 1) mX12_areTwo 8 [some (.ref 113), some (.int a1), some (.int a2)] [] g = some r :=
  Y_aload_n dX12_areTwo_8 rfl <| Y_iload_n dX12_areTwo_9 rfl <| Y_callV1 dX12_areTwo_10 cl_11_421 rfl rfl (xis W 113 11 s_113 (Nat.le_of_ble_eq_true rfl)) rfl rfl rfl (hk10) <| Y_eq0 25 dX12_areTwo_13 rfl (fun q => X_le (xle_n (xle_n (xle_n xle_0))) (k1 q)) (fun q => X_le (xle_n (xle_s (xle_s xle_0))) (k2 q))
theorem bX12_areTwo_16 {d : Nat} {g : xSt} {r : Option Value × xSt} {a1 a2 : Int32} (k1 : a1 = a2 → xX (d + 1) mX12_areTwo 25 [none, none, none] [] g = some r) (k2 : ¬ (a1 = a2) → xX (d + 1) mX12_areTwo 21 [none, none, none] [] g = some r) : xX (d + 1) mX12_areTwo 16 [none, some (.int a1), some (.int a2)] [] g = some r :=
  Y_iload_n dX12_areTwo_16 rfl <| Y_iload_n dX12_areTwo_17 rfl <| Y_eq 25 dX12_areTwo_18 rfl (fun q => X_le (xle_n (xle_n (xle_n xle_0))) (k1 q)) (fun q => X_le (xle_n (xle_n (xle_n xle_0))) (k2 q))
theorem bX12_areTwo_21 {d : Nat} {g : xSt} {r : Option Value × xSt}  (k : xX (d + 1) mX12_areTwo 26 [none, none, none] [.int 1] g = some r) : xX (d + 1) mX12_areTwo 21 [none, none, none] [] g = some r :=
  Y_iconst 1 dX12_areTwo_21 ic_1 <| Y_goto 26 dX12_areTwo_22 rfl <| X_le (xle_n (xle_n (xle_n xle_0))) k
theorem bX12_areTwo_25 {d : Nat} {g : xSt} {r : Option Value × xSt}  (k : xX (d + 1) mX12_areTwo 26 [none, none, none] [.int 0] g = some r) : xX (d + 1) mX12_areTwo 25 [none, none, none] [] g = some r :=
  Y_iconst 0 dX12_areTwo_25 ic_0 <| X_le (xle_n (xle_n (xle_n xle_0))) k
theorem bX12_areTwo_26 {d : Nat} {g : xSt} {r : Option Value × xSt} {s0 : Int32} (hz26 : s0 = 0 ∨ s0 = 1) (k : r = (some (.int s0), g)) : xX (d + 1) mX12_areTwo 26 [none, none, none] [.int s0] g = some r :=
  Y_zret dX12_areTwo_26 rfl (hz26) k
theorem bX12_sureOf_0 {d : Nat} {g : xSt} {r : Option Value × xSt} {a1 a2 : Int32} (k : xX (d + 1) mX12_sureOf 2 [some (.ref 113), some (.int a1), some (.int a2), some (.int 0)] [] g = some r) : xX (d + 1) mX12_sureOf 0 [some (.ref 113), some (.int a1), some (.int a2), none] [] g = some r :=
  Y_iconst 0 dX12_sureOf_0 ic_0 <| Y_istore_n dX12_sureOf_1 rfl rfl <| X_le (xle_s (xle_s (xle_s (xle_s xle_0)))) k
theorem bX12_sureOf_2 {d : Nat} {g : xSt} {r : Option Value × xSt} {a1 a2 a3 : Int32} (k1 : 3 ≤ a3 → xX (d + 1) mX12_sureOf 29 [none, none, none, none] [] g = some r) (k2 : ¬ (3 ≤ a3) → xX (d + 1) mX12_sureOf 7 [some (.ref 113), some (.int a1), some (.int a2), some (.int a3)] [] g = some r) : xX (d + 1) mX12_sureOf 2 [some (.ref 113), some (.int a1), some (.int a2), some (.int a3)] [] g = some r :=
  Y_iload_n dX12_sureOf_2 rfl <| Y_iconst 3 dX12_sureOf_3 ic_3 <| Y_ge 29 dX12_sureOf_4 rfl (fun q => X_le (xle_n (xle_n (xle_n (xle_n xle_0)))) (k1 q)) (fun q => X_le (xle_s (xle_s (xle_s (xle_s xle_0)))) (k2 q))
theorem bX12_sureOf_7 {d : Nat} {g : xSt} {r : Option Value × xSt} {a1 a2 a3 r11 : Int32} {g11 : xSt} (W : xWf g) (hk11 : xCallM d mX12_howMany [.ref 113, .int a1, .int a2, .int a3] g = some (some (.int r11), g11)) (W11 : xWf g11) (k1 : r11 = (xI g11 113 53) → xX (d + 1) mX12_sureOf 21 [none, none, none, some (.int a3)] [] g11 = some r) (k2 : ¬ (r11 = (xI g11 113 53)) → xX (d + 1) mX12_sureOf 23 [some (.ref 113), some (.int a1), some (.int a2), some (.int a3)] [] g11 = some r) : xX (d + 1) mX12_sureOf 7 [some (.ref 113), some (.int a1), some (.int a2), some (.int a3)] [] g = some r :=
  Y_aload_n dX12_sureOf_7 rfl <| Y_iload_n dX12_sureOf_8 rfl <| Y_iload_n dX12_sureOf_9 rfl <| Y_iload_n dX12_sureOf_10 rfl <| Y_callV1 dX12_sureOf_11 cl_11_430 rfl rfl (xis W 113 11 s_113 (Nat.le_of_ble_eq_true rfl)) rfl rfl rfl (hk11) <| Y_aload_n dX12_sureOf_14 rfl <| Y_getI dX12_sureOf_15 f_11_408 ft_11_53 (xis W11 113 11 s_113 (Nat.le_of_ble_eq_true rfl)) <| Y_ne 23 dX12_sureOf_18 rfl (fun q => X_le (xle_n (xle_n (xle_n (xle_s xle_0)))) (k1 q)) (fun q => X_le (xle_s (xle_s (xle_s (xle_s xle_0)))) (k2 q))
theorem bX12_sureOf_21 {d : Nat} {g : xSt} {r : Option Value × xSt} {a3 : Int32} (k : r = (some (.int a3), g)) : xX (d + 1) mX12_sureOf 21 [none, none, none, some (.int a3)] [] g = some r :=
  Y_iload_n dX12_sureOf_21 rfl <| Y_iret dX12_sureOf_22 rfl k
theorem bX12_sureOf_23 {d : Nat} {g : xSt} {r : Option Value × xSt} {a1 a2 a3 : Int32} (k : xX (d + 1) mX12_sureOf 2 [some (.ref 113), some (.int a1), some (.int a2), some (.int (a3 + 1))] [] g = some r) : xX (d + 1) mX12_sureOf 23 [some (.ref 113), some (.int a1), some (.int a2), some (.int a3)] [] g = some r :=
  Y_iinc 1 dX12_sureOf_23 rfl ic_1 rfl rfl <| Y_goto 2 dX12_sureOf_26 rfl <| X_le (xle_s (xle_s (xle_s (xle_s xle_0)))) k
theorem bX12_sureOf_29 {d : Nat} {g : xSt} {r : Option Value × xSt}  (k : r = (some (.int (-2)), g)) : xX (d + 1) mX12_sureOf 29 [none, none, none, none] [] g = some r :=
  Y_bipush (-2) dX12_sureOf_29 bp_m2 <| Y_iret dX12_sureOf_31 rfl k
theorem bX12_howMany_0 {d : Nat} {g : xSt} {r : Option Value × xSt} {a1 a2 a3 : Int32} (k : xX (d + 1) mX12_howMany 6 [some (.ref 113), some (.int a1), some (.int a2), some (.int a3), some (.int 0), some (.int 0)] [] g = some r) : xX (d + 1) mX12_howMany 0 [some (.ref 113), some (.int a1), some (.int a2), some (.int a3), none, none] [] g = some r :=
  Y_iconst 0 dX12_howMany_0 ic_0 <| Y_istore dX12_howMany_1 rfl rfl <| Y_iconst 0 dX12_howMany_3 ic_0 <| Y_istore dX12_howMany_4 rfl rfl <| X_le (xle_s (xle_s (xle_s (xle_s (xle_s (xle_s xle_0)))))) k
theorem bX12_howMany_6 {d : Nat} {g : xSt} {r : Option Value × xSt} {a1 a2 a3 a4 a5 : Int32} (W : xWf g) (k1 : (xI g 113 53) ≤ a5 → xX (d + 1) mX12_howMany 48 [none, none, none, none, some (.int a4), none] [] g = some r) (k2 : ¬ ((xI g 113 53) ≤ a5) → xX (d + 1) mX12_howMany 15 [some (.ref 113), some (.int a1), some (.int a2), some (.int a3), some (.int a4), some (.int a5)] [] g = some r) : xX (d + 1) mX12_howMany 6 [some (.ref 113), some (.int a1), some (.int a2), some (.int a3), some (.int a4), some (.int a5)] [] g = some r :=
  Y_iload dX12_howMany_6 rfl <| Y_aload_n dX12_howMany_8 rfl <| Y_getI dX12_howMany_9 f_11_408 ft_11_53 (xis W 113 11 s_113 (Nat.le_of_ble_eq_true rfl)) <| Y_ge 48 dX12_howMany_12 rfl (fun q => X_le (xle_n (xle_n (xle_n (xle_n (xle_s (xle_n xle_0)))))) (k1 q)) (fun q => X_le (xle_s (xle_s (xle_s (xle_s (xle_s (xle_s xle_0)))))) (k2 q))
theorem bX12_howMany_15 {d : Nat} {g : xSt} {r : Option Value × xSt} {a1 a2 a3 a4 a5 r27 : Int32} {g27 : xSt} (W : xWf g) (hi24 : vp_in a5 541) (hk27 : xCallM d mX12_saidBy [.ref 113, .int (xI g 145 a5.toNatClampNeg), .int a1, .int a2] g = some (some (.int r27), g27)) (W27 : xWf g27) (k1 : r27 = a3 → xX (d + 1) mX12_howMany 34 [some (.ref 113), some (.int a1), some (.int a2), some (.int a3), none, some (.int a5)] [.int a4] g27 = some r) (k2 : ¬ (r27 = a3) → xX (d + 1) mX12_howMany 38 [some (.ref 113), some (.int a1), some (.int a2), some (.int a3), none, some (.int a5)] [.int a4] g27 = some r) : xX (d + 1) mX12_howMany 15 [some (.ref 113), some (.int a1), some (.int a2), some (.int a3), some (.int a4), some (.int a5)] [] g = some r :=
  Y_iload dX12_howMany_15 rfl <| Y_aload_n dX12_howMany_17 rfl <| Y_aload_n dX12_howMany_18 rfl <| Y_getR dX12_howMany_19 f_11_110 (by rw [ft_11_48]; rfl) (xis W 113 11 s_113 (Nat.le_of_ble_eq_true rfl)) (xptr W 113 48 p_113_48) <| Y_iload dX12_howMany_22 rfl <| Y_iald dX12_howMany_24 (xarr W (o := 145) s_145 (Nat.le_of_ble_eq_true rfl)) hi24 <| Y_iload_n dX12_howMany_25 rfl <| Y_iload_n dX12_howMany_26 rfl <| Y_callV1 dX12_howMany_27 cl_11_404 rfl rfl (xis W 113 11 s_113 (Nat.le_of_ble_eq_true rfl)) rfl rfl rfl (hk27) <| Y_iload_n dX12_howMany_30 rfl <| Y_ne 38 dX12_howMany_31 rfl (fun q => X_le (xle_s (xle_s (xle_s (xle_s (xle_n (xle_s xle_0)))))) (k1 q)) (fun q => X_le (xle_s (xle_s (xle_s (xle_s (xle_n (xle_s xle_0)))))) (k2 q))
theorem bX12_howMany_34 {d : Nat} {g : xSt} {r : Option Value × xSt} {a1 a2 a3 a5 s0 : Int32} (k : xX (d + 1) mX12_howMany 39 [some (.ref 113), some (.int a1), some (.int a2), some (.int a3), none, some (.int a5)] [.int 1, .int s0] g = some r) : xX (d + 1) mX12_howMany 34 [some (.ref 113), some (.int a1), some (.int a2), some (.int a3), none, some (.int a5)] [.int s0] g = some r :=
  Y_iconst 1 dX12_howMany_34 ic_1 <| Y_goto 39 dX12_howMany_35 rfl <| X_le (xle_s (xle_s (xle_s (xle_s (xle_n (xle_s xle_0)))))) k
theorem bX12_howMany_38 {d : Nat} {g : xSt} {r : Option Value × xSt} {a1 a2 a3 a5 s0 : Int32} (k : xX (d + 1) mX12_howMany 39 [some (.ref 113), some (.int a1), some (.int a2), some (.int a3), none, some (.int a5)] [.int 0, .int s0] g = some r) : xX (d + 1) mX12_howMany 38 [some (.ref 113), some (.int a1), some (.int a2), some (.int a3), none, some (.int a5)] [.int s0] g = some r :=
  Y_iconst 0 dX12_howMany_38 ic_0 <| X_le (xle_s (xle_s (xle_s (xle_s (xle_n (xle_s xle_0)))))) k
theorem bX12_howMany_39 {d : Nat} {g : xSt} {r : Option Value × xSt} {a1 a2 a3 a5 s1 s0 : Int32} (k : xX (d + 1) mX12_howMany 6 [some (.ref 113), some (.int a1), some (.int a2), some (.int a3), some (.int (s1 + s0)), some (.int (a5 + 1))] [] g = some r) : xX (d + 1) mX12_howMany 39 [some (.ref 113), some (.int a1), some (.int a2), some (.int a3), none, some (.int a5)] [.int s0, .int s1] g = some r :=
  Y_iadd dX12_howMany_39 <| Y_istore dX12_howMany_40 rfl rfl <| Y_iinc 1 dX12_howMany_42 rfl ic_1 rfl rfl <| Y_goto 6 dX12_howMany_45 rfl <| X_le (xle_s (xle_s (xle_s (xle_s (xle_s (xle_s xle_0)))))) k
theorem bX12_howMany_48 {d : Nat} {g : xSt} {r : Option Value × xSt} {a4 : Int32} (k : r = (some (.int a4), g)) : xX (d + 1) mX12_howMany 48 [none, none, none, none, some (.int a4), none] [] g = some r :=
  Y_iload dX12_howMany_48 rfl <| Y_iret dX12_howMany_50 rfl k
theorem bX12_fewest_0 {d : Nat} {g : xSt} {r : Option Value × xSt} {a1 a2 a3 r3 : Int32} {g3 : xSt} (W : xWf g) (hk3 : xCallM d mX12_isGoal [.ref 113, .int a1, .int a2] g = some (some (.int r3), g3)) (W3 : xWf g3) (k1 : r3 = 0 → xX (d + 1) mX12_fewest 9 [none, none, none, none] [] g3 = some r) (k2 : ¬ (r3 = 0) → xX (d + 1) mX12_fewest 11 [some (.ref 113), some (.int a1), some (.int a2), some (.int a3)] [] g3 = some r) : xX (d + 1) mX12_fewest 0 [some (.ref 113), some (.int a1), some (.int a2), some (.int a3)] [] g = some r :=
  Y_aload_n dX12_fewest_0 rfl <| Y_iload_n dX12_fewest_1 rfl <| Y_iload_n dX12_fewest_2 rfl <| Y_callV1 dX12_fewest_3 cl_11_508 rfl rfl (xis W 113 11 s_113 (Nat.le_of_ble_eq_true rfl)) rfl rfl rfl (hk3) <| Y_ne0 11 dX12_fewest_6 rfl (fun q => X_le (xle_n (xle_n (xle_n (xle_n xle_0)))) (k1 q)) (fun q => X_le (xle_s (xle_s (xle_s (xle_s xle_0)))) (k2 q))
theorem bX12_fewest_9 {d : Nat} {g : xSt} {r : Option Value × xSt}  (k : r = (some (.int (-1)), g)) : xX (d + 1) mX12_fewest 9 [none, none, none, none] [] g = some r :=
  Y_iconst (-1) dX12_fewest_9 ic_m1 <| Y_iret dX12_fewest_10 rfl k
theorem bX12_fewest_11 {d : Nat} {g : xSt} {r : Option Value × xSt} {a1 a2 a3 r15 : Int32} {g15 : xSt} (W : xWf g) (hk15 : xCallM d mX12_layGoal [.ref 113, .int a1, .int a2, .int a3] g = some (some (.int r15), g15)) (W15 : xWf g15) (k1 : r15 = 0 → xX (d + 1) mX12_fewest 29 [none, none, none, none] [] g15 = some r) (k2 : ¬ (r15 = 0) → xX (d + 1) mX12_fewest 21 [some (.ref 113), none, none, none] [] g15 = some r) : xX (d + 1) mX12_fewest 11 [some (.ref 113), some (.int a1), some (.int a2), some (.int a3)] [] g = some r :=
  Y_aload_n dX12_fewest_11 rfl <| Y_iload_n dX12_fewest_12 rfl <| Y_iload_n dX12_fewest_13 rfl <| Y_iload_n dX12_fewest_14 rfl <| Y_callV1 dX12_fewest_15 cl_11_511 rfl rfl (xis W 113 11 s_113 (Nat.le_of_ble_eq_true rfl)) rfl rfl rfl (hk15) <| Y_eq0 29 dX12_fewest_18 rfl (fun q => X_le (xle_n (xle_n (xle_n (xle_n xle_0)))) (k1 q)) (fun q => X_le (xle_s (xle_n (xle_n (xle_n xle_0)))) (k2 q))
theorem bX12_fewest_21 {d : Nat} {g : xSt} {r : Option Value × xSt} {r23 : Int32} {g23 : xSt} (W : xWf g) (hk23 : xCallM d mX12_solves [.ref 113, .int 0] g = some (some (.int r23), g23)) (W23 : xWf g23) (k : xX (d + 1) mX12_fewest 31 [none, none, none, none] [.int r23] g23 = some r) : xX (d + 1) mX12_fewest 21 [some (.ref 113), none, none, none] [] g = some r :=
  Y_aload_n dX12_fewest_21 rfl <| Y_iconst 0 dX12_fewest_22 ic_0 <| Y_callV1 dX12_fewest_23 cl_11_514 rfl rfl (xis W 113 11 s_113 (Nat.le_of_ble_eq_true rfl)) rfl rfl rfl (hk23) <| Y_goto 31 dX12_fewest_26 rfl <| X_le (xle_n (xle_n (xle_n (xle_n xle_0)))) k
theorem bX12_fewest_29 {d : Nat} {g : xSt} {r : Option Value × xSt}  (k : xX (d + 1) mX12_fewest 31 [none, none, none, none] [.int (-2)] g = some r) : xX (d + 1) mX12_fewest 29 [none, none, none, none] [] g = some r :=
  Y_bipush (-2) dX12_fewest_29 bp_m2 <| X_le (xle_n (xle_n (xle_n (xle_n xle_0)))) k
theorem bX12_fewest_31 {d : Nat} {g : xSt} {r : Option Value × xSt} {s0 : Int32} (k : r = (some (.int s0), g)) : xX (d + 1) mX12_fewest 31 [none, none, none, none] [.int s0] g = some r :=
  Y_iret dX12_fewest_31 rfl k
theorem bX12_isGoal_0 {d : Nat} {g : xSt} {r : Option Value × xSt} {a1 a2 : Int32} (k1 : a1 = 0 → xX (d + 1) mX12_isGoal 31 [none, none, none] [] g = some r) (k2 : ¬ (a1 = 0) → xX (d + 1) mX12_isGoal 4 [some (.ref 113), some (.int a1), some (.int a2)] [] g = some r) : xX (d + 1) mX12_isGoal 0 [some (.ref 113), some (.int a1), some (.int a2)] [] g = some r :=
  Y_iload_n dX12_isGoal_0 rfl <| Y_eq0 31 dX12_isGoal_1 rfl (fun q => X_le (xle_n (xle_n (xle_n xle_0))) (k1 q)) (fun q => X_le (xle_s (xle_s (xle_s xle_0))) (k2 q))
theorem bX12_isGoal_4 {d : Nat} {g : xSt} {r : Option Value × xSt} {a1 a2 : Int32} (k1 : a1 = 1 → xX (d + 1) mX12_isGoal 9 [some (.ref 113), some (.int a1), some (.int a2)] [] g = some r) (k2 : ¬ (a1 = 1) → xX (d + 1) mX12_isGoal 18 [some (.ref 113), some (.int a1), some (.int a2)] [] g = some r) : xX (d + 1) mX12_isGoal 4 [some (.ref 113), some (.int a1), some (.int a2)] [] g = some r :=
  Y_iload_n dX12_isGoal_4 rfl <| Y_iconst 1 dX12_isGoal_5 ic_1 <| Y_ne 18 dX12_isGoal_6 rfl (fun q => X_le (xle_s (xle_s (xle_s xle_0))) (k1 q)) (fun q => X_le (xle_s (xle_s (xle_s xle_0))) (k2 q))
theorem bX12_isGoal_9 {d : Nat} {g : xSt} {r : Option Value × xSt} {a1 a2 r12 : Int32} {g12 : xSt} (hk12 : xCallM d mX12_isIn [.int a2, .int 0, .int 4] g = some (some (.int r12), g12)) (W12 : xWf g12) (k1 : r12 = 0 → xX (d + 1) mX12_isGoal 18 [some (.ref 113), some (.int a1), some (.int a2)] [] g12 = some r) (k2 : ¬ (r12 = 0) → xX (d + 1) mX12_isGoal 31 [none, none, none] [] g12 = some r) : xX (d + 1) mX12_isGoal 9 [some (.ref 113), some (.int a1), some (.int a2)] [] g = some r :=
  Y_iload_n dX12_isGoal_9 rfl <| Y_iconst 0 dX12_isGoal_10 ic_0 <| Y_iconst 4 dX12_isGoal_11 ic_4 <| Y_callS1 dX12_isGoal_12 cl_11_367 rfl rfl rfl rfl rfl (hk12) <| Y_ne0 31 dX12_isGoal_15 rfl (fun q => X_le (xle_s (xle_s (xle_s xle_0))) (k1 q)) (fun q => X_le (xle_n (xle_n (xle_n xle_0))) (k2 q))
theorem bX12_isGoal_18 {d : Nat} {g : xSt} {r : Option Value × xSt} {a1 a2 : Int32} (k1 : a1 = 2 → xX (d + 1) mX12_isGoal 23 [some (.ref 113), none, some (.int a2)] [] g = some r) (k2 : ¬ (a1 = 2) → xX (d + 1) mX12_isGoal 35 [none, none, none] [] g = some r) : xX (d + 1) mX12_isGoal 18 [some (.ref 113), some (.int a1), some (.int a2)] [] g = some r :=
  Y_iload_n dX12_isGoal_18 rfl <| Y_iconst 2 dX12_isGoal_19 ic_2 <| Y_ne 35 dX12_isGoal_20 rfl (fun q => X_le (xle_s (xle_n (xle_s xle_0))) (k1 q)) (fun q => X_le (xle_n (xle_n (xle_n xle_0))) (k2 q))
theorem bX12_isGoal_23 {d : Nat} {g : xSt} {r : Option Value × xSt} {a2 r25 : Int32} {g25 : xSt} (W : xWf g) (hk25 : xCallM d mX12_isThing [.ref 113, .int a2] g = some (some (.int r25), g25)) (W25 : xWf g25) (k1 : r25 = 0 → xX (d + 1) mX12_isGoal 35 [none, none, none] [] g25 = some r) (k2 : ¬ (r25 = 0) → xX (d + 1) mX12_isGoal 31 [none, none, none] [] g25 = some r) : xX (d + 1) mX12_isGoal 23 [some (.ref 113), none, some (.int a2)] [] g = some r :=
  Y_aload_n dX12_isGoal_23 rfl <| Y_iload_n dX12_isGoal_24 rfl <| Y_callV1 dX12_isGoal_25 cl_11_421 rfl rfl (xis W 113 11 s_113 (Nat.le_of_ble_eq_true rfl)) rfl rfl rfl (hk25) <| Y_eq0 35 dX12_isGoal_28 rfl (fun q => X_le (xle_n (xle_n (xle_n xle_0))) (k1 q)) (fun q => X_le (xle_n (xle_n (xle_n xle_0))) (k2 q))
theorem bX12_isGoal_31 {d : Nat} {g : xSt} {r : Option Value × xSt}  (k : xX (d + 1) mX12_isGoal 36 [none, none, none] [.int 1] g = some r) : xX (d + 1) mX12_isGoal 31 [none, none, none] [] g = some r :=
  Y_iconst 1 dX12_isGoal_31 ic_1 <| Y_goto 36 dX12_isGoal_32 rfl <| X_le (xle_n (xle_n (xle_n xle_0))) k
theorem bX12_isGoal_35 {d : Nat} {g : xSt} {r : Option Value × xSt}  (k : xX (d + 1) mX12_isGoal 36 [none, none, none] [.int 0] g = some r) : xX (d + 1) mX12_isGoal 35 [none, none, none] [] g = some r :=
  Y_iconst 0 dX12_isGoal_35 ic_0 <| X_le (xle_n (xle_n (xle_n xle_0))) k
theorem bX12_isGoal_36 {d : Nat} {g : xSt} {r : Option Value × xSt} {s0 : Int32} (hz36 : s0 = 0 ∨ s0 = 1) (k : r = (some (.int s0), g)) : xX (d + 1) mX12_isGoal 36 [none, none, none] [.int s0] g = some r :=
  Y_zret dX12_isGoal_36 rfl (hz36) k
theorem bX12_layGoal_0 {d : Nat} {g : xSt} {r : Option Value × xSt} {a1 a2 a3 : Int32} {g3 : xSt} (W : xWf g) (hk3 : xCallM d mX12_layLeft [.ref 113, .int 0, .int a3] g = some (none, g3)) (W3 : xWf g3) (k1 : (xI g3 113 53) ≤ 120 → xX (d + 1) mX12_layGoal 17 [some (.ref 113), some (.int a1), some (.int a2), none] [] g3 = some r) (k2 : ¬ ((xI g3 113 53) ≤ 120) → xX (d + 1) mX12_layGoal 15 [none, none, none, none] [] g3 = some r) : xX (d + 1) mX12_layGoal 0 [some (.ref 113), some (.int a1), some (.int a2), some (.int a3)] [] g = some r :=
  Y_aload_n dX12_layGoal_0 rfl <| Y_iconst 0 dX12_layGoal_1 ic_0 <| Y_iload_n dX12_layGoal_2 rfl <| Y_callV0 dX12_layGoal_3 cl_11_414 rfl rfl (xis W 113 11 s_113 (Nat.le_of_ble_eq_true rfl)) rfl rfl rfl (hk3) <| Y_aload_n dX12_layGoal_6 rfl <| Y_getI dX12_layGoal_7 f_11_408 ft_11_53 (xis W3 113 11 s_113 (Nat.le_of_ble_eq_true rfl)) <| Y_bipush 120 dX12_layGoal_10 bp_120 <| Y_le 17 dX12_layGoal_12 rfl (fun q => X_le (xle_s (xle_s (xle_s (xle_n xle_0)))) (k1 q)) (fun q => X_le (xle_n (xle_n (xle_n (xle_n xle_0)))) (k2 q))
theorem bX12_layGoal_15 {d : Nat} {g : xSt} {r : Option Value × xSt}  (k : r = (some (.int 0), g)) : xX (d + 1) mX12_layGoal 15 [none, none, none, none] [] g = some r :=
  Y_iconst 0 dX12_layGoal_15 ic_0 <| Y_zret dX12_layGoal_16 rfl (by decide) k
theorem bX12_layGoal_17 {d : Nat} {g : xSt} {r : Option Value × xSt} {a1 a2 : Int32} {g18 g24 : xSt} (W : xWf g) (hk18 : xCallM d mX12_layPairs [.ref 113] g = some (none, g18)) (W18 : xWf g18) (hk24 : xCallM d mX12_layGoals [.ref 113, .int a1, .int a2] g18 = some (none, g24)) (W24 : xWf g24) (k : r = (some (.int 1), g24)) : xX (d + 1) mX12_layGoal 17 [some (.ref 113), some (.int a1), some (.int a2), none] [] g = some r :=
  Y_aload_n dX12_layGoal_17 rfl <| Y_callV0 dX12_layGoal_18 cl_11_502 rfl rfl (xis W 113 11 s_113 (Nat.le_of_ble_eq_true rfl)) rfl rfl rfl (hk18) <| Y_aload_n dX12_layGoal_21 rfl <| Y_iload_n dX12_layGoal_22 rfl <| Y_iload_n dX12_layGoal_23 rfl <| Y_callV0 dX12_layGoal_24 cl_11_505 rfl rfl (xis W18 113 11 s_113 (Nat.le_of_ble_eq_true rfl)) rfl rfl rfl (hk24) <| Y_iconst 1 dX12_layGoal_27 ic_1 <| Y_zret dX12_layGoal_28 rfl (by decide) k
theorem bX12_layPairs_0 {d : Nat} {g : xSt} {r : Option Value × xSt}  (W : xWf g) (k : xX (d + 1) mX12_layPairs 7 [some (.ref 113), some (.int 0), none, none] [] (xWI g 113 59 0) = some r) : xX (d + 1) mX12_layPairs 0 [some (.ref 113), none, none, none] [] g = some r :=
  Y_aload_n dX12_layPairs_0 rfl <| Y_iconst 0 dX12_layPairs_1 ic_0 <| Y_putI dX12_layPairs_2 f_11_439 fn_11_59 ft_11_59 (xis W 113 11 s_113 (Nat.le_of_ble_eq_true rfl)) <| Y_iconst 0 dX12_layPairs_5 ic_0 <| Y_istore_n dX12_layPairs_6 rfl rfl <| X_le (xle_s (xle_s (xle_n (xle_n xle_0)))) k
theorem bX12_layPairs_7 {d : Nat} {g : xSt} {r : Option Value × xSt} {a1 r9 : Int32} {g9 : xSt} (W : xWf g) (hk9 : xCallM d mX12_thingMany [.ref 113] g = some (some (.int r9), g9)) (W9 : xWf g9) (k1 : r9 ≤ a1 → xX (d + 1) mX12_layPairs 69 [some (.ref 113), none, none, none] [] g9 = some r) (k2 : ¬ (r9 ≤ a1) → xX (d + 1) mX12_layPairs 15 [some (.ref 113), some (.int a1), none, none] [] g9 = some r) : xX (d + 1) mX12_layPairs 7 [some (.ref 113), some (.int a1), none, none] [] g = some r :=
  Y_iload_n dX12_layPairs_7 rfl <| Y_aload_n dX12_layPairs_8 rfl <| Y_callV1 dX12_layPairs_9 cl_11_364 rfl rfl (xis W 113 11 s_113 (Nat.le_of_ble_eq_true rfl)) rfl rfl rfl (hk9) <| Y_ge 69 dX12_layPairs_12 rfl (fun q => X_le (xle_s (xle_n (xle_n (xle_n xle_0)))) (k1 q)) (fun q => X_le (xle_s (xle_s (xle_n (xle_n xle_0)))) (k2 q))
theorem bX12_layPairs_15 {d : Nat} {g : xSt} {r : Option Value × xSt} {a1 : Int32} (k : xX (d + 1) mX12_layPairs 19 [some (.ref 113), some (.int a1), some (.int (a1 + 1)), none] [] g = some r) : xX (d + 1) mX12_layPairs 15 [some (.ref 113), some (.int a1), none, none] [] g = some r :=
  Y_iload_n dX12_layPairs_15 rfl <| Y_iconst 1 dX12_layPairs_16 ic_1 <| Y_iadd dX12_layPairs_17 <| Y_istore_n dX12_layPairs_18 rfl rfl <| X_le (xle_s (xle_s (xle_s (xle_n xle_0)))) k
theorem bX12_layPairs_19 {d : Nat} {g : xSt} {r : Option Value × xSt} {a1 a2 r21 : Int32} {g21 : xSt} (W : xWf g) (hk21 : xCallM d mX12_thingMany [.ref 113] g = some (some (.int r21), g21)) (W21 : xWf g21) (k1 : r21 ≤ a2 → xX (d + 1) mX12_layPairs 63 [some (.ref 113), some (.int a1), none, none] [] g21 = some r) (k2 : ¬ (r21 ≤ a2) → xX (d + 1) mX12_layPairs 27 [some (.ref 113), some (.int a1), some (.int a2), none] [] g21 = some r) : xX (d + 1) mX12_layPairs 19 [some (.ref 113), some (.int a1), some (.int a2), none] [] g = some r :=
  Y_iload_n dX12_layPairs_19 rfl <| Y_aload_n dX12_layPairs_20 rfl <| Y_callV1 dX12_layPairs_21 cl_11_364 rfl rfl (xis W 113 11 s_113 (Nat.le_of_ble_eq_true rfl)) rfl rfl rfl (hk21) <| Y_ge 63 dX12_layPairs_24 rfl (fun q => X_le (xle_s (xle_s (xle_n (xle_n xle_0)))) (k1 q)) (fun q => X_le (xle_s (xle_s (xle_s (xle_n xle_0)))) (k2 q))
theorem bX12_layPairs_27 {d : Nat} {g : xSt} {r : Option Value × xSt} {a1 a2 : Int32} (W : xWf g) (hi36 : vp_in (xI g 113 59) 10) (hi46 : vp_in (xI g 113 59) 10) (k : xX (d + 1) mX12_layPairs 19 [some (.ref 113), some (.int a1), some (.int (a2 + 1)), none] [] (xWI (xWI (xWI g 150 (xI g 113 59).toNatClampNeg a1) 151 (xI g 113 59).toNatClampNeg a2) 113 59 ((xI g 113 59) + 1)) = some r) : xX (d + 1) mX12_layPairs 27 [some (.ref 113), some (.int a1), some (.int a2), none] [] g = some r :=
  Y_aload_n dX12_layPairs_27 rfl <| Y_getR dX12_layPairs_28 f_11_125 (by rw [ft_11_55]; rfl) (xis W 113 11 s_113 (Nat.le_of_ble_eq_true rfl)) (xptr W 113 55 p_113_55) <| Y_aload_n dX12_layPairs_31 rfl <| Y_getI dX12_layPairs_32 f_11_439 ft_11_59 (xis W 113 11 s_113 (Nat.le_of_ble_eq_true rfl)) <| Y_iload_n dX12_layPairs_35 rfl <| Y_iast dX12_layPairs_36 (xarr W (o := 150) s_150 (Nat.le_of_ble_eq_true rfl)) hi36 <| Y_aload_n dX12_layPairs_37 rfl <| Y_getR dX12_layPairs_38 f_11_128 (by rw [ft_11_56]; rfl) (xis W 113 11 s_113 (Nat.le_of_ble_eq_true rfl)) (xptr W 113 56 p_113_56) <| Y_aload_n dX12_layPairs_41 rfl <| Y_getI dX12_layPairs_42 f_11_439 ft_11_59 (xis W 113 11 s_113 (Nat.le_of_ble_eq_true rfl)) <| Y_iload_n dX12_layPairs_45 rfl <| Y_iast dX12_layPairs_46 (xarr W (o := 151) s_151 (Nat.le_of_ble_eq_true rfl)) hi46 <| Y_aload_n dX12_layPairs_47 rfl <| Y_dup dX12_layPairs_48 rfl <| Y_getI dX12_layPairs_49 f_11_439 ft_11_59 (xis W 113 11 s_113 (Nat.le_of_ble_eq_true rfl)) <| Y_iconst 1 dX12_layPairs_52 ic_1 <| Y_iadd dX12_layPairs_53 <| Y_putI dX12_layPairs_54 f_11_439 fn_11_59 ft_11_59 (xis W 113 11 s_113 (Nat.le_of_ble_eq_true rfl)) <| Y_iinc 1 dX12_layPairs_57 rfl ic_1 rfl rfl <| Y_goto 19 dX12_layPairs_60 rfl <| X_le (xle_s (xle_s (xle_s (xle_n xle_0)))) k
theorem bX12_layPairs_63 {d : Nat} {g : xSt} {r : Option Value × xSt} {a1 : Int32} (k : xX (d + 1) mX12_layPairs 7 [some (.ref 113), some (.int (a1 + 1)), none, none] [] g = some r) : xX (d + 1) mX12_layPairs 63 [some (.ref 113), some (.int a1), none, none] [] g = some r :=
  Y_iinc 1 dX12_layPairs_63 rfl ic_1 rfl rfl <| Y_goto 7 dX12_layPairs_66 rfl <| X_le (xle_s (xle_s (xle_n (xle_n xle_0)))) k
theorem bX12_layPairs_69 {d : Nat} {g : xSt} {r : Option Value × xSt}  (k : xX (d + 1) mX12_layPairs 71 [some (.ref 113), some (.int 0), none, none] [] g = some r) : xX (d + 1) mX12_layPairs 69 [some (.ref 113), none, none, none] [] g = some r :=
  Y_iconst 0 dX12_layPairs_69 ic_0 <| Y_istore_n dX12_layPairs_70 rfl rfl <| X_le (xle_s (xle_s (xle_n (xle_n xle_0)))) k
theorem bX12_layPairs_71 {d : Nat} {g : xSt} {r : Option Value × xSt} {a1 : Int32} (W : xWf g) (k1 : (xI g 113 59) ≤ a1 → xX (d + 1) mX12_layPairs 199 [none, none, none, none] [] g = some r) (k2 : ¬ ((xI g 113 59) ≤ a1) → xX (d + 1) mX12_layPairs 79 [some (.ref 113), some (.int a1), none, none] [] g = some r) : xX (d + 1) mX12_layPairs 71 [some (.ref 113), some (.int a1), none, none] [] g = some r :=
  Y_iload_n dX12_layPairs_71 rfl <| Y_aload_n dX12_layPairs_72 rfl <| Y_getI dX12_layPairs_73 f_11_439 ft_11_59 (xis W 113 11 s_113 (Nat.le_of_ble_eq_true rfl)) <| Y_ge 199 dX12_layPairs_76 rfl (fun q => X_le (xle_n (xle_n (xle_n (xle_n xle_0)))) (k1 q)) (fun q => X_le (xle_s (xle_s (xle_n (xle_n xle_0)))) (k2 q))
theorem bX12_layPairs_79 {d : Nat} {g : xSt} {r : Option Value × xSt} {a1 : Int32} (k : xX (d + 1) mX12_layPairs 81 [some (.ref 113), some (.int a1), some (.int 0), none] [] g = some r) : xX (d + 1) mX12_layPairs 79 [some (.ref 113), some (.int a1), none, none] [] g = some r :=
  Y_iconst 0 dX12_layPairs_79 ic_0 <| Y_istore_n dX12_layPairs_80 rfl rfl <| X_le (xle_s (xle_s (xle_s (xle_n xle_0)))) k
theorem bX12_layPairs_81 {d : Nat} {g : xSt} {r : Option Value × xSt} {a1 a2 : Int32} (k1 : 3 ≤ a2 → xX (d + 1) mX12_layPairs 114 [some (.ref 113), some (.int a1), none, none] [] g = some r) (k2 : ¬ (3 ≤ a2) → xX (d + 1) mX12_layPairs 86 [some (.ref 113), some (.int a1), some (.int a2), none] [] g = some r) : xX (d + 1) mX12_layPairs 81 [some (.ref 113), some (.int a1), some (.int a2), none] [] g = some r :=
  Y_iload_n dX12_layPairs_81 rfl <| Y_iconst 3 dX12_layPairs_82 ic_3 <| Y_ge 114 dX12_layPairs_83 rfl (fun q => X_le (xle_s (xle_s (xle_n (xle_n xle_0)))) (k1 q)) (fun q => X_le (xle_s (xle_s (xle_s (xle_n xle_0)))) (k2 q))
theorem bX12_layPairs_86 {d : Nat} {g : xSt} {r : Option Value × xSt} {a1 a2 : Int32} (W : xWf g) (hi96 : vp_in ((3 * a1) + a2) 30) (hi107 : vp_in ((3 * a1) + a2) 30) (k : xX (d + 1) mX12_layPairs 81 [some (.ref 113), some (.int a1), some (.int (a2 + 1)), none] [] (xWL (xWL g 152 ((3 * a1) + a2).toNatClampNeg 0) 153 ((3 * a1) + a2).toNatClampNeg 0) = some r) : xX (d + 1) mX12_layPairs 86 [some (.ref 113), some (.int a1), some (.int a2), none] [] g = some r :=
  Y_aload_n dX12_layPairs_86 rfl <| Y_getR dX12_layPairs_87 f_11_131 (by rw [ft_11_57]; rfl) (xis W 113 11 s_113 (Nat.le_of_ble_eq_true rfl)) (xptr W 113 57 p_113_57) <| Y_iconst 3 dX12_layPairs_90 ic_3 <| Y_iload_n dX12_layPairs_91 rfl <| Y_imul dX12_layPairs_92 <| Y_iload_n dX12_layPairs_93 rfl <| Y_iadd dX12_layPairs_94 <| Y_lconst 0 dX12_layPairs_95 rfl <| Y_last dX12_layPairs_96 (xarr W (o := 152) s_152 (Nat.le_of_ble_eq_true rfl)) hi96 <| Y_aload_n dX12_layPairs_97 rfl <| Y_getR dX12_layPairs_98 f_11_134 (by rw [ft_11_58]; rfl) (xis W 113 11 s_113 (Nat.le_of_ble_eq_true rfl)) (xptr W 113 58 p_113_58) <| Y_iconst 3 dX12_layPairs_101 ic_3 <| Y_iload_n dX12_layPairs_102 rfl <| Y_imul dX12_layPairs_103 <| Y_iload_n dX12_layPairs_104 rfl <| Y_iadd dX12_layPairs_105 <| Y_lconst 0 dX12_layPairs_106 rfl <| Y_last dX12_layPairs_107 (xarr W (o := 153) s_153 (Nat.le_of_ble_eq_true rfl)) hi107 <| Y_iinc 1 dX12_layPairs_108 rfl ic_1 rfl rfl <| Y_goto 81 dX12_layPairs_111 rfl <| X_le (xle_s (xle_s (xle_s (xle_n xle_0)))) k
theorem bX12_layPairs_114 {d : Nat} {g : xSt} {r : Option Value × xSt} {a1 : Int32} (k : xX (d + 1) mX12_layPairs 116 [some (.ref 113), some (.int a1), some (.int 0), none] [] g = some r) : xX (d + 1) mX12_layPairs 114 [some (.ref 113), some (.int a1), none, none] [] g = some r :=
  Y_iconst 0 dX12_layPairs_114 ic_0 <| Y_istore_n dX12_layPairs_115 rfl rfl <| X_le (xle_s (xle_s (xle_s (xle_n xle_0)))) k
theorem bX12_layPairs_116 {d : Nat} {g : xSt} {r : Option Value × xSt} {a1 a2 : Int32} (W : xWf g) (k1 : (xI g 113 53) ≤ a2 → xX (d + 1) mX12_layPairs 193 [some (.ref 113), some (.int a1), none, none] [] g = some r) (k2 : ¬ ((xI g 113 53) ≤ a2) → xX (d + 1) mX12_layPairs 124 [some (.ref 113), some (.int a1), some (.int a2), none] [] g = some r) : xX (d + 1) mX12_layPairs 116 [some (.ref 113), some (.int a1), some (.int a2), none] [] g = some r :=
  Y_iload_n dX12_layPairs_116 rfl <| Y_aload_n dX12_layPairs_117 rfl <| Y_getI dX12_layPairs_118 f_11_408 ft_11_53 (xis W 113 11 s_113 (Nat.le_of_ble_eq_true rfl)) <| Y_ge 193 dX12_layPairs_121 rfl (fun q => X_le (xle_s (xle_s (xle_n (xle_n xle_0)))) (k1 q)) (fun q => X_le (xle_s (xle_s (xle_s (xle_n xle_0)))) (k2 q))
theorem bX12_layPairs_124 {d : Nat} {g : xSt} {r : Option Value × xSt} {a1 a2 r146 : Int32} {g146 : xSt} (W : xWf g) (hi133 : vp_in a2 541) (hi139 : vp_in a1 10) (hi145 : vp_in a1 10) (hk146 : xCallM d mX12_saidBy [.ref 113, .int (xI g 145 a2.toNatClampNeg), .int (xI g 150 a1.toNatClampNeg), .int (xI g 151 a1.toNatClampNeg)] g = some (some (.int r146), g146)) (W146 : xWf g146) (k1 : 60 ≤ a2 → xX (d + 1) mX12_layPairs 172 [some (.ref 113), some (.int a1), some (.int a2), some (.int ((3 * a1) + r146))] [] g146 = some r) (k2 : ¬ (60 ≤ a2) → xX (d + 1) mX12_layPairs 157 [some (.ref 113), some (.int a1), some (.int a2), some (.int ((3 * a1) + r146))] [] g146 = some r) : xX (d + 1) mX12_layPairs 124 [some (.ref 113), some (.int a1), some (.int a2), none] [] g = some r :=
  Y_iconst 3 dX12_layPairs_124 ic_3 <| Y_iload_n dX12_layPairs_125 rfl <| Y_imul dX12_layPairs_126 <| Y_aload_n dX12_layPairs_127 rfl <| Y_aload_n dX12_layPairs_128 rfl <| Y_getR dX12_layPairs_129 f_11_110 (by rw [ft_11_48]; rfl) (xis W 113 11 s_113 (Nat.le_of_ble_eq_true rfl)) (xptr W 113 48 p_113_48) <| Y_iload_n dX12_layPairs_132 rfl <| Y_iald dX12_layPairs_133 (xarr W (o := 145) s_145 (Nat.le_of_ble_eq_true rfl)) hi133 <| Y_aload_n dX12_layPairs_134 rfl <| Y_getR dX12_layPairs_135 f_11_125 (by rw [ft_11_55]; rfl) (xis W 113 11 s_113 (Nat.le_of_ble_eq_true rfl)) (xptr W 113 55 p_113_55) <| Y_iload_n dX12_layPairs_138 rfl <| Y_iald dX12_layPairs_139 (xarr W (o := 150) s_150 (Nat.le_of_ble_eq_true rfl)) hi139 <| Y_aload_n dX12_layPairs_140 rfl <| Y_getR dX12_layPairs_141 f_11_128 (by rw [ft_11_56]; rfl) (xis W 113 11 s_113 (Nat.le_of_ble_eq_true rfl)) (xptr W 113 56 p_113_56) <| Y_iload_n dX12_layPairs_144 rfl <| Y_iald dX12_layPairs_145 (xarr W (o := 151) s_151 (Nat.le_of_ble_eq_true rfl)) hi145 <| Y_callV1 dX12_layPairs_146 cl_11_404 rfl rfl (xis W 113 11 s_113 (Nat.le_of_ble_eq_true rfl)) rfl rfl rfl (hk146) <| Y_iadd dX12_layPairs_149 <| Y_istore_n dX12_layPairs_150 rfl rfl <| Y_iload_n dX12_layPairs_151 rfl <| Y_bipush 60 dX12_layPairs_152 bp_60 <| Y_ge 172 dX12_layPairs_154 rfl (fun q => X_le (xle_s (xle_s (xle_s (xle_s xle_0)))) (k1 q)) (fun q => X_le (xle_s (xle_s (xle_s (xle_s xle_0)))) (k2 q))
theorem bX12_layPairs_157 {d : Nat} {g : xSt} {r : Option Value × xSt} {a1 a2 a3 : Int32} (W : xWf g) (hi163 : vp_in a3 30) (hi168 : vp_in a3 30) (k : xX (d + 1) mX12_layPairs 187 [some (.ref 113), some (.int a1), some (.int a2), none] [] (xWL g 152 a3.toNatClampNeg ((xL g 152 a3.toNatClampNeg) ||| (1 <<< (Int32.toInt64 a2 &&& 63)))) = some r) : xX (d + 1) mX12_layPairs 157 [some (.ref 113), some (.int a1), some (.int a2), some (.int a3)] [] g = some r :=
  Y_aload_n dX12_layPairs_157 rfl <| Y_getR dX12_layPairs_158 f_11_131 (by rw [ft_11_57]; rfl) (xis W 113 11 s_113 (Nat.le_of_ble_eq_true rfl)) (xptr W 113 57 p_113_57) <| Y_iload_n dX12_layPairs_161 rfl <| Y_dup2 dX12_layPairs_162 rfl rfl <| Y_lald dX12_layPairs_163 (xarr W (o := 152) s_152 (Nat.le_of_ble_eq_true rfl)) hi163 <| Y_lconst 1 dX12_layPairs_164 rfl <| Y_iload_n dX12_layPairs_165 rfl <| Y_lshl dX12_layPairs_166 <| Y_lor dX12_layPairs_167 <| Y_last dX12_layPairs_168 (xarr W (o := 152) s_152 (Nat.le_of_ble_eq_true rfl)) hi168 <| Y_goto 187 dX12_layPairs_169 rfl <| X_le (xle_s (xle_s (xle_s (xle_n xle_0)))) k
theorem bX12_layPairs_172 {d : Nat} {g : xSt} {r : Option Value × xSt} {a1 a2 a3 : Int32} (W : xWf g) (hi178 : vp_in a3 30) (hi186 : vp_in a3 30) (k : xX (d + 1) mX12_layPairs 187 [some (.ref 113), some (.int a1), some (.int a2), none] [] (xWL g 153 a3.toNatClampNeg ((xL g 153 a3.toNatClampNeg) ||| (1 <<< (Int32.toInt64 (a2 - 60) &&& 63)))) = some r) : xX (d + 1) mX12_layPairs 172 [some (.ref 113), some (.int a1), some (.int a2), some (.int a3)] [] g = some r :=
  Y_aload_n dX12_layPairs_172 rfl <| Y_getR dX12_layPairs_173 f_11_134 (by rw [ft_11_58]; rfl) (xis W 113 11 s_113 (Nat.le_of_ble_eq_true rfl)) (xptr W 113 58 p_113_58) <| Y_iload_n dX12_layPairs_176 rfl <| Y_dup2 dX12_layPairs_177 rfl rfl <| Y_lald dX12_layPairs_178 (xarr W (o := 153) s_153 (Nat.le_of_ble_eq_true rfl)) hi178 <| Y_lconst 1 dX12_layPairs_179 rfl <| Y_iload_n dX12_layPairs_180 rfl <| Y_bipush 60 dX12_layPairs_181 bp_60 <| Y_isub dX12_layPairs_183 <| Y_lshl dX12_layPairs_184 <| Y_lor dX12_layPairs_185 <| Y_last dX12_layPairs_186 (xarr W (o := 153) s_153 (Nat.le_of_ble_eq_true rfl)) hi186 <| X_le (xle_s (xle_s (xle_s (xle_n xle_0)))) k
theorem bX12_layPairs_187 {d : Nat} {g : xSt} {r : Option Value × xSt} {a1 a2 : Int32} (k : xX (d + 1) mX12_layPairs 116 [some (.ref 113), some (.int a1), some (.int (a2 + 1)), none] [] g = some r) : xX (d + 1) mX12_layPairs 187 [some (.ref 113), some (.int a1), some (.int a2), none] [] g = some r :=
  Y_iinc 1 dX12_layPairs_187 rfl ic_1 rfl rfl <| Y_goto 116 dX12_layPairs_190 rfl <| X_le (xle_s (xle_s (xle_s (xle_n xle_0)))) k
theorem bX12_layPairs_193 {d : Nat} {g : xSt} {r : Option Value × xSt} {a1 : Int32} (k : xX (d + 1) mX12_layPairs 71 [some (.ref 113), some (.int (a1 + 1)), none, none] [] g = some r) : xX (d + 1) mX12_layPairs 193 [some (.ref 113), some (.int a1), none, none] [] g = some r :=
  Y_iinc 1 dX12_layPairs_193 rfl ic_1 rfl rfl <| Y_goto 71 dX12_layPairs_196 rfl <| X_le (xle_s (xle_s (xle_n (xle_n xle_0)))) k
theorem bX12_layPairs_199 {d : Nat} {g : xSt} {r : Option Value × xSt}  (k : r = (none, g)) : xX (d + 1) mX12_layPairs 199 [none, none, none, none] [] g = some r :=
  Y_ret dX12_layPairs_199 rfl k
theorem bX12_layGoals_0 {d : Nat} {g : xSt} {r : Option Value × xSt} {a1 a2 : Int32} (k : xX (d + 1) mX12_layGoals 2 [some (.ref 113), some (.int a1), some (.int a2), some (.int 0), none, none] [] g = some r) : xX (d + 1) mX12_layGoals 0 [some (.ref 113), some (.int a1), some (.int a2), none, none, none] [] g = some r :=
  Y_iconst 0 dX12_layGoals_0 ic_0 <| Y_istore_n dX12_layGoals_1 rfl rfl <| X_le (xle_s (xle_s (xle_s (xle_s (xle_n (xle_n xle_0)))))) k
theorem bX12_layGoals_2 {d : Nat} {g : xSt} {r : Option Value × xSt} {a1 a2 a3 : Int32} (W : xWf g) (k1 : (xI g 113 53) ≤ a3 → xX (d + 1) mX12_layGoals 90 [none, none, none, none, none, none] [] g = some r) (k2 : ¬ ((xI g 113 53) ≤ a3) → xX (d + 1) mX12_layGoals 10 [some (.ref 113), some (.int a1), some (.int a2), some (.int a3), none, none] [] g = some r) : xX (d + 1) mX12_layGoals 2 [some (.ref 113), some (.int a1), some (.int a2), some (.int a3), none, none] [] g = some r :=
  Y_iload_n dX12_layGoals_2 rfl <| Y_aload_n dX12_layGoals_3 rfl <| Y_getI dX12_layGoals_4 f_11_408 ft_11_53 (xis W 113 11 s_113 (Nat.le_of_ble_eq_true rfl)) <| Y_ge 90 dX12_layGoals_7 rfl (fun q => X_le (xle_n (xle_n (xle_n (xle_n (xle_n (xle_n xle_0)))))) (k1 q)) (fun q => X_le (xle_s (xle_s (xle_s (xle_s (xle_n (xle_n xle_0)))))) (k2 q))
theorem bX12_layGoals_10 {d : Nat} {g : xSt} {r : Option Value × xSt} {a1 a2 a3 : Int32} (k1 : a1 = 2 → xX (d + 1) mX12_layGoals 18 [some (.ref 113), some (.int a1), some (.int a2), some (.int a3), none, none] [] g = some r) (k2 : ¬ (a1 = 2) → xX (d + 1) mX12_layGoals 26 [some (.ref 113), some (.int a1), some (.int a2), some (.int a3), some (.int a3), none] [] g = some r) : xX (d + 1) mX12_layGoals 10 [some (.ref 113), some (.int a1), some (.int a2), some (.int a3), none, none] [] g = some r :=
  Y_iload_n dX12_layGoals_10 rfl <| Y_istore dX12_layGoals_11 rfl rfl <| Y_iload_n dX12_layGoals_13 rfl <| Y_iconst 2 dX12_layGoals_14 ic_2 <| Y_ne 26 dX12_layGoals_15 rfl (fun q => X_le (xle_s (xle_s (xle_s (xle_s (xle_n (xle_n xle_0)))))) (k1 q)) (fun q => X_le (xle_s (xle_s (xle_s (xle_s (xle_s (xle_n xle_0)))))) (k2 q))
theorem bX12_layGoals_18 {d : Nat} {g : xSt} {r : Option Value × xSt} {a1 a2 a3 r21 : Int32} {g21 : xSt} (W : xWf g) (hk21 : xCallM d mX12_placeLeft [.ref 113, .int a3, .int a2] g = some (some (.int r21), g21)) (W21 : xWf g21) (k : xX (d + 1) mX12_layGoals 26 [some (.ref 113), some (.int a1), some (.int a2), some (.int a3), some (.int r21), none] [] g21 = some r) : xX (d + 1) mX12_layGoals 18 [some (.ref 113), some (.int a1), some (.int a2), some (.int a3), none, none] [] g = some r :=
  Y_aload_n dX12_layGoals_18 rfl <| Y_iload_n dX12_layGoals_19 rfl <| Y_iload_n dX12_layGoals_20 rfl <| Y_callV1 dX12_layGoals_21 cl_11_427 rfl rfl (xis W 113 11 s_113 (Nat.le_of_ble_eq_true rfl)) rfl rfl rfl (hk21) <| Y_istore dX12_layGoals_24 rfl rfl <| X_le (xle_s (xle_s (xle_s (xle_s (xle_s (xle_n xle_0)))))) k
theorem bX12_layGoals_26 {d : Nat} {g : xSt} {r : Option Value × xSt} {a1 a2 a3 a4 : Int32} (k1 : a1 = 1 → xX (d + 1) mX12_layGoals 31 [some (.ref 113), some (.int a1), some (.int a2), some (.int a3), none, none] [] g = some r) (k2 : ¬ (a1 = 1) → xX (d + 1) mX12_layGoals 76 [some (.ref 113), some (.int a1), some (.int a2), some (.int a3), some (.int a4), none] [] g = some r) : xX (d + 1) mX12_layGoals 26 [some (.ref 113), some (.int a1), some (.int a2), some (.int a3), some (.int a4), none] [] g = some r :=
  Y_iload_n dX12_layGoals_26 rfl <| Y_iconst 1 dX12_layGoals_27 ic_1 <| Y_ne 76 dX12_layGoals_28 rfl (fun q => X_le (xle_s (xle_s (xle_s (xle_s (xle_n (xle_n xle_0)))))) (k1 q)) (fun q => X_le (xle_s (xle_s (xle_s (xle_s (xle_s (xle_n xle_0)))))) (k2 q))
theorem bX12_layGoals_31 {d : Nat} {g : xSt} {r : Option Value × xSt} {a1 a2 a3 : Int32} (k : xX (d + 1) mX12_layGoals 37 [some (.ref 113), some (.int a1), some (.int a2), some (.int a3), some (.int 0), some (.int 0)] [] g = some r) : xX (d + 1) mX12_layGoals 31 [some (.ref 113), some (.int a1), some (.int a2), some (.int a3), none, none] [] g = some r :=
  Y_iconst 0 dX12_layGoals_31 ic_0 <| Y_istore dX12_layGoals_32 rfl rfl <| Y_iconst 0 dX12_layGoals_34 ic_0 <| Y_istore dX12_layGoals_35 rfl rfl <| X_le (xle_s (xle_s (xle_s (xle_s (xle_s (xle_s xle_0)))))) k
theorem bX12_layGoals_37 {d : Nat} {g : xSt} {r : Option Value × xSt} {a1 a2 a3 a4 a5 r40 : Int32} {g40 : xSt} (W : xWf g) (hk40 : xCallM d mX12_thingMany [.ref 113] g = some (some (.int r40), g40)) (W40 : xWf g40) (k1 : r40 ≤ a5 → xX (d + 1) mX12_layGoals 76 [some (.ref 113), some (.int a1), some (.int a2), some (.int a3), some (.int a4), none] [] g40 = some r) (k2 : ¬ (r40 ≤ a5) → xX (d + 1) mX12_layGoals 46 [some (.ref 113), some (.int a1), some (.int a2), some (.int a3), some (.int a4), some (.int a5)] [] g40 = some r) : xX (d + 1) mX12_layGoals 37 [some (.ref 113), some (.int a1), some (.int a2), some (.int a3), some (.int a4), some (.int a5)] [] g = some r :=
  Y_iload dX12_layGoals_37 rfl <| Y_aload_n dX12_layGoals_39 rfl <| Y_callV1 dX12_layGoals_40 cl_11_364 rfl rfl (xis W 113 11 s_113 (Nat.le_of_ble_eq_true rfl)) rfl rfl rfl (hk40) <| Y_ge 76 dX12_layGoals_43 rfl (fun q => X_le (xle_s (xle_s (xle_s (xle_s (xle_s (xle_n xle_0)))))) (k1 q)) (fun q => X_le (xle_s (xle_s (xle_s (xle_s (xle_s (xle_s xle_0)))))) (k2 q))
theorem bX12_layGoals_46 {d : Nat} {g : xSt} {r : Option Value × xSt} {a1 a2 a3 a4 a5 r52 : Int32} {g52 : xSt} (W : xWf g) (hk52 : xCallM d mX12_placeLeft [.ref 113, .int a3, .int a5] g = some (some (.int r52), g52)) (W52 : xWf g52) (k1 : r52 = a2 → xX (d + 1) mX12_layGoals 59 [some (.ref 113), some (.int a1), some (.int a2), some (.int a3), none, some (.int a5)] [.int a4] g52 = some r) (k2 : ¬ (r52 = a2) → xX (d + 1) mX12_layGoals 66 [some (.ref 113), some (.int a1), some (.int a2), some (.int a3), none, some (.int a5)] [.int a4] g52 = some r) : xX (d + 1) mX12_layGoals 46 [some (.ref 113), some (.int a1), some (.int a2), some (.int a3), some (.int a4), some (.int a5)] [] g = some r :=
  Y_iload dX12_layGoals_46 rfl <| Y_aload_n dX12_layGoals_48 rfl <| Y_iload_n dX12_layGoals_49 rfl <| Y_iload dX12_layGoals_50 rfl <| Y_callV1 dX12_layGoals_52 cl_11_427 rfl rfl (xis W 113 11 s_113 (Nat.le_of_ble_eq_true rfl)) rfl rfl rfl (hk52) <| Y_iload_n dX12_layGoals_55 rfl <| Y_ne 66 dX12_layGoals_56 rfl (fun q => X_le (xle_s (xle_s (xle_s (xle_s (xle_n (xle_s xle_0)))))) (k1 q)) (fun q => X_le (xle_s (xle_s (xle_s (xle_s (xle_n (xle_s xle_0)))))) (k2 q))
theorem bX12_layGoals_59 {d : Nat} {g : xSt} {r : Option Value × xSt} {a1 a2 a3 a5 s0 : Int32} (k : xX (d + 1) mX12_layGoals 67 [some (.ref 113), some (.int a1), some (.int a2), some (.int a3), none, some (.int a5)] [.int (1 <<< (a5 &&& 31)), .int s0] g = some r) : xX (d + 1) mX12_layGoals 59 [some (.ref 113), some (.int a1), some (.int a2), some (.int a3), none, some (.int a5)] [.int s0] g = some r :=
  Y_iconst 1 dX12_layGoals_59 ic_1 <| Y_iload dX12_layGoals_60 rfl <| Y_ishl dX12_layGoals_62 <| Y_goto 67 dX12_layGoals_63 rfl <| X_le (xle_s (xle_s (xle_s (xle_s (xle_n (xle_s xle_0)))))) k
theorem bX12_layGoals_66 {d : Nat} {g : xSt} {r : Option Value × xSt} {a1 a2 a3 a5 s0 : Int32} (k : xX (d + 1) mX12_layGoals 67 [some (.ref 113), some (.int a1), some (.int a2), some (.int a3), none, some (.int a5)] [.int 0, .int s0] g = some r) : xX (d + 1) mX12_layGoals 66 [some (.ref 113), some (.int a1), some (.int a2), some (.int a3), none, some (.int a5)] [.int s0] g = some r :=
  Y_iconst 0 dX12_layGoals_66 ic_0 <| X_le (xle_s (xle_s (xle_s (xle_s (xle_n (xle_s xle_0)))))) k
theorem bX12_layGoals_67 {d : Nat} {g : xSt} {r : Option Value × xSt} {a1 a2 a3 a5 s1 s0 : Int32} (k : xX (d + 1) mX12_layGoals 37 [some (.ref 113), some (.int a1), some (.int a2), some (.int a3), some (.int (s1 ||| s0)), some (.int (a5 + 1))] [] g = some r) : xX (d + 1) mX12_layGoals 67 [some (.ref 113), some (.int a1), some (.int a2), some (.int a3), none, some (.int a5)] [.int s0, .int s1] g = some r :=
  Y_ior dX12_layGoals_67 <| Y_istore dX12_layGoals_68 rfl rfl <| Y_iinc 1 dX12_layGoals_70 rfl ic_1 rfl rfl <| Y_goto 37 dX12_layGoals_73 rfl <| X_le (xle_s (xle_s (xle_s (xle_s (xle_s (xle_s xle_0)))))) k
theorem bX12_layGoals_76 {d : Nat} {g : xSt} {r : Option Value × xSt} {a1 a2 a3 a4 : Int32} (W : xWf g) (hi83 : vp_in a3 541) (k : xX (d + 1) mX12_layGoals 2 [some (.ref 113), some (.int a1), some (.int a2), some (.int (a3 + 1)), none, none] [] (xWI g 146 a3.toNatClampNeg a4) = some r) : xX (d + 1) mX12_layGoals 76 [some (.ref 113), some (.int a1), some (.int a2), some (.int a3), some (.int a4), none] [] g = some r :=
  Y_aload_n dX12_layGoals_76 rfl <| Y_getR dX12_layGoals_77 f_11_113 (by rw [ft_11_49]; rfl) (xis W 113 11 s_113 (Nat.le_of_ble_eq_true rfl)) (xptr W 113 49 p_113_49) <| Y_iload_n dX12_layGoals_80 rfl <| Y_iload dX12_layGoals_81 rfl <| Y_iast dX12_layGoals_83 (xarr W (o := 146) s_146 (Nat.le_of_ble_eq_true rfl)) hi83 <| Y_iinc 1 dX12_layGoals_84 rfl ic_1 rfl rfl <| Y_goto 2 dX12_layGoals_87 rfl <| X_le (xle_s (xle_s (xle_s (xle_s (xle_n (xle_n xle_0)))))) k
theorem bX12_layGoals_90 {d : Nat} {g : xSt} {r : Option Value × xSt}  (k : r = (none, g)) : xX (d + 1) mX12_layGoals 90 [none, none, none, none, none, none] [] g = some r :=
  Y_ret dX12_layGoals_90 rfl k
