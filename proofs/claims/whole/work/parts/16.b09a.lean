/-! stretches of HeavierRow$Street, by program (wip/whole/genall.py) -/
theorem dX10_empty_0 : decode mX10_empty.2.1 0 = .ok (.aload_n 0, 1) := by decide +kernel
theorem dX10_empty_1 : decode mX10_empty.2.1 1 = .ok (.iconst 0, 1) := by decide +kernel
theorem dX10_empty_2 : decode mX10_empty.2.1 2 = .ok (.putfield 35, 3) := by decide +kernel
theorem dX10_empty_5 : decode mX10_empty.2.1 5 = .ok (.aload_n 0, 1) := by decide +kernel
theorem dX10_empty_6 : decode mX10_empty.2.1 6 = .ok (.iconst 0, 1) := by decide +kernel
theorem dX10_empty_7 : decode mX10_empty.2.1 7 = .ok (.putfield 39, 3) := by decide +kernel
theorem dX10_empty_10 : decode mX10_empty.2.1 10 = .ok (.aload_n 0, 1) := by decide +kernel
theorem dX10_empty_11 : decode mX10_empty.2.1 11 = .ok (.iconst 0, 1) := by decide +kernel
theorem dX10_empty_12 : decode mX10_empty.2.1 12 = .ok (.putfield 43, 3) := by decide +kernel
theorem dX10_empty_15 : decode mX10_empty.2.1 15 = .ok (.aload_n 0, 1) := by decide +kernel
theorem dX10_empty_16 : decode mX10_empty.2.1 16 = .ok (.iconst 0, 1) := by decide +kernel
theorem dX10_empty_17 : decode mX10_empty.2.1 17 = .ok (.putfield 46, 3) := by decide +kernel
theorem dX10_empty_20 : decode mX10_empty.2.1 20 = .ok (.aload_n 0, 1) := by decide +kernel
theorem dX10_empty_21 : decode mX10_empty.2.1 21 = .ok (.iconst 0, 1) := by decide +kernel
theorem dX10_empty_22 : decode mX10_empty.2.1 22 = .ok (.putfield 49, 3) := by decide +kernel
theorem dX10_empty_25 : decode mX10_empty.2.1 25 = .ok (.aload_n 0, 1) := by decide +kernel
theorem dX10_empty_26 : decode mX10_empty.2.1 26 = .ok (.iconst 0, 1) := by decide +kernel
theorem dX10_empty_27 : decode mX10_empty.2.1 27 = .ok (.putfield 52, 3) := by decide +kernel
theorem dX10_empty_30 : decode mX10_empty.2.1 30 = .ok (.aload_n 0, 1) := by decide +kernel
theorem dX10_empty_31 : decode mX10_empty.2.1 31 = .ok (.iconst 0, 1) := by decide +kernel
theorem dX10_empty_32 : decode mX10_empty.2.1 32 = .ok (.putfield 55, 3) := by decide +kernel
theorem dX10_empty_35 : decode mX10_empty.2.1 35 = .ok (.return_, 1) := by decide +kernel
theorem dX10_thingOf_0 : decode mX10_thingOf.2.1 0 = .ok (.aload_n 0, 1) := by decide +kernel
theorem dX10_thingOf_1 : decode mX10_thingOf.2.1 1 = .ok (.getfield 9, 3) := by decide +kernel
theorem dX10_thingOf_4 : decode mX10_thingOf.2.1 4 = .ok (.aload_n 0, 1) := by decide +kernel
theorem dX10_thingOf_5 : decode mX10_thingOf.2.1 5 = .ok (.getfield 35, 3) := by decide +kernel
theorem dX10_thingOf_8 : decode mX10_thingOf.2.1 8 = .ok (.lload_n 1, 1) := by decide +kernel
theorem dX10_thingOf_9 : decode mX10_thingOf.2.1 9 = .ok (.invokestatic 83, 3) := by decide +kernel
theorem dX10_thingOf_12 : decode mX10_thingOf.2.1 12 = .ok (.ireturn, 1) := by decide +kernel
theorem dX10_addThing_0 : decode mX10_addThing.2.1 0 = .ok (.aload_n 0, 1) := by decide +kernel
theorem dX10_addThing_1 : decode mX10_addThing.2.1 1 = .ok (.getfield 9, 3) := by decide +kernel
theorem dX10_addThing_4 : decode mX10_addThing.2.1 4 = .ok (.aload_n 0, 1) := by decide +kernel
theorem dX10_addThing_5 : decode mX10_addThing.2.1 5 = .ok (.getfield 35, 3) := by decide +kernel
theorem dX10_addThing_8 : decode mX10_addThing.2.1 8 = .ok (.lload_n 1, 1) := by decide +kernel
theorem dX10_addThing_9 : decode mX10_addThing.2.1 9 = .ok (.invokestatic 58, 3) := by decide +kernel
theorem dX10_addThing_12 : decode mX10_addThing.2.1 12 = .ok (.aload_n 0, 1) := by decide +kernel
theorem dX10_addThing_13 : decode mX10_addThing.2.1 13 = .ok (.getfield 13, 3) := by decide +kernel
theorem dX10_addThing_16 : decode mX10_addThing.2.1 16 = .ok (.aload_n 0, 1) := by decide +kernel
theorem dX10_addThing_17 : decode mX10_addThing.2.1 17 = .ok (.getfield 35, 3) := by decide +kernel
theorem dX10_addThing_20 : decode mX10_addThing.2.1 20 = .ok (.iload_n 3, 1) := by decide +kernel
theorem dX10_addThing_21 : decode mX10_addThing.2.1 21 = .ok (.invokestatic 64, 3) := by decide +kernel
theorem dX10_addThing_24 : decode mX10_addThing.2.1 24 = .ok (.aload_n 0, 1) := by decide +kernel
theorem dX10_addThing_25 : decode mX10_addThing.2.1 25 = .ok (.dup, 1) := by decide +kernel
theorem dX10_addThing_26 : decode mX10_addThing.2.1 26 = .ok (.getfield 35, 3) := by decide +kernel
theorem dX10_addThing_29 : decode mX10_addThing.2.1 29 = .ok (.iconst 1, 1) := by decide +kernel
theorem dX10_addThing_30 : decode mX10_addThing.2.1 30 = .ok (.iadd, 1) := by decide +kernel
theorem dX10_addThing_31 : decode mX10_addThing.2.1 31 = .ok (.putfield 35, 3) := by decide +kernel
theorem dX10_addThing_34 : decode mX10_addThing.2.1 34 = .ok (.return_, 1) := by decide +kernel
theorem dX10_rowBits_0 : decode mX10_rowBits.2.1 0 = .ok (.iconst 0, 1) := by decide +kernel
theorem dX10_rowBits_1 : decode mX10_rowBits.2.1 1 = .ok (.istore_n 1, 1) := by decide +kernel
theorem dX10_rowBits_2 : decode mX10_rowBits.2.1 2 = .ok (.iconst 0, 1) := by decide +kernel
theorem dX10_rowBits_3 : decode mX10_rowBits.2.1 3 = .ok (.istore_n 2, 1) := by decide +kernel
theorem dX10_rowBits_4 : decode mX10_rowBits.2.1 4 = .ok (.iload_n 2, 1) := by decide +kernel
theorem dX10_rowBits_5 : decode mX10_rowBits.2.1 5 = .ok (.aload_n 0, 1) := by decide +kernel
theorem dX10_rowBits_6 : decode mX10_rowBits.2.1 6 = .ok (.getfield 49, 3) := by decide +kernel
theorem dX10_rowBits_9 : decode mX10_rowBits.2.1 9 = .ok (.if_icmp .ge 22, 3) := by decide +kernel
theorem dX10_rowBits_12 : decode mX10_rowBits.2.1 12 = .ok (.iload_n 1, 1) := by decide +kernel
theorem dX10_rowBits_13 : decode mX10_rowBits.2.1 13 = .ok (.iconst 1, 1) := by decide +kernel
theorem dX10_rowBits_14 : decode mX10_rowBits.2.1 14 = .ok (.aload_n 0, 1) := by decide +kernel
theorem dX10_rowBits_15 : decode mX10_rowBits.2.1 15 = .ok (.getfield 17, 3) := by decide +kernel
theorem dX10_rowBits_18 : decode mX10_rowBits.2.1 18 = .ok (.iload_n 2, 1) := by decide +kernel
theorem dX10_rowBits_19 : decode mX10_rowBits.2.1 19 = .ok (.invokestatic 67, 3) := by decide +kernel
theorem dX10_rowBits_22 : decode mX10_rowBits.2.1 22 = .ok (.ishl, 1) := by decide +kernel
theorem dX10_rowBits_23 : decode mX10_rowBits.2.1 23 = .ok (.ior, 1) := by decide +kernel
theorem dX10_rowBits_24 : decode mX10_rowBits.2.1 24 = .ok (.istore_n 1, 1) := by decide +kernel
theorem dX10_rowBits_25 : decode mX10_rowBits.2.1 25 = .ok (.iinc 2 1, 3) := by decide +kernel
theorem dX10_rowBits_28 : decode mX10_rowBits.2.1 28 = .ok (.goto (-24), 3) := by decide +kernel
theorem dX10_rowBits_31 : decode mX10_rowBits.2.1 31 = .ok (.iload_n 1, 1) := by decide +kernel
theorem dX10_rowBits_32 : decode mX10_rowBits.2.1 32 = .ok (.ireturn, 1) := by decide +kernel
theorem dX10_addToRow_0 : decode mX10_addToRow.2.1 0 = .ok (.aload_n 0, 1) := by decide +kernel
theorem dX10_addToRow_1 : decode mX10_addToRow.2.1 1 = .ok (.getfield 17, 3) := by decide +kernel
theorem dX10_addToRow_4 : decode mX10_addToRow.2.1 4 = .ok (.aload_n 0, 1) := by decide +kernel
theorem dX10_addToRow_5 : decode mX10_addToRow.2.1 5 = .ok (.getfield 49, 3) := by decide +kernel
theorem dX10_addToRow_8 : decode mX10_addToRow.2.1 8 = .ok (.iload_n 1, 1) := by decide +kernel
theorem dX10_addToRow_9 : decode mX10_addToRow.2.1 9 = .ok (.invokestatic 64, 3) := by decide +kernel
theorem dX10_addToRow_12 : decode mX10_addToRow.2.1 12 = .ok (.aload_n 0, 1) := by decide +kernel
theorem dX10_addToRow_13 : decode mX10_addToRow.2.1 13 = .ok (.dup, 1) := by decide +kernel
theorem dX10_addToRow_14 : decode mX10_addToRow.2.1 14 = .ok (.getfield 49, 3) := by decide +kernel
theorem dX10_addToRow_17 : decode mX10_addToRow.2.1 17 = .ok (.iconst 1, 1) := by decide +kernel
theorem dX10_addToRow_18 : decode mX10_addToRow.2.1 18 = .ok (.iadd, 1) := by decide +kernel
theorem dX10_addToRow_19 : decode mX10_addToRow.2.1 19 = .ok (.putfield 49, 3) := by decide +kernel
theorem dX10_addToRow_22 : decode mX10_addToRow.2.1 22 = .ok (.return_, 1) := by decide +kernel
theorem dX10_planOf_0 : decode mX10_planOf.2.1 0 = .ok (.aload_n 0, 1) := by decide +kernel
theorem dX10_planOf_1 : decode mX10_planOf.2.1 1 = .ok (.getfield 20, 3) := by decide +kernel
theorem dX10_planOf_4 : decode mX10_planOf.2.1 4 = .ok (.aload_n 0, 1) := by decide +kernel
theorem dX10_planOf_5 : decode mX10_planOf.2.1 5 = .ok (.getfield 52, 3) := by decide +kernel
theorem dX10_planOf_8 : decode mX10_planOf.2.1 8 = .ok (.lload_n 1, 1) := by decide +kernel
theorem dX10_planOf_9 : decode mX10_planOf.2.1 9 = .ok (.invokestatic 83, 3) := by decide +kernel
theorem dX10_planOf_12 : decode mX10_planOf.2.1 12 = .ok (.ireturn, 1) := by decide +kernel
theorem dX10_addTwo_0 : decode mX10_addTwo.2.1 0 = .ok (.aload_n 0, 1) := by decide +kernel
theorem dX10_addTwo_1 : decode mX10_addTwo.2.1 1 = .ok (.getfield 26, 3) := by decide +kernel
theorem dX10_addTwo_4 : decode mX10_addTwo.2.1 4 = .ok (.aload_n 0, 1) := by decide +kernel
theorem dX10_addTwo_5 : decode mX10_addTwo.2.1 5 = .ok (.getfield 55, 3) := by decide +kernel
theorem dX10_addTwo_8 : decode mX10_addTwo.2.1 8 = .ok (.iload_n 1, 1) := by decide +kernel
theorem dX10_addTwo_9 : decode mX10_addTwo.2.1 9 = .ok (.invokestatic 64, 3) := by decide +kernel
theorem dX10_addTwo_12 : decode mX10_addTwo.2.1 12 = .ok (.aload_n 0, 1) := by decide +kernel
theorem dX10_addTwo_13 : decode mX10_addTwo.2.1 13 = .ok (.getfield 29, 3) := by decide +kernel
theorem dX10_addTwo_16 : decode mX10_addTwo.2.1 16 = .ok (.aload_n 0, 1) := by decide +kernel
theorem dX10_addTwo_17 : decode mX10_addTwo.2.1 17 = .ok (.getfield 55, 3) := by decide +kernel
theorem dX10_addTwo_20 : decode mX10_addTwo.2.1 20 = .ok (.iload_n 2, 1) := by decide +kernel
theorem dX10_addTwo_21 : decode mX10_addTwo.2.1 21 = .ok (.invokestatic 64, 3) := by decide +kernel
theorem dX10_addTwo_24 : decode mX10_addTwo.2.1 24 = .ok (.aload_n 0, 1) := by decide +kernel
theorem dX10_addTwo_25 : decode mX10_addTwo.2.1 25 = .ok (.dup, 1) := by decide +kernel
theorem dX10_addTwo_26 : decode mX10_addTwo.2.1 26 = .ok (.getfield 55, 3) := by decide +kernel
theorem dX10_addTwo_29 : decode mX10_addTwo.2.1 29 = .ok (.iconst 1, 1) := by decide +kernel
theorem dX10_addTwo_30 : decode mX10_addTwo.2.1 30 = .ok (.iadd, 1) := by decide +kernel
theorem dX10_addTwo_31 : decode mX10_addTwo.2.1 31 = .ok (.putfield 55, 3) := by decide +kernel
theorem dX10_addTwo_34 : decode mX10_addTwo.2.1 34 = .ok (.aload_n 0, 1) := by decide +kernel
theorem dX10_addTwo_35 : decode mX10_addTwo.2.1 35 = .ok (.getfield 55, 3) := by decide +kernel
theorem dX10_addTwo_38 : decode mX10_addTwo.2.1 38 = .ok (.iconst 1, 1) := by decide +kernel
theorem dX10_addTwo_39 : decode mX10_addTwo.2.1 39 = .ok (.isub, 1) := by decide +kernel
theorem dX10_addTwo_40 : decode mX10_addTwo.2.1 40 = .ok (.ireturn, 1) := by decide +kernel
theorem dX10_setWay_0 : decode mX10_setWay.2.1 0 = .ok (.aload_n 0, 1) := by decide +kernel
theorem dX10_setWay_1 : decode mX10_setWay.2.1 1 = .ok (.getfield 32, 3) := by decide +kernel
theorem dX10_setWay_4 : decode mX10_setWay.2.1 4 = .ok (.iconst 3, 1) := by decide +kernel
theorem dX10_setWay_5 : decode mX10_setWay.2.1 5 = .ok (.iload_n 1, 1) := by decide +kernel
theorem dX10_setWay_6 : decode mX10_setWay.2.1 6 = .ok (.imul, 1) := by decide +kernel
theorem dX10_setWay_7 : decode mX10_setWay.2.1 7 = .ok (.iload_n 2, 1) := by decide +kernel
theorem dX10_setWay_8 : decode mX10_setWay.2.1 8 = .ok (.iadd, 1) := by decide +kernel
theorem dX10_setWay_9 : decode mX10_setWay.2.1 9 = .ok (.iload_n 3, 1) := by decide +kernel
theorem dX10_setWay_10 : decode mX10_setWay.2.1 10 = .ok (.invokestatic 64, 3) := by decide +kernel
theorem dX10_setWay_13 : decode mX10_setWay.2.1 13 = .ok (.return_, 1) := by decide +kernel
theorem dX10_addPlan_0 : decode mX10_addPlan.2.1 0 = .ok (.aload_n 0, 1) := by decide +kernel
theorem dX10_addPlan_1 : decode mX10_addPlan.2.1 1 = .ok (.getfield 20, 3) := by decide +kernel
theorem dX10_addPlan_4 : decode mX10_addPlan.2.1 4 = .ok (.aload_n 0, 1) := by decide +kernel
theorem dX10_addPlan_5 : decode mX10_addPlan.2.1 5 = .ok (.getfield 52, 3) := by decide +kernel
theorem dX10_addPlan_8 : decode mX10_addPlan.2.1 8 = .ok (.lload_n 1, 1) := by decide +kernel
theorem dX10_addPlan_9 : decode mX10_addPlan.2.1 9 = .ok (.invokestatic 58, 3) := by decide +kernel
theorem dX10_addPlan_12 : decode mX10_addPlan.2.1 12 = .ok (.aload_n 0, 1) := by decide +kernel
theorem dX10_addPlan_13 : decode mX10_addPlan.2.1 13 = .ok (.getfield 23, 3) := by decide +kernel
theorem dX10_addPlan_16 : decode mX10_addPlan.2.1 16 = .ok (.aload_n 0, 1) := by decide +kernel
theorem dX10_addPlan_17 : decode mX10_addPlan.2.1 17 = .ok (.getfield 52, 3) := by decide +kernel
theorem dX10_addPlan_20 : decode mX10_addPlan.2.1 20 = .ok (.iload_n 3, 1) := by decide +kernel
theorem dX10_addPlan_21 : decode mX10_addPlan.2.1 21 = .ok (.invokestatic 64, 3) := by decide +kernel
theorem dX10_addPlan_24 : decode mX10_addPlan.2.1 24 = .ok (.aload_n 0, 1) := by decide +kernel
theorem dX10_addPlan_25 : decode mX10_addPlan.2.1 25 = .ok (.dup, 1) := by decide +kernel
theorem dX10_addPlan_26 : decode mX10_addPlan.2.1 26 = .ok (.getfield 52, 3) := by decide +kernel
theorem dX10_addPlan_29 : decode mX10_addPlan.2.1 29 = .ok (.iconst 1, 1) := by decide +kernel
theorem dX10_addPlan_30 : decode mX10_addPlan.2.1 30 = .ok (.iadd, 1) := by decide +kernel
theorem dX10_addPlan_31 : decode mX10_addPlan.2.1 31 = .ok (.putfield 52, 3) := by decide +kernel
theorem dX10_addPlan_34 : decode mX10_addPlan.2.1 34 = .ok (.return_, 1) := by decide +kernel
theorem dX10_completeRow_0 : decode mX10_completeRow.2.1 0 = .ok (.aload_n 0, 1) := by decide +kernel
theorem dX10_completeRow_1 : decode mX10_completeRow.2.1 1 = .ok (.invokevirtual 71, 3) := by decide +kernel
theorem dX10_completeRow_4 : decode mX10_completeRow.2.1 4 = .ok (.istore_n 1, 1) := by decide +kernel
theorem dX10_completeRow_5 : decode mX10_completeRow.2.1 5 = .ok (.iconst 0, 1) := by decide +kernel
theorem dX10_completeRow_6 : decode mX10_completeRow.2.1 6 = .ok (.istore_n 2, 1) := by decide +kernel
theorem dX10_completeRow_7 : decode mX10_completeRow.2.1 7 = .ok (.iload_n 2, 1) := by decide +kernel
theorem dX10_completeRow_8 : decode mX10_completeRow.2.1 8 = .ok (.aload_n 0, 1) := by decide +kernel
theorem dX10_completeRow_9 : decode mX10_completeRow.2.1 9 = .ok (.getfield 35, 3) := by decide +kernel
theorem dX10_completeRow_12 : decode mX10_completeRow.2.1 12 = .ok (.if_icmp .ge 22, 3) := by decide +kernel
theorem dX10_completeRow_15 : decode mX10_completeRow.2.1 15 = .ok (.iload_n 1, 1) := by decide +kernel
theorem dX10_completeRow_16 : decode mX10_completeRow.2.1 16 = .ok (.iload_n 2, 1) := by decide +kernel
theorem dX10_completeRow_17 : decode mX10_completeRow.2.1 17 = .ok (.invokestatic 75, 3) := by decide +kernel
theorem dX10_completeRow_20 : decode mX10_completeRow.2.1 20 = .ok (.ifCond .ne 8, 3) := by decide +kernel
theorem dX10_completeRow_23 : decode mX10_completeRow.2.1 23 = .ok (.aload_n 0, 1) := by decide +kernel
theorem dX10_completeRow_24 : decode mX10_completeRow.2.1 24 = .ok (.iload_n 2, 1) := by decide +kernel
theorem dX10_completeRow_25 : decode mX10_completeRow.2.1 25 = .ok (.invokevirtual 79, 3) := by decide +kernel
theorem dX10_completeRow_28 : decode mX10_completeRow.2.1 28 = .ok (.iinc 2 1, 3) := by decide +kernel
theorem dX10_completeRow_31 : decode mX10_completeRow.2.1 31 = .ok (.goto (-24), 3) := by decide +kernel
theorem dX10_completeRow_34 : decode mX10_completeRow.2.1 34 = .ok (.return_, 1) := by decide +kernel
theorem dX10_hasHeaps_0 : decode mX10_hasHeaps.2.1 0 = .ok (.aload_n 0, 1) := by decide +kernel
theorem dX10_hasHeaps_1 : decode mX10_hasHeaps.2.1 1 = .ok (.iload_n 1, 1) := by decide +kernel
theorem dX10_hasHeaps_2 : decode mX10_hasHeaps.2.1 2 = .ok (.invokevirtual 91, 3) := by decide +kernel
theorem dX10_hasHeaps_5 : decode mX10_hasHeaps.2.1 5 = .ok (.ifCond .eq 21, 3) := by decide +kernel
theorem dX10_hasHeaps_8 : decode mX10_hasHeaps.2.1 8 = .ok (.aload_n 0, 1) := by decide +kernel
theorem dX10_hasHeaps_9 : decode mX10_hasHeaps.2.1 9 = .ok (.iload_n 2, 1) := by decide +kernel
theorem dX10_hasHeaps_10 : decode mX10_hasHeaps.2.1 10 = .ok (.invokevirtual 91, 3) := by decide +kernel
theorem dX10_hasHeaps_13 : decode mX10_hasHeaps.2.1 13 = .ok (.ifCond .eq 13, 3) := by decide +kernel
theorem dX10_hasHeaps_16 : decode mX10_hasHeaps.2.1 16 = .ok (.iload_n 1, 1) := by decide +kernel
theorem dX10_hasHeaps_17 : decode mX10_hasHeaps.2.1 17 = .ok (.iload_n 2, 1) := by decide +kernel
theorem dX10_hasHeaps_18 : decode mX10_hasHeaps.2.1 18 = .ok (.iand, 1) := by decide +kernel
theorem dX10_hasHeaps_19 : decode mX10_hasHeaps.2.1 19 = .ok (.ifCond .ne 7, 3) := by decide +kernel
theorem dX10_hasHeaps_22 : decode mX10_hasHeaps.2.1 22 = .ok (.iconst 1, 1) := by decide +kernel
theorem dX10_hasHeaps_23 : decode mX10_hasHeaps.2.1 23 = .ok (.goto 4, 3) := by decide +kernel
theorem dX10_hasHeaps_26 : decode mX10_hasHeaps.2.1 26 = .ok (.iconst 0, 1) := by decide +kernel
theorem dX10_hasHeaps_27 : decode mX10_hasHeaps.2.1 27 = .ok (.ireturn, 1) := by decide +kernel
theorem dX10_isHeap_0 : decode mX10_isHeap.2.1 0 = .ok (.iload_n 1, 1) := by decide +kernel
theorem dX10_isHeap_1 : decode mX10_isHeap.2.1 1 = .ok (.ifCond .le 17, 3) := by decide +kernel
theorem dX10_isHeap_4 : decode mX10_isHeap.2.1 4 = .ok (.iload_n 1, 1) := by decide +kernel
theorem dX10_isHeap_5 : decode mX10_isHeap.2.1 5 = .ok (.iconst 1, 1) := by decide +kernel
theorem dX10_isHeap_6 : decode mX10_isHeap.2.1 6 = .ok (.aload_n 0, 1) := by decide +kernel
theorem dX10_isHeap_7 : decode mX10_isHeap.2.1 7 = .ok (.getfield 35, 3) := by decide +kernel
theorem dX10_isHeap_10 : decode mX10_isHeap.2.1 10 = .ok (.ishl, 1) := by decide +kernel
theorem dX10_isHeap_11 : decode mX10_isHeap.2.1 11 = .ok (.if_icmp .ge 7, 3) := by decide +kernel
theorem dX10_isHeap_14 : decode mX10_isHeap.2.1 14 = .ok (.iconst 1, 1) := by decide +kernel
theorem dX10_isHeap_15 : decode mX10_isHeap.2.1 15 = .ok (.goto 4, 3) := by decide +kernel
theorem dX10_isHeap_18 : decode mX10_isHeap.2.1 18 = .ok (.iconst 0, 1) := by decide +kernel
theorem dX10_isHeap_19 : decode mX10_isHeap.2.1 19 = .ok (.ireturn, 1) := by decide +kernel
theorem dX10_hasThing_0 : decode mX10_hasThing.2.1 0 = .ok (.iload_n 1, 1) := by decide +kernel
theorem dX10_hasThing_1 : decode mX10_hasThing.2.1 1 = .ok (.ifCond .lt 15, 3) := by decide +kernel
theorem dX10_hasThing_4 : decode mX10_hasThing.2.1 4 = .ok (.iload_n 1, 1) := by decide +kernel
theorem dX10_hasThing_5 : decode mX10_hasThing.2.1 5 = .ok (.aload_n 0, 1) := by decide +kernel
theorem dX10_hasThing_6 : decode mX10_hasThing.2.1 6 = .ok (.getfield 35, 3) := by decide +kernel
theorem dX10_hasThing_9 : decode mX10_hasThing.2.1 9 = .ok (.if_icmp .ge 7, 3) := by decide +kernel
theorem dX10_hasThing_12 : decode mX10_hasThing.2.1 12 = .ok (.iconst 1, 1) := by decide +kernel
theorem dX10_hasThing_13 : decode mX10_hasThing.2.1 13 = .ok (.goto 4, 3) := by decide +kernel
theorem dX10_hasThing_16 : decode mX10_hasThing.2.1 16 = .ok (.iconst 0, 1) := by decide +kernel
theorem dX10_hasThing_17 : decode mX10_hasThing.2.1 17 = .ok (.ireturn, 1) := by decide +kernel
theorem dX10_hasTwo_0 : decode mX10_hasTwo.2.1 0 = .ok (.aload_n 0, 1) := by decide +kernel
theorem dX10_hasTwo_1 : decode mX10_hasTwo.2.1 1 = .ok (.iload_n 1, 1) := by decide +kernel
theorem dX10_hasTwo_2 : decode mX10_hasTwo.2.1 2 = .ok (.invokevirtual 87, 3) := by decide +kernel
theorem dX10_hasTwo_5 : decode mX10_hasTwo.2.1 5 = .ok (.ifCond .eq 20, 3) := by decide +kernel
theorem dX10_hasTwo_8 : decode mX10_hasTwo.2.1 8 = .ok (.aload_n 0, 1) := by decide +kernel
theorem dX10_hasTwo_9 : decode mX10_hasTwo.2.1 9 = .ok (.iload_n 2, 1) := by decide +kernel
theorem dX10_hasTwo_10 : decode mX10_hasTwo.2.1 10 = .ok (.invokevirtual 87, 3) := by decide +kernel
theorem dX10_hasTwo_13 : decode mX10_hasTwo.2.1 13 = .ok (.ifCond .eq 12, 3) := by decide +kernel
theorem dX10_hasTwo_16 : decode mX10_hasTwo.2.1 16 = .ok (.iload_n 1, 1) := by decide +kernel
theorem dX10_hasTwo_17 : decode mX10_hasTwo.2.1 17 = .ok (.iload_n 2, 1) := by decide +kernel
theorem dX10_hasTwo_18 : decode mX10_hasTwo.2.1 18 = .ok (.if_icmp .eq 7, 3) := by decide +kernel
theorem dX10_hasTwo_21 : decode mX10_hasTwo.2.1 21 = .ok (.iconst 1, 1) := by decide +kernel
theorem dX10_hasTwo_22 : decode mX10_hasTwo.2.1 22 = .ok (.goto 4, 3) := by decide +kernel
theorem dX10_hasTwo_25 : decode mX10_hasTwo.2.1 25 = .ok (.iconst 0, 1) := by decide +kernel
theorem dX10_hasTwo_26 : decode mX10_hasTwo.2.1 26 = .ok (.ireturn, 1) := by decide +kernel
theorem dX10_hasGoal_0 : decode mX10_hasGoal.2.1 0 = .ok (.iload_n 1, 1) := by decide +kernel
theorem dX10_hasGoal_1 : decode mX10_hasGoal.2.1 1 = .ok (.ifCond .eq 30, 3) := by decide +kernel
theorem dX10_hasGoal_4 : decode mX10_hasGoal.2.1 4 = .ok (.iload_n 1, 1) := by decide +kernel
theorem dX10_hasGoal_5 : decode mX10_hasGoal.2.1 5 = .ok (.iconst 1, 1) := by decide +kernel
theorem dX10_hasGoal_6 : decode mX10_hasGoal.2.1 6 = .ok (.if_icmp .ne 12, 3) := by decide +kernel
theorem dX10_hasGoal_9 : decode mX10_hasGoal.2.1 9 = .ok (.iload_n 2, 1) := by decide +kernel
theorem dX10_hasGoal_10 : decode mX10_hasGoal.2.1 10 = .ok (.ifCond .lt 8, 3) := by decide +kernel
theorem dX10_hasGoal_13 : decode mX10_hasGoal.2.1 13 = .ok (.iload_n 2, 1) := by decide +kernel
theorem dX10_hasGoal_14 : decode mX10_hasGoal.2.1 14 = .ok (.iconst 5, 1) := by decide +kernel
theorem dX10_hasGoal_15 : decode mX10_hasGoal.2.1 15 = .ok (.if_icmp .lt 16, 3) := by decide +kernel
theorem dX10_hasGoal_18 : decode mX10_hasGoal.2.1 18 = .ok (.iload_n 1, 1) := by decide +kernel
theorem dX10_hasGoal_19 : decode mX10_hasGoal.2.1 19 = .ok (.iconst 2, 1) := by decide +kernel
theorem dX10_hasGoal_20 : decode mX10_hasGoal.2.1 20 = .ok (.if_icmp .ne 15, 3) := by decide +kernel
theorem dX10_hasGoal_23 : decode mX10_hasGoal.2.1 23 = .ok (.aload_n 0, 1) := by decide +kernel
theorem dX10_hasGoal_24 : decode mX10_hasGoal.2.1 24 = .ok (.iload_n 2, 1) := by decide +kernel
theorem dX10_hasGoal_25 : decode mX10_hasGoal.2.1 25 = .ok (.invokevirtual 87, 3) := by decide +kernel
theorem dX10_hasGoal_28 : decode mX10_hasGoal.2.1 28 = .ok (.ifCond .eq 7, 3) := by decide +kernel
theorem dX10_hasGoal_31 : decode mX10_hasGoal.2.1 31 = .ok (.iconst 1, 1) := by decide +kernel
theorem dX10_hasGoal_32 : decode mX10_hasGoal.2.1 32 = .ok (.goto 4, 3) := by decide +kernel
theorem dX10_hasGoal_35 : decode mX10_hasGoal.2.1 35 = .ok (.iconst 0, 1) := by decide +kernel
theorem dX10_hasGoal_36 : decode mX10_hasGoal.2.1 36 = .ok (.ireturn, 1) := by decide +kernel
theorem bX10_empty_0 {d : Nat} {g : xSt} {r : Option Value × xSt} {t : Nat} (W : xWf g) (ht : xTw t) (k : r = (none, xWI (xWI (xWI (xWI (xWI (xWI (xWI g t 0 0) t 3 0) t 4 0) t 5 0) t 6 0) t 8 0) t 11 0)) : xX d mX10_empty 0 [some (.ref t)] [] g = some r :=
  Y_aload_n dX10_empty_0 rfl <| Y_iconst 0 dX10_empty_1 ic_0 <| Y_putI dX10_empty_2 f_9_35 fn_9_0 ft_9_0 (xisS W ht) <| Y_aload_n dX10_empty_5 rfl <| Y_iconst 0 dX10_empty_6 ic_0 <| Y_putZ dX10_empty_7 f_9_39 fn_9_3 ft_9_3 (xisS W ht) (by decide) <| Y_aload_n dX10_empty_10 rfl <| Y_iconst 0 dX10_empty_11 ic_0 <| Y_putZ dX10_empty_12 f_9_43 fn_9_4 ft_9_4 (xisS W ht) (by decide) <| Y_aload_n dX10_empty_15 rfl <| Y_iconst 0 dX10_empty_16 ic_0 <| Y_putI dX10_empty_17 f_9_46 fn_9_5 ft_9_5 (xisS W ht) <| Y_aload_n dX10_empty_20 rfl <| Y_iconst 0 dX10_empty_21 ic_0 <| Y_putI dX10_empty_22 f_9_49 fn_9_6 ft_9_6 (xisS W ht) <| Y_aload_n dX10_empty_25 rfl <| Y_iconst 0 dX10_empty_26 ic_0 <| Y_putI dX10_empty_27 f_9_52 fn_9_8 ft_9_8 (xisS W ht) <| Y_aload_n dX10_empty_30 rfl <| Y_iconst 0 dX10_empty_31 ic_0 <| Y_putI dX10_empty_32 f_9_55 fn_9_11 ft_9_11 (xisS W ht) <| Y_ret dX10_empty_35 rfl k
theorem bX10_thingOf_0 {d : Nat} {g : xSt} {r : Option Value × xSt} {a1 : Int64} {r9 : Int32} {g9 : xSt} {t : Nat} (W : xWf g) (ht : xTw t) (hk9 : xCallM d mX7_find [.ref (t + 1), .int (xI g t 0), .long a1] g = some (some (.int r9), g9)) (W9 : xWf g9) (k : r = (some (.int r9), g9)) : xX (d + 1) mX10_thingOf 0 [some (.ref t), some (.long a1), none] [] g = some r :=
  Y_aload_n dX10_thingOf_0 rfl <| Y_getR dX10_thingOf_1 f_9_9 (by rw [ft_9_1]; rfl) (xisS W ht) (xptrS W ht 1 rfl) <| Y_aload_n dX10_thingOf_4 rfl <| Y_getI dX10_thingOf_5 f_9_35 ft_9_0 (xisS W ht) <| Y_lload_n dX10_thingOf_8 rfl <| Y_callS1 dX10_thingOf_9 cl_9_83 rfl rfl rfl rfl rfl (hk9) <| Y_iret dX10_thingOf_12 rfl k
theorem bX10_addThing_0 {d : Nat} {g : xSt} {r : Option Value × xSt} {a1 : Int64} {a3 : Int32} {t : Nat} (W : xWf g) (ht : xTw t) (k : r = (none, xWI (xput (xputL g (t + 1) 5 (xI g t 0) a1) (t + 2) 5 (xI (xputL g (t + 1) 5 (xI g t 0) a1) t 0) a3) t 0 ((xI (xput (xputL g (t + 1) 5 (xI g t 0) a1) (t + 2) 5 (xI (xputL g (t + 1) 5 (xI g t 0) a1) t 0) a3) t 0) + 1))) : xX (d + 1) mX10_addThing 0 [some (.ref t), some (.long a1), none, some (.int a3)] [] g = some r :=
  Y_aload_n dX10_addThing_0 rfl <| Y_getR dX10_addThing_1 f_9_9 (by rw [ft_9_1]; rfl) (xisS W ht) (xptrS W ht 1 rfl) <| Y_aload_n dX10_addThing_4 rfl <| Y_getI dX10_addThing_5 f_9_35 ft_9_0 (xisS W ht) <| Y_lload_n dX10_addThing_8 rfl <| Y_callS0 dX10_addThing_9 cl_9_58 rfl rfl rfl rfl rfl (c_putL (xarrS W ht 1 rfl)) <| Y_aload_n dX10_addThing_12 rfl <| Y_getR dX10_addThing_13 f_9_13 (by rw [ft_9_2]; rfl) (xisS (xWf_putL W) ht) (xptrS (xWf_putL W) ht 2 rfl) <| Y_aload_n dX10_addThing_16 rfl <| Y_getI dX10_addThing_17 f_9_35 ft_9_0 (xisS (xWf_putL W) ht) <| Y_iload_n dX10_addThing_20 rfl <| Y_callS0 dX10_addThing_21 cl_9_64 rfl rfl rfl rfl rfl (c_put (xarrS (xWf_putL W) ht 2 rfl)) <| Y_aload_n dX10_addThing_24 rfl <| Y_dup dX10_addThing_25 rfl <| Y_getI dX10_addThing_26 f_9_35 ft_9_0 (xisS (xWf_put (xWf_putL W)) ht) <| Y_iconst 1 dX10_addThing_29 ic_1 <| Y_iadd dX10_addThing_30 <| Y_putI dX10_addThing_31 f_9_35 fn_9_0 ft_9_0 (xisS (xWf_put (xWf_putL W)) ht) <| Y_ret dX10_addThing_34 rfl k
theorem bX10_rowBits_0 {d : Nat} {g : xSt} {r : Option Value × xSt} {t : Nat} (ht : xTw t) (k : xX (d + 1) mX10_rowBits 4 [some (.ref t), some (.int 0), some (.int 0)] [] g = some r) : xX (d + 1) mX10_rowBits 0 [some (.ref t), none, none] [] g = some r :=
  Y_iconst 0 dX10_rowBits_0 ic_0 <| Y_istore_n dX10_rowBits_1 rfl rfl <| Y_iconst 0 dX10_rowBits_2 ic_0 <| Y_istore_n dX10_rowBits_3 rfl rfl <| X_le (xle_s (xle_s (xle_s xle_0))) k
theorem bX10_rowBits_4 {d : Nat} {g : xSt} {r : Option Value × xSt} {a1 a2 : Int32} {t : Nat} (W : xWf g) (ht : xTw t) (k1 : (xI g t 6) ≤ a2 → xX (d + 1) mX10_rowBits 31 [none, some (.int a1), none] [] g = some r) (k2 : ¬ ((xI g t 6) ≤ a2) → xX (d + 1) mX10_rowBits 12 [some (.ref t), some (.int a1), some (.int a2)] [] g = some r) : xX (d + 1) mX10_rowBits 4 [some (.ref t), some (.int a1), some (.int a2)] [] g = some r :=
  Y_iload_n dX10_rowBits_4 rfl <| Y_aload_n dX10_rowBits_5 rfl <| Y_getI dX10_rowBits_6 f_9_49 ft_9_6 (xisS W ht) <| Y_ge 31 dX10_rowBits_9 rfl (fun q => X_le (xle_n (xle_s (xle_n xle_0))) (k1 q)) (fun q => X_le (xle_s (xle_s (xle_s xle_0))) (k2 q))
theorem bX10_rowBits_12 {d : Nat} {g : xSt} {r : Option Value × xSt} {a1 a2 : Int32} {t : Nat} (W : xWf g) (ht : xTw t) (k : xX (d + 1) mX10_rowBits 4 [some (.ref t), some (.int (a1 ||| (1 <<< ((xat (xI g (t + 3)) 5 a2) &&& 31)))), some (.int (a2 + 1))] [] g = some r) : xX (d + 1) mX10_rowBits 12 [some (.ref t), some (.int a1), some (.int a2)] [] g = some r :=
  Y_iload_n dX10_rowBits_12 rfl <| Y_iconst 1 dX10_rowBits_13 ic_1 <| Y_aload_n dX10_rowBits_14 rfl <| Y_getR dX10_rowBits_15 f_9_17 (by rw [ft_9_7]; rfl) (xisS W ht) (xptrS W ht 7 rfl) <| Y_iload_n dX10_rowBits_18 rfl <| Y_callS1 dX10_rowBits_19 cl_9_67 rfl rfl rfl rfl rfl (c_at (xarrS W ht 3 rfl)) <| Y_ishl dX10_rowBits_22 <| Y_ior dX10_rowBits_23 <| Y_istore_n dX10_rowBits_24 rfl rfl <| Y_iinc 1 dX10_rowBits_25 rfl ic_1 rfl rfl <| Y_goto 4 dX10_rowBits_28 rfl <| X_le (xle_s (xle_s (xle_s xle_0))) k
theorem bX10_rowBits_31 {d : Nat} {g : xSt} {r : Option Value × xSt} {a1 : Int32} (k : r = (some (.int a1), g)) : xX (d + 1) mX10_rowBits 31 [none, some (.int a1), none] [] g = some r :=
  Y_iload_n dX10_rowBits_31 rfl <| Y_iret dX10_rowBits_32 rfl k
theorem bX10_addToRow_0 {d : Nat} {g : xSt} {r : Option Value × xSt} {a1 : Int32} {t : Nat} (W : xWf g) (ht : xTw t) (k : r = (none, xWI (xput g (t + 3) 5 (xI g t 6) a1) t 6 ((xI (xput g (t + 3) 5 (xI g t 6) a1) t 6) + 1))) : xX (d + 1) mX10_addToRow 0 [some (.ref t), some (.int a1)] [] g = some r :=
  Y_aload_n dX10_addToRow_0 rfl <| Y_getR dX10_addToRow_1 f_9_17 (by rw [ft_9_7]; rfl) (xisS W ht) (xptrS W ht 7 rfl) <| Y_aload_n dX10_addToRow_4 rfl <| Y_getI dX10_addToRow_5 f_9_49 ft_9_6 (xisS W ht) <| Y_iload_n dX10_addToRow_8 rfl <| Y_callS0 dX10_addToRow_9 cl_9_64 rfl rfl rfl rfl rfl (c_put (xarrS W ht 3 rfl)) <| Y_aload_n dX10_addToRow_12 rfl <| Y_dup dX10_addToRow_13 rfl <| Y_getI dX10_addToRow_14 f_9_49 ft_9_6 (xisS (xWf_put W) ht) <| Y_iconst 1 dX10_addToRow_17 ic_1 <| Y_iadd dX10_addToRow_18 <| Y_putI dX10_addToRow_19 f_9_49 fn_9_6 ft_9_6 (xisS (xWf_put W) ht) <| Y_ret dX10_addToRow_22 rfl k
theorem bX10_planOf_0 {d : Nat} {g : xSt} {r : Option Value × xSt} {a1 : Int64} {r9 : Int32} {g9 : xSt} {t : Nat} (W : xWf g) (ht : xTw t) (hk9 : xCallM d mX7_find [.ref (t + 4), .int (xI g t 8), .long a1] g = some (some (.int r9), g9)) (W9 : xWf g9) (k : r = (some (.int r9), g9)) : xX (d + 1) mX10_planOf 0 [some (.ref t), some (.long a1), none] [] g = some r :=
  Y_aload_n dX10_planOf_0 rfl <| Y_getR dX10_planOf_1 f_9_20 (by rw [ft_9_9]; rfl) (xisS W ht) (xptrS W ht 9 rfl) <| Y_aload_n dX10_planOf_4 rfl <| Y_getI dX10_planOf_5 f_9_52 ft_9_8 (xisS W ht) <| Y_lload_n dX10_planOf_8 rfl <| Y_callS1 dX10_planOf_9 cl_9_83 rfl rfl rfl rfl rfl (hk9) <| Y_iret dX10_planOf_12 rfl k
theorem bX10_addTwo_0 {d : Nat} {g : xSt} {r : Option Value × xSt} {a1 a2 : Int32} {t : Nat} (W : xWf g) (ht : xTw t) (k : r = (some (.int ((xI (xWI (xput (xput g (t + 6) 60 (xI g t 11) a1) (t + 7) 60 (xI (xput g (t + 6) 60 (xI g t 11) a1) t 11) a2) t 11 ((xI (xput (xput g (t + 6) 60 (xI g t 11) a1) (t + 7) 60 (xI (xput g (t + 6) 60 (xI g t 11) a1) t 11) a2) t 11) + 1)) t 11) - 1)), xWI (xput (xput g (t + 6) 60 (xI g t 11) a1) (t + 7) 60 (xI (xput g (t + 6) 60 (xI g t 11) a1) t 11) a2) t 11 ((xI (xput (xput g (t + 6) 60 (xI g t 11) a1) (t + 7) 60 (xI (xput g (t + 6) 60 (xI g t 11) a1) t 11) a2) t 11) + 1))) : xX (d + 1) mX10_addTwo 0 [some (.ref t), some (.int a1), some (.int a2)] [] g = some r :=
  Y_aload_n dX10_addTwo_0 rfl <| Y_getR dX10_addTwo_1 f_9_26 (by rw [ft_9_12]; rfl) (xisS W ht) (xptrS W ht 12 rfl) <| Y_aload_n dX10_addTwo_4 rfl <| Y_getI dX10_addTwo_5 f_9_55 ft_9_11 (xisS W ht) <| Y_iload_n dX10_addTwo_8 rfl <| Y_callS0 dX10_addTwo_9 cl_9_64 rfl rfl rfl rfl rfl (c_put (xarrS W ht 6 rfl)) <| Y_aload_n dX10_addTwo_12 rfl <| Y_getR dX10_addTwo_13 f_9_29 (by rw [ft_9_13]; rfl) (xisS (xWf_put W) ht) (xptrS (xWf_put W) ht 13 rfl) <| Y_aload_n dX10_addTwo_16 rfl <| Y_getI dX10_addTwo_17 f_9_55 ft_9_11 (xisS (xWf_put W) ht) <| Y_iload_n dX10_addTwo_20 rfl <| Y_callS0 dX10_addTwo_21 cl_9_64 rfl rfl rfl rfl rfl (c_put (xarrS (xWf_put W) ht 7 rfl)) <| Y_aload_n dX10_addTwo_24 rfl <| Y_dup dX10_addTwo_25 rfl <| Y_getI dX10_addTwo_26 f_9_55 ft_9_11 (xisS (xWf_put (xWf_put W)) ht) <| Y_iconst 1 dX10_addTwo_29 ic_1 <| Y_iadd dX10_addTwo_30 <| Y_putI dX10_addTwo_31 f_9_55 fn_9_11 ft_9_11 (xisS (xWf_put (xWf_put W)) ht) <| Y_aload_n dX10_addTwo_34 rfl <| Y_getI dX10_addTwo_35 f_9_55 ft_9_11 (xisS (xWf_put (xWf_put W)) ht) <| Y_iconst 1 dX10_addTwo_38 ic_1 <| Y_isub dX10_addTwo_39 <| Y_iret dX10_addTwo_40 rfl k
theorem bX10_setWay_0 {d : Nat} {g : xSt} {r : Option Value × xSt} {a1 a2 a3 : Int32} {t : Nat} (W : xWf g) (ht : xTw t) (k : r = (none, xput g (t + 8) 180 ((3 * a1) + a2) a3)) : xX (d + 1) mX10_setWay 0 [some (.ref t), some (.int a1), some (.int a2), some (.int a3)] [] g = some r :=
  Y_aload_n dX10_setWay_0 rfl <| Y_getR dX10_setWay_1 f_9_32 (by rw [ft_9_14]; rfl) (xisS W ht) (xptrS W ht 14 rfl) <| Y_iconst 3 dX10_setWay_4 ic_3 <| Y_iload_n dX10_setWay_5 rfl <| Y_imul dX10_setWay_6 <| Y_iload_n dX10_setWay_7 rfl <| Y_iadd dX10_setWay_8 <| Y_iload_n dX10_setWay_9 rfl <| Y_callS0 dX10_setWay_10 cl_9_64 rfl rfl rfl rfl rfl (c_put (xarrS W ht 8 rfl)) <| Y_ret dX10_setWay_13 rfl k
theorem bX10_addPlan_0 {d : Nat} {g : xSt} {r : Option Value × xSt} {a1 : Int64} {a3 : Int32} {t : Nat} (W : xWf g) (ht : xTw t) (k : r = (none, xWI (xput (xputL g (t + 4) 3 (xI g t 8) a1) (t + 5) 3 (xI (xputL g (t + 4) 3 (xI g t 8) a1) t 8) a3) t 8 ((xI (xput (xputL g (t + 4) 3 (xI g t 8) a1) (t + 5) 3 (xI (xputL g (t + 4) 3 (xI g t 8) a1) t 8) a3) t 8) + 1))) : xX (d + 1) mX10_addPlan 0 [some (.ref t), some (.long a1), none, some (.int a3)] [] g = some r :=
  Y_aload_n dX10_addPlan_0 rfl <| Y_getR dX10_addPlan_1 f_9_20 (by rw [ft_9_9]; rfl) (xisS W ht) (xptrS W ht 9 rfl) <| Y_aload_n dX10_addPlan_4 rfl <| Y_getI dX10_addPlan_5 f_9_52 ft_9_8 (xisS W ht) <| Y_lload_n dX10_addPlan_8 rfl <| Y_callS0 dX10_addPlan_9 cl_9_58 rfl rfl rfl rfl rfl (c_putL (xarrS W ht 4 rfl)) <| Y_aload_n dX10_addPlan_12 rfl <| Y_getR dX10_addPlan_13 f_9_23 (by rw [ft_9_10]; rfl) (xisS (xWf_putL W) ht) (xptrS (xWf_putL W) ht 10 rfl) <| Y_aload_n dX10_addPlan_16 rfl <| Y_getI dX10_addPlan_17 f_9_52 ft_9_8 (xisS (xWf_putL W) ht) <| Y_iload_n dX10_addPlan_20 rfl <| Y_callS0 dX10_addPlan_21 cl_9_64 rfl rfl rfl rfl rfl (c_put (xarrS (xWf_putL W) ht 5 rfl)) <| Y_aload_n dX10_addPlan_24 rfl <| Y_dup dX10_addPlan_25 rfl <| Y_getI dX10_addPlan_26 f_9_52 ft_9_8 (xisS (xWf_put (xWf_putL W)) ht) <| Y_iconst 1 dX10_addPlan_29 ic_1 <| Y_iadd dX10_addPlan_30 <| Y_putI dX10_addPlan_31 f_9_52 fn_9_8 ft_9_8 (xisS (xWf_put (xWf_putL W)) ht) <| Y_ret dX10_addPlan_34 rfl k
theorem bX10_completeRow_0 {d : Nat} {g : xSt} {r : Option Value × xSt} {r1 : Int32} {g1 : xSt} {t : Nat} (W : xWf g) (ht : xTw t) (hk1 : xCallM d mX10_rowBits [.ref t] g = some (some (.int r1), g1)) (W1 : xWf g1) (k : xX (d + 1) mX10_completeRow 7 [some (.ref t), some (.int r1), some (.int 0)] [] g1 = some r) : xX (d + 1) mX10_completeRow 0 [some (.ref t), none, none] [] g = some r :=
  Y_aload_n dX10_completeRow_0 rfl <| Y_callV1 dX10_completeRow_1 cl_9_71 rfl rfl (xisS W ht) rfl rfl rfl (hk1) <| Y_istore_n dX10_completeRow_4 rfl rfl <| Y_iconst 0 dX10_completeRow_5 ic_0 <| Y_istore_n dX10_completeRow_6 rfl rfl <| X_le (xle_s (xle_s (xle_s xle_0))) k
theorem bX10_completeRow_7 {d : Nat} {g : xSt} {r : Option Value × xSt} {a1 a2 : Int32} {t : Nat} (W : xWf g) (ht : xTw t) (k1 : (xI g t 0) ≤ a2 → xX (d + 1) mX10_completeRow 34 [none, none, none] [] g = some r) (k2 : ¬ ((xI g t 0) ≤ a2) → xX (d + 1) mX10_completeRow 15 [some (.ref t), some (.int a1), some (.int a2)] [] g = some r) : xX (d + 1) mX10_completeRow 7 [some (.ref t), some (.int a1), some (.int a2)] [] g = some r :=
  Y_iload_n dX10_completeRow_7 rfl <| Y_aload_n dX10_completeRow_8 rfl <| Y_getI dX10_completeRow_9 f_9_35 ft_9_0 (xisS W ht) <| Y_ge 34 dX10_completeRow_12 rfl (fun q => X_le (xle_n (xle_n (xle_n xle_0))) (k1 q)) (fun q => X_le (xle_s (xle_s (xle_s xle_0))) (k2 q))
theorem bX10_completeRow_15 {d : Nat} {g : xSt} {r : Option Value × xSt} {a1 a2 : Int32} {t : Nat} (ht : xTw t) (k1 : (xbit a1 a2) = 0 → xX (d + 1) mX10_completeRow 23 [some (.ref t), some (.int a1), some (.int a2)] [] g = some r) (k2 : ¬ ((xbit a1 a2) = 0) → xX (d + 1) mX10_completeRow 28 [some (.ref t), some (.int a1), some (.int a2)] [] g = some r) : xX (d + 1) mX10_completeRow 15 [some (.ref t), some (.int a1), some (.int a2)] [] g = some r :=
  Y_iload_n dX10_completeRow_15 rfl <| Y_iload_n dX10_completeRow_16 rfl <| Y_callS1 dX10_completeRow_17 cl_9_75 rfl rfl rfl rfl rfl (c_xbit) <| Y_ne0 28 dX10_completeRow_20 rfl (fun q => X_le (xle_s (xle_s (xle_s xle_0))) (k1 q)) (fun q => X_le (xle_s (xle_s (xle_s xle_0))) (k2 q))
theorem bX10_completeRow_23 {d : Nat} {g : xSt} {r : Option Value × xSt} {a1 a2 : Int32} {g25 : xSt} {t : Nat} (W : xWf g) (ht : xTw t) (hk25 : xCallM d mX10_addToRow [.ref t, .int a2] g = some (none, g25)) (W25 : xWf g25) (k : xX (d + 1) mX10_completeRow 28 [some (.ref t), some (.int a1), some (.int a2)] [] g25 = some r) : xX (d + 1) mX10_completeRow 23 [some (.ref t), some (.int a1), some (.int a2)] [] g = some r :=
  Y_aload_n dX10_completeRow_23 rfl <| Y_iload_n dX10_completeRow_24 rfl <| Y_callV0 dX10_completeRow_25 cl_9_79 rfl rfl (xisS W ht) rfl rfl rfl (hk25) <| X_le (xle_s (xle_s (xle_s xle_0))) k
theorem bX10_completeRow_28 {d : Nat} {g : xSt} {r : Option Value × xSt} {a1 a2 : Int32} {t : Nat} (ht : xTw t) (k : xX (d + 1) mX10_completeRow 7 [some (.ref t), some (.int a1), some (.int (a2 + 1))] [] g = some r) : xX (d + 1) mX10_completeRow 28 [some (.ref t), some (.int a1), some (.int a2)] [] g = some r :=
  Y_iinc 1 dX10_completeRow_28 rfl ic_1 rfl rfl <| Y_goto 7 dX10_completeRow_31 rfl <| X_le (xle_s (xle_s (xle_s xle_0))) k
theorem bX10_completeRow_34 {d : Nat} {g : xSt} {r : Option Value × xSt}  (k : r = (none, g)) : xX (d + 1) mX10_completeRow 34 [none, none, none] [] g = some r :=
  Y_ret dX10_completeRow_34 rfl k
theorem bX10_hasHeaps_0 {d : Nat} {g : xSt} {r : Option Value × xSt} {a1 a2 r2 : Int32} {g2 : xSt} {t : Nat} (W : xWf g) (ht : xTw t) (hk2 : xCallM d mX10_isHeap [.ref t, .int a1] g = some (some (.int r2), g2)) (W2 : xWf g2) (k1 : r2 = 0 → xX (d + 1) mX10_hasHeaps 26 [none, none, none] [] g2 = some r) (k2 : ¬ (r2 = 0) → xX (d + 1) mX10_hasHeaps 8 [some (.ref t), some (.int a1), some (.int a2)] [] g2 = some r) : xX (d + 1) mX10_hasHeaps 0 [some (.ref t), some (.int a1), some (.int a2)] [] g = some r :=
  Y_aload_n dX10_hasHeaps_0 rfl <| Y_iload_n dX10_hasHeaps_1 rfl <| Y_callV1 dX10_hasHeaps_2 cl_9_91 rfl rfl (xisS W ht) rfl rfl rfl (hk2) <| Y_eq0 26 dX10_hasHeaps_5 rfl (fun q => X_le (xle_n (xle_n (xle_n xle_0))) (k1 q)) (fun q => X_le (xle_s (xle_s (xle_s xle_0))) (k2 q))
theorem bX10_hasHeaps_8 {d : Nat} {g : xSt} {r : Option Value × xSt} {a1 a2 r10 : Int32} {g10 : xSt} {t : Nat} (W : xWf g) (ht : xTw t) (hk10 : xCallM d mX10_isHeap [.ref t, .int a2] g = some (some (.int r10), g10)) (W10 : xWf g10) (k1 : r10 = 0 → xX (d + 1) mX10_hasHeaps 26 [none, none, none] [] g10 = some r) (k2 : ¬ (r10 = 0) → xX (d + 1) mX10_hasHeaps 16 [none, some (.int a1), some (.int a2)] [] g10 = some r) : xX (d + 1) mX10_hasHeaps 8 [some (.ref t), some (.int a1), some (.int a2)] [] g = some r :=
  Y_aload_n dX10_hasHeaps_8 rfl <| Y_iload_n dX10_hasHeaps_9 rfl <| Y_callV1 dX10_hasHeaps_10 cl_9_91 rfl rfl (xisS W ht) rfl rfl rfl (hk10) <| Y_eq0 26 dX10_hasHeaps_13 rfl (fun q => X_le (xle_n (xle_n (xle_n xle_0))) (k1 q)) (fun q => X_le (xle_n (xle_s (xle_s xle_0))) (k2 q))
theorem bX10_hasHeaps_16 {d : Nat} {g : xSt} {r : Option Value × xSt} {a1 a2 : Int32} (k1 : (a1 &&& a2) = 0 → xX (d + 1) mX10_hasHeaps 22 [none, none, none] [] g = some r) (k2 : ¬ ((a1 &&& a2) = 0) → xX (d + 1) mX10_hasHeaps 26 [none, none, none] [] g = some r) : xX (d + 1) mX10_hasHeaps 16 [none, some (.int a1), some (.int a2)] [] g = some r :=
  Y_iload_n dX10_hasHeaps_16 rfl <| Y_iload_n dX10_hasHeaps_17 rfl <| Y_iand dX10_hasHeaps_18 <| Y_ne0 26 dX10_hasHeaps_19 rfl (fun q => X_le (xle_n (xle_n (xle_n xle_0))) (k1 q)) (fun q => X_le (xle_n (xle_n (xle_n xle_0))) (k2 q))
theorem bX10_hasHeaps_22 {d : Nat} {g : xSt} {r : Option Value × xSt}  (k : xX (d + 1) mX10_hasHeaps 27 [none, none, none] [.int 1] g = some r) : xX (d + 1) mX10_hasHeaps 22 [none, none, none] [] g = some r :=
  Y_iconst 1 dX10_hasHeaps_22 ic_1 <| Y_goto 27 dX10_hasHeaps_23 rfl <| X_le (xle_n (xle_n (xle_n xle_0))) k
theorem bX10_hasHeaps_26 {d : Nat} {g : xSt} {r : Option Value × xSt}  (k : xX (d + 1) mX10_hasHeaps 27 [none, none, none] [.int 0] g = some r) : xX (d + 1) mX10_hasHeaps 26 [none, none, none] [] g = some r :=
  Y_iconst 0 dX10_hasHeaps_26 ic_0 <| X_le (xle_n (xle_n (xle_n xle_0))) k
theorem bX10_hasHeaps_27 {d : Nat} {g : xSt} {r : Option Value × xSt} {s0 : Int32} (hz27 : s0 = 0 ∨ s0 = 1) (k : r = (some (.int s0), g)) : xX (d + 1) mX10_hasHeaps 27 [none, none, none] [.int s0] g = some r :=
  Y_zret dX10_hasHeaps_27 rfl (hz27) k
theorem bX10_isHeap_0 {d : Nat} {g : xSt} {r : Option Value × xSt} {a1 : Int32} {t : Nat} (ht : xTw t) (k1 : a1 ≤ 0 → xX d mX10_isHeap 18 [none, none] [] g = some r) (k2 : ¬ (a1 ≤ 0) → xX d mX10_isHeap 4 [some (.ref t), some (.int a1)] [] g = some r) : xX d mX10_isHeap 0 [some (.ref t), some (.int a1)] [] g = some r :=
  Y_iload_n dX10_isHeap_0 rfl <| Y_le0 18 dX10_isHeap_1 rfl (fun q => X_le (xle_n (xle_n xle_0)) (k1 q)) (fun q => X_le (xle_s (xle_s xle_0)) (k2 q))
theorem bX10_isHeap_4 {d : Nat} {g : xSt} {r : Option Value × xSt} {a1 : Int32} {t : Nat} (W : xWf g) (ht : xTw t) (k1 : (1 <<< ((xI g t 0) &&& 31)) ≤ a1 → xX d mX10_isHeap 18 [none, none] [] g = some r) (k2 : ¬ ((1 <<< ((xI g t 0) &&& 31)) ≤ a1) → xX d mX10_isHeap 14 [none, none] [] g = some r) : xX d mX10_isHeap 4 [some (.ref t), some (.int a1)] [] g = some r :=
  Y_iload_n dX10_isHeap_4 rfl <| Y_iconst 1 dX10_isHeap_5 ic_1 <| Y_aload_n dX10_isHeap_6 rfl <| Y_getI dX10_isHeap_7 f_9_35 ft_9_0 (xisS W ht) <| Y_ishl dX10_isHeap_10 <| Y_ge 18 dX10_isHeap_11 rfl (fun q => X_le (xle_n (xle_n xle_0)) (k1 q)) (fun q => X_le (xle_n (xle_n xle_0)) (k2 q))
theorem bX10_isHeap_14 {d : Nat} {g : xSt} {r : Option Value × xSt}  (k : xX d mX10_isHeap 19 [none, none] [.int 1] g = some r) : xX d mX10_isHeap 14 [none, none] [] g = some r :=
  Y_iconst 1 dX10_isHeap_14 ic_1 <| Y_goto 19 dX10_isHeap_15 rfl <| X_le (xle_n (xle_n xle_0)) k
theorem bX10_isHeap_18 {d : Nat} {g : xSt} {r : Option Value × xSt}  (k : xX d mX10_isHeap 19 [none, none] [.int 0] g = some r) : xX d mX10_isHeap 18 [none, none] [] g = some r :=
  Y_iconst 0 dX10_isHeap_18 ic_0 <| X_le (xle_n (xle_n xle_0)) k
theorem bX10_isHeap_19 {d : Nat} {g : xSt} {r : Option Value × xSt} {s0 : Int32} (hz19 : s0 = 0 ∨ s0 = 1) (k : r = (some (.int s0), g)) : xX d mX10_isHeap 19 [none, none] [.int s0] g = some r :=
  Y_zret dX10_isHeap_19 rfl (hz19) k
theorem bX10_hasThing_0 {d : Nat} {g : xSt} {r : Option Value × xSt} {a1 : Int32} {t : Nat} (ht : xTw t) (k1 : a1 < 0 → xX d mX10_hasThing 16 [none, none] [] g = some r) (k2 : ¬ (a1 < 0) → xX d mX10_hasThing 4 [some (.ref t), some (.int a1)] [] g = some r) : xX d mX10_hasThing 0 [some (.ref t), some (.int a1)] [] g = some r :=
  Y_iload_n dX10_hasThing_0 rfl <| Y_lt0 16 dX10_hasThing_1 rfl (fun q => X_le (xle_n (xle_n xle_0)) (k1 q)) (fun q => X_le (xle_s (xle_s xle_0)) (k2 q))
theorem bX10_hasThing_4 {d : Nat} {g : xSt} {r : Option Value × xSt} {a1 : Int32} {t : Nat} (W : xWf g) (ht : xTw t) (k1 : (xI g t 0) ≤ a1 → xX d mX10_hasThing 16 [none, none] [] g = some r) (k2 : ¬ ((xI g t 0) ≤ a1) → xX d mX10_hasThing 12 [none, none] [] g = some r) : xX d mX10_hasThing 4 [some (.ref t), some (.int a1)] [] g = some r :=
  Y_iload_n dX10_hasThing_4 rfl <| Y_aload_n dX10_hasThing_5 rfl <| Y_getI dX10_hasThing_6 f_9_35 ft_9_0 (xisS W ht) <| Y_ge 16 dX10_hasThing_9 rfl (fun q => X_le (xle_n (xle_n xle_0)) (k1 q)) (fun q => X_le (xle_n (xle_n xle_0)) (k2 q))
theorem bX10_hasThing_12 {d : Nat} {g : xSt} {r : Option Value × xSt}  (k : xX d mX10_hasThing 17 [none, none] [.int 1] g = some r) : xX d mX10_hasThing 12 [none, none] [] g = some r :=
  Y_iconst 1 dX10_hasThing_12 ic_1 <| Y_goto 17 dX10_hasThing_13 rfl <| X_le (xle_n (xle_n xle_0)) k
theorem bX10_hasThing_16 {d : Nat} {g : xSt} {r : Option Value × xSt}  (k : xX d mX10_hasThing 17 [none, none] [.int 0] g = some r) : xX d mX10_hasThing 16 [none, none] [] g = some r :=
  Y_iconst 0 dX10_hasThing_16 ic_0 <| X_le (xle_n (xle_n xle_0)) k
theorem bX10_hasThing_17 {d : Nat} {g : xSt} {r : Option Value × xSt} {s0 : Int32} (hz17 : s0 = 0 ∨ s0 = 1) (k : r = (some (.int s0), g)) : xX d mX10_hasThing 17 [none, none] [.int s0] g = some r :=
  Y_zret dX10_hasThing_17 rfl (hz17) k
theorem bX10_hasTwo_0 {d : Nat} {g : xSt} {r : Option Value × xSt} {a1 a2 r2 : Int32} {g2 : xSt} {t : Nat} (W : xWf g) (ht : xTw t) (hk2 : xCallM d mX10_hasThing [.ref t, .int a1] g = some (some (.int r2), g2)) (W2 : xWf g2) (k1 : r2 = 0 → xX (d + 1) mX10_hasTwo 25 [none, none, none] [] g2 = some r) (k2 : ¬ (r2 = 0) → xX (d + 1) mX10_hasTwo 8 [some (.ref t), some (.int a1), some (.int a2)] [] g2 = some r) : xX (d + 1) mX10_hasTwo 0 [some (.ref t), some (.int a1), some (.int a2)] [] g = some r :=
  Y_aload_n dX10_hasTwo_0 rfl <| Y_iload_n dX10_hasTwo_1 rfl <| Y_callV1 dX10_hasTwo_2 cl_9_87 rfl rfl (xisS W ht) rfl rfl rfl (hk2) <| Y_eq0 25 dX10_hasTwo_5 rfl (fun q => X_le (xle_n (xle_n (xle_n xle_0))) (k1 q)) (fun q => X_le (xle_s (xle_s (xle_s xle_0))) (k2 q))
theorem bX10_hasTwo_8 {d : Nat} {g : xSt} {r : Option Value × xSt} {a1 a2 r10 : Int32} {g10 : xSt} {t : Nat} (W : xWf g) (ht : xTw t) (hk10 : xCallM d mX10_hasThing [.ref t, .int a2] g = some (some (.int r10), g10)) (W10 : xWf g10) (k1 : r10 = 0 → xX (d + 1) mX10_hasTwo 25 [none, none, none] [] g10 = some r) (k2 : ¬ (r10 = 0) → xX (d + 1) mX10_hasTwo 16 [none, some (.int a1), some (.int a2)] [] g10 = some r) : xX (d + 1) mX10_hasTwo 8 [some (.ref t), some (.int a1), some (.int a2)] [] g = some r :=
  Y_aload_n dX10_hasTwo_8 rfl <| Y_iload_n dX10_hasTwo_9 rfl <| Y_callV1 dX10_hasTwo_10 cl_9_87 rfl rfl (xisS W ht) rfl rfl rfl (hk10) <| Y_eq0 25 dX10_hasTwo_13 rfl (fun q => X_le (xle_n (xle_n (xle_n xle_0))) (k1 q)) (fun q => X_le (xle_n (xle_s (xle_s xle_0))) (k2 q))
theorem bX10_hasTwo_16 {d : Nat} {g : xSt} {r : Option Value × xSt} {a1 a2 : Int32} (k1 : a1 = a2 → xX (d + 1) mX10_hasTwo 25 [none, none, none] [] g = some r) (k2 : ¬ (a1 = a2) → xX (d + 1) mX10_hasTwo 21 [none, none, none] [] g = some r) : xX (d + 1) mX10_hasTwo 16 [none, some (.int a1), some (.int a2)] [] g = some r :=
  Y_iload_n dX10_hasTwo_16 rfl <| Y_iload_n dX10_hasTwo_17 rfl <| Y_eq 25 dX10_hasTwo_18 rfl (fun q => X_le (xle_n (xle_n (xle_n xle_0))) (k1 q)) (fun q => X_le (xle_n (xle_n (xle_n xle_0))) (k2 q))
theorem bX10_hasTwo_21 {d : Nat} {g : xSt} {r : Option Value × xSt}  (k : xX (d + 1) mX10_hasTwo 26 [none, none, none] [.int 1] g = some r) : xX (d + 1) mX10_hasTwo 21 [none, none, none] [] g = some r :=
  Y_iconst 1 dX10_hasTwo_21 ic_1 <| Y_goto 26 dX10_hasTwo_22 rfl <| X_le (xle_n (xle_n (xle_n xle_0))) k
theorem bX10_hasTwo_25 {d : Nat} {g : xSt} {r : Option Value × xSt}  (k : xX (d + 1) mX10_hasTwo 26 [none, none, none] [.int 0] g = some r) : xX (d + 1) mX10_hasTwo 25 [none, none, none] [] g = some r :=
  Y_iconst 0 dX10_hasTwo_25 ic_0 <| X_le (xle_n (xle_n (xle_n xle_0))) k
theorem bX10_hasTwo_26 {d : Nat} {g : xSt} {r : Option Value × xSt} {s0 : Int32} (hz26 : s0 = 0 ∨ s0 = 1) (k : r = (some (.int s0), g)) : xX (d + 1) mX10_hasTwo 26 [none, none, none] [.int s0] g = some r :=
  Y_zret dX10_hasTwo_26 rfl (hz26) k
theorem bX10_hasGoal_0 {d : Nat} {g : xSt} {r : Option Value × xSt} {a1 a2 : Int32} {t : Nat} (ht : xTw t) (k1 : a1 = 0 → xX (d + 1) mX10_hasGoal 31 [none, none, none] [] g = some r) (k2 : ¬ (a1 = 0) → xX (d + 1) mX10_hasGoal 4 [some (.ref t), some (.int a1), some (.int a2)] [] g = some r) : xX (d + 1) mX10_hasGoal 0 [some (.ref t), some (.int a1), some (.int a2)] [] g = some r :=
  Y_iload_n dX10_hasGoal_0 rfl <| Y_eq0 31 dX10_hasGoal_1 rfl (fun q => X_le (xle_n (xle_n (xle_n xle_0))) (k1 q)) (fun q => X_le (xle_s (xle_s (xle_s xle_0))) (k2 q))
theorem bX10_hasGoal_4 {d : Nat} {g : xSt} {r : Option Value × xSt} {a1 a2 : Int32} {t : Nat} (ht : xTw t) (k1 : a1 = 1 → xX (d + 1) mX10_hasGoal 9 [some (.ref t), some (.int a1), some (.int a2)] [] g = some r) (k2 : ¬ (a1 = 1) → xX (d + 1) mX10_hasGoal 18 [some (.ref t), some (.int a1), some (.int a2)] [] g = some r) : xX (d + 1) mX10_hasGoal 4 [some (.ref t), some (.int a1), some (.int a2)] [] g = some r :=
  Y_iload_n dX10_hasGoal_4 rfl <| Y_iconst 1 dX10_hasGoal_5 ic_1 <| Y_ne 18 dX10_hasGoal_6 rfl (fun q => X_le (xle_s (xle_s (xle_s xle_0))) (k1 q)) (fun q => X_le (xle_s (xle_s (xle_s xle_0))) (k2 q))
theorem bX10_hasGoal_9 {d : Nat} {g : xSt} {r : Option Value × xSt} {a1 a2 : Int32} {t : Nat} (ht : xTw t) (k1 : a2 < 0 → xX (d + 1) mX10_hasGoal 18 [some (.ref t), some (.int a1), some (.int a2)] [] g = some r) (k2 : ¬ (a2 < 0) → xX (d + 1) mX10_hasGoal 13 [some (.ref t), some (.int a1), some (.int a2)] [] g = some r) : xX (d + 1) mX10_hasGoal 9 [some (.ref t), some (.int a1), some (.int a2)] [] g = some r :=
  Y_iload_n dX10_hasGoal_9 rfl <| Y_lt0 18 dX10_hasGoal_10 rfl (fun q => X_le (xle_s (xle_s (xle_s xle_0))) (k1 q)) (fun q => X_le (xle_s (xle_s (xle_s xle_0))) (k2 q))
theorem bX10_hasGoal_13 {d : Nat} {g : xSt} {r : Option Value × xSt} {a1 a2 : Int32} {t : Nat} (ht : xTw t) (k1 : a2 < 5 → xX (d + 1) mX10_hasGoal 31 [none, none, none] [] g = some r) (k2 : ¬ (a2 < 5) → xX (d + 1) mX10_hasGoal 18 [some (.ref t), some (.int a1), some (.int a2)] [] g = some r) : xX (d + 1) mX10_hasGoal 13 [some (.ref t), some (.int a1), some (.int a2)] [] g = some r :=
  Y_iload_n dX10_hasGoal_13 rfl <| Y_iconst 5 dX10_hasGoal_14 ic_5 <| Y_lt 31 dX10_hasGoal_15 rfl (fun q => X_le (xle_n (xle_n (xle_n xle_0))) (k1 q)) (fun q => X_le (xle_s (xle_s (xle_s xle_0))) (k2 q))
theorem bX10_hasGoal_18 {d : Nat} {g : xSt} {r : Option Value × xSt} {a1 a2 : Int32} {t : Nat} (ht : xTw t) (k1 : a1 = 2 → xX (d + 1) mX10_hasGoal 23 [some (.ref t), none, some (.int a2)] [] g = some r) (k2 : ¬ (a1 = 2) → xX (d + 1) mX10_hasGoal 35 [none, none, none] [] g = some r) : xX (d + 1) mX10_hasGoal 18 [some (.ref t), some (.int a1), some (.int a2)] [] g = some r :=
  Y_iload_n dX10_hasGoal_18 rfl <| Y_iconst 2 dX10_hasGoal_19 ic_2 <| Y_ne 35 dX10_hasGoal_20 rfl (fun q => X_le (xle_s (xle_n (xle_s xle_0))) (k1 q)) (fun q => X_le (xle_n (xle_n (xle_n xle_0))) (k2 q))
theorem bX10_hasGoal_23 {d : Nat} {g : xSt} {r : Option Value × xSt} {a2 r25 : Int32} {g25 : xSt} {t : Nat} (W : xWf g) (ht : xTw t) (hk25 : xCallM d mX10_hasThing [.ref t, .int a2] g = some (some (.int r25), g25)) (W25 : xWf g25) (k1 : r25 = 0 → xX (d + 1) mX10_hasGoal 35 [none, none, none] [] g25 = some r) (k2 : ¬ (r25 = 0) → xX (d + 1) mX10_hasGoal 31 [none, none, none] [] g25 = some r) : xX (d + 1) mX10_hasGoal 23 [some (.ref t), none, some (.int a2)] [] g = some r :=
  Y_aload_n dX10_hasGoal_23 rfl <| Y_iload_n dX10_hasGoal_24 rfl <| Y_callV1 dX10_hasGoal_25 cl_9_87 rfl rfl (xisS W ht) rfl rfl rfl (hk25) <| Y_eq0 35 dX10_hasGoal_28 rfl (fun q => X_le (xle_n (xle_n (xle_n xle_0))) (k1 q)) (fun q => X_le (xle_n (xle_n (xle_n xle_0))) (k2 q))
theorem bX10_hasGoal_31 {d : Nat} {g : xSt} {r : Option Value × xSt}  (k : xX (d + 1) mX10_hasGoal 36 [none, none, none] [.int 1] g = some r) : xX (d + 1) mX10_hasGoal 31 [none, none, none] [] g = some r :=
  Y_iconst 1 dX10_hasGoal_31 ic_1 <| Y_goto 36 dX10_hasGoal_32 rfl <| X_le (xle_n (xle_n (xle_n xle_0))) k
theorem bX10_hasGoal_35 {d : Nat} {g : xSt} {r : Option Value × xSt}  (k : xX (d + 1) mX10_hasGoal 36 [none, none, none] [.int 0] g = some r) : xX (d + 1) mX10_hasGoal 35 [none, none, none] [] g = some r :=
  Y_iconst 0 dX10_hasGoal_35 ic_0 <| X_le (xle_n (xle_n (xle_n xle_0))) k
theorem bX10_hasGoal_36 {d : Nat} {g : xSt} {r : Option Value × xSt} {s0 : Int32} (hz36 : s0 = 0 ∨ s0 = 1) (k : r = (some (.int s0), g)) : xX (d + 1) mX10_hasGoal 36 [none, none, none] [.int s0] g = some r :=
  Y_zret dX10_hasGoal_36 rfl (hz36) k
