/-! stretches of HeavierRow$Judge, by program (wip/whole/genall.py) -/
theorem dX2_begin_0 : decode mX2_begin.2.1 0 = .ok (.aload_n 0, 1) := by decide +kernel
theorem dX2_begin_1 : decode mX2_begin.2.1 1 = .ok (.getfield 11, 3) := by decide +kernel
theorem dX2_begin_4 : decode mX2_begin.2.1 4 = .ok (.iconst 0, 1) := by decide +kernel
theorem dX2_begin_5 : decode mX2_begin.2.1 5 = .ok (.invokestatic 21, 3) := by decide +kernel
theorem dX2_begin_8 : decode mX2_begin.2.1 8 = .ok (.aload_n 0, 1) := by decide +kernel
theorem dX2_begin_9 : decode mX2_begin.2.1 9 = .ok (.getfield 18, 3) := by decide +kernel
theorem dX2_begin_12 : decode mX2_begin.2.1 12 = .ok (.iconst 0, 1) := by decide +kernel
theorem dX2_begin_13 : decode mX2_begin.2.1 13 = .ok (.invokestatic 21, 3) := by decide +kernel
theorem dX2_begin_16 : decode mX2_begin.2.1 16 = .ok (.aload_n 0, 1) := by decide +kernel
theorem dX2_begin_17 : decode mX2_begin.2.1 17 = .ok (.iconst 0, 1) := by decide +kernel
theorem dX2_begin_18 : decode mX2_begin.2.1 18 = .ok (.putfield 27, 3) := by decide +kernel
theorem dX2_begin_21 : decode mX2_begin.2.1 21 = .ok (.aload_n 0, 1) := by decide +kernel
theorem dX2_begin_22 : decode mX2_begin.2.1 22 = .ok (.iconst 0, 1) := by decide +kernel
theorem dX2_begin_23 : decode mX2_begin.2.1 23 = .ok (.putfield 31, 3) := by decide +kernel
theorem dX2_begin_26 : decode mX2_begin.2.1 26 = .ok (.return_, 1) := by decide +kernel
theorem dX2_follow_0 : decode mX2_follow.2.1 0 = .ok (.sipush 180, 3) := by decide +kernel
theorem dX2_follow_3 : decode mX2_follow.2.1 3 = .ok (.istore 6, 2) := by decide +kernel
theorem dX2_follow_5 : decode mX2_follow.2.1 5 = .ok (.aload_n 1, 1) := by decide +kernel
theorem dX2_follow_6 : decode mX2_follow.2.1 6 = .ok (.getfield 34, 3) := by decide +kernel
theorem dX2_follow_9 : decode mX2_follow.2.1 9 = .ok (.iload_n 2, 1) := by decide +kernel
theorem dX2_follow_10 : decode mX2_follow.2.1 10 = .ok (.invokestatic 37, 3) := by decide +kernel
theorem dX2_follow_13 : decode mX2_follow.2.1 13 = .ok (.istore 7, 2) := by decide +kernel
theorem dX2_follow_15 : decode mX2_follow.2.1 15 = .ok (.iconst 0, 1) := by decide +kernel
theorem dX2_follow_16 : decode mX2_follow.2.1 16 = .ok (.istore 8, 2) := by decide +kernel
theorem dX2_follow_18 : decode mX2_follow.2.1 18 = .ok (.iload 7, 2) := by decide +kernel
theorem dX2_follow_20 : decode mX2_follow.2.1 20 = .ok (.iconst (-1), 1) := by decide +kernel
theorem dX2_follow_21 : decode mX2_follow.2.1 21 = .ok (.if_icmp .eq 66, 3) := by decide +kernel
theorem dX2_follow_24 : decode mX2_follow.2.1 24 = .ok (.iload 8, 2) := by decide +kernel
theorem dX2_follow_26 : decode mX2_follow.2.1 26 = .ok (.bipush 60, 2) := by decide +kernel
theorem dX2_follow_28 : decode mX2_follow.2.1 28 = .ok (.if_icmp .gt 59, 3) := by decide +kernel
theorem dX2_follow_31 : decode mX2_follow.2.1 31 = .ok (.aload_n 1, 1) := by decide +kernel
theorem dX2_follow_32 : decode mX2_follow.2.1 32 = .ok (.getfield 41, 3) := by decide +kernel
theorem dX2_follow_35 : decode mX2_follow.2.1 35 = .ok (.iload 7, 2) := by decide +kernel
theorem dX2_follow_37 : decode mX2_follow.2.1 37 = .ok (.invokestatic 37, 3) := by decide +kernel
theorem dX2_follow_40 : decode mX2_follow.2.1 40 = .ok (.istore 9, 2) := by decide +kernel
theorem dX2_follow_42 : decode mX2_follow.2.1 42 = .ok (.aload_n 1, 1) := by decide +kernel
theorem dX2_follow_43 : decode mX2_follow.2.1 43 = .ok (.getfield 44, 3) := by decide +kernel
theorem dX2_follow_46 : decode mX2_follow.2.1 46 = .ok (.iload 7, 2) := by decide +kernel
theorem dX2_follow_48 : decode mX2_follow.2.1 48 = .ok (.invokestatic 37, 3) := by decide +kernel
theorem dX2_follow_51 : decode mX2_follow.2.1 51 = .ok (.istore 10, 2) := by decide +kernel
theorem dX2_follow_53 : decode mX2_follow.2.1 53 = .ok (.iconst 3, 1) := by decide +kernel
theorem dX2_follow_54 : decode mX2_follow.2.1 54 = .ok (.iload 7, 2) := by decide +kernel
theorem dX2_follow_56 : decode mX2_follow.2.1 56 = .ok (.imul, 1) := by decide +kernel
theorem dX2_follow_57 : decode mX2_follow.2.1 57 = .ok (.aload_n 3, 1) := by decide +kernel
theorem dX2_follow_58 : decode mX2_follow.2.1 58 = .ok (.iload 4, 2) := by decide +kernel
theorem dX2_follow_60 : decode mX2_follow.2.1 60 = .ok (.iload 9, 2) := by decide +kernel
theorem dX2_follow_62 : decode mX2_follow.2.1 62 = .ok (.iload 10, 2) := by decide +kernel
theorem dX2_follow_64 : decode mX2_follow.2.1 64 = .ok (.invokevirtual 47, 3) := by decide +kernel
theorem dX2_follow_67 : decode mX2_follow.2.1 67 = .ok (.iadd, 1) := by decide +kernel
theorem dX2_follow_68 : decode mX2_follow.2.1 68 = .ok (.istore 6, 2) := by decide +kernel
theorem dX2_follow_70 : decode mX2_follow.2.1 70 = .ok (.aload_n 1, 1) := by decide +kernel
theorem dX2_follow_71 : decode mX2_follow.2.1 71 = .ok (.getfield 53, 3) := by decide +kernel
theorem dX2_follow_74 : decode mX2_follow.2.1 74 = .ok (.iload 6, 2) := by decide +kernel
theorem dX2_follow_76 : decode mX2_follow.2.1 76 = .ok (.invokestatic 37, 3) := by decide +kernel
theorem dX2_follow_79 : decode mX2_follow.2.1 79 = .ok (.istore 7, 2) := by decide +kernel
theorem dX2_follow_81 : decode mX2_follow.2.1 81 = .ok (.iinc 8 1, 3) := by decide +kernel
theorem dX2_follow_84 : decode mX2_follow.2.1 84 = .ok (.goto (-66), 3) := by decide +kernel
theorem dX2_follow_87 : decode mX2_follow.2.1 87 = .ok (.aload_n 0, 1) := by decide +kernel
theorem dX2_follow_88 : decode mX2_follow.2.1 88 = .ok (.aload_n 0, 1) := by decide +kernel
theorem dX2_follow_89 : decode mX2_follow.2.1 89 = .ok (.getfield 27, 3) := by decide +kernel
theorem dX2_follow_92 : decode mX2_follow.2.1 92 = .ok (.iload 8, 2) := by decide +kernel
theorem dX2_follow_94 : decode mX2_follow.2.1 94 = .ok (.invokestatic 56, 3) := by decide +kernel
theorem dX2_follow_97 : decode mX2_follow.2.1 97 = .ok (.putfield 27, 3) := by decide +kernel
theorem dX2_follow_100 : decode mX2_follow.2.1 100 = .ok (.aload_n 0, 1) := by decide +kernel
theorem dX2_follow_101 : decode mX2_follow.2.1 101 = .ok (.dup, 1) := by decide +kernel
theorem dX2_follow_102 : decode mX2_follow.2.1 102 = .ok (.getfield 31, 3) := by decide +kernel
theorem dX2_follow_105 : decode mX2_follow.2.1 105 = .ok (.iload 8, 2) := by decide +kernel
theorem dX2_follow_107 : decode mX2_follow.2.1 107 = .ok (.iadd, 1) := by decide +kernel
theorem dX2_follow_108 : decode mX2_follow.2.1 108 = .ok (.putfield 31, 3) := by decide +kernel
theorem dX2_follow_111 : decode mX2_follow.2.1 111 = .ok (.aload_n 0, 1) := by decide +kernel
theorem dX2_follow_112 : decode mX2_follow.2.1 112 = .ok (.iload 6, 2) := by decide +kernel
theorem dX2_follow_114 : decode mX2_follow.2.1 114 = .ok (.iload 5, 2) := by decide +kernel
theorem dX2_follow_116 : decode mX2_follow.2.1 116 = .ok (.invokevirtual 62, 3) := by decide +kernel
theorem dX2_follow_119 : decode mX2_follow.2.1 119 = .ok (.return_, 1) := by decide +kernel
theorem dX2_comeTo_0 : decode mX2_comeTo.2.1 0 = .ok (.aload_n 0, 1) := by decide +kernel
theorem dX2_comeTo_1 : decode mX2_comeTo.2.1 1 = .ok (.getfield 11, 3) := by decide +kernel
theorem dX2_comeTo_4 : decode mX2_comeTo.2.1 4 = .ok (.iload_n 1, 1) := by decide +kernel
theorem dX2_comeTo_5 : decode mX2_comeTo.2.1 5 = .ok (.invokestatic 37, 3) := by decide +kernel
theorem dX2_comeTo_8 : decode mX2_comeTo.2.1 8 = .ok (.ifCond .ne 15, 3) := by decide +kernel
theorem dX2_comeTo_11 : decode mX2_comeTo.2.1 11 = .ok (.aload_n 0, 1) := by decide +kernel
theorem dX2_comeTo_12 : decode mX2_comeTo.2.1 12 = .ok (.getfield 15, 3) := by decide +kernel
theorem dX2_comeTo_15 : decode mX2_comeTo.2.1 15 = .ok (.iload_n 1, 1) := by decide +kernel
theorem dX2_comeTo_16 : decode mX2_comeTo.2.1 16 = .ok (.iload_n 2, 1) := by decide +kernel
theorem dX2_comeTo_17 : decode mX2_comeTo.2.1 17 = .ok (.invokestatic 66, 3) := by decide +kernel
theorem dX2_comeTo_20 : decode mX2_comeTo.2.1 20 = .ok (.goto 24, 3) := by decide +kernel
theorem dX2_comeTo_23 : decode mX2_comeTo.2.1 23 = .ok (.aload_n 0, 1) := by decide +kernel
theorem dX2_comeTo_24 : decode mX2_comeTo.2.1 24 = .ok (.getfield 15, 3) := by decide +kernel
theorem dX2_comeTo_27 : decode mX2_comeTo.2.1 27 = .ok (.iload_n 1, 1) := by decide +kernel
theorem dX2_comeTo_28 : decode mX2_comeTo.2.1 28 = .ok (.invokestatic 37, 3) := by decide +kernel
theorem dX2_comeTo_31 : decode mX2_comeTo.2.1 31 = .ok (.iload_n 2, 1) := by decide +kernel
theorem dX2_comeTo_32 : decode mX2_comeTo.2.1 32 = .ok (.if_icmp .eq 12, 3) := by decide +kernel
theorem dX2_comeTo_35 : decode mX2_comeTo.2.1 35 = .ok (.aload_n 0, 1) := by decide +kernel
theorem dX2_comeTo_36 : decode mX2_comeTo.2.1 36 = .ok (.getfield 18, 3) := by decide +kernel
theorem dX2_comeTo_39 : decode mX2_comeTo.2.1 39 = .ok (.iload_n 1, 1) := by decide +kernel
theorem dX2_comeTo_40 : decode mX2_comeTo.2.1 40 = .ok (.iconst 1, 1) := by decide +kernel
theorem dX2_comeTo_41 : decode mX2_comeTo.2.1 41 = .ok (.invokestatic 66, 3) := by decide +kernel
theorem dX2_comeTo_44 : decode mX2_comeTo.2.1 44 = .ok (.aload_n 0, 1) := by decide +kernel
theorem dX2_comeTo_45 : decode mX2_comeTo.2.1 45 = .ok (.getfield 11, 3) := by decide +kernel
theorem dX2_comeTo_48 : decode mX2_comeTo.2.1 48 = .ok (.iload_n 1, 1) := by decide +kernel
theorem dX2_comeTo_49 : decode mX2_comeTo.2.1 49 = .ok (.iconst 1, 1) := by decide +kernel
theorem dX2_comeTo_50 : decode mX2_comeTo.2.1 50 = .ok (.invokestatic 70, 3) := by decide +kernel
theorem dX2_comeTo_53 : decode mX2_comeTo.2.1 53 = .ok (.return_, 1) := by decide +kernel
theorem dX2_unknown_0 : decode mX2_unknown.2.1 0 = .ok (.iconst 0, 1) := by decide +kernel
theorem dX2_unknown_1 : decode mX2_unknown.2.1 1 = .ok (.istore_n 1, 1) := by decide +kernel
theorem dX2_unknown_2 : decode mX2_unknown.2.1 2 = .ok (.iconst 0, 1) := by decide +kernel
theorem dX2_unknown_3 : decode mX2_unknown.2.1 3 = .ok (.istore_n 2, 1) := by decide +kernel
theorem dX2_unknown_4 : decode mX2_unknown.2.1 4 = .ok (.iload_n 2, 1) := by decide +kernel
theorem dX2_unknown_5 : decode mX2_unknown.2.1 5 = .ok (.aload_n 0, 1) := by decide +kernel
theorem dX2_unknown_6 : decode mX2_unknown.2.1 6 = .ok (.getfield 11, 3) := by decide +kernel
theorem dX2_unknown_9 : decode mX2_unknown.2.1 9 = .ok (.arraylength, 1) := by decide +kernel
theorem dX2_unknown_10 : decode mX2_unknown.2.1 10 = .ok (.if_icmp .ge 33, 3) := by decide +kernel
theorem dX2_unknown_13 : decode mX2_unknown.2.1 13 = .ok (.iload_n 1, 1) := by decide +kernel
theorem dX2_unknown_14 : decode mX2_unknown.2.1 14 = .ok (.aload_n 0, 1) := by decide +kernel
theorem dX2_unknown_15 : decode mX2_unknown.2.1 15 = .ok (.getfield 18, 3) := by decide +kernel
theorem dX2_unknown_18 : decode mX2_unknown.2.1 18 = .ok (.iload_n 2, 1) := by decide +kernel
theorem dX2_unknown_19 : decode mX2_unknown.2.1 19 = .ok (.invokestatic 37, 3) := by decide +kernel
theorem dX2_unknown_22 : decode mX2_unknown.2.1 22 = .ok (.ifCond .eq 12, 3) := by decide +kernel
theorem dX2_unknown_25 : decode mX2_unknown.2.1 25 = .ok (.aload_n 0, 1) := by decide +kernel
theorem dX2_unknown_26 : decode mX2_unknown.2.1 26 = .ok (.getfield 11, 3) := by decide +kernel
theorem dX2_unknown_29 : decode mX2_unknown.2.1 29 = .ok (.iload_n 2, 1) := by decide +kernel
theorem dX2_unknown_30 : decode mX2_unknown.2.1 30 = .ok (.iaload, 1) := by decide +kernel
theorem dX2_unknown_31 : decode mX2_unknown.2.1 31 = .ok (.goto 4, 3) := by decide +kernel
theorem dX2_unknown_34 : decode mX2_unknown.2.1 34 = .ok (.iconst 0, 1) := by decide +kernel
theorem dX2_unknown_35 : decode mX2_unknown.2.1 35 = .ok (.iadd, 1) := by decide +kernel
theorem dX2_unknown_36 : decode mX2_unknown.2.1 36 = .ok (.istore_n 1, 1) := by decide +kernel
theorem dX2_unknown_37 : decode mX2_unknown.2.1 37 = .ok (.iinc 2 1, 3) := by decide +kernel
theorem dX2_unknown_40 : decode mX2_unknown.2.1 40 = .ok (.goto (-36), 3) := by decide +kernel
theorem dX2_unknown_43 : decode mX2_unknown.2.1 43 = .ok (.iload_n 1, 1) := by decide +kernel
theorem dX2_unknown_44 : decode mX2_unknown.2.1 44 = .ok (.ireturn, 1) := by decide +kernel
theorem bX2_begin_0 {d : Nat} {g : xSt} {r : Option Value × xSt} {g5 g13 : xSt} (W : xWf g) (hk5 : xCallM d mX7_fill [.ref 95, .int 0] g = some (none, g5)) (W5 : xWf g5) (hk13 : xCallM d mX7_fill [.ref 97, .int 0] g5 = some (none, g13)) (W13 : xWf g13) (k : r = (none, xWI (xWI g13 94 3 0) 94 4 0)) : xX (d + 1) mX2_begin 0 [some (.ref 94)] [] g = some r :=
  Y_aload_n dX2_begin_0 rfl <| Y_getR dX2_begin_1 f_2_11 (by rw [ft_2_0]; rfl) (xis W 94 2 s_94 (Nat.le_of_ble_eq_true rfl)) (xptr W 94 0 p_94_0) <| Y_iconst 0 dX2_begin_4 ic_0 <| Y_callS0 dX2_begin_5 cl_2_21 rfl rfl rfl rfl rfl (hk5) <| Y_aload_n dX2_begin_8 rfl <| Y_getR dX2_begin_9 f_2_18 (by rw [ft_2_2]; rfl) (xis W5 94 2 s_94 (Nat.le_of_ble_eq_true rfl)) (xptr W5 94 2 p_94_2) <| Y_iconst 0 dX2_begin_12 ic_0 <| Y_callS0 dX2_begin_13 cl_2_21 rfl rfl rfl rfl rfl (hk13) <| Y_aload_n dX2_begin_16 rfl <| Y_iconst 0 dX2_begin_17 ic_0 <| Y_putI dX2_begin_18 f_2_27 fn_2_3 ft_2_3 (xis W13 94 2 s_94 (Nat.le_of_ble_eq_true rfl)) <| Y_aload_n dX2_begin_21 rfl <| Y_iconst 0 dX2_begin_22 ic_0 <| Y_putI dX2_begin_23 f_2_31 fn_2_4 ft_2_4 (xis W13 94 2 s_94 (Nat.le_of_ble_eq_true rfl)) <| Y_ret dX2_begin_26 rfl k
theorem bX2_follow_0 {d : Nat} {g : xSt} {r : Option Value × xSt} {a2 a4 a5 : Int32} {t : Nat} (W : xWf g) (ht : xTw t) (k : xX (d + 1) mX2_follow 18 [some (.ref 94), some (.ref t), none, some (.ref 69), some (.int a4), some (.int a5), some (.int 180), some (.int (xat (xI g (t + 5)) 3 a2)), some (.int 0), none, none] [] g = some r) : xX (d + 1) mX2_follow 0 [some (.ref 94), some (.ref t), some (.int a2), some (.ref 69), some (.int a4), some (.int a5), none, none, none, none, none] [] g = some r :=
  Y_sipush 180 dX2_follow_0 sp_180 <| Y_istore dX2_follow_3 rfl rfl <| Y_aload_n dX2_follow_5 rfl <| Y_getR dX2_follow_6 f_2_34 (by rw [ft_9_10]; rfl) (xisS W ht) (xptrS W ht 10 rfl) <| Y_iload_n dX2_follow_9 rfl <| Y_callS1 dX2_follow_10 cl_2_37 rfl rfl rfl rfl rfl (c_at (xarrS W ht 5 rfl)) <| Y_istore dX2_follow_13 rfl rfl <| Y_iconst 0 dX2_follow_15 ic_0 <| Y_istore dX2_follow_16 rfl rfl <| X_le (xle_s (xle_s (xle_n (xle_s (xle_s (xle_s (xle_s (xle_s (xle_s (xle_n (xle_n xle_0))))))))))) k
theorem bX2_follow_18 {d : Nat} {g : xSt} {r : Option Value × xSt} {a4 a5 a6 a7 a8 : Int32} {t : Nat} (ht : xTw t) (k1 : a7 = (-1) → xX (d + 1) mX2_follow 87 [some (.ref 94), none, none, none, none, some (.int a5), some (.int a6), none, some (.int a8), none, none] [] g = some r) (k2 : ¬ (a7 = (-1)) → xX (d + 1) mX2_follow 24 [some (.ref 94), some (.ref t), none, some (.ref 69), some (.int a4), some (.int a5), some (.int a6), some (.int a7), some (.int a8), none, none] [] g = some r) : xX (d + 1) mX2_follow 18 [some (.ref 94), some (.ref t), none, some (.ref 69), some (.int a4), some (.int a5), some (.int a6), some (.int a7), some (.int a8), none, none] [] g = some r :=
  Y_iload dX2_follow_18 rfl <| Y_iconst (-1) dX2_follow_20 ic_m1 <| Y_eq 87 dX2_follow_21 rfl (fun q => X_le (xle_s (xle_n (xle_n (xle_n (xle_n (xle_s (xle_s (xle_n (xle_s (xle_n (xle_n xle_0))))))))))) (k1 q)) (fun q => X_le (xle_s (xle_s (xle_n (xle_s (xle_s (xle_s (xle_s (xle_s (xle_s (xle_n (xle_n xle_0))))))))))) (k2 q))
theorem bX2_follow_24 {d : Nat} {g : xSt} {r : Option Value × xSt} {a4 a5 a6 a7 a8 : Int32} {t : Nat} (ht : xTw t) (k1 : 60 < a8 → xX (d + 1) mX2_follow 87 [some (.ref 94), none, none, none, none, some (.int a5), some (.int a6), none, some (.int a8), none, none] [] g = some r) (k2 : ¬ (60 < a8) → xX (d + 1) mX2_follow 31 [some (.ref 94), some (.ref t), none, some (.ref 69), some (.int a4), some (.int a5), none, some (.int a7), some (.int a8), none, none] [] g = some r) : xX (d + 1) mX2_follow 24 [some (.ref 94), some (.ref t), none, some (.ref 69), some (.int a4), some (.int a5), some (.int a6), some (.int a7), some (.int a8), none, none] [] g = some r :=
  Y_iload dX2_follow_24 rfl <| Y_bipush 60 dX2_follow_26 bp_60 <| Y_gt 87 dX2_follow_28 rfl (fun q => X_le (xle_s (xle_n (xle_n (xle_n (xle_n (xle_s (xle_s (xle_n (xle_s (xle_n (xle_n xle_0))))))))))) (k1 q)) (fun q => X_le (xle_s (xle_s (xle_n (xle_s (xle_s (xle_s (xle_n (xle_s (xle_s (xle_n (xle_n xle_0))))))))))) (k2 q))
theorem bX2_follow_31 {d : Nat} {g : xSt} {r : Option Value × xSt} {a4 a5 a7 a8 r64 : Int32} {g64 : xSt} {t : Nat} (W : xWf g) (ht : xTw t) (hk64 : xCallM d mX5_saidBy [.ref 69, .int a4, .int (xat (xI g (t + 6)) 60 a7), .int (xat (xI g (t + 7)) 60 a7)] g = some (some (.int r64), g64)) (W64 : xWf g64) (k : xX (d + 1) mX2_follow 18 [some (.ref 94), some (.ref t), none, some (.ref 69), some (.int a4), some (.int a5), some (.int ((3 * a7) + r64)), some (.int (xat (xI g64 (t + 8)) 180 ((3 * a7) + r64))), some (.int (a8 + 1)), none, none] [] g64 = some r) : xX (d + 1) mX2_follow 31 [some (.ref 94), some (.ref t), none, some (.ref 69), some (.int a4), some (.int a5), none, some (.int a7), some (.int a8), none, none] [] g = some r :=
  Y_aload_n dX2_follow_31 rfl <| Y_getR dX2_follow_32 f_2_41 (by rw [ft_9_12]; rfl) (xisS W ht) (xptrS W ht 12 rfl) <| Y_iload dX2_follow_35 rfl <| Y_callS1 dX2_follow_37 cl_2_37 rfl rfl rfl rfl rfl (c_at (xarrS W ht 6 rfl)) <| Y_istore dX2_follow_40 rfl rfl <| Y_aload_n dX2_follow_42 rfl <| Y_getR dX2_follow_43 f_2_44 (by rw [ft_9_13]; rfl) (xisS W ht) (xptrS W ht 13 rfl) <| Y_iload dX2_follow_46 rfl <| Y_callS1 dX2_follow_48 cl_2_37 rfl rfl rfl rfl rfl (c_at (xarrS W ht 7 rfl)) <| Y_istore dX2_follow_51 rfl rfl <| Y_iconst 3 dX2_follow_53 ic_3 <| Y_iload dX2_follow_54 rfl <| Y_imul dX2_follow_56 <| Y_aload_n dX2_follow_57 rfl <| Y_iload dX2_follow_58 rfl <| Y_iload dX2_follow_60 rfl <| Y_iload dX2_follow_62 rfl <| Y_callV1 dX2_follow_64 cl_2_47 rfl rfl (xis W 69 5 s_69 (Nat.le_of_ble_eq_true rfl)) rfl rfl rfl (hk64) <| Y_iadd dX2_follow_67 <| Y_istore dX2_follow_68 rfl rfl <| Y_aload_n dX2_follow_70 rfl <| Y_getR dX2_follow_71 f_2_53 (by rw [ft_9_14]; rfl) (xisS W64 ht) (xptrS W64 ht 14 rfl) <| Y_iload dX2_follow_74 rfl <| Y_callS1 dX2_follow_76 cl_2_37 rfl rfl rfl rfl rfl (c_at (xarrS W64 ht 8 rfl)) <| Y_istore dX2_follow_79 rfl rfl <| Y_iinc 1 dX2_follow_81 rfl ic_1 rfl rfl <| Y_goto 18 dX2_follow_84 rfl <| X_le (xle_s (xle_s (xle_n (xle_s (xle_s (xle_s (xle_s (xle_s (xle_s (xle_n (xle_n xle_0))))))))))) k
theorem bX2_follow_87 {d : Nat} {g : xSt} {r : Option Value × xSt} {a5 a6 a8 : Int32} {g116 : xSt} (W : xWf g) (hk116 : xCallM d mX2_comeTo [.ref 94, .int a6, .int a5] (xWI (xWI g 94 3 (imax (xI g 94 3) a8)) 94 4 ((xI g 94 4) + a8)) = some (none, g116)) (W116 : xWf g116) (k : r = (none, g116)) : xX (d + 1) mX2_follow 87 [some (.ref 94), none, none, none, none, some (.int a5), some (.int a6), none, some (.int a8), none, none] [] g = some r :=
  Y_aload_n dX2_follow_87 rfl <| Y_aload_n dX2_follow_88 rfl <| Y_getI dX2_follow_89 f_2_27 ft_2_3 (xis W 94 2 s_94 (Nat.le_of_ble_eq_true rfl)) <| Y_iload dX2_follow_92 rfl <| Y_max dX2_follow_94 km_2_56 kn_2_56 rfl <| Y_putI dX2_follow_97 f_2_27 fn_2_3 ft_2_3 (xis W 94 2 s_94 (Nat.le_of_ble_eq_true rfl)) <| Y_aload_n dX2_follow_100 rfl <| Y_dup dX2_follow_101 rfl <| Y_getI dX2_follow_102 f_2_31 ft_2_4 (xis W 94 2 s_94 (Nat.le_of_ble_eq_true rfl)) <| Y_iload dX2_follow_105 rfl <| Y_iadd dX2_follow_107 <| Y_putI dX2_follow_108 f_2_31 fn_2_4 ft_2_4 (xis W 94 2 s_94 (Nat.le_of_ble_eq_true rfl)) <| Y_aload_n dX2_follow_111 rfl <| Y_iload dX2_follow_112 rfl <| Y_iload dX2_follow_114 rfl <| Y_callV0 dX2_follow_116 cl_2_62 rfl rfl (xis W 94 2 s_94 (Nat.le_of_ble_eq_true rfl)) rfl rfl rfl (hk116) <| Y_ret dX2_follow_119 rfl k
theorem bX2_comeTo_0 {d : Nat} {g : xSt} {r : Option Value × xSt} {a1 a2 : Int32} (W : xWf g) (k1 : (xat (xI g 95) 181 a1) = 0 → xX (d + 1) mX2_comeTo 11 [some (.ref 94), some (.int a1), some (.int a2)] [] g = some r) (k2 : ¬ ((xat (xI g 95) 181 a1) = 0) → xX (d + 1) mX2_comeTo 23 [some (.ref 94), some (.int a1), some (.int a2)] [] g = some r) : xX (d + 1) mX2_comeTo 0 [some (.ref 94), some (.int a1), some (.int a2)] [] g = some r :=
  Y_aload_n dX2_comeTo_0 rfl <| Y_getR dX2_comeTo_1 f_2_11 (by rw [ft_2_0]; rfl) (xis W 94 2 s_94 (Nat.le_of_ble_eq_true rfl)) (xptr W 94 0 p_94_0) <| Y_iload_n dX2_comeTo_4 rfl <| Y_callS1 dX2_comeTo_5 cl_2_37 rfl rfl rfl rfl rfl (c_at (xarr W (o := 95) s_95 (Nat.le_of_ble_eq_true rfl))) <| Y_ne0 23 dX2_comeTo_8 rfl (fun q => X_le (xle_s (xle_s (xle_s xle_0))) (k1 q)) (fun q => X_le (xle_s (xle_s (xle_s xle_0))) (k2 q))
theorem bX2_comeTo_11 {d : Nat} {g : xSt} {r : Option Value × xSt} {a1 a2 : Int32} (W : xWf g) (k : xX (d + 1) mX2_comeTo 44 [some (.ref 94), some (.int a1), none] [] (xput g 96 181 a1 a2) = some r) : xX (d + 1) mX2_comeTo 11 [some (.ref 94), some (.int a1), some (.int a2)] [] g = some r :=
  Y_aload_n dX2_comeTo_11 rfl <| Y_getR dX2_comeTo_12 f_2_15 (by rw [ft_2_1]; rfl) (xis W 94 2 s_94 (Nat.le_of_ble_eq_true rfl)) (xptr W 94 1 p_94_1) <| Y_iload_n dX2_comeTo_15 rfl <| Y_iload_n dX2_comeTo_16 rfl <| Y_callS0 dX2_comeTo_17 cl_2_66 rfl rfl rfl rfl rfl (c_put (xarr W (o := 96) s_96 (Nat.le_of_ble_eq_true rfl))) <| Y_goto 44 dX2_comeTo_20 rfl <| X_le (xle_s (xle_s (xle_n xle_0))) k
theorem bX2_comeTo_23 {d : Nat} {g : xSt} {r : Option Value × xSt} {a1 a2 : Int32} (W : xWf g) (k1 : (xat (xI g 96) 181 a1) = a2 → xX (d + 1) mX2_comeTo 44 [some (.ref 94), some (.int a1), none] [] g = some r) (k2 : ¬ ((xat (xI g 96) 181 a1) = a2) → xX (d + 1) mX2_comeTo 35 [some (.ref 94), some (.int a1), none] [] g = some r) : xX (d + 1) mX2_comeTo 23 [some (.ref 94), some (.int a1), some (.int a2)] [] g = some r :=
  Y_aload_n dX2_comeTo_23 rfl <| Y_getR dX2_comeTo_24 f_2_15 (by rw [ft_2_1]; rfl) (xis W 94 2 s_94 (Nat.le_of_ble_eq_true rfl)) (xptr W 94 1 p_94_1) <| Y_iload_n dX2_comeTo_27 rfl <| Y_callS1 dX2_comeTo_28 cl_2_37 rfl rfl rfl rfl rfl (c_at (xarr W (o := 96) s_96 (Nat.le_of_ble_eq_true rfl))) <| Y_iload_n dX2_comeTo_31 rfl <| Y_eq 44 dX2_comeTo_32 rfl (fun q => X_le (xle_s (xle_s (xle_n xle_0))) (k1 q)) (fun q => X_le (xle_s (xle_s (xle_n xle_0))) (k2 q))
theorem bX2_comeTo_35 {d : Nat} {g : xSt} {r : Option Value × xSt} {a1 : Int32} (W : xWf g) (k : xX (d + 1) mX2_comeTo 44 [some (.ref 94), some (.int a1), none] [] (xput g 97 181 a1 1) = some r) : xX (d + 1) mX2_comeTo 35 [some (.ref 94), some (.int a1), none] [] g = some r :=
  Y_aload_n dX2_comeTo_35 rfl <| Y_getR dX2_comeTo_36 f_2_18 (by rw [ft_2_2]; rfl) (xis W 94 2 s_94 (Nat.le_of_ble_eq_true rfl)) (xptr W 94 2 p_94_2) <| Y_iload_n dX2_comeTo_39 rfl <| Y_iconst 1 dX2_comeTo_40 ic_1 <| Y_callS0 dX2_comeTo_41 cl_2_66 rfl rfl rfl rfl rfl (c_put (xarr W (o := 97) s_97 (Nat.le_of_ble_eq_true rfl))) <| X_le (xle_s (xle_s (xle_n xle_0))) k
theorem bX2_comeTo_44 {d : Nat} {g : xSt} {r : Option Value × xSt} {a1 : Int32} (W : xWf g) (k : r = (none, xadd g 95 181 a1 1)) : xX (d + 1) mX2_comeTo 44 [some (.ref 94), some (.int a1), none] [] g = some r :=
  Y_aload_n dX2_comeTo_44 rfl <| Y_getR dX2_comeTo_45 f_2_11 (by rw [ft_2_0]; rfl) (xis W 94 2 s_94 (Nat.le_of_ble_eq_true rfl)) (xptr W 94 0 p_94_0) <| Y_iload_n dX2_comeTo_48 rfl <| Y_iconst 1 dX2_comeTo_49 ic_1 <| Y_callS0 dX2_comeTo_50 cl_2_70 rfl rfl rfl rfl rfl (c_add (xarr W (o := 95) s_95 (Nat.le_of_ble_eq_true rfl))) <| Y_ret dX2_comeTo_53 rfl k
theorem bX2_unknown_0 {d : Nat} {g : xSt} {r : Option Value × xSt}  (k : xX (d + 1) mX2_unknown 4 [some (.ref 94), some (.int 0), some (.int 0)] [] g = some r) : xX (d + 1) mX2_unknown 0 [some (.ref 94), none, none] [] g = some r :=
  Y_iconst 0 dX2_unknown_0 ic_0 <| Y_istore_n dX2_unknown_1 rfl rfl <| Y_iconst 0 dX2_unknown_2 ic_0 <| Y_istore_n dX2_unknown_3 rfl rfl <| X_le (xle_s (xle_s (xle_s xle_0))) k
theorem bX2_unknown_4 {d : Nat} {g : xSt} {r : Option Value × xSt} {a1 a2 : Int32} (W : xWf g) (k1 : 181 ≤ a2 → xX (d + 1) mX2_unknown 43 [none, some (.int a1), none] [] g = some r) (k2 : ¬ (181 ≤ a2) → xX (d + 1) mX2_unknown 13 [some (.ref 94), some (.int a1), some (.int a2)] [] g = some r) : xX (d + 1) mX2_unknown 4 [some (.ref 94), some (.int a1), some (.int a2)] [] g = some r :=
  Y_iload_n dX2_unknown_4 rfl <| Y_aload_n dX2_unknown_5 rfl <| Y_getR dX2_unknown_6 f_2_11 (by rw [ft_2_0]; rfl) (xis W 94 2 s_94 (Nat.le_of_ble_eq_true rfl)) (xptr W 94 0 p_94_0) <| Y_alen 181 dX2_unknown_9 (xarr W (o := 95) s_95 (Nat.le_of_ble_eq_true rfl)) on_181 rfl <| Y_ge 43 dX2_unknown_10 rfl (fun q => X_le (xle_n (xle_s (xle_n xle_0))) (k1 q)) (fun q => X_le (xle_s (xle_s (xle_s xle_0))) (k2 q))
theorem bX2_unknown_13 {d : Nat} {g : xSt} {r : Option Value × xSt} {a1 a2 : Int32} (W : xWf g) (k1 : (xat (xI g 97) 181 a2) = 0 → xX (d + 1) mX2_unknown 34 [some (.ref 94), none, some (.int a2)] [.int a1] g = some r) (k2 : ¬ ((xat (xI g 97) 181 a2) = 0) → xX (d + 1) mX2_unknown 25 [some (.ref 94), none, some (.int a2)] [.int a1] g = some r) : xX (d + 1) mX2_unknown 13 [some (.ref 94), some (.int a1), some (.int a2)] [] g = some r :=
  Y_iload_n dX2_unknown_13 rfl <| Y_aload_n dX2_unknown_14 rfl <| Y_getR dX2_unknown_15 f_2_18 (by rw [ft_2_2]; rfl) (xis W 94 2 s_94 (Nat.le_of_ble_eq_true rfl)) (xptr W 94 2 p_94_2) <| Y_iload_n dX2_unknown_18 rfl <| Y_callS1 dX2_unknown_19 cl_2_37 rfl rfl rfl rfl rfl (c_at (xarr W (o := 97) s_97 (Nat.le_of_ble_eq_true rfl))) <| Y_eq0 34 dX2_unknown_22 rfl (fun q => X_le (xle_s (xle_n (xle_s xle_0))) (k1 q)) (fun q => X_le (xle_s (xle_n (xle_s xle_0))) (k2 q))
theorem bX2_unknown_25 {d : Nat} {g : xSt} {r : Option Value × xSt} {a2 s0 : Int32} (W : xWf g) (hi30 : vp_in a2 181) (k : xX (d + 1) mX2_unknown 35 [some (.ref 94), none, some (.int a2)] [.int (xI g 95 a2.toNatClampNeg), .int s0] g = some r) : xX (d + 1) mX2_unknown 25 [some (.ref 94), none, some (.int a2)] [.int s0] g = some r :=
  Y_aload_n dX2_unknown_25 rfl <| Y_getR dX2_unknown_26 f_2_11 (by rw [ft_2_0]; rfl) (xis W 94 2 s_94 (Nat.le_of_ble_eq_true rfl)) (xptr W 94 0 p_94_0) <| Y_iload_n dX2_unknown_29 rfl <| Y_iald dX2_unknown_30 (xarr W (o := 95) s_95 (Nat.le_of_ble_eq_true rfl)) hi30 <| Y_goto 35 dX2_unknown_31 rfl <| X_le (xle_s (xle_n (xle_s xle_0))) k
theorem bX2_unknown_34 {d : Nat} {g : xSt} {r : Option Value × xSt} {a2 s0 : Int32} (k : xX (d + 1) mX2_unknown 35 [some (.ref 94), none, some (.int a2)] [.int 0, .int s0] g = some r) : xX (d + 1) mX2_unknown 34 [some (.ref 94), none, some (.int a2)] [.int s0] g = some r :=
  Y_iconst 0 dX2_unknown_34 ic_0 <| X_le (xle_s (xle_n (xle_s xle_0))) k
theorem bX2_unknown_35 {d : Nat} {g : xSt} {r : Option Value × xSt} {a2 s1 s0 : Int32} (k : xX (d + 1) mX2_unknown 4 [some (.ref 94), some (.int (s1 + s0)), some (.int (a2 + 1))] [] g = some r) : xX (d + 1) mX2_unknown 35 [some (.ref 94), none, some (.int a2)] [.int s0, .int s1] g = some r :=
  Y_iadd dX2_unknown_35 <| Y_istore_n dX2_unknown_36 rfl rfl <| Y_iinc 1 dX2_unknown_37 rfl ic_1 rfl rfl <| Y_goto 4 dX2_unknown_40 rfl <| X_le (xle_s (xle_s (xle_s xle_0))) k
theorem bX2_unknown_43 {d : Nat} {g : xSt} {r : Option Value × xSt} {a1 : Int32} (k : r = (some (.int a1), g)) : xX (d + 1) mX2_unknown 43 [none, some (.int a1), none] [] g = some r :=
  Y_iload_n dX2_unknown_43 rfl <| Y_iret dX2_unknown_44 rfl k
