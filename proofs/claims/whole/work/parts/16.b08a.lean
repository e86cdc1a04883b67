/-! stretches of HeavierRow$Shelf, by program (wip/whole/genall.py) -/
theorem dX9_empty_0 : decode mX9_empty.2.1 0 = .ok (.aload_n 0, 1) := by decide +kernel
theorem dX9_empty_1 : decode mX9_empty.2.1 1 = .ok (.iconst 0, 1) := by decide +kernel
theorem dX9_empty_2 : decode mX9_empty.2.1 2 = .ok (.putfield 13, 3) := by decide +kernel
theorem dX9_empty_5 : decode mX9_empty.2.1 5 = .ok (.return_, 1) := by decide +kernel
theorem dX9_lay_0 : decode mX9_lay.2.1 0 = .ok (.aload_n 0, 1) := by decide +kernel
theorem dX9_lay_1 : decode mX9_lay.2.1 1 = .ok (.getfield 13, 3) := by decide +kernel
theorem dX9_lay_4 : decode mX9_lay.2.1 4 = .ok (.ifCond .lt 35, 3) := by decide +kernel
theorem dX9_lay_7 : decode mX9_lay.2.1 7 = .ok (.aload_n 0, 1) := by decide +kernel
theorem dX9_lay_8 : decode mX9_lay.2.1 8 = .ok (.getfield 13, 3) := by decide +kernel
theorem dX9_lay_11 : decode mX9_lay.2.1 11 = .ok (.aload_n 0, 1) := by decide +kernel
theorem dX9_lay_12 : decode mX9_lay.2.1 12 = .ok (.getfield 7, 3) := by decide +kernel
theorem dX9_lay_15 : decode mX9_lay.2.1 15 = .ok (.arraylength, 1) := by decide +kernel
theorem dX9_lay_16 : decode mX9_lay.2.1 16 = .ok (.if_icmp .ge 23, 3) := by decide +kernel
theorem dX9_lay_19 : decode mX9_lay.2.1 19 = .ok (.aload_n 0, 1) := by decide +kernel
theorem dX9_lay_20 : decode mX9_lay.2.1 20 = .ok (.getfield 7, 3) := by decide +kernel
theorem dX9_lay_23 : decode mX9_lay.2.1 23 = .ok (.aload_n 0, 1) := by decide +kernel
theorem dX9_lay_24 : decode mX9_lay.2.1 24 = .ok (.getfield 13, 3) := by decide +kernel
theorem dX9_lay_27 : decode mX9_lay.2.1 27 = .ok (.iload_n 1, 1) := by decide +kernel
theorem dX9_lay_28 : decode mX9_lay.2.1 28 = .ok (.iastore, 1) := by decide +kernel
theorem dX9_lay_29 : decode mX9_lay.2.1 29 = .ok (.aload_n 0, 1) := by decide +kernel
theorem dX9_lay_30 : decode mX9_lay.2.1 30 = .ok (.dup, 1) := by decide +kernel
theorem dX9_lay_31 : decode mX9_lay.2.1 31 = .ok (.getfield 13, 3) := by decide +kernel
theorem dX9_lay_34 : decode mX9_lay.2.1 34 = .ok (.iconst 1, 1) := by decide +kernel
theorem dX9_lay_35 : decode mX9_lay.2.1 35 = .ok (.iadd, 1) := by decide +kernel
theorem dX9_lay_36 : decode mX9_lay.2.1 36 = .ok (.putfield 13, 3) := by decide +kernel
theorem dX9_lay_39 : decode mX9_lay.2.1 39 = .ok (.return_, 1) := by decide +kernel
theorem dX9_layStones_0 : decode mX9_layStones.2.1 0 = .ok (.iload_n 2, 1) := by decide +kernel
theorem dX9_layStones_1 : decode mX9_layStones.2.1 1 = .ok (.ifCond .eq 7, 3) := by decide +kernel
theorem dX9_layStones_4 : decode mX9_layStones.2.1 4 = .ok (.iconst 3, 1) := by decide +kernel
theorem dX9_layStones_5 : decode mX9_layStones.2.1 5 = .ok (.goto 4, 3) := by decide +kernel
theorem dX9_layStones_8 : decode mX9_layStones.2.1 8 = .ok (.iconst 2, 1) := by decide +kernel
theorem dX9_layStones_9 : decode mX9_layStones.2.1 9 = .ok (.istore_n 3, 1) := by decide +kernel
theorem dX9_layStones_10 : decode mX9_layStones.2.1 10 = .ok (.iload_n 2, 1) := by decide +kernel
theorem dX9_layStones_11 : decode mX9_layStones.2.1 11 = .ok (.ifCond .eq 7, 3) := by decide +kernel
theorem dX9_layStones_14 : decode mX9_layStones.2.1 14 = .ok (.iconst 2, 1) := by decide +kernel
theorem dX9_layStones_15 : decode mX9_layStones.2.1 15 = .ok (.goto 4, 3) := by decide +kernel
theorem dX9_layStones_18 : decode mX9_layStones.2.1 18 = .ok (.iconst 1, 1) := by decide +kernel
theorem dX9_layStones_19 : decode mX9_layStones.2.1 19 = .ok (.istore 4, 2) := by decide +kernel
theorem dX9_layStones_21 : decode mX9_layStones.2.1 21 = .ok (.iload_n 2, 1) := by decide +kernel
theorem dX9_layStones_22 : decode mX9_layStones.2.1 22 = .ok (.ifCond .eq 11, 3) := by decide +kernel
theorem dX9_layStones_25 : decode mX9_layStones.2.1 25 = .ok (.iconst 2, 1) := by decide +kernel
theorem dX9_layStones_26 : decode mX9_layStones.2.1 26 = .ok (.iload_n 1, 1) := by decide +kernel
theorem dX9_layStones_27 : decode mX9_layStones.2.1 27 = .ok (.imul, 1) := by decide +kernel
theorem dX9_layStones_28 : decode mX9_layStones.2.1 28 = .ok (.iconst 1, 1) := by decide +kernel
theorem dX9_layStones_29 : decode mX9_layStones.2.1 29 = .ok (.iadd, 1) := by decide +kernel
theorem dX9_layStones_30 : decode mX9_layStones.2.1 30 = .ok (.goto 6, 3) := by decide +kernel
theorem dX9_layStones_33 : decode mX9_layStones.2.1 33 = .ok (.iload_n 1, 1) := by decide +kernel
theorem dX9_layStones_34 : decode mX9_layStones.2.1 34 = .ok (.iconst 1, 1) := by decide +kernel
theorem dX9_layStones_35 : decode mX9_layStones.2.1 35 = .ok (.iadd, 1) := by decide +kernel
theorem dX9_layStones_36 : decode mX9_layStones.2.1 36 = .ok (.istore 5, 2) := by decide +kernel
theorem dX9_layStones_38 : decode mX9_layStones.2.1 38 = .ok (.iload 5, 2) := by decide +kernel
theorem dX9_layStones_40 : decode mX9_layStones.2.1 40 = .ok (.iload_n 3, 1) := by decide +kernel
theorem dX9_layStones_41 : decode mX9_layStones.2.1 41 = .ok (.invokestatic 17, 3) := by decide +kernel
theorem dX9_layStones_44 : decode mX9_layStones.2.1 44 = .ok (.istore 6, 2) := by decide +kernel
theorem dX9_layStones_46 : decode mX9_layStones.2.1 46 = .ok (.iconst 1, 1) := by decide +kernel
theorem dX9_layStones_47 : decode mX9_layStones.2.1 47 = .ok (.istore 7, 2) := by decide +kernel
theorem dX9_layStones_49 : decode mX9_layStones.2.1 49 = .ok (.iconst 1, 1) := by decide +kernel
theorem dX9_layStones_50 : decode mX9_layStones.2.1 50 = .ok (.istore 8, 2) := by decide +kernel
theorem dX9_layStones_52 : decode mX9_layStones.2.1 52 = .ok (.iload 6, 2) := by decide +kernel
theorem dX9_layStones_54 : decode mX9_layStones.2.1 54 = .ok (.iconst 1, 1) := by decide +kernel
theorem dX9_layStones_55 : decode mX9_layStones.2.1 55 = .ok (.isub, 1) := by decide +kernel
theorem dX9_layStones_56 : decode mX9_layStones.2.1 56 = .ok (.istore 9, 2) := by decide +kernel
theorem dX9_layStones_58 : decode mX9_layStones.2.1 58 = .ok (.iload 9, 2) := by decide +kernel
theorem dX9_layStones_60 : decode mX9_layStones.2.1 60 = .ok (.ifCond .lt 63, 3) := by decide +kernel
theorem dX9_layStones_63 : decode mX9_layStones.2.1 63 = .ok (.iload_n 3, 1) := by decide +kernel
theorem dX9_layStones_64 : decode mX9_layStones.2.1 64 = .ok (.iload 9, 2) := by decide +kernel
theorem dX9_layStones_66 : decode mX9_layStones.2.1 66 = .ok (.invokestatic 23, 3) := by decide +kernel
theorem dX9_layStones_69 : decode mX9_layStones.2.1 69 = .ok (.istore 10, 2) := by decide +kernel
theorem dX9_layStones_71 : decode mX9_layStones.2.1 71 = .ok (.iload 8, 2) := by decide +kernel
theorem dX9_layStones_73 : decode mX9_layStones.2.1 73 = .ok (.iconst 2, 1) := by decide +kernel
theorem dX9_layStones_74 : decode mX9_layStones.2.1 74 = .ok (.iload_n 1, 1) := by decide +kernel
theorem dX9_layStones_75 : decode mX9_layStones.2.1 75 = .ok (.imul, 1) := by decide +kernel
theorem dX9_layStones_76 : decode mX9_layStones.2.1 76 = .ok (.if_icmp .ge 25, 3) := by decide +kernel
theorem dX9_layStones_79 : decode mX9_layStones.2.1 79 = .ok (.iload 7, 2) := by decide +kernel
theorem dX9_layStones_81 : decode mX9_layStones.2.1 81 = .ok (.iload 4, 2) := by decide +kernel
theorem dX9_layStones_83 : decode mX9_layStones.2.1 83 = .ok (.iload 8, 2) := by decide +kernel
theorem dX9_layStones_85 : decode mX9_layStones.2.1 85 = .ok (.imul, 1) := by decide +kernel
theorem dX9_layStones_86 : decode mX9_layStones.2.1 86 = .ok (.iadd, 1) := by decide +kernel
theorem dX9_layStones_87 : decode mX9_layStones.2.1 87 = .ok (.iload 10, 2) := by decide +kernel
theorem dX9_layStones_89 : decode mX9_layStones.2.1 89 = .ok (.imul, 1) := by decide +kernel
theorem dX9_layStones_90 : decode mX9_layStones.2.1 90 = .ok (.iload 5, 2) := by decide +kernel
theorem dX9_layStones_92 : decode mX9_layStones.2.1 92 = .ok (.if_icmp .ge 9, 3) := by decide +kernel
theorem dX9_layStones_95 : decode mX9_layStones.2.1 95 = .ok (.iinc 8 1, 3) := by decide +kernel
theorem dX9_layStones_98 : decode mX9_layStones.2.1 98 = .ok (.goto (-27), 3) := by decide +kernel
theorem dX9_layStones_101 : decode mX9_layStones.2.1 101 = .ok (.aload_n 0, 1) := by decide +kernel
theorem dX9_layStones_102 : decode mX9_layStones.2.1 102 = .ok (.iload 8, 2) := by decide +kernel
theorem dX9_layStones_104 : decode mX9_layStones.2.1 104 = .ok (.invokevirtual 26, 3) := by decide +kernel
theorem dX9_layStones_107 : decode mX9_layStones.2.1 107 = .ok (.iload 7, 2) := by decide +kernel
theorem dX9_layStones_109 : decode mX9_layStones.2.1 109 = .ok (.iload 4, 2) := by decide +kernel
theorem dX9_layStones_111 : decode mX9_layStones.2.1 111 = .ok (.iload 8, 2) := by decide +kernel
theorem dX9_layStones_113 : decode mX9_layStones.2.1 113 = .ok (.imul, 1) := by decide +kernel
theorem dX9_layStones_114 : decode mX9_layStones.2.1 114 = .ok (.iadd, 1) := by decide +kernel
theorem dX9_layStones_115 : decode mX9_layStones.2.1 115 = .ok (.istore 7, 2) := by decide +kernel
theorem dX9_layStones_117 : decode mX9_layStones.2.1 117 = .ok (.iinc 9 (-1), 3) := by decide +kernel
theorem dX9_layStones_120 : decode mX9_layStones.2.1 120 = .ok (.goto (-62), 3) := by decide +kernel
theorem dX9_layStones_123 : decode mX9_layStones.2.1 123 = .ok (.return_, 1) := by decide +kernel
theorem dX9_powerOf_0 : decode mX9_powerOf.2.1 0 = .ok (.iconst 1, 1) := by decide +kernel
theorem dX9_powerOf_1 : decode mX9_powerOf.2.1 1 = .ok (.istore_n 2, 1) := by decide +kernel
theorem dX9_powerOf_2 : decode mX9_powerOf.2.1 2 = .ok (.iconst 0, 1) := by decide +kernel
theorem dX9_powerOf_3 : decode mX9_powerOf.2.1 3 = .ok (.istore_n 3, 1) := by decide +kernel
theorem dX9_powerOf_4 : decode mX9_powerOf.2.1 4 = .ok (.iload_n 3, 1) := by decide +kernel
theorem dX9_powerOf_5 : decode mX9_powerOf.2.1 5 = .ok (.iload_n 1, 1) := by decide +kernel
theorem dX9_powerOf_6 : decode mX9_powerOf.2.1 6 = .ok (.if_icmp .ge 19, 3) := by decide +kernel
theorem dX9_powerOf_9 : decode mX9_powerOf.2.1 9 = .ok (.iload_n 3, 1) := by decide +kernel
theorem dX9_powerOf_10 : decode mX9_powerOf.2.1 10 = .ok (.bipush 10, 2) := by decide +kernel
theorem dX9_powerOf_12 : decode mX9_powerOf.2.1 12 = .ok (.if_icmp .ge 13, 3) := by decide +kernel
theorem dX9_powerOf_15 : decode mX9_powerOf.2.1 15 = .ok (.iload_n 2, 1) := by decide +kernel
theorem dX9_powerOf_16 : decode mX9_powerOf.2.1 16 = .ok (.iload_n 0, 1) := by decide +kernel
theorem dX9_powerOf_17 : decode mX9_powerOf.2.1 17 = .ok (.imul, 1) := by decide +kernel
theorem dX9_powerOf_18 : decode mX9_powerOf.2.1 18 = .ok (.istore_n 2, 1) := by decide +kernel
theorem dX9_powerOf_19 : decode mX9_powerOf.2.1 19 = .ok (.iinc 3 1, 3) := by decide +kernel
theorem dX9_powerOf_22 : decode mX9_powerOf.2.1 22 = .ok (.goto (-18), 3) := by decide +kernel
theorem dX9_powerOf_25 : decode mX9_powerOf.2.1 25 = .ok (.iload_n 2, 1) := by decide +kernel
theorem dX9_powerOf_26 : decode mX9_powerOf.2.1 26 = .ok (.ireturn, 1) := by decide +kernel
theorem bX9_empty_0 {d : Nat} {g : xSt} {r : Option Value × xSt}  (W : xWf g) (k : r = (none, xWI g 111 1 0)) : xX d mX9_empty 0 [some (.ref 111)] [] g = some r :=
  Y_aload_n dX9_empty_0 rfl <| Y_iconst 0 dX9_empty_1 ic_0 <| Y_putI dX9_empty_2 f_8_13 fn_8_1 ft_8_1 (xis W 111 8 s_111 (Nat.le_of_ble_eq_true rfl)) <| Y_ret dX9_empty_5 rfl k
theorem bX9_lay_0 {d : Nat} {g : xSt} {r : Option Value × xSt} {a1 : Int32} (W : xWf g) (k1 : (xI g 111 1) < 0 → xX d mX9_lay 39 [none, none] [] g = some r) (k2 : ¬ ((xI g 111 1) < 0) → xX d mX9_lay 7 [some (.ref 111), some (.int a1)] [] g = some r) : xX d mX9_lay 0 [some (.ref 111), some (.int a1)] [] g = some r :=
  Y_aload_n dX9_lay_0 rfl <| Y_getI dX9_lay_1 f_8_13 ft_8_1 (xis W 111 8 s_111 (Nat.le_of_ble_eq_true rfl)) <| Y_lt0 39 dX9_lay_4 rfl (fun q => X_le (xle_n (xle_n xle_0)) (k1 q)) (fun q => X_le (xle_s (xle_s xle_0)) (k2 q))
theorem bX9_lay_7 {d : Nat} {g : xSt} {r : Option Value × xSt} {a1 : Int32} (W : xWf g) (k1 : 24 ≤ (xI g 111 1) → xX d mX9_lay 39 [none, none] [] g = some r) (k2 : ¬ (24 ≤ (xI g 111 1)) → xX d mX9_lay 19 [some (.ref 111), some (.int a1)] [] g = some r) : xX d mX9_lay 7 [some (.ref 111), some (.int a1)] [] g = some r :=
  Y_aload_n dX9_lay_7 rfl <| Y_getI dX9_lay_8 f_8_13 ft_8_1 (xis W 111 8 s_111 (Nat.le_of_ble_eq_true rfl)) <| Y_aload_n dX9_lay_11 rfl <| Y_getR dX9_lay_12 f_8_7 (by rw [ft_8_0]; rfl) (xis W 111 8 s_111 (Nat.le_of_ble_eq_true rfl)) (xptr W 111 0 p_111_0) <| Y_alen 24 dX9_lay_15 (xarr W (o := 112) s_112 (Nat.le_of_ble_eq_true rfl)) on_24 rfl <| Y_ge 39 dX9_lay_16 rfl (fun q => X_le (xle_n (xle_n xle_0)) (k1 q)) (fun q => X_le (xle_s (xle_s xle_0)) (k2 q))
theorem bX9_lay_19 {d : Nat} {g : xSt} {r : Option Value × xSt} {a1 : Int32} (W : xWf g) (hi28 : vp_in (xI g 111 1) 24) (k : xX d mX9_lay 39 [none, none] [] (xWI (xWI g 112 (xI g 111 1).toNatClampNeg a1) 111 1 ((xI g 111 1) + 1)) = some r) : xX d mX9_lay 19 [some (.ref 111), some (.int a1)] [] g = some r :=
  Y_aload_n dX9_lay_19 rfl <| Y_getR dX9_lay_20 f_8_7 (by rw [ft_8_0]; rfl) (xis W 111 8 s_111 (Nat.le_of_ble_eq_true rfl)) (xptr W 111 0 p_111_0) <| Y_aload_n dX9_lay_23 rfl <| Y_getI dX9_lay_24 f_8_13 ft_8_1 (xis W 111 8 s_111 (Nat.le_of_ble_eq_true rfl)) <| Y_iload_n dX9_lay_27 rfl <| Y_iast dX9_lay_28 (xarr W (o := 112) s_112 (Nat.le_of_ble_eq_true rfl)) hi28 <| Y_aload_n dX9_lay_29 rfl <| Y_dup dX9_lay_30 rfl <| Y_getI dX9_lay_31 f_8_13 ft_8_1 (xis W 111 8 s_111 (Nat.le_of_ble_eq_true rfl)) <| Y_iconst 1 dX9_lay_34 ic_1 <| Y_iadd dX9_lay_35 <| Y_putI dX9_lay_36 f_8_13 fn_8_1 ft_8_1 (xis W 111 8 s_111 (Nat.le_of_ble_eq_true rfl)) <| X_le (xle_n (xle_n xle_0)) k
theorem bX9_lay_39 {d : Nat} {g : xSt} {r : Option Value × xSt}  (k : r = (none, g)) : xX d mX9_lay 39 [none, none] [] g = some r :=
  Y_ret dX9_lay_39 rfl k
theorem bX9_layStones_0 {d : Nat} {g : xSt} {r : Option Value × xSt} {a1 a2 : Int32} (k1 : a2 = 0 → xX (d + 1) mX9_layStones 8 [some (.ref 111), some (.int a1), some (.int a2), none, none, none, none, none, none, none, none] [] g = some r) (k2 : ¬ (a2 = 0) → xX (d + 1) mX9_layStones 4 [some (.ref 111), some (.int a1), some (.int a2), none, none, none, none, none, none, none, none] [] g = some r) : xX (d + 1) mX9_layStones 0 [some (.ref 111), some (.int a1), some (.int a2), none, none, none, none, none, none, none, none] [] g = some r :=
  Y_iload_n dX9_layStones_0 rfl <| Y_eq0 8 dX9_layStones_1 rfl (fun q => X_le (xle_s (xle_s (xle_s (xle_n (xle_n (xle_n (xle_n (xle_n (xle_n (xle_n (xle_n xle_0))))))))))) (k1 q)) (fun q => X_le (xle_s (xle_s (xle_s (xle_n (xle_n (xle_n (xle_n (xle_n (xle_n (xle_n (xle_n xle_0))))))))))) (k2 q))
theorem bX9_layStones_4 {d : Nat} {g : xSt} {r : Option Value × xSt} {a1 a2 : Int32} (k : xX (d + 1) mX9_layStones 9 [some (.ref 111), some (.int a1), some (.int a2), none, none, none, none, none, none, none, none] [.int 3] g = some r) : xX (d + 1) mX9_layStones 4 [some (.ref 111), some (.int a1), some (.int a2), none, none, none, none, none, none, none, none] [] g = some r :=
  Y_iconst 3 dX9_layStones_4 ic_3 <| Y_goto 9 dX9_layStones_5 rfl <| X_le (xle_s (xle_s (xle_s (xle_n (xle_n (xle_n (xle_n (xle_n (xle_n (xle_n (xle_n xle_0))))))))))) k
theorem bX9_layStones_8 {d : Nat} {g : xSt} {r : Option Value × xSt} {a1 a2 : Int32} (k : xX (d + 1) mX9_layStones 9 [some (.ref 111), some (.int a1), some (.int a2), none, none, none, none, none, none, none, none] [.int 2] g = some r) : xX (d + 1) mX9_layStones 8 [some (.ref 111), some (.int a1), some (.int a2), none, none, none, none, none, none, none, none] [] g = some r :=
  Y_iconst 2 dX9_layStones_8 ic_2 <| X_le (xle_s (xle_s (xle_s (xle_n (xle_n (xle_n (xle_n (xle_n (xle_n (xle_n (xle_n xle_0))))))))))) k
theorem bX9_layStones_9 {d : Nat} {g : xSt} {r : Option Value × xSt} {a1 a2 s0 : Int32} (k1 : a2 = 0 → xX (d + 1) mX9_layStones 18 [some (.ref 111), some (.int a1), some (.int a2), some (.int s0), none, none, none, none, none, none, none] [] g = some r) (k2 : ¬ (a2 = 0) → xX (d + 1) mX9_layStones 14 [some (.ref 111), some (.int a1), some (.int a2), some (.int s0), none, none, none, none, none, none, none] [] g = some r) : xX (d + 1) mX9_layStones 9 [some (.ref 111), some (.int a1), some (.int a2), none, none, none, none, none, none, none, none] [.int s0] g = some r :=
  Y_istore_n dX9_layStones_9 rfl rfl <| Y_iload_n dX9_layStones_10 rfl <| Y_eq0 18 dX9_layStones_11 rfl (fun q => X_le (xle_s (xle_s (xle_s (xle_s (xle_n (xle_n (xle_n (xle_n (xle_n (xle_n (xle_n xle_0))))))))))) (k1 q)) (fun q => X_le (xle_s (xle_s (xle_s (xle_s (xle_n (xle_n (xle_n (xle_n (xle_n (xle_n (xle_n xle_0))))))))))) (k2 q))
theorem bX9_layStones_14 {d : Nat} {g : xSt} {r : Option Value × xSt} {a1 a2 a3 : Int32} (k : xX (d + 1) mX9_layStones 19 [some (.ref 111), some (.int a1), some (.int a2), some (.int a3), none, none, none, none, none, none, none] [.int 2] g = some r) : xX (d + 1) mX9_layStones 14 [some (.ref 111), some (.int a1), some (.int a2), some (.int a3), none, none, none, none, none, none, none] [] g = some r :=
  Y_iconst 2 dX9_layStones_14 ic_2 <| Y_goto 19 dX9_layStones_15 rfl <| X_le (xle_s (xle_s (xle_s (xle_s (xle_n (xle_n (xle_n (xle_n (xle_n (xle_n (xle_n xle_0))))))))))) k
theorem bX9_layStones_18 {d : Nat} {g : xSt} {r : Option Value × xSt} {a1 a2 a3 : Int32} (k : xX (d + 1) mX9_layStones 19 [some (.ref 111), some (.int a1), some (.int a2), some (.int a3), none, none, none, none, none, none, none] [.int 1] g = some r) : xX (d + 1) mX9_layStones 18 [some (.ref 111), some (.int a1), some (.int a2), some (.int a3), none, none, none, none, none, none, none] [] g = some r :=
  Y_iconst 1 dX9_layStones_18 ic_1 <| X_le (xle_s (xle_s (xle_s (xle_s (xle_n (xle_n (xle_n (xle_n (xle_n (xle_n (xle_n xle_0))))))))))) k
theorem bX9_layStones_19 {d : Nat} {g : xSt} {r : Option Value × xSt} {a1 a2 a3 s0 : Int32} (k1 : a2 = 0 → xX (d + 1) mX9_layStones 33 [some (.ref 111), some (.int a1), none, some (.int a3), some (.int s0), none, none, none, none, none, none] [] g = some r) (k2 : ¬ (a2 = 0) → xX (d + 1) mX9_layStones 25 [some (.ref 111), some (.int a1), none, some (.int a3), some (.int s0), none, none, none, none, none, none] [] g = some r) : xX (d + 1) mX9_layStones 19 [some (.ref 111), some (.int a1), some (.int a2), some (.int a3), none, none, none, none, none, none, none] [.int s0] g = some r :=
  Y_istore dX9_layStones_19 rfl rfl <| Y_iload_n dX9_layStones_21 rfl <| Y_eq0 33 dX9_layStones_22 rfl (fun q => X_le (xle_s (xle_s (xle_n (xle_s (xle_s (xle_n (xle_n (xle_n (xle_n (xle_n (xle_n xle_0))))))))))) (k1 q)) (fun q => X_le (xle_s (xle_s (xle_n (xle_s (xle_s (xle_n (xle_n (xle_n (xle_n (xle_n (xle_n xle_0))))))))))) (k2 q))
theorem bX9_layStones_25 {d : Nat} {g : xSt} {r : Option Value × xSt} {a1 a3 a4 : Int32} (k : xX (d + 1) mX9_layStones 36 [some (.ref 111), some (.int a1), none, some (.int a3), some (.int a4), none, none, none, none, none, none] [.int ((2 * a1) + 1)] g = some r) : xX (d + 1) mX9_layStones 25 [some (.ref 111), some (.int a1), none, some (.int a3), some (.int a4), none, none, none, none, none, none] [] g = some r :=
  Y_iconst 2 dX9_layStones_25 ic_2 <| Y_iload_n dX9_layStones_26 rfl <| Y_imul dX9_layStones_27 <| Y_iconst 1 dX9_layStones_28 ic_1 <| Y_iadd dX9_layStones_29 <| Y_goto 36 dX9_layStones_30 rfl <| X_le (xle_s (xle_s (xle_n (xle_s (xle_s (xle_n (xle_n (xle_n (xle_n (xle_n (xle_n xle_0))))))))))) k
theorem bX9_layStones_33 {d : Nat} {g : xSt} {r : Option Value × xSt} {a1 a3 a4 : Int32} (k : xX (d + 1) mX9_layStones 36 [some (.ref 111), some (.int a1), none, some (.int a3), some (.int a4), none, none, none, none, none, none] [.int (a1 + 1)] g = some r) : xX (d + 1) mX9_layStones 33 [some (.ref 111), some (.int a1), none, some (.int a3), some (.int a4), none, none, none, none, none, none] [] g = some r :=
  Y_iload_n dX9_layStones_33 rfl <| Y_iconst 1 dX9_layStones_34 ic_1 <| Y_iadd dX9_layStones_35 <| X_le (xle_s (xle_s (xle_n (xle_s (xle_s (xle_n (xle_n (xle_n (xle_n (xle_n (xle_n xle_0))))))))))) k
theorem bX9_layStones_36 {d : Nat} {g : xSt} {r : Option Value × xSt} {a1 a3 a4 s0 r41 : Int32} {g41 : xSt} (hk41 : xCallM d mX8_depthOf [.int s0, .int a3] g = some (some (.int r41), g41)) (W41 : xWf g41) (k : xX (d + 1) mX9_layStones 58 [some (.ref 111), some (.int a1), none, some (.int a3), some (.int a4), some (.int s0), none, some (.int 1), some (.int 1), some (.int (r41 - 1)), none] [] g41 = some r) : xX (d + 1) mX9_layStones 36 [some (.ref 111), some (.int a1), none, some (.int a3), some (.int a4), none, none, none, none, none, none] [.int s0] g = some r :=
  Y_istore dX9_layStones_36 rfl rfl <| Y_iload dX9_layStones_38 rfl <| Y_iload_n dX9_layStones_40 rfl <| Y_callS1 dX9_layStones_41 cl_8_17 rfl rfl rfl rfl rfl (hk41) <| Y_istore dX9_layStones_44 rfl rfl <| Y_iconst 1 dX9_layStones_46 ic_1 <| Y_istore dX9_layStones_47 rfl rfl <| Y_iconst 1 dX9_layStones_49 ic_1 <| Y_istore dX9_layStones_50 rfl rfl <| Y_iload dX9_layStones_52 rfl <| Y_iconst 1 dX9_layStones_54 ic_1 <| Y_isub dX9_layStones_55 <| Y_istore dX9_layStones_56 rfl rfl <| X_le (xle_s (xle_s (xle_n (xle_s (xle_s (xle_s (xle_n (xle_s (xle_s (xle_s (xle_n xle_0))))))))))) k
theorem bX9_layStones_58 {d : Nat} {g : xSt} {r : Option Value × xSt} {a1 a3 a4 a5 a7 a8 a9 : Int32} (k1 : a9 < 0 → xX (d + 1) mX9_layStones 123 [none, none, none, none, none, none, none, none, none, none, none] [] g = some r) (k2 : ¬ (a9 < 0) → xX (d + 1) mX9_layStones 63 [some (.ref 111), some (.int a1), none, some (.int a3), some (.int a4), some (.int a5), none, some (.int a7), some (.int a8), some (.int a9), none] [] g = some r) : xX (d + 1) mX9_layStones 58 [some (.ref 111), some (.int a1), none, some (.int a3), some (.int a4), some (.int a5), none, some (.int a7), some (.int a8), some (.int a9), none] [] g = some r :=
  Y_iload dX9_layStones_58 rfl <| Y_lt0 123 dX9_layStones_60 rfl (fun q => X_le (xle_n (xle_n (xle_n (xle_n (xle_n (xle_n (xle_n (xle_n (xle_n (xle_n (xle_n xle_0))))))))))) (k1 q)) (fun q => X_le (xle_s (xle_s (xle_n (xle_s (xle_s (xle_s (xle_n (xle_s (xle_s (xle_s (xle_n xle_0))))))))))) (k2 q))
theorem bX9_layStones_63 {d : Nat} {g : xSt} {r : Option Value × xSt} {a1 a3 a4 a5 a7 a8 a9 r66 : Int32} {g66 : xSt} (hk66 : xCallM d mX9_powerOf [.int a3, .int a9] g = some (some (.int r66), g66)) (W66 : xWf g66) (k : xX (d + 1) mX9_layStones 71 [some (.ref 111), some (.int a1), none, some (.int a3), some (.int a4), some (.int a5), none, some (.int a7), some (.int a8), some (.int a9), some (.int r66)] [] g66 = some r) : xX (d + 1) mX9_layStones 63 [some (.ref 111), some (.int a1), none, some (.int a3), some (.int a4), some (.int a5), none, some (.int a7), some (.int a8), some (.int a9), none] [] g = some r :=
  Y_iload_n dX9_layStones_63 rfl <| Y_iload dX9_layStones_64 rfl <| Y_callS1 dX9_layStones_66 cl_8_23 rfl rfl rfl rfl rfl (hk66) <| Y_istore dX9_layStones_69 rfl rfl <| X_le (xle_s (xle_s (xle_n (xle_s (xle_s (xle_s (xle_n (xle_s (xle_s (xle_s (xle_s xle_0))))))))))) k
theorem bX9_layStones_71 {d : Nat} {g : xSt} {r : Option Value × xSt} {a1 a3 a4 a5 a7 a8 a9 a10 : Int32} (k1 : (2 * a1) ≤ a8 → xX (d + 1) mX9_layStones 101 [some (.ref 111), some (.int a1), none, some (.int a3), some (.int a4), some (.int a5), none, some (.int a7), some (.int a8), some (.int a9), none] [] g = some r) (k2 : ¬ ((2 * a1) ≤ a8) → xX (d + 1) mX9_layStones 79 [some (.ref 111), some (.int a1), none, some (.int a3), some (.int a4), some (.int a5), none, some (.int a7), some (.int a8), some (.int a9), some (.int a10)] [] g = some r) : xX (d + 1) mX9_layStones 71 [some (.ref 111), some (.int a1), none, some (.int a3), some (.int a4), some (.int a5), none, some (.int a7), some (.int a8), some (.int a9), some (.int a10)] [] g = some r :=
  Y_iload dX9_layStones_71 rfl <| Y_iconst 2 dX9_layStones_73 ic_2 <| Y_iload_n dX9_layStones_74 rfl <| Y_imul dX9_layStones_75 <| Y_ge 101 dX9_layStones_76 rfl (fun q => X_le (xle_s (xle_s (xle_n (xle_s (xle_s (xle_s (xle_n (xle_s (xle_s (xle_s (xle_n xle_0))))))))))) (k1 q)) (fun q => X_le (xle_s (xle_s (xle_n (xle_s (xle_s (xle_s (xle_n (xle_s (xle_s (xle_s (xle_s xle_0))))))))))) (k2 q))
theorem bX9_layStones_79 {d : Nat} {g : xSt} {r : Option Value × xSt} {a1 a3 a4 a5 a7 a8 a9 a10 : Int32} (k1 : a5 ≤ ((a7 + (a4 * a8)) * a10) → xX (d + 1) mX9_layStones 101 [some (.ref 111), some (.int a1), none, some (.int a3), some (.int a4), some (.int a5), none, some (.int a7), some (.int a8), some (.int a9), none] [] g = some r) (k2 : ¬ (a5 ≤ ((a7 + (a4 * a8)) * a10)) → xX (d + 1) mX9_layStones 95 [some (.ref 111), some (.int a1), none, some (.int a3), some (.int a4), some (.int a5), none, some (.int a7), some (.int a8), some (.int a9), some (.int a10)] [] g = some r) : xX (d + 1) mX9_layStones 79 [some (.ref 111), some (.int a1), none, some (.int a3), some (.int a4), some (.int a5), none, some (.int a7), some (.int a8), some (.int a9), some (.int a10)] [] g = some r :=
  Y_iload dX9_layStones_79 rfl <| Y_iload dX9_layStones_81 rfl <| Y_iload dX9_layStones_83 rfl <| Y_imul dX9_layStones_85 <| Y_iadd dX9_layStones_86 <| Y_iload dX9_layStones_87 rfl <| Y_imul dX9_layStones_89 <| Y_iload dX9_layStones_90 rfl <| Y_ge 101 dX9_layStones_92 rfl (fun q => X_le (xle_s (xle_s (xle_n (xle_s (xle_s (xle_s (xle_n (xle_s (xle_s (xle_s (xle_n xle_0))))))))))) (k1 q)) (fun q => X_le (xle_s (xle_s (xle_n (xle_s (xle_s (xle_s (xle_n (xle_s (xle_s (xle_s (xle_s xle_0))))))))))) (k2 q))
theorem bX9_layStones_95 {d : Nat} {g : xSt} {r : Option Value × xSt} {a1 a3 a4 a5 a7 a8 a9 a10 : Int32} (k : xX (d + 1) mX9_layStones 71 [some (.ref 111), some (.int a1), none, some (.int a3), some (.int a4), some (.int a5), none, some (.int a7), some (.int (a8 + 1)), some (.int a9), some (.int a10)] [] g = some r) : xX (d + 1) mX9_layStones 95 [some (.ref 111), some (.int a1), none, some (.int a3), some (.int a4), some (.int a5), none, some (.int a7), some (.int a8), some (.int a9), some (.int a10)] [] g = some r :=
  Y_iinc 1 dX9_layStones_95 rfl ic_1 rfl rfl <| Y_goto 71 dX9_layStones_98 rfl <| X_le (xle_s (xle_s (xle_n (xle_s (xle_s (xle_s (xle_n (xle_s (xle_s (xle_s (xle_s xle_0))))))))))) k
theorem bX9_layStones_101 {d : Nat} {g : xSt} {r : Option Value × xSt} {a1 a3 a4 a5 a7 a8 a9 : Int32} {g104 : xSt} (W : xWf g) (hk104 : xCallM d mX9_lay [.ref 111, .int a8] g = some (none, g104)) (W104 : xWf g104) (k : xX (d + 1) mX9_layStones 58 [some (.ref 111), some (.int a1), none, some (.int a3), some (.int a4), some (.int a5), none, some (.int (a7 + (a4 * a8))), some (.int a8), some (.int (a9 + (-1))), none] [] g104 = some r) : xX (d + 1) mX9_layStones 101 [some (.ref 111), some (.int a1), none, some (.int a3), some (.int a4), some (.int a5), none, some (.int a7), some (.int a8), some (.int a9), none] [] g = some r :=
  Y_aload_n dX9_layStones_101 rfl <| Y_iload dX9_layStones_102 rfl <| Y_callV0 dX9_layStones_104 cl_8_26 rfl rfl (xis W 111 8 s_111 (Nat.le_of_ble_eq_true rfl)) rfl rfl rfl (hk104) <| Y_iload dX9_layStones_107 rfl <| Y_iload dX9_layStones_109 rfl <| Y_iload dX9_layStones_111 rfl <| Y_imul dX9_layStones_113 <| Y_iadd dX9_layStones_114 <| Y_istore dX9_layStones_115 rfl rfl <| Y_iinc (-1) dX9_layStones_117 rfl ic_m1 rfl rfl <| Y_goto 58 dX9_layStones_120 rfl <| X_le (xle_s (xle_s (xle_n (xle_s (xle_s (xle_s (xle_n (xle_s (xle_s (xle_s (xle_n xle_0))))))))))) k
theorem bX9_layStones_123 {d : Nat} {g : xSt} {r : Option Value × xSt}  (k : r = (none, g)) : xX (d + 1) mX9_layStones 123 [none, none, none, none, none, none, none, none, none, none, none] [] g = some r :=
  Y_ret dX9_layStones_123 rfl k
theorem bX9_powerOf_0 {d : Nat} {g : xSt} {r : Option Value × xSt} {a0 a1 : Int32} (k : xX d mX9_powerOf 4 [some (.int a0), some (.int a1), some (.int 1), some (.int 0)] [] g = some r) : xX d mX9_powerOf 0 [some (.int a0), some (.int a1), none, none] [] g = some r :=
  Y_iconst 1 dX9_powerOf_0 ic_1 <| Y_istore_n dX9_powerOf_1 rfl rfl <| Y_iconst 0 dX9_powerOf_2 ic_0 <| Y_istore_n dX9_powerOf_3 rfl rfl <| X_le (xle_s (xle_s (xle_s (xle_s xle_0)))) k
theorem bX9_powerOf_4 {d : Nat} {g : xSt} {r : Option Value × xSt} {a0 a1 a2 a3 : Int32} (k1 : a1 ≤ a3 → xX d mX9_powerOf 25 [none, none, some (.int a2), none] [] g = some r) (k2 : ¬ (a1 ≤ a3) → xX d mX9_powerOf 9 [some (.int a0), some (.int a1), some (.int a2), some (.int a3)] [] g = some r) : xX d mX9_powerOf 4 [some (.int a0), some (.int a1), some (.int a2), some (.int a3)] [] g = some r :=
  Y_iload_n dX9_powerOf_4 rfl <| Y_iload_n dX9_powerOf_5 rfl <| Y_ge 25 dX9_powerOf_6 rfl (fun q => X_le (xle_n (xle_n (xle_s (xle_n xle_0)))) (k1 q)) (fun q => X_le (xle_s (xle_s (xle_s (xle_s xle_0)))) (k2 q))
theorem bX9_powerOf_9 {d : Nat} {g : xSt} {r : Option Value × xSt} {a0 a1 a2 a3 : Int32} (k1 : 10 ≤ a3 → xX d mX9_powerOf 25 [none, none, some (.int a2), none] [] g = some r) (k2 : ¬ (10 ≤ a3) → xX d mX9_powerOf 15 [some (.int a0), some (.int a1), some (.int a2), some (.int a3)] [] g = some r) : xX d mX9_powerOf 9 [some (.int a0), some (.int a1), some (.int a2), some (.int a3)] [] g = some r :=
  Y_iload_n dX9_powerOf_9 rfl <| Y_bipush 10 dX9_powerOf_10 bp_10 <| Y_ge 25 dX9_powerOf_12 rfl (fun q => X_le (xle_n (xle_n (xle_s (xle_n xle_0)))) (k1 q)) (fun q => X_le (xle_s (xle_s (xle_s (xle_s xle_0)))) (k2 q))
theorem bX9_powerOf_15 {d : Nat} {g : xSt} {r : Option Value × xSt} {a0 a1 a2 a3 : Int32} (k : xX d mX9_powerOf 4 [some (.int a0), some (.int a1), some (.int (a2 * a0)), some (.int (a3 + 1))] [] g = some r) : xX d mX9_powerOf 15 [some (.int a0), some (.int a1), some (.int a2), some (.int a3)] [] g = some r :=
  Y_iload_n dX9_powerOf_15 rfl <| Y_iload_n dX9_powerOf_16 rfl <| Y_imul dX9_powerOf_17 <| Y_istore_n dX9_powerOf_18 rfl rfl <| Y_iinc 1 dX9_powerOf_19 rfl ic_1 rfl rfl <| Y_goto 4 dX9_powerOf_22 rfl <| X_le (xle_s (xle_s (xle_s (xle_s xle_0)))) k
theorem bX9_powerOf_25 {d : Nat} {g : xSt} {r : Option Value × xSt} {a2 : Int32} (k : r = (some (.int a2), g)) : xX d mX9_powerOf 25 [none, none, some (.int a2), none] [] g = some r :=
  Y_iload_n dX9_powerOf_25 rfl <| Y_iret dX9_powerOf_26 rfl k
