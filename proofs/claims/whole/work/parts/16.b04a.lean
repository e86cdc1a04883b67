/-! stretches of HeavierRow$Once, by program (wip/whole/genall.py) -/
theorem dX4_fewestPairs_0 : decode mX4_fewestPairs.2.1 0 = .ok (.aload_n 0, 1) := by decide +kernel
theorem dX4_fewestPairs_1 : decode mX4_fewestPairs.2.1 1 = .ok (.getfield 11, 3) := by decide +kernel
theorem dX4_fewestPairs_4 : decode mX4_fewestPairs.2.1 4 = .ok (.iconst 0, 1) := by decide +kernel
theorem dX4_fewestPairs_5 : decode mX4_fewestPairs.2.1 5 = .ok (.invokestatic 15, 3) := by decide +kernel
theorem dX4_fewestPairs_8 : decode mX4_fewestPairs.2.1 8 = .ok (.iconst 0, 1) := by decide +kernel
theorem dX4_fewestPairs_9 : decode mX4_fewestPairs.2.1 9 = .ok (.istore_n 2, 1) := by decide +kernel
theorem dX4_fewestPairs_10 : decode mX4_fewestPairs.2.1 10 = .ok (.iload_n 2, 1) := by decide +kernel
theorem dX4_fewestPairs_11 : decode mX4_fewestPairs.2.1 11 = .ok (.aload_n 1, 1) := by decide +kernel
theorem dX4_fewestPairs_12 : decode mX4_fewestPairs.2.1 12 = .ok (.getfield 21, 3) := by decide +kernel
theorem dX4_fewestPairs_15 : decode mX4_fewestPairs.2.1 15 = .ok (.if_icmp .ge 86, 3) := by decide +kernel
theorem dX4_fewestPairs_18 : decode mX4_fewestPairs.2.1 18 = .ok (.iconst 0, 1) := by decide +kernel
theorem dX4_fewestPairs_19 : decode mX4_fewestPairs.2.1 19 = .ok (.istore_n 3, 1) := by decide +kernel
theorem dX4_fewestPairs_20 : decode mX4_fewestPairs.2.1 20 = .ok (.iload_n 3, 1) := by decide +kernel
theorem dX4_fewestPairs_21 : decode mX4_fewestPairs.2.1 21 = .ok (.iload_n 2, 1) := by decide +kernel
theorem dX4_fewestPairs_22 : decode mX4_fewestPairs.2.1 22 = .ok (.if_icmp .ge 73, 3) := by decide +kernel
theorem dX4_fewestPairs_25 : decode mX4_fewestPairs.2.1 25 = .ok (.aload_n 1, 1) := by decide +kernel
theorem dX4_fewestPairs_26 : decode mX4_fewestPairs.2.1 26 = .ok (.getfield 27, 3) := by decide +kernel
theorem dX4_fewestPairs_29 : decode mX4_fewestPairs.2.1 29 = .ok (.iload_n 2, 1) := by decide +kernel
theorem dX4_fewestPairs_30 : decode mX4_fewestPairs.2.1 30 = .ok (.invokestatic 30, 3) := by decide +kernel
theorem dX4_fewestPairs_33 : decode mX4_fewestPairs.2.1 33 = .ok (.aload_n 1, 1) := by decide +kernel
theorem dX4_fewestPairs_34 : decode mX4_fewestPairs.2.1 34 = .ok (.getfield 27, 3) := by decide +kernel
theorem dX4_fewestPairs_37 : decode mX4_fewestPairs.2.1 37 = .ok (.iload_n 3, 1) := by decide +kernel
theorem dX4_fewestPairs_38 : decode mX4_fewestPairs.2.1 38 = .ok (.invokestatic 30, 3) := by decide +kernel
theorem dX4_fewestPairs_41 : decode mX4_fewestPairs.2.1 41 = .ok (.if_icmp .eq 48, 3) := by decide +kernel
theorem dX4_fewestPairs_44 : decode mX4_fewestPairs.2.1 44 = .ok (.aload_n 1, 1) := by decide +kernel
theorem dX4_fewestPairs_45 : decode mX4_fewestPairs.2.1 45 = .ok (.getfield 34, 3) := by decide +kernel
theorem dX4_fewestPairs_48 : decode mX4_fewestPairs.2.1 48 = .ok (.iload_n 2, 1) := by decide +kernel
theorem dX4_fewestPairs_49 : decode mX4_fewestPairs.2.1 49 = .ok (.invokestatic 30, 3) := by decide +kernel
theorem dX4_fewestPairs_52 : decode mX4_fewestPairs.2.1 52 = .ok (.aload_n 1, 1) := by decide +kernel
theorem dX4_fewestPairs_53 : decode mX4_fewestPairs.2.1 53 = .ok (.getfield 34, 3) := by decide +kernel
theorem dX4_fewestPairs_56 : decode mX4_fewestPairs.2.1 56 = .ok (.iload_n 3, 1) := by decide +kernel
theorem dX4_fewestPairs_57 : decode mX4_fewestPairs.2.1 57 = .ok (.invokestatic 30, 3) := by decide +kernel
theorem dX4_fewestPairs_60 : decode mX4_fewestPairs.2.1 60 = .ok (.ixor, 1) := by decide +kernel
theorem dX4_fewestPairs_61 : decode mX4_fewestPairs.2.1 61 = .ok (.istore 4, 2) := by decide +kernel
theorem dX4_fewestPairs_63 : decode mX4_fewestPairs.2.1 63 = .ok (.aload_n 0, 1) := by decide +kernel
theorem dX4_fewestPairs_64 : decode mX4_fewestPairs.2.1 64 = .ok (.getfield 11, 3) := by decide +kernel
theorem dX4_fewestPairs_67 : decode mX4_fewestPairs.2.1 67 = .ok (.iload 4, 2) := by decide +kernel
theorem dX4_fewestPairs_69 : decode mX4_fewestPairs.2.1 69 = .ok (.iload 4, 2) := by decide +kernel
theorem dX4_fewestPairs_71 : decode mX4_fewestPairs.2.1 71 = .ok (.bipush 10, 2) := by decide +kernel
theorem dX4_fewestPairs_73 : decode mX4_fewestPairs.2.1 73 = .ok (.ishr, 1) := by decide +kernel
theorem dX4_fewestPairs_74 : decode mX4_fewestPairs.2.1 74 = .ok (.ior, 1) := by decide +kernel
theorem dX4_fewestPairs_75 : decode mX4_fewestPairs.2.1 75 = .ok (.iload 4, 2) := by decide +kernel
theorem dX4_fewestPairs_77 : decode mX4_fewestPairs.2.1 77 = .ok (.bipush 20, 2) := by decide +kernel
theorem dX4_fewestPairs_79 : decode mX4_fewestPairs.2.1 79 = .ok (.ishr, 1) := by decide +kernel
theorem dX4_fewestPairs_80 : decode mX4_fewestPairs.2.1 80 = .ok (.ior, 1) := by decide +kernel
theorem dX4_fewestPairs_81 : decode mX4_fewestPairs.2.1 81 = .ok (.sipush 1023, 3) := by decide +kernel
theorem dX4_fewestPairs_84 : decode mX4_fewestPairs.2.1 84 = .ok (.iand, 1) := by decide +kernel
theorem dX4_fewestPairs_85 : decode mX4_fewestPairs.2.1 85 = .ok (.iconst 1, 1) := by decide +kernel
theorem dX4_fewestPairs_86 : decode mX4_fewestPairs.2.1 86 = .ok (.invokestatic 37, 3) := by decide +kernel
theorem dX4_fewestPairs_89 : decode mX4_fewestPairs.2.1 89 = .ok (.iinc 3 1, 3) := by decide +kernel
theorem dX4_fewestPairs_92 : decode mX4_fewestPairs.2.1 92 = .ok (.goto (-72), 3) := by decide +kernel
theorem dX4_fewestPairs_95 : decode mX4_fewestPairs.2.1 95 = .ok (.iinc 2 1, 3) := by decide +kernel
theorem dX4_fewestPairs_98 : decode mX4_fewestPairs.2.1 98 = .ok (.goto (-88), 3) := by decide +kernel
theorem dX4_fewestPairs_101 : decode mX4_fewestPairs.2.1 101 = .ok (.iconst 0, 1) := by decide +kernel
theorem dX4_fewestPairs_102 : decode mX4_fewestPairs.2.1 102 = .ok (.istore_n 2, 1) := by decide +kernel
theorem dX4_fewestPairs_103 : decode mX4_fewestPairs.2.1 103 = .ok (.iload_n 2, 1) := by decide +kernel
theorem dX4_fewestPairs_104 : decode mX4_fewestPairs.2.1 104 = .ok (.aload_n 1, 1) := by decide +kernel
theorem dX4_fewestPairs_105 : decode mX4_fewestPairs.2.1 105 = .ok (.invokevirtual 41, 3) := by decide +kernel
theorem dX4_fewestPairs_108 : decode mX4_fewestPairs.2.1 108 = .ok (.if_icmp .ge 56, 3) := by decide +kernel
theorem dX4_fewestPairs_111 : decode mX4_fewestPairs.2.1 111 = .ok (.iconst 0, 1) := by decide +kernel
theorem dX4_fewestPairs_112 : decode mX4_fewestPairs.2.1 112 = .ok (.istore_n 3, 1) := by decide +kernel
theorem dX4_fewestPairs_113 : decode mX4_fewestPairs.2.1 113 = .ok (.iload_n 3, 1) := by decide +kernel
theorem dX4_fewestPairs_114 : decode mX4_fewestPairs.2.1 114 = .ok (.sipush 1024, 3) := by decide +kernel
theorem dX4_fewestPairs_117 : decode mX4_fewestPairs.2.1 117 = .ok (.if_icmp .ge 41, 3) := by decide +kernel
theorem dX4_fewestPairs_120 : decode mX4_fewestPairs.2.1 120 = .ok (.iload_n 3, 1) := by decide +kernel
theorem dX4_fewestPairs_121 : decode mX4_fewestPairs.2.1 121 = .ok (.iload_n 2, 1) := by decide +kernel
theorem dX4_fewestPairs_122 : decode mX4_fewestPairs.2.1 122 = .ok (.invokestatic 45, 3) := by decide +kernel
theorem dX4_fewestPairs_125 : decode mX4_fewestPairs.2.1 125 = .ok (.ifCond .eq 27, 3) := by decide +kernel
theorem dX4_fewestPairs_128 : decode mX4_fewestPairs.2.1 128 = .ok (.aload_n 0, 1) := by decide +kernel
theorem dX4_fewestPairs_129 : decode mX4_fewestPairs.2.1 129 = .ok (.getfield 11, 3) := by decide +kernel
theorem dX4_fewestPairs_132 : decode mX4_fewestPairs.2.1 132 = .ok (.iload_n 3, 1) := by decide +kernel
theorem dX4_fewestPairs_133 : decode mX4_fewestPairs.2.1 133 = .ok (.iconst 1, 1) := by decide +kernel
theorem dX4_fewestPairs_134 : decode mX4_fewestPairs.2.1 134 = .ok (.iload_n 2, 1) := by decide +kernel
theorem dX4_fewestPairs_135 : decode mX4_fewestPairs.2.1 135 = .ok (.ishl, 1) := by decide +kernel
theorem dX4_fewestPairs_136 : decode mX4_fewestPairs.2.1 136 = .ok (.ixor, 1) := by decide +kernel
theorem dX4_fewestPairs_137 : decode mX4_fewestPairs.2.1 137 = .ok (.invokestatic 30, 3) := by decide +kernel
theorem dX4_fewestPairs_140 : decode mX4_fewestPairs.2.1 140 = .ok (.ifCond .eq 12, 3) := by decide +kernel
theorem dX4_fewestPairs_143 : decode mX4_fewestPairs.2.1 143 = .ok (.aload_n 0, 1) := by decide +kernel
theorem dX4_fewestPairs_144 : decode mX4_fewestPairs.2.1 144 = .ok (.getfield 11, 3) := by decide +kernel
theorem dX4_fewestPairs_147 : decode mX4_fewestPairs.2.1 147 = .ok (.iload_n 3, 1) := by decide +kernel
theorem dX4_fewestPairs_148 : decode mX4_fewestPairs.2.1 148 = .ok (.iconst 1, 1) := by decide +kernel
theorem dX4_fewestPairs_149 : decode mX4_fewestPairs.2.1 149 = .ok (.invokestatic 37, 3) := by decide +kernel
theorem dX4_fewestPairs_152 : decode mX4_fewestPairs.2.1 152 = .ok (.iinc 3 1, 3) := by decide +kernel
theorem dX4_fewestPairs_155 : decode mX4_fewestPairs.2.1 155 = .ok (.goto (-42), 3) := by decide +kernel
theorem dX4_fewestPairs_158 : decode mX4_fewestPairs.2.1 158 = .ok (.iinc 2 1, 3) := by decide +kernel
theorem dX4_fewestPairs_161 : decode mX4_fewestPairs.2.1 161 = .ok (.goto (-58), 3) := by decide +kernel
theorem dX4_fewestPairs_164 : decode mX4_fewestPairs.2.1 164 = .ok (.aload_n 0, 1) := by decide +kernel
theorem dX4_fewestPairs_165 : decode mX4_fewestPairs.2.1 165 = .ok (.iconst 1, 1) := by decide +kernel
theorem dX4_fewestPairs_166 : decode mX4_fewestPairs.2.1 166 = .ok (.aload_n 1, 1) := by decide +kernel
theorem dX4_fewestPairs_167 : decode mX4_fewestPairs.2.1 167 = .ok (.invokevirtual 41, 3) := by decide +kernel
theorem dX4_fewestPairs_170 : decode mX4_fewestPairs.2.1 170 = .ok (.ishl, 1) := by decide +kernel
theorem dX4_fewestPairs_171 : decode mX4_fewestPairs.2.1 171 = .ok (.iconst 1, 1) := by decide +kernel
theorem dX4_fewestPairs_172 : decode mX4_fewestPairs.2.1 172 = .ok (.isub, 1) := by decide +kernel
theorem dX4_fewestPairs_173 : decode mX4_fewestPairs.2.1 173 = .ok (.invokevirtual 49, 3) := by decide +kernel
theorem dX4_fewestPairs_176 : decode mX4_fewestPairs.2.1 176 = .ok (.ireturn, 1) := by decide +kernel
theorem dX4_leastSet_0 : decode mX4_leastSet.2.1 0 = .ok (.iconst (-1), 1) := by decide +kernel
theorem dX4_leastSet_1 : decode mX4_leastSet.2.1 1 = .ok (.istore_n 2, 1) := by decide +kernel
theorem dX4_leastSet_2 : decode mX4_leastSet.2.1 2 = .ok (.iconst 0, 1) := by decide +kernel
theorem dX4_leastSet_3 : decode mX4_leastSet.2.1 3 = .ok (.istore_n 3, 1) := by decide +kernel
theorem dX4_leastSet_4 : decode mX4_leastSet.2.1 4 = .ok (.iload_n 3, 1) := by decide +kernel
theorem dX4_leastSet_5 : decode mX4_leastSet.2.1 5 = .ok (.iload_n 1, 1) := by decide +kernel
theorem dX4_leastSet_6 : decode mX4_leastSet.2.1 6 = .ok (.if_icmp .gt 52, 3) := by decide +kernel
theorem dX4_leastSet_9 : decode mX4_leastSet.2.1 9 = .ok (.aload_n 0, 1) := by decide +kernel
theorem dX4_leastSet_10 : decode mX4_leastSet.2.1 10 = .ok (.getfield 11, 3) := by decide +kernel
theorem dX4_leastSet_13 : decode mX4_leastSet.2.1 13 = .ok (.iload_n 1, 1) := by decide +kernel
theorem dX4_leastSet_14 : decode mX4_leastSet.2.1 14 = .ok (.iload_n 3, 1) := by decide +kernel
theorem dX4_leastSet_15 : decode mX4_leastSet.2.1 15 = .ok (.ixor, 1) := by decide +kernel
theorem dX4_leastSet_16 : decode mX4_leastSet.2.1 16 = .ok (.invokestatic 30, 3) := by decide +kernel
theorem dX4_leastSet_19 : decode mX4_leastSet.2.1 19 = .ok (.ifCond .ne 7, 3) := by decide +kernel
theorem dX4_leastSet_22 : decode mX4_leastSet.2.1 22 = .ok (.iconst 1, 1) := by decide +kernel
theorem dX4_leastSet_23 : decode mX4_leastSet.2.1 23 = .ok (.goto 4, 3) := by decide +kernel
theorem dX4_leastSet_26 : decode mX4_leastSet.2.1 26 = .ok (.iconst 0, 1) := by decide +kernel
theorem dX4_leastSet_27 : decode mX4_leastSet.2.1 27 = .ok (.istore 4, 2) := by decide +kernel
theorem dX4_leastSet_29 : decode mX4_leastSet.2.1 29 = .ok (.iload 4, 2) := by decide +kernel
theorem dX4_leastSet_31 : decode mX4_leastSet.2.1 31 = .ok (.ifCond .eq 21, 3) := by decide +kernel
theorem dX4_leastSet_34 : decode mX4_leastSet.2.1 34 = .ok (.iload_n 2, 1) := by decide +kernel
theorem dX4_leastSet_35 : decode mX4_leastSet.2.1 35 = .ok (.iconst (-1), 1) := by decide +kernel
theorem dX4_leastSet_36 : decode mX4_leastSet.2.1 36 = .ok (.if_icmp .eq 14, 3) := by decide +kernel
theorem dX4_leastSet_39 : decode mX4_leastSet.2.1 39 = .ok (.iload_n 3, 1) := by decide +kernel
theorem dX4_leastSet_40 : decode mX4_leastSet.2.1 40 = .ok (.invokestatic 53, 3) := by decide +kernel
theorem dX4_leastSet_43 : decode mX4_leastSet.2.1 43 = .ok (.iload_n 2, 1) := by decide +kernel
theorem dX4_leastSet_44 : decode mX4_leastSet.2.1 44 = .ok (.invokestatic 53, 3) := by decide +kernel
theorem dX4_leastSet_47 : decode mX4_leastSet.2.1 47 = .ok (.if_icmp .ge 5, 3) := by decide +kernel
theorem dX4_leastSet_50 : decode mX4_leastSet.2.1 50 = .ok (.iload_n 3, 1) := by decide +kernel
theorem dX4_leastSet_51 : decode mX4_leastSet.2.1 51 = .ok (.istore_n 2, 1) := by decide +kernel
theorem dX4_leastSet_52 : decode mX4_leastSet.2.1 52 = .ok (.iinc 3 1, 3) := by decide +kernel
theorem dX4_leastSet_55 : decode mX4_leastSet.2.1 55 = .ok (.goto (-51), 3) := by decide +kernel
theorem dX4_leastSet_58 : decode mX4_leastSet.2.1 58 = .ok (.iload_n 2, 1) := by decide +kernel
theorem dX4_leastSet_59 : decode mX4_leastSet.2.1 59 = .ok (.ireturn, 1) := by decide +kernel
theorem bX4_fewestPairs_0 {d : Nat} {g : xSt} {r : Option Value × xSt} {g5 : xSt} (W : xWf g) (hk5 : xCallM d mX7_fill [.ref 89, .int 0] g = some (none, g5)) (W5 : xWf g5) (k : xX (d + 1) mX4_fewestPairs 10 [some (.ref 88), some (.ref 76), some (.int 0), none, none] [] g5 = some r) : xX (d + 1) mX4_fewestPairs 0 [some (.ref 88), some (.ref 76), none, none, none] [] g = some r :=
  Y_aload_n dX4_fewestPairs_0 rfl <| Y_getR dX4_fewestPairs_1 f_4_11 (by rw [ft_4_0]; rfl) (xis W 88 4 s_88 (Nat.le_of_ble_eq_true rfl)) (xptr W 88 0 p_88_0) <| Y_iconst 0 dX4_fewestPairs_4 ic_0 <| Y_callS0 dX4_fewestPairs_5 cl_4_15 rfl rfl rfl rfl rfl (hk5) <| Y_iconst 0 dX4_fewestPairs_8 ic_0 <| Y_istore_n dX4_fewestPairs_9 rfl rfl <| X_le (xle_s (xle_s (xle_s (xle_n (xle_n xle_0))))) k
theorem bX4_fewestPairs_10 {d : Nat} {g : xSt} {r : Option Value × xSt} {a2 : Int32} (W : xWf g) (k1 : (xI g 76 2) ≤ a2 → xX (d + 1) mX4_fewestPairs 101 [some (.ref 88), some (.ref 76), none, none, none] [] g = some r) (k2 : ¬ ((xI g 76 2) ≤ a2) → xX (d + 1) mX4_fewestPairs 18 [some (.ref 88), some (.ref 76), some (.int a2), none, none] [] g = some r) : xX (d + 1) mX4_fewestPairs 10 [some (.ref 88), some (.ref 76), some (.int a2), none, none] [] g = some r :=
  Y_iload_n dX4_fewestPairs_10 rfl <| Y_aload_n dX4_fewestPairs_11 rfl <| Y_getI dX4_fewestPairs_12 f_4_21 ft_7_2 (xis W 76 7 s_76 (Nat.le_of_ble_eq_true rfl)) <| Y_ge 101 dX4_fewestPairs_15 rfl (fun q => X_le (xle_s (xle_s (xle_n (xle_n (xle_n xle_0))))) (k1 q)) (fun q => X_le (xle_s (xle_s (xle_s (xle_n (xle_n xle_0))))) (k2 q))
theorem bX4_fewestPairs_18 {d : Nat} {g : xSt} {r : Option Value × xSt} {a2 : Int32} (k : xX (d + 1) mX4_fewestPairs 20 [some (.ref 88), some (.ref 76), some (.int a2), some (.int 0), none] [] g = some r) : xX (d + 1) mX4_fewestPairs 18 [some (.ref 88), some (.ref 76), some (.int a2), none, none] [] g = some r :=
  Y_iconst 0 dX4_fewestPairs_18 ic_0 <| Y_istore_n dX4_fewestPairs_19 rfl rfl <| X_le (xle_s (xle_s (xle_s (xle_s (xle_n xle_0))))) k
theorem bX4_fewestPairs_20 {d : Nat} {g : xSt} {r : Option Value × xSt} {a2 a3 : Int32} (k1 : a2 ≤ a3 → xX (d + 1) mX4_fewestPairs 95 [some (.ref 88), some (.ref 76), some (.int a2), none, none] [] g = some r) (k2 : ¬ (a2 ≤ a3) → xX (d + 1) mX4_fewestPairs 25 [some (.ref 88), some (.ref 76), some (.int a2), some (.int a3), none] [] g = some r) : xX (d + 1) mX4_fewestPairs 20 [some (.ref 88), some (.ref 76), some (.int a2), some (.int a3), none] [] g = some r :=
  Y_iload_n dX4_fewestPairs_20 rfl <| Y_iload_n dX4_fewestPairs_21 rfl <| Y_ge 95 dX4_fewestPairs_22 rfl (fun q => X_le (xle_s (xle_s (xle_s (xle_n (xle_n xle_0))))) (k1 q)) (fun q => X_le (xle_s (xle_s (xle_s (xle_s (xle_n xle_0))))) (k2 q))
theorem bX4_fewestPairs_25 {d : Nat} {g : xSt} {r : Option Value × xSt} {a2 a3 : Int32} (W : xWf g) (k1 : (xat (xI g 78) 120 a2) = (xat (xI g 78) 120 a3) → xX (d + 1) mX4_fewestPairs 89 [some (.ref 88), some (.ref 76), some (.int a2), some (.int a3), none] [] g = some r) (k2 : ¬ ((xat (xI g 78) 120 a2) = (xat (xI g 78) 120 a3)) → xX (d + 1) mX4_fewestPairs 44 [some (.ref 88), some (.ref 76), some (.int a2), some (.int a3), none] [] g = some r) : xX (d + 1) mX4_fewestPairs 25 [some (.ref 88), some (.ref 76), some (.int a2), some (.int a3), none] [] g = some r :=
  Y_aload_n dX4_fewestPairs_25 rfl <| Y_getR dX4_fewestPairs_26 f_4_27 (by rw [ft_7_1]; rfl) (xis W 76 7 s_76 (Nat.le_of_ble_eq_true rfl)) (xptr W 76 1 p_76_1) <| Y_iload_n dX4_fewestPairs_29 rfl <| Y_callS1 dX4_fewestPairs_30 cl_4_30 rfl rfl rfl rfl rfl (c_at (xarr W (o := 78) s_78 (Nat.le_of_ble_eq_true rfl))) <| Y_aload_n dX4_fewestPairs_33 rfl <| Y_getR dX4_fewestPairs_34 f_4_27 (by rw [ft_7_1]; rfl) (xis W 76 7 s_76 (Nat.le_of_ble_eq_true rfl)) (xptr W 76 1 p_76_1) <| Y_iload_n dX4_fewestPairs_37 rfl <| Y_callS1 dX4_fewestPairs_38 cl_4_30 rfl rfl rfl rfl rfl (c_at (xarr W (o := 78) s_78 (Nat.le_of_ble_eq_true rfl))) <| Y_eq 89 dX4_fewestPairs_41 rfl (fun q => X_le (xle_s (xle_s (xle_s (xle_s (xle_n xle_0))))) (k1 q)) (fun q => X_le (xle_s (xle_s (xle_s (xle_s (xle_n xle_0))))) (k2 q))
theorem bX4_fewestPairs_44 {d : Nat} {g : xSt} {r : Option Value × xSt} {a2 a3 : Int32} (W : xWf g) (k : xX (d + 1) mX4_fewestPairs 89 [some (.ref 88), some (.ref 76), some (.int a2), some (.int a3), none] [] (xput g 89 1024 (((((xat (xI g 77) 120 a2) ^^^ (xat (xI g 77) 120 a3)) ||| (((xat (xI g 77) 120 a2) ^^^ (xat (xI g 77) 120 a3)) >>> (10 &&& 31))) ||| (((xat (xI g 77) 120 a2) ^^^ (xat (xI g 77) 120 a3)) >>> (20 &&& 31))) &&& 1023) 1) = some r) : xX (d + 1) mX4_fewestPairs 44 [some (.ref 88), some (.ref 76), some (.int a2), some (.int a3), none] [] g = some r :=
  Y_aload_n dX4_fewestPairs_44 rfl <| Y_getR dX4_fewestPairs_45 f_4_34 (by rw [ft_7_0]; rfl) (xis W 76 7 s_76 (Nat.le_of_ble_eq_true rfl)) (xptr W 76 0 p_76_0) <| Y_iload_n dX4_fewestPairs_48 rfl <| Y_callS1 dX4_fewestPairs_49 cl_4_30 rfl rfl rfl rfl rfl (c_at (xarr W (o := 77) s_77 (Nat.le_of_ble_eq_true rfl))) <| Y_aload_n dX4_fewestPairs_52 rfl <| Y_getR dX4_fewestPairs_53 f_4_34 (by rw [ft_7_0]; rfl) (xis W 76 7 s_76 (Nat.le_of_ble_eq_true rfl)) (xptr W 76 0 p_76_0) <| Y_iload_n dX4_fewestPairs_56 rfl <| Y_callS1 dX4_fewestPairs_57 cl_4_30 rfl rfl rfl rfl rfl (c_at (xarr W (o := 77) s_77 (Nat.le_of_ble_eq_true rfl))) <| Y_ixor dX4_fewestPairs_60 <| Y_istore dX4_fewestPairs_61 rfl rfl <| Y_aload_n dX4_fewestPairs_63 rfl <| Y_getR dX4_fewestPairs_64 f_4_11 (by rw [ft_4_0]; rfl) (xis W 88 4 s_88 (Nat.le_of_ble_eq_true rfl)) (xptr W 88 0 p_88_0) <| Y_iload dX4_fewestPairs_67 rfl <| Y_iload dX4_fewestPairs_69 rfl <| Y_bipush 10 dX4_fewestPairs_71 bp_10 <| Y_ishr dX4_fewestPairs_73 <| Y_ior dX4_fewestPairs_74 <| Y_iload dX4_fewestPairs_75 rfl <| Y_bipush 20 dX4_fewestPairs_77 bp_20 <| Y_ishr dX4_fewestPairs_79 <| Y_ior dX4_fewestPairs_80 <| Y_sipush 1023 dX4_fewestPairs_81 sp_1023 <| Y_iand dX4_fewestPairs_84 <| Y_iconst 1 dX4_fewestPairs_85 ic_1 <| Y_callS0 dX4_fewestPairs_86 cl_4_37 rfl rfl rfl rfl rfl (c_put (xarr W (o := 89) s_89 (Nat.le_of_ble_eq_true rfl))) <| X_le (xle_s (xle_s (xle_s (xle_s (xle_n xle_0))))) k
theorem bX4_fewestPairs_89 {d : Nat} {g : xSt} {r : Option Value × xSt} {a2 a3 : Int32} (k : xX (d + 1) mX4_fewestPairs 20 [some (.ref 88), some (.ref 76), some (.int a2), some (.int (a3 + 1)), none] [] g = some r) : xX (d + 1) mX4_fewestPairs 89 [some (.ref 88), some (.ref 76), some (.int a2), some (.int a3), none] [] g = some r :=
  Y_iinc 1 dX4_fewestPairs_89 rfl ic_1 rfl rfl <| Y_goto 20 dX4_fewestPairs_92 rfl <| X_le (xle_s (xle_s (xle_s (xle_s (xle_n xle_0))))) k
theorem bX4_fewestPairs_95 {d : Nat} {g : xSt} {r : Option Value × xSt} {a2 : Int32} (k : xX (d + 1) mX4_fewestPairs 10 [some (.ref 88), some (.ref 76), some (.int (a2 + 1)), none, none] [] g = some r) : xX (d + 1) mX4_fewestPairs 95 [some (.ref 88), some (.ref 76), some (.int a2), none, none] [] g = some r :=
  Y_iinc 1 dX4_fewestPairs_95 rfl ic_1 rfl rfl <| Y_goto 10 dX4_fewestPairs_98 rfl <| X_le (xle_s (xle_s (xle_s (xle_n (xle_n xle_0))))) k
theorem bX4_fewestPairs_101 {d : Nat} {g : xSt} {r : Option Value × xSt}  (k : xX (d + 1) mX4_fewestPairs 103 [some (.ref 88), some (.ref 76), some (.int 0), none, none] [] g = some r) : xX (d + 1) mX4_fewestPairs 101 [some (.ref 88), some (.ref 76), none, none, none] [] g = some r :=
  Y_iconst 0 dX4_fewestPairs_101 ic_0 <| Y_istore_n dX4_fewestPairs_102 rfl rfl <| X_le (xle_s (xle_s (xle_s (xle_n (xle_n xle_0))))) k
theorem bX4_fewestPairs_103 {d : Nat} {g : xSt} {r : Option Value × xSt} {a2 r105 : Int32} {g105 : xSt} (W : xWf g) (hk105 : xCallM d mX8_pairs [.ref 76] g = some (some (.int r105), g105)) (W105 : xWf g105) (k1 : r105 ≤ a2 → xX (d + 1) mX4_fewestPairs 164 [some (.ref 88), some (.ref 76), none, none, none] [] g105 = some r) (k2 : ¬ (r105 ≤ a2) → xX (d + 1) mX4_fewestPairs 111 [some (.ref 88), some (.ref 76), some (.int a2), none, none] [] g105 = some r) : xX (d + 1) mX4_fewestPairs 103 [some (.ref 88), some (.ref 76), some (.int a2), none, none] [] g = some r :=
  Y_iload_n dX4_fewestPairs_103 rfl <| Y_aload_n dX4_fewestPairs_104 rfl <| Y_callV1 dX4_fewestPairs_105 cl_4_41 rfl rfl (xis W 76 7 s_76 (Nat.le_of_ble_eq_true rfl)) rfl rfl rfl (hk105) <| Y_ge 164 dX4_fewestPairs_108 rfl (fun q => X_le (xle_s (xle_s (xle_n (xle_n (xle_n xle_0))))) (k1 q)) (fun q => X_le (xle_s (xle_s (xle_s (xle_n (xle_n xle_0))))) (k2 q))
theorem bX4_fewestPairs_111 {d : Nat} {g : xSt} {r : Option Value × xSt} {a2 : Int32} (k : xX (d + 1) mX4_fewestPairs 113 [some (.ref 88), some (.ref 76), some (.int a2), some (.int 0), none] [] g = some r) : xX (d + 1) mX4_fewestPairs 111 [some (.ref 88), some (.ref 76), some (.int a2), none, none] [] g = some r :=
  Y_iconst 0 dX4_fewestPairs_111 ic_0 <| Y_istore_n dX4_fewestPairs_112 rfl rfl <| X_le (xle_s (xle_s (xle_s (xle_s (xle_n xle_0))))) k
theorem bX4_fewestPairs_113 {d : Nat} {g : xSt} {r : Option Value × xSt} {a2 a3 : Int32} (k1 : 1024 ≤ a3 → xX (d + 1) mX4_fewestPairs 158 [some (.ref 88), some (.ref 76), some (.int a2), none, none] [] g = some r) (k2 : ¬ (1024 ≤ a3) → xX (d + 1) mX4_fewestPairs 120 [some (.ref 88), some (.ref 76), some (.int a2), some (.int a3), none] [] g = some r) : xX (d + 1) mX4_fewestPairs 113 [some (.ref 88), some (.ref 76), some (.int a2), some (.int a3), none] [] g = some r :=
  Y_iload_n dX4_fewestPairs_113 rfl <| Y_sipush 1024 dX4_fewestPairs_114 sp_1024 <| Y_ge 158 dX4_fewestPairs_117 rfl (fun q => X_le (xle_s (xle_s (xle_s (xle_n (xle_n xle_0))))) (k1 q)) (fun q => X_le (xle_s (xle_s (xle_s (xle_s (xle_n xle_0))))) (k2 q))
theorem bX4_fewestPairs_120 {d : Nat} {g : xSt} {r : Option Value × xSt} {a2 a3 : Int32} (k1 : (xbit a3 a2) = 0 → xX (d + 1) mX4_fewestPairs 152 [some (.ref 88), some (.ref 76), some (.int a2), some (.int a3), none] [] g = some r) (k2 : ¬ ((xbit a3 a2) = 0) → xX (d + 1) mX4_fewestPairs 128 [some (.ref 88), some (.ref 76), some (.int a2), some (.int a3), none] [] g = some r) : xX (d + 1) mX4_fewestPairs 120 [some (.ref 88), some (.ref 76), some (.int a2), some (.int a3), none] [] g = some r :=
  Y_iload_n dX4_fewestPairs_120 rfl <| Y_iload_n dX4_fewestPairs_121 rfl <| Y_callS1 dX4_fewestPairs_122 cl_4_45 rfl rfl rfl rfl rfl (c_xbit) <| Y_eq0 152 dX4_fewestPairs_125 rfl (fun q => X_le (xle_s (xle_s (xle_s (xle_s (xle_n xle_0))))) (k1 q)) (fun q => X_le (xle_s (xle_s (xle_s (xle_s (xle_n xle_0))))) (k2 q))
theorem bX4_fewestPairs_128 {d : Nat} {g : xSt} {r : Option Value × xSt} {a2 a3 : Int32} (W : xWf g) (k1 : (xat (xI g 89) 1024 (a3 ^^^ (1 <<< (a2 &&& 31)))) = 0 → xX (d + 1) mX4_fewestPairs 152 [some (.ref 88), some (.ref 76), some (.int a2), some (.int a3), none] [] g = some r) (k2 : ¬ ((xat (xI g 89) 1024 (a3 ^^^ (1 <<< (a2 &&& 31)))) = 0) → xX (d + 1) mX4_fewestPairs 143 [some (.ref 88), some (.ref 76), some (.int a2), some (.int a3), none] [] g = some r) : xX (d + 1) mX4_fewestPairs 128 [some (.ref 88), some (.ref 76), some (.int a2), some (.int a3), none] [] g = some r :=
  Y_aload_n dX4_fewestPairs_128 rfl <| Y_getR dX4_fewestPairs_129 f_4_11 (by rw [ft_4_0]; rfl) (xis W 88 4 s_88 (Nat.le_of_ble_eq_true rfl)) (xptr W 88 0 p_88_0) <| Y_iload_n dX4_fewestPairs_132 rfl <| Y_iconst 1 dX4_fewestPairs_133 ic_1 <| Y_iload_n dX4_fewestPairs_134 rfl <| Y_ishl dX4_fewestPairs_135 <| Y_ixor dX4_fewestPairs_136 <| Y_callS1 dX4_fewestPairs_137 cl_4_30 rfl rfl rfl rfl rfl (c_at (xarr W (o := 89) s_89 (Nat.le_of_ble_eq_true rfl))) <| Y_eq0 152 dX4_fewestPairs_140 rfl (fun q => X_le (xle_s (xle_s (xle_s (xle_s (xle_n xle_0))))) (k1 q)) (fun q => X_le (xle_s (xle_s (xle_s (xle_s (xle_n xle_0))))) (k2 q))
theorem bX4_fewestPairs_143 {d : Nat} {g : xSt} {r : Option Value × xSt} {a2 a3 : Int32} (W : xWf g) (k : xX (d + 1) mX4_fewestPairs 152 [some (.ref 88), some (.ref 76), some (.int a2), some (.int a3), none] [] (xput g 89 1024 a3 1) = some r) : xX (d + 1) mX4_fewestPairs 143 [some (.ref 88), some (.ref 76), some (.int a2), some (.int a3), none] [] g = some r :=
  Y_aload_n dX4_fewestPairs_143 rfl <| Y_getR dX4_fewestPairs_144 f_4_11 (by rw [ft_4_0]; rfl) (xis W 88 4 s_88 (Nat.le_of_ble_eq_true rfl)) (xptr W 88 0 p_88_0) <| Y_iload_n dX4_fewestPairs_147 rfl <| Y_iconst 1 dX4_fewestPairs_148 ic_1 <| Y_callS0 dX4_fewestPairs_149 cl_4_37 rfl rfl rfl rfl rfl (c_put (xarr W (o := 89) s_89 (Nat.le_of_ble_eq_true rfl))) <| X_le (xle_s (xle_s (xle_s (xle_s (xle_n xle_0))))) k
theorem bX4_fewestPairs_152 {d : Nat} {g : xSt} {r : Option Value × xSt} {a2 a3 : Int32} (k : xX (d + 1) mX4_fewestPairs 113 [some (.ref 88), some (.ref 76), some (.int a2), some (.int (a3 + 1)), none] [] g = some r) : xX (d + 1) mX4_fewestPairs 152 [some (.ref 88), some (.ref 76), some (.int a2), some (.int a3), none] [] g = some r :=
  Y_iinc 1 dX4_fewestPairs_152 rfl ic_1 rfl rfl <| Y_goto 113 dX4_fewestPairs_155 rfl <| X_le (xle_s (xle_s (xle_s (xle_s (xle_n xle_0))))) k
theorem bX4_fewestPairs_158 {d : Nat} {g : xSt} {r : Option Value × xSt} {a2 : Int32} (k : xX (d + 1) mX4_fewestPairs 103 [some (.ref 88), some (.ref 76), some (.int (a2 + 1)), none, none] [] g = some r) : xX (d + 1) mX4_fewestPairs 158 [some (.ref 88), some (.ref 76), some (.int a2), none, none] [] g = some r :=
  Y_iinc 1 dX4_fewestPairs_158 rfl ic_1 rfl rfl <| Y_goto 103 dX4_fewestPairs_161 rfl <| X_le (xle_s (xle_s (xle_s (xle_n (xle_n xle_0))))) k
theorem bX4_fewestPairs_164 {d : Nat} {g : xSt} {r : Option Value × xSt} {r167 r173 : Int32} {g167 g173 : xSt} (W : xWf g) (hk167 : xCallM d mX8_pairs [.ref 76] g = some (some (.int r167), g167)) (W167 : xWf g167) (hk173 : xCallM d mX4_leastSet [.ref 88, .int ((1 <<< (r167 &&& 31)) - 1)] g167 = some (some (.int r173), g173)) (W173 : xWf g173) (k : r = (some (.int r173), g173)) : xX (d + 1) mX4_fewestPairs 164 [some (.ref 88), some (.ref 76), none, none, none] [] g = some r :=
  Y_aload_n dX4_fewestPairs_164 rfl <| Y_iconst 1 dX4_fewestPairs_165 ic_1 <| Y_aload_n dX4_fewestPairs_166 rfl <| Y_callV1 dX4_fewestPairs_167 cl_4_41 rfl rfl (xis W 76 7 s_76 (Nat.le_of_ble_eq_true rfl)) rfl rfl rfl (hk167) <| Y_ishl dX4_fewestPairs_170 <| Y_iconst 1 dX4_fewestPairs_171 ic_1 <| Y_isub dX4_fewestPairs_172 <| Y_callV1 dX4_fewestPairs_173 cl_4_49 rfl rfl (xis W167 88 4 s_88 (Nat.le_of_ble_eq_true rfl)) rfl rfl rfl (hk173) <| Y_iret dX4_fewestPairs_176 rfl k
theorem bX4_leastSet_0 {d : Nat} {g : xSt} {r : Option Value × xSt} {a1 : Int32} (k : xX (d + 1) mX4_leastSet 4 [some (.ref 88), some (.int a1), some (.int (-1)), some (.int 0), none] [] g = some r) : xX (d + 1) mX4_leastSet 0 [some (.ref 88), some (.int a1), none, none, none] [] g = some r :=
  Y_iconst (-1) dX4_leastSet_0 ic_m1 <| Y_istore_n dX4_leastSet_1 rfl rfl <| Y_iconst 0 dX4_leastSet_2 ic_0 <| Y_istore_n dX4_leastSet_3 rfl rfl <| X_le (xle_s (xle_s (xle_s (xle_s (xle_n xle_0))))) k
theorem bX4_leastSet_4 {d : Nat} {g : xSt} {r : Option Value × xSt} {a1 a2 a3 : Int32} (k1 : a1 < a3 → xX (d + 1) mX4_leastSet 58 [none, none, some (.int a2), none, none] [] g = some r) (k2 : ¬ (a1 < a3) → xX (d + 1) mX4_leastSet 9 [some (.ref 88), some (.int a1), some (.int a2), some (.int a3), none] [] g = some r) : xX (d + 1) mX4_leastSet 4 [some (.ref 88), some (.int a1), some (.int a2), some (.int a3), none] [] g = some r :=
  Y_iload_n dX4_leastSet_4 rfl <| Y_iload_n dX4_leastSet_5 rfl <| Y_gt 58 dX4_leastSet_6 rfl (fun q => X_le (xle_n (xle_n (xle_s (xle_n (xle_n xle_0))))) (k1 q)) (fun q => X_le (xle_s (xle_s (xle_s (xle_s (xle_n xle_0))))) (k2 q))
theorem bX4_leastSet_9 {d : Nat} {g : xSt} {r : Option Value × xSt} {a1 a2 a3 : Int32} (W : xWf g) (k1 : (xat (xI g 89) 1024 (a1 ^^^ a3)) = 0 → xX (d + 1) mX4_leastSet 22 [some (.ref 88), some (.int a1), some (.int a2), some (.int a3), none] [] g = some r) (k2 : ¬ ((xat (xI g 89) 1024 (a1 ^^^ a3)) = 0) → xX (d + 1) mX4_leastSet 26 [some (.ref 88), some (.int a1), some (.int a2), some (.int a3), none] [] g = some r) : xX (d + 1) mX4_leastSet 9 [some (.ref 88), some (.int a1), some (.int a2), some (.int a3), none] [] g = some r :=
  Y_aload_n dX4_leastSet_9 rfl <| Y_getR dX4_leastSet_10 f_4_11 (by rw [ft_4_0]; rfl) (xis W 88 4 s_88 (Nat.le_of_ble_eq_true rfl)) (xptr W 88 0 p_88_0) <| Y_iload_n dX4_leastSet_13 rfl <| Y_iload_n dX4_leastSet_14 rfl <| Y_ixor dX4_leastSet_15 <| Y_callS1 dX4_leastSet_16 cl_4_30 rfl rfl rfl rfl rfl (c_at (xarr W (o := 89) s_89 (Nat.le_of_ble_eq_true rfl))) <| Y_ne0 26 dX4_leastSet_19 rfl (fun q => X_le (xle_s (xle_s (xle_s (xle_s (xle_n xle_0))))) (k1 q)) (fun q => X_le (xle_s (xle_s (xle_s (xle_s (xle_n xle_0))))) (k2 q))
theorem bX4_leastSet_22 {d : Nat} {g : xSt} {r : Option Value × xSt} {a1 a2 a3 : Int32} (k : xX (d + 1) mX4_leastSet 27 [some (.ref 88), some (.int a1), some (.int a2), some (.int a3), none] [.int 1] g = some r) : xX (d + 1) mX4_leastSet 22 [some (.ref 88), some (.int a1), some (.int a2), some (.int a3), none] [] g = some r :=
  Y_iconst 1 dX4_leastSet_22 ic_1 <| Y_goto 27 dX4_leastSet_23 rfl <| X_le (xle_s (xle_s (xle_s (xle_s (xle_n xle_0))))) k
theorem bX4_leastSet_26 {d : Nat} {g : xSt} {r : Option Value × xSt} {a1 a2 a3 : Int32} (k : xX (d + 1) mX4_leastSet 27 [some (.ref 88), some (.int a1), some (.int a2), some (.int a3), none] [.int 0] g = some r) : xX (d + 1) mX4_leastSet 26 [some (.ref 88), some (.int a1), some (.int a2), some (.int a3), none] [] g = some r :=
  Y_iconst 0 dX4_leastSet_26 ic_0 <| X_le (xle_s (xle_s (xle_s (xle_s (xle_n xle_0))))) k
theorem bX4_leastSet_27 {d : Nat} {g : xSt} {r : Option Value × xSt} {a1 a2 a3 s0 : Int32} (k1 : s0 = 0 → xX (d + 1) mX4_leastSet 52 [some (.ref 88), some (.int a1), some (.int a2), some (.int a3), none] [] g = some r) (k2 : ¬ (s0 = 0) → xX (d + 1) mX4_leastSet 34 [some (.ref 88), some (.int a1), some (.int a2), some (.int a3), none] [] g = some r) : xX (d + 1) mX4_leastSet 27 [some (.ref 88), some (.int a1), some (.int a2), some (.int a3), none] [.int s0] g = some r :=
  Y_istore dX4_leastSet_27 rfl rfl <| Y_iload dX4_leastSet_29 rfl <| Y_eq0 52 dX4_leastSet_31 rfl (fun q => X_le (xle_s (xle_s (xle_s (xle_s (xle_n xle_0))))) (k1 q)) (fun q => X_le (xle_s (xle_s (xle_s (xle_s (xle_n xle_0))))) (k2 q))
theorem bX4_leastSet_34 {d : Nat} {g : xSt} {r : Option Value × xSt} {a1 a2 a3 : Int32} (k1 : a2 = (-1) → xX (d + 1) mX4_leastSet 50 [some (.ref 88), some (.int a1), none, some (.int a3), none] [] g = some r) (k2 : ¬ (a2 = (-1)) → xX (d + 1) mX4_leastSet 39 [some (.ref 88), some (.int a1), some (.int a2), some (.int a3), none] [] g = some r) : xX (d + 1) mX4_leastSet 34 [some (.ref 88), some (.int a1), some (.int a2), some (.int a3), none] [] g = some r :=
  Y_iload_n dX4_leastSet_34 rfl <| Y_iconst (-1) dX4_leastSet_35 ic_m1 <| Y_eq 50 dX4_leastSet_36 rfl (fun q => X_le (xle_s (xle_s (xle_n (xle_s (xle_n xle_0))))) (k1 q)) (fun q => X_le (xle_s (xle_s (xle_s (xle_s (xle_n xle_0))))) (k2 q))
theorem bX4_leastSet_39 {d : Nat} {g : xSt} {r : Option Value × xSt} {a1 a2 a3 : Int32} (k1 : (xbci a2) ≤ (xbci a3) → xX (d + 1) mX4_leastSet 52 [some (.ref 88), some (.int a1), some (.int a2), some (.int a3), none] [] g = some r) (k2 : ¬ ((xbci a2) ≤ (xbci a3)) → xX (d + 1) mX4_leastSet 50 [some (.ref 88), some (.int a1), none, some (.int a3), none] [] g = some r) : xX (d + 1) mX4_leastSet 39 [some (.ref 88), some (.int a1), some (.int a2), some (.int a3), none] [] g = some r :=
  Y_iload_n dX4_leastSet_39 rfl <| Y_callS1 dX4_leastSet_40 cl_4_53 rfl rfl rfl rfl rfl (c_xbci) <| Y_iload_n dX4_leastSet_43 rfl <| Y_callS1 dX4_leastSet_44 cl_4_53 rfl rfl rfl rfl rfl (c_xbci) <| Y_ge 52 dX4_leastSet_47 rfl (fun q => X_le (xle_s (xle_s (xle_s (xle_s (xle_n xle_0))))) (k1 q)) (fun q => X_le (xle_s (xle_s (xle_n (xle_s (xle_n xle_0))))) (k2 q))
theorem bX4_leastSet_50 {d : Nat} {g : xSt} {r : Option Value × xSt} {a1 a3 : Int32} (k : xX (d + 1) mX4_leastSet 52 [some (.ref 88), some (.int a1), some (.int a3), some (.int a3), none] [] g = some r) : xX (d + 1) mX4_leastSet 50 [some (.ref 88), some (.int a1), none, some (.int a3), none] [] g = some r :=
  Y_iload_n dX4_leastSet_50 rfl <| Y_istore_n dX4_leastSet_51 rfl rfl <| X_le (xle_s (xle_s (xle_s (xle_s (xle_n xle_0))))) k
theorem bX4_leastSet_52 {d : Nat} {g : xSt} {r : Option Value × xSt} {a1 a2 a3 : Int32} (k : xX (d + 1) mX4_leastSet 4 [some (.ref 88), some (.int a1), some (.int a2), some (.int (a3 + 1)), none] [] g = some r) : xX (d + 1) mX4_leastSet 52 [some (.ref 88), some (.int a1), some (.int a2), some (.int a3), none] [] g = some r :=
  Y_iinc 1 dX4_leastSet_52 rfl ic_1 rfl rfl <| Y_goto 4 dX4_leastSet_55 rfl <| X_le (xle_s (xle_s (xle_s (xle_s (xle_n xle_0))))) k
theorem bX4_leastSet_58 {d : Nat} {g : xSt} {r : Option Value × xSt} {a2 : Int32} (k : r = (some (.int a2), g)) : xX (d + 1) mX4_leastSet 58 [none, none, some (.int a2), none, none] [] g = some r :=
  Y_iload_n dX4_leastSet_58 rfl <| Y_iret dX4_leastSet_59 rfl k
