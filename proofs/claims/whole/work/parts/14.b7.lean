theorem dX7_at_0 : decode mX7_at.2.1 0 = .ok (.iload_n 1, 1) := by decide +kernel
theorem dX7_at_1 : decode mX7_at.2.1 1 = .ok (.ifCond .lt 15, 3) := by decide +kernel
theorem dX7_at_4 : decode mX7_at.2.1 4 = .ok (.iload_n 1, 1) := by decide +kernel
theorem dX7_at_5 : decode mX7_at.2.1 5 = .ok (.aload_n 0, 1) := by decide +kernel
theorem dX7_at_6 : decode mX7_at.2.1 6 = .ok (.arraylength, 1) := by decide +kernel
theorem dX7_at_7 : decode mX7_at.2.1 7 = .ok (.if_icmp .ge 9, 3) := by decide +kernel
theorem dX7_at_10 : decode mX7_at.2.1 10 = .ok (.aload_n 0, 1) := by decide +kernel
theorem dX7_at_11 : decode mX7_at.2.1 11 = .ok (.iload_n 1, 1) := by decide +kernel
theorem dX7_at_12 : decode mX7_at.2.1 12 = .ok (.iaload, 1) := by decide +kernel
theorem dX7_at_13 : decode mX7_at.2.1 13 = .ok (.goto 4, 3) := by decide +kernel
theorem dX7_at_16 : decode mX7_at.2.1 16 = .ok (.iconst 0, 1) := by decide +kernel
theorem dX7_at_17 : decode mX7_at.2.1 17 = .ok (.ireturn, 1) := by decide +kernel
theorem dX7_at__0 : decode mX7_at_.2.1 0 = .ok (.iload_n 1, 1) := by decide +kernel
theorem dX7_at__1 : decode mX7_at_.2.1 1 = .ok (.ifCond .lt 15, 3) := by decide +kernel
theorem dX7_at__4 : decode mX7_at_.2.1 4 = .ok (.iload_n 1, 1) := by decide +kernel
theorem dX7_at__5 : decode mX7_at_.2.1 5 = .ok (.aload_n 0, 1) := by decide +kernel
theorem dX7_at__6 : decode mX7_at_.2.1 6 = .ok (.arraylength, 1) := by decide +kernel
theorem dX7_at__7 : decode mX7_at_.2.1 7 = .ok (.if_icmp .ge 9, 3) := by decide +kernel
theorem dX7_at__10 : decode mX7_at_.2.1 10 = .ok (.aload_n 0, 1) := by decide +kernel
theorem dX7_at__11 : decode mX7_at_.2.1 11 = .ok (.iload_n 1, 1) := by decide +kernel
theorem dX7_at__12 : decode mX7_at_.2.1 12 = .ok (.laload, 1) := by decide +kernel
theorem dX7_at__13 : decode mX7_at_.2.1 13 = .ok (.goto 4, 3) := by decide +kernel
theorem dX7_at__16 : decode mX7_at_.2.1 16 = .ok (.lconst 0, 1) := by decide +kernel
theorem dX7_at__17 : decode mX7_at_.2.1 17 = .ok (.lreturn, 1) := by decide +kernel
theorem dX7_put_0 : decode mX7_put.2.1 0 = .ok (.iload_n 1, 1) := by decide +kernel
theorem dX7_put_1 : decode mX7_put.2.1 1 = .ok (.ifCond .lt 13, 3) := by decide +kernel
theorem dX7_put_4 : decode mX7_put.2.1 4 = .ok (.iload_n 1, 1) := by decide +kernel
theorem dX7_put_5 : decode mX7_put.2.1 5 = .ok (.aload_n 0, 1) := by decide +kernel
theorem dX7_put_6 : decode mX7_put.2.1 6 = .ok (.arraylength, 1) := by decide +kernel
theorem dX7_put_7 : decode mX7_put.2.1 7 = .ok (.if_icmp .ge 7, 3) := by decide +kernel
theorem dX7_put_10 : decode mX7_put.2.1 10 = .ok (.aload_n 0, 1) := by decide +kernel
theorem dX7_put_11 : decode mX7_put.2.1 11 = .ok (.iload_n 1, 1) := by decide +kernel
theorem dX7_put_12 : decode mX7_put.2.1 12 = .ok (.iload_n 2, 1) := by decide +kernel
theorem dX7_put_13 : decode mX7_put.2.1 13 = .ok (.iastore, 1) := by decide +kernel
theorem dX7_put_14 : decode mX7_put.2.1 14 = .ok (.return_, 1) := by decide +kernel
theorem dX7_put__0 : decode mX7_put_.2.1 0 = .ok (.iload_n 1, 1) := by decide +kernel
theorem dX7_put__1 : decode mX7_put_.2.1 1 = .ok (.ifCond .lt 13, 3) := by decide +kernel
theorem dX7_put__4 : decode mX7_put_.2.1 4 = .ok (.iload_n 1, 1) := by decide +kernel
theorem dX7_put__5 : decode mX7_put_.2.1 5 = .ok (.aload_n 0, 1) := by decide +kernel
theorem dX7_put__6 : decode mX7_put_.2.1 6 = .ok (.arraylength, 1) := by decide +kernel
theorem dX7_put__7 : decode mX7_put_.2.1 7 = .ok (.if_icmp .ge 7, 3) := by decide +kernel
theorem dX7_put__10 : decode mX7_put_.2.1 10 = .ok (.aload_n 0, 1) := by decide +kernel
theorem dX7_put__11 : decode mX7_put_.2.1 11 = .ok (.iload_n 1, 1) := by decide +kernel
theorem dX7_put__12 : decode mX7_put_.2.1 12 = .ok (.lload_n 2, 1) := by decide +kernel
theorem dX7_put__13 : decode mX7_put_.2.1 13 = .ok (.lastore, 1) := by decide +kernel
theorem dX7_put__14 : decode mX7_put_.2.1 14 = .ok (.return_, 1) := by decide +kernel
theorem dX7_add_0 : decode mX7_add.2.1 0 = .ok (.iload_n 1, 1) := by decide +kernel
theorem dX7_add_1 : decode mX7_add.2.1 1 = .ok (.ifCond .lt 16, 3) := by decide +kernel
theorem dX7_add_4 : decode mX7_add.2.1 4 = .ok (.iload_n 1, 1) := by decide +kernel
theorem dX7_add_5 : decode mX7_add.2.1 5 = .ok (.aload_n 0, 1) := by decide +kernel
theorem dX7_add_6 : decode mX7_add.2.1 6 = .ok (.arraylength, 1) := by decide +kernel
theorem dX7_add_7 : decode mX7_add.2.1 7 = .ok (.if_icmp .ge 10, 3) := by decide +kernel
theorem dX7_add_10 : decode mX7_add.2.1 10 = .ok (.aload_n 0, 1) := by decide +kernel
theorem dX7_add_11 : decode mX7_add.2.1 11 = .ok (.iload_n 1, 1) := by decide +kernel
theorem dX7_add_12 : decode mX7_add.2.1 12 = .ok (.dup2, 1) := by decide +kernel
theorem dX7_add_13 : decode mX7_add.2.1 13 = .ok (.iaload, 1) := by decide +kernel
theorem dX7_add_14 : decode mX7_add.2.1 14 = .ok (.iload_n 2, 1) := by decide +kernel
theorem dX7_add_15 : decode mX7_add.2.1 15 = .ok (.iadd, 1) := by decide +kernel
theorem dX7_add_16 : decode mX7_add.2.1 16 = .ok (.iastore, 1) := by decide +kernel
theorem dX7_add_17 : decode mX7_add.2.1 17 = .ok (.return_, 1) := by decide +kernel
theorem dX7_fill_0 : decode mX7_fill.2.1 0 = .ok (.iconst 0, 1) := by decide +kernel
theorem dX7_fill_1 : decode mX7_fill.2.1 1 = .ok (.istore_n 2, 1) := by decide +kernel
theorem dX7_fill_2 : decode mX7_fill.2.1 2 = .ok (.iload_n 2, 1) := by decide +kernel
theorem dX7_fill_3 : decode mX7_fill.2.1 3 = .ok (.aload_n 0, 1) := by decide +kernel
theorem dX7_fill_4 : decode mX7_fill.2.1 4 = .ok (.arraylength, 1) := by decide +kernel
theorem dX7_fill_5 : decode mX7_fill.2.1 5 = .ok (.if_icmp .ge 13, 3) := by decide +kernel
theorem dX7_fill_8 : decode mX7_fill.2.1 8 = .ok (.aload_n 0, 1) := by decide +kernel
theorem dX7_fill_9 : decode mX7_fill.2.1 9 = .ok (.iload_n 2, 1) := by decide +kernel
theorem dX7_fill_10 : decode mX7_fill.2.1 10 = .ok (.iload_n 1, 1) := by decide +kernel
theorem dX7_fill_11 : decode mX7_fill.2.1 11 = .ok (.iastore, 1) := by decide +kernel
theorem dX7_fill_12 : decode mX7_fill.2.1 12 = .ok (.iinc 2 1, 3) := by decide +kernel
theorem dX7_fill_15 : decode mX7_fill.2.1 15 = .ok (.goto (-13), 3) := by decide +kernel
theorem dX7_fill_18 : decode mX7_fill.2.1 18 = .ok (.return_, 1) := by decide +kernel
theorem dX7_copy_0 : decode mX7_copy.2.1 0 = .ok (.iconst 0, 1) := by decide +kernel
theorem dX7_copy_1 : decode mX7_copy.2.1 1 = .ok (.istore_n 2, 1) := by decide +kernel
theorem dX7_copy_2 : decode mX7_copy.2.1 2 = .ok (.iload_n 2, 1) := by decide +kernel
theorem dX7_copy_3 : decode mX7_copy.2.1 3 = .ok (.aload_n 0, 1) := by decide +kernel
theorem dX7_copy_4 : decode mX7_copy.2.1 4 = .ok (.arraylength, 1) := by decide +kernel
theorem dX7_copy_5 : decode mX7_copy.2.1 5 = .ok (.if_icmp .ge 21, 3) := by decide +kernel
theorem dX7_copy_8 : decode mX7_copy.2.1 8 = .ok (.iload_n 2, 1) := by decide +kernel
theorem dX7_copy_9 : decode mX7_copy.2.1 9 = .ok (.aload_n 1, 1) := by decide +kernel
theorem dX7_copy_10 : decode mX7_copy.2.1 10 = .ok (.arraylength, 1) := by decide +kernel
theorem dX7_copy_11 : decode mX7_copy.2.1 11 = .ok (.if_icmp .ge 15, 3) := by decide +kernel
theorem dX7_copy_14 : decode mX7_copy.2.1 14 = .ok (.aload_n 1, 1) := by decide +kernel
theorem dX7_copy_15 : decode mX7_copy.2.1 15 = .ok (.iload_n 2, 1) := by decide +kernel
theorem dX7_copy_16 : decode mX7_copy.2.1 16 = .ok (.aload_n 0, 1) := by decide +kernel
theorem dX7_copy_17 : decode mX7_copy.2.1 17 = .ok (.iload_n 2, 1) := by decide +kernel
theorem dX7_copy_18 : decode mX7_copy.2.1 18 = .ok (.iaload, 1) := by decide +kernel
theorem dX7_copy_19 : decode mX7_copy.2.1 19 = .ok (.iastore, 1) := by decide +kernel
theorem dX7_copy_20 : decode mX7_copy.2.1 20 = .ok (.iinc 2 1, 3) := by decide +kernel
theorem dX7_copy_23 : decode mX7_copy.2.1 23 = .ok (.goto (-21), 3) := by decide +kernel
theorem dX7_copy_26 : decode mX7_copy.2.1 26 = .ok (.return_, 1) := by decide +kernel
theorem dX7_find_0 : decode mX7_find.2.1 0 = .ok (.iconst 0, 1) := by decide +kernel
theorem dX7_find_1 : decode mX7_find.2.1 1 = .ok (.istore 4, 2) := by decide +kernel
theorem dX7_find_3 : decode mX7_find.2.1 3 = .ok (.iload 4, 2) := by decide +kernel
theorem dX7_find_5 : decode mX7_find.2.1 5 = .ok (.iload_n 1, 1) := by decide +kernel
theorem dX7_find_6 : decode mX7_find.2.1 6 = .ok (.if_icmp .ge 28, 3) := by decide +kernel
theorem dX7_find_9 : decode mX7_find.2.1 9 = .ok (.iload 4, 2) := by decide +kernel
theorem dX7_find_11 : decode mX7_find.2.1 11 = .ok (.aload_n 0, 1) := by decide +kernel
theorem dX7_find_12 : decode mX7_find.2.1 12 = .ok (.arraylength, 1) := by decide +kernel
theorem dX7_find_13 : decode mX7_find.2.1 13 = .ok (.if_icmp .ge 21, 3) := by decide +kernel
theorem dX7_find_16 : decode mX7_find.2.1 16 = .ok (.aload_n 0, 1) := by decide +kernel
theorem dX7_find_17 : decode mX7_find.2.1 17 = .ok (.iload 4, 2) := by decide +kernel
theorem dX7_find_19 : decode mX7_find.2.1 19 = .ok (.laload, 1) := by decide +kernel
theorem dX7_find_20 : decode mX7_find.2.1 20 = .ok (.lload_n 2, 1) := by decide +kernel
theorem dX7_find_21 : decode mX7_find.2.1 21 = .ok (.lcmp, 1) := by decide +kernel
theorem dX7_find_22 : decode mX7_find.2.1 22 = .ok (.ifCond .ne 6, 3) := by decide +kernel
theorem dX7_find_25 : decode mX7_find.2.1 25 = .ok (.iload 4, 2) := by decide +kernel
theorem dX7_find_27 : decode mX7_find.2.1 27 = .ok (.ireturn, 1) := by decide +kernel
theorem dX7_find_28 : decode mX7_find.2.1 28 = .ok (.iinc 4 1, 3) := by decide +kernel
theorem dX7_find_31 : decode mX7_find.2.1 31 = .ok (.goto (-28), 3) := by decide +kernel
theorem dX7_find_34 : decode mX7_find.2.1 34 = .ok (.iconst (-1), 1) := by decide +kernel
theorem dX7_find_35 : decode mX7_find.2.1 35 = .ok (.ireturn, 1) := by decide +kernel
theorem dX7_hasBit_0 : decode mX7_hasBit.2.1 0 = .ok (.iload_n 1, 1) := by decide +kernel
theorem dX7_hasBit_1 : decode mX7_hasBit.2.1 1 = .ok (.ifCond .lt 21, 3) := by decide +kernel
theorem dX7_hasBit_4 : decode mX7_hasBit.2.1 4 = .ok (.iload_n 1, 1) := by decide +kernel
theorem dX7_hasBit_5 : decode mX7_hasBit.2.1 5 = .ok (.bipush 31, 2) := by decide +kernel
theorem dX7_hasBit_7 : decode mX7_hasBit.2.1 7 = .ok (.if_icmp .ge 15, 3) := by decide +kernel
theorem dX7_hasBit_10 : decode mX7_hasBit.2.1 10 = .ok (.iload_n 0, 1) := by decide +kernel
theorem dX7_hasBit_11 : decode mX7_hasBit.2.1 11 = .ok (.iload_n 1, 1) := by decide +kernel
theorem dX7_hasBit_12 : decode mX7_hasBit.2.1 12 = .ok (.ishr, 1) := by decide +kernel
theorem dX7_hasBit_13 : decode mX7_hasBit.2.1 13 = .ok (.iconst 1, 1) := by decide +kernel
theorem dX7_hasBit_14 : decode mX7_hasBit.2.1 14 = .ok (.iand, 1) := by decide +kernel
theorem dX7_hasBit_15 : decode mX7_hasBit.2.1 15 = .ok (.ifCond .eq 7, 3) := by decide +kernel
theorem dX7_hasBit_18 : decode mX7_hasBit.2.1 18 = .ok (.iconst 1, 1) := by decide +kernel
theorem dX7_hasBit_19 : decode mX7_hasBit.2.1 19 = .ok (.goto 4, 3) := by decide +kernel
theorem dX7_hasBit_22 : decode mX7_hasBit.2.1 22 = .ok (.iconst 0, 1) := by decide +kernel
theorem dX7_hasBit_23 : decode mX7_hasBit.2.1 23 = .ok (.ireturn, 1) := by decide +kernel
theorem bX7_at_0 {d : Nat} {g : xSt} {r : Option Value × xSt} {a1 : Int32} {o n : Nat} (ho : xArr g o .int n) (k1 : a1 < 0 → xX d mX7_at 16 [none, none] [] g = some r) (k2 : ¬ (a1 < 0) → xX d mX7_at 4 [some (.ref o), some (.int a1)] [] g = some r) : xX d mX7_at 0 [some (.ref o), some (.int a1)] [] g = some r :=
  Y_iload_n dX7_at_0 rfl <| Y_lt0 16 dX7_at_1 rfl (fun q => X_le (xle_n (xle_n xle_0)) (k1 q)) (fun q => X_le (xle_s (xle_s xle_0)) (k2 q))
theorem bX7_at_4 {d : Nat} {g : xSt} {r : Option Value × xSt} {a1 : Int32} {o n : Nat} (ho : xArr g o .int n) (k1 : (Int32.ofNat n) ≤ a1 → xX d mX7_at 16 [none, none] [] g = some r) (k2 : ¬ ((Int32.ofNat n) ≤ a1) → xX d mX7_at 10 [some (.ref o), some (.int a1)] [] g = some r) : xX d mX7_at 4 [some (.ref o), some (.int a1)] [] g = some r :=
  Y_iload_n dX7_at_4 rfl <| Y_aload_n dX7_at_5 rfl <| Y_alen (Int32.ofNat n) dX7_at_6 (ho) rfl rfl <| Y_ge 16 dX7_at_7 rfl (fun q => X_le (xle_n (xle_n xle_0)) (k1 q)) (fun q => X_le (xle_s (xle_s xle_0)) (k2 q))
theorem bX7_at_10 {d : Nat} {g : xSt} {r : Option Value × xSt} {a1 : Int32} {o n : Nat} (ho : xArr g o .int n) (hi12 : vp_in a1 n) (k : xX d mX7_at 17 [none, none] [.int (xI g o a1.toNatClampNeg)] g = some r) : xX d mX7_at 10 [some (.ref o), some (.int a1)] [] g = some r :=
  Y_aload_n dX7_at_10 rfl <| Y_iload_n dX7_at_11 rfl <| Y_iald dX7_at_12 (ho) hi12 <| Y_goto 17 dX7_at_13 rfl <| X_le (xle_n (xle_n xle_0)) k
theorem bX7_at_16 {d : Nat} {g : xSt} {r : Option Value × xSt}  (k : xX d mX7_at 17 [none, none] [.int 0] g = some r) : xX d mX7_at 16 [none, none] [] g = some r :=
  Y_iconst 0 dX7_at_16 ic_0 <| X_le (xle_n (xle_n xle_0)) k
theorem bX7_at_17 {d : Nat} {g : xSt} {r : Option Value × xSt} {s0 : Int32} (k : r = (some (.int s0), g)) : xX d mX7_at 17 [none, none] [.int s0] g = some r :=
  Y_iret dX7_at_17 rfl k
theorem bX7_at__0 {d : Nat} {g : xSt} {r : Option Value × xSt} {a1 : Int32} {o n : Nat} (ho : xArr g o .long n) (k1 : a1 < 0 → xX d mX7_at_ 16 [none, none] [] g = some r) (k2 : ¬ (a1 < 0) → xX d mX7_at_ 4 [some (.ref o), some (.int a1)] [] g = some r) : xX d mX7_at_ 0 [some (.ref o), some (.int a1)] [] g = some r :=
  Y_iload_n dX7_at__0 rfl <| Y_lt0 16 dX7_at__1 rfl (fun q => X_le (xle_n (xle_n xle_0)) (k1 q)) (fun q => X_le (xle_s (xle_s xle_0)) (k2 q))
theorem bX7_at__4 {d : Nat} {g : xSt} {r : Option Value × xSt} {a1 : Int32} {o n : Nat} (ho : xArr g o .long n) (k1 : (Int32.ofNat n) ≤ a1 → xX d mX7_at_ 16 [none, none] [] g = some r) (k2 : ¬ ((Int32.ofNat n) ≤ a1) → xX d mX7_at_ 10 [some (.ref o), some (.int a1)] [] g = some r) : xX d mX7_at_ 4 [some (.ref o), some (.int a1)] [] g = some r :=
  Y_iload_n dX7_at__4 rfl <| Y_aload_n dX7_at__5 rfl <| Y_alen (Int32.ofNat n) dX7_at__6 (ho) rfl rfl <| Y_ge 16 dX7_at__7 rfl (fun q => X_le (xle_n (xle_n xle_0)) (k1 q)) (fun q => X_le (xle_s (xle_s xle_0)) (k2 q))
theorem bX7_at__10 {d : Nat} {g : xSt} {r : Option Value × xSt} {a1 : Int32} {o n : Nat} (ho : xArr g o .long n) (hi12 : vp_in a1 n) (k : xX d mX7_at_ 17 [none, none] [.long (xL g o a1.toNatClampNeg)] g = some r) : xX d mX7_at_ 10 [some (.ref o), some (.int a1)] [] g = some r :=
  Y_aload_n dX7_at__10 rfl <| Y_iload_n dX7_at__11 rfl <| Y_lald dX7_at__12 (ho) hi12 <| Y_goto 17 dX7_at__13 rfl <| X_le (xle_n (xle_n xle_0)) k
theorem bX7_at__16 {d : Nat} {g : xSt} {r : Option Value × xSt}  (k : xX d mX7_at_ 17 [none, none] [.long 0] g = some r) : xX d mX7_at_ 16 [none, none] [] g = some r :=
  Y_lconst 0 dX7_at__16 rfl <| X_le (xle_n (xle_n xle_0)) k
theorem bX7_at__17 {d : Nat} {g : xSt} {r : Option Value × xSt} {s0 : Int64} (k : r = (some (.long s0), g)) : xX d mX7_at_ 17 [none, none] [.long s0] g = some r :=
  Y_lret dX7_at__17 rfl k
theorem bX7_put_0 {d : Nat} {g : xSt} {r : Option Value × xSt} {a1 a2 : Int32} {o n : Nat} (ho : xArr g o .int n) (k1 : a1 < 0 → xX d mX7_put 14 [none, none, none] [] g = some r) (k2 : ¬ (a1 < 0) → xX d mX7_put 4 [some (.ref o), some (.int a1), some (.int a2)] [] g = some r) : xX d mX7_put 0 [some (.ref o), some (.int a1), some (.int a2)] [] g = some r :=
  Y_iload_n dX7_put_0 rfl <| Y_lt0 14 dX7_put_1 rfl (fun q => X_le (xle_n (xle_n (xle_n xle_0))) (k1 q)) (fun q => X_le (xle_s (xle_s (xle_s xle_0))) (k2 q))
theorem bX7_put_4 {d : Nat} {g : xSt} {r : Option Value × xSt} {a1 a2 : Int32} {o n : Nat} (ho : xArr g o .int n) (k1 : (Int32.ofNat n) ≤ a1 → xX d mX7_put 14 [none, none, none] [] g = some r) (k2 : ¬ ((Int32.ofNat n) ≤ a1) → xX d mX7_put 10 [some (.ref o), some (.int a1), some (.int a2)] [] g = some r) : xX d mX7_put 4 [some (.ref o), some (.int a1), some (.int a2)] [] g = some r :=
  Y_iload_n dX7_put_4 rfl <| Y_aload_n dX7_put_5 rfl <| Y_alen (Int32.ofNat n) dX7_put_6 (ho) rfl rfl <| Y_ge 14 dX7_put_7 rfl (fun q => X_le (xle_n (xle_n (xle_n xle_0))) (k1 q)) (fun q => X_le (xle_s (xle_s (xle_s xle_0))) (k2 q))
theorem bX7_put_10 {d : Nat} {g : xSt} {r : Option Value × xSt} {a1 a2 : Int32} {o n : Nat} (ho : xArr g o .int n) (hi13 : vp_in a1 n) (k : xX d mX7_put 14 [none, none, none] [] (xWI g o a1.toNatClampNeg a2) = some r) : xX d mX7_put 10 [some (.ref o), some (.int a1), some (.int a2)] [] g = some r :=
  Y_aload_n dX7_put_10 rfl <| Y_iload_n dX7_put_11 rfl <| Y_iload_n dX7_put_12 rfl <| Y_iast dX7_put_13 (ho) hi13 <| X_le (xle_n (xle_n (xle_n xle_0))) k
theorem bX7_put_14 {d : Nat} {g : xSt} {r : Option Value × xSt}  (k : r = (none, g)) : xX d mX7_put 14 [none, none, none] [] g = some r :=
  Y_ret dX7_put_14 rfl k
theorem bX7_put__0 {d : Nat} {g : xSt} {r : Option Value × xSt} {a1 : Int32} {a2 : Int64} {o n : Nat} (ho : xArr g o .long n) (k1 : a1 < 0 → xX d mX7_put_ 14 [none, none, none, none] [] g = some r) (k2 : ¬ (a1 < 0) → xX d mX7_put_ 4 [some (.ref o), some (.int a1), some (.long a2), none] [] g = some r) : xX d mX7_put_ 0 [some (.ref o), some (.int a1), some (.long a2), none] [] g = some r :=
  Y_iload_n dX7_put__0 rfl <| Y_lt0 14 dX7_put__1 rfl (fun q => X_le (xle_n (xle_n (xle_n (xle_n xle_0)))) (k1 q)) (fun q => X_le (xle_s (xle_s (xle_s (xle_n xle_0)))) (k2 q))
theorem bX7_put__4 {d : Nat} {g : xSt} {r : Option Value × xSt} {a1 : Int32} {a2 : Int64} {o n : Nat} (ho : xArr g o .long n) (k1 : (Int32.ofNat n) ≤ a1 → xX d mX7_put_ 14 [none, none, none, none] [] g = some r) (k2 : ¬ ((Int32.ofNat n) ≤ a1) → xX d mX7_put_ 10 [some (.ref o), some (.int a1), some (.long a2), none] [] g = some r) : xX d mX7_put_ 4 [some (.ref o), some (.int a1), some (.long a2), none] [] g = some r :=
  Y_iload_n dX7_put__4 rfl <| Y_aload_n dX7_put__5 rfl <| Y_alen (Int32.ofNat n) dX7_put__6 (ho) rfl rfl <| Y_ge 14 dX7_put__7 rfl (fun q => X_le (xle_n (xle_n (xle_n (xle_n xle_0)))) (k1 q)) (fun q => X_le (xle_s (xle_s (xle_s (xle_n xle_0)))) (k2 q))
theorem bX7_put__10 {d : Nat} {g : xSt} {r : Option Value × xSt} {a1 : Int32} {a2 : Int64} {o n : Nat} (ho : xArr g o .long n) (hi13 : vp_in a1 n) (k : xX d mX7_put_ 14 [none, none, none, none] [] (xWL g o a1.toNatClampNeg a2) = some r) : xX d mX7_put_ 10 [some (.ref o), some (.int a1), some (.long a2), none] [] g = some r :=
  Y_aload_n dX7_put__10 rfl <| Y_iload_n dX7_put__11 rfl <| Y_lload_n dX7_put__12 rfl <| Y_last dX7_put__13 (ho) hi13 <| X_le (xle_n (xle_n (xle_n (xle_n xle_0)))) k
theorem bX7_put__14 {d : Nat} {g : xSt} {r : Option Value × xSt}  (k : r = (none, g)) : xX d mX7_put_ 14 [none, none, none, none] [] g = some r :=
  Y_ret dX7_put__14 rfl k
theorem bX7_add_0 {d : Nat} {g : xSt} {r : Option Value × xSt} {a1 a2 : Int32} {o n : Nat} (ho : xArr g o .int n) (k1 : a1 < 0 → xX d mX7_add 17 [none, none, none] [] g = some r) (k2 : ¬ (a1 < 0) → xX d mX7_add 4 [some (.ref o), some (.int a1), some (.int a2)] [] g = some r) : xX d mX7_add 0 [some (.ref o), some (.int a1), some (.int a2)] [] g = some r :=
  Y_iload_n dX7_add_0 rfl <| Y_lt0 17 dX7_add_1 rfl (fun q => X_le (xle_n (xle_n (xle_n xle_0))) (k1 q)) (fun q => X_le (xle_s (xle_s (xle_s xle_0))) (k2 q))
theorem bX7_add_4 {d : Nat} {g : xSt} {r : Option Value × xSt} {a1 a2 : Int32} {o n : Nat} (ho : xArr g o .int n) (k1 : (Int32.ofNat n) ≤ a1 → xX d mX7_add 17 [none, none, none] [] g = some r) (k2 : ¬ ((Int32.ofNat n) ≤ a1) → xX d mX7_add 10 [some (.ref o), some (.int a1), some (.int a2)] [] g = some r) : xX d mX7_add 4 [some (.ref o), some (.int a1), some (.int a2)] [] g = some r :=
  Y_iload_n dX7_add_4 rfl <| Y_aload_n dX7_add_5 rfl <| Y_alen (Int32.ofNat n) dX7_add_6 (ho) rfl rfl <| Y_ge 17 dX7_add_7 rfl (fun q => X_le (xle_n (xle_n (xle_n xle_0))) (k1 q)) (fun q => X_le (xle_s (xle_s (xle_s xle_0))) (k2 q))
theorem bX7_add_10 {d : Nat} {g : xSt} {r : Option Value × xSt} {a1 a2 : Int32} {o n : Nat} (ho : xArr g o .int n) (hi13 : vp_in a1 n) (hi16 : vp_in a1 n) (k : xX d mX7_add 17 [none, none, none] [] (xWI g o a1.toNatClampNeg ((xI g o a1.toNatClampNeg) + a2)) = some r) : xX d mX7_add 10 [some (.ref o), some (.int a1), some (.int a2)] [] g = some r :=
  Y_aload_n dX7_add_10 rfl <| Y_iload_n dX7_add_11 rfl <| Y_dup2 dX7_add_12 rfl rfl <| Y_iald dX7_add_13 (ho) hi13 <| Y_iload_n dX7_add_14 rfl <| Y_iadd dX7_add_15 <| Y_iast dX7_add_16 (ho) hi16 <| X_le (xle_n (xle_n (xle_n xle_0))) k
theorem bX7_add_17 {d : Nat} {g : xSt} {r : Option Value × xSt}  (k : r = (none, g)) : xX d mX7_add 17 [none, none, none] [] g = some r :=
  Y_ret dX7_add_17 rfl k
theorem bX7_fill_0 {d : Nat} {g : xSt} {r : Option Value × xSt} {a1 : Int32} {o n : Nat} (ho : xArr g o .int n) (k : xX d mX7_fill 2 [some (.ref o), some (.int a1), some (.int 0)] [] g = some r) : xX d mX7_fill 0 [some (.ref o), some (.int a1), none] [] g = some r :=
  Y_iconst 0 dX7_fill_0 ic_0 <| Y_istore_n dX7_fill_1 rfl rfl <| X_le (xle_s (xle_s (xle_s xle_0))) k
theorem bX7_fill_2 {d : Nat} {g : xSt} {r : Option Value × xSt} {a1 a2 : Int32} {o n : Nat} (ho : xArr g o .int n) (k1 : (Int32.ofNat n) ≤ a2 → xX d mX7_fill 18 [none, none, none] [] g = some r) (k2 : ¬ ((Int32.ofNat n) ≤ a2) → xX d mX7_fill 8 [some (.ref o), some (.int a1), some (.int a2)] [] g = some r) : xX d mX7_fill 2 [some (.ref o), some (.int a1), some (.int a2)] [] g = some r :=
  Y_iload_n dX7_fill_2 rfl <| Y_aload_n dX7_fill_3 rfl <| Y_alen (Int32.ofNat n) dX7_fill_4 (ho) rfl rfl <| Y_ge 18 dX7_fill_5 rfl (fun q => X_le (xle_n (xle_n (xle_n xle_0))) (k1 q)) (fun q => X_le (xle_s (xle_s (xle_s xle_0))) (k2 q))
theorem bX7_fill_8 {d : Nat} {g : xSt} {r : Option Value × xSt} {a1 a2 : Int32} {o n : Nat} (ho : xArr g o .int n) (hi11 : vp_in a2 n) (k : xX d mX7_fill 2 [some (.ref o), some (.int a1), some (.int (a2 + 1))] [] (xWI g o a2.toNatClampNeg a1) = some r) : xX d mX7_fill 8 [some (.ref o), some (.int a1), some (.int a2)] [] g = some r :=
  Y_aload_n dX7_fill_8 rfl <| Y_iload_n dX7_fill_9 rfl <| Y_iload_n dX7_fill_10 rfl <| Y_iast dX7_fill_11 (ho) hi11 <| Y_iinc 1 dX7_fill_12 rfl ic_1 rfl rfl <| Y_goto 2 dX7_fill_15 rfl <| X_le (xle_s (xle_s (xle_s xle_0))) k
theorem bX7_fill_18 {d : Nat} {g : xSt} {r : Option Value × xSt}  (k : r = (none, g)) : xX d mX7_fill 18 [none, none, none] [] g = some r :=
  Y_ret dX7_fill_18 rfl k
theorem bX7_copy_0 {d : Nat} {g : xSt} {r : Option Value × xSt} {o n c n2 : Nat} (ho : xArr g o .int n) (hc : xArr g c .int n2) (k : xX d mX7_copy 2 [some (.ref o), some (.ref c), some (.int 0)] [] g = some r) : xX d mX7_copy 0 [some (.ref o), some (.ref c), none] [] g = some r :=
  Y_iconst 0 dX7_copy_0 ic_0 <| Y_istore_n dX7_copy_1 rfl rfl <| X_le (xle_s (xle_s (xle_s xle_0))) k
theorem bX7_copy_2 {d : Nat} {g : xSt} {r : Option Value × xSt} {a2 : Int32} {o n c n2 : Nat} (ho : xArr g o .int n) (hc : xArr g c .int n2) (k1 : (Int32.ofNat n) ≤ a2 → xX d mX7_copy 26 [none, none, none] [] g = some r) (k2 : ¬ ((Int32.ofNat n) ≤ a2) → xX d mX7_copy 8 [some (.ref o), some (.ref c), some (.int a2)] [] g = some r) : xX d mX7_copy 2 [some (.ref o), some (.ref c), some (.int a2)] [] g = some r :=
  Y_iload_n dX7_copy_2 rfl <| Y_aload_n dX7_copy_3 rfl <| Y_alen (Int32.ofNat n) dX7_copy_4 (ho) rfl rfl <| Y_ge 26 dX7_copy_5 rfl (fun q => X_le (xle_n (xle_n (xle_n xle_0))) (k1 q)) (fun q => X_le (xle_s (xle_s (xle_s xle_0))) (k2 q))
theorem bX7_copy_8 {d : Nat} {g : xSt} {r : Option Value × xSt} {a2 : Int32} {o n c n2 : Nat} (ho : xArr g o .int n) (hc : xArr g c .int n2) (k1 : (Int32.ofNat n2) ≤ a2 → xX d mX7_copy 26 [none, none, none] [] g = some r) (k2 : ¬ ((Int32.ofNat n2) ≤ a2) → xX d mX7_copy 14 [some (.ref o), some (.ref c), some (.int a2)] [] g = some r) : xX d mX7_copy 8 [some (.ref o), some (.ref c), some (.int a2)] [] g = some r :=
  Y_iload_n dX7_copy_8 rfl <| Y_aload_n dX7_copy_9 rfl <| Y_alen (Int32.ofNat n2) dX7_copy_10 (hc) rfl rfl <| Y_ge 26 dX7_copy_11 rfl (fun q => X_le (xle_n (xle_n (xle_n xle_0))) (k1 q)) (fun q => X_le (xle_s (xle_s (xle_s xle_0))) (k2 q))
theorem bX7_copy_14 {d : Nat} {g : xSt} {r : Option Value × xSt} {a2 : Int32} {o n c n2 : Nat} (ho : xArr g o .int n) (hc : xArr g c .int n2) (hi18 : vp_in a2 n) (hi19 : vp_in a2 n2) (k : xX d mX7_copy 2 [some (.ref o), some (.ref c), some (.int (a2 + 1))] [] (xWI g c a2.toNatClampNeg (xI g o a2.toNatClampNeg)) = some r) : xX d mX7_copy 14 [some (.ref o), some (.ref c), some (.int a2)] [] g = some r :=
  Y_aload_n dX7_copy_14 rfl <| Y_iload_n dX7_copy_15 rfl <| Y_aload_n dX7_copy_16 rfl <| Y_iload_n dX7_copy_17 rfl <| Y_iald dX7_copy_18 (ho) hi18 <| Y_iast dX7_copy_19 (hc) hi19 <| Y_iinc 1 dX7_copy_20 rfl ic_1 rfl rfl <| Y_goto 2 dX7_copy_23 rfl <| X_le (xle_s (xle_s (xle_s xle_0))) k
theorem bX7_copy_26 {d : Nat} {g : xSt} {r : Option Value × xSt}  (k : r = (none, g)) : xX d mX7_copy 26 [none, none, none] [] g = some r :=
  Y_ret dX7_copy_26 rfl k
theorem bX7_find_0 {d : Nat} {g : xSt} {r : Option Value × xSt} {a1 : Int32} {a2 : Int64} {o n : Nat} (ho : xArr g o .long n) (k : xX d mX7_find 3 [some (.ref o), some (.int a1), some (.long a2), none, some (.int 0)] [] g = some r) : xX d mX7_find 0 [some (.ref o), some (.int a1), some (.long a2), none, none] [] g = some r :=
  Y_iconst 0 dX7_find_0 ic_0 <| Y_istore dX7_find_1 rfl rfl <| X_le (xle_s (xle_s (xle_s (xle_n (xle_s xle_0))))) k
theorem bX7_find_3 {d : Nat} {g : xSt} {r : Option Value × xSt} {a1 a4 : Int32} {a2 : Int64} {o n : Nat} (ho : xArr g o .long n) (k1 : a1 ≤ a4 → xX d mX7_find 34 [none, none, none, none, none] [] g = some r) (k2 : ¬ (a1 ≤ a4) → xX d mX7_find 9 [some (.ref o), some (.int a1), some (.long a2), none, some (.int a4)] [] g = some r) : xX d mX7_find 3 [some (.ref o), some (.int a1), some (.long a2), none, some (.int a4)] [] g = some r :=
  Y_iload dX7_find_3 rfl <| Y_iload_n dX7_find_5 rfl <| Y_ge 34 dX7_find_6 rfl (fun q => X_le (xle_n (xle_n (xle_n (xle_n (xle_n xle_0))))) (k1 q)) (fun q => X_le (xle_s (xle_s (xle_s (xle_n (xle_s xle_0))))) (k2 q))
theorem bX7_find_9 {d : Nat} {g : xSt} {r : Option Value × xSt} {a1 a4 : Int32} {a2 : Int64} {o n : Nat} (ho : xArr g o .long n) (k1 : (Int32.ofNat n) ≤ a4 → xX d mX7_find 34 [none, none, none, none, none] [] g = some r) (k2 : ¬ ((Int32.ofNat n) ≤ a4) → xX d mX7_find 16 [some (.ref o), some (.int a1), some (.long a2), none, some (.int a4)] [] g = some r) : xX d mX7_find 9 [some (.ref o), some (.int a1), some (.long a2), none, some (.int a4)] [] g = some r :=
  Y_iload dX7_find_9 rfl <| Y_aload_n dX7_find_11 rfl <| Y_alen (Int32.ofNat n) dX7_find_12 (ho) rfl rfl <| Y_ge 34 dX7_find_13 rfl (fun q => X_le (xle_n (xle_n (xle_n (xle_n (xle_n xle_0))))) (k1 q)) (fun q => X_le (xle_s (xle_s (xle_s (xle_n (xle_s xle_0))))) (k2 q))
theorem bX7_find_16 {d : Nat} {g : xSt} {r : Option Value × xSt} {a1 a4 : Int32} {a2 : Int64} {o n : Nat} (ho : xArr g o .long n) (hi19 : vp_in a4 n) (k1 : (lg_cmp (xL g o a4.toNatClampNeg) a2) = 0 → xX d mX7_find 25 [none, none, none, none, some (.int a4)] [] g = some r) (k2 : ¬ ((lg_cmp (xL g o a4.toNatClampNeg) a2) = 0) → xX d mX7_find 28 [some (.ref o), some (.int a1), some (.long a2), none, some (.int a4)] [] g = some r) : xX d mX7_find 16 [some (.ref o), some (.int a1), some (.long a2), none, some (.int a4)] [] g = some r :=
  Y_aload_n dX7_find_16 rfl <| Y_iload dX7_find_17 rfl <| Y_lald dX7_find_19 (ho) hi19 <| Y_lload_n dX7_find_20 rfl <| Y_lcmp dX7_find_21 <| Y_ne0 28 dX7_find_22 rfl (fun q => X_le (xle_n (xle_n (xle_n (xle_n (xle_s xle_0))))) (k1 q)) (fun q => X_le (xle_s (xle_s (xle_s (xle_n (xle_s xle_0))))) (k2 q))
theorem bX7_find_25 {d : Nat} {g : xSt} {r : Option Value × xSt} {a4 : Int32} (k : r = (some (.int a4), g)) : xX d mX7_find 25 [none, none, none, none, some (.int a4)] [] g = some r :=
  Y_iload dX7_find_25 rfl <| Y_iret dX7_find_27 rfl k
theorem bX7_find_28 {d : Nat} {g : xSt} {r : Option Value × xSt} {a1 a4 : Int32} {a2 : Int64} {o n : Nat} (ho : xArr g o .long n) (k : xX d mX7_find 3 [some (.ref o), some (.int a1), some (.long a2), none, some (.int (a4 + 1))] [] g = some r) : xX d mX7_find 28 [some (.ref o), some (.int a1), some (.long a2), none, some (.int a4)] [] g = some r :=
  Y_iinc 1 dX7_find_28 rfl ic_1 rfl rfl <| Y_goto 3 dX7_find_31 rfl <| X_le (xle_s (xle_s (xle_s (xle_n (xle_s xle_0))))) k
theorem bX7_find_34 {d : Nat} {g : xSt} {r : Option Value × xSt}  (k : r = (some (.int (-1)), g)) : xX d mX7_find 34 [none, none, none, none, none] [] g = some r :=
  Y_iconst (-1) dX7_find_34 ic_m1 <| Y_iret dX7_find_35 rfl k
theorem bX7_hasBit_0 {d : Nat} {g : xSt} {r : Option Value × xSt} {a0 a1 : Int32} (k1 : a1 < 0 → xX d mX7_hasBit 22 [none, none] [] g = some r) (k2 : ¬ (a1 < 0) → xX d mX7_hasBit 4 [some (.int a0), some (.int a1)] [] g = some r) : xX d mX7_hasBit 0 [some (.int a0), some (.int a1)] [] g = some r :=
  Y_iload_n dX7_hasBit_0 rfl <| Y_lt0 22 dX7_hasBit_1 rfl (fun q => X_le (xle_n (xle_n xle_0)) (k1 q)) (fun q => X_le (xle_s (xle_s xle_0)) (k2 q))
theorem bX7_hasBit_4 {d : Nat} {g : xSt} {r : Option Value × xSt} {a0 a1 : Int32} (k1 : 31 ≤ a1 → xX d mX7_hasBit 22 [none, none] [] g = some r) (k2 : ¬ (31 ≤ a1) → xX d mX7_hasBit 10 [some (.int a0), some (.int a1)] [] g = some r) : xX d mX7_hasBit 4 [some (.int a0), some (.int a1)] [] g = some r :=
  Y_iload_n dX7_hasBit_4 rfl <| Y_bipush 31 dX7_hasBit_5 bp_31 <| Y_ge 22 dX7_hasBit_7 rfl (fun q => X_le (xle_n (xle_n xle_0)) (k1 q)) (fun q => X_le (xle_s (xle_s xle_0)) (k2 q))
theorem bX7_hasBit_10 {d : Nat} {g : xSt} {r : Option Value × xSt} {a0 a1 : Int32} (k1 : ((a0 >>> (a1 &&& 31)) &&& 1) = 0 → xX d mX7_hasBit 22 [none, none] [] g = some r) (k2 : ¬ (((a0 >>> (a1 &&& 31)) &&& 1) = 0) → xX d mX7_hasBit 18 [none, none] [] g = some r) : xX d mX7_hasBit 10 [some (.int a0), some (.int a1)] [] g = some r :=
  Y_iload_n dX7_hasBit_10 rfl <| Y_iload_n dX7_hasBit_11 rfl <| Y_ishr dX7_hasBit_12 <| Y_iconst 1 dX7_hasBit_13 ic_1 <| Y_iand dX7_hasBit_14 <| Y_eq0 22 dX7_hasBit_15 rfl (fun q => X_le (xle_n (xle_n xle_0)) (k1 q)) (fun q => X_le (xle_n (xle_n xle_0)) (k2 q))
theorem bX7_hasBit_18 {d : Nat} {g : xSt} {r : Option Value × xSt}  (k : xX d mX7_hasBit 23 [none, none] [.int 1] g = some r) : xX d mX7_hasBit 18 [none, none] [] g = some r :=
  Y_iconst 1 dX7_hasBit_18 ic_1 <| Y_goto 23 dX7_hasBit_19 rfl <| X_le (xle_n (xle_n xle_0)) k
theorem bX7_hasBit_22 {d : Nat} {g : xSt} {r : Option Value × xSt}  (k : xX d mX7_hasBit 23 [none, none] [.int 0] g = some r) : xX d mX7_hasBit 22 [none, none] [] g = some r :=
  Y_iconst 0 dX7_hasBit_22 ic_0 <| X_le (xle_n (xle_n xle_0)) k
theorem bX7_hasBit_23 {d : Nat} {g : xSt} {r : Option Value × xSt} {s0 : Int32} (hz23 : s0 = 0 ∨ s0 = 1) (k : r = (some (.int s0), g)) : xX d mX7_hasBit 23 [none, none] [.int s0] g = some r :=
  Y_zret dX7_hasBit_23 rfl (hz23) k
