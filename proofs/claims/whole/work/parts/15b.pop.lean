/-! the JDK's bit counts, as they stand; and what they are: 15.pop -/
def bi1 (a : Int32) : Int32 := a - ((Int32.toUInt32 a >>> (Int32.toUInt32 1 &&& Int32.toUInt32 31)).toInt32 &&& 1431655765)
def bi2 (a : Int32) : Int32 := (a &&& 858993459) + ((Int32.toUInt32 a >>> (Int32.toUInt32 2 &&& Int32.toUInt32 31)).toInt32 &&& 858993459)
def bi3 (a : Int32) : Int32 := (a + (Int32.toUInt32 a >>> (Int32.toUInt32 4 &&& Int32.toUInt32 31)).toInt32) &&& 252645135
def bi4 (a : Int32) : Int32 := a + (Int32.toUInt32 a >>> (Int32.toUInt32 8 &&& Int32.toUInt32 31)).toInt32
def bi5 (a : Int32) : Int32 := a + (Int32.toUInt32 a >>> (Int32.toUInt32 16 &&& Int32.toUInt32 31)).toInt32
def xbci (a : Int32) : Int32 := bi5 (bi4 (bi3 (bi2 (bi1 a)))) &&& 63
def bl1 (a : Int64) : Int64 := a - ((Int64.toUInt64 a >>> ((Int32.toInt64 1).toUInt64 &&& Int64.toUInt64 63)).toInt64 &&& 6148914691236517205)
def bl2 (a : Int64) : Int64 := (a &&& 3689348814741910323) + ((Int64.toUInt64 a >>> ((Int32.toInt64 2).toUInt64 &&& Int64.toUInt64 63)).toInt64 &&& 3689348814741910323)
def bl3 (a : Int64) : Int64 := (a + (Int64.toUInt64 a >>> ((Int32.toInt64 4).toUInt64 &&& Int64.toUInt64 63)).toInt64) &&& 1085102592571150095
def bl4 (a : Int64) : Int64 := a + (Int64.toUInt64 a >>> ((Int32.toInt64 8).toUInt64 &&& Int64.toUInt64 63)).toInt64
def bl5 (a : Int64) : Int64 := a + (Int64.toUInt64 a >>> ((Int32.toInt64 16).toUInt64 &&& Int64.toUInt64 63)).toInt64
def bl6 (a : Int64) : Int64 := a + (Int64.toUInt64 a >>> ((Int32.toInt64 32).toUInt64 &&& Int64.toUInt64 63)).toInt64
def xbcl (a : Int64) : Int32 := Int64.toInt32 (bl6 (bl5 (bl4 (bl3 (bl2 (bl1 a)))))) &&& 127
def xlow (a : Int64) : Int32 := xbcl ((a &&& (-a)) - 1)
theorem dJ6_bitCount_0f7a4_0 : decode mJ6_bitCount_0f7a4.2.1 0 = .ok (.iload_n 0, 1) := by decide +kernel
theorem dJ6_bitCount_0f7a4_1 : decode mJ6_bitCount_0f7a4.2.1 1 = .ok (.iload_n 0, 1) := by decide +kernel
theorem dJ6_bitCount_0f7a4_2 : decode mJ6_bitCount_0f7a4.2.1 2 = .ok (.iconst 1, 1) := by decide +kernel
theorem dJ6_bitCount_0f7a4_3 : decode mJ6_bitCount_0f7a4.2.1 3 = .ok (.iushr, 1) := by decide +kernel
theorem dJ6_bitCount_0f7a4_4 : decode mJ6_bitCount_0f7a4.2.1 4 = .ok (.ldc_w 265, 3) := by decide +kernel
theorem dJ6_bitCount_0f7a4_7 : decode mJ6_bitCount_0f7a4.2.1 7 = .ok (.iand, 1) := by decide +kernel
theorem dJ6_bitCount_0f7a4_8 : decode mJ6_bitCount_0f7a4.2.1 8 = .ok (.isub, 1) := by decide +kernel
theorem dJ6_bitCount_0f7a4_9 : decode mJ6_bitCount_0f7a4.2.1 9 = .ok (.istore_n 0, 1) := by decide +kernel
theorem dJ6_bitCount_0f7a4_10 : decode mJ6_bitCount_0f7a4.2.1 10 = .ok (.iload_n 0, 1) := by decide +kernel
theorem dJ6_bitCount_0f7a4_11 : decode mJ6_bitCount_0f7a4.2.1 11 = .ok (.ldc_w 266, 3) := by decide +kernel
theorem dJ6_bitCount_0f7a4_14 : decode mJ6_bitCount_0f7a4.2.1 14 = .ok (.iand, 1) := by decide +kernel
theorem dJ6_bitCount_0f7a4_15 : decode mJ6_bitCount_0f7a4.2.1 15 = .ok (.iload_n 0, 1) := by decide +kernel
theorem dJ6_bitCount_0f7a4_16 : decode mJ6_bitCount_0f7a4.2.1 16 = .ok (.iconst 2, 1) := by decide +kernel
theorem dJ6_bitCount_0f7a4_17 : decode mJ6_bitCount_0f7a4.2.1 17 = .ok (.iushr, 1) := by decide +kernel
theorem dJ6_bitCount_0f7a4_18 : decode mJ6_bitCount_0f7a4.2.1 18 = .ok (.ldc_w 266, 3) := by decide +kernel
theorem dJ6_bitCount_0f7a4_21 : decode mJ6_bitCount_0f7a4.2.1 21 = .ok (.iand, 1) := by decide +kernel
theorem dJ6_bitCount_0f7a4_22 : decode mJ6_bitCount_0f7a4.2.1 22 = .ok (.iadd, 1) := by decide +kernel
theorem dJ6_bitCount_0f7a4_23 : decode mJ6_bitCount_0f7a4.2.1 23 = .ok (.istore_n 0, 1) := by decide +kernel
theorem dJ6_bitCount_0f7a4_24 : decode mJ6_bitCount_0f7a4.2.1 24 = .ok (.iload_n 0, 1) := by decide +kernel
theorem dJ6_bitCount_0f7a4_25 : decode mJ6_bitCount_0f7a4.2.1 25 = .ok (.iload_n 0, 1) := by decide +kernel
theorem dJ6_bitCount_0f7a4_26 : decode mJ6_bitCount_0f7a4.2.1 26 = .ok (.iconst 4, 1) := by decide +kernel
theorem dJ6_bitCount_0f7a4_27 : decode mJ6_bitCount_0f7a4.2.1 27 = .ok (.iushr, 1) := by decide +kernel
theorem dJ6_bitCount_0f7a4_28 : decode mJ6_bitCount_0f7a4.2.1 28 = .ok (.iadd, 1) := by decide +kernel
theorem dJ6_bitCount_0f7a4_29 : decode mJ6_bitCount_0f7a4.2.1 29 = .ok (.ldc_w 267, 3) := by decide +kernel
theorem dJ6_bitCount_0f7a4_32 : decode mJ6_bitCount_0f7a4.2.1 32 = .ok (.iand, 1) := by decide +kernel
theorem dJ6_bitCount_0f7a4_33 : decode mJ6_bitCount_0f7a4.2.1 33 = .ok (.istore_n 0, 1) := by decide +kernel
theorem dJ6_bitCount_0f7a4_34 : decode mJ6_bitCount_0f7a4.2.1 34 = .ok (.iload_n 0, 1) := by decide +kernel
theorem dJ6_bitCount_0f7a4_35 : decode mJ6_bitCount_0f7a4.2.1 35 = .ok (.iload_n 0, 1) := by decide +kernel
theorem dJ6_bitCount_0f7a4_36 : decode mJ6_bitCount_0f7a4.2.1 36 = .ok (.bipush 8, 2) := by decide +kernel
theorem dJ6_bitCount_0f7a4_38 : decode mJ6_bitCount_0f7a4.2.1 38 = .ok (.iushr, 1) := by decide +kernel
theorem dJ6_bitCount_0f7a4_39 : decode mJ6_bitCount_0f7a4.2.1 39 = .ok (.iadd, 1) := by decide +kernel
theorem dJ6_bitCount_0f7a4_40 : decode mJ6_bitCount_0f7a4.2.1 40 = .ok (.istore_n 0, 1) := by decide +kernel
theorem dJ6_bitCount_0f7a4_41 : decode mJ6_bitCount_0f7a4.2.1 41 = .ok (.iload_n 0, 1) := by decide +kernel
theorem dJ6_bitCount_0f7a4_42 : decode mJ6_bitCount_0f7a4.2.1 42 = .ok (.iload_n 0, 1) := by decide +kernel
theorem dJ6_bitCount_0f7a4_43 : decode mJ6_bitCount_0f7a4.2.1 43 = .ok (.bipush 16, 2) := by decide +kernel
theorem dJ6_bitCount_0f7a4_45 : decode mJ6_bitCount_0f7a4.2.1 45 = .ok (.iushr, 1) := by decide +kernel
theorem dJ6_bitCount_0f7a4_46 : decode mJ6_bitCount_0f7a4.2.1 46 = .ok (.iadd, 1) := by decide +kernel
theorem dJ6_bitCount_0f7a4_47 : decode mJ6_bitCount_0f7a4.2.1 47 = .ok (.istore_n 0, 1) := by decide +kernel
theorem dJ6_bitCount_0f7a4_48 : decode mJ6_bitCount_0f7a4.2.1 48 = .ok (.iload_n 0, 1) := by decide +kernel
theorem dJ6_bitCount_0f7a4_49 : decode mJ6_bitCount_0f7a4.2.1 49 = .ok (.bipush 63, 2) := by decide +kernel
theorem dJ6_bitCount_0f7a4_51 : decode mJ6_bitCount_0f7a4.2.1 51 = .ok (.iand, 1) := by decide +kernel
theorem dJ6_bitCount_0f7a4_52 : decode mJ6_bitCount_0f7a4.2.1 52 = .ok (.ireturn, 1) := by decide +kernel
theorem dJ13_bitCount_95d88_0 : decode mJ13_bitCount_95d88.2.1 0 = .ok (.lload_n 0, 1) := by decide +kernel
theorem dJ13_bitCount_95d88_1 : decode mJ13_bitCount_95d88.2.1 1 = .ok (.lload_n 0, 1) := by decide +kernel
theorem dJ13_bitCount_95d88_2 : decode mJ13_bitCount_95d88.2.1 2 = .ok (.iconst 1, 1) := by decide +kernel
theorem dJ13_bitCount_95d88_3 : decode mJ13_bitCount_95d88.2.1 3 = .ok (.lushr, 1) := by decide +kernel
theorem dJ13_bitCount_95d88_4 : decode mJ13_bitCount_95d88.2.1 4 = .ok (.ldc2_w 314, 3) := by decide +kernel
theorem dJ13_bitCount_95d88_7 : decode mJ13_bitCount_95d88.2.1 7 = .ok (.land, 1) := by decide +kernel
theorem dJ13_bitCount_95d88_8 : decode mJ13_bitCount_95d88.2.1 8 = .ok (.lsub, 1) := by decide +kernel
theorem dJ13_bitCount_95d88_9 : decode mJ13_bitCount_95d88.2.1 9 = .ok (.lstore_n 0, 1) := by decide +kernel
theorem dJ13_bitCount_95d88_10 : decode mJ13_bitCount_95d88.2.1 10 = .ok (.lload_n 0, 1) := by decide +kernel
theorem dJ13_bitCount_95d88_11 : decode mJ13_bitCount_95d88.2.1 11 = .ok (.ldc2_w 316, 3) := by decide +kernel
theorem dJ13_bitCount_95d88_14 : decode mJ13_bitCount_95d88.2.1 14 = .ok (.land, 1) := by decide +kernel
theorem dJ13_bitCount_95d88_15 : decode mJ13_bitCount_95d88.2.1 15 = .ok (.lload_n 0, 1) := by decide +kernel
theorem dJ13_bitCount_95d88_16 : decode mJ13_bitCount_95d88.2.1 16 = .ok (.iconst 2, 1) := by decide +kernel
theorem dJ13_bitCount_95d88_17 : decode mJ13_bitCount_95d88.2.1 17 = .ok (.lushr, 1) := by decide +kernel
theorem dJ13_bitCount_95d88_18 : decode mJ13_bitCount_95d88.2.1 18 = .ok (.ldc2_w 316, 3) := by decide +kernel
theorem dJ13_bitCount_95d88_21 : decode mJ13_bitCount_95d88.2.1 21 = .ok (.land, 1) := by decide +kernel
theorem dJ13_bitCount_95d88_22 : decode mJ13_bitCount_95d88.2.1 22 = .ok (.ladd, 1) := by decide +kernel
theorem dJ13_bitCount_95d88_23 : decode mJ13_bitCount_95d88.2.1 23 = .ok (.lstore_n 0, 1) := by decide +kernel
theorem dJ13_bitCount_95d88_24 : decode mJ13_bitCount_95d88.2.1 24 = .ok (.lload_n 0, 1) := by decide +kernel
theorem dJ13_bitCount_95d88_25 : decode mJ13_bitCount_95d88.2.1 25 = .ok (.lload_n 0, 1) := by decide +kernel
theorem dJ13_bitCount_95d88_26 : decode mJ13_bitCount_95d88.2.1 26 = .ok (.iconst 4, 1) := by decide +kernel
theorem dJ13_bitCount_95d88_27 : decode mJ13_bitCount_95d88.2.1 27 = .ok (.lushr, 1) := by decide +kernel
theorem dJ13_bitCount_95d88_28 : decode mJ13_bitCount_95d88.2.1 28 = .ok (.ladd, 1) := by decide +kernel
theorem dJ13_bitCount_95d88_29 : decode mJ13_bitCount_95d88.2.1 29 = .ok (.ldc2_w 318, 3) := by decide +kernel
theorem dJ13_bitCount_95d88_32 : decode mJ13_bitCount_95d88.2.1 32 = .ok (.land, 1) := by decide +kernel
theorem dJ13_bitCount_95d88_33 : decode mJ13_bitCount_95d88.2.1 33 = .ok (.lstore_n 0, 1) := by decide +kernel
theorem dJ13_bitCount_95d88_34 : decode mJ13_bitCount_95d88.2.1 34 = .ok (.lload_n 0, 1) := by decide +kernel
theorem dJ13_bitCount_95d88_35 : decode mJ13_bitCount_95d88.2.1 35 = .ok (.lload_n 0, 1) := by decide +kernel
theorem dJ13_bitCount_95d88_36 : decode mJ13_bitCount_95d88.2.1 36 = .ok (.bipush 8, 2) := by decide +kernel
theorem dJ13_bitCount_95d88_38 : decode mJ13_bitCount_95d88.2.1 38 = .ok (.lushr, 1) := by decide +kernel
theorem dJ13_bitCount_95d88_39 : decode mJ13_bitCount_95d88.2.1 39 = .ok (.ladd, 1) := by decide +kernel
theorem dJ13_bitCount_95d88_40 : decode mJ13_bitCount_95d88.2.1 40 = .ok (.lstore_n 0, 1) := by decide +kernel
theorem dJ13_bitCount_95d88_41 : decode mJ13_bitCount_95d88.2.1 41 = .ok (.lload_n 0, 1) := by decide +kernel
theorem dJ13_bitCount_95d88_42 : decode mJ13_bitCount_95d88.2.1 42 = .ok (.lload_n 0, 1) := by decide +kernel
theorem dJ13_bitCount_95d88_43 : decode mJ13_bitCount_95d88.2.1 43 = .ok (.bipush 16, 2) := by decide +kernel
theorem dJ13_bitCount_95d88_45 : decode mJ13_bitCount_95d88.2.1 45 = .ok (.lushr, 1) := by decide +kernel
theorem dJ13_bitCount_95d88_46 : decode mJ13_bitCount_95d88.2.1 46 = .ok (.ladd, 1) := by decide +kernel
theorem dJ13_bitCount_95d88_47 : decode mJ13_bitCount_95d88.2.1 47 = .ok (.lstore_n 0, 1) := by decide +kernel
theorem dJ13_bitCount_95d88_48 : decode mJ13_bitCount_95d88.2.1 48 = .ok (.lload_n 0, 1) := by decide +kernel
theorem dJ13_bitCount_95d88_49 : decode mJ13_bitCount_95d88.2.1 49 = .ok (.lload_n 0, 1) := by decide +kernel
theorem dJ13_bitCount_95d88_50 : decode mJ13_bitCount_95d88.2.1 50 = .ok (.bipush 32, 2) := by decide +kernel
theorem dJ13_bitCount_95d88_52 : decode mJ13_bitCount_95d88.2.1 52 = .ok (.lushr, 1) := by decide +kernel
theorem dJ13_bitCount_95d88_53 : decode mJ13_bitCount_95d88.2.1 53 = .ok (.ladd, 1) := by decide +kernel
theorem dJ13_bitCount_95d88_54 : decode mJ13_bitCount_95d88.2.1 54 = .ok (.lstore_n 0, 1) := by decide +kernel
theorem dJ13_bitCount_95d88_55 : decode mJ13_bitCount_95d88.2.1 55 = .ok (.lload_n 0, 1) := by decide +kernel
theorem dJ13_bitCount_95d88_56 : decode mJ13_bitCount_95d88.2.1 56 = .ok (.l2i, 1) := by decide +kernel
theorem dJ13_bitCount_95d88_57 : decode mJ13_bitCount_95d88.2.1 57 = .ok (.bipush 127, 2) := by decide +kernel
theorem dJ13_bitCount_95d88_59 : decode mJ13_bitCount_95d88.2.1 59 = .ok (.iand, 1) := by decide +kernel
theorem dJ13_bitCount_95d88_60 : decode mJ13_bitCount_95d88.2.1 60 = .ok (.ireturn, 1) := by decide +kernel
theorem c_xbci {d : Nat} {g : xSt} {a : Int32} : xCallM d mJ6_bitCount_0f7a4 [.int a] g = some (some (.int (xbci a)), g) :=
  Y_iload_n dJ6_bitCount_0f7a4_0 rfl <|
  Y_iload_n dJ6_bitCount_0f7a4_1 rfl <|
  Y_iconst 1 dJ6_bitCount_0f7a4_2 ic_1 <|
  Y_iushr dJ6_bitCount_0f7a4_3 <|
  Y_ldc_w dJ6_bitCount_0f7a4_4 ki_13_265 <|
  Y_iand dJ6_bitCount_0f7a4_7 <|
  Y_isub dJ6_bitCount_0f7a4_8 <|
  Y_istore_n (al' := [some (.int (bi1 a))]) dJ6_bitCount_0f7a4_9 rfl rfl <|
  Y_iload_n dJ6_bitCount_0f7a4_10 rfl <|
  Y_ldc_w dJ6_bitCount_0f7a4_11 ki_13_266 <|
  Y_iand dJ6_bitCount_0f7a4_14 <|
  Y_iload_n dJ6_bitCount_0f7a4_15 rfl <|
  Y_iconst 2 dJ6_bitCount_0f7a4_16 ic_2 <|
  Y_iushr dJ6_bitCount_0f7a4_17 <|
  Y_ldc_w dJ6_bitCount_0f7a4_18 ki_13_266 <|
  Y_iand dJ6_bitCount_0f7a4_21 <|
  Y_iadd dJ6_bitCount_0f7a4_22 <|
  Y_istore_n (al' := [some (.int (bi2 (bi1 a)))]) dJ6_bitCount_0f7a4_23 rfl rfl <|
  Y_iload_n dJ6_bitCount_0f7a4_24 rfl <|
  Y_iload_n dJ6_bitCount_0f7a4_25 rfl <|
  Y_iconst 4 dJ6_bitCount_0f7a4_26 ic_4 <|
  Y_iushr dJ6_bitCount_0f7a4_27 <|
  Y_iadd dJ6_bitCount_0f7a4_28 <|
  Y_ldc_w dJ6_bitCount_0f7a4_29 ki_13_267 <|
  Y_iand dJ6_bitCount_0f7a4_32 <|
  Y_istore_n (al' := [some (.int (bi3 (bi2 (bi1 a))))]) dJ6_bitCount_0f7a4_33 rfl rfl <|
  Y_iload_n dJ6_bitCount_0f7a4_34 rfl <|
  Y_iload_n dJ6_bitCount_0f7a4_35 rfl <|
  Y_bipush 8 dJ6_bitCount_0f7a4_36 bp_8 <|
  Y_iushr dJ6_bitCount_0f7a4_38 <|
  Y_iadd dJ6_bitCount_0f7a4_39 <|
  Y_istore_n (al' := [some (.int (bi4 (bi3 (bi2 (bi1 a)))))]) dJ6_bitCount_0f7a4_40 rfl rfl <|
  Y_iload_n dJ6_bitCount_0f7a4_41 rfl <|
  Y_iload_n dJ6_bitCount_0f7a4_42 rfl <|
  Y_bipush 16 dJ6_bitCount_0f7a4_43 bp_16 <|
  Y_iushr dJ6_bitCount_0f7a4_45 <|
  Y_iadd dJ6_bitCount_0f7a4_46 <|
  Y_istore_n (al' := [some (.int (bi5 (bi4 (bi3 (bi2 (bi1 a))))))]) dJ6_bitCount_0f7a4_47 rfl rfl <|
  Y_iload_n dJ6_bitCount_0f7a4_48 rfl <|
  Y_bipush 63 dJ6_bitCount_0f7a4_49 bp_63 <|
  Y_iand dJ6_bitCount_0f7a4_51 <|
  Y_iret dJ6_bitCount_0f7a4_52 rfl rfl
theorem c_xbcl {d : Nat} {g : xSt} {a : Int64} : xCallM d mJ13_bitCount_95d88 [.long a] g = some (some (.int (xbcl a)), g) :=
  Y_lload_n dJ13_bitCount_95d88_0 rfl <|
  Y_lload_n dJ13_bitCount_95d88_1 rfl <|
  Y_iconst 1 dJ13_bitCount_95d88_2 ic_1 <|
  Y_lushr dJ13_bitCount_95d88_3 <|
  Y_ldc2 dJ13_bitCount_95d88_4 kl_14_314 <|
  Y_land dJ13_bitCount_95d88_7 <|
  Y_lsub dJ13_bitCount_95d88_8 <|
  Y_lstore_n (al' := [some (.long (bl1 a)), none]) dJ13_bitCount_95d88_9 rfl rfl <|
  Y_lload_n dJ13_bitCount_95d88_10 rfl <|
  Y_ldc2 dJ13_bitCount_95d88_11 kl_14_316 <|
  Y_land dJ13_bitCount_95d88_14 <|
  Y_lload_n dJ13_bitCount_95d88_15 rfl <|
  Y_iconst 2 dJ13_bitCount_95d88_16 ic_2 <|
  Y_lushr dJ13_bitCount_95d88_17 <|
  Y_ldc2 dJ13_bitCount_95d88_18 kl_14_316 <|
  Y_land dJ13_bitCount_95d88_21 <|
  Y_ladd dJ13_bitCount_95d88_22 <|
  Y_lstore_n (al' := [some (.long (bl2 (bl1 a))), none]) dJ13_bitCount_95d88_23 rfl rfl <|
  Y_lload_n dJ13_bitCount_95d88_24 rfl <|
  Y_lload_n dJ13_bitCount_95d88_25 rfl <|
  Y_iconst 4 dJ13_bitCount_95d88_26 ic_4 <|
  Y_lushr dJ13_bitCount_95d88_27 <|
  Y_ladd dJ13_bitCount_95d88_28 <|
  Y_ldc2 dJ13_bitCount_95d88_29 kl_14_318 <|
  Y_land dJ13_bitCount_95d88_32 <|
  Y_lstore_n (al' := [some (.long (bl3 (bl2 (bl1 a)))), none]) dJ13_bitCount_95d88_33 rfl rfl <|
  Y_lload_n dJ13_bitCount_95d88_34 rfl <|
  Y_lload_n dJ13_bitCount_95d88_35 rfl <|
  Y_bipush 8 dJ13_bitCount_95d88_36 bp_8 <|
  Y_lushr dJ13_bitCount_95d88_38 <|
  Y_ladd dJ13_bitCount_95d88_39 <|
  Y_lstore_n (al' := [some (.long (bl4 (bl3 (bl2 (bl1 a))))), none]) dJ13_bitCount_95d88_40 rfl rfl <|
  Y_lload_n dJ13_bitCount_95d88_41 rfl <|
  Y_lload_n dJ13_bitCount_95d88_42 rfl <|
  Y_bipush 16 dJ13_bitCount_95d88_43 bp_16 <|
  Y_lushr dJ13_bitCount_95d88_45 <|
  Y_ladd dJ13_bitCount_95d88_46 <|
  Y_lstore_n (al' := [some (.long (bl5 (bl4 (bl3 (bl2 (bl1 a)))))), none]) dJ13_bitCount_95d88_47 rfl rfl <|
  Y_lload_n dJ13_bitCount_95d88_48 rfl <|
  Y_lload_n dJ13_bitCount_95d88_49 rfl <|
  Y_bipush 32 dJ13_bitCount_95d88_50 bp_32 <|
  Y_lushr dJ13_bitCount_95d88_52 <|
  Y_ladd dJ13_bitCount_95d88_53 <|
  Y_lstore_n (al' := [some (.long (bl6 (bl5 (bl4 (bl3 (bl2 (bl1 a))))))), none]) dJ13_bitCount_95d88_54 rfl rfl <|
  Y_lload_n dJ13_bitCount_95d88_55 rfl <|
  Y_l2i dJ13_bitCount_95d88_56 <|
  Y_bipush 127 dJ13_bitCount_95d88_57 bp_127 <|
  Y_iand dJ13_bitCount_95d88_59 <|
  Y_iret dJ13_bitCount_95d88_60 rfl rfl
theorem dX7_lowestBit_0 : decode mX7_lowestBit.2.1 0 = .ok (.lload_n 0, 1) := by decide +kernel
theorem dX7_lowestBit_1 : decode mX7_lowestBit.2.1 1 = .ok (.lload_n 0, 1) := by decide +kernel
theorem dX7_lowestBit_2 : decode mX7_lowestBit.2.1 2 = .ok (.lneg, 1) := by decide +kernel
theorem dX7_lowestBit_3 : decode mX7_lowestBit.2.1 3 = .ok (.land, 1) := by decide +kernel
theorem dX7_lowestBit_4 : decode mX7_lowestBit.2.1 4 = .ok (.lconst 1, 1) := by decide +kernel
theorem dX7_lowestBit_5 : decode mX7_lowestBit.2.1 5 = .ok (.lsub, 1) := by decide +kernel
theorem dX7_lowestBit_6 : decode mX7_lowestBit.2.1 6 = .ok (.invokestatic 9, 3) := by decide +kernel
theorem dX7_lowestBit_9 : decode mX7_lowestBit.2.1 9 = .ok (.ireturn, 1) := by decide +kernel
theorem bX7_lowestBit_0 {d : Nat} {g : xSt} {r : Option Value × xSt} {a0 : Int64} (k : r = (some (.int (xbcl ((a0 &&& (-a0)) - 1))), g)) : xX (d + 1) mX7_lowestBit 0 [some (.long a0), none] [] g = some r :=
  Y_lload_n dX7_lowestBit_0 rfl <| Y_lload_n dX7_lowestBit_1 rfl <| Y_lneg dX7_lowestBit_2 <| Y_land dX7_lowestBit_3 <| Y_lconst 1 dX7_lowestBit_4 rfl <| Y_lsub dX7_lowestBit_5 <| Y_callS1 dX7_lowestBit_6 cl_12_9 rfl rfl rfl rfl rfl (c_xbcl) <| Y_iret dX7_lowestBit_9 rfl k
theorem c_xlow {d : Nat} {g : xSt} {a : Int64} : xCallM (d + 1) mX7_lowestBit [.long a] g = some (some (.int (xlow a)), g) := bX7_lowestBit_0 rfl
