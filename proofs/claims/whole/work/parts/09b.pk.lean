/-! THE JDK TEXT METHOD packed stands on: words and decode rows by program (wip/whole/genpk.py), contracts by hand -/
set_option maxRecDepth 20000 in
theorem pw_code_J0_length_8abf5 : Cond.code yJ0_length_8abf5 cJ0_length_8abf5 1 (some .int) ∈ xws := xw (xc1 _ (List.mem_of_getElem? (i := 120) rfl)) rfl
set_option maxRecDepth 20000 in
theorem pw_code_J0_charAt_5068e : Cond.code yJ0_charAt_5068e cJ0_charAt_5068e 2 (some .char) ∈ xws := xw (xc1 _ (List.mem_of_getElem? (i := 130) rfl)) rfl
set_option maxRecDepth 20000 in
theorem pw_code_J0_coder_7d493 : Cond.code yJ0_coder_7d493 cJ0_coder_7d493 1 (some .byte) ∈ xws := xw (xc1 _ (List.mem_of_getElem? (i := 124) rfl)) rfl
set_option maxRecDepth 20000 in
theorem pw_code_J0_isLatin1_aae02 : Cond.code yJ0_isLatin1_aae02 cJ0_isLatin1_aae02 1 (some .boolean) ∈ xws := xw (xc1 _ (List.mem_of_getElem? (i := 134) rfl)) rfl
set_option maxRecDepth 20000 in
theorem pw_code_J1_charAt_3b067 : Cond.code yJ1_charAt_3b067 cJ1_charAt_3b067 2 (some .char) ∈ xws := xw (xc1 _ (List.mem_of_getElem? (i := 137) rfl)) rfl
set_option maxRecDepth 20000 in
theorem pw_code_J0_checkIndex_df160 : Cond.code yJ0_checkIndex_df160 cJ0_checkIndex_df160 2 none ∈ xws := xw (xc1 _ (List.mem_of_getElem? (i := 140) rfl)) rfl
set_option maxRecDepth 20000 in
theorem pw_code_J3_checkIndex_8e157 : Cond.code yJ3_checkIndex_8e157 cJ3_checkIndex_8e157 3 (some .int) ∈ xws := xw (xc1 _ (List.mem_of_getElem? (i := 145) rfl)) rfl
set_option maxRecDepth 20000 in
theorem pw_link_X6_48 : Cond.methodLink RX6 48 yJ0_length_8abf5 ∈ xws := xw (xc1 _ (List.mem_of_getElem? (i := 117) rfl)) rfl
set_option maxRecDepth 20000 in
theorem pw_link_X6_54 : Cond.methodLink RX6 54 yJ0_charAt_5068e ∈ xws := xw (xc1 _ (List.mem_of_getElem? (i := 127) rfl)) rfl
set_option maxRecDepth 20000 in
theorem pw_link_J0_335 : Cond.methodLink RJ0 335 yJ0_coder_7d493 ∈ xws := xw (xc1 _ (List.mem_of_getElem? (i := 121) rfl)) rfl
set_option maxRecDepth 20000 in
theorem pw_link_J0_492 : Cond.methodLink RJ0 492 yJ0_isLatin1_aae02 ∈ xws := xw (xc1 _ (List.mem_of_getElem? (i := 131) rfl)) rfl
set_option maxRecDepth 20000 in
theorem pw_link_J0_495 : Cond.methodLink RJ0 495 yJ1_charAt_3b067 ∈ xws := xw (xc1 _ (List.mem_of_getElem? (i := 135) rfl)) rfl
set_option maxRecDepth 20000 in
theorem pw_link_J1_9 : Cond.methodLink RJ1 9 yJ0_checkIndex_df160 ∈ xws := xw (xc1 _ (List.mem_of_getElem? (i := 138) rfl)) rfl
set_option maxRecDepth 20000 in
theorem pw_link_J0_1059 : Cond.methodLink RJ0 1059 yJ3_checkIndex_8e157 ∈ xws := xw (xc1 _ (List.mem_of_getElem? (i := 143) rfl)) rfl
set_option maxRecDepth 20000 in
theorem pw_inst_J0_length_8abf5 : Cond.instanceMethod yJ0_length_8abf5 ∈ xws := xw (xc1 _ (List.mem_of_getElem? (i := 118) rfl)) rfl
set_option maxRecDepth 20000 in
theorem pw_sel_J0_length_8abf5 : Cond.selects RJ0 yJ0_length_8abf5 yJ0_length_8abf5 ∈ xws := xw (xc1 _ (List.mem_of_getElem? (i := 119) rfl)) rfl
set_option maxRecDepth 20000 in
theorem pw_inst_J0_charAt_5068e : Cond.instanceMethod yJ0_charAt_5068e ∈ xws := xw (xc1 _ (List.mem_of_getElem? (i := 128) rfl)) rfl
set_option maxRecDepth 20000 in
theorem pw_sel_J0_charAt_5068e : Cond.selects RJ0 yJ0_charAt_5068e yJ0_charAt_5068e ∈ xws := xw (xc1 _ (List.mem_of_getElem? (i := 129) rfl)) rfl
set_option maxRecDepth 20000 in
theorem pw_inst_J0_coder_7d493 : Cond.instanceMethod yJ0_coder_7d493 ∈ xws := xw (xc1 _ (List.mem_of_getElem? (i := 122) rfl)) rfl
set_option maxRecDepth 20000 in
theorem pw_sel_J0_coder_7d493 : Cond.selects RJ0 yJ0_coder_7d493 yJ0_coder_7d493 ∈ xws := xw (xc1 _ (List.mem_of_getElem? (i := 123) rfl)) rfl
set_option maxRecDepth 20000 in
theorem pw_inst_J0_isLatin1_aae02 : Cond.instanceMethod yJ0_isLatin1_aae02 ∈ xws := xw (xc1 _ (List.mem_of_getElem? (i := 132) rfl)) rfl
set_option maxRecDepth 20000 in
theorem pw_sel_J0_isLatin1_aae02 : Cond.selects RJ0 yJ0_isLatin1_aae02 yJ0_isLatin1_aae02 ∈ xws := xw (xc1 _ (List.mem_of_getElem? (i := 133) rfl)) rfl
set_option maxRecDepth 20000 in
theorem pw_st_J1_charAt_3b067 : Cond.static yJ1_charAt_3b067 ∈ xws := xw (xc1 _ (List.mem_of_getElem? (i := 136) rfl)) rfl
set_option maxRecDepth 20000 in
theorem pw_st_J0_checkIndex_df160 : Cond.static yJ0_checkIndex_df160 ∈ xws := xw (xc1 _ (List.mem_of_getElem? (i := 139) rfl)) rfl
set_option maxRecDepth 20000 in
theorem pw_st_J3_checkIndex_8e157 : Cond.static yJ3_checkIndex_8e157 ∈ xws := xw (xc1 _ (List.mem_of_getElem? (i := 144) rfl)) rfl
set_option maxRecDepth 20000 in
theorem pw_ini_J0 : Cond.initialized RJ0 ∈ xws := xw (xc1 _ (List.mem_of_getElem? (i := 4) rfl)) rfl
set_option maxRecDepth 20000 in
theorem pw_ini_J1 : Cond.initialized RJ1 ∈ xws := xw (xc1 _ (List.mem_of_getElem? (i := 5) rfl)) rfl
set_option maxRecDepth 20000 in
theorem pw_ini_J3 : Cond.initialized RJ3 ∈ xws := xw (xc1 _ (List.mem_of_getElem? (i := 6) rfl)) rfl
set_option maxRecDepth 20000 in
theorem pw_fld_38 : Cond.fieldLink RJ0 38 "java/lang/String" "COMPACT_STRINGS" "Z" ∈ xws := xw (xc1 _ (List.mem_of_getElem? (i := 125) rfl)) rfl
set_option maxRecDepth 20000 in
theorem pw_fld_1053 : Cond.fieldLink RJ0 1053 "jdk/internal/util/Preconditions" "SIOOBE_FORMATTER" "Ljava/util/function/BiFunction;" ∈ xws := xw (xc1 _ (List.mem_of_getElem? (i := 141) rfl)) rfl
set_option maxRecDepth 20000 in
theorem pw_fld_9 : Cond.fieldLink RJ0 9 "java/lang/String" "value" "[B" ∈ xws := xw (xc10 _ (List.mem_of_getElem? (i := 76) rfl)) rfl
set_option maxRecDepth 20000 in
theorem pw_fld_15 : Cond.fieldLink RJ0 15 "java/lang/String" "coder" "B" ∈ xws := xw (xc10 _ (List.mem_of_getElem? (i := 77) rfl)) rfl
theorem edJ0_length_8abf5_0 : decode cJ0_length_8abf5 0 = .ok (.aload_n 0, 1) := by decide +kernel
theorem edJ0_length_8abf5_1 : decode cJ0_length_8abf5 1 = .ok (.getfield 9, 3) := by decide +kernel
theorem edJ0_length_8abf5_4 : decode cJ0_length_8abf5 4 = .ok (.arraylength, 1) := by decide +kernel
theorem edJ0_length_8abf5_5 : decode cJ0_length_8abf5 5 = .ok (.aload_n 0, 1) := by decide +kernel
theorem edJ0_length_8abf5_6 : decode cJ0_length_8abf5 6 = .ok (.invokevirtual 335, 3) := by decide +kernel
theorem edJ0_length_8abf5_9 : decode cJ0_length_8abf5 9 = .ok (.ishr, 1) := by decide +kernel
theorem edJ0_length_8abf5_10 : decode cJ0_length_8abf5 10 = .ok (.ireturn, 1) := by decide +kernel
theorem edJ0_charAt_5068e_0 : decode cJ0_charAt_5068e 0 = .ok (.aload_n 0, 1) := by decide +kernel
theorem edJ0_charAt_5068e_1 : decode cJ0_charAt_5068e 1 = .ok (.invokevirtual 492, 3) := by decide +kernel
theorem edJ0_charAt_5068e_4 : decode cJ0_charAt_5068e 4 = .ok (.ifCond .eq 12, 3) := by decide +kernel
theorem edJ0_charAt_5068e_7 : decode cJ0_charAt_5068e 7 = .ok (.aload_n 0, 1) := by decide +kernel
theorem edJ0_charAt_5068e_8 : decode cJ0_charAt_5068e 8 = .ok (.getfield 9, 3) := by decide +kernel
theorem edJ0_charAt_5068e_11 : decode cJ0_charAt_5068e 11 = .ok (.iload_n 1, 1) := by decide +kernel
theorem edJ0_charAt_5068e_12 : decode cJ0_charAt_5068e 12 = .ok (.invokestatic 495, 3) := by decide +kernel
theorem edJ0_charAt_5068e_15 : decode cJ0_charAt_5068e 15 = .ok (.ireturn, 1) := by decide +kernel
theorem edJ0_charAt_5068e_16 : decode cJ0_charAt_5068e 16 = .ok (.aload_n 0, 1) := by decide +kernel
theorem edJ0_charAt_5068e_17 : decode cJ0_charAt_5068e 17 = .ok (.getfield 9, 3) := by decide +kernel
theorem edJ0_charAt_5068e_20 : decode cJ0_charAt_5068e 20 = .ok (.iload_n 1, 1) := by decide +kernel
theorem edJ0_charAt_5068e_21 : decode cJ0_charAt_5068e 21 = .ok (.invokestatic 498, 3) := by decide +kernel
theorem edJ0_charAt_5068e_24 : decode cJ0_charAt_5068e 24 = .ok (.ireturn, 1) := by decide +kernel
theorem edJ0_coder_7d493_0 : decode cJ0_coder_7d493 0 = .ok (.getstatic 38, 3) := by decide +kernel
theorem edJ0_coder_7d493_3 : decode cJ0_coder_7d493 3 = .ok (.ifCond .eq 10, 3) := by decide +kernel
theorem edJ0_coder_7d493_6 : decode cJ0_coder_7d493 6 = .ok (.aload_n 0, 1) := by decide +kernel
theorem edJ0_coder_7d493_7 : decode cJ0_coder_7d493 7 = .ok (.getfield 15, 3) := by decide +kernel
theorem edJ0_coder_7d493_10 : decode cJ0_coder_7d493 10 = .ok (.goto 4, 3) := by decide +kernel
theorem edJ0_coder_7d493_13 : decode cJ0_coder_7d493 13 = .ok (.iconst 1, 1) := by decide +kernel
theorem edJ0_coder_7d493_14 : decode cJ0_coder_7d493 14 = .ok (.ireturn, 1) := by decide +kernel
theorem edJ0_isLatin1_aae02_0 : decode cJ0_isLatin1_aae02 0 = .ok (.getstatic 38, 3) := by decide +kernel
theorem edJ0_isLatin1_aae02_3 : decode cJ0_isLatin1_aae02 3 = .ok (.ifCond .eq 14, 3) := by decide +kernel
theorem edJ0_isLatin1_aae02_6 : decode cJ0_isLatin1_aae02 6 = .ok (.aload_n 0, 1) := by decide +kernel
theorem edJ0_isLatin1_aae02_7 : decode cJ0_isLatin1_aae02 7 = .ok (.getfield 15, 3) := by decide +kernel
theorem edJ0_isLatin1_aae02_10 : decode cJ0_isLatin1_aae02 10 = .ok (.ifCond .ne 7, 3) := by decide +kernel
theorem edJ0_isLatin1_aae02_13 : decode cJ0_isLatin1_aae02 13 = .ok (.iconst 1, 1) := by decide +kernel
theorem edJ0_isLatin1_aae02_14 : decode cJ0_isLatin1_aae02 14 = .ok (.goto 4, 3) := by decide +kernel
theorem edJ0_isLatin1_aae02_17 : decode cJ0_isLatin1_aae02 17 = .ok (.iconst 0, 1) := by decide +kernel
theorem edJ0_isLatin1_aae02_18 : decode cJ0_isLatin1_aae02 18 = .ok (.ireturn, 1) := by decide +kernel
theorem edJ1_charAt_3b067_0 : decode cJ1_charAt_3b067 0 = .ok (.iload_n 1, 1) := by decide +kernel
theorem edJ1_charAt_3b067_1 : decode cJ1_charAt_3b067 1 = .ok (.aload_n 0, 1) := by decide +kernel
theorem edJ1_charAt_3b067_2 : decode cJ1_charAt_3b067 2 = .ok (.arraylength, 1) := by decide +kernel
theorem edJ1_charAt_3b067_3 : decode cJ1_charAt_3b067 3 = .ok (.invokestatic 9, 3) := by decide +kernel
theorem edJ1_charAt_3b067_6 : decode cJ1_charAt_3b067 6 = .ok (.aload_n 0, 1) := by decide +kernel
theorem edJ1_charAt_3b067_7 : decode cJ1_charAt_3b067 7 = .ok (.iload_n 1, 1) := by decide +kernel
theorem edJ1_charAt_3b067_8 : decode cJ1_charAt_3b067 8 = .ok (.baload, 1) := by decide +kernel
theorem edJ1_charAt_3b067_9 : decode cJ1_charAt_3b067 9 = .ok (.sipush 255, 3) := by decide +kernel
theorem edJ1_charAt_3b067_12 : decode cJ1_charAt_3b067 12 = .ok (.iand, 1) := by decide +kernel
theorem edJ1_charAt_3b067_13 : decode cJ1_charAt_3b067 13 = .ok (.i2c, 1) := by decide +kernel
theorem edJ1_charAt_3b067_14 : decode cJ1_charAt_3b067 14 = .ok (.ireturn, 1) := by decide +kernel
theorem edJ0_checkIndex_df160_0 : decode cJ0_checkIndex_df160 0 = .ok (.iload_n 0, 1) := by decide +kernel
theorem edJ0_checkIndex_df160_1 : decode cJ0_checkIndex_df160 1 = .ok (.iload_n 1, 1) := by decide +kernel
theorem edJ0_checkIndex_df160_2 : decode cJ0_checkIndex_df160 2 = .ok (.getstatic 1053, 3) := by decide +kernel
theorem edJ0_checkIndex_df160_5 : decode cJ0_checkIndex_df160 5 = .ok (.invokestatic 1059, 3) := by decide +kernel
theorem edJ0_checkIndex_df160_8 : decode cJ0_checkIndex_df160 8 = .ok (.pop, 1) := by decide +kernel
theorem edJ0_checkIndex_df160_9 : decode cJ0_checkIndex_df160 9 = .ok (.return_, 1) := by decide +kernel
theorem edJ3_checkIndex_8e157_0 : decode cJ3_checkIndex_8e157 0 = .ok (.iload_n 0, 1) := by decide +kernel
theorem edJ3_checkIndex_8e157_1 : decode cJ3_checkIndex_8e157 1 = .ok (.ifCond .lt 8, 3) := by decide +kernel
theorem edJ3_checkIndex_8e157_4 : decode cJ3_checkIndex_8e157 4 = .ok (.iload_n 0, 1) := by decide +kernel
theorem edJ3_checkIndex_8e157_5 : decode cJ3_checkIndex_8e157 5 = .ok (.iload_n 1, 1) := by decide +kernel
theorem edJ3_checkIndex_8e157_6 : decode cJ3_checkIndex_8e157 6 = .ok (.if_icmp .lt 10, 3) := by decide +kernel
theorem edJ3_checkIndex_8e157_9 : decode cJ3_checkIndex_8e157 9 = .ok (.aload_n 2, 1) := by decide +kernel
theorem edJ3_checkIndex_8e157_10 : decode cJ3_checkIndex_8e157 10 = .ok (.iload_n 0, 1) := by decide +kernel
theorem edJ3_checkIndex_8e157_11 : decode cJ3_checkIndex_8e157 11 = .ok (.iload_n 1, 1) := by decide +kernel
theorem edJ3_checkIndex_8e157_12 : decode cJ3_checkIndex_8e157 12 = .ok (.invokestatic 95, 3) := by decide +kernel
theorem edJ3_checkIndex_8e157_15 : decode cJ3_checkIndex_8e157 15 = .ok (.athrow, 1) := by decide +kernel
theorem edJ3_checkIndex_8e157_16 : decode cJ3_checkIndex_8e157 16 = .ok (.iload_n 0, 1) := by decide +kernel
theorem edJ3_checkIndex_8e157_17 : decode cJ3_checkIndex_8e157 17 = .ok (.ireturn, 1) := by decide +kernel
theorem edX6_packed_0 : decode cX6_packed 0 = .ok (.lconst 0, 1) := by decide +kernel
theorem edX6_packed_1 : decode cX6_packed 1 = .ok (.lstore_n 1, 1) := by decide +kernel
theorem edX6_packed_2 : decode cX6_packed 2 = .ok (.iconst 0, 1) := by decide +kernel
theorem edX6_packed_3 : decode cX6_packed 3 = .ok (.istore_n 3, 1) := by decide +kernel
theorem edX6_packed_4 : decode cX6_packed 4 = .ok (.iload_n 3, 1) := by decide +kernel
theorem edX6_packed_5 : decode cX6_packed 5 = .ok (.aload_n 0, 1) := by decide +kernel
theorem edX6_packed_6 : decode cX6_packed 6 = .ok (.invokevirtual 48, 3) := by decide +kernel
theorem edX6_packed_9 : decode cX6_packed 9 = .ok (.if_icmp .ge 21, 3) := by decide +kernel
theorem edX6_packed_12 : decode cX6_packed 12 = .ok (.lload_n 1, 1) := by decide +kernel
theorem edX6_packed_13 : decode cX6_packed 13 = .ok (.bipush 8, 2) := by decide +kernel
theorem edX6_packed_15 : decode cX6_packed 15 = .ok (.lshl, 1) := by decide +kernel
theorem edX6_packed_16 : decode cX6_packed 16 = .ok (.aload_n 0, 1) := by decide +kernel
theorem edX6_packed_17 : decode cX6_packed 17 = .ok (.iload_n 3, 1) := by decide +kernel
theorem edX6_packed_18 : decode cX6_packed 18 = .ok (.invokevirtual 54, 3) := by decide +kernel
theorem edX6_packed_21 : decode cX6_packed 21 = .ok (.i2l, 1) := by decide +kernel
theorem edX6_packed_22 : decode cX6_packed 22 = .ok (.lor, 1) := by decide +kernel
theorem edX6_packed_23 : decode cX6_packed 23 = .ok (.lstore_n 1, 1) := by decide +kernel
theorem edX6_packed_24 : decode cX6_packed 24 = .ok (.iinc 3 1, 3) := by decide +kernel
theorem edX6_packed_27 : decode cX6_packed 27 = .ok (.goto (-23), 3) := by decide +kernel
theorem edX6_packed_30 : decode cX6_packed 30 = .ok (.lload_n 1, 1) := by decide +kernel
theorem edX6_packed_31 : decode cX6_packed 31 = .ok (.lreturn, 1) := by decide +kernel
abbrev xJ (E : xEnv) (l : Launch) (y : MethodName) (b : ByteArray) (n : Nat) (ret : Option FieldType) (f lo : Nat) (as : List Value) (v : Option Value) : Prop := Met l y (Cond.code y b n ret :: xws) { frames := f, cells := 0, slots := 0, locals := lo } (va_Pc as (fun U => xTb E U ∧ xLow E U U.heap)) (fun _ st oc t => oc = .returned v ∧ t.heap = st.heap) 0 0 (fun _ => False)
section PK
variable {p : Program} {l : Launch} {e : Env} {R : Room} {s : State} {m : MethodId} {args : Array Value} {below : List Frame} {meth : Method} {c : Code} {H : Heap} {locs : List Loc} {cells slots : Nat} {Q : State → Prop} {pc : Nat} {ls : Array Slot} {E : xEnv}
theorem x_callN {v : Option Value} {rest st0 : List Value} {Qa : State → Outcome → State → Prop} (hr : va_Run p l e R s m args below meth c H locs cells slots 0 0 (F0 m pc ls st0) rest Qa (fun _ => False)) (hQ : ∀ (st : State) (oc : Outcome) (t : State), st.heap = H → Qa st oc t → oc = .returned v ∧ t.heap = H)
    (kk : W p l e R s m args below meth c H locs cells slots Q (F0 m (pc + 3) ls (v.toList ++ rest))) : W p l e R s m args below meth c H locs cells slots Q (F0 m pc ls st0) := by
  intro T hT X
  obtain ⟨v', st₀, t, T', L, h0, X', hL, e1, e2, hq, st⟩ := hr T hT X
  have hL0 : L = [] := List.eq_nil_iff_forall_not_mem.mpr hL
  subst hL0
  obtain ⟨hv, hP⟩ := hQ _ _ _ h0 hq
  cases hv
  rw [List.append_nil] at X'
  obtain ⟨t2, a1, b1⟩ := kk T' (by rw [e1]; exact hP) X'
  exact ⟨t2, st t2 a1, b1⟩
theorem xBlindJ {av : List Value} : FrameBlind (va_Pc av (fun U => xTb E U ∧ xLow E U U.heap)) := fun a U fr mk q => ⟨q.1, xTb.moved (u := U) (U := U.calling fr mk a) (State.WarmedH.refl U) q.2.1, xLow.moved (u := U) (U := U.calling fr mk a) (Vm.Alike.refl U.vm) q.2.2⟩
theorem xPreJ {av : List Value} (hT : xTb E s) (hLow : xLow E s s.heap) : PreS s s.heap (va_Pc av (fun U => xTb E U ∧ xLow E U U.heap)) av := ⟨xBlindJ, fun U hU hW => ⟨rfl, hT.moved hW, by rw [hU]; exact hLow.moved hW.alike⟩⟩
theorem xPreV {av : List Value} {j : Nat} (hT : xTb E s) (hLow : xLow E s s.heap) (hj : j < 7) : PreV s s.heap RJ0 (eX E (j + 1)) (va_Pc (.ref (eX E (j + 1)) :: av) (fun U => xTb E U ∧ xLow E U U.heap)) av := ⟨xBlindJ, vk_recv (i := j) hLow.1 hj va_S.rf, fun U hU hW => ⟨rfl, hT.moved hW, by rw [hU]; exact hLow.moved hW.alike⟩⟩
theorem pj_k3 (i n : Int32) (t : Nat) (h0 : ¬ i < 0) (h1 : i < n) : xJ E l yJ3_checkIndex_8e157 cJ3_checkIndex_8e157 3 (some .int) 0 0 [.int i, .int n, .ref t] (some (.int i)) := by
  refine Met.ofW (cc := cJ3_checkIndex_8e157) (maxL := 3) (ret := some .int) (by decide +kernel) rfl ?_
  intro p e s m args below meth c s₁ B hml hv
  obtain ⟨rfl, hT, hLow⟩ := hv
  have hx := B.exec
  have hb := B.bytes
  have hl := lv_entry [.int i, .int n, .ref t] (n := 3) (Nat.le_of_ble_eq_true rfl)
  rw [lg_entry_eq]
  generalize (lg_sl [.int i, .int n, .ref t] ++ List.replicate (3 - (lg_sl [.int i, .int n, .ref t]).length) Slot.unset).toArray = ls at hl ⊢
  have hl : lv_has ls 3 [(0, .int i), (1, .int n), (2, .ref t)] := hl
  refine lv_iload_n hx hb edJ3_checkIndex_8e157_0 rfl (lv_at hl 0 rfl) ?_
  refine lv_if_lt (tgt := 9) hx hb edJ3_checkIndex_8e157_1 rfl (fun q => absurd q h0) (fun _ => ?_)
  refine lv_iload_n hx hb edJ3_checkIndex_8e157_4 rfl (lv_at hl 0 rfl) ?_
  refine lv_iload_n hx hb edJ3_checkIndex_8e157_5 rfl (lv_at hl 1 rfl) ?_
  refine lv_icmp_lt (tgt := 16) hx hb edJ3_checkIndex_8e157_6 rfl (fun _ => ?_) (fun q => absurd h1 q)
  refine lv_iload_n hx hb edJ3_checkIndex_8e157_16 rfl (lv_at hl 0 rfl) ?_
  exact W.iret hx hb B.returns (fun t ht _ => ⟨rfl, ht⟩) (fun q h => absurd h List.not_mem_nil) edJ3_checkIndex_8e157_17 B.notSynchronized
theorem pj_k3n (i n : Int32) (h0 : ¬ i < 0) (h1 : i < n) : xJ E l yJ3_checkIndex_8e157 cJ3_checkIndex_8e157 3 (some .int) 0 0 [.int i, .int n, .null] (some (.int i)) := by
  refine Met.ofW (cc := cJ3_checkIndex_8e157) (maxL := 3) (ret := some .int) (by decide +kernel) rfl ?_
  intro p e s m args below meth c s₁ B hml hv
  obtain ⟨rfl, hT, hLow⟩ := hv
  have hx := B.exec
  have hb := B.bytes
  have hl := lv_entry [.int i, .int n, .null] (n := 3) (Nat.le_of_ble_eq_true rfl)
  rw [lg_entry_eq]
  generalize (lg_sl [.int i, .int n, .null] ++ List.replicate (3 - (lg_sl [.int i, .int n, .null]).length) Slot.unset).toArray = ls at hl ⊢
  have hl : lv_has ls 3 [(0, .int i), (1, .int n), (2, .null)] := hl
  refine lv_iload_n hx hb edJ3_checkIndex_8e157_0 rfl (lv_at hl 0 rfl) ?_
  refine lv_if_lt (tgt := 9) hx hb edJ3_checkIndex_8e157_1 rfl (fun q => absurd q h0) (fun _ => ?_)
  refine lv_iload_n hx hb edJ3_checkIndex_8e157_4 rfl (lv_at hl 0 rfl) ?_
  refine lv_iload_n hx hb edJ3_checkIndex_8e157_5 rfl (lv_at hl 1 rfl) ?_
  refine lv_icmp_lt (tgt := 16) hx hb edJ3_checkIndex_8e157_6 rfl (fun _ => ?_) (fun q => absurd h1 q)
  refine lv_iload_n hx hb edJ3_checkIndex_8e157_16 rfl (lv_at hl 0 rfl) ?_
  exact W.iret hx hb B.returns (fun t ht _ => ⟨rfl, ht⟩) (fun q h => absurd h List.not_mem_nil) edJ3_checkIndex_8e157_17 B.notSynchronized
theorem pj_k0 (i n : Int32) (h0 : ¬ i < 0) (h1 : i < n) : xJ E l yJ0_checkIndex_df160 cJ0_checkIndex_df160 2 none 1 30 [.int i, .int n] none := by
  refine Met.ofW (cc := cJ0_checkIndex_df160) (maxL := 2) (ret := none) (by decide +kernel) rfl ?_
  intro p e s m args below meth c s₁ B hml hv
  obtain ⟨rfl, hT, hLow⟩ := hv
  have hx := B.exec
  have hb := B.bytes
  have hts0 := atoms_spec (ws := Cond.code yJ0_checkIndex_df160 cJ0_checkIndex_df160 2 none :: xws) B.pre
  have hts : ∀ w ∈ xws, w.before #[.int i, .int n] s = true := fun w hw => hts0 w (List.mem_cons_of_mem _ hw)
  have hown : s.vm.findClass RJ0 = some m.cls := findClass_of_methodNamed B.named
  have hl := lv_entry [.int i, .int n] (n := 2) (Nat.le_of_ble_eq_true rfl)
  rw [lg_entry_eq]
  generalize (lg_sl [.int i, .int n] ++ List.replicate (2 - (lg_sl [.int i, .int n]).length) Slot.unset).toArray = ls at hl ⊢
  have hl : lv_has ls 2 [(0, .int i), (1, .int n)] := hl
  refine lv_iload_n hx hb edJ0_checkIndex_df160_0 rfl (lv_at hl 0 rfl) ?_
  refine lv_iload_n hx hb edJ0_checkIndex_df160_1 rfl (lv_at hl 1 rfl) ?_
  rcases hLow.2.2.2.2.2 with hZ | ⟨t, hZ⟩
  · refine va_gets hx hb hZ va_S.rf hown (hts _ pw_fld_1053) (fun _ h => h) edJ0_checkIndex_df160_2 ?_
    refine x_callN (v := some (.int i)) (va_runS (Ts := xws) (own := RJ0) (As := [.int i, .int n, .null]) (rest := []) (n := 3) ⟨hx, hb, hml, hown, hts⟩ (pj_k3n i n h0 h1) ⟨callB_of 3 hts (xGI0 pw_code_J3_checkIndex_8e157) rfl rfl rfl (hts _ pw_ini_J3) (hts _ pw_link_J0_1059) (by decide +kernel) ⟨Nat.le_of_ble_eq_true rfl, Nat.le_of_ble_eq_true rfl⟩, hts _ pw_st_J3_checkIndex_8e157⟩ (xPreJ hT hLow) rfl rfl hl.1 rfl (lv_room (Nat.le_of_ble_eq_true rfl)) edJ0_checkIndex_df160_5 ⟨Nat.zero_le _, Nat.zero_le _⟩) (fun st oc t h0 hq => ⟨hq.1, hq.2.trans h0⟩) ?_
    refine lv_pop hx hb edJ0_checkIndex_df160_8 rfl ?_
    exact W.vret hx hb B.returns (fun t ht _ => ⟨rfl, ht⟩) (fun q h => absurd h List.not_mem_nil) edJ0_checkIndex_df160_9 B.notSynchronized
  · refine va_gets hx hb hZ va_S.rf hown (hts _ pw_fld_1053) (fun _ h => h) edJ0_checkIndex_df160_2 ?_
    refine x_callN (v := some (.int i)) (va_runS (Ts := xws) (own := RJ0) (As := [.int i, .int n, .ref t]) (rest := []) (n := 3) ⟨hx, hb, hml, hown, hts⟩ (pj_k3 i n t h0 h1) ⟨callB_of 3 hts (xGI0 pw_code_J3_checkIndex_8e157) rfl rfl rfl (hts _ pw_ini_J3) (hts _ pw_link_J0_1059) (by decide +kernel) ⟨Nat.le_of_ble_eq_true rfl, Nat.le_of_ble_eq_true rfl⟩, hts _ pw_st_J3_checkIndex_8e157⟩ (xPreJ hT hLow) rfl rfl hl.1 rfl (lv_room (Nat.le_of_ble_eq_true rfl)) edJ0_checkIndex_df160_5 ⟨Nat.zero_le _, Nat.zero_le _⟩) (fun st oc t h0 hq => ⟨hq.1, hq.2.trans h0⟩) ?_
    refine lv_pop hx hb edJ0_checkIndex_df160_8 rfl ?_
    exact W.vret hx hb B.returns (fun t ht _ => ⟨rfl, ht⟩) (fun q h => absurd h List.not_mem_nil) edJ0_checkIndex_df160_9 B.notSynchronized
def xLn (j : Nat) : Nat := ((List.range 7).map fun j => (xCsB j).length).getD j 0
def xBy (j : Nat) (k : Nat) : Int32 := (((List.range 7).map xCsB).getD j []).getD k 0
theorem xBy_ok : ∀ j, j < 7 → xLn j < 9 ∧ ∀ k, k < xLn j → ((xBy j k &&& 255).toUInt32 % 65536).toInt32 = xBy j k ∧ narrow .char (.int (xBy j k)) = .int (xBy j k) := by decide +kernel
theorem pj_c1 (j k : Nat) (hj : j < 7) (hk : k < xLn j) : xJ E l yJ1_charAt_3b067 cJ1_charAt_3b067 2 (some .char) 2 60 [.ref (eV E j), .int (nI k)] (some (.int (xBy j k))) := by
  refine Met.ofW (cc := cJ1_charAt_3b067) (maxL := 2) (ret := some .char) (by decide +kernel) rfl ?_
  intro p e s m args below meth c s₁ B hml hv
  obtain ⟨rfl, hT, hLow⟩ := hv
  have hx := B.exec
  have hb := B.bytes
  have hts0 := atoms_spec (ws := Cond.code yJ1_charAt_3b067 cJ1_charAt_3b067 2 (some .char) :: xws) B.pre
  have hts : ∀ w ∈ xws, w.before #[.ref (eV E j), .int (nI k)] s = true := fun w hw => hts0 w (List.mem_cons_of_mem _ hw)
  have hown : s.vm.findClass RJ1 = some m.cls := findClass_of_methodNamed B.named
  have hl := lv_entry [.ref (eV E j), .int (nI k)] (n := 2) (Nat.le_of_ble_eq_true rfl)
  rw [lg_entry_eq]
  generalize (lg_sl [.ref (eV E j), .int (nI k)] ++ List.replicate (2 - (lg_sl [.ref (eV E j), .int (nI k)]).length) Slot.unset).toArray = ls at hl ⊢
  have hl : lv_has ls 2 [(0, .ref (eV E j)), (1, .int (nI k))] := hl
  have hV : va_T .byte (eV E j) (xLn j) (fun q => .int (xBy j q)) (fun q => eB E ≤ q) s s.heap := (hLow.1.1 j hj).2.2.2
  obtain ⟨b1, b2⟩ := xBy_ok j hj
  obtain ⟨b3, b4⟩ := b2 k hk
  refine lv_iload_n hx hb edJ1_charAt_3b067_0 rfl (lv_at hl 1 rfl) ?_
  refine lv_aload_n hx hb edJ1_charAt_3b067_1 rfl (lv_at hl 0 rfl) ?_
  refine va_tlen (v := nI (xLn j)) hx hb hV va_S.rf rfl edJ1_charAt_3b067_2 ?_
  refine x_callN (v := none) (va_runS (Ts := xws) (own := RJ1) (As := [.int (nI k), .int (nI (xLn j))]) (rest := []) (n := 2) ⟨hx, hb, hml, hown, hts⟩ (pj_k0 (nI k) (nI (xLn j)) (nI_pos (by omega)) (nI_lt hk (by omega))) ⟨callB_of 2 hts (xGI0 pw_code_J0_checkIndex_df160) rfl rfl rfl (hts _ pw_ini_J0) (hts _ pw_link_J1_9) (by decide +kernel) ⟨Nat.le_of_ble_eq_true rfl, Nat.le_of_ble_eq_true rfl⟩, hts _ pw_st_J0_checkIndex_df160⟩ (xPreJ hT hLow) rfl rfl hl.1 rfl (lv_room (Nat.le_of_ble_eq_true rfl)) edJ1_charAt_3b067_3 ⟨Nat.zero_le _, Nat.zero_le _⟩) (fun st oc t h0 hq => ⟨hq.1, hq.2.trans h0⟩) ?_
  refine lv_aload_n hx hb edJ1_charAt_3b067_6 rfl (lv_at hl 0 rfl) ?_
  refine lv_iload_n hx hb edJ1_charAt_3b067_7 rfl (lv_at hl 1 rfl) ?_
  refine va_tb (v := .int (xBy j k)) hx hb hV va_S.rf (vp_in_nI hk (by omega)) (by rw [nI_clamp (by omega)]) edJ1_charAt_3b067_8 ?_
  refine lv_sipush (v := 255) hx hb edJ1_charAt_3b067_9 (by decide) ?_
  refine lv_iand hx hb edJ1_charAt_3b067_12 ?_
  refine lv_i2c (v := xBy j k) hx hb edJ1_charAt_3b067_13 b3 ?_
  exact W.zret hx hb B.returns b4 (fun t ht _ => ⟨rfl, ht⟩) (fun q h => absurd h List.not_mem_nil) edJ1_charAt_3b067_14 B.notSynchronized
theorem pj_la (j : Nat) (hj : j < 7) : xJ E l yJ0_isLatin1_aae02 cJ0_isLatin1_aae02 1 (some .boolean) 0 0 [.ref (eX E (j + 1))] (some (.int 1)) := by
  refine Met.ofW (cc := cJ0_isLatin1_aae02) (maxL := 1) (ret := some .boolean) (by decide +kernel) rfl ?_
  intro p e s m args below meth c s₁ B hml hv
  obtain ⟨rfl, hT, hLow⟩ := hv
  have hx := B.exec
  have hb := B.bytes
  have hts0 := atoms_spec (ws := Cond.code yJ0_isLatin1_aae02 cJ0_isLatin1_aae02 1 (some .boolean) :: xws) B.pre
  have hts : ∀ w ∈ xws, w.before #[.ref (eX E (j + 1))] s = true := fun w hw => hts0 w (List.mem_cons_of_mem _ hw)
  have hown : s.vm.findClass RJ0 = some m.cls := findClass_of_methodNamed B.named
  have hl := lv_entry [.ref (eX E (j + 1))] (n := 1) (Nat.le_of_ble_eq_true rfl)
  rw [lg_entry_eq]
  generalize (lg_sl [.ref (eX E (j + 1))] ++ List.replicate (1 - (lg_sl [.ref (eX E (j + 1))]).length) Slot.unset).toArray = ls at hl ⊢
  have hl : lv_has ls 1 [(0, .ref (eX E (j + 1)))] := hl
  refine va_gets hx hb hLow.2.2.2.2.1 va_S.rf hown (hts _ pw_fld_38) (fun _ h => h) edJ0_isLatin1_aae02_0 ?_
  refine lv_if_eq (tgt := 17) hx hb edJ0_isLatin1_aae02_3 rfl (fun q => absurd q (by decide)) (fun _ => ?_)
  refine lv_aload_n hx hb edJ0_isLatin1_aae02_6 rfl (lv_at hl 0 rfl) ?_
  refine vk_getf hx hb (hLow.1.1 j hj).2.1 va_S.rf hown (hts _ pw_fld_15) (fun _ h => h) edJ0_isLatin1_aae02_7 ?_
  refine lv_if_ne (tgt := 17) hx hb edJ0_isLatin1_aae02_10 rfl (fun q => absurd rfl q) (fun _ => ?_)
  refine lv_iconst (v := 1) hx hb edJ0_isLatin1_aae02_13 (by decide) ?_
  refine lv_goto (tgt := 18) hx hb edJ0_isLatin1_aae02_14 rfl ?_
  exact W.zret hx hb B.returns rfl (fun t ht _ => ⟨rfl, ht⟩) (fun q h => absurd h List.not_mem_nil) edJ0_isLatin1_aae02_18 B.notSynchronized
theorem pj_co (j : Nat) (hj : j < 7) : xJ E l yJ0_coder_7d493 cJ0_coder_7d493 1 (some .byte) 0 0 [.ref (eX E (j + 1))] (some (.int 0)) := by
  refine Met.ofW (cc := cJ0_coder_7d493) (maxL := 1) (ret := some .byte) (by decide +kernel) rfl ?_
  intro p e s m args below meth c s₁ B hml hv
  obtain ⟨rfl, hT, hLow⟩ := hv
  have hx := B.exec
  have hb := B.bytes
  have hts0 := atoms_spec (ws := Cond.code yJ0_coder_7d493 cJ0_coder_7d493 1 (some .byte) :: xws) B.pre
  have hts : ∀ w ∈ xws, w.before #[.ref (eX E (j + 1))] s = true := fun w hw => hts0 w (List.mem_cons_of_mem _ hw)
  have hown : s.vm.findClass RJ0 = some m.cls := findClass_of_methodNamed B.named
  have hl := lv_entry [.ref (eX E (j + 1))] (n := 1) (Nat.le_of_ble_eq_true rfl)
  rw [lg_entry_eq]
  generalize (lg_sl [.ref (eX E (j + 1))] ++ List.replicate (1 - (lg_sl [.ref (eX E (j + 1))]).length) Slot.unset).toArray = ls at hl ⊢
  have hl : lv_has ls 1 [(0, .ref (eX E (j + 1)))] := hl
  refine va_gets hx hb hLow.2.2.2.2.1 va_S.rf hown (hts _ pw_fld_38) (fun _ h => h) edJ0_coder_7d493_0 ?_
  refine lv_if_eq (tgt := 13) hx hb edJ0_coder_7d493_3 rfl (fun q => absurd q (by decide)) (fun _ => ?_)
  refine lv_aload_n hx hb edJ0_coder_7d493_6 rfl (lv_at hl 0 rfl) ?_
  refine vk_getf hx hb (hLow.1.1 j hj).2.1 va_S.rf hown (hts _ pw_fld_15) (fun _ h => h) edJ0_coder_7d493_7 ?_
  refine lv_goto (tgt := 14) hx hb edJ0_coder_7d493_10 rfl ?_
  exact W.zret hx hb B.returns rfl (fun t ht _ => ⟨rfl, ht⟩) (fun q h => absurd h List.not_mem_nil) edJ0_coder_7d493_14 B.notSynchronized
theorem pj_ln (j : Nat) (hj : j < 7) : xJ E l yJ0_length_8abf5 cJ0_length_8abf5 1 (some .int) 1 30 [.ref (eX E (j + 1))] (some (.int (nI (xLn j)))) := by
  refine Met.ofW (cc := cJ0_length_8abf5) (maxL := 1) (ret := some .int) (by decide +kernel) rfl ?_
  intro p e s m args below meth c s₁ B hml hv
  obtain ⟨rfl, hT, hLow⟩ := hv
  have hx := B.exec
  have hb := B.bytes
  have hts0 := atoms_spec (ws := Cond.code yJ0_length_8abf5 cJ0_length_8abf5 1 (some .int) :: xws) B.pre
  have hts : ∀ w ∈ xws, w.before #[.ref (eX E (j + 1))] s = true := fun w hw => hts0 w (List.mem_cons_of_mem _ hw)
  have hown : s.vm.findClass RJ0 = some m.cls := findClass_of_methodNamed B.named
  have hl := lv_entry [.ref (eX E (j + 1))] (n := 1) (Nat.le_of_ble_eq_true rfl)
  rw [lg_entry_eq]
  generalize (lg_sl [.ref (eX E (j + 1))] ++ List.replicate (1 - (lg_sl [.ref (eX E (j + 1))]).length) Slot.unset).toArray = ls at hl ⊢
  have hl : lv_has ls 1 [(0, .ref (eX E (j + 1)))] := hl
  refine lv_aload_n hx hb edJ0_length_8abf5_0 rfl (lv_at hl 0 rfl) ?_
  refine vk_getf hx hb (hLow.1.1 j hj).2.2.1 va_S.rf hown (hts _ pw_fld_9) (fun _ h => h) edJ0_length_8abf5_1 ?_
  refine va_tlen (v := nI (xLn j)) hx hb (hLow.1.1 j hj).2.2.2 va_S.rf rfl edJ0_length_8abf5_4 ?_
  refine lv_aload_n hx hb edJ0_length_8abf5_5 rfl (lv_at hl 0 rfl) ?_
  refine x_callN (v := some (.int 0)) (va_runV (Ts := xws) (own := RJ0) (C := RJ0) (b := eX E (j + 1)) (As := []) (rest := [.int (nI (xLn j))]) (n := 0) ⟨hx, hb, hml, hown, hts⟩ (pj_co j hj) ⟨callB_of 0 hts (xGI0 pw_code_J0_coder_7d493) rfl rfl rfl (hts _ pw_ini_J0) (hts _ pw_link_J0_335) (by decide +kernel) ⟨Nat.le_of_ble_eq_true rfl, Nat.le_of_ble_eq_true rfl⟩, hts _ pw_inst_J0_coder_7d493, hts _ pw_sel_J0_coder_7d493⟩ (xPreV hT hLow hj) rfl rfl hl.1 rfl (lv_room (Nat.le_of_ble_eq_true rfl)) edJ0_length_8abf5_6 ⟨Nat.zero_le _, Nat.zero_le _⟩) (fun st oc t h0 hq => ⟨hq.1, hq.2.trans h0⟩) ?_
  refine lv_ishr hx hb edJ0_length_8abf5_9 ?_
  rw [show nI (xLn j) >>> ((0 : Int32) &&& 31) = nI (xLn j) by simp]
  exact W.iret hx hb B.returns (fun t ht _ => ⟨rfl, ht⟩) (fun q h => absurd h List.not_mem_nil) edJ0_length_8abf5_10 B.notSynchronized
theorem pj_ch (j k : Nat) (hj : j < 7) (hk : k < xLn j) : xJ E l yJ0_charAt_5068e cJ0_charAt_5068e 2 (some .char) 3 90 [.ref (eX E (j + 1)), .int (nI k)] (some (.int (xBy j k))) := by
  refine Met.ofW (cc := cJ0_charAt_5068e) (maxL := 2) (ret := some .char) (by decide +kernel) rfl ?_
  intro p e s m args below meth c s₁ B hml hv
  obtain ⟨rfl, hT, hLow⟩ := hv
  have hx := B.exec
  have hb := B.bytes
  have hts0 := atoms_spec (ws := Cond.code yJ0_charAt_5068e cJ0_charAt_5068e 2 (some .char) :: xws) B.pre
  have hts : ∀ w ∈ xws, w.before #[.ref (eX E (j + 1)), .int (nI k)] s = true := fun w hw => hts0 w (List.mem_cons_of_mem _ hw)
  have hown : s.vm.findClass RJ0 = some m.cls := findClass_of_methodNamed B.named
  have hl := lv_entry [.ref (eX E (j + 1)), .int (nI k)] (n := 2) (Nat.le_of_ble_eq_true rfl)
  rw [lg_entry_eq]
  generalize (lg_sl [.ref (eX E (j + 1)), .int (nI k)] ++ List.replicate (2 - (lg_sl [.ref (eX E (j + 1)), .int (nI k)]).length) Slot.unset).toArray = ls at hl ⊢
  have hl : lv_has ls 2 [(0, .ref (eX E (j + 1))), (1, .int (nI k))] := hl
  obtain ⟨b1, b2⟩ := xBy_ok j hj
  obtain ⟨b3, b4⟩ := b2 k hk
  refine lv_aload_n hx hb edJ0_charAt_5068e_0 rfl (lv_at hl 0 rfl) ?_
  refine x_callN (v := some (.int 1)) (va_runV (Ts := xws) (own := RJ0) (C := RJ0) (b := eX E (j + 1)) (As := []) (rest := []) (n := 0) ⟨hx, hb, hml, hown, hts⟩ (pj_la j hj) ⟨callB_of 0 hts (xGI0 pw_code_J0_isLatin1_aae02) rfl rfl rfl (hts _ pw_ini_J0) (hts _ pw_link_J0_492) (by decide +kernel) ⟨Nat.le_of_ble_eq_true rfl, Nat.le_of_ble_eq_true rfl⟩, hts _ pw_inst_J0_isLatin1_aae02, hts _ pw_sel_J0_isLatin1_aae02⟩ (xPreV hT hLow hj) rfl rfl hl.1 rfl (lv_room (Nat.le_of_ble_eq_true rfl)) edJ0_charAt_5068e_1 ⟨Nat.zero_le _, Nat.zero_le _⟩) (fun st oc t h0 hq => ⟨hq.1, hq.2.trans h0⟩) ?_
  refine lv_if_eq (tgt := 16) hx hb edJ0_charAt_5068e_4 rfl (fun q => absurd q (by decide)) (fun _ => ?_)
  refine lv_aload_n hx hb edJ0_charAt_5068e_7 rfl (lv_at hl 0 rfl) ?_
  refine vk_getf hx hb (hLow.1.1 j hj).2.2.1 va_S.rf hown (hts _ pw_fld_9) (fun _ h => h) edJ0_charAt_5068e_8 ?_
  refine lv_iload_n hx hb edJ0_charAt_5068e_11 rfl (lv_at hl 1 rfl) ?_
  refine x_callN (v := some (.int (xBy j k))) (va_runS (Ts := xws) (own := RJ0) (As := [.ref (eV E j), .int (nI k)]) (rest := []) (n := 2) ⟨hx, hb, hml, hown, hts⟩ (pj_c1 j k hj hk) ⟨callB_of 2 hts (xGI0 pw_code_J1_charAt_3b067) rfl rfl rfl (hts _ pw_ini_J1) (hts _ pw_link_J0_495) (by decide +kernel) ⟨Nat.le_of_ble_eq_true rfl, Nat.le_of_ble_eq_true rfl⟩, hts _ pw_st_J1_charAt_3b067⟩ (xPreJ hT hLow) rfl rfl hl.1 rfl (lv_room (Nat.le_of_ble_eq_true rfl)) edJ0_charAt_5068e_12 ⟨Nat.zero_le _, Nat.zero_le _⟩) (fun st oc t h0 hq => ⟨hq.1, hq.2.trans h0⟩) ?_
  exact W.zret hx hb B.returns b4 (fun t ht _ => ⟨rfl, ht⟩) (fun q h => absurd h List.not_mem_nil) edJ0_charAt_5068e_15 B.notSynchronized
def xSum (j : Nat) : Nat → Int64
  | 0 => 0
  | k + 1 => (xSum j k <<< ((8 : Int32).toInt64 &&& 63)) ||| (xBy j k).toInt64
theorem xSum_ok : ∀ j, j < 7 → xSum j (xLn j) = xPv j := by decide +kernel
theorem xPk_all : xPkOK E l := by
  intro j hj
  refine Met.ofW (cc := cX6_packed) (maxL := 4) (ret := some .long) (by decide +kernel) rfl ?_
  intro p e s m args below meth c s₁ B hml hv
  obtain ⟨rfl, hT, hLow⟩ := hv
  have hx := B.exec
  have hb := B.bytes
  have hts0 := atoms_spec (ws := Cond.code mX6_packed.1 mX6_packed.2.1 mX6_packed.2.2.1 mX6_packed.2.2.2.1 :: xws) B.pre
  have hts : ∀ w ∈ xws, w.before #[.ref (eX E (j + 1))] s = true := fun w hw => hts0 w (List.mem_cons_of_mem _ hw)
  have hown : s.vm.findClass RX6 = some m.cls := findClass_of_methodNamed B.named
  have hl := lv_entry [.ref (eX E (j + 1))] (n := 4) (Nat.le_of_ble_eq_true rfl)
  rw [lg_entry_eq]
  show W _ _ _ _ _ _ _ _ _ _ _ _ _ _ _ (F0 m 0 (lg_sl [.ref (eX E (j + 1))] ++ List.replicate (4 - (lg_sl [.ref (eX E (j + 1))]).length) Slot.unset).toArray [])
  generalize (lg_sl [.ref (eX E (j + 1))] ++ List.replicate (4 - (lg_sl [.ref (eX E (j + 1))]).length) Slot.unset).toArray = ls at hl ⊢
  have hl : lv_has ls 4 [(0, .ref (eX E (j + 1)))] := hl
  obtain ⟨b1, b2⟩ := xBy_ok j hj
  refine lv_lconst (v := 0) hx hb edX6_packed_0 (by decide) ?_
  refine lv_lstore_n (lv' := [(1, .long 0), (0, .ref (eX E (j + 1)))]) hx hb edX6_packed_1 rfl hl (by decide) rfl (fun ls hl => ?_)
  refine lv_iconst (v := 0) hx hb edX6_packed_2 (by decide) ?_
  refine lv_istore_n (lv' := [(3, .int 0), (1, .long 0), (0, .ref (eX E (j + 1)))]) hx hb edX6_packed_3 rfl hl (by decide) rfl (fun ls hl => ?_)
  have loop : ∀ n k : Nat, n + k = xLn j → ∀ ls : Array Slot, lv_has ls 4 [(3, .int (nI k)), (1, .long (xSum j k)), (0, .ref (eX E (j + 1)))] → W p l e { frames := 8, cells := 0, slots := 0, locals := 400 } s m #[.ref (eX E (j + 1))] below meth c s.heap [] 0 0 (MQ below (fun _ st oc t => oc = .returned (some (.long (xPv j))) ∧ t.heap = st.heap) #[.ref (eX E (j + 1))] s 0 0 (fun _ => False)) (F0 m 4 ls []) := by
    intro n
    induction n with
    | zero =>
      intro k hk ls hl
      have hk : k = xLn j := by omega
      subst hk
      refine lv_iload_n hx hb edX6_packed_4 rfl (lv_at hl 0 rfl) ?_
      refine lv_aload_n hx hb edX6_packed_5 rfl (lv_at hl 2 rfl) ?_
      refine x_callN (v := some (.int (nI (xLn j)))) (va_runV (Ts := xws) (own := RX6) (C := RJ0) (b := eX E (j + 1)) (As := []) (rest := [.int (nI (xLn j))]) (n := 0) ⟨hx, hb, hml, hown, hts⟩ (pj_ln j hj) ⟨callB_of 0 hts (xGI0 pw_code_J0_length_8abf5) rfl rfl rfl (hts _ pw_ini_J0) (hts _ pw_link_X6_48) (by decide +kernel) ⟨Nat.le_of_ble_eq_true rfl, Nat.le_of_ble_eq_true rfl⟩, hts _ pw_inst_J0_length_8abf5, hts _ pw_sel_J0_length_8abf5⟩ (xPreV hT hLow hj) rfl rfl hl.1 rfl (lv_room (Nat.le_of_ble_eq_true rfl)) edX6_packed_6 ⟨Nat.zero_le _, Nat.zero_le _⟩) (fun st oc t h0 hq => ⟨hq.1, hq.2.trans h0⟩) ?_
      refine lv_icmp_ge (tgt := 30) hx hb edX6_packed_9 rfl (fun _ => ?_) (fun q => absurd (nI_le (Nat.le_refl _) (by omega)) q)
      refine lv_lload_n hx hb edX6_packed_30 rfl (lv_at hl 1 rfl) ?_
      rw [xSum_ok j hj]
      exact W.lret hx hb B.returns (fun t ht _ => ⟨rfl, ht⟩) (fun q h => absurd h List.not_mem_nil) edX6_packed_31 B.notSynchronized
    | succ n ih =>
      intro k hk ls hl
      refine lv_iload_n hx hb edX6_packed_4 rfl (lv_at hl 0 rfl) ?_
      refine lv_aload_n hx hb edX6_packed_5 rfl (lv_at hl 2 rfl) ?_
      refine x_callN (v := some (.int (nI (xLn j)))) (va_runV (Ts := xws) (own := RX6) (C := RJ0) (b := eX E (j + 1)) (As := []) (rest := [.int (nI k)]) (n := 0) ⟨hx, hb, hml, hown, hts⟩ (pj_ln j hj) ⟨callB_of 0 hts (xGI0 pw_code_J0_length_8abf5) rfl rfl rfl (hts _ pw_ini_J0) (hts _ pw_link_X6_48) (by decide +kernel) ⟨Nat.le_of_ble_eq_true rfl, Nat.le_of_ble_eq_true rfl⟩, hts _ pw_inst_J0_length_8abf5, hts _ pw_sel_J0_length_8abf5⟩ (xPreV hT hLow hj) rfl rfl hl.1 rfl (lv_room (Nat.le_of_ble_eq_true rfl)) edX6_packed_6 ⟨Nat.zero_le _, Nat.zero_le _⟩) (fun st oc t h0 hq => ⟨hq.1, hq.2.trans h0⟩) ?_
      refine lv_icmp_ge (tgt := 30) hx hb edX6_packed_9 rfl (fun q => absurd q (nI_ge (by omega) (by omega))) (fun _ => ?_)
      refine lv_lload_n hx hb edX6_packed_12 rfl (lv_at hl 1 rfl) ?_
      refine lv_bipush (v := 8) hx hb edX6_packed_13 (by decide) ?_
      refine lv_lshl (v := xSum j k <<< ((8 : Int32).toInt64 &&& 63)) hx hb edX6_packed_15 rfl ?_
      refine lv_aload_n hx hb edX6_packed_16 rfl (lv_at hl 2 rfl) ?_
      refine lv_iload_n hx hb edX6_packed_17 rfl (lv_at hl 0 rfl) ?_
      refine x_callN (v := some (.int (xBy j k))) (va_runV (Ts := xws) (own := RX6) (C := RJ0) (b := eX E (j + 1)) (As := [.int (nI k)]) (rest := [.long (xSum j k <<< ((8 : Int32).toInt64 &&& 63))]) (n := 1) ⟨hx, hb, hml, hown, hts⟩ (pj_ch j k hj (by omega)) ⟨callB_of 1 hts (xGI0 pw_code_J0_charAt_5068e) rfl rfl rfl (hts _ pw_ini_J0) (hts _ pw_link_X6_54) (by decide +kernel) ⟨Nat.le_of_ble_eq_true rfl, Nat.le_of_ble_eq_true rfl⟩, hts _ pw_inst_J0_charAt_5068e, hts _ pw_sel_J0_charAt_5068e⟩ (xPreV hT hLow hj) rfl rfl hl.1 rfl (lv_room (Nat.le_of_ble_eq_true rfl)) edX6_packed_18 ⟨Nat.zero_le _, Nat.zero_le _⟩) (fun st oc t h0 hq => ⟨hq.1, hq.2.trans h0⟩) ?_
      refine lv_i2l (v := (xBy j k).toInt64) hx hb edX6_packed_21 rfl ?_
      refine lv_lor hx hb edX6_packed_22 ?_
      refine lv_lstore_n (lv' := [(1, .long (xSum j (k + 1))), (3, .int (nI k)), (0, .ref (eX E (j + 1)))]) hx hb edX6_packed_23 rfl hl (by decide) rfl (fun ls hl => ?_)
      refine lv_iinc (k := 1) (v := nI (k + 1)) (lv' := [(3, .int (nI (k + 1))), (1, .long (xSum j (k + 1))), (0, .ref (eX E (j + 1)))]) hx hb edX6_packed_24 hl rfl (nI_1 k) (by decide) rfl (fun ls hl => ?_)
      refine lv_goto (tgt := 4) hx hb edX6_packed_27 rfl ?_
      exact ih (k + 1) (by omega) ls hl
  exact loop (xLn j) 0 (by omega) ls hl
end PK
