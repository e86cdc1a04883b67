/-! that the tables' words hold what the tables of 02 say; xws: those of the words that every callee keeps -/
def xws : List Cond := lw_tbl.filter goodWord
theorem xw {w : Cond} (h : w ∈ lw_tbl) (g : goodWord w = true) : w ∈ xws := List.mem_filter.mpr ⟨h, g⟩
theorem xc1 : ∀ w ∈ tables_1_1, w ∈ lw_tbl := fun w h => List.mem_append_right _ (by unfold tables_1; exact List.mem_append_left _ h)
theorem xc2 : ∀ w ∈ tables_1_2, w ∈ lw_tbl := fun w h => List.mem_append_right _ (by unfold tables_1; exact List.mem_append_right _ (List.mem_append_left _ h))
theorem xc3 : ∀ w ∈ tables_1_3, w ∈ lw_tbl := fun w h => List.mem_append_right _ (by unfold tables_1; exact List.mem_append_right _ (List.mem_append_right _ (List.mem_append_left _ h)))
theorem xc4 : ∀ w ∈ tables_1_4, w ∈ lw_tbl := fun w h => List.mem_append_right _ (by unfold tables_1; exact List.mem_append_right _ (List.mem_append_right _ (List.mem_append_right _ (List.mem_append_left _ h))))
theorem xc5 : ∀ w ∈ tables_1_5, w ∈ lw_tbl := fun w h => List.mem_append_right _ (by unfold tables_1; exact List.mem_append_right _ (List.mem_append_right _ (List.mem_append_right _ (List.mem_append_right _ (List.mem_append_left _ h)))))
theorem xc6 : ∀ w ∈ tables_1_6, w ∈ lw_tbl := fun w h => List.mem_append_right _ (by unfold tables_1; exact List.mem_append_right _ (List.mem_append_right _ (List.mem_append_right _ (List.mem_append_right _ (List.mem_append_right _ (List.mem_append_left _ h))))))
theorem xc7 : ∀ w ∈ tables_1_7, w ∈ lw_tbl := fun w h => List.mem_append_right _ (by unfold tables_1; exact List.mem_append_right _ (List.mem_append_right _ (List.mem_append_right _ (List.mem_append_right _ (List.mem_append_right _ (List.mem_append_right _ (List.mem_append_left _ h)))))))
theorem xc8 : ∀ w ∈ tables_1_8, w ∈ lw_tbl := fun w h => List.mem_append_right _ (by unfold tables_1; exact List.mem_append_right _ (List.mem_append_right _ (List.mem_append_right _ (List.mem_append_right _ (List.mem_append_right _ (List.mem_append_right _ (List.mem_append_right _ (List.mem_append_left _ h))))))))
theorem xc9 : ∀ w ∈ tables_1_9, w ∈ lw_tbl := fun w h => List.mem_append_right _ (by unfold tables_1; exact List.mem_append_right _ (List.mem_append_right _ (List.mem_append_right _ (List.mem_append_right _ (List.mem_append_right _ (List.mem_append_right _ (List.mem_append_right _ (List.mem_append_right _ (List.mem_append_left _ h)))))))))
theorem xc10 : ∀ w ∈ tables_1_10, w ∈ lw_tbl := fun w h => List.mem_append_right _ (by unfold tables_1; exact List.mem_append_right _ (List.mem_append_right _ (List.mem_append_right _ (List.mem_append_right _ (List.mem_append_right _ (List.mem_append_right _ (List.mem_append_right _ (List.mem_append_right _ (List.mem_append_right _ (h))))))))))
def xFok (own : Nat) (e : Nat × Nat × Nat × Nat) : Prop := Cond.fieldLink (xNm own) e.1 (xTT e.2.1 e.2.2.1).1 (xTT e.2.1 e.2.2.1).2.1 (xTT e.2.1 e.2.2.1).2.2.1 ∈ xws ∧ e.2.1 < 12 ∧ e.2.2.1 < xNf e.2.1
set_option maxRecDepth 20000 in
theorem xfe_0_9 : xFok 0 (9, 0, 5, 369) := ⟨xw (xc1 _ (List.mem_of_getElem? (i := 228) rfl)) rfl, Nat.le_of_ble_eq_true rfl, Nat.le_of_ble_eq_true rfl⟩
set_option maxRecDepth 20000 in
theorem xfe_0_15 : xFok 0 (15, 0, 6, 372) := ⟨xw (xc1 _ (List.mem_of_getElem? (i := 231) rfl)) rfl, Nat.le_of_ble_eq_true rfl, Nat.le_of_ble_eq_true rfl⟩
set_option maxRecDepth 20000 in
theorem xfe_0_18 : xFok 0 (18, 0, 7, 375) := ⟨xw (xc1 _ (List.mem_of_getElem? (i := 234) rfl)) rfl, Nat.le_of_ble_eq_true rfl, Nat.le_of_ble_eq_true rfl⟩
set_option maxRecDepth 20000 in
theorem xfe_0_21 : xFok 0 (21, 0, 8, 378) := ⟨xw (xc1 _ (List.mem_of_getElem? (i := 237) rfl)) rfl, Nat.le_of_ble_eq_true rfl, Nat.le_of_ble_eq_true rfl⟩
set_option maxRecDepth 20000 in
theorem xfe_0_24 : xFok 0 (24, 0, 9, 379) := ⟨xw (xc1 _ (List.mem_of_getElem? (i := 238) rfl)) rfl, Nat.le_of_ble_eq_true rfl, Nat.le_of_ble_eq_true rfl⟩
set_option maxRecDepth 20000 in
theorem xfe_0_27 : xFok 0 (27, 0, 10, 380) := ⟨xw (xc1 _ (List.mem_of_getElem? (i := 239) rfl)) rfl, Nat.le_of_ble_eq_true rfl, Nat.le_of_ble_eq_true rfl⟩
set_option maxRecDepth 20000 in
theorem xfe_0_30 : xFok 0 (30, 0, 11, 381) := ⟨xw (xc2 _ (List.mem_of_getElem? (i := 0) rfl)) rfl, Nat.le_of_ble_eq_true rfl, Nat.le_of_ble_eq_true rfl⟩
set_option maxRecDepth 20000 in
theorem xfe_0_35 : xFok 0 (35, 0, 12, 382) := ⟨xw (xc2 _ (List.mem_of_getElem? (i := 1) rfl)) rfl, Nat.le_of_ble_eq_true rfl, Nat.le_of_ble_eq_true rfl⟩
set_option maxRecDepth 20000 in
theorem xfe_0_38 : xFok 0 (38, 0, 0, 359) := ⟨xw (xc1 _ (List.mem_of_getElem? (i := 218) rfl)) rfl, Nat.le_of_ble_eq_true rfl, Nat.le_of_ble_eq_true rfl⟩
set_option maxRecDepth 20000 in
theorem xfe_0_42 : xFok 0 (42, 0, 1, 363) := ⟨xw (xc1 _ (List.mem_of_getElem? (i := 222) rfl)) rfl, Nat.le_of_ble_eq_true rfl, Nat.le_of_ble_eq_true rfl⟩
set_option maxRecDepth 20000 in
theorem xfe_0_45 : xFok 0 (45, 0, 3, 367) := ⟨xw (xc1 _ (List.mem_of_getElem? (i := 226) rfl)) rfl, Nat.le_of_ble_eq_true rfl, Nat.le_of_ble_eq_true rfl⟩
set_option maxRecDepth 20000 in
theorem xfe_0_48 : xFok 0 (48, 9, 2, 183) := ⟨xw (xc1 _ (List.mem_of_getElem? (i := 42) rfl)) rfl, Nat.le_of_ble_eq_true rfl, Nat.le_of_ble_eq_true rfl⟩
set_option maxRecDepth 20000 in
theorem xfe_0_57 : xFok 0 (57, 0, 2, 365) := ⟨xw (xc1 _ (List.mem_of_getElem? (i := 224) rfl)) rfl, Nat.le_of_ble_eq_true rfl, Nat.le_of_ble_eq_true rfl⟩
set_option maxRecDepth 20000 in
theorem xfe_0_64 : xFok 0 (64, 9, 5, 192) := ⟨xw (xc1 _ (List.mem_of_getElem? (i := 51) rfl)) rfl, Nat.le_of_ble_eq_true rfl, Nat.le_of_ble_eq_true rfl⟩
theorem xfa_0 : ∀ e ∈ xFl0, xFok 0 e := List.forall_mem_cons.mpr ⟨xfe_0_9, List.forall_mem_cons.mpr ⟨xfe_0_15, List.forall_mem_cons.mpr ⟨xfe_0_18, List.forall_mem_cons.mpr ⟨xfe_0_21, List.forall_mem_cons.mpr ⟨xfe_0_24, List.forall_mem_cons.mpr ⟨xfe_0_27, List.forall_mem_cons.mpr ⟨xfe_0_30, List.forall_mem_cons.mpr ⟨xfe_0_35, List.forall_mem_cons.mpr ⟨xfe_0_38, List.forall_mem_cons.mpr ⟨xfe_0_42, List.forall_mem_cons.mpr ⟨xfe_0_45, List.forall_mem_cons.mpr ⟨xfe_0_48, List.forall_mem_cons.mpr ⟨xfe_0_57, List.forall_mem_cons.mpr ⟨xfe_0_64, fun _ h => absurd h List.not_mem_nil⟩⟩⟩⟩⟩⟩⟩⟩⟩⟩⟩⟩⟩⟩
set_option maxRecDepth 20000 in
theorem xfe_1_9 : xFok 1 (9, 1, 3, 588) := ⟨xw (xc2 _ (List.mem_of_getElem? (i := 207) rfl)) rfl, Nat.le_of_ble_eq_true rfl, Nat.le_of_ble_eq_true rfl⟩
set_option maxRecDepth 20000 in
theorem xfe_1_15 : xFok 1 (15, 1, 4, 589) := ⟨xw (xc2 _ (List.mem_of_getElem? (i := 208) rfl)) rfl, Nat.le_of_ble_eq_true rfl, Nat.le_of_ble_eq_true rfl⟩
set_option maxRecDepth 20000 in
theorem xfe_1_18 : xFok 1 (18, 1, 5, 590) := ⟨xw (xc2 _ (List.mem_of_getElem? (i := 209) rfl)) rfl, Nat.le_of_ble_eq_true rfl, Nat.le_of_ble_eq_true rfl⟩
set_option maxRecDepth 20000 in
theorem xfe_1_21 : xFok 1 (21, 1, 6, 591) := ⟨xw (xc2 _ (List.mem_of_getElem? (i := 210) rfl)) rfl, Nat.le_of_ble_eq_true rfl, Nat.le_of_ble_eq_true rfl⟩
set_option maxRecDepth 20000 in
theorem xfe_1_26 : xFok 1 (26, 1, 7, 592) := ⟨xw (xc2 _ (List.mem_of_getElem? (i := 211) rfl)) rfl, Nat.le_of_ble_eq_true rfl, Nat.le_of_ble_eq_true rfl⟩
set_option maxRecDepth 20000 in
theorem xfe_1_29 : xFok 1 (29, 1, 8, 593) := ⟨xw (xc2 _ (List.mem_of_getElem? (i := 212) rfl)) rfl, Nat.le_of_ble_eq_true rfl, Nat.le_of_ble_eq_true rfl⟩
set_option maxRecDepth 20000 in
theorem xfe_1_32 : xFok 1 (32, 1, 9, 594) := ⟨xw (xc2 _ (List.mem_of_getElem? (i := 213) rfl)) rfl, Nat.le_of_ble_eq_true rfl, Nat.le_of_ble_eq_true rfl⟩
set_option maxRecDepth 20000 in
theorem xfe_1_35 : xFok 1 (35, 1, 10, 595) := ⟨xw (xc2 _ (List.mem_of_getElem? (i := 214) rfl)) rfl, Nat.le_of_ble_eq_true rfl, Nat.le_of_ble_eq_true rfl⟩
set_option maxRecDepth 20000 in
theorem xfe_1_38 : xFok 1 (38, 1, 12, 598) := ⟨xw (xc2 _ (List.mem_of_getElem? (i := 217) rfl)) rfl, Nat.le_of_ble_eq_true rfl, Nat.le_of_ble_eq_true rfl⟩
set_option maxRecDepth 20000 in
theorem xfe_1_42 : xFok 1 (42, 1, 14, 600) := ⟨xw (xc2 _ (List.mem_of_getElem? (i := 219) rfl)) rfl, Nat.le_of_ble_eq_true rfl, Nat.le_of_ble_eq_true rfl⟩
set_option maxRecDepth 20000 in
theorem xfe_1_45 : xFok 1 (45, 1, 15, 601) := ⟨xw (xc2 _ (List.mem_of_getElem? (i := 220) rfl)) rfl, Nat.le_of_ble_eq_true rfl, Nat.le_of_ble_eq_true rfl⟩
set_option maxRecDepth 20000 in
theorem xfe_1_48 : xFok 1 (48, 1, 16, 602) := ⟨xw (xc2 _ (List.mem_of_getElem? (i := 221) rfl)) rfl, Nat.le_of_ble_eq_true rfl, Nat.le_of_ble_eq_true rfl⟩
set_option maxRecDepth 20000 in
theorem xfe_1_51 : xFok 1 (51, 1, 17, 603) := ⟨xw (xc2 _ (List.mem_of_getElem? (i := 222) rfl)) rfl, Nat.le_of_ble_eq_true rfl, Nat.le_of_ble_eq_true rfl⟩
set_option maxRecDepth 20000 in
theorem xfe_1_54 : xFok 1 (54, 1, 0, 585) := ⟨xw (xc2 _ (List.mem_of_getElem? (i := 204) rfl)) rfl, Nat.le_of_ble_eq_true rfl, Nat.le_of_ble_eq_true rfl⟩
set_option maxRecDepth 20000 in
theorem xfe_1_57 : xFok 1 (57, 9, 0, 177) := ⟨xw (xc1 _ (List.mem_of_getElem? (i := 36) rfl)) rfl, Nat.le_of_ble_eq_true rfl, Nat.le_of_ble_eq_true rfl⟩
set_option maxRecDepth 20000 in
theorem xfe_1_58 : xFok 1 (58, 1, 1, 586) := ⟨xw (xc2 _ (List.mem_of_getElem? (i := 205) rfl)) rfl, Nat.le_of_ble_eq_true rfl, Nat.le_of_ble_eq_true rfl⟩
set_option maxRecDepth 20000 in
theorem xfe_1_61 : xFok 1 (61, 9, 5, 191) := ⟨xw (xc1 _ (List.mem_of_getElem? (i := 50) rfl)) rfl, Nat.le_of_ble_eq_true rfl, Nat.le_of_ble_eq_true rfl⟩
set_option maxRecDepth 20000 in
theorem xfe_1_62 : xFok 1 (62, 0, 0, 360) := ⟨xw (xc1 _ (List.mem_of_getElem? (i := 219) rfl)) rfl, Nat.le_of_ble_eq_true rfl, Nat.le_of_ble_eq_true rfl⟩
set_option maxRecDepth 20000 in
theorem xfe_1_67 : xFok 1 (67, 0, 5, 370) := ⟨xw (xc1 _ (List.mem_of_getElem? (i := 229) rfl)) rfl, Nat.le_of_ble_eq_true rfl, Nat.le_of_ble_eq_true rfl⟩
set_option maxRecDepth 20000 in
theorem xfe_1_76 : xFok 1 (76, 0, 6, 373) := ⟨xw (xc1 _ (List.mem_of_getElem? (i := 232) rfl)) rfl, Nat.le_of_ble_eq_true rfl, Nat.le_of_ble_eq_true rfl⟩
set_option maxRecDepth 20000 in
theorem xfe_1_79 : xFok 1 (79, 0, 7, 376) := ⟨xw (xc1 _ (List.mem_of_getElem? (i := 235) rfl)) rfl, Nat.le_of_ble_eq_true rfl, Nat.le_of_ble_eq_true rfl⟩
set_option maxRecDepth 20000 in
theorem xfe_1_97 : xFok 1 (97, 1, 2, 587) := ⟨xw (xc2 _ (List.mem_of_getElem? (i := 206) rfl)) rfl, Nat.le_of_ble_eq_true rfl, Nat.le_of_ble_eq_true rfl⟩
set_option maxRecDepth 20000 in
theorem xfe_1_100 : xFok 1 (100, 1, 13, 599) := ⟨xw (xc2 _ (List.mem_of_getElem? (i := 218) rfl)) rfl, Nat.le_of_ble_eq_true rfl, Nat.le_of_ble_eq_true rfl⟩
set_option maxRecDepth 20000 in
theorem xfe_1_110 : xFok 1 (110, 1, 11, 596) := ⟨xw (xc2 _ (List.mem_of_getElem? (i := 215) rfl)) rfl, Nat.le_of_ble_eq_true rfl, Nat.le_of_ble_eq_true rfl⟩
theorem xfa_1 : ∀ e ∈ xFl1, xFok 1 e := List.forall_mem_cons.mpr ⟨xfe_1_9, List.forall_mem_cons.mpr ⟨xfe_1_15, List.forall_mem_cons.mpr ⟨xfe_1_18, List.forall_mem_cons.mpr ⟨xfe_1_21, List.forall_mem_cons.mpr ⟨xfe_1_26, List.forall_mem_cons.mpr ⟨xfe_1_29, List.forall_mem_cons.mpr ⟨xfe_1_32, List.forall_mem_cons.mpr ⟨xfe_1_35, List.forall_mem_cons.mpr ⟨xfe_1_38, List.forall_mem_cons.mpr ⟨xfe_1_42, List.forall_mem_cons.mpr ⟨xfe_1_45, List.forall_mem_cons.mpr ⟨xfe_1_48, List.forall_mem_cons.mpr ⟨xfe_1_51, List.forall_mem_cons.mpr ⟨xfe_1_54, List.forall_mem_cons.mpr ⟨xfe_1_57, List.forall_mem_cons.mpr ⟨xfe_1_58, List.forall_mem_cons.mpr ⟨xfe_1_61, List.forall_mem_cons.mpr ⟨xfe_1_62, List.forall_mem_cons.mpr ⟨xfe_1_67, List.forall_mem_cons.mpr ⟨xfe_1_76, List.forall_mem_cons.mpr ⟨xfe_1_79, List.forall_mem_cons.mpr ⟨xfe_1_97, List.forall_mem_cons.mpr ⟨xfe_1_100, List.forall_mem_cons.mpr ⟨xfe_1_110, fun _ h => absurd h List.not_mem_nil⟩⟩⟩⟩⟩⟩⟩⟩⟩⟩⟩⟩⟩⟩⟩⟩⟩⟩⟩⟩⟩⟩⟩⟩
set_option maxRecDepth 20000 in
theorem xfe_2_11 : xFok 2 (11, 2, 0, 561) := ⟨xw (xc2 _ (List.mem_of_getElem? (i := 180) rfl)) rfl, Nat.le_of_ble_eq_true rfl, Nat.le_of_ble_eq_true rfl⟩
set_option maxRecDepth 20000 in
theorem xfe_2_15 : xFok 2 (15, 2, 1, 562) := ⟨xw (xc2 _ (List.mem_of_getElem? (i := 181) rfl)) rfl, Nat.le_of_ble_eq_true rfl, Nat.le_of_ble_eq_true rfl⟩
set_option maxRecDepth 20000 in
theorem xfe_2_18 : xFok 2 (18, 2, 2, 563) := ⟨xw (xc2 _ (List.mem_of_getElem? (i := 182) rfl)) rfl, Nat.le_of_ble_eq_true rfl, Nat.le_of_ble_eq_true rfl⟩
set_option maxRecDepth 20000 in
theorem xfe_2_27 : xFok 2 (27, 2, 3, 564) := ⟨xw (xc2 _ (List.mem_of_getElem? (i := 183) rfl)) rfl, Nat.le_of_ble_eq_true rfl, Nat.le_of_ble_eq_true rfl⟩
set_option maxRecDepth 20000 in
theorem xfe_2_31 : xFok 2 (31, 2, 4, 566) := ⟨xw (xc2 _ (List.mem_of_getElem? (i := 185) rfl)) rfl, Nat.le_of_ble_eq_true rfl, Nat.le_of_ble_eq_true rfl⟩
set_option maxRecDepth 20000 in
theorem xfe_2_34 : xFok 2 (34, 9, 10, 204) := ⟨xw (xc1 _ (List.mem_of_getElem? (i := 63) rfl)) rfl, Nat.le_of_ble_eq_true rfl, Nat.le_of_ble_eq_true rfl⟩
set_option maxRecDepth 20000 in
theorem xfe_2_41 : xFok 2 (41, 9, 12, 209) := ⟨xw (xc1 _ (List.mem_of_getElem? (i := 68) rfl)) rfl, Nat.le_of_ble_eq_true rfl, Nat.le_of_ble_eq_true rfl⟩
set_option maxRecDepth 20000 in
theorem xfe_2_44 : xFok 2 (44, 9, 13, 211) := ⟨xw (xc1 _ (List.mem_of_getElem? (i := 70) rfl)) rfl, Nat.le_of_ble_eq_true rfl, Nat.le_of_ble_eq_true rfl⟩
set_option maxRecDepth 20000 in
theorem xfe_2_53 : xFok 2 (53, 9, 14, 213) := ⟨xw (xc1 _ (List.mem_of_getElem? (i := 72) rfl)) rfl, Nat.le_of_ble_eq_true rfl, Nat.le_of_ble_eq_true rfl⟩
theorem xfa_2 : ∀ e ∈ xFl2, xFok 2 e := List.forall_mem_cons.mpr ⟨xfe_2_11, List.forall_mem_cons.mpr ⟨xfe_2_15, List.forall_mem_cons.mpr ⟨xfe_2_18, List.forall_mem_cons.mpr ⟨xfe_2_27, List.forall_mem_cons.mpr ⟨xfe_2_31, List.forall_mem_cons.mpr ⟨xfe_2_34, List.forall_mem_cons.mpr ⟨xfe_2_41, List.forall_mem_cons.mpr ⟨xfe_2_44, List.forall_mem_cons.mpr ⟨xfe_2_53, fun _ h => absurd h List.not_mem_nil⟩⟩⟩⟩⟩⟩⟩⟩⟩
set_option maxRecDepth 20000 in
theorem xfe_3_11 : xFok 3 (11, 3, 0, 545) := ⟨xw (xc2 _ (List.mem_of_getElem? (i := 164) rfl)) rfl, Nat.le_of_ble_eq_true rfl, Nat.le_of_ble_eq_true rfl⟩
set_option maxRecDepth 20000 in
theorem xfe_3_15 : xFok 3 (15, 3, 1, 546) := ⟨xw (xc2 _ (List.mem_of_getElem? (i := 165) rfl)) rfl, Nat.le_of_ble_eq_true rfl, Nat.le_of_ble_eq_true rfl⟩
set_option maxRecDepth 20000 in
theorem xfe_3_20 : xFok 3 (20, 3, 2, 547) := ⟨xw (xc2 _ (List.mem_of_getElem? (i := 166) rfl)) rfl, Nat.le_of_ble_eq_true rfl, Nat.le_of_ble_eq_true rfl⟩
set_option maxRecDepth 20000 in
theorem xfe_3_23 : xFok 3 (23, 7, 2, 467) := ⟨xw (xc2 _ (List.mem_of_getElem? (i := 86) rfl)) rfl, Nat.le_of_ble_eq_true rfl, Nat.le_of_ble_eq_true rfl⟩
set_option maxRecDepth 20000 in
theorem xfe_3_65 : xFok 3 (65, 7, 0, 463) := ⟨xw (xc2 _ (List.mem_of_getElem? (i := 82) rfl)) rfl, Nat.le_of_ble_eq_true rfl, Nat.le_of_ble_eq_true rfl⟩
set_option maxRecDepth 20000 in
theorem xfe_3_76 : xFok 3 (76, 7, 1, 466) := ⟨xw (xc2 _ (List.mem_of_getElem? (i := 85) rfl)) rfl, Nat.le_of_ble_eq_true rfl, Nat.le_of_ble_eq_true rfl⟩
theorem xfa_3 : ∀ e ∈ xFl3, xFok 3 e := List.forall_mem_cons.mpr ⟨xfe_3_11, List.forall_mem_cons.mpr ⟨xfe_3_15, List.forall_mem_cons.mpr ⟨xfe_3_20, List.forall_mem_cons.mpr ⟨xfe_3_23, List.forall_mem_cons.mpr ⟨xfe_3_65, List.forall_mem_cons.mpr ⟨xfe_3_76, fun _ h => absurd h List.not_mem_nil⟩⟩⟩⟩⟩⟩
set_option maxRecDepth 20000 in
theorem xfe_4_11 : xFok 4 (11, 4, 0, 535) := ⟨xw (xc2 _ (List.mem_of_getElem? (i := 154) rfl)) rfl, Nat.le_of_ble_eq_true rfl, Nat.le_of_ble_eq_true rfl⟩
set_option maxRecDepth 20000 in
theorem xfe_4_21 : xFok 4 (21, 7, 2, 468) := ⟨xw (xc2 _ (List.mem_of_getElem? (i := 87) rfl)) rfl, Nat.le_of_ble_eq_true rfl, Nat.le_of_ble_eq_true rfl⟩
set_option maxRecDepth 20000 in
theorem xfe_4_27 : xFok 4 (27, 7, 1, 465) := ⟨xw (xc2 _ (List.mem_of_getElem? (i := 84) rfl)) rfl, Nat.le_of_ble_eq_true rfl, Nat.le_of_ble_eq_true rfl⟩
set_option maxRecDepth 20000 in
theorem xfe_4_34 : xFok 4 (34, 7, 0, 462) := ⟨xw (xc2 _ (List.mem_of_getElem? (i := 81) rfl)) rfl, Nat.le_of_ble_eq_true rfl, Nat.le_of_ble_eq_true rfl⟩
theorem xfa_4 : ∀ e ∈ xFl4, xFok 4 e := List.forall_mem_cons.mpr ⟨xfe_4_11, List.forall_mem_cons.mpr ⟨xfe_4_21, List.forall_mem_cons.mpr ⟨xfe_4_27, List.forall_mem_cons.mpr ⟨xfe_4_34, fun _ h => absurd h List.not_mem_nil⟩⟩⟩⟩
set_option maxRecDepth 20000 in
theorem xfe_5_11 : xFok 5 (11, 5, 2, 419) := ⟨xw (xc2 _ (List.mem_of_getElem? (i := 38) rfl)) rfl, Nat.le_of_ble_eq_true rfl, Nat.le_of_ble_eq_true rfl⟩
set_option maxRecDepth 20000 in
theorem xfe_5_15 : xFok 5 (15, 5, 3, 420) := ⟨xw (xc2 _ (List.mem_of_getElem? (i := 39) rfl)) rfl, Nat.le_of_ble_eq_true rfl, Nat.le_of_ble_eq_true rfl⟩
set_option maxRecDepth 20000 in
theorem xfe_5_18 : xFok 5 (18, 5, 4, 421) := ⟨xw (xc2 _ (List.mem_of_getElem? (i := 40) rfl)) rfl, Nat.le_of_ble_eq_true rfl, Nat.le_of_ble_eq_true rfl⟩
set_option maxRecDepth 20000 in
theorem xfe_5_21 : xFok 5 (21, 5, 9, 427) := ⟨xw (xc2 _ (List.mem_of_getElem? (i := 46) rfl)) rfl, Nat.le_of_ble_eq_true rfl, Nat.le_of_ble_eq_true rfl⟩
set_option maxRecDepth 20000 in
theorem xfe_5_24 : xFok 5 (24, 5, 10, 428) := ⟨xw (xc2 _ (List.mem_of_getElem? (i := 47) rfl)) rfl, Nat.le_of_ble_eq_true rfl, Nat.le_of_ble_eq_true rfl⟩
set_option maxRecDepth 20000 in
theorem xfe_5_29 : xFok 5 (29, 5, 11, 429) := ⟨xw (xc2 _ (List.mem_of_getElem? (i := 48) rfl)) rfl, Nat.le_of_ble_eq_true rfl, Nat.le_of_ble_eq_true rfl⟩
set_option maxRecDepth 20000 in
theorem xfe_5_45 : xFok 5 (45, 9, 0, 178) := ⟨xw (xc1 _ (List.mem_of_getElem? (i := 37) rfl)) rfl, Nat.le_of_ble_eq_true rfl, Nat.le_of_ble_eq_true rfl⟩
set_option maxRecDepth 20000 in
theorem xfe_5_49 : xFok 5 (49, 5, 0, 417) := ⟨xw (xc2 _ (List.mem_of_getElem? (i := 36) rfl)) rfl, Nat.le_of_ble_eq_true rfl, Nat.le_of_ble_eq_true rfl⟩
set_option maxRecDepth 20000 in
theorem xfe_5_50 : xFok 5 (50, 5, 1, 418) := ⟨xw (xc2 _ (List.mem_of_getElem? (i := 37) rfl)) rfl, Nat.le_of_ble_eq_true rfl, Nat.le_of_ble_eq_true rfl⟩
set_option maxRecDepth 20000 in
theorem xfe_5_59 : xFok 5 (59, 9, 3, 185) := ⟨xw (xc1 _ (List.mem_of_getElem? (i := 44) rfl)) rfl, Nat.le_of_ble_eq_true rfl, Nat.le_of_ble_eq_true rfl⟩
set_option maxRecDepth 20000 in
theorem xfe_5_89 : xFok 5 (89, 5, 7, 425) := ⟨xw (xc2 _ (List.mem_of_getElem? (i := 44) rfl)) rfl, Nat.le_of_ble_eq_true rfl, Nat.le_of_ble_eq_true rfl⟩
set_option maxRecDepth 20000 in
theorem xfe_5_92 : xFok 5 (92, 5, 8, 426) := ⟨xw (xc2 _ (List.mem_of_getElem? (i := 45) rfl)) rfl, Nat.le_of_ble_eq_true rfl, Nat.le_of_ble_eq_true rfl⟩
set_option maxRecDepth 20000 in
theorem xfe_5_95 : xFok 5 (95, 0, 0, 361) := ⟨xw (xc1 _ (List.mem_of_getElem? (i := 220) rfl)) rfl, Nat.le_of_ble_eq_true rfl, Nat.le_of_ble_eq_true rfl⟩
set_option maxRecDepth 20000 in
theorem xfe_5_108 : xFok 5 (108, 0, 5, 371) := ⟨xw (xc1 _ (List.mem_of_getElem? (i := 230) rfl)) rfl, Nat.le_of_ble_eq_true rfl, Nat.le_of_ble_eq_true rfl⟩
set_option maxRecDepth 20000 in
theorem xfe_5_115 : xFok 5 (115, 0, 6, 374) := ⟨xw (xc1 _ (List.mem_of_getElem? (i := 233) rfl)) rfl, Nat.le_of_ble_eq_true rfl, Nat.le_of_ble_eq_true rfl⟩
set_option maxRecDepth 20000 in
theorem xfe_5_118 : xFok 5 (118, 0, 7, 377) := ⟨xw (xc1 _ (List.mem_of_getElem? (i := 236) rfl)) rfl, Nat.le_of_ble_eq_true rfl, Nat.le_of_ble_eq_true rfl⟩
set_option maxRecDepth 20000 in
theorem xfe_5_124 : xFok 5 (124, 5, 5, 422) := ⟨xw (xc2 _ (List.mem_of_getElem? (i := 41) rfl)) rfl, Nat.le_of_ble_eq_true rfl, Nat.le_of_ble_eq_true rfl⟩
set_option maxRecDepth 20000 in
theorem xfe_5_127 : xFok 5 (127, 5, 6, 424) := ⟨xw (xc2 _ (List.mem_of_getElem? (i := 43) rfl)) rfl, Nat.le_of_ble_eq_true rfl, Nat.le_of_ble_eq_true rfl⟩
theorem xfa_5 : ∀ e ∈ xFl5, xFok 5 e := List.forall_mem_cons.mpr ⟨xfe_5_11, List.forall_mem_cons.mpr ⟨xfe_5_15, List.forall_mem_cons.mpr ⟨xfe_5_18, List.forall_mem_cons.mpr ⟨xfe_5_21, List.forall_mem_cons.mpr ⟨xfe_5_24, List.forall_mem_cons.mpr ⟨xfe_5_29, List.forall_mem_cons.mpr ⟨xfe_5_45, List.forall_mem_cons.mpr ⟨xfe_5_49, List.forall_mem_cons.mpr ⟨xfe_5_50, List.forall_mem_cons.mpr ⟨xfe_5_59, List.forall_mem_cons.mpr ⟨xfe_5_89, List.forall_mem_cons.mpr ⟨xfe_5_92, List.forall_mem_cons.mpr ⟨xfe_5_95, List.forall_mem_cons.mpr ⟨xfe_5_108, List.forall_mem_cons.mpr ⟨xfe_5_115, List.forall_mem_cons.mpr ⟨xfe_5_118, List.forall_mem_cons.mpr ⟨xfe_5_124, List.forall_mem_cons.mpr ⟨xfe_5_127, fun _ h => absurd h List.not_mem_nil⟩⟩⟩⟩⟩⟩⟩⟩⟩⟩⟩⟩⟩⟩⟩⟩⟩⟩
set_option maxRecDepth 20000 in
theorem xfe_6_29 : xFok 6 (29, 6, 0, 314) := ⟨xw (xc1 _ (List.mem_of_getElem? (i := 173) rfl)) rfl, Nat.le_of_ble_eq_true rfl, Nat.le_of_ble_eq_true rfl⟩
set_option maxRecDepth 20000 in
theorem xfe_6_33 : xFok 6 (33, 6, 1, 315) := ⟨xw (xc1 _ (List.mem_of_getElem? (i := 174) rfl)) rfl, Nat.le_of_ble_eq_true rfl, Nat.le_of_ble_eq_true rfl⟩
set_option maxRecDepth 20000 in
theorem xfe_6_40 : xFok 6 (40, 6, 3, 317) := ⟨xw (xc1 _ (List.mem_of_getElem? (i := 176) rfl)) rfl, Nat.le_of_ble_eq_true rfl, Nat.le_of_ble_eq_true rfl⟩
set_option maxRecDepth 20000 in
theorem xfe_6_44 : xFok 6 (44, 6, 11, 326) := ⟨xw (xc1 _ (List.mem_of_getElem? (i := 185) rfl)) rfl, Nat.le_of_ble_eq_true rfl, Nat.le_of_ble_eq_true rfl⟩
set_option maxRecDepth 20000 in
theorem xfe_6_58 : xFok 6 (58, 6, 2, 316) := ⟨xw (xc1 _ (List.mem_of_getElem? (i := 175) rfl)) rfl, Nat.le_of_ble_eq_true rfl, Nat.le_of_ble_eq_true rfl⟩
set_option maxRecDepth 20000 in
theorem xfe_6_63 : xFok 6 (63, 6, 10, 324) := ⟨xw (xc1 _ (List.mem_of_getElem? (i := 183) rfl)) rfl, Nat.le_of_ble_eq_true rfl, Nat.le_of_ble_eq_true rfl⟩
set_option maxRecDepth 20000 in
theorem xfe_6_66 : xFok 6 (66, 6, 5, 319) := ⟨xw (xc1 _ (List.mem_of_getElem? (i := 178) rfl)) rfl, Nat.le_of_ble_eq_true rfl, Nat.le_of_ble_eq_true rfl⟩
set_option maxRecDepth 20000 in
theorem xfe_6_72 : xFok 6 (72, 6, 6, 320) := ⟨xw (xc1 _ (List.mem_of_getElem? (i := 179) rfl)) rfl, Nat.le_of_ble_eq_true rfl, Nat.le_of_ble_eq_true rfl⟩
set_option maxRecDepth 20000 in
theorem xfe_6_81 : xFok 6 (81, 6, 4, 318) := ⟨xw (xc1 _ (List.mem_of_getElem? (i := 177) rfl)) rfl, Nat.le_of_ble_eq_true rfl, Nat.le_of_ble_eq_true rfl⟩
set_option maxRecDepth 20000 in
theorem xfe_6_107 : xFok 6 (107, 9, 0, 180) := ⟨xw (xc1 _ (List.mem_of_getElem? (i := 39) rfl)) rfl, Nat.le_of_ble_eq_true rfl, Nat.le_of_ble_eq_true rfl⟩
set_option maxRecDepth 20000 in
theorem xfe_6_110 : xFok 6 (110, 6, 8, 322) := ⟨xw (xc1 _ (List.mem_of_getElem? (i := 181) rfl)) rfl, Nat.le_of_ble_eq_true rfl, Nat.le_of_ble_eq_true rfl⟩
set_option maxRecDepth 20000 in
theorem xfe_6_136 : xFok 6 (136, 9, 3, 186) := ⟨xw (xc1 _ (List.mem_of_getElem? (i := 45) rfl)) rfl, Nat.le_of_ble_eq_true rfl, Nat.le_of_ble_eq_true rfl⟩
set_option maxRecDepth 20000 in
theorem xfe_6_140 : xFok 6 (140, 9, 4, 189) := ⟨xw (xc1 _ (List.mem_of_getElem? (i := 48) rfl)) rfl, Nat.le_of_ble_eq_true rfl, Nat.le_of_ble_eq_true rfl⟩
set_option maxRecDepth 20000 in
theorem xfe_6_143 : xFok 6 (143, 9, 5, 193) := ⟨xw (xc1 _ (List.mem_of_getElem? (i := 52) rfl)) rfl, Nat.le_of_ble_eq_true rfl, Nat.le_of_ble_eq_true rfl⟩
set_option maxRecDepth 20000 in
theorem xfe_6_145 : xFok 6 (145, 9, 6, 196) := ⟨xw (xc1 _ (List.mem_of_getElem? (i := 55) rfl)) rfl, Nat.le_of_ble_eq_true rfl, Nat.le_of_ble_eq_true rfl⟩
set_option maxRecDepth 20000 in
theorem xfe_6_165 : xFok 6 (165, 9, 8, 200) := ⟨xw (xc1 _ (List.mem_of_getElem? (i := 59) rfl)) rfl, Nat.le_of_ble_eq_true rfl, Nat.le_of_ble_eq_true rfl⟩
set_option maxRecDepth 20000 in
theorem xfe_6_178 : xFok 6 (178, 9, 11, 206) := ⟨xw (xc1 _ (List.mem_of_getElem? (i := 65) rfl)) rfl, Nat.le_of_ble_eq_true rfl, Nat.le_of_ble_eq_true rfl⟩
set_option maxRecDepth 20000 in
theorem xfe_6_199 : xFok 6 (199, 6, 7, 321) := ⟨xw (xc1 _ (List.mem_of_getElem? (i := 180) rfl)) rfl, Nat.le_of_ble_eq_true rfl, Nat.le_of_ble_eq_true rfl⟩
set_option maxRecDepth 20000 in
theorem xfe_6_202 : xFok 6 (202, 6, 9, 323) := ⟨xw (xc1 _ (List.mem_of_getElem? (i := 182) rfl)) rfl, Nat.le_of_ble_eq_true rfl, Nat.le_of_ble_eq_true rfl⟩
theorem xfa_6 : ∀ e ∈ xFl6, xFok 6 e := List.forall_mem_cons.mpr ⟨xfe_6_29, List.forall_mem_cons.mpr ⟨xfe_6_33, List.forall_mem_cons.mpr ⟨xfe_6_40, List.forall_mem_cons.mpr ⟨xfe_6_44, List.forall_mem_cons.mpr ⟨xfe_6_58, List.forall_mem_cons.mpr ⟨xfe_6_63, List.forall_mem_cons.mpr ⟨xfe_6_66, List.forall_mem_cons.mpr ⟨xfe_6_72, List.forall_mem_cons.mpr ⟨xfe_6_81, List.forall_mem_cons.mpr ⟨xfe_6_107, List.forall_mem_cons.mpr ⟨xfe_6_110, List.forall_mem_cons.mpr ⟨xfe_6_136, List.forall_mem_cons.mpr ⟨xfe_6_140, List.forall_mem_cons.mpr ⟨xfe_6_143, List.forall_mem_cons.mpr ⟨xfe_6_145, List.forall_mem_cons.mpr ⟨xfe_6_165, List.forall_mem_cons.mpr ⟨xfe_6_178, List.forall_mem_cons.mpr ⟨xfe_6_199, List.forall_mem_cons.mpr ⟨xfe_6_202, fun _ h => absurd h List.not_mem_nil⟩⟩⟩⟩⟩⟩⟩⟩⟩⟩⟩⟩⟩⟩⟩⟩⟩⟩⟩
set_option maxRecDepth 20000 in
theorem xfe_7_11 : xFok 7 (11, 7, 0, 461) := ⟨xw (xc2 _ (List.mem_of_getElem? (i := 80) rfl)) rfl, Nat.le_of_ble_eq_true rfl, Nat.le_of_ble_eq_true rfl⟩
set_option maxRecDepth 20000 in
theorem xfe_7_15 : xFok 7 (15, 7, 1, 464) := ⟨xw (xc2 _ (List.mem_of_getElem? (i := 83) rfl)) rfl, Nat.le_of_ble_eq_true rfl, Nat.le_of_ble_eq_true rfl⟩
set_option maxRecDepth 20000 in
theorem xfe_7_18 : xFok 7 (18, 7, 10, 478) := ⟨xw (xc2 _ (List.mem_of_getElem? (i := 97) rfl)) rfl, Nat.le_of_ble_eq_true rfl, Nat.le_of_ble_eq_true rfl⟩
set_option maxRecDepth 20000 in
theorem xfe_7_21 : xFok 7 (21, 7, 11, 479) := ⟨xw (xc2 _ (List.mem_of_getElem? (i := 98) rfl)) rfl, Nat.le_of_ble_eq_true rfl, Nat.le_of_ble_eq_true rfl⟩
set_option maxRecDepth 20000 in
theorem xfe_7_27 : xFok 7 (27, 7, 12, 480) := ⟨xw (xc2 _ (List.mem_of_getElem? (i := 99) rfl)) rfl, Nat.le_of_ble_eq_true rfl, Nat.le_of_ble_eq_true rfl⟩
set_option maxRecDepth 20000 in
theorem xfe_7_30 : xFok 7 (30, 7, 13, 481) := ⟨xw (xc2 _ (List.mem_of_getElem? (i := 100) rfl)) rfl, Nat.le_of_ble_eq_true rfl, Nat.le_of_ble_eq_true rfl⟩
set_option maxRecDepth 20000 in
theorem xfe_7_33 : xFok 7 (33, 7, 14, 482) := ⟨xw (xc2 _ (List.mem_of_getElem? (i := 101) rfl)) rfl, Nat.le_of_ble_eq_true rfl, Nat.le_of_ble_eq_true rfl⟩
set_option maxRecDepth 20000 in
theorem xfe_7_36 : xFok 7 (36, 7, 16, 484) := ⟨xw (xc2 _ (List.mem_of_getElem? (i := 103) rfl)) rfl, Nat.le_of_ble_eq_true rfl, Nat.le_of_ble_eq_true rfl⟩
set_option maxRecDepth 20000 in
theorem xfe_7_39 : xFok 7 (39, 7, 17, 485) := ⟨xw (xc2 _ (List.mem_of_getElem? (i := 104) rfl)) rfl, Nat.le_of_ble_eq_true rfl, Nat.le_of_ble_eq_true rfl⟩
set_option maxRecDepth 20000 in
theorem xfe_7_42 : xFok 7 (42, 7, 18, 486) := ⟨xw (xc2 _ (List.mem_of_getElem? (i := 105) rfl)) rfl, Nat.le_of_ble_eq_true rfl, Nat.le_of_ble_eq_true rfl⟩
set_option maxRecDepth 20000 in
theorem xfe_7_45 : xFok 7 (45, 7, 19, 487) := ⟨xw (xc2 _ (List.mem_of_getElem? (i := 106) rfl)) rfl, Nat.le_of_ble_eq_true rfl, Nat.le_of_ble_eq_true rfl⟩
set_option maxRecDepth 20000 in
theorem xfe_7_48 : xFok 7 (48, 7, 6, 474) := ⟨xw (xc2 _ (List.mem_of_getElem? (i := 93) rfl)) rfl, Nat.le_of_ble_eq_true rfl, Nat.le_of_ble_eq_true rfl⟩
set_option maxRecDepth 20000 in
theorem xfe_7_52 : xFok 7 (52, 7, 3, 471) := ⟨xw (xc2 _ (List.mem_of_getElem? (i := 90) rfl)) rfl, Nat.le_of_ble_eq_true rfl, Nat.le_of_ble_eq_true rfl⟩
set_option maxRecDepth 20000 in
theorem xfe_7_55 : xFok 7 (55, 7, 4, 472) := ⟨xw (xc2 _ (List.mem_of_getElem? (i := 91) rfl)) rfl, Nat.le_of_ble_eq_true rfl, Nat.le_of_ble_eq_true rfl⟩
set_option maxRecDepth 20000 in
theorem xfe_7_59 : xFok 7 (59, 7, 5, 473) := ⟨xw (xc2 _ (List.mem_of_getElem? (i := 92) rfl)) rfl, Nat.le_of_ble_eq_true rfl, Nat.le_of_ble_eq_true rfl⟩
set_option maxRecDepth 20000 in
theorem xfe_7_62 : xFok 7 (62, 7, 15, 483) := ⟨xw (xc2 _ (List.mem_of_getElem? (i := 102) rfl)) rfl, Nat.le_of_ble_eq_true rfl, Nat.le_of_ble_eq_true rfl⟩
set_option maxRecDepth 20000 in
theorem xfe_7_65 : xFok 7 (65, 7, 7, 475) := ⟨xw (xc2 _ (List.mem_of_getElem? (i := 94) rfl)) rfl, Nat.le_of_ble_eq_true rfl, Nat.le_of_ble_eq_true rfl⟩
set_option maxRecDepth 20000 in
theorem xfe_7_86 : xFok 7 (86, 7, 2, 469) := ⟨xw (xc2 _ (List.mem_of_getElem? (i := 88) rfl)) rfl, Nat.le_of_ble_eq_true rfl, Nat.le_of_ble_eq_true rfl⟩
set_option maxRecDepth 20000 in
theorem xfe_7_89 : xFok 7 (89, 7, 9, 477) := ⟨xw (xc2 _ (List.mem_of_getElem? (i := 96) rfl)) rfl, Nat.le_of_ble_eq_true rfl, Nat.le_of_ble_eq_true rfl⟩
set_option maxRecDepth 20000 in
theorem xfe_7_92 : xFok 7 (92, 7, 8, 476) := ⟨xw (xc2 _ (List.mem_of_getElem? (i := 95) rfl)) rfl, Nat.le_of_ble_eq_true rfl, Nat.le_of_ble_eq_true rfl⟩
theorem xfa_7 : ∀ e ∈ xFl7, xFok 7 e := List.forall_mem_cons.mpr ⟨xfe_7_11, List.forall_mem_cons.mpr ⟨xfe_7_15, List.forall_mem_cons.mpr ⟨xfe_7_18, List.forall_mem_cons.mpr ⟨xfe_7_21, List.forall_mem_cons.mpr ⟨xfe_7_27, List.forall_mem_cons.mpr ⟨xfe_7_30, List.forall_mem_cons.mpr ⟨xfe_7_33, List.forall_mem_cons.mpr ⟨xfe_7_36, List.forall_mem_cons.mpr ⟨xfe_7_39, List.forall_mem_cons.mpr ⟨xfe_7_42, List.forall_mem_cons.mpr ⟨xfe_7_45, List.forall_mem_cons.mpr ⟨xfe_7_48, List.forall_mem_cons.mpr ⟨xfe_7_52, List.forall_mem_cons.mpr ⟨xfe_7_55, List.forall_mem_cons.mpr ⟨xfe_7_59, List.forall_mem_cons.mpr ⟨xfe_7_62, List.forall_mem_cons.mpr ⟨xfe_7_65, List.forall_mem_cons.mpr ⟨xfe_7_86, List.forall_mem_cons.mpr ⟨xfe_7_89, List.forall_mem_cons.mpr ⟨xfe_7_92, fun _ h => absurd h List.not_mem_nil⟩⟩⟩⟩⟩⟩⟩⟩⟩⟩⟩⟩⟩⟩⟩⟩⟩⟩⟩⟩
set_option maxRecDepth 20000 in
theorem xfe_8_7 : xFok 8 (7, 8, 0, 647) := ⟨xw (xc3 _ (List.mem_of_getElem? (i := 26) rfl)) rfl, Nat.le_of_ble_eq_true rfl, Nat.le_of_ble_eq_true rfl⟩
set_option maxRecDepth 20000 in
theorem xfe_8_13 : xFok 8 (13, 8, 1, 649) := ⟨xw (xc3 _ (List.mem_of_getElem? (i := 28) rfl)) rfl, Nat.le_of_ble_eq_true rfl, Nat.le_of_ble_eq_true rfl⟩
theorem xfa_8 : ∀ e ∈ xFl8, xFok 8 e := List.forall_mem_cons.mpr ⟨xfe_8_7, List.forall_mem_cons.mpr ⟨xfe_8_13, fun _ h => absurd h List.not_mem_nil⟩⟩
set_option maxRecDepth 20000 in
theorem xfe_9_9 : xFok 9 (9, 9, 1, 181) := ⟨xw (xc1 _ (List.mem_of_getElem? (i := 40) rfl)) rfl, Nat.le_of_ble_eq_true rfl, Nat.le_of_ble_eq_true rfl⟩
set_option maxRecDepth 20000 in
theorem xfe_9_13 : xFok 9 (13, 9, 2, 182) := ⟨xw (xc1 _ (List.mem_of_getElem? (i := 41) rfl)) rfl, Nat.le_of_ble_eq_true rfl, Nat.le_of_ble_eq_true rfl⟩
set_option maxRecDepth 20000 in
theorem xfe_9_17 : xFok 9 (17, 9, 7, 197) := ⟨xw (xc1 _ (List.mem_of_getElem? (i := 56) rfl)) rfl, Nat.le_of_ble_eq_true rfl, Nat.le_of_ble_eq_true rfl⟩
set_option maxRecDepth 20000 in
theorem xfe_9_20 : xFok 9 (20, 9, 9, 202) := ⟨xw (xc1 _ (List.mem_of_getElem? (i := 61) rfl)) rfl, Nat.le_of_ble_eq_true rfl, Nat.le_of_ble_eq_true rfl⟩
set_option maxRecDepth 20000 in
theorem xfe_9_23 : xFok 9 (23, 9, 10, 203) := ⟨xw (xc1 _ (List.mem_of_getElem? (i := 62) rfl)) rfl, Nat.le_of_ble_eq_true rfl, Nat.le_of_ble_eq_true rfl⟩
set_option maxRecDepth 20000 in
theorem xfe_9_26 : xFok 9 (26, 9, 12, 208) := ⟨xw (xc1 _ (List.mem_of_getElem? (i := 67) rfl)) rfl, Nat.le_of_ble_eq_true rfl, Nat.le_of_ble_eq_true rfl⟩
set_option maxRecDepth 20000 in
theorem xfe_9_29 : xFok 9 (29, 9, 13, 210) := ⟨xw (xc1 _ (List.mem_of_getElem? (i := 69) rfl)) rfl, Nat.le_of_ble_eq_true rfl, Nat.le_of_ble_eq_true rfl⟩
set_option maxRecDepth 20000 in
theorem xfe_9_32 : xFok 9 (32, 9, 14, 212) := ⟨xw (xc1 _ (List.mem_of_getElem? (i := 71) rfl)) rfl, Nat.le_of_ble_eq_true rfl, Nat.le_of_ble_eq_true rfl⟩
set_option maxRecDepth 20000 in
theorem xfe_9_35 : xFok 9 (35, 9, 0, 176) := ⟨xw (xc1 _ (List.mem_of_getElem? (i := 35) rfl)) rfl, Nat.le_of_ble_eq_true rfl, Nat.le_of_ble_eq_true rfl⟩
set_option maxRecDepth 20000 in
theorem xfe_9_39 : xFok 9 (39, 9, 3, 184) := ⟨xw (xc1 _ (List.mem_of_getElem? (i := 43) rfl)) rfl, Nat.le_of_ble_eq_true rfl, Nat.le_of_ble_eq_true rfl⟩
set_option maxRecDepth 20000 in
theorem xfe_9_43 : xFok 9 (43, 9, 4, 188) := ⟨xw (xc1 _ (List.mem_of_getElem? (i := 47) rfl)) rfl, Nat.le_of_ble_eq_true rfl, Nat.le_of_ble_eq_true rfl⟩
set_option maxRecDepth 20000 in
theorem xfe_9_46 : xFok 9 (46, 9, 5, 190) := ⟨xw (xc1 _ (List.mem_of_getElem? (i := 49) rfl)) rfl, Nat.le_of_ble_eq_true rfl, Nat.le_of_ble_eq_true rfl⟩
set_option maxRecDepth 20000 in
theorem xfe_9_49 : xFok 9 (49, 9, 6, 195) := ⟨xw (xc1 _ (List.mem_of_getElem? (i := 54) rfl)) rfl, Nat.le_of_ble_eq_true rfl, Nat.le_of_ble_eq_true rfl⟩
set_option maxRecDepth 20000 in
theorem xfe_9_52 : xFok 9 (52, 9, 8, 199) := ⟨xw (xc1 _ (List.mem_of_getElem? (i := 58) rfl)) rfl, Nat.le_of_ble_eq_true rfl, Nat.le_of_ble_eq_true rfl⟩
set_option maxRecDepth 20000 in
theorem xfe_9_55 : xFok 9 (55, 9, 11, 205) := ⟨xw (xc1 _ (List.mem_of_getElem? (i := 64) rfl)) rfl, Nat.le_of_ble_eq_true rfl, Nat.le_of_ble_eq_true rfl⟩
theorem xfa_9 : ∀ e ∈ xFl9, xFok 9 e := List.forall_mem_cons.mpr ⟨xfe_9_9, List.forall_mem_cons.mpr ⟨xfe_9_13, List.forall_mem_cons.mpr ⟨xfe_9_17, List.forall_mem_cons.mpr ⟨xfe_9_20, List.forall_mem_cons.mpr ⟨xfe_9_23, List.forall_mem_cons.mpr ⟨xfe_9_26, List.forall_mem_cons.mpr ⟨xfe_9_29, List.forall_mem_cons.mpr ⟨xfe_9_32, List.forall_mem_cons.mpr ⟨xfe_9_35, List.forall_mem_cons.mpr ⟨xfe_9_39, List.forall_mem_cons.mpr ⟨xfe_9_43, List.forall_mem_cons.mpr ⟨xfe_9_46, List.forall_mem_cons.mpr ⟨xfe_9_49, List.forall_mem_cons.mpr ⟨xfe_9_52, List.forall_mem_cons.mpr ⟨xfe_9_55, fun _ h => absurd h List.not_mem_nil⟩⟩⟩⟩⟩⟩⟩⟩⟩⟩⟩⟩⟩⟩⟩
set_option maxRecDepth 20000 in
theorem xfe_10_9 : xFok 10 (9, 10, 0, 694) := ⟨xw (xc3 _ (List.mem_of_getElem? (i := 73) rfl)) rfl, Nat.le_of_ble_eq_true rfl, Nat.le_of_ble_eq_true rfl⟩
set_option maxRecDepth 20000 in
theorem xfe_10_13 : xFok 10 (13, 10, 3, 697) := ⟨xw (xc3 _ (List.mem_of_getElem? (i := 76) rfl)) rfl, Nat.le_of_ble_eq_true rfl, Nat.le_of_ble_eq_true rfl⟩
set_option maxRecDepth 20000 in
theorem xfe_10_20 : xFok 10 (20, 10, 4, 698) := ⟨xw (xc3 _ (List.mem_of_getElem? (i := 77) rfl)) rfl, Nat.le_of_ble_eq_true rfl, Nat.le_of_ble_eq_true rfl⟩
set_option maxRecDepth 20000 in
theorem xfe_10_24 : xFok 10 (24, 10, 5, 699) := ⟨xw (xc3 _ (List.mem_of_getElem? (i := 78) rfl)) rfl, Nat.le_of_ble_eq_true rfl, Nat.le_of_ble_eq_true rfl⟩
set_option maxRecDepth 20000 in
theorem xfe_10_30 : xFok 10 (30, 10, 6, 700) := ⟨xw (xc3 _ (List.mem_of_getElem? (i := 79) rfl)) rfl, Nat.le_of_ble_eq_true rfl, Nat.le_of_ble_eq_true rfl⟩
set_option maxRecDepth 20000 in
theorem xfe_10_37 : xFok 10 (37, 10, 7, 701) := ⟨xw (xc3 _ (List.mem_of_getElem? (i := 80) rfl)) rfl, Nat.le_of_ble_eq_true rfl, Nat.le_of_ble_eq_true rfl⟩
set_option maxRecDepth 20000 in
theorem xfe_10_41 : xFok 10 (41, 10, 8, 702) := ⟨xw (xc3 _ (List.mem_of_getElem? (i := 81) rfl)) rfl, Nat.le_of_ble_eq_true rfl, Nat.le_of_ble_eq_true rfl⟩
set_option maxRecDepth 20000 in
theorem xfe_10_48 : xFok 10 (48, 10, 9, 703) := ⟨xw (xc3 _ (List.mem_of_getElem? (i := 82) rfl)) rfl, Nat.le_of_ble_eq_true rfl, Nat.le_of_ble_eq_true rfl⟩
set_option maxRecDepth 20000 in
theorem xfe_10_55 : xFok 10 (55, 10, 10, 704) := ⟨xw (xc3 _ (List.mem_of_getElem? (i := 83) rfl)) rfl, Nat.le_of_ble_eq_true rfl, Nat.le_of_ble_eq_true rfl⟩
set_option maxRecDepth 20000 in
theorem xfe_10_62 : xFok 10 (62, 10, 11, 705) := ⟨xw (xc3 _ (List.mem_of_getElem? (i := 84) rfl)) rfl, Nat.le_of_ble_eq_true rfl, Nat.le_of_ble_eq_true rfl⟩
set_option maxRecDepth 20000 in
theorem xfe_10_69 : xFok 10 (69, 10, 12, 706) := ⟨xw (xc3 _ (List.mem_of_getElem? (i := 85) rfl)) rfl, Nat.le_of_ble_eq_true rfl, Nat.le_of_ble_eq_true rfl⟩
set_option maxRecDepth 20000 in
theorem xfe_10_76 : xFok 10 (76, 10, 13, 707) := ⟨xw (xc3 _ (List.mem_of_getElem? (i := 86) rfl)) rfl, Nat.le_of_ble_eq_true rfl, Nat.le_of_ble_eq_true rfl⟩
set_option maxRecDepth 20000 in
theorem xfe_10_83 : xFok 10 (83, 10, 14, 708) := ⟨xw (xc3 _ (List.mem_of_getElem? (i := 87) rfl)) rfl, Nat.le_of_ble_eq_true rfl, Nat.le_of_ble_eq_true rfl⟩
set_option maxRecDepth 20000 in
theorem xfe_10_90 : xFok 10 (90, 10, 15, 709) := ⟨xw (xc3 _ (List.mem_of_getElem? (i := 88) rfl)) rfl, Nat.le_of_ble_eq_true rfl, Nat.le_of_ble_eq_true rfl⟩
set_option maxRecDepth 20000 in
theorem xfe_10_98 : xFok 10 (98, 10, 1, 695) := ⟨xw (xc3 _ (List.mem_of_getElem? (i := 74) rfl)) rfl, Nat.le_of_ble_eq_true rfl, Nat.le_of_ble_eq_true rfl⟩
set_option maxRecDepth 20000 in
theorem xfe_10_109 : xFok 10 (109, 6, 10, 325) := ⟨xw (xc1 _ (List.mem_of_getElem? (i := 184) rfl)) rfl, Nat.le_of_ble_eq_true rfl, Nat.le_of_ble_eq_true rfl⟩
set_option maxRecDepth 20000 in
theorem xfe_10_112 : xFok 10 (112, 10, 2, 696) := ⟨xw (xc3 _ (List.mem_of_getElem? (i := 75) rfl)) rfl, Nat.le_of_ble_eq_true rfl, Nat.le_of_ble_eq_true rfl⟩
set_option maxRecDepth 20000 in
theorem xfe_10_115 : xFok 10 (115, 6, 11, 327) := ⟨xw (xc1 _ (List.mem_of_getElem? (i := 186) rfl)) rfl, Nat.le_of_ble_eq_true rfl, Nat.le_of_ble_eq_true rfl⟩
set_option maxRecDepth 20000 in
theorem xfe_10_122 : xFok 10 (122, 0, 4, 368) := ⟨xw (xc1 _ (List.mem_of_getElem? (i := 227) rfl)) rfl, Nat.le_of_ble_eq_true rfl, Nat.le_of_ble_eq_true rfl⟩
set_option maxRecDepth 20000 in
theorem xfe_10_126 : xFok 10 (126, 9, 0, 179) := ⟨xw (xc1 _ (List.mem_of_getElem? (i := 38) rfl)) rfl, Nat.le_of_ble_eq_true rfl, Nat.le_of_ble_eq_true rfl⟩
set_option maxRecDepth 20000 in
theorem xfe_10_167 : xFok 10 (167, 5, 5, 423) := ⟨xw (xc2 _ (List.mem_of_getElem? (i := 42) rfl)) rfl, Nat.le_of_ble_eq_true rfl, Nat.le_of_ble_eq_true rfl⟩
set_option maxRecDepth 20000 in
theorem xfe_10_213 : xFok 10 (213, 9, 3, 187) := ⟨xw (xc1 _ (List.mem_of_getElem? (i := 46) rfl)) rfl, Nat.le_of_ble_eq_true rfl, Nat.le_of_ble_eq_true rfl⟩
set_option maxRecDepth 20000 in
theorem xfe_10_254 : xFok 10 (254, 9, 8, 201) := ⟨xw (xc1 _ (List.mem_of_getElem? (i := 60) rfl)) rfl, Nat.le_of_ble_eq_true rfl, Nat.le_of_ble_eq_true rfl⟩
set_option maxRecDepth 20000 in
theorem xfe_10_266 : xFok 10 (266, 2, 3, 565) := ⟨xw (xc2 _ (List.mem_of_getElem? (i := 184) rfl)) rfl, Nat.le_of_ble_eq_true rfl, Nat.le_of_ble_eq_true rfl⟩
set_option maxRecDepth 20000 in
theorem xfe_10_269 : xFok 10 (269, 2, 4, 567) := ⟨xw (xc2 _ (List.mem_of_getElem? (i := 186) rfl)) rfl, Nat.le_of_ble_eq_true rfl, Nat.le_of_ble_eq_true rfl⟩
set_option maxRecDepth 20000 in
theorem xfe_10_272 : xFok 10 (272, 7, 2, 470) := ⟨xw (xc2 _ (List.mem_of_getElem? (i := 89) rfl)) rfl, Nat.le_of_ble_eq_true rfl, Nat.le_of_ble_eq_true rfl⟩
set_option maxRecDepth 20000 in
theorem xfe_10_287 : xFok 10 (287, 8, 1, 650) := ⟨xw (xc3 _ (List.mem_of_getElem? (i := 29) rfl)) rfl, Nat.le_of_ble_eq_true rfl, Nat.le_of_ble_eq_true rfl⟩
set_option maxRecDepth 20000 in
theorem xfe_10_294 : xFok 10 (294, 9, 7, 198) := ⟨xw (xc1 _ (List.mem_of_getElem? (i := 57) rfl)) rfl, Nat.le_of_ble_eq_true rfl, Nat.le_of_ble_eq_true rfl⟩
set_option maxRecDepth 20000 in
theorem xfe_10_329 : xFok 10 (329, 1, 11, 597) := ⟨xw (xc2 _ (List.mem_of_getElem? (i := 216) rfl)) rfl, Nat.le_of_ble_eq_true rfl, Nat.le_of_ble_eq_true rfl⟩
set_option maxRecDepth 20000 in
theorem xfe_10_346 : xFok 10 (346, 8, 0, 648) := ⟨xw (xc3 _ (List.mem_of_getElem? (i := 27) rfl)) rfl, Nat.le_of_ble_eq_true rfl, Nat.le_of_ble_eq_true rfl⟩
set_option maxRecDepth 20000 in
theorem xfe_10_353 : xFok 10 (353, 0, 0, 362) := ⟨xw (xc1 _ (List.mem_of_getElem? (i := 221) rfl)) rfl, Nat.le_of_ble_eq_true rfl, Nat.le_of_ble_eq_true rfl⟩
set_option maxRecDepth 20000 in
theorem xfe_10_356 : xFok 10 (356, 9, 5, 194) := ⟨xw (xc1 _ (List.mem_of_getElem? (i := 53) rfl)) rfl, Nat.le_of_ble_eq_true rfl, Nat.le_of_ble_eq_true rfl⟩
set_option maxRecDepth 20000 in
theorem xfe_10_359 : xFok 10 (359, 0, 2, 366) := ⟨xw (xc1 _ (List.mem_of_getElem? (i := 225) rfl)) rfl, Nat.le_of_ble_eq_true rfl, Nat.le_of_ble_eq_true rfl⟩
set_option maxRecDepth 20000 in
theorem xfe_10_362 : xFok 10 (362, 9, 11, 207) := ⟨xw (xc1 _ (List.mem_of_getElem? (i := 66) rfl)) rfl, Nat.le_of_ble_eq_true rfl, Nat.le_of_ble_eq_true rfl⟩
set_option maxRecDepth 20000 in
theorem xfe_10_365 : xFok 10 (365, 0, 1, 364) := ⟨xw (xc1 _ (List.mem_of_getElem? (i := 223) rfl)) rfl, Nat.le_of_ble_eq_true rfl, Nat.le_of_ble_eq_true rfl⟩
theorem xfa_10 : ∀ e ∈ xFl10, xFok 10 e := List.forall_mem_cons.mpr ⟨xfe_10_9, List.forall_mem_cons.mpr ⟨xfe_10_13, List.forall_mem_cons.mpr ⟨xfe_10_20, List.forall_mem_cons.mpr ⟨xfe_10_24, List.forall_mem_cons.mpr ⟨xfe_10_30, List.forall_mem_cons.mpr ⟨xfe_10_37, List.forall_mem_cons.mpr ⟨xfe_10_41, List.forall_mem_cons.mpr ⟨xfe_10_48, List.forall_mem_cons.mpr ⟨xfe_10_55, List.forall_mem_cons.mpr ⟨xfe_10_62, List.forall_mem_cons.mpr ⟨xfe_10_69, List.forall_mem_cons.mpr ⟨xfe_10_76, List.forall_mem_cons.mpr ⟨xfe_10_83, List.forall_mem_cons.mpr ⟨xfe_10_90, List.forall_mem_cons.mpr ⟨xfe_10_98, List.forall_mem_cons.mpr ⟨xfe_10_109, List.forall_mem_cons.mpr ⟨xfe_10_112, List.forall_mem_cons.mpr ⟨xfe_10_115, List.forall_mem_cons.mpr ⟨xfe_10_122, List.forall_mem_cons.mpr ⟨xfe_10_126, List.forall_mem_cons.mpr ⟨xfe_10_167, List.forall_mem_cons.mpr ⟨xfe_10_213, List.forall_mem_cons.mpr ⟨xfe_10_254, List.forall_mem_cons.mpr ⟨xfe_10_266, List.forall_mem_cons.mpr ⟨xfe_10_269, List.forall_mem_cons.mpr ⟨xfe_10_272, List.forall_mem_cons.mpr ⟨xfe_10_287, List.forall_mem_cons.mpr ⟨xfe_10_294, List.forall_mem_cons.mpr ⟨xfe_10_329, List.forall_mem_cons.mpr ⟨xfe_10_346, List.forall_mem_cons.mpr ⟨xfe_10_353, List.forall_mem_cons.mpr ⟨xfe_10_356, List.forall_mem_cons.mpr ⟨xfe_10_359, List.forall_mem_cons.mpr ⟨xfe_10_362, List.forall_mem_cons.mpr ⟨xfe_10_365, fun _ h => absurd h List.not_mem_nil⟩⟩⟩⟩⟩⟩⟩⟩⟩⟩⟩⟩⟩⟩⟩⟩⟩⟩⟩⟩⟩⟩⟩⟩⟩⟩⟩⟩⟩⟩⟩⟩⟩⟩⟩
set_option maxRecDepth 20000 in
theorem xfe_11_7 : xFok 11 (7, 11, 0, 1603) := ⟨xw (xc7 _ (List.mem_of_getElem? (i := 22) rfl)) rfl, Nat.le_of_ble_eq_true rfl, Nat.le_of_ble_eq_true rfl⟩
set_option maxRecDepth 20000 in
theorem xfe_11_13 : xFok 11 (13, 11, 1, 1604) := ⟨xw (xc7 _ (List.mem_of_getElem? (i := 23) rfl)) rfl, Nat.le_of_ble_eq_true rfl, Nat.le_of_ble_eq_true rfl⟩
set_option maxRecDepth 20000 in
theorem xfe_11_16 : xFok 11 (16, 11, 5, 1608) := ⟨xw (xc7 _ (List.mem_of_getElem? (i := 27) rfl)) rfl, Nat.le_of_ble_eq_true rfl, Nat.le_of_ble_eq_true rfl⟩
set_option maxRecDepth 20000 in
theorem xfe_11_20 : xFok 11 (20, 11, 11, 1614) := ⟨xw (xc7 _ (List.mem_of_getElem? (i := 33) rfl)) rfl, Nat.le_of_ble_eq_true rfl, Nat.le_of_ble_eq_true rfl⟩
set_option maxRecDepth 20000 in
theorem xfe_11_24 : xFok 11 (24, 11, 12, 1615) := ⟨xw (xc7 _ (List.mem_of_getElem? (i := 34) rfl)) rfl, Nat.le_of_ble_eq_true rfl, Nat.le_of_ble_eq_true rfl⟩
set_option maxRecDepth 20000 in
theorem xfe_11_27 : xFok 11 (27, 11, 13, 1616) := ⟨xw (xc7 _ (List.mem_of_getElem? (i := 35) rfl)) rfl, Nat.le_of_ble_eq_true rfl, Nat.le_of_ble_eq_true rfl⟩
set_option maxRecDepth 20000 in
theorem xfe_11_30 : xFok 11 (30, 11, 14, 1617) := ⟨xw (xc7 _ (List.mem_of_getElem? (i := 36) rfl)) rfl, Nat.le_of_ble_eq_true rfl, Nat.le_of_ble_eq_true rfl⟩
set_option maxRecDepth 20000 in
theorem xfe_11_33 : xFok 11 (33, 11, 15, 1618) := ⟨xw (xc7 _ (List.mem_of_getElem? (i := 37) rfl)) rfl, Nat.le_of_ble_eq_true rfl, Nat.le_of_ble_eq_true rfl⟩
set_option maxRecDepth 20000 in
theorem xfe_11_36 : xFok 11 (36, 11, 16, 1619) := ⟨xw (xc7 _ (List.mem_of_getElem? (i := 38) rfl)) rfl, Nat.le_of_ble_eq_true rfl, Nat.le_of_ble_eq_true rfl⟩
set_option maxRecDepth 20000 in
theorem xfe_11_40 : xFok 11 (40, 11, 17, 1620) := ⟨xw (xc7 _ (List.mem_of_getElem? (i := 39) rfl)) rfl, Nat.le_of_ble_eq_true rfl, Nat.le_of_ble_eq_true rfl⟩
set_option maxRecDepth 20000 in
theorem xfe_11_43 : xFok 11 (43, 11, 18, 1621) := ⟨xw (xc7 _ (List.mem_of_getElem? (i := 40) rfl)) rfl, Nat.le_of_ble_eq_true rfl, Nat.le_of_ble_eq_true rfl⟩
set_option maxRecDepth 20000 in
theorem xfe_11_46 : xFok 11 (46, 11, 19, 1622) := ⟨xw (xc7 _ (List.mem_of_getElem? (i := 41) rfl)) rfl, Nat.le_of_ble_eq_true rfl, Nat.le_of_ble_eq_true rfl⟩
set_option maxRecDepth 20000 in
theorem xfe_11_50 : xFok 11 (50, 11, 20, 1623) := ⟨xw (xc7 _ (List.mem_of_getElem? (i := 42) rfl)) rfl, Nat.le_of_ble_eq_true rfl, Nat.le_of_ble_eq_true rfl⟩
set_option maxRecDepth 20000 in
theorem xfe_11_53 : xFok 11 (53, 11, 21, 1624) := ⟨xw (xc7 _ (List.mem_of_getElem? (i := 43) rfl)) rfl, Nat.le_of_ble_eq_true rfl, Nat.le_of_ble_eq_true rfl⟩
set_option maxRecDepth 20000 in
theorem xfe_11_56 : xFok 11 (56, 11, 22, 1625) := ⟨xw (xc7 _ (List.mem_of_getElem? (i := 44) rfl)) rfl, Nat.le_of_ble_eq_true rfl, Nat.le_of_ble_eq_true rfl⟩
set_option maxRecDepth 20000 in
theorem xfe_11_59 : xFok 11 (59, 11, 23, 1626) := ⟨xw (xc7 _ (List.mem_of_getElem? (i := 45) rfl)) rfl, Nat.le_of_ble_eq_true rfl, Nat.le_of_ble_eq_true rfl⟩
set_option maxRecDepth 20000 in
theorem xfe_11_62 : xFok 11 (62, 11, 24, 1627) := ⟨xw (xc7 _ (List.mem_of_getElem? (i := 46) rfl)) rfl, Nat.le_of_ble_eq_true rfl, Nat.le_of_ble_eq_true rfl⟩
set_option maxRecDepth 20000 in
theorem xfe_11_65 : xFok 11 (65, 11, 25, 1628) := ⟨xw (xc7 _ (List.mem_of_getElem? (i := 47) rfl)) rfl, Nat.le_of_ble_eq_true rfl, Nat.le_of_ble_eq_true rfl⟩
set_option maxRecDepth 20000 in
theorem xfe_11_68 : xFok 11 (68, 11, 26, 1629) := ⟨xw (xc7 _ (List.mem_of_getElem? (i := 48) rfl)) rfl, Nat.le_of_ble_eq_true rfl, Nat.le_of_ble_eq_true rfl⟩
set_option maxRecDepth 20000 in
theorem xfe_11_71 : xFok 11 (71, 11, 27, 1630) := ⟨xw (xc7 _ (List.mem_of_getElem? (i := 49) rfl)) rfl, Nat.le_of_ble_eq_true rfl, Nat.le_of_ble_eq_true rfl⟩
set_option maxRecDepth 20000 in
theorem xfe_11_74 : xFok 11 (74, 11, 28, 1631) := ⟨xw (xc7 _ (List.mem_of_getElem? (i := 50) rfl)) rfl, Nat.le_of_ble_eq_true rfl, Nat.le_of_ble_eq_true rfl⟩
set_option maxRecDepth 20000 in
theorem xfe_11_77 : xFok 11 (77, 11, 32, 1635) := ⟨xw (xc7 _ (List.mem_of_getElem? (i := 54) rfl)) rfl, Nat.le_of_ble_eq_true rfl, Nat.le_of_ble_eq_true rfl⟩
set_option maxRecDepth 20000 in
theorem xfe_11_80 : xFok 11 (80, 11, 33, 1636) := ⟨xw (xc7 _ (List.mem_of_getElem? (i := 55) rfl)) rfl, Nat.le_of_ble_eq_true rfl, Nat.le_of_ble_eq_true rfl⟩
set_option maxRecDepth 20000 in
theorem xfe_11_83 : xFok 11 (83, 11, 35, 1638) := ⟨xw (xc7 _ (List.mem_of_getElem? (i := 57) rfl)) rfl, Nat.le_of_ble_eq_true rfl, Nat.le_of_ble_eq_true rfl⟩
set_option maxRecDepth 20000 in
theorem xfe_11_86 : xFok 11 (86, 11, 36, 1639) := ⟨xw (xc7 _ (List.mem_of_getElem? (i := 58) rfl)) rfl, Nat.le_of_ble_eq_true rfl, Nat.le_of_ble_eq_true rfl⟩
set_option maxRecDepth 20000 in
theorem xfe_11_89 : xFok 11 (89, 11, 37, 1640) := ⟨xw (xc7 _ (List.mem_of_getElem? (i := 59) rfl)) rfl, Nat.le_of_ble_eq_true rfl, Nat.le_of_ble_eq_true rfl⟩
set_option maxRecDepth 20000 in
theorem xfe_11_92 : xFok 11 (92, 11, 38, 1641) := ⟨xw (xc7 _ (List.mem_of_getElem? (i := 60) rfl)) rfl, Nat.le_of_ble_eq_true rfl, Nat.le_of_ble_eq_true rfl⟩
set_option maxRecDepth 20000 in
theorem xfe_11_95 : xFok 11 (95, 11, 39, 1642) := ⟨xw (xc7 _ (List.mem_of_getElem? (i := 61) rfl)) rfl, Nat.le_of_ble_eq_true rfl, Nat.le_of_ble_eq_true rfl⟩
set_option maxRecDepth 20000 in
theorem xfe_11_98 : xFok 11 (98, 11, 40, 1643) := ⟨xw (xc7 _ (List.mem_of_getElem? (i := 62) rfl)) rfl, Nat.le_of_ble_eq_true rfl, Nat.le_of_ble_eq_true rfl⟩
set_option maxRecDepth 20000 in
theorem xfe_11_101 : xFok 11 (101, 11, 41, 1644) := ⟨xw (xc7 _ (List.mem_of_getElem? (i := 63) rfl)) rfl, Nat.le_of_ble_eq_true rfl, Nat.le_of_ble_eq_true rfl⟩
set_option maxRecDepth 20000 in
theorem xfe_11_104 : xFok 11 (104, 11, 42, 1645) := ⟨xw (xc7 _ (List.mem_of_getElem? (i := 64) rfl)) rfl, Nat.le_of_ble_eq_true rfl, Nat.le_of_ble_eq_true rfl⟩
set_option maxRecDepth 20000 in
theorem xfe_11_107 : xFok 11 (107, 11, 43, 1646) := ⟨xw (xc7 _ (List.mem_of_getElem? (i := 65) rfl)) rfl, Nat.le_of_ble_eq_true rfl, Nat.le_of_ble_eq_true rfl⟩
set_option maxRecDepth 20000 in
theorem xfe_11_110 : xFok 11 (110, 11, 48, 1651) := ⟨xw (xc7 _ (List.mem_of_getElem? (i := 70) rfl)) rfl, Nat.le_of_ble_eq_true rfl, Nat.le_of_ble_eq_true rfl⟩
set_option maxRecDepth 20000 in
theorem xfe_11_113 : xFok 11 (113, 11, 49, 1652) := ⟨xw (xc7 _ (List.mem_of_getElem? (i := 71) rfl)) rfl, Nat.le_of_ble_eq_true rfl, Nat.le_of_ble_eq_true rfl⟩
set_option maxRecDepth 20000 in
theorem xfe_11_116 : xFok 11 (116, 11, 50, 1653) := ⟨xw (xc7 _ (List.mem_of_getElem? (i := 72) rfl)) rfl, Nat.le_of_ble_eq_true rfl, Nat.le_of_ble_eq_true rfl⟩
set_option maxRecDepth 20000 in
theorem xfe_11_119 : xFok 11 (119, 11, 51, 1654) := ⟨xw (xc7 _ (List.mem_of_getElem? (i := 73) rfl)) rfl, Nat.le_of_ble_eq_true rfl, Nat.le_of_ble_eq_true rfl⟩
set_option maxRecDepth 20000 in
theorem xfe_11_122 : xFok 11 (122, 11, 52, 1655) := ⟨xw (xc7 _ (List.mem_of_getElem? (i := 74) rfl)) rfl, Nat.le_of_ble_eq_true rfl, Nat.le_of_ble_eq_true rfl⟩
set_option maxRecDepth 20000 in
theorem xfe_11_125 : xFok 11 (125, 11, 55, 1658) := ⟨xw (xc7 _ (List.mem_of_getElem? (i := 77) rfl)) rfl, Nat.le_of_ble_eq_true rfl, Nat.le_of_ble_eq_true rfl⟩
set_option maxRecDepth 20000 in
theorem xfe_11_128 : xFok 11 (128, 11, 56, 1659) := ⟨xw (xc7 _ (List.mem_of_getElem? (i := 78) rfl)) rfl, Nat.le_of_ble_eq_true rfl, Nat.le_of_ble_eq_true rfl⟩
set_option maxRecDepth 20000 in
theorem xfe_11_131 : xFok 11 (131, 11, 57, 1660) := ⟨xw (xc7 _ (List.mem_of_getElem? (i := 79) rfl)) rfl, Nat.le_of_ble_eq_true rfl, Nat.le_of_ble_eq_true rfl⟩
set_option maxRecDepth 20000 in
theorem xfe_11_134 : xFok 11 (134, 11, 58, 1661) := ⟨xw (xc7 _ (List.mem_of_getElem? (i := 80) rfl)) rfl, Nat.le_of_ble_eq_true rfl, Nat.le_of_ble_eq_true rfl⟩
set_option maxRecDepth 20000 in
theorem xfe_11_137 : xFok 11 (137, 11, 60, 1663) := ⟨xw (xc7 _ (List.mem_of_getElem? (i := 82) rfl)) rfl, Nat.le_of_ble_eq_true rfl, Nat.le_of_ble_eq_true rfl⟩
set_option maxRecDepth 20000 in
theorem xfe_11_140 : xFok 11 (140, 11, 61, 1664) := ⟨xw (xc7 _ (List.mem_of_getElem? (i := 83) rfl)) rfl, Nat.le_of_ble_eq_true rfl, Nat.le_of_ble_eq_true rfl⟩
set_option maxRecDepth 20000 in
theorem xfe_11_143 : xFok 11 (143, 11, 62, 1665) := ⟨xw (xc7 _ (List.mem_of_getElem? (i := 84) rfl)) rfl, Nat.le_of_ble_eq_true rfl, Nat.le_of_ble_eq_true rfl⟩
set_option maxRecDepth 20000 in
theorem xfe_11_146 : xFok 11 (146, 11, 63, 1666) := ⟨xw (xc7 _ (List.mem_of_getElem? (i := 85) rfl)) rfl, Nat.le_of_ble_eq_true rfl, Nat.le_of_ble_eq_true rfl⟩
set_option maxRecDepth 20000 in
theorem xfe_11_149 : xFok 11 (149, 11, 64, 1667) := ⟨xw (xc7 _ (List.mem_of_getElem? (i := 86) rfl)) rfl, Nat.le_of_ble_eq_true rfl, Nat.le_of_ble_eq_true rfl⟩
set_option maxRecDepth 20000 in
theorem xfe_11_152 : xFok 11 (152, 11, 65, 1668) := ⟨xw (xc7 _ (List.mem_of_getElem? (i := 87) rfl)) rfl, Nat.le_of_ble_eq_true rfl, Nat.le_of_ble_eq_true rfl⟩
set_option maxRecDepth 20000 in
theorem xfe_11_155 : xFok 11 (155, 11, 66, 1669) := ⟨xw (xc7 _ (List.mem_of_getElem? (i := 88) rfl)) rfl, Nat.le_of_ble_eq_true rfl, Nat.le_of_ble_eq_true rfl⟩
set_option maxRecDepth 20000 in
theorem xfe_11_158 : xFok 11 (158, 11, 67, 1670) := ⟨xw (xc7 _ (List.mem_of_getElem? (i := 89) rfl)) rfl, Nat.le_of_ble_eq_true rfl, Nat.le_of_ble_eq_true rfl⟩
set_option maxRecDepth 20000 in
theorem xfe_11_161 : xFok 11 (161, 11, 68, 1671) := ⟨xw (xc7 _ (List.mem_of_getElem? (i := 90) rfl)) rfl, Nat.le_of_ble_eq_true rfl, Nat.le_of_ble_eq_true rfl⟩
set_option maxRecDepth 20000 in
theorem xfe_11_164 : xFok 11 (164, 11, 69, 1672) := ⟨xw (xc7 _ (List.mem_of_getElem? (i := 91) rfl)) rfl, Nat.le_of_ble_eq_true rfl, Nat.le_of_ble_eq_true rfl⟩
set_option maxRecDepth 20000 in
theorem xfe_11_167 : xFok 11 (167, 11, 73, 1676) := ⟨xw (xc7 _ (List.mem_of_getElem? (i := 95) rfl)) rfl, Nat.le_of_ble_eq_true rfl, Nat.le_of_ble_eq_true rfl⟩
set_option maxRecDepth 20000 in
theorem xfe_11_170 : xFok 11 (170, 11, 74, 1677) := ⟨xw (xc7 _ (List.mem_of_getElem? (i := 96) rfl)) rfl, Nat.le_of_ble_eq_true rfl, Nat.le_of_ble_eq_true rfl⟩
set_option maxRecDepth 20000 in
theorem xfe_11_173 : xFok 11 (173, 11, 75, 1678) := ⟨xw (xc7 _ (List.mem_of_getElem? (i := 97) rfl)) rfl, Nat.le_of_ble_eq_true rfl, Nat.le_of_ble_eq_true rfl⟩
set_option maxRecDepth 20000 in
theorem xfe_11_176 : xFok 11 (176, 11, 76, 1679) := ⟨xw (xc7 _ (List.mem_of_getElem? (i := 98) rfl)) rfl, Nat.le_of_ble_eq_true rfl, Nat.le_of_ble_eq_true rfl⟩
set_option maxRecDepth 20000 in
theorem xfe_11_179 : xFok 11 (179, 11, 77, 1680) := ⟨xw (xc7 _ (List.mem_of_getElem? (i := 99) rfl)) rfl, Nat.le_of_ble_eq_true rfl, Nat.le_of_ble_eq_true rfl⟩
set_option maxRecDepth 20000 in
theorem xfe_11_182 : xFok 11 (182, 11, 78, 1681) := ⟨xw (xc7 _ (List.mem_of_getElem? (i := 100) rfl)) rfl, Nat.le_of_ble_eq_true rfl, Nat.le_of_ble_eq_true rfl⟩
set_option maxRecDepth 20000 in
theorem xfe_11_185 : xFok 11 (185, 11, 79, 1682) := ⟨xw (xc7 _ (List.mem_of_getElem? (i := 101) rfl)) rfl, Nat.le_of_ble_eq_true rfl, Nat.le_of_ble_eq_true rfl⟩
set_option maxRecDepth 20000 in
theorem xfe_11_188 : xFok 11 (188, 11, 80, 1683) := ⟨xw (xc7 _ (List.mem_of_getElem? (i := 102) rfl)) rfl, Nat.le_of_ble_eq_true rfl, Nat.le_of_ble_eq_true rfl⟩
set_option maxRecDepth 20000 in
theorem xfe_11_191 : xFok 11 (191, 11, 81, 1684) := ⟨xw (xc7 _ (List.mem_of_getElem? (i := 103) rfl)) rfl, Nat.le_of_ble_eq_true rfl, Nat.le_of_ble_eq_true rfl⟩
set_option maxRecDepth 20000 in
theorem xfe_11_194 : xFok 11 (194, 11, 82, 1685) := ⟨xw (xc7 _ (List.mem_of_getElem? (i := 104) rfl)) rfl, Nat.le_of_ble_eq_true rfl, Nat.le_of_ble_eq_true rfl⟩
set_option maxRecDepth 20000 in
theorem xfe_11_197 : xFok 11 (197, 11, 83, 1686) := ⟨xw (xc7 _ (List.mem_of_getElem? (i := 105) rfl)) rfl, Nat.le_of_ble_eq_true rfl, Nat.le_of_ble_eq_true rfl⟩
set_option maxRecDepth 20000 in
theorem xfe_11_200 : xFok 11 (200, 11, 84, 1687) := ⟨xw (xc7 _ (List.mem_of_getElem? (i := 106) rfl)) rfl, Nat.le_of_ble_eq_true rfl, Nat.le_of_ble_eq_true rfl⟩
set_option maxRecDepth 20000 in
theorem xfe_11_203 : xFok 11 (203, 11, 85, 1688) := ⟨xw (xc7 _ (List.mem_of_getElem? (i := 107) rfl)) rfl, Nat.le_of_ble_eq_true rfl, Nat.le_of_ble_eq_true rfl⟩
set_option maxRecDepth 20000 in
theorem xfe_11_206 : xFok 11 (206, 11, 86, 1689) := ⟨xw (xc7 _ (List.mem_of_getElem? (i := 108) rfl)) rfl, Nat.le_of_ble_eq_true rfl, Nat.le_of_ble_eq_true rfl⟩
set_option maxRecDepth 20000 in
theorem xfe_11_209 : xFok 11 (209, 11, 87, 1690) := ⟨xw (xc7 _ (List.mem_of_getElem? (i := 109) rfl)) rfl, Nat.le_of_ble_eq_true rfl, Nat.le_of_ble_eq_true rfl⟩
set_option maxRecDepth 20000 in
theorem xfe_11_212 : xFok 11 (212, 11, 88, 1691) := ⟨xw (xc7 _ (List.mem_of_getElem? (i := 110) rfl)) rfl, Nat.le_of_ble_eq_true rfl, Nat.le_of_ble_eq_true rfl⟩
set_option maxRecDepth 20000 in
theorem xfe_11_215 : xFok 11 (215, 11, 89, 1692) := ⟨xw (xc7 _ (List.mem_of_getElem? (i := 111) rfl)) rfl, Nat.le_of_ble_eq_true rfl, Nat.le_of_ble_eq_true rfl⟩
set_option maxRecDepth 20000 in
theorem xfe_11_224 : xFok 11 (224, 11, 3, 1606) := ⟨xw (xc7 _ (List.mem_of_getElem? (i := 25) rfl)) rfl, Nat.le_of_ble_eq_true rfl, Nat.le_of_ble_eq_true rfl⟩
set_option maxRecDepth 20000 in
theorem xfe_11_227 : xFok 11 (227, 11, 4, 1607) := ⟨xw (xc7 _ (List.mem_of_getElem? (i := 26) rfl)) rfl, Nat.le_of_ble_eq_true rfl, Nat.le_of_ble_eq_true rfl⟩
set_option maxRecDepth 20000 in
theorem xfe_11_244 : xFok 11 (244, 11, 7, 1610) := ⟨xw (xc7 _ (List.mem_of_getElem? (i := 29) rfl)) rfl, Nat.le_of_ble_eq_true rfl, Nat.le_of_ble_eq_true rfl⟩
set_option maxRecDepth 20000 in
theorem xfe_11_247 : xFok 11 (247, 11, 6, 1609) := ⟨xw (xc7 _ (List.mem_of_getElem? (i := 28) rfl)) rfl, Nat.le_of_ble_eq_true rfl, Nat.le_of_ble_eq_true rfl⟩
set_option maxRecDepth 20000 in
theorem xfe_11_254 : xFok 11 (254, 11, 8, 1611) := ⟨xw (xc7 _ (List.mem_of_getElem? (i := 30) rfl)) rfl, Nat.le_of_ble_eq_true rfl, Nat.le_of_ble_eq_true rfl⟩
set_option maxRecDepth 20000 in
theorem xfe_11_261 : xFok 11 (261, 11, 10, 1613) := ⟨xw (xc7 _ (List.mem_of_getElem? (i := 32) rfl)) rfl, Nat.le_of_ble_eq_true rfl, Nat.le_of_ble_eq_true rfl⟩
set_option maxRecDepth 20000 in
theorem xfe_11_272 : xFok 11 (272, 11, 9, 1612) := ⟨xw (xc7 _ (List.mem_of_getElem? (i := 31) rfl)) rfl, Nat.le_of_ble_eq_true rfl, Nat.le_of_ble_eq_true rfl⟩
set_option maxRecDepth 20000 in
theorem xfe_11_289 : xFok 11 (289, 11, 31, 1634) := ⟨xw (xc7 _ (List.mem_of_getElem? (i := 53) rfl)) rfl, Nat.le_of_ble_eq_true rfl, Nat.le_of_ble_eq_true rfl⟩
set_option maxRecDepth 20000 in
theorem xfe_11_292 : xFok 11 (292, 11, 2, 1605) := ⟨xw (xc7 _ (List.mem_of_getElem? (i := 24) rfl)) rfl, Nat.le_of_ble_eq_true rfl, Nat.le_of_ble_eq_true rfl⟩
set_option maxRecDepth 20000 in
theorem xfe_11_295 : xFok 11 (295, 11, 30, 1633) := ⟨xw (xc7 _ (List.mem_of_getElem? (i := 52) rfl)) rfl, Nat.le_of_ble_eq_true rfl, Nat.le_of_ble_eq_true rfl⟩
set_option maxRecDepth 20000 in
theorem xfe_11_304 : xFok 11 (304, 11, 44, 1647) := ⟨xw (xc7 _ (List.mem_of_getElem? (i := 66) rfl)) rfl, Nat.le_of_ble_eq_true rfl, Nat.le_of_ble_eq_true rfl⟩
set_option maxRecDepth 20000 in
theorem xfe_11_307 : xFok 11 (307, 11, 46, 1649) := ⟨xw (xc7 _ (List.mem_of_getElem? (i := 68) rfl)) rfl, Nat.le_of_ble_eq_true rfl, Nat.le_of_ble_eq_true rfl⟩
set_option maxRecDepth 20000 in
theorem xfe_11_310 : xFok 11 (310, 11, 47, 1650) := ⟨xw (xc7 _ (List.mem_of_getElem? (i := 69) rfl)) rfl, Nat.le_of_ble_eq_true rfl, Nat.le_of_ble_eq_true rfl⟩
set_option maxRecDepth 20000 in
theorem xfe_11_313 : xFok 11 (313, 11, 54, 1657) := ⟨xw (xc7 _ (List.mem_of_getElem? (i := 76) rfl)) rfl, Nat.le_of_ble_eq_true rfl, Nat.le_of_ble_eq_true rfl⟩
set_option maxRecDepth 20000 in
theorem xfe_11_352 : xFok 11 (352, 11, 29, 1632) := ⟨xw (xc7 _ (List.mem_of_getElem? (i := 51) rfl)) rfl, Nat.le_of_ble_eq_true rfl, Nat.le_of_ble_eq_true rfl⟩
set_option maxRecDepth 20000 in
theorem xfe_11_371 : xFok 11 (371, 11, 34, 1637) := ⟨xw (xc7 _ (List.mem_of_getElem? (i := 56) rfl)) rfl, Nat.le_of_ble_eq_true rfl, Nat.le_of_ble_eq_true rfl⟩
set_option maxRecDepth 20000 in
theorem xfe_11_377 : xFok 11 (377, 11, 45, 1648) := ⟨xw (xc7 _ (List.mem_of_getElem? (i := 67) rfl)) rfl, Nat.le_of_ble_eq_true rfl, Nat.le_of_ble_eq_true rfl⟩
set_option maxRecDepth 20000 in
theorem xfe_11_408 : xFok 11 (408, 11, 53, 1656) := ⟨xw (xc7 _ (List.mem_of_getElem? (i := 75) rfl)) rfl, Nat.le_of_ble_eq_true rfl, Nat.le_of_ble_eq_true rfl⟩
set_option maxRecDepth 20000 in
theorem xfe_11_439 : xFok 11 (439, 11, 59, 1662) := ⟨xw (xc7 _ (List.mem_of_getElem? (i := 81) rfl)) rfl, Nat.le_of_ble_eq_true rfl, Nat.le_of_ble_eq_true rfl⟩
set_option maxRecDepth 20000 in
theorem xfe_11_460 : xFok 11 (460, 11, 70, 1673) := ⟨xw (xc7 _ (List.mem_of_getElem? (i := 92) rfl)) rfl, Nat.le_of_ble_eq_true rfl, Nat.le_of_ble_eq_true rfl⟩
set_option maxRecDepth 20000 in
theorem xfe_11_467 : xFok 11 (467, 11, 72, 1675) := ⟨xw (xc7 _ (List.mem_of_getElem? (i := 94) rfl)) rfl, Nat.le_of_ble_eq_true rfl, Nat.le_of_ble_eq_true rfl⟩
set_option maxRecDepth 20000 in
theorem xfe_11_474 : xFok 11 (474, 11, 71, 1674) := ⟨xw (xc7 _ (List.mem_of_getElem? (i := 93) rfl)) rfl, Nat.le_of_ble_eq_true rfl, Nat.le_of_ble_eq_true rfl⟩
theorem xfa_11 : ∀ e ∈ xFl11, xFok 11 e := List.forall_mem_cons.mpr ⟨xfe_11_7, List.forall_mem_cons.mpr ⟨xfe_11_13, List.forall_mem_cons.mpr ⟨xfe_11_16, List.forall_mem_cons.mpr ⟨xfe_11_20, List.forall_mem_cons.mpr ⟨xfe_11_24, List.forall_mem_cons.mpr ⟨xfe_11_27, List.forall_mem_cons.mpr ⟨xfe_11_30, List.forall_mem_cons.mpr ⟨xfe_11_33, List.forall_mem_cons.mpr ⟨xfe_11_36, List.forall_mem_cons.mpr ⟨xfe_11_40, List.forall_mem_cons.mpr ⟨xfe_11_43, List.forall_mem_cons.mpr ⟨xfe_11_46, List.forall_mem_cons.mpr ⟨xfe_11_50, List.forall_mem_cons.mpr ⟨xfe_11_53, List.forall_mem_cons.mpr ⟨xfe_11_56, List.forall_mem_cons.mpr ⟨xfe_11_59, List.forall_mem_cons.mpr ⟨xfe_11_62, List.forall_mem_cons.mpr ⟨xfe_11_65, List.forall_mem_cons.mpr ⟨xfe_11_68, List.forall_mem_cons.mpr ⟨xfe_11_71, List.forall_mem_cons.mpr ⟨xfe_11_74, List.forall_mem_cons.mpr ⟨xfe_11_77, List.forall_mem_cons.mpr ⟨xfe_11_80, List.forall_mem_cons.mpr ⟨xfe_11_83, List.forall_mem_cons.mpr ⟨xfe_11_86, List.forall_mem_cons.mpr ⟨xfe_11_89, List.forall_mem_cons.mpr ⟨xfe_11_92, List.forall_mem_cons.mpr ⟨xfe_11_95, List.forall_mem_cons.mpr ⟨xfe_11_98, List.forall_mem_cons.mpr ⟨xfe_11_101, List.forall_mem_cons.mpr ⟨xfe_11_104, List.forall_mem_cons.mpr ⟨xfe_11_107, List.forall_mem_cons.mpr ⟨xfe_11_110, List.forall_mem_cons.mpr ⟨xfe_11_113, List.forall_mem_cons.mpr ⟨xfe_11_116, List.forall_mem_cons.mpr ⟨xfe_11_119, List.forall_mem_cons.mpr ⟨xfe_11_122, List.forall_mem_cons.mpr ⟨xfe_11_125, List.forall_mem_cons.mpr ⟨xfe_11_128, List.forall_mem_cons.mpr ⟨xfe_11_131, List.forall_mem_cons.mpr ⟨xfe_11_134, List.forall_mem_cons.mpr ⟨xfe_11_137, List.forall_mem_cons.mpr ⟨xfe_11_140, List.forall_mem_cons.mpr ⟨xfe_11_143, List.forall_mem_cons.mpr ⟨xfe_11_146, List.forall_mem_cons.mpr ⟨xfe_11_149, List.forall_mem_cons.mpr ⟨xfe_11_152, List.forall_mem_cons.mpr ⟨xfe_11_155, List.forall_mem_cons.mpr ⟨xfe_11_158, List.forall_mem_cons.mpr ⟨xfe_11_161, List.forall_mem_cons.mpr ⟨xfe_11_164, List.forall_mem_cons.mpr ⟨xfe_11_167, List.forall_mem_cons.mpr ⟨xfe_11_170, List.forall_mem_cons.mpr ⟨xfe_11_173, List.forall_mem_cons.mpr ⟨xfe_11_176, List.forall_mem_cons.mpr ⟨xfe_11_179, List.forall_mem_cons.mpr ⟨xfe_11_182, List.forall_mem_cons.mpr ⟨xfe_11_185, List.forall_mem_cons.mpr ⟨xfe_11_188, List.forall_mem_cons.mpr ⟨xfe_11_191, List.forall_mem_cons.mpr ⟨xfe_11_194, List.forall_mem_cons.mpr ⟨xfe_11_197, List.forall_mem_cons.mpr ⟨xfe_11_200, List.forall_mem_cons.mpr ⟨xfe_11_203, List.forall_mem_cons.mpr ⟨xfe_11_206, List.forall_mem_cons.mpr ⟨xfe_11_209, List.forall_mem_cons.mpr ⟨xfe_11_212, List.forall_mem_cons.mpr ⟨xfe_11_215, List.forall_mem_cons.mpr ⟨xfe_11_224, List.forall_mem_cons.mpr ⟨xfe_11_227, List.forall_mem_cons.mpr ⟨xfe_11_244, List.forall_mem_cons.mpr ⟨xfe_11_247, List.forall_mem_cons.mpr ⟨xfe_11_254, List.forall_mem_cons.mpr ⟨xfe_11_261, List.forall_mem_cons.mpr ⟨xfe_11_272, List.forall_mem_cons.mpr ⟨xfe_11_289, List.forall_mem_cons.mpr ⟨xfe_11_292, List.forall_mem_cons.mpr ⟨xfe_11_295, List.forall_mem_cons.mpr ⟨xfe_11_304, List.forall_mem_cons.mpr ⟨xfe_11_307, List.forall_mem_cons.mpr ⟨xfe_11_310, List.forall_mem_cons.mpr ⟨xfe_11_313, List.forall_mem_cons.mpr ⟨xfe_11_352, List.forall_mem_cons.mpr ⟨xfe_11_371, List.forall_mem_cons.mpr ⟨xfe_11_377, List.forall_mem_cons.mpr ⟨xfe_11_408, List.forall_mem_cons.mpr ⟨xfe_11_439, List.forall_mem_cons.mpr ⟨xfe_11_460, List.forall_mem_cons.mpr ⟨xfe_11_467, List.forall_mem_cons.mpr ⟨xfe_11_474, fun _ h => absurd h List.not_mem_nil⟩⟩⟩⟩⟩⟩⟩⟩⟩⟩⟩⟩⟩⟩⟩⟩⟩⟩⟩⟩⟩⟩⟩⟩⟩⟩⟩⟩⟩⟩⟩⟩⟩⟩⟩⟩⟩⟩⟩⟩⟩⟩⟩⟩⟩⟩⟩⟩⟩⟩⟩⟩⟩⟩⟩⟩⟩⟩⟩⟩⟩⟩⟩⟩⟩⟩⟩⟩⟩⟩⟩⟩⟩⟩⟩⟩⟩⟩⟩⟩⟩⟩⟩⟩⟩⟩⟩⟩⟩⟩
theorem xfa (own : Nat) : ∀ e ∈ xFlL own, xFok own e := by
  unfold xFlL
  split
  · exact xfa_0
  · exact xfa_1
  · exact xfa_2
  · exact xfa_3
  · exact xfa_4
  · exact xfa_5
  · exact xfa_6
  · exact xfa_7
  · exact xfa_8
  · exact xfa_9
  · exact xfa_10
  · exact xfa_11
  · exact fun _ h => absurd h List.not_mem_nil
theorem xFld_ok {own idx c k : Nat} (h : xFld own idx = some (c, k)) : Cond.fieldLink (xNm own) idx (xTT c k).1 (xTT c k).2.1 (xTT c k).2.2.1 ∈ xws ∧ c < 12 ∧ k < xNf c := by
  unfold xFld at h
  split at h
  · rename_i e he
    have h1 := xfa own e (List.mem_of_find?_eq_some he)
    have h2 := List.find?_some he
    simp only [beq_iff_eq] at h2
    cases h
    rw [← h2]
    exact h1
  · cases h
set_option maxRecDepth 20000 in
theorem xNw_all : ∀ e ∈ xNwL, Cond.classLink (xNm e.1) e.2.1 (xNm e.2.2.1) ∈ xws ∧ e.2.2.1 < 12 := List.forall_mem_cons.mpr ⟨⟨xw (xc1 _ (List.mem_of_getElem? (i := 21) rfl)) rfl, Nat.le_of_ble_eq_true rfl⟩, List.forall_mem_cons.mpr ⟨⟨xw (xc1 _ (List.mem_of_getElem? (i := 29) rfl)) rfl, Nat.le_of_ble_eq_true rfl⟩, List.forall_mem_cons.mpr ⟨⟨xw (xc1 _ (List.mem_of_getElem? (i := 107) rfl)) rfl, Nat.le_of_ble_eq_true rfl⟩, List.forall_mem_cons.mpr ⟨⟨xw (xc1 _ (List.mem_of_getElem? (i := 171) rfl)) rfl, Nat.le_of_ble_eq_true rfl⟩, List.forall_mem_cons.mpr ⟨⟨xw (xc1 _ (List.mem_of_getElem? (i := 212) rfl)) rfl, Nat.le_of_ble_eq_true rfl⟩, List.forall_mem_cons.mpr ⟨⟨xw (xc2 _ (List.mem_of_getElem? (i := 30) rfl)) rfl, Nat.le_of_ble_eq_true rfl⟩, List.forall_mem_cons.mpr ⟨⟨xw (xc2 _ (List.mem_of_getElem? (i := 74) rfl)) rfl, Nat.le_of_ble_eq_true rfl⟩, List.forall_mem_cons.mpr ⟨⟨xw (xc2 _ (List.mem_of_getElem? (i := 148) rfl)) rfl, Nat.le_of_ble_eq_true rfl⟩, List.forall_mem_cons.mpr ⟨⟨xw (xc2 _ (List.mem_of_getElem? (i := 158) rfl)) rfl, Nat.le_of_ble_eq_true rfl⟩, List.forall_mem_cons.mpr ⟨⟨xw (xc2 _ (List.mem_of_getElem? (i := 174) rfl)) rfl, Nat.le_of_ble_eq_true rfl⟩, List.forall_mem_cons.mpr ⟨⟨xw (xc2 _ (List.mem_of_getElem? (i := 198) rfl)) rfl, Nat.le_of_ble_eq_true rfl⟩, List.forall_mem_cons.mpr ⟨⟨xw (xc3 _ (List.mem_of_getElem? (i := 20) rfl)) rfl, Nat.le_of_ble_eq_true rfl⟩, List.forall_mem_cons.mpr ⟨⟨xw (xc7 _ (List.mem_of_getElem? (i := 0) rfl)) rfl, Nat.le_of_ble_eq_true rfl⟩, fun _ h => absurd h List.not_mem_nil⟩⟩⟩⟩⟩⟩⟩⟩⟩⟩⟩⟩⟩
set_option maxRecDepth 20000 in
theorem xKI_all : ∀ e ∈ xKIL, Cond.constant (xNm e.1) e.2.1 e.2.2.1 ∈ xws := List.forall_mem_cons.mpr ⟨xw (xc4 _ (List.mem_of_getElem? (i := 133) rfl)) rfl, List.forall_mem_cons.mpr ⟨xw (xc4 _ (List.mem_of_getElem? (i := 156) rfl)) rfl, List.forall_mem_cons.mpr ⟨xw (xc4 _ (List.mem_of_getElem? (i := 157) rfl)) rfl, List.forall_mem_cons.mpr ⟨xw (xc4 _ (List.mem_of_getElem? (i := 158) rfl)) rfl, List.forall_mem_cons.mpr ⟨xw (xc5 _ (List.mem_of_getElem? (i := 99) rfl)) rfl, List.forall_mem_cons.mpr ⟨xw (xc5 _ (List.mem_of_getElem? (i := 114) rfl)) rfl, List.forall_mem_cons.mpr ⟨xw (xc8 _ (List.mem_of_getElem? (i := 205) rfl)) rfl, List.forall_mem_cons.mpr ⟨xw (xc9 _ (List.mem_of_getElem? (i := 84) rfl)) rfl, fun _ h => absurd h List.not_mem_nil⟩⟩⟩⟩⟩⟩⟩⟩
set_option maxRecDepth 20000 in
theorem xKL_all : ∀ e ∈ xKLL, Cond.constantLong (xNm e.1) e.2.1 e.2.2.1 ∈ xws := List.forall_mem_cons.mpr ⟨xw (xc4 _ (List.mem_of_getElem? (i := 165) rfl)) rfl, List.forall_mem_cons.mpr ⟨xw (xc4 _ (List.mem_of_getElem? (i := 166) rfl)) rfl, List.forall_mem_cons.mpr ⟨xw (xc4 _ (List.mem_of_getElem? (i := 167) rfl)) rfl, List.forall_mem_cons.mpr ⟨xw (xc5 _ (List.mem_of_getElem? (i := 98) rfl)) rfl, List.forall_mem_cons.mpr ⟨xw (xc5 _ (List.mem_of_getElem? (i := 104) rfl)) rfl, List.forall_mem_cons.mpr ⟨xw (xc5 _ (List.mem_of_getElem? (i := 105) rfl)) rfl, List.forall_mem_cons.mpr ⟨xw (xc8 _ (List.mem_of_getElem? (i := 72) rfl)) rfl, List.forall_mem_cons.mpr ⟨xw (xc8 _ (List.mem_of_getElem? (i := 73) rfl)) rfl, List.forall_mem_cons.mpr ⟨xw (xc8 _ (List.mem_of_getElem? (i := 74) rfl)) rfl, List.forall_mem_cons.mpr ⟨xw (xc8 _ (List.mem_of_getElem? (i := 75) rfl)) rfl, List.forall_mem_cons.mpr ⟨xw (xc8 _ (List.mem_of_getElem? (i := 76) rfl)) rfl, List.forall_mem_cons.mpr ⟨xw (xc8 _ (List.mem_of_getElem? (i := 77) rfl)) rfl, List.forall_mem_cons.mpr ⟨xw (xc8 _ (List.mem_of_getElem? (i := 78) rfl)) rfl, List.forall_mem_cons.mpr ⟨xw (xc9 _ (List.mem_of_getElem? (i := 68) rfl)) rfl, List.forall_mem_cons.mpr ⟨xw (xc9 _ (List.mem_of_getElem? (i := 97) rfl)) rfl, List.forall_mem_cons.mpr ⟨xw (xc9 _ (List.mem_of_getElem? (i := 98) rfl)) rfl, List.forall_mem_cons.mpr ⟨xw (xc9 _ (List.mem_of_getElem? (i := 99) rfl)) rfl, fun _ h => absurd h List.not_mem_nil⟩⟩⟩⟩⟩⟩⟩⟩⟩⟩⟩⟩⟩⟩⟩⟩⟩
set_option maxRecDepth 20000 in
theorem xKS_all : ∀ e ∈ xKSL, Cond.stringRef (xNm e.1) e.2.1 e.2.2.1 ∈ lw_tbl ∧ e.2.2.2.1 < 7 := List.forall_mem_cons.mpr ⟨⟨xc1 _ (List.mem_of_getElem? (i := 113) rfl), Nat.le_of_ble_eq_true rfl⟩, List.forall_mem_cons.mpr ⟨⟨xc1 _ (List.mem_of_getElem? (i := 165) rfl), Nat.le_of_ble_eq_true rfl⟩, List.forall_mem_cons.mpr ⟨⟨xc1 _ (List.mem_of_getElem? (i := 166) rfl), Nat.le_of_ble_eq_true rfl⟩, List.forall_mem_cons.mpr ⟨⟨xc1 _ (List.mem_of_getElem? (i := 167) rfl), Nat.le_of_ble_eq_true rfl⟩, List.forall_mem_cons.mpr ⟨⟨xc1 _ (List.mem_of_getElem? (i := 168) rfl), Nat.le_of_ble_eq_true rfl⟩, List.forall_mem_cons.mpr ⟨⟨xc1 _ (List.mem_of_getElem? (i := 169) rfl), Nat.le_of_ble_eq_true rfl⟩, List.forall_mem_cons.mpr ⟨⟨xc1 _ (List.mem_of_getElem? (i := 170) rfl), Nat.le_of_ble_eq_true rfl⟩, fun _ h => absurd h List.not_mem_nil⟩⟩⟩⟩⟩⟩⟩
set_option maxRecDepth 20000 in
theorem xMm_all : ∀ e ∈ xMmL, Cond.methodLink (xNm e.1) e.2.1 (if e.2.2.1 = true then Lib.Math.max.name else Lib.Math.min.name) ∈ xws := List.forall_mem_cons.mpr ⟨xw (xc3 _ (List.mem_of_getElem? (i := 63) rfl)) rfl, List.forall_mem_cons.mpr ⟨xw (xc3 _ (List.mem_of_getElem? (i := 66) rfl)) rfl, List.forall_mem_cons.mpr ⟨xw (xc3 _ (List.mem_of_getElem? (i := 166) rfl)) rfl, List.forall_mem_cons.mpr ⟨xw (xc4 _ (List.mem_of_getElem? (i := 19) rfl)) rfl, List.forall_mem_cons.mpr ⟨xw (xc5 _ (List.mem_of_getElem? (i := 76) rfl)) rfl, List.forall_mem_cons.mpr ⟨xw (xc5 _ (List.mem_of_getElem? (i := 81) rfl)) rfl, List.forall_mem_cons.mpr ⟨xw (xc5 _ (List.mem_of_getElem? (i := 218) rfl)) rfl, List.forall_mem_cons.mpr ⟨xw (xc5 _ (List.mem_of_getElem? (i := 237) rfl)) rfl, List.forall_mem_cons.mpr ⟨xw (xc6 _ (List.mem_of_getElem? (i := 19) rfl)) rfl, List.forall_mem_cons.mpr ⟨xw (xc6 _ (List.mem_of_getElem? (i := 159) rfl)) rfl, List.forall_mem_cons.mpr ⟨xw (xc6 _ (List.mem_of_getElem? (i := 160) rfl)) rfl, fun _ h => absurd h List.not_mem_nil⟩⟩⟩⟩⟩⟩⟩⟩⟩⟩⟩
set_option maxRecDepth 20000 in
theorem xOb_all : ∀ e ∈ xObL, Cond.methodLink (xNm e.1) e.2.1 objectInit ∈ xws := List.forall_mem_cons.mpr ⟨xw (xc1 _ (List.mem_of_getElem? (i := 26) rfl)) rfl, List.forall_mem_cons.mpr ⟨xw (xc1 _ (List.mem_of_getElem? (i := 34) rfl)) rfl, List.forall_mem_cons.mpr ⟨xw (xc1 _ (List.mem_of_getElem? (i := 112) rfl)) rfl, List.forall_mem_cons.mpr ⟨xw (xc1 _ (List.mem_of_getElem? (i := 217) rfl)) rfl, List.forall_mem_cons.mpr ⟨xw (xc2 _ (List.mem_of_getElem? (i := 35) rfl)) rfl, List.forall_mem_cons.mpr ⟨xw (xc2 _ (List.mem_of_getElem? (i := 79) rfl)) rfl, List.forall_mem_cons.mpr ⟨xw (xc2 _ (List.mem_of_getElem? (i := 153) rfl)) rfl, List.forall_mem_cons.mpr ⟨xw (xc2 _ (List.mem_of_getElem? (i := 163) rfl)) rfl, List.forall_mem_cons.mpr ⟨xw (xc2 _ (List.mem_of_getElem? (i := 179) rfl)) rfl, List.forall_mem_cons.mpr ⟨xw (xc2 _ (List.mem_of_getElem? (i := 203) rfl)) rfl, List.forall_mem_cons.mpr ⟨xw (xc3 _ (List.mem_of_getElem? (i := 25) rfl)) rfl, List.forall_mem_cons.mpr ⟨xw (xc7 _ (List.mem_of_getElem? (i := 5) rfl)) rfl, fun _ h => absurd h List.not_mem_nil⟩⟩⟩⟩⟩⟩⟩⟩⟩⟩⟩⟩
set_option maxRecDepth 20000 in
theorem xMm_words : (Cond.static Lib.Math.max.name ∈ xws ∧ Cond.initialized "java/lang/Math" ∈ xws ∧ Cond.code Lib.Math.max.name Lib.Math.max.code 2 (some .int) ∈ xws) ∧ Cond.static Lib.Math.min.name ∈ xws ∧ Cond.code Lib.Math.min.name Lib.Math.min.code 2 (some .int) ∈ xws := ⟨⟨xw (xc3 _ (List.mem_of_getElem? (i := 67) rfl)) rfl, xw (xc1 _ (List.mem_of_getElem? (i := 17) rfl)) rfl, xw (xc3 _ (List.mem_of_getElem? (i := 68) rfl)) rfl⟩, xw (xc3 _ (List.mem_of_getElem? (i := 64) rfl)) rfl, xw (xc3 _ (List.mem_of_getElem? (i := 65) rfl)) rfl⟩
set_option maxRecDepth 20000 in
theorem xOb_words : Cond.instanceMethod objectInit ∈ xws ∧ Cond.code objectInit ⟨#[0xb1]⟩ 1 none ∈ xws := ⟨xw (xc1 _ (List.mem_of_getElem? (i := 27) rfl)) rfl, xw (xc1 _ (List.mem_of_getElem? (i := 28) rfl)) rfl⟩
set_option maxRecDepth 20000 in
theorem xIns_all : ∀ c, c < 12 → Cond.instantiable (xNm c) (xNf c) ∈ xws ∧ Cond.initialized (xNm c) ∈ xws := by
  intro c hc
  match c, hc with
  | 0, _ => exact ⟨xw (xc1 _ (List.mem_of_getElem? (i := 213) rfl)) rfl, xw (xc1 _ (List.mem_of_getElem? (i := 8) rfl)) rfl⟩
  | 1, _ => exact ⟨xw (xc2 _ (List.mem_of_getElem? (i := 199) rfl)) rfl, xw (xc1 _ (List.mem_of_getElem? (i := 14) rfl)) rfl⟩
  | 2, _ => exact ⟨xw (xc2 _ (List.mem_of_getElem? (i := 175) rfl)) rfl, xw (xc1 _ (List.mem_of_getElem? (i := 13) rfl)) rfl⟩
  | 3, _ => exact ⟨xw (xc2 _ (List.mem_of_getElem? (i := 159) rfl)) rfl, xw (xc1 _ (List.mem_of_getElem? (i := 12) rfl)) rfl⟩
  | 4, _ => exact ⟨xw (xc2 _ (List.mem_of_getElem? (i := 149) rfl)) rfl, xw (xc1 _ (List.mem_of_getElem? (i := 11) rfl)) rfl⟩
  | 5, _ => exact ⟨xw (xc2 _ (List.mem_of_getElem? (i := 31) rfl)) rfl, xw (xc1 _ (List.mem_of_getElem? (i := 9) rfl)) rfl⟩
  | 6, _ => exact ⟨xw (xc1 _ (List.mem_of_getElem? (i := 108) rfl)) rfl, xw (xc1 _ (List.mem_of_getElem? (i := 3) rfl)) rfl⟩
  | 7, _ => exact ⟨xw (xc2 _ (List.mem_of_getElem? (i := 75) rfl)) rfl, xw (xc1 _ (List.mem_of_getElem? (i := 10) rfl)) rfl⟩
  | 8, _ => exact ⟨xw (xc3 _ (List.mem_of_getElem? (i := 21) rfl)) rfl, xw (xc1 _ (List.mem_of_getElem? (i := 15) rfl)) rfl⟩
  | 9, _ => exact ⟨xw (xc1 _ (List.mem_of_getElem? (i := 30) rfl)) rfl, xw (xc1 _ (List.mem_of_getElem? (i := 2) rfl)) rfl⟩
  | 10, _ => exact ⟨xw (xc1 _ (List.mem_of_getElem? (i := 22) rfl)) rfl, xw (xc1 _ (List.mem_of_getElem? (i := 1) rfl)) rfl⟩
  | 11, _ => exact ⟨xw (xc7 _ (List.mem_of_getElem? (i := 1) rfl)) rfl, xw (xc1 _ (List.mem_of_getElem? (i := 18) rfl)) rfl⟩
  | c + 12, hc => exact absurd hc (by omega)
set_option maxRecDepth 20000 in
theorem xil_0 : ∀ k, k < 13 → u_lay RX0 TX0 k ∈ xws := lt_s (lt_s (lt_s (lt_s (lt_s (lt_s (lt_s (lt_s (lt_s (lt_s (lt_s (lt_s (lt_s (fun _ h => absurd h (Nat.not_lt_zero _)) (xw (xc2 _ (List.mem_of_getElem? (i := 2) rfl)) rfl)) (xw (xc2 _ (List.mem_of_getElem? (i := 4) rfl)) rfl)) (xw (xc2 _ (List.mem_of_getElem? (i := 6) rfl)) rfl)) (xw (xc2 _ (List.mem_of_getElem? (i := 8) rfl)) rfl)) (xw (xc2 _ (List.mem_of_getElem? (i := 10) rfl)) rfl)) (xw (xc2 _ (List.mem_of_getElem? (i := 12) rfl)) rfl)) (xw (xc2 _ (List.mem_of_getElem? (i := 14) rfl)) rfl)) (xw (xc2 _ (List.mem_of_getElem? (i := 16) rfl)) rfl)) (xw (xc2 _ (List.mem_of_getElem? (i := 18) rfl)) rfl)) (xw (xc2 _ (List.mem_of_getElem? (i := 20) rfl)) rfl)) (xw (xc2 _ (List.mem_of_getElem? (i := 22) rfl)) rfl)) (xw (xc2 _ (List.mem_of_getElem? (i := 24) rfl)) rfl)) (xw (xc2 _ (List.mem_of_getElem? (i := 26) rfl)) rfl)
theorem xin_0 : ∀ w ∈ u_ws RX0 TX0 13, w ∈ xws := by
  intro w hw
  obtain ⟨k, hk, rfl⟩ := List.mem_map.mp hw
  exact xil_0 k (List.mem_range.mp hk)
set_option maxRecDepth 20000 in
theorem xil_1 : ∀ k, k < 18 → u_lay RX1 TX1 k ∈ xws := lt_s (lt_s (lt_s (lt_s (lt_s (lt_s (lt_s (lt_s (lt_s (lt_s (lt_s (lt_s (lt_s (lt_s (lt_s (lt_s (lt_s (lt_s (fun _ h => absurd h (Nat.not_lt_zero _)) (xw (xc2 _ (List.mem_of_getElem? (i := 223) rfl)) rfl)) (xw (xc2 _ (List.mem_of_getElem? (i := 225) rfl)) rfl)) (xw (xc2 _ (List.mem_of_getElem? (i := 227) rfl)) rfl)) (xw (xc2 _ (List.mem_of_getElem? (i := 229) rfl)) rfl)) (xw (xc2 _ (List.mem_of_getElem? (i := 231) rfl)) rfl)) (xw (xc2 _ (List.mem_of_getElem? (i := 233) rfl)) rfl)) (xw (xc2 _ (List.mem_of_getElem? (i := 235) rfl)) rfl)) (xw (xc2 _ (List.mem_of_getElem? (i := 237) rfl)) rfl)) (xw (xc2 _ (List.mem_of_getElem? (i := 239) rfl)) rfl)) (xw (xc3 _ (List.mem_of_getElem? (i := 1) rfl)) rfl)) (xw (xc3 _ (List.mem_of_getElem? (i := 3) rfl)) rfl)) (xw (xc3 _ (List.mem_of_getElem? (i := 5) rfl)) rfl)) (xw (xc3 _ (List.mem_of_getElem? (i := 7) rfl)) rfl)) (xw (xc3 _ (List.mem_of_getElem? (i := 9) rfl)) rfl)) (xw (xc3 _ (List.mem_of_getElem? (i := 11) rfl)) rfl)) (xw (xc3 _ (List.mem_of_getElem? (i := 13) rfl)) rfl)) (xw (xc3 _ (List.mem_of_getElem? (i := 15) rfl)) rfl)) (xw (xc3 _ (List.mem_of_getElem? (i := 17) rfl)) rfl)
theorem xin_1 : ∀ w ∈ u_ws RX1 TX1 18, w ∈ xws := by
  intro w hw
  obtain ⟨k, hk, rfl⟩ := List.mem_map.mp hw
  exact xil_1 k (List.mem_range.mp hk)
set_option maxRecDepth 20000 in
theorem xil_2 : ∀ k, k < 5 → u_lay RX2 TX2 k ∈ xws := lt_s (lt_s (lt_s (lt_s (lt_s (fun _ h => absurd h (Nat.not_lt_zero _)) (xw (xc2 _ (List.mem_of_getElem? (i := 187) rfl)) rfl)) (xw (xc2 _ (List.mem_of_getElem? (i := 189) rfl)) rfl)) (xw (xc2 _ (List.mem_of_getElem? (i := 191) rfl)) rfl)) (xw (xc2 _ (List.mem_of_getElem? (i := 193) rfl)) rfl)) (xw (xc2 _ (List.mem_of_getElem? (i := 195) rfl)) rfl)
theorem xin_2 : ∀ w ∈ u_ws RX2 TX2 5, w ∈ xws := by
  intro w hw
  obtain ⟨k, hk, rfl⟩ := List.mem_map.mp hw
  exact xil_2 k (List.mem_range.mp hk)
set_option maxRecDepth 20000 in
theorem xil_3 : ∀ k, k < 3 → u_lay RX3 TX3 k ∈ xws := lt_s (lt_s (lt_s (fun _ h => absurd h (Nat.not_lt_zero _)) (xw (xc2 _ (List.mem_of_getElem? (i := 167) rfl)) rfl)) (xw (xc2 _ (List.mem_of_getElem? (i := 169) rfl)) rfl)) (xw (xc2 _ (List.mem_of_getElem? (i := 171) rfl)) rfl)
theorem xin_3 : ∀ w ∈ u_ws RX3 TX3 3, w ∈ xws := by
  intro w hw
  obtain ⟨k, hk, rfl⟩ := List.mem_map.mp hw
  exact xil_3 k (List.mem_range.mp hk)
set_option maxRecDepth 20000 in
theorem xil_4 : ∀ k, k < 1 → u_lay RX4 TX4 k ∈ xws := lt_s (fun _ h => absurd h (Nat.not_lt_zero _)) (xw (xc2 _ (List.mem_of_getElem? (i := 155) rfl)) rfl)
theorem xin_4 : ∀ w ∈ u_ws RX4 TX4 1, w ∈ xws := by
  intro w hw
  obtain ⟨k, hk, rfl⟩ := List.mem_map.mp hw
  exact xil_4 k (List.mem_range.mp hk)
set_option maxRecDepth 20000 in
theorem xil_5 : ∀ k, k < 12 → u_lay RX5 TX5 k ∈ xws := lt_s (lt_s (lt_s (lt_s (lt_s (lt_s (lt_s (lt_s (lt_s (lt_s (lt_s (lt_s (fun _ h => absurd h (Nat.not_lt_zero _)) (xw (xc2 _ (List.mem_of_getElem? (i := 49) rfl)) rfl)) (xw (xc2 _ (List.mem_of_getElem? (i := 51) rfl)) rfl)) (xw (xc2 _ (List.mem_of_getElem? (i := 53) rfl)) rfl)) (xw (xc2 _ (List.mem_of_getElem? (i := 55) rfl)) rfl)) (xw (xc2 _ (List.mem_of_getElem? (i := 57) rfl)) rfl)) (xw (xc2 _ (List.mem_of_getElem? (i := 59) rfl)) rfl)) (xw (xc2 _ (List.mem_of_getElem? (i := 61) rfl)) rfl)) (xw (xc2 _ (List.mem_of_getElem? (i := 63) rfl)) rfl)) (xw (xc2 _ (List.mem_of_getElem? (i := 65) rfl)) rfl)) (xw (xc2 _ (List.mem_of_getElem? (i := 67) rfl)) rfl)) (xw (xc2 _ (List.mem_of_getElem? (i := 69) rfl)) rfl)) (xw (xc2 _ (List.mem_of_getElem? (i := 71) rfl)) rfl)
theorem xin_5 : ∀ w ∈ u_ws RX5 TX5 12, w ∈ xws := by
  intro w hw
  obtain ⟨k, hk, rfl⟩ := List.mem_map.mp hw
  exact xil_5 k (List.mem_range.mp hk)
set_option maxRecDepth 20000 in
theorem xil_6 : ∀ k, k < 12 → u_lay RX6 TX6 k ∈ xws := lt_s (lt_s (lt_s (lt_s (lt_s (lt_s (lt_s (lt_s (lt_s (lt_s (lt_s (lt_s (fun _ h => absurd h (Nat.not_lt_zero _)) (xw (xc1 _ (List.mem_of_getElem? (i := 187) rfl)) rfl)) (xw (xc1 _ (List.mem_of_getElem? (i := 189) rfl)) rfl)) (xw (xc1 _ (List.mem_of_getElem? (i := 191) rfl)) rfl)) (xw (xc1 _ (List.mem_of_getElem? (i := 193) rfl)) rfl)) (xw (xc1 _ (List.mem_of_getElem? (i := 195) rfl)) rfl)) (xw (xc1 _ (List.mem_of_getElem? (i := 197) rfl)) rfl)) (xw (xc1 _ (List.mem_of_getElem? (i := 199) rfl)) rfl)) (xw (xc1 _ (List.mem_of_getElem? (i := 201) rfl)) rfl)) (xw (xc1 _ (List.mem_of_getElem? (i := 203) rfl)) rfl)) (xw (xc1 _ (List.mem_of_getElem? (i := 205) rfl)) rfl)) (xw (xc1 _ (List.mem_of_getElem? (i := 207) rfl)) rfl)) (xw (xc1 _ (List.mem_of_getElem? (i := 209) rfl)) rfl)
theorem xin_6 : ∀ w ∈ u_ws RX6 TX6 12, w ∈ xws := by
  intro w hw
  obtain ⟨k, hk, rfl⟩ := List.mem_map.mp hw
  exact xil_6 k (List.mem_range.mp hk)
set_option maxRecDepth 20000 in
theorem xil_7 : ∀ k, k < 20 → u_lay RX8 TX8 k ∈ xws := lt_s (lt_s (lt_s (lt_s (lt_s (lt_s (lt_s (lt_s (lt_s (lt_s (lt_s (lt_s (lt_s (lt_s (lt_s (lt_s (lt_s (lt_s (lt_s (lt_s (fun _ h => absurd h (Nat.not_lt_zero _)) (xw (xc2 _ (List.mem_of_getElem? (i := 107) rfl)) rfl)) (xw (xc2 _ (List.mem_of_getElem? (i := 109) rfl)) rfl)) (xw (xc2 _ (List.mem_of_getElem? (i := 111) rfl)) rfl)) (xw (xc2 _ (List.mem_of_getElem? (i := 113) rfl)) rfl)) (xw (xc2 _ (List.mem_of_getElem? (i := 115) rfl)) rfl)) (xw (xc2 _ (List.mem_of_getElem? (i := 117) rfl)) rfl)) (xw (xc2 _ (List.mem_of_getElem? (i := 119) rfl)) rfl)) (xw (xc2 _ (List.mem_of_getElem? (i := 121) rfl)) rfl)) (xw (xc2 _ (List.mem_of_getElem? (i := 123) rfl)) rfl)) (xw (xc2 _ (List.mem_of_getElem? (i := 125) rfl)) rfl)) (xw (xc2 _ (List.mem_of_getElem? (i := 127) rfl)) rfl)) (xw (xc2 _ (List.mem_of_getElem? (i := 129) rfl)) rfl)) (xw (xc2 _ (List.mem_of_getElem? (i := 131) rfl)) rfl)) (xw (xc2 _ (List.mem_of_getElem? (i := 133) rfl)) rfl)) (xw (xc2 _ (List.mem_of_getElem? (i := 135) rfl)) rfl)) (xw (xc2 _ (List.mem_of_getElem? (i := 137) rfl)) rfl)) (xw (xc2 _ (List.mem_of_getElem? (i := 139) rfl)) rfl)) (xw (xc2 _ (List.mem_of_getElem? (i := 141) rfl)) rfl)) (xw (xc2 _ (List.mem_of_getElem? (i := 143) rfl)) rfl)) (xw (xc2 _ (List.mem_of_getElem? (i := 145) rfl)) rfl)
theorem xin_7 : ∀ w ∈ u_ws RX8 TX8 20, w ∈ xws := by
  intro w hw
  obtain ⟨k, hk, rfl⟩ := List.mem_map.mp hw
  exact xil_7 k (List.mem_range.mp hk)
set_option maxRecDepth 20000 in
theorem xil_8 : ∀ k, k < 2 → u_lay RX9 TX9 k ∈ xws := lt_s (lt_s (fun _ h => absurd h (Nat.not_lt_zero _)) (xw (xc3 _ (List.mem_of_getElem? (i := 30) rfl)) rfl)) (xw (xc3 _ (List.mem_of_getElem? (i := 32) rfl)) rfl)
theorem xin_8 : ∀ w ∈ u_ws RX9 TX9 2, w ∈ xws := by
  intro w hw
  obtain ⟨k, hk, rfl⟩ := List.mem_map.mp hw
  exact xil_8 k (List.mem_range.mp hk)
set_option maxRecDepth 20000 in
theorem xil_9 : ∀ k, k < 15 → u_lay RX10 TX10 k ∈ xws := lt_s (lt_s (lt_s (lt_s (lt_s (lt_s (lt_s (lt_s (lt_s (lt_s (lt_s (lt_s (lt_s (lt_s (lt_s (fun _ h => absurd h (Nat.not_lt_zero _)) (xw (xc1 _ (List.mem_of_getElem? (i := 73) rfl)) rfl)) (xw (xc1 _ (List.mem_of_getElem? (i := 75) rfl)) rfl)) (xw (xc1 _ (List.mem_of_getElem? (i := 77) rfl)) rfl)) (xw (xc1 _ (List.mem_of_getElem? (i := 79) rfl)) rfl)) (xw (xc1 _ (List.mem_of_getElem? (i := 81) rfl)) rfl)) (xw (xc1 _ (List.mem_of_getElem? (i := 83) rfl)) rfl)) (xw (xc1 _ (List.mem_of_getElem? (i := 85) rfl)) rfl)) (xw (xc1 _ (List.mem_of_getElem? (i := 87) rfl)) rfl)) (xw (xc1 _ (List.mem_of_getElem? (i := 89) rfl)) rfl)) (xw (xc1 _ (List.mem_of_getElem? (i := 91) rfl)) rfl)) (xw (xc1 _ (List.mem_of_getElem? (i := 93) rfl)) rfl)) (xw (xc1 _ (List.mem_of_getElem? (i := 95) rfl)) rfl)) (xw (xc1 _ (List.mem_of_getElem? (i := 97) rfl)) rfl)) (xw (xc1 _ (List.mem_of_getElem? (i := 99) rfl)) rfl)) (xw (xc1 _ (List.mem_of_getElem? (i := 101) rfl)) rfl)
theorem xin_9 : ∀ w ∈ u_ws RX10 TX10 15, w ∈ xws := by
  intro w hw
  obtain ⟨k, hk, rfl⟩ := List.mem_map.mp hw
  exact xil_9 k (List.mem_range.mp hk)
set_option maxRecDepth 20000 in
theorem xil_10 : ∀ k, k < 16 → u_lay RX11 TX11 k ∈ xws := lt_s (lt_s (lt_s (lt_s (lt_s (lt_s (lt_s (lt_s (lt_s (lt_s (lt_s (lt_s (lt_s (lt_s (lt_s (lt_s (fun _ h => absurd h (Nat.not_lt_zero _)) (xw (xc3 _ (List.mem_of_getElem? (i := 89) rfl)) rfl)) (xw (xc3 _ (List.mem_of_getElem? (i := 91) rfl)) rfl)) (xw (xc3 _ (List.mem_of_getElem? (i := 93) rfl)) rfl)) (xw (xc3 _ (List.mem_of_getElem? (i := 95) rfl)) rfl)) (xw (xc3 _ (List.mem_of_getElem? (i := 97) rfl)) rfl)) (xw (xc3 _ (List.mem_of_getElem? (i := 99) rfl)) rfl)) (xw (xc3 _ (List.mem_of_getElem? (i := 101) rfl)) rfl)) (xw (xc3 _ (List.mem_of_getElem? (i := 103) rfl)) rfl)) (xw (xc3 _ (List.mem_of_getElem? (i := 105) rfl)) rfl)) (xw (xc3 _ (List.mem_of_getElem? (i := 107) rfl)) rfl)) (xw (xc3 _ (List.mem_of_getElem? (i := 109) rfl)) rfl)) (xw (xc3 _ (List.mem_of_getElem? (i := 111) rfl)) rfl)) (xw (xc3 _ (List.mem_of_getElem? (i := 113) rfl)) rfl)) (xw (xc3 _ (List.mem_of_getElem? (i := 115) rfl)) rfl)) (xw (xc3 _ (List.mem_of_getElem? (i := 117) rfl)) rfl)) (xw (xc3 _ (List.mem_of_getElem? (i := 119) rfl)) rfl)
theorem xin_10 : ∀ w ∈ u_ws RX11 TX11 16, w ∈ xws := by
  intro w hw
  obtain ⟨k, hk, rfl⟩ := List.mem_map.mp hw
  exact xil_10 k (List.mem_range.mp hk)
set_option maxRecDepth 20000 in
theorem xil_11 : ∀ k, k < 90 → u_lay RX12 TX12 k ∈ xws := lt_s (lt_s (lt_s (lt_s (lt_s (lt_s (lt_s (lt_s (lt_s (lt_s (lt_s (lt_s (lt_s (lt_s (lt_s (lt_s (lt_s (lt_s (lt_s (lt_s (lt_s (lt_s (lt_s (lt_s (lt_s (lt_s (lt_s (lt_s (lt_s (lt_s (lt_s (lt_s (lt_s (lt_s (lt_s (lt_s (lt_s (lt_s (lt_s (lt_s (lt_s (lt_s (lt_s (lt_s (lt_s (lt_s (lt_s (lt_s (lt_s (lt_s (lt_s (lt_s (lt_s (lt_s (lt_s (lt_s (lt_s (lt_s (lt_s (lt_s (lt_s (lt_s (lt_s (lt_s (lt_s (lt_s (lt_s (lt_s (lt_s (lt_s (lt_s (lt_s (lt_s (lt_s (lt_s (lt_s (lt_s (lt_s (lt_s (lt_s (lt_s (lt_s (lt_s (lt_s (lt_s (lt_s (lt_s (lt_s (lt_s (lt_s (fun _ h => absurd h (Nat.not_lt_zero _)) (xw (xc7 _ (List.mem_of_getElem? (i := 112) rfl)) rfl)) (xw (xc7 _ (List.mem_of_getElem? (i := 114) rfl)) rfl)) (xw (xc7 _ (List.mem_of_getElem? (i := 116) rfl)) rfl)) (xw (xc7 _ (List.mem_of_getElem? (i := 118) rfl)) rfl)) (xw (xc7 _ (List.mem_of_getElem? (i := 120) rfl)) rfl)) (xw (xc7 _ (List.mem_of_getElem? (i := 122) rfl)) rfl)) (xw (xc7 _ (List.mem_of_getElem? (i := 124) rfl)) rfl)) (xw (xc7 _ (List.mem_of_getElem? (i := 126) rfl)) rfl)) (xw (xc7 _ (List.mem_of_getElem? (i := 128) rfl)) rfl)) (xw (xc7 _ (List.mem_of_getElem? (i := 130) rfl)) rfl)) (xw (xc7 _ (List.mem_of_getElem? (i := 132) rfl)) rfl)) (xw (xc7 _ (List.mem_of_getElem? (i := 134) rfl)) rfl)) (xw (xc7 _ (List.mem_of_getElem? (i := 136) rfl)) rfl)) (xw (xc7 _ (List.mem_of_getElem? (i := 138) rfl)) rfl)) (xw (xc7 _ (List.mem_of_getElem? (i := 140) rfl)) rfl)) (xw (xc7 _ (List.mem_of_getElem? (i := 142) rfl)) rfl)) (xw (xc7 _ (List.mem_of_getElem? (i := 144) rfl)) rfl)) (xw (xc7 _ (List.mem_of_getElem? (i := 146) rfl)) rfl)) (xw (xc7 _ (List.mem_of_getElem? (i := 148) rfl)) rfl)) (xw (xc7 _ (List.mem_of_getElem? (i := 150) rfl)) rfl)) (xw (xc7 _ (List.mem_of_getElem? (i := 152) rfl)) rfl)) (xw (xc7 _ (List.mem_of_getElem? (i := 154) rfl)) rfl)) (xw (xc7 _ (List.mem_of_getElem? (i := 156) rfl)) rfl)) (xw (xc7 _ (List.mem_of_getElem? (i := 158) rfl)) rfl)) (xw (xc7 _ (List.mem_of_getElem? (i := 160) rfl)) rfl)) (xw (xc7 _ (List.mem_of_getElem? (i := 162) rfl)) rfl)) (xw (xc7 _ (List.mem_of_getElem? (i := 164) rfl)) rfl)) (xw (xc7 _ (List.mem_of_getElem? (i := 166) rfl)) rfl)) (xw (xc7 _ (List.mem_of_getElem? (i := 168) rfl)) rfl)) (xw (xc7 _ (List.mem_of_getElem? (i := 170) rfl)) rfl)) (xw (xc7 _ (List.mem_of_getElem? (i := 172) rfl)) rfl)) (xw (xc7 _ (List.mem_of_getElem? (i := 174) rfl)) rfl)) (xw (xc7 _ (List.mem_of_getElem? (i := 176) rfl)) rfl)) (xw (xc7 _ (List.mem_of_getElem? (i := 178) rfl)) rfl)) (xw (xc7 _ (List.mem_of_getElem? (i := 180) rfl)) rfl)) (xw (xc7 _ (List.mem_of_getElem? (i := 182) rfl)) rfl)) (xw (xc7 _ (List.mem_of_getElem? (i := 184) rfl)) rfl)) (xw (xc7 _ (List.mem_of_getElem? (i := 186) rfl)) rfl)) (xw (xc7 _ (List.mem_of_getElem? (i := 188) rfl)) rfl)) (xw (xc7 _ (List.mem_of_getElem? (i := 190) rfl)) rfl)) (xw (xc7 _ (List.mem_of_getElem? (i := 192) rfl)) rfl)) (xw (xc7 _ (List.mem_of_getElem? (i := 194) rfl)) rfl)) (xw (xc7 _ (List.mem_of_getElem? (i := 196) rfl)) rfl)) (xw (xc7 _ (List.mem_of_getElem? (i := 198) rfl)) rfl)) (xw (xc7 _ (List.mem_of_getElem? (i := 200) rfl)) rfl)) (xw (xc7 _ (List.mem_of_getElem? (i := 202) rfl)) rfl)) (xw (xc7 _ (List.mem_of_getElem? (i := 204) rfl)) rfl)) (xw (xc7 _ (List.mem_of_getElem? (i := 206) rfl)) rfl)) (xw (xc7 _ (List.mem_of_getElem? (i := 208) rfl)) rfl)) (xw (xc7 _ (List.mem_of_getElem? (i := 210) rfl)) rfl)) (xw (xc7 _ (List.mem_of_getElem? (i := 212) rfl)) rfl)) (xw (xc7 _ (List.mem_of_getElem? (i := 214) rfl)) rfl)) (xw (xc7 _ (List.mem_of_getElem? (i := 216) rfl)) rfl)) (xw (xc7 _ (List.mem_of_getElem? (i := 218) rfl)) rfl)) (xw (xc7 _ (List.mem_of_getElem? (i := 220) rfl)) rfl)) (xw (xc7 _ (List.mem_of_getElem? (i := 222) rfl)) rfl)) (xw (xc7 _ (List.mem_of_getElem? (i := 224) rfl)) rfl)) (xw (xc7 _ (List.mem_of_getElem? (i := 226) rfl)) rfl)) (xw (xc7 _ (List.mem_of_getElem? (i := 228) rfl)) rfl)) (xw (xc7 _ (List.mem_of_getElem? (i := 230) rfl)) rfl)) (xw (xc7 _ (List.mem_of_getElem? (i := 232) rfl)) rfl)) (xw (xc7 _ (List.mem_of_getElem? (i := 234) rfl)) rfl)) (xw (xc7 _ (List.mem_of_getElem? (i := 236) rfl)) rfl)) (xw (xc7 _ (List.mem_of_getElem? (i := 238) rfl)) rfl)) (xw (xc8 _ (List.mem_of_getElem? (i := 0) rfl)) rfl)) (xw (xc8 _ (List.mem_of_getElem? (i := 2) rfl)) rfl)) (xw (xc8 _ (List.mem_of_getElem? (i := 4) rfl)) rfl)) (xw (xc8 _ (List.mem_of_getElem? (i := 6) rfl)) rfl)) (xw (xc8 _ (List.mem_of_getElem? (i := 8) rfl)) rfl)) (xw (xc8 _ (List.mem_of_getElem? (i := 10) rfl)) rfl)) (xw (xc8 _ (List.mem_of_getElem? (i := 12) rfl)) rfl)) (xw (xc8 _ (List.mem_of_getElem? (i := 14) rfl)) rfl)) (xw (xc8 _ (List.mem_of_getElem? (i := 16) rfl)) rfl)) (xw (xc8 _ (List.mem_of_getElem? (i := 18) rfl)) rfl)) (xw (xc8 _ (List.mem_of_getElem? (i := 20) rfl)) rfl)) (xw (xc8 _ (List.mem_of_getElem? (i := 22) rfl)) rfl)) (xw (xc8 _ (List.mem_of_getElem? (i := 24) rfl)) rfl)) (xw (xc8 _ (List.mem_of_getElem? (i := 26) rfl)) rfl)) (xw (xc8 _ (List.mem_of_getElem? (i := 28) rfl)) rfl)) (xw (xc8 _ (List.mem_of_getElem? (i := 30) rfl)) rfl)) (xw (xc8 _ (List.mem_of_getElem? (i := 32) rfl)) rfl)) (xw (xc8 _ (List.mem_of_getElem? (i := 34) rfl)) rfl)) (xw (xc8 _ (List.mem_of_getElem? (i := 36) rfl)) rfl)) (xw (xc8 _ (List.mem_of_getElem? (i := 38) rfl)) rfl)) (xw (xc8 _ (List.mem_of_getElem? (i := 40) rfl)) rfl)) (xw (xc8 _ (List.mem_of_getElem? (i := 42) rfl)) rfl)) (xw (xc8 _ (List.mem_of_getElem? (i := 44) rfl)) rfl)) (xw (xc8 _ (List.mem_of_getElem? (i := 46) rfl)) rfl)) (xw (xc8 _ (List.mem_of_getElem? (i := 48) rfl)) rfl)) (xw (xc8 _ (List.mem_of_getElem? (i := 50) rfl)) rfl)
theorem xin_11 : ∀ w ∈ u_ws RX12 TX12 90, w ∈ xws := by
  intro w hw
  obtain ⟨k, hk, rfl⟩ := List.mem_map.mp hw
  exact xil_11 k (List.mem_range.mp hk)
theorem xin (c : Nat) (hc : c < 12) : xCL[c]? = some (xNm c, xTT c, xNf c) ∧ (∀ w ∈ u_ws (xNm c) (xTT c) (xNf c), w ∈ xws) ∧ (∀ k, k < xNf c → parseFieldDescriptor (xTT c k).2.2.1 = some (xFt c k)) ∧ (∀ a, a < xNf c → ∀ b, b < xNf c → a ≠ b → (xTT c a).2.1 ≠ (xTT c b).2.1) := by
  match c, hc with
  | 0, _ => exact ⟨rfl, xin_0, tyX0_ok, nmX0⟩
  | 1, _ => exact ⟨rfl, xin_1, tyX1_ok, nmX1⟩
  | 2, _ => exact ⟨rfl, xin_2, tyX2_ok, nmX2⟩
  | 3, _ => exact ⟨rfl, xin_3, tyX3_ok, nmX3⟩
  | 4, _ => exact ⟨rfl, xin_4, tyX4_ok, nmX4⟩
  | 5, _ => exact ⟨rfl, xin_5, tyX5_ok, nmX5⟩
  | 6, _ => exact ⟨rfl, xin_6, tyX6_ok, nmX6⟩
  | 7, _ => exact ⟨rfl, xin_7, tyX8_ok, nmX8⟩
  | 8, _ => exact ⟨rfl, xin_8, tyX9_ok, nmX9⟩
  | 9, _ => exact ⟨rfl, xin_9, tyX10_ok, nmX10⟩
  | 10, _ => exact ⟨rfl, xin_10, tyX11_ok, nmX11⟩
  | 11, _ => exact ⟨rfl, xin_11, tyX12_ok, nmX12⟩
  | c + 12, hc => exact absurd hc (by omega)
def xMok (y : xMI) : Prop := Cond.code y.1 y.2.1 y.2.2.1 y.2.2.2.1 ∈ xws ∧ Cond.initialized y.1.cls ∈ xws ∧ (y.1.cls ≠ "java/lang/invoke/MethodHandle" ∧ y.1.cls ≠ "java/lang/invoke/VarHandle") ∧ plainName y.1.cls = true ∧ y.2.2.1 ≤ 70 ∧ y.1.cls = xNm y.2.2.2.2 ∧ y.2.2.2.2 < 16
def xCok (own : Nat) (e : Nat × Nat × xMI × Nat) : Prop := xMok e.2.2.1 ∧ (parseMethodDescriptor e.2.2.1.1.desc).map (fun d => d.parameters.length) = some e.2.2.2 ∧ ((e.2.1 = 0 ∧ Cond.methodLink (xNm own) e.1 e.2.2.1.1 ∈ xws ∧ Cond.static e.2.2.1.1 ∈ xws) ∨ (e.2.1 = 1 ∧ Cond.methodLink (xNm own) e.1 e.2.2.1.1 ∈ xws ∧ Cond.instanceMethod e.2.2.1.1 ∈ xws ∧ e.2.2.1.1.name = "<init>" ∧ e.2.2.1.2.2.2.1 = none ∧ e.2.2.1.2.2.2.2 < 12) ∨ (e.2.1 = 2 ∧ Cond.methodLink (xNm own) e.1 e.2.2.1.1 ∈ xws ∧ Cond.instanceMethod e.2.2.1.1 ∈ xws ∧ Cond.selects (xNm e.2.2.1.2.2.2.2) e.2.2.1.1 e.2.2.1.1 ∈ xws ∧ e.2.2.1.2.2.2.2 < 12) ∨ (e.2.1 = 3 ∧ Cond.methodLinkNest (xNm own) e.1 e.2.2.1.1 "HeavierRow" ∈ lw_tbl ∧ Cond.instanceMethod e.2.2.1.1 ∈ xws ∧ e.2.2.1.1.name = "<init>" ∧ e.2.2.1.2.2.2.1 = none ∧ e.2.2.1.2.2.2.2 < 12))
set_option maxRecDepth 20000 in
theorem xok_mX11_init : xMok mX11_init := ⟨xw (xc1 _ (List.mem_of_getElem? (i := 25) rfl)) rfl, xw (xc1 _ (List.mem_of_getElem? (i := 1) rfl)) rfl, ⟨by decide +kernel, by decide +kernel⟩, by decide +kernel, Nat.le_of_ble_eq_true rfl, rfl, Nat.le_of_ble_eq_true rfl⟩
set_option maxRecDepth 20000 in
theorem xok_mX11_feed : xMok mX11_feed := ⟨xw (xc3 _ (List.mem_of_getElem? (i := 125) rfl)) rfl, xw (xc1 _ (List.mem_of_getElem? (i := 1) rfl)) rfl, ⟨by decide +kernel, by decide +kernel⟩, by decide +kernel, Nat.le_of_ble_eq_true rfl, rfl, Nat.le_of_ble_eq_true rfl⟩
set_option maxRecDepth 20000 in
theorem xok_mX11_end : xMok mX11_end := ⟨xw (xc3 _ (List.mem_of_getElem? (i := 133) rfl)) rfl, xw (xc1 _ (List.mem_of_getElem? (i := 1) rfl)) rfl, ⟨by decide +kernel, by decide +kernel⟩, by decide +kernel, Nat.le_of_ble_eq_true rfl, rfl, Nat.le_of_ble_eq_true rfl⟩
set_option maxRecDepth 20000 in
theorem xok_mX11_street : xMok mX11_street := ⟨xw (xc3 _ (List.mem_of_getElem? (i := 137) rfl)) rfl, xw (xc1 _ (List.mem_of_getElem? (i := 1) rfl)) rfl, ⟨by decide +kernel, by decide +kernel⟩, by decide +kernel, Nat.le_of_ble_eq_true rfl, rfl, Nat.le_of_ble_eq_true rfl⟩
set_option maxRecDepth 20000 in
theorem xok_mX11_fault : xMok mX11_fault := ⟨xw (xc4 _ (List.mem_of_getElem? (i := 53) rfl)) rfl, xw (xc1 _ (List.mem_of_getElem? (i := 1) rfl)) rfl, ⟨by decide +kernel, by decide +kernel⟩, by decide +kernel, Nat.le_of_ble_eq_true rfl, rfl, Nat.le_of_ble_eq_true rfl⟩
set_option maxRecDepth 20000 in
theorem xok_mX11_weigh : xMok mX11_weigh := ⟨xw (xc4 _ (List.mem_of_getElem? (i := 57) rfl)) rfl, xw (xc1 _ (List.mem_of_getElem? (i := 1) rfl)) rfl, ⟨by decide +kernel, by decide +kernel⟩, by decide +kernel, Nat.le_of_ble_eq_true rfl, rfl, Nat.le_of_ble_eq_true rfl⟩
set_option maxRecDepth 20000 in
theorem xok_mX11_told : xMok mX11_told := ⟨xw (xc4 _ (List.mem_of_getElem? (i := 88) rfl)) rfl, xw (xc1 _ (List.mem_of_getElem? (i := 1) rfl)) rfl, ⟨by decide +kernel, by decide +kernel⟩, by decide +kernel, Nat.le_of_ble_eq_true rfl, rfl, Nat.le_of_ble_eq_true rfl⟩
set_option maxRecDepth 20000 in
theorem xok_mX11_weighing : xMok mX11_weighing := ⟨xw (xc4 _ (List.mem_of_getElem? (i := 92) rfl)) rfl, xw (xc1 _ (List.mem_of_getElem? (i := 1) rfl)) rfl, ⟨by decide +kernel, by decide +kernel⟩, by decide +kernel, Nat.le_of_ble_eq_true rfl, rfl, Nat.le_of_ble_eq_true rfl⟩
set_option maxRecDepth 20000 in
theorem xok_mX11_wet : xMok mX11_wet := ⟨xw (xc4 _ (List.mem_of_getElem? (i := 108) rfl)) rfl, xw (xc1 _ (List.mem_of_getElem? (i := 1) rfl)) rfl, ⟨by decide +kernel, by decide +kernel⟩, by decide +kernel, Nat.le_of_ble_eq_true rfl, rfl, Nat.le_of_ble_eq_true rfl⟩
set_option maxRecDepth 20000 in
theorem xok_mX11_untell : xMok mX11_untell := ⟨xw (xc4 _ (List.mem_of_getElem? (i := 120) rfl)) rfl, xw (xc1 _ (List.mem_of_getElem? (i := 1) rfl)) rfl, ⟨by decide +kernel, by decide +kernel⟩, by decide +kernel, Nat.le_of_ble_eq_true rfl, rfl, Nat.le_of_ble_eq_true rfl⟩
set_option maxRecDepth 20000 in
theorem xok_mX11_later : xMok mX11_later := ⟨xw (xc4 _ (List.mem_of_getElem? (i := 128) rfl)) rfl, xw (xc1 _ (List.mem_of_getElem? (i := 1) rfl)) rfl, ⟨by decide +kernel, by decide +kernel⟩, by decide +kernel, Nat.le_of_ble_eq_true rfl, rfl, Nat.le_of_ble_eq_true rfl⟩
set_option maxRecDepth 20000 in
theorem xok_mX11_left : xMok mX11_left := ⟨xw (xc4 _ (List.mem_of_getElem? (i := 137) rfl)) rfl, xw (xc1 _ (List.mem_of_getElem? (i := 1) rfl)) rfl, ⟨by decide +kernel, by decide +kernel⟩, by decide +kernel, Nat.le_of_ble_eq_true rfl, rfl, Nat.le_of_ble_eq_true rfl⟩
set_option maxRecDepth 20000 in
theorem xok_mX11_struck : xMok mX11_struck := ⟨xw (xc4 _ (List.mem_of_getElem? (i := 199) rfl)) rfl, xw (xc1 _ (List.mem_of_getElem? (i := 1) rfl)) rfl, ⟨by decide +kernel, by decide +kernel⟩, by decide +kernel, Nat.le_of_ble_eq_true rfl, rfl, Nat.le_of_ble_eq_true rfl⟩
set_option maxRecDepth 20000 in
theorem xok_mX11_place : xMok mX11_place := ⟨xw (xc4 _ (List.mem_of_getElem? (i := 216) rfl)) rfl, xw (xc1 _ (List.mem_of_getElem? (i := 1) rfl)) rfl, ⟨by decide +kernel, by decide +kernel⟩, by decide +kernel, Nat.le_of_ble_eq_true rfl, rfl, Nat.le_of_ble_eq_true rfl⟩
set_option maxRecDepth 20000 in
theorem xok_mX11_stand : xMok mX11_stand := ⟨xw (xc4 _ (List.mem_of_getElem? (i := 236) rfl)) rfl, xw (xc1 _ (List.mem_of_getElem? (i := 1) rfl)) rfl, ⟨by decide +kernel, by decide +kernel⟩, by decide +kernel, Nat.le_of_ble_eq_true rfl, rfl, Nat.le_of_ble_eq_true rfl⟩
set_option maxRecDepth 20000 in
theorem xok_mX11_surely : xMok mX11_surely := ⟨xw (xc5 _ (List.mem_of_getElem? (i := 8) rfl)) rfl, xw (xc1 _ (List.mem_of_getElem? (i := 1) rfl)) rfl, ⟨by decide +kernel, by decide +kernel⟩, by decide +kernel, Nat.le_of_ble_eq_true rfl, rfl, Nat.le_of_ble_eq_true rfl⟩
set_option maxRecDepth 20000 in
theorem xok_mX11_fewest : xMok mX11_fewest := ⟨xw (xc5 _ (List.mem_of_getElem? (i := 21) rfl)) rfl, xw (xc1 _ (List.mem_of_getElem? (i := 1) rfl)) rfl, ⟨by decide +kernel, by decide +kernel⟩, by decide +kernel, Nat.le_of_ble_eq_true rfl, rfl, Nat.le_of_ble_eq_true rfl⟩
set_option maxRecDepth 20000 in
theorem xok_mX11_next : xMok mX11_next := ⟨xw (xc5 _ (List.mem_of_getElem? (i := 145) rfl)) rfl, xw (xc1 _ (List.mem_of_getElem? (i := 1) rfl)) rfl, ⟨by decide +kernel, by decide +kernel⟩, by decide +kernel, Nat.le_of_ble_eq_true rfl, rfl, Nat.le_of_ble_eq_true rfl⟩
set_option maxRecDepth 20000 in
theorem xok_mX11_total : xMok mX11_total := ⟨xw (xc5 _ (List.mem_of_getElem? (i := 154) rfl)) rfl, xw (xc1 _ (List.mem_of_getElem? (i := 1) rfl)) rfl, ⟨by decide +kernel, by decide +kernel⟩, by decide +kernel, Nat.le_of_ble_eq_true rfl, rfl, Nat.le_of_ble_eq_true rfl⟩
set_option maxRecDepth 20000 in
theorem xok_mX11_atOnce : xMok mX11_atOnce := ⟨xw (xc5 _ (List.mem_of_getElem? (i := 177) rfl)) rfl, xw (xc1 _ (List.mem_of_getElem? (i := 1) rfl)) rfl, ⟨by decide +kernel, by decide +kernel⟩, by decide +kernel, Nat.le_of_ble_eq_true rfl, rfl, Nat.le_of_ble_eq_true rfl⟩
set_option maxRecDepth 20000 in
theorem xok_mX11_answers : xMok mX11_answers := ⟨xw (xc5 _ (List.mem_of_getElem? (i := 195) rfl)) rfl, xw (xc1 _ (List.mem_of_getElem? (i := 1) rfl)) rfl, ⟨by decide +kernel, by decide +kernel⟩, by decide +kernel, Nat.le_of_ble_eq_true rfl, rfl, Nat.le_of_ble_eq_true rfl⟩
set_option maxRecDepth 20000 in
theorem xok_mX11_judged : xMok mX11_judged := ⟨xw (xc5 _ (List.mem_of_getElem? (i := 203) rfl)) rfl, xw (xc1 _ (List.mem_of_getElem? (i := 1) rfl)) rfl, ⟨by decide +kernel, by decide +kernel⟩, by decide +kernel, Nat.le_of_ble_eq_true rfl, rfl, Nat.le_of_ble_eq_true rfl⟩
set_option maxRecDepth 20000 in
theorem xok_mX11_trusty : xMok mX11_trusty := ⟨xw (xc5 _ (List.mem_of_getElem? (i := 232) rfl)) rfl, xw (xc1 _ (List.mem_of_getElem? (i := 1) rfl)) rfl, ⟨by decide +kernel, by decide +kernel⟩, by decide +kernel, Nat.le_of_ble_eq_true rfl, rfl, Nat.le_of_ble_eq_true rfl⟩
set_option maxRecDepth 20000 in
theorem xok_mX11_odds : xMok mX11_odds := ⟨xw (xc6 _ (List.mem_of_getElem? (i := 23) rfl)) rfl, xw (xc1 _ (List.mem_of_getElem? (i := 1) rfl)) rfl, ⟨by decide +kernel, by decide +kernel⟩, by decide +kernel, Nat.le_of_ble_eq_true rfl, rfl, Nat.le_of_ble_eq_true rfl⟩
set_option maxRecDepth 20000 in
theorem xok_mX11_evenest : xMok mX11_evenest := ⟨xw (xc6 _ (List.mem_of_getElem? (i := 31) rfl)) rfl, xw (xc1 _ (List.mem_of_getElem? (i := 1) rfl)) rfl, ⟨by decide +kernel, by decide +kernel⟩, by decide +kernel, Nat.le_of_ble_eq_true rfl, rfl, Nat.le_of_ble_eq_true rfl⟩
set_option maxRecDepth 20000 in
theorem xok_mX11_covers : xMok mX11_covers := ⟨xw (xc6 _ (List.mem_of_getElem? (i := 40) rfl)) rfl, xw (xc1 _ (List.mem_of_getElem? (i := 1) rfl)) rfl, ⟨by decide +kernel, by decide +kernel⟩, by decide +kernel, Nat.le_of_ble_eq_true rfl, rfl, Nat.le_of_ble_eq_true rfl⟩
set_option maxRecDepth 20000 in
theorem xok_mX11_sits : xMok mX11_sits := ⟨xw (xc6 _ (List.mem_of_getElem? (i := 49) rfl)) rfl, xw (xc1 _ (List.mem_of_getElem? (i := 1) rfl)) rfl, ⟨by decide +kernel, by decide +kernel⟩, by decide +kernel, Nat.le_of_ble_eq_true rfl, rfl, Nat.le_of_ble_eq_true rfl⟩
set_option maxRecDepth 20000 in
theorem xok_mX11_led : xMok mX11_led := ⟨xw (xc6 _ (List.mem_of_getElem? (i := 57) rfl)) rfl, xw (xc1 _ (List.mem_of_getElem? (i := 1) rfl)) rfl, ⟨by decide +kernel, by decide +kernel⟩, by decide +kernel, Nat.le_of_ble_eq_true rfl, rfl, Nat.le_of_ble_eq_true rfl⟩
set_option maxRecDepth 20000 in
theorem xok_mX11_doubts : xMok mX11_doubts := ⟨xw (xc6 _ (List.mem_of_getElem? (i := 65) rfl)) rfl, xw (xc1 _ (List.mem_of_getElem? (i := 1) rfl)) rfl, ⟨by decide +kernel, by decide +kernel⟩, by decide +kernel, Nat.le_of_ble_eq_true rfl, rfl, Nat.le_of_ble_eq_true rfl⟩
set_option maxRecDepth 20000 in
theorem xok_mX11_twins : xMok mX11_twins := ⟨xw (xc6 _ (List.mem_of_getElem? (i := 74) rfl)) rfl, xw (xc1 _ (List.mem_of_getElem? (i := 1) rfl)) rfl, ⟨by decide +kernel, by decide +kernel⟩, by decide +kernel, Nat.le_of_ble_eq_true rfl, rfl, Nat.le_of_ble_eq_true rfl⟩
set_option maxRecDepth 20000 in
theorem xok_mX11_ladder : xMok mX11_ladder := ⟨xw (xc6 _ (List.mem_of_getElem? (i := 78) rfl)) rfl, xw (xc1 _ (List.mem_of_getElem? (i := 1) rfl)) rfl, ⟨by decide +kernel, by decide +kernel⟩, by decide +kernel, Nat.le_of_ble_eq_true rfl, rfl, Nat.le_of_ble_eq_true rfl⟩
set_option maxRecDepth 20000 in
theorem xok_mX11_bound : xMok mX11_bound := ⟨xw (xc6 _ (List.mem_of_getElem? (i := 91) rfl)) rfl, xw (xc1 _ (List.mem_of_getElem? (i := 1) rfl)) rfl, ⟨by decide +kernel, by decide +kernel⟩, by decide +kernel, Nat.le_of_ble_eq_true rfl, rfl, Nat.le_of_ble_eq_true rfl⟩
set_option maxRecDepth 20000 in
theorem xok_mX11_swapped : xMok mX11_swapped := ⟨xw (xc6 _ (List.mem_of_getElem? (i := 96) rfl)) rfl, xw (xc1 _ (List.mem_of_getElem? (i := 1) rfl)) rfl, ⟨by decide +kernel, by decide +kernel⟩, by decide +kernel, Nat.le_of_ble_eq_true rfl, rfl, Nat.le_of_ble_eq_true rfl⟩
set_option maxRecDepth 20000 in
theorem xok_mX11_clerk : xMok mX11_clerk := ⟨xw (xc6 _ (List.mem_of_getElem? (i := 105) rfl)) rfl, xw (xc1 _ (List.mem_of_getElem? (i := 1) rfl)) rfl, ⟨by decide +kernel, by decide +kernel⟩, by decide +kernel, Nat.le_of_ble_eq_true rfl, rfl, Nat.le_of_ble_eq_true rfl⟩
set_option maxRecDepth 20000 in
theorem xok_mX11_weights : xMok mX11_weights := ⟨xw (xc6 _ (List.mem_of_getElem? (i := 110) rfl)) rfl, xw (xc1 _ (List.mem_of_getElem? (i := 1) rfl)) rfl, ⟨by decide +kernel, by decide +kernel⟩, by decide +kernel, Nat.le_of_ble_eq_true rfl, rfl, Nat.le_of_ble_eq_true rfl⟩
set_option maxRecDepth 20000 in
theorem xok_mX11_weight : xMok mX11_weight := ⟨xw (xc6 _ (List.mem_of_getElem? (i := 178) rfl)) rfl, xw (xc1 _ (List.mem_of_getElem? (i := 1) rfl)) rfl, ⟨by decide +kernel, by decide +kernel⟩, by decide +kernel, Nat.le_of_ble_eq_true rfl, rfl, Nat.le_of_ble_eq_true rfl⟩
set_option maxRecDepth 20000 in
theorem xok_mX11_could : xMok mX11_could := ⟨xw (xc6 _ (List.mem_of_getElem? (i := 186) rfl)) rfl, xw (xc1 _ (List.mem_of_getElem? (i := 1) rfl)) rfl, ⟨by decide +kernel, by decide +kernel⟩, by decide +kernel, Nat.le_of_ble_eq_true rfl, rfl, Nat.le_of_ble_eq_true rfl⟩
set_option maxRecDepth 20000 in
theorem xok_mX11_stones : xMok mX11_stones := ⟨xw (xc6 _ (List.mem_of_getElem? (i := 198) rfl)) rfl, xw (xc1 _ (List.mem_of_getElem? (i := 1) rfl)) rfl, ⟨by decide +kernel, by decide +kernel⟩, by decide +kernel, Nat.le_of_ble_eq_true rfl, rfl, Nat.le_of_ble_eq_true rfl⟩
set_option maxRecDepth 20000 in
theorem xok_mX11_heaps : xMok mX11_heaps := ⟨xw (xc6 _ (List.mem_of_getElem? (i := 211) rfl)) rfl, xw (xc1 _ (List.mem_of_getElem? (i := 1) rfl)) rfl, ⟨by decide +kernel, by decide +kernel⟩, by decide +kernel, Nat.le_of_ble_eq_true rfl, rfl, Nat.le_of_ble_eq_true rfl⟩
set_option maxRecDepth 20000 in
theorem xok_mX11_lies : xMok mX11_lies := ⟨xw (xc6 _ (List.mem_of_getElem? (i := 223) rfl)) rfl, xw (xc1 _ (List.mem_of_getElem? (i := 1) rfl)) rfl, ⟨by decide +kernel, by decide +kernel⟩, by decide +kernel, Nat.le_of_ble_eq_true rfl, rfl, Nat.le_of_ble_eq_true rfl⟩
set_option maxRecDepth 20000 in
theorem xok_mX11_image : xMok mX11_image := ⟨xw (xc6 _ (List.mem_of_getElem? (i := 227) rfl)) rfl, xw (xc1 _ (List.mem_of_getElem? (i := 1) rfl)) rfl, ⟨by decide +kernel, by decide +kernel⟩, by decide +kernel, Nat.le_of_ble_eq_true rfl, rfl, Nat.le_of_ble_eq_true rfl⟩
set_option maxRecDepth 20000 in
theorem xok_mX11_back : xMok mX11_back := ⟨xw (xc6 _ (List.mem_of_getElem? (i := 235) rfl)) rfl, xw (xc1 _ (List.mem_of_getElem? (i := 1) rfl)) rfl, ⟨by decide +kernel, by decide +kernel⟩, by decide +kernel, Nat.le_of_ble_eq_true rfl, rfl, Nat.le_of_ble_eq_true rfl⟩
set_option maxRecDepth 20000 in
theorem xok_mX11_about : xMok mX11_about := ⟨xw (xc6 _ (List.mem_of_getElem? (i := 239) rfl)) rfl, xw (xc1 _ (List.mem_of_getElem? (i := 1) rfl)) rfl, ⟨by decide +kernel, by decide +kernel⟩, by decide +kernel, Nat.le_of_ble_eq_true rfl, rfl, Nat.le_of_ble_eq_true rfl⟩
set_option maxRecDepth 20000 in
theorem xok_mX12_init : xMok mX12_init := ⟨xw (xc7 _ (List.mem_of_getElem? (i := 4) rfl)) rfl, xw (xc1 _ (List.mem_of_getElem? (i := 18) rfl)) rfl, ⟨by decide +kernel, by decide +kernel⟩, by decide +kernel, Nat.le_of_ble_eq_true rfl, rfl, Nat.le_of_ble_eq_true rfl⟩
set_option maxRecDepth 20000 in
theorem xok_mX12_street : xMok mX12_street := ⟨xw (xc8 _ (List.mem_of_getElem? (i := 57) rfl)) rfl, xw (xc1 _ (List.mem_of_getElem? (i := 18) rfl)) rfl, ⟨by decide +kernel, by decide +kernel⟩, by decide +kernel, Nat.le_of_ble_eq_true rfl, rfl, Nat.le_of_ble_eq_true rfl⟩
set_option maxRecDepth 20000 in
theorem xok_mX12_fault : xMok mX12_fault := ⟨xw (xc8 _ (List.mem_of_getElem? (i := 161) rfl)) rfl, xw (xc1 _ (List.mem_of_getElem? (i := 18) rfl)) rfl, ⟨by decide +kernel, by decide +kernel⟩, by decide +kernel, Nat.le_of_ble_eq_true rfl, rfl, Nat.le_of_ble_eq_true rfl⟩
set_option maxRecDepth 20000 in
theorem xok_mX12_clerk : xMok mX12_clerk := ⟨xw (xc8 _ (List.mem_of_getElem? (i := 165) rfl)) rfl, xw (xc1 _ (List.mem_of_getElem? (i := 18) rfl)) rfl, ⟨by decide +kernel, by decide +kernel⟩, by decide +kernel, Nat.le_of_ble_eq_true rfl, rfl, Nat.le_of_ble_eq_true rfl⟩
set_option maxRecDepth 20000 in
theorem xok_mX12_weigh : xMok mX12_weigh := ⟨xw (xc8 _ (List.mem_of_getElem? (i := 172) rfl)) rfl, xw (xc1 _ (List.mem_of_getElem? (i := 18) rfl)) rfl, ⟨by decide +kernel, by decide +kernel⟩, by decide +kernel, Nat.le_of_ble_eq_true rfl, rfl, Nat.le_of_ble_eq_true rfl⟩
set_option maxRecDepth 20000 in
theorem xok_mX12_told : xMok mX12_told := ⟨xw (xc8 _ (List.mem_of_getElem? (i := 188) rfl)) rfl, xw (xc1 _ (List.mem_of_getElem? (i := 18) rfl)) rfl, ⟨by decide +kernel, by decide +kernel⟩, by decide +kernel, Nat.le_of_ble_eq_true rfl, rfl, Nat.le_of_ble_eq_true rfl⟩
set_option maxRecDepth 20000 in
theorem xok_mX12_weighing : xMok mX12_weighing := ⟨xw (xc8 _ (List.mem_of_getElem? (i := 192) rfl)) rfl, xw (xc1 _ (List.mem_of_getElem? (i := 18) rfl)) rfl, ⟨by decide +kernel, by decide +kernel⟩, by decide +kernel, Nat.le_of_ble_eq_true rfl, rfl, Nat.le_of_ble_eq_true rfl⟩
set_option maxRecDepth 20000 in
theorem xok_mX12_wet : xMok mX12_wet := ⟨xw (xc8 _ (List.mem_of_getElem? (i := 196) rfl)) rfl, xw (xc1 _ (List.mem_of_getElem? (i := 18) rfl)) rfl, ⟨by decide +kernel, by decide +kernel⟩, by decide +kernel, Nat.le_of_ble_eq_true rfl, rfl, Nat.le_of_ble_eq_true rfl⟩
set_option maxRecDepth 20000 in
theorem xok_mX12_untell : xMok mX12_untell := ⟨xw (xc8 _ (List.mem_of_getElem? (i := 200) rfl)) rfl, xw (xc1 _ (List.mem_of_getElem? (i := 18) rfl)) rfl, ⟨by decide +kernel, by decide +kernel⟩, by decide +kernel, Nat.le_of_ble_eq_true rfl, rfl, Nat.le_of_ble_eq_true rfl⟩
set_option maxRecDepth 20000 in
theorem xok_mX12_later : xMok mX12_later := ⟨xw (xc8 _ (List.mem_of_getElem? (i := 204) rfl)) rfl, xw (xc1 _ (List.mem_of_getElem? (i := 18) rfl)) rfl, ⟨by decide +kernel, by decide +kernel⟩, by decide +kernel, Nat.le_of_ble_eq_true rfl, rfl, Nat.le_of_ble_eq_true rfl⟩
set_option maxRecDepth 20000 in
theorem xok_mX12_lies : xMok mX12_lies := ⟨xw (xc8 _ (List.mem_of_getElem? (i := 209) rfl)) rfl, xw (xc1 _ (List.mem_of_getElem? (i := 18) rfl)) rfl, ⟨by decide +kernel, by decide +kernel⟩, by decide +kernel, Nat.le_of_ble_eq_true rfl, rfl, Nat.le_of_ble_eq_true rfl⟩
set_option maxRecDepth 20000 in
theorem xok_mX12_left : xMok mX12_left := ⟨xw (xc8 _ (List.mem_of_getElem? (i := 213) rfl)) rfl, xw (xc1 _ (List.mem_of_getElem? (i := 18) rfl)) rfl, ⟨by decide +kernel, by decide +kernel⟩, by decide +kernel, Nat.le_of_ble_eq_true rfl, rfl, Nat.le_of_ble_eq_true rfl⟩
set_option maxRecDepth 20000 in
theorem xok_mX12_struck : xMok mX12_struck := ⟨xw (xc9 _ (List.mem_of_getElem? (i := 7) rfl)) rfl, xw (xc1 _ (List.mem_of_getElem? (i := 18) rfl)) rfl, ⟨by decide +kernel, by decide +kernel⟩, by decide +kernel, Nat.le_of_ble_eq_true rfl, rfl, Nat.le_of_ble_eq_true rfl⟩
set_option maxRecDepth 20000 in
theorem xok_mX12_place : xMok mX12_place := ⟨xw (xc9 _ (List.mem_of_getElem? (i := 11) rfl)) rfl, xw (xc1 _ (List.mem_of_getElem? (i := 18) rfl)) rfl, ⟨by decide +kernel, by decide +kernel⟩, by decide +kernel, Nat.le_of_ble_eq_true rfl, rfl, Nat.le_of_ble_eq_true rfl⟩
set_option maxRecDepth 20000 in
theorem xok_mX12_stand : xMok mX12_stand := ⟨xw (xc9 _ (List.mem_of_getElem? (i := 27) rfl)) rfl, xw (xc1 _ (List.mem_of_getElem? (i := 18) rfl)) rfl, ⟨by decide +kernel, by decide +kernel⟩, by decide +kernel, Nat.le_of_ble_eq_true rfl, rfl, Nat.le_of_ble_eq_true rfl⟩
set_option maxRecDepth 20000 in
theorem xok_mX12_surely : xMok mX12_surely := ⟨xw (xc9 _ (List.mem_of_getElem? (i := 31) rfl)) rfl, xw (xc1 _ (List.mem_of_getElem? (i := 18) rfl)) rfl, ⟨by decide +kernel, by decide +kernel⟩, by decide +kernel, Nat.le_of_ble_eq_true rfl, rfl, Nat.le_of_ble_eq_true rfl⟩
set_option maxRecDepth 20000 in
theorem xok_mX12_fewest : xMok mX12_fewest := ⟨xw (xc9 _ (List.mem_of_getElem? (i := 47) rfl)) rfl, xw (xc1 _ (List.mem_of_getElem? (i := 18) rfl)) rfl, ⟨by decide +kernel, by decide +kernel⟩, by decide +kernel, Nat.le_of_ble_eq_true rfl, rfl, Nat.le_of_ble_eq_true rfl⟩
set_option maxRecDepth 20000 in
theorem xok_mX12_next : xMok mX12_next := ⟨xw (xc9 _ (List.mem_of_getElem? (i := 123) rfl)) rfl, xw (xc1 _ (List.mem_of_getElem? (i := 18) rfl)) rfl, ⟨by decide +kernel, by decide +kernel⟩, by decide +kernel, Nat.le_of_ble_eq_true rfl, rfl, Nat.le_of_ble_eq_true rfl⟩
set_option maxRecDepth 20000 in
theorem xok_mX12_total : xMok mX12_total := ⟨xw (xc9 _ (List.mem_of_getElem? (i := 131) rfl)) rfl, xw (xc1 _ (List.mem_of_getElem? (i := 18) rfl)) rfl, ⟨by decide +kernel, by decide +kernel⟩, by decide +kernel, Nat.le_of_ble_eq_true rfl, rfl, Nat.le_of_ble_eq_true rfl⟩
set_option maxRecDepth 20000 in
theorem xok_mX12_answers : xMok mX12_answers := ⟨xw (xc9 _ (List.mem_of_getElem? (i := 135) rfl)) rfl, xw (xc1 _ (List.mem_of_getElem? (i := 18) rfl)) rfl, ⟨by decide +kernel, by decide +kernel⟩, by decide +kernel, Nat.le_of_ble_eq_true rfl, rfl, Nat.le_of_ble_eq_true rfl⟩
set_option maxRecDepth 20000 in
theorem xok_mX12_judged : xMok mX12_judged := ⟨xw (xc9 _ (List.mem_of_getElem? (i := 143) rfl)) rfl, xw (xc1 _ (List.mem_of_getElem? (i := 18) rfl)) rfl, ⟨by decide +kernel, by decide +kernel⟩, by decide +kernel, Nat.le_of_ble_eq_true rfl, rfl, Nat.le_of_ble_eq_true rfl⟩
set_option maxRecDepth 20000 in
theorem xok_mX12_atOnce : xMok mX12_atOnce := ⟨xw (xc9 _ (List.mem_of_getElem? (i := 151) rfl)) rfl, xw (xc1 _ (List.mem_of_getElem? (i := 18) rfl)) rfl, ⟨by decide +kernel, by decide +kernel⟩, by decide +kernel, Nat.le_of_ble_eq_true rfl, rfl, Nat.le_of_ble_eq_true rfl⟩
set_option maxRecDepth 20000 in
theorem xok_mX12_trusty : xMok mX12_trusty := ⟨xw (xc9 _ (List.mem_of_getElem? (i := 159) rfl)) rfl, xw (xc1 _ (List.mem_of_getElem? (i := 18) rfl)) rfl, ⟨by decide +kernel, by decide +kernel⟩, by decide +kernel, Nat.le_of_ble_eq_true rfl, rfl, Nat.le_of_ble_eq_true rfl⟩
set_option maxRecDepth 20000 in
theorem xok_mX12_odds : xMok mX12_odds := ⟨xw (xc9 _ (List.mem_of_getElem? (i := 179) rfl)) rfl, xw (xc1 _ (List.mem_of_getElem? (i := 18) rfl)) rfl, ⟨by decide +kernel, by decide +kernel⟩, by decide +kernel, Nat.le_of_ble_eq_true rfl, rfl, Nat.le_of_ble_eq_true rfl⟩
set_option maxRecDepth 20000 in
theorem xok_mX12_evenest : xMok mX12_evenest := ⟨xw (xc9 _ (List.mem_of_getElem? (i := 183) rfl)) rfl, xw (xc1 _ (List.mem_of_getElem? (i := 18) rfl)) rfl, ⟨by decide +kernel, by decide +kernel⟩, by decide +kernel, Nat.le_of_ble_eq_true rfl, rfl, Nat.le_of_ble_eq_true rfl⟩
set_option maxRecDepth 20000 in
theorem xok_mX12_covers : xMok mX12_covers := ⟨xw (xc9 _ (List.mem_of_getElem? (i := 187) rfl)) rfl, xw (xc1 _ (List.mem_of_getElem? (i := 18) rfl)) rfl, ⟨by decide +kernel, by decide +kernel⟩, by decide +kernel, Nat.le_of_ble_eq_true rfl, rfl, Nat.le_of_ble_eq_true rfl⟩
set_option maxRecDepth 20000 in
theorem xok_mX12_sits : xMok mX12_sits := ⟨xw (xc9 _ (List.mem_of_getElem? (i := 199) rfl)) rfl, xw (xc1 _ (List.mem_of_getElem? (i := 18) rfl)) rfl, ⟨by decide +kernel, by decide +kernel⟩, by decide +kernel, Nat.le_of_ble_eq_true rfl, rfl, Nat.le_of_ble_eq_true rfl⟩
set_option maxRecDepth 20000 in
theorem xok_mX12_twins : xMok mX12_twins := ⟨xw (xc9 _ (List.mem_of_getElem? (i := 203) rfl)) rfl, xw (xc1 _ (List.mem_of_getElem? (i := 18) rfl)) rfl, ⟨by decide +kernel, by decide +kernel⟩, by decide +kernel, Nat.le_of_ble_eq_true rfl, rfl, Nat.le_of_ble_eq_true rfl⟩
set_option maxRecDepth 20000 in
theorem xok_mX12_led : xMok mX12_led := ⟨xw (xc9 _ (List.mem_of_getElem? (i := 207) rfl)) rfl, xw (xc1 _ (List.mem_of_getElem? (i := 18) rfl)) rfl, ⟨by decide +kernel, by decide +kernel⟩, by decide +kernel, Nat.le_of_ble_eq_true rfl, rfl, Nat.le_of_ble_eq_true rfl⟩
set_option maxRecDepth 20000 in
theorem xok_mX12_doubts : xMok mX12_doubts := ⟨xw (xc9 _ (List.mem_of_getElem? (i := 211) rfl)) rfl, xw (xc1 _ (List.mem_of_getElem? (i := 18) rfl)) rfl, ⟨by decide +kernel, by decide +kernel⟩, by decide +kernel, Nat.le_of_ble_eq_true rfl, rfl, Nat.le_of_ble_eq_true rfl⟩
set_option maxRecDepth 20000 in
theorem xok_mX12_ladder : xMok mX12_ladder := ⟨xw (xc9 _ (List.mem_of_getElem? (i := 219) rfl)) rfl, xw (xc1 _ (List.mem_of_getElem? (i := 18) rfl)) rfl, ⟨by decide +kernel, by decide +kernel⟩, by decide +kernel, Nat.le_of_ble_eq_true rfl, rfl, Nat.le_of_ble_eq_true rfl⟩
set_option maxRecDepth 20000 in
theorem xok_mX12_bound : xMok mX12_bound := ⟨xw (xc9 _ (List.mem_of_getElem? (i := 227) rfl)) rfl, xw (xc1 _ (List.mem_of_getElem? (i := 18) rfl)) rfl, ⟨by decide +kernel, by decide +kernel⟩, by decide +kernel, Nat.le_of_ble_eq_true rfl, rfl, Nat.le_of_ble_eq_true rfl⟩
set_option maxRecDepth 20000 in
theorem xok_mX12_swapped : xMok mX12_swapped := ⟨xw (xc9 _ (List.mem_of_getElem? (i := 231) rfl)) rfl, xw (xc1 _ (List.mem_of_getElem? (i := 18) rfl)) rfl, ⟨by decide +kernel, by decide +kernel⟩, by decide +kernel, Nat.le_of_ble_eq_true rfl, rfl, Nat.le_of_ble_eq_true rfl⟩
set_option maxRecDepth 20000 in
theorem xok_mX12_weights : xMok mX12_weights := ⟨xw (xc10 _ (List.mem_of_getElem? (i := 3) rfl)) rfl, xw (xc1 _ (List.mem_of_getElem? (i := 18) rfl)) rfl, ⟨by decide +kernel, by decide +kernel⟩, by decide +kernel, Nat.le_of_ble_eq_true rfl, rfl, Nat.le_of_ble_eq_true rfl⟩
set_option maxRecDepth 20000 in
theorem xok_mX12_weight : xMok mX12_weight := ⟨xw (xc10 _ (List.mem_of_getElem? (i := 27) rfl)) rfl, xw (xc1 _ (List.mem_of_getElem? (i := 18) rfl)) rfl, ⟨by decide +kernel, by decide +kernel⟩, by decide +kernel, Nat.le_of_ble_eq_true rfl, rfl, Nat.le_of_ble_eq_true rfl⟩
set_option maxRecDepth 20000 in
theorem xok_mX12_could : xMok mX12_could := ⟨xw (xc10 _ (List.mem_of_getElem? (i := 31) rfl)) rfl, xw (xc1 _ (List.mem_of_getElem? (i := 18) rfl)) rfl, ⟨by decide +kernel, by decide +kernel⟩, by decide +kernel, Nat.le_of_ble_eq_true rfl, rfl, Nat.le_of_ble_eq_true rfl⟩
set_option maxRecDepth 20000 in
theorem xok_mX12_stones : xMok mX12_stones := ⟨xw (xc10 _ (List.mem_of_getElem? (i := 35) rfl)) rfl, xw (xc1 _ (List.mem_of_getElem? (i := 18) rfl)) rfl, ⟨by decide +kernel, by decide +kernel⟩, by decide +kernel, Nat.le_of_ble_eq_true rfl, rfl, Nat.le_of_ble_eq_true rfl⟩
set_option maxRecDepth 20000 in
theorem xok_mX12_heaps : xMok mX12_heaps := ⟨xw (xc10 _ (List.mem_of_getElem? (i := 51) rfl)) rfl, xw (xc1 _ (List.mem_of_getElem? (i := 18) rfl)) rfl, ⟨by decide +kernel, by decide +kernel⟩, by decide +kernel, Nat.le_of_ble_eq_true rfl, rfl, Nat.le_of_ble_eq_true rfl⟩
set_option maxRecDepth 20000 in
theorem xok_mX12_image : xMok mX12_image := ⟨xw (xc10 _ (List.mem_of_getElem? (i := 59) rfl)) rfl, xw (xc1 _ (List.mem_of_getElem? (i := 18) rfl)) rfl, ⟨by decide +kernel, by decide +kernel⟩, by decide +kernel, Nat.le_of_ble_eq_true rfl, rfl, Nat.le_of_ble_eq_true rfl⟩
set_option maxRecDepth 20000 in
theorem xok_mX12_back : xMok mX12_back := ⟨xw (xc10 _ (List.mem_of_getElem? (i := 63) rfl)) rfl, xw (xc1 _ (List.mem_of_getElem? (i := 18) rfl)) rfl, ⟨by decide +kernel, by decide +kernel⟩, by decide +kernel, Nat.le_of_ble_eq_true rfl, rfl, Nat.le_of_ble_eq_true rfl⟩
set_option maxRecDepth 20000 in
theorem xok_mX12_about : xMok mX12_about := ⟨xw (xc10 _ (List.mem_of_getElem? (i := 67) rfl)) rfl, xw (xc1 _ (List.mem_of_getElem? (i := 18) rfl)) rfl, ⟨by decide +kernel, by decide +kernel⟩, by decide +kernel, Nat.le_of_ble_eq_true rfl, rfl, Nat.le_of_ble_eq_true rfl⟩
set_option maxRecDepth 20000 in
theorem xok_mX12_feed : xMok mX12_feed := ⟨xw (xc10 _ (List.mem_of_getElem? (i := 71) rfl)) rfl, xw (xc1 _ (List.mem_of_getElem? (i := 18) rfl)) rfl, ⟨by decide +kernel, by decide +kernel⟩, by decide +kernel, Nat.le_of_ble_eq_true rfl, rfl, Nat.le_of_ble_eq_true rfl⟩
set_option maxRecDepth 20000 in
theorem xok_mX12_end : xMok mX12_end := ⟨xw (xc10 _ (List.mem_of_getElem? (i := 75) rfl)) rfl, xw (xc1 _ (List.mem_of_getElem? (i := 18) rfl)) rfl, ⟨by decide +kernel, by decide +kernel⟩, by decide +kernel, Nat.le_of_ble_eq_true rfl, rfl, Nat.le_of_ble_eq_true rfl⟩
set_option maxRecDepth 20000 in
theorem xok_mX10_init : xMok mX10_init := ⟨xw (xc1 _ (List.mem_of_getElem? (i := 33) rfl)) rfl, xw (xc1 _ (List.mem_of_getElem? (i := 2) rfl)) rfl, ⟨by decide +kernel, by decide +kernel⟩, by decide +kernel, Nat.le_of_ble_eq_true rfl, rfl, Nat.le_of_ble_eq_true rfl⟩
set_option maxRecDepth 20000 in
theorem xok_mX6_init : xMok mX6_init := ⟨xw (xc1 _ (List.mem_of_getElem? (i := 111) rfl)) rfl, xw (xc1 _ (List.mem_of_getElem? (i := 3) rfl)) rfl, ⟨by decide +kernel, by decide +kernel⟩, by decide +kernel, Nat.le_of_ble_eq_true rfl, rfl, Nat.le_of_ble_eq_true rfl⟩
set_option maxRecDepth 20000 in
theorem xok_mX0_init : xMok mX0_init := ⟨xw (xc1 _ (List.mem_of_getElem? (i := 216) rfl)) rfl, xw (xc1 _ (List.mem_of_getElem? (i := 8) rfl)) rfl, ⟨by decide +kernel, by decide +kernel⟩, by decide +kernel, Nat.le_of_ble_eq_true rfl, rfl, Nat.le_of_ble_eq_true rfl⟩
set_option maxRecDepth 20000 in
theorem xok_mX5_init : xMok mX5_init := ⟨xw (xc2 _ (List.mem_of_getElem? (i := 34) rfl)) rfl, xw (xc1 _ (List.mem_of_getElem? (i := 9) rfl)) rfl, ⟨by decide +kernel, by decide +kernel⟩, by decide +kernel, Nat.le_of_ble_eq_true rfl, rfl, Nat.le_of_ble_eq_true rfl⟩
set_option maxRecDepth 20000 in
theorem xok_mX8_init : xMok mX8_init := ⟨xw (xc2 _ (List.mem_of_getElem? (i := 78) rfl)) rfl, xw (xc1 _ (List.mem_of_getElem? (i := 10) rfl)) rfl, ⟨by decide +kernel, by decide +kernel⟩, by decide +kernel, Nat.le_of_ble_eq_true rfl, rfl, Nat.le_of_ble_eq_true rfl⟩
set_option maxRecDepth 20000 in
theorem xok_mX4_init : xMok mX4_init := ⟨xw (xc2 _ (List.mem_of_getElem? (i := 152) rfl)) rfl, xw (xc1 _ (List.mem_of_getElem? (i := 11) rfl)) rfl, ⟨by decide +kernel, by decide +kernel⟩, by decide +kernel, Nat.le_of_ble_eq_true rfl, rfl, Nat.le_of_ble_eq_true rfl⟩
set_option maxRecDepth 20000 in
theorem xok_mX3_init : xMok mX3_init := ⟨xw (xc2 _ (List.mem_of_getElem? (i := 162) rfl)) rfl, xw (xc1 _ (List.mem_of_getElem? (i := 12) rfl)) rfl, ⟨by decide +kernel, by decide +kernel⟩, by decide +kernel, Nat.le_of_ble_eq_true rfl, rfl, Nat.le_of_ble_eq_true rfl⟩
set_option maxRecDepth 20000 in
theorem xok_mX2_init : xMok mX2_init := ⟨xw (xc2 _ (List.mem_of_getElem? (i := 178) rfl)) rfl, xw (xc1 _ (List.mem_of_getElem? (i := 13) rfl)) rfl, ⟨by decide +kernel, by decide +kernel⟩, by decide +kernel, Nat.le_of_ble_eq_true rfl, rfl, Nat.le_of_ble_eq_true rfl⟩
set_option maxRecDepth 20000 in
theorem xok_mX1_init : xMok mX1_init := ⟨xw (xc2 _ (List.mem_of_getElem? (i := 202) rfl)) rfl, xw (xc1 _ (List.mem_of_getElem? (i := 14) rfl)) rfl, ⟨by decide +kernel, by decide +kernel⟩, by decide +kernel, Nat.le_of_ble_eq_true rfl, rfl, Nat.le_of_ble_eq_true rfl⟩
set_option maxRecDepth 20000 in
theorem xok_mX9_init : xMok mX9_init := ⟨xw (xc3 _ (List.mem_of_getElem? (i := 24) rfl)) rfl, xw (xc1 _ (List.mem_of_getElem? (i := 15) rfl)) rfl, ⟨by decide +kernel, by decide +kernel⟩, by decide +kernel, Nat.le_of_ble_eq_true rfl, rfl, Nat.le_of_ble_eq_true rfl⟩
set_option maxRecDepth 20000 in
theorem xok_mX5_refill : xMok mX5_refill := ⟨xw (xc3 _ (List.mem_of_getElem? (i := 38) rfl)) rfl, xw (xc1 _ (List.mem_of_getElem? (i := 9) rfl)) rfl, ⟨by decide +kernel, by decide +kernel⟩, by decide +kernel, Nat.le_of_ble_eq_true rfl, rfl, Nat.le_of_ble_eq_true rfl⟩
set_option maxRecDepth 20000 in
theorem xok_mX11_putBytes : xMok mX11_putBytes := ⟨xw (xc3 _ (List.mem_of_getElem? (i := 129) rfl)) rfl, xw (xc1 _ (List.mem_of_getElem? (i := 1) rfl)) rfl, ⟨by decide +kernel, by decide +kernel⟩, by decide +kernel, Nat.le_of_ble_eq_true rfl, rfl, Nat.le_of_ble_eq_true rfl⟩
set_option maxRecDepth 20000 in
theorem xok_mX6_read : xMok mX6_read := ⟨xw (xc3 _ (List.mem_of_getElem? (i := 141) rfl)) rfl, xw (xc1 _ (List.mem_of_getElem? (i := 3) rfl)) rfl, ⟨by decide +kernel, by decide +kernel⟩, by decide +kernel, Nat.le_of_ble_eq_true rfl, rfl, Nat.le_of_ble_eq_true rfl⟩
set_option maxRecDepth 20000 in
theorem xok_mX0_begin : xMok mX0_begin := ⟨xw (xc4 _ (List.mem_of_getElem? (i := 42) rfl)) rfl, xw (xc1 _ (List.mem_of_getElem? (i := 8) rfl)) rfl, ⟨by decide +kernel, by decide +kernel⟩, by decide +kernel, Nat.le_of_ble_eq_true rfl, rfl, Nat.le_of_ble_eq_true rfl⟩
set_option maxRecDepth 20000 in
theorem xok_mX9_empty : xMok mX9_empty := ⟨xw (xc4 _ (List.mem_of_getElem? (i := 49) rfl)) rfl, xw (xc1 _ (List.mem_of_getElem? (i := 15) rfl)) rfl, ⟨by decide +kernel, by decide +kernel⟩, by decide +kernel, Nat.le_of_ble_eq_true rfl, rfl, Nat.le_of_ble_eq_true rfl⟩
set_option maxRecDepth 20000 in
theorem xok_mX10_hasHeaps : xMok mX10_hasHeaps := ⟨xw (xc4 _ (List.mem_of_getElem? (i := 61) rfl)) rfl, xw (xc1 _ (List.mem_of_getElem? (i := 2) rfl)) rfl, ⟨by decide +kernel, by decide +kernel⟩, by decide +kernel, Nat.le_of_ble_eq_true rfl, rfl, Nat.le_of_ble_eq_true rfl⟩
set_option maxRecDepth 20000 in
theorem xok_mX0_isFull : xMok mX0_isFull := ⟨xw (xc4 _ (List.mem_of_getElem? (i := 69) rfl)) rfl, xw (xc1 _ (List.mem_of_getElem? (i := 8) rfl)) rfl, ⟨by decide +kernel, by decide +kernel⟩, by decide +kernel, Nat.le_of_ble_eq_true rfl, rfl, Nat.le_of_ble_eq_true rfl⟩
set_option maxRecDepth 20000 in
theorem xok_mX0_balance : xMok mX0_balance := ⟨xw (xc4 _ (List.mem_of_getElem? (i := 73) rfl)) rfl, xw (xc1 _ (List.mem_of_getElem? (i := 8) rfl)) rfl, ⟨by decide +kernel, by decide +kernel⟩, by decide +kernel, Nat.le_of_ble_eq_true rfl, rfl, Nat.le_of_ble_eq_true rfl⟩
set_option maxRecDepth 20000 in
theorem xok_mX0_write : xMok mX0_write := ⟨xw (xc4 _ (List.mem_of_getElem? (i := 83) rfl)) rfl, xw (xc1 _ (List.mem_of_getElem? (i := 8) rfl)) rfl, ⟨by decide +kernel, by decide +kernel⟩, by decide +kernel, Nat.le_of_ble_eq_true rfl, rfl, Nat.le_of_ble_eq_true rfl⟩
set_option maxRecDepth 20000 in
theorem xok_mX0_look : xMok mX0_look := ⟨xw (xc4 _ (List.mem_of_getElem? (i := 96) rfl)) rfl, xw (xc1 _ (List.mem_of_getElem? (i := 8) rfl)) rfl, ⟨by decide +kernel, by decide +kernel⟩, by decide +kernel, Nat.le_of_ble_eq_true rfl, rfl, Nat.le_of_ble_eq_true rfl⟩
set_option maxRecDepth 20000 in
theorem xok_mX0_rain : xMok mX0_rain := ⟨xw (xc4 _ (List.mem_of_getElem? (i := 112) rfl)) rfl, xw (xc1 _ (List.mem_of_getElem? (i := 8) rfl)) rfl, ⟨by decide +kernel, by decide +kernel⟩, by decide +kernel, Nat.le_of_ble_eq_true rfl, rfl, Nat.le_of_ble_eq_true rfl⟩
set_option maxRecDepth 20000 in
theorem xok_mX0_strike : xMok mX0_strike := ⟨xw (xc4 _ (List.mem_of_getElem? (i := 124) rfl)) rfl, xw (xc1 _ (List.mem_of_getElem? (i := 8) rfl)) rfl, ⟨by decide +kernel, by decide +kernel⟩, by decide +kernel, Nat.le_of_ble_eq_true rfl, rfl, Nat.le_of_ble_eq_true rfl⟩
set_option maxRecDepth 20000 in
theorem xok_mX0_pass : xMok mX0_pass := ⟨xw (xc4 _ (List.mem_of_getElem? (i := 132) rfl)) rfl, xw (xc1 _ (List.mem_of_getElem? (i := 8) rfl)) rfl, ⟨by decide +kernel, by decide +kernel⟩, by decide +kernel, Nat.le_of_ble_eq_true rfl, rfl, Nat.le_of_ble_eq_true rfl⟩
set_option maxRecDepth 20000 in
theorem xok_mX5_heed : xMok mX5_heed := ⟨xw (xc4 _ (List.mem_of_getElem? (i := 141) rfl)) rfl, xw (xc1 _ (List.mem_of_getElem? (i := 9) rfl)) rfl, ⟨by decide +kernel, by decide +kernel⟩, by decide +kernel, Nat.le_of_ble_eq_true rfl, rfl, Nat.le_of_ble_eq_true rfl⟩
set_option maxRecDepth 20000 in
theorem xok_mX5_sift : xMok mX5_sift := ⟨xw (xc4 _ (List.mem_of_getElem? (i := 174) rfl)) rfl, xw (xc1 _ (List.mem_of_getElem? (i := 9) rfl)) rfl, ⟨by decide +kernel, by decide +kernel⟩, by decide +kernel, Nat.le_of_ble_eq_true rfl, rfl, Nat.le_of_ble_eq_true rfl⟩
set_option maxRecDepth 20000 in
theorem xok_mX5_leftAt : xMok mX5_leftAt := ⟨xw (xc4 _ (List.mem_of_getElem? (i := 183) rfl)) rfl, xw (xc1 _ (List.mem_of_getElem? (i := 9) rfl)) rfl, ⟨by decide +kernel, by decide +kernel⟩, by decide +kernel, Nat.le_of_ble_eq_true rfl, rfl, Nat.le_of_ble_eq_true rfl⟩
set_option maxRecDepth 20000 in
theorem xok_mX11_shelvePlaces : xMok mX11_shelvePlaces := ⟨xw (xc4 _ (List.mem_of_getElem? (i := 187) rfl)) rfl, xw (xc1 _ (List.mem_of_getElem? (i := 1) rfl)) rfl, ⟨by decide +kernel, by decide +kernel⟩, by decide +kernel, Nat.le_of_ble_eq_true rfl, rfl, Nat.le_of_ble_eq_true rfl⟩
set_option maxRecDepth 20000 in
theorem xok_mX5_placeOf : xMok mX5_placeOf := ⟨xw (xc4 _ (List.mem_of_getElem? (i := 191) rfl)) rfl, xw (xc1 _ (List.mem_of_getElem? (i := 9) rfl)) rfl, ⟨by decide +kernel, by decide +kernel⟩, by decide +kernel, Nat.le_of_ble_eq_true rfl, rfl, Nat.le_of_ble_eq_true rfl⟩
set_option maxRecDepth 20000 in
theorem xok_mX9_lay : xMok mX9_lay := ⟨xw (xc4 _ (List.mem_of_getElem? (i := 195) rfl)) rfl, xw (xc1 _ (List.mem_of_getElem? (i := 15) rfl)) rfl, ⟨by decide +kernel, by decide +kernel⟩, by decide +kernel, Nat.le_of_ble_eq_true rfl, rfl, Nat.le_of_ble_eq_true rfl⟩
set_option maxRecDepth 20000 in
theorem xok_mX5_firstOfFewestMisses : xMok mX5_firstOfFewestMisses := ⟨xw (xc4 _ (List.mem_of_getElem? (i := 203) rfl)) rfl, xw (xc1 _ (List.mem_of_getElem? (i := 9) rfl)) rfl, ⟨by decide +kernel, by decide +kernel⟩, by decide +kernel, Nat.le_of_ble_eq_true rfl, rfl, Nat.le_of_ble_eq_true rfl⟩
set_option maxRecDepth 20000 in
theorem xok_mX5_missesOf : xMok mX5_missesOf := ⟨xw (xc4 _ (List.mem_of_getElem? (i := 207) rfl)) rfl, xw (xc1 _ (List.mem_of_getElem? (i := 9) rfl)) rfl, ⟨by decide +kernel, by decide +kernel⟩, by decide +kernel, Nat.le_of_ble_eq_true rfl, rfl, Nat.le_of_ble_eq_true rfl⟩
set_option maxRecDepth 20000 in
theorem xok_mX10_hasThing : xMok mX10_hasThing := ⟨xw (xc4 _ (List.mem_of_getElem? (i := 220) rfl)) rfl, xw (xc1 _ (List.mem_of_getElem? (i := 2) rfl)) rfl, ⟨by decide +kernel, by decide +kernel⟩, by decide +kernel, Nat.le_of_ble_eq_true rfl, rfl, Nat.le_of_ble_eq_true rfl⟩
set_option maxRecDepth 20000 in
theorem xok_mX5_know : xMok mX5_know := ⟨xw (xc4 _ (List.mem_of_getElem? (i := 224) rfl)) rfl, xw (xc1 _ (List.mem_of_getElem? (i := 9) rfl)) rfl, ⟨by decide +kernel, by decide +kernel⟩, by decide +kernel, Nat.le_of_ble_eq_true rfl, rfl, Nat.le_of_ble_eq_true rfl⟩
set_option maxRecDepth 20000 in
theorem xok_mX5_extremePlace : xMok mX5_extremePlace := ⟨xw (xc4 _ (List.mem_of_getElem? (i := 230) rfl)) rfl, xw (xc1 _ (List.mem_of_getElem? (i := 9) rfl)) rfl, ⟨by decide +kernel, by decide +kernel⟩, by decide +kernel, Nat.le_of_ble_eq_true rfl, rfl, Nat.le_of_ble_eq_true rfl⟩
set_option maxRecDepth 20000 in
theorem xok_mX5_standing : xMok mX5_standing := ⟨xw (xc5 _ (List.mem_of_getElem? (i := 0) rfl)) rfl, xw (xc1 _ (List.mem_of_getElem? (i := 9) rfl)) rfl, ⟨by decide +kernel, by decide +kernel⟩, by decide +kernel, Nat.le_of_ble_eq_true rfl, rfl, Nat.le_of_ble_eq_true rfl⟩
set_option maxRecDepth 20000 in
theorem xok_mX10_hasTwo : xMok mX10_hasTwo := ⟨xw (xc5 _ (List.mem_of_getElem? (i := 12) rfl)) rfl, xw (xc1 _ (List.mem_of_getElem? (i := 2) rfl)) rfl, ⟨by decide +kernel, by decide +kernel⟩, by decide +kernel, Nat.le_of_ble_eq_true rfl, rfl, Nat.le_of_ble_eq_true rfl⟩
set_option maxRecDepth 20000 in
theorem xok_mX5_isSure : xMok mX5_isSure := ⟨xw (xc5 _ (List.mem_of_getElem? (i := 17) rfl)) rfl, xw (xc1 _ (List.mem_of_getElem? (i := 9) rfl)) rfl, ⟨by decide +kernel, by decide +kernel⟩, by decide +kernel, Nat.le_of_ble_eq_true rfl, rfl, Nat.le_of_ble_eq_true rfl⟩
set_option maxRecDepth 20000 in
theorem xok_mX11_prepare : xMok mX11_prepare := ⟨xw (xc5 _ (List.mem_of_getElem? (i := 25) rfl)) rfl, xw (xc1 _ (List.mem_of_getElem? (i := 1) rfl)) rfl, ⟨by decide +kernel, by decide +kernel⟩, by decide +kernel, Nat.le_of_ble_eq_true rfl, rfl, Nat.le_of_ble_eq_true rfl⟩
set_option maxRecDepth 20000 in
theorem xok_mX10_hasGoal : xMok mX10_hasGoal := ⟨xw (xc5 _ (List.mem_of_getElem? (i := 29) rfl)) rfl, xw (xc1 _ (List.mem_of_getElem? (i := 2) rfl)) rfl, ⟨by decide +kernel, by decide +kernel⟩, by decide +kernel, Nat.le_of_ble_eq_true rfl, rfl, Nat.le_of_ble_eq_true rfl⟩
set_option maxRecDepth 20000 in
theorem xok_mX8_begin : xMok mX8_begin := ⟨xw (xc5 _ (List.mem_of_getElem? (i := 33) rfl)) rfl, xw (xc1 _ (List.mem_of_getElem? (i := 10) rfl)) rfl, ⟨by decide +kernel, by decide +kernel⟩, by decide +kernel, Nat.le_of_ble_eq_true rfl, rfl, Nat.le_of_ble_eq_true rfl⟩
set_option maxRecDepth 20000 in
theorem xok_mX5_markOf : xMok mX5_markOf := ⟨xw (xc4 _ (List.mem_of_getElem? (i := 211) rfl)) rfl, xw (xc1 _ (List.mem_of_getElem? (i := 9) rfl)) rfl, ⟨by decide +kernel, by decide +kernel⟩, by decide +kernel, Nat.le_of_ble_eq_true rfl, rfl, Nat.le_of_ble_eq_true rfl⟩
set_option maxRecDepth 20000 in
theorem xok_mX5_goalOf : xMok mX5_goalOf := ⟨xw (xc5 _ (List.mem_of_getElem? (i := 4) rfl)) rfl, xw (xc1 _ (List.mem_of_getElem? (i := 9) rfl)) rfl, ⟨by decide +kernel, by decide +kernel⟩, by decide +kernel, Nat.le_of_ble_eq_true rfl, rfl, Nat.le_of_ble_eq_true rfl⟩
set_option maxRecDepth 20000 in
theorem xok_mX8_add : xMok mX8_add := ⟨xw (xc5 _ (List.mem_of_getElem? (i := 46) rfl)) rfl, xw (xc1 _ (List.mem_of_getElem? (i := 10) rfl)) rfl, ⟨by decide +kernel, by decide +kernel⟩, by decide +kernel, Nat.le_of_ble_eq_true rfl, rfl, Nat.le_of_ble_eq_true rfl⟩
set_option maxRecDepth 20000 in
theorem xok_mX8_finish : xMok mX8_finish := ⟨xw (xc5 _ (List.mem_of_getElem? (i := 50) rfl)) rfl, xw (xc1 _ (List.mem_of_getElem? (i := 10) rfl)) rfl, ⟨by decide +kernel, by decide +kernel⟩, by decide +kernel, Nat.le_of_ble_eq_true rfl, rfl, Nat.le_of_ble_eq_true rfl⟩
set_option maxRecDepth 20000 in
theorem xok_mX8_fewestOfAll : xMok mX8_fewestOfAll := ⟨xw (xc5 _ (List.mem_of_getElem? (i := 71) rfl)) rfl, xw (xc1 _ (List.mem_of_getElem? (i := 10) rfl)) rfl, ⟨by decide +kernel, by decide +kernel⟩, by decide +kernel, Nat.le_of_ble_eq_true rfl, rfl, Nat.le_of_ble_eq_true rfl⟩
set_option maxRecDepth 20000 in
theorem xok_mX8_nextOfFewest : xMok mX8_nextOfFewest := ⟨xw (xc5 _ (List.mem_of_getElem? (i := 149) rfl)) rfl, xw (xc1 _ (List.mem_of_getElem? (i := 10) rfl)) rfl, ⟨by decide +kernel, by decide +kernel⟩, by decide +kernel, Nat.le_of_ble_eq_true rfl, rfl, Nat.le_of_ble_eq_true rfl⟩
set_option maxRecDepth 20000 in
theorem xok_mX8_sumOfAll : xMok mX8_sumOfAll := ⟨xw (xc5 _ (List.mem_of_getElem? (i := 158) rfl)) rfl, xw (xc1 _ (List.mem_of_getElem? (i := 10) rfl)) rfl, ⟨by decide +kernel, by decide +kernel⟩, by decide +kernel, Nat.le_of_ble_eq_true rfl, rfl, Nat.le_of_ble_eq_true rfl⟩
set_option maxRecDepth 20000 in
theorem xok_mX8_nextOfSum : xMok mX8_nextOfSum := ⟨xw (xc5 _ (List.mem_of_getElem? (i := 172) rfl)) rfl, xw (xc1 _ (List.mem_of_getElem? (i := 10) rfl)) rfl, ⟨by decide +kernel, by decide +kernel⟩, by decide +kernel, Nat.le_of_ble_eq_true rfl, rfl, Nat.le_of_ble_eq_true rfl⟩
set_option maxRecDepth 20000 in
theorem xok_mX4_fewestPairs : xMok mX4_fewestPairs := ⟨xw (xc5 _ (List.mem_of_getElem? (i := 181) rfl)) rfl, xw (xc1 _ (List.mem_of_getElem? (i := 11) rfl)) rfl, ⟨by decide +kernel, by decide +kernel⟩, by decide +kernel, Nat.le_of_ble_eq_true rfl, rfl, Nat.le_of_ble_eq_true rfl⟩
set_option maxRecDepth 20000 in
theorem xok_mX5_answer : xMok mX5_answer := ⟨xw (xc5 _ (List.mem_of_getElem? (i := 199) rfl)) rfl, xw (xc1 _ (List.mem_of_getElem? (i := 9) rfl)) rfl, ⟨by decide +kernel, by decide +kernel⟩, by decide +kernel, Nat.le_of_ble_eq_true rfl, rfl, Nat.le_of_ble_eq_true rfl⟩
set_option maxRecDepth 20000 in
theorem xok_mX2_begin : xMok mX2_begin := ⟨xw (xc5 _ (List.mem_of_getElem? (i := 207) rfl)) rfl, xw (xc1 _ (List.mem_of_getElem? (i := 13) rfl)) rfl, ⟨by decide +kernel, by decide +kernel⟩, by decide +kernel, Nat.le_of_ble_eq_true rfl, rfl, Nat.le_of_ble_eq_true rfl⟩
set_option maxRecDepth 20000 in
theorem xok_mX2_follow : xMok mX2_follow := ⟨xw (xc5 _ (List.mem_of_getElem? (i := 212) rfl)) rfl, xw (xc1 _ (List.mem_of_getElem? (i := 13) rfl)) rfl, ⟨by decide +kernel, by decide +kernel⟩, by decide +kernel, Nat.le_of_ble_eq_true rfl, rfl, Nat.le_of_ble_eq_true rfl⟩
set_option maxRecDepth 20000 in
theorem xok_mX2_unknown : xMok mX2_unknown := ⟨xw (xc5 _ (List.mem_of_getElem? (i := 228) rfl)) rfl, xw (xc1 _ (List.mem_of_getElem? (i := 13) rfl)) rfl, ⟨by decide +kernel, by decide +kernel⟩, by decide +kernel, Nat.le_of_ble_eq_true rfl, rfl, Nat.le_of_ble_eq_true rfl⟩
set_option maxRecDepth 20000 in
theorem xok_mX3_fewestWithALie : xMok mX3_fewestWithALie := ⟨xw (xc5 _ (List.mem_of_getElem? (i := 236) rfl)) rfl, xw (xc1 _ (List.mem_of_getElem? (i := 12) rfl)) rfl, ⟨by decide +kernel, by decide +kernel⟩, by decide +kernel, Nat.le_of_ble_eq_true rfl, rfl, Nat.le_of_ble_eq_true rfl⟩
set_option maxRecDepth 20000 in
theorem xok_mX5_heavierIn : xMok mX5_heavierIn := ⟨xw (xc6 _ (List.mem_of_getElem? (i := 27) rfl)) rfl, xw (xc1 _ (List.mem_of_getElem? (i := 9) rfl)) rfl, ⟨by decide +kernel, by decide +kernel⟩, by decide +kernel, Nat.le_of_ble_eq_true rfl, rfl, Nat.le_of_ble_eq_true rfl⟩
set_option maxRecDepth 20000 in
theorem xok_mX5_evenestTwo : xMok mX5_evenestTwo := ⟨xw (xc6 _ (List.mem_of_getElem? (i := 35) rfl)) rfl, xw (xc1 _ (List.mem_of_getElem? (i := 9) rfl)) rfl, ⟨by decide +kernel, by decide +kernel⟩, by decide +kernel, Nat.le_of_ble_eq_true rfl, rfl, Nat.le_of_ble_eq_true rfl⟩
set_option maxRecDepth 20000 in
theorem xok_mX5_isCover : xMok mX5_isCover := ⟨xw (xc6 _ (List.mem_of_getElem? (i := 44) rfl)) rfl, xw (xc1 _ (List.mem_of_getElem? (i := 9) rfl)) rfl, ⟨by decide +kernel, by decide +kernel⟩, by decide +kernel, Nat.le_of_ble_eq_true rfl, rfl, Nat.le_of_ble_eq_true rfl⟩
set_option maxRecDepth 20000 in
theorem xok_mX5_surelySaying : xMok mX5_surelySaying := ⟨xw (xc6 _ (List.mem_of_getElem? (i := 53) rfl)) rfl, xw (xc1 _ (List.mem_of_getElem? (i := 9) rfl)) rfl, ⟨by decide +kernel, by decide +kernel⟩, by decide +kernel, Nat.le_of_ble_eq_true rfl, rfl, Nat.le_of_ble_eq_true rfl⟩
set_option maxRecDepth 20000 in
theorem xok_mX5_weighingsWith : xMok mX5_weighingsWith := ⟨xw (xc6 _ (List.mem_of_getElem? (i := 61) rfl)) rfl, xw (xc1 _ (List.mem_of_getElem? (i := 9) rfl)) rfl, ⟨by decide +kernel, by decide +kernel⟩, by decide +kernel, Nat.le_of_ble_eq_true rfl, rfl, Nat.le_of_ble_eq_true rfl⟩
set_option maxRecDepth 20000 in
theorem xok_mX5_markOfRow : xMok mX5_markOfRow := ⟨xw (xc6 _ (List.mem_of_getElem? (i := 69) rfl)) rfl, xw (xc1 _ (List.mem_of_getElem? (i := 9) rfl)) rfl, ⟨by decide +kernel, by decide +kernel⟩, by decide +kernel, Nat.le_of_ble_eq_true rfl, rfl, Nat.le_of_ble_eq_true rfl⟩
set_option maxRecDepth 20000 in
theorem xok_mX5_missesBy : xMok mX5_missesBy := ⟨xw (xc4 _ (List.mem_of_getElem? (i := 178) rfl)) rfl, xw (xc1 _ (List.mem_of_getElem? (i := 9) rfl)) rfl, ⟨by decide +kernel, by decide +kernel⟩, by decide +kernel, Nat.le_of_ble_eq_true rfl, rfl, Nat.le_of_ble_eq_true rfl⟩
set_option maxRecDepth 20000 in
theorem xok_mX5_largestSet : xMok mX5_largestSet := ⟨xw (xc6 _ (List.mem_of_getElem? (i := 82) rfl)) rfl, xw (xc1 _ (List.mem_of_getElem? (i := 9) rfl)) rfl, ⟨by decide +kernel, by decide +kernel⟩, by decide +kernel, Nat.le_of_ble_eq_true rfl, rfl, Nat.le_of_ble_eq_true rfl⟩
set_option maxRecDepth 20000 in
theorem xok_mX8_depthOf : xMok mX8_depthOf := ⟨xw (xc5 _ (List.mem_of_getElem? (i := 126) rfl)) rfl, xw (xc1 _ (List.mem_of_getElem? (i := 10) rfl)) rfl, ⟨by decide +kernel, by decide +kernel⟩, by decide +kernel, Nat.le_of_ble_eq_true rfl, rfl, Nat.le_of_ble_eq_true rfl⟩
set_option maxRecDepth 20000 in
theorem xok_mX5_addSwapped : xMok mX5_addSwapped := ⟨xw (xc6 _ (List.mem_of_getElem? (i := 100) rfl)) rfl, xw (xc1 _ (List.mem_of_getElem? (i := 9) rfl)) rfl, ⟨by decide +kernel, by decide +kernel⟩, by decide +kernel, Nat.le_of_ble_eq_true rfl, rfl, Nat.le_of_ble_eq_true rfl⟩
set_option maxRecDepth 20000 in
theorem xok_mX7_at : xMok mX7_at := ⟨xw (xc3 _ (List.mem_of_getElem? (i := 48) rfl)) rfl, xw (xc1 _ (List.mem_of_getElem? (i := 16) rfl)) rfl, ⟨by decide +kernel, by decide +kernel⟩, by decide +kernel, Nat.le_of_ble_eq_true rfl, rfl, Nat.le_of_ble_eq_true rfl⟩
set_option maxRecDepth 20000 in
theorem xok_mX1_load : xMok mX1_load := ⟨xw (xc6 _ (List.mem_of_getElem? (i := 114) rfl)) rfl, xw (xc1 _ (List.mem_of_getElem? (i := 14) rfl)) rfl, ⟨by decide +kernel, by decide +kernel⟩, by decide +kernel, Nat.le_of_ble_eq_true rfl, rfl, Nat.le_of_ble_eq_true rfl⟩
set_option maxRecDepth 20000 in
theorem xok_mX1_guessAll : xMok mX1_guessAll := ⟨xw (xc6 _ (List.mem_of_getElem? (i := 129) rfl)) rfl, xw (xc1 _ (List.mem_of_getElem? (i := 14) rfl)) rfl, ⟨by decide +kernel, by decide +kernel⟩, by decide +kernel, Nat.le_of_ble_eq_true rfl, rfl, Nat.le_of_ble_eq_true rfl⟩
set_option maxRecDepth 20000 in
theorem xok_mX1_firstOf : xMok mX1_firstOf := ⟨xw (xc6 _ (List.mem_of_getElem? (i := 174) rfl)) rfl, xw (xc1 _ (List.mem_of_getElem? (i := 14) rfl)) rfl, ⟨by decide +kernel, by decide +kernel⟩, by decide +kernel, Nat.le_of_ble_eq_true rfl, rfl, Nat.le_of_ble_eq_true rfl⟩
set_option maxRecDepth 20000 in
theorem xok_mX1_extremeOf : xMok mX1_extremeOf := ⟨xw (xc6 _ (List.mem_of_getElem? (i := 182) rfl)) rfl, xw (xc1 _ (List.mem_of_getElem? (i := 14) rfl)) rfl, ⟨by decide +kernel, by decide +kernel⟩, by decide +kernel, Nat.le_of_ble_eq_true rfl, rfl, Nat.le_of_ble_eq_true rfl⟩
set_option maxRecDepth 20000 in
theorem xok_mX1_sayings : xMok mX1_sayings := ⟨xw (xc6 _ (List.mem_of_getElem? (i := 190) rfl)) rfl, xw (xc1 _ (List.mem_of_getElem? (i := 14) rfl)) rfl, ⟨by decide +kernel, by decide +kernel⟩, by decide +kernel, Nat.le_of_ble_eq_true rfl, rfl, Nat.le_of_ble_eq_true rfl⟩
set_option maxRecDepth 20000 in
theorem xok_mX9_layStones : xMok mX9_layStones := ⟨xw (xc6 _ (List.mem_of_getElem? (i := 202) rfl)) rfl, xw (xc1 _ (List.mem_of_getElem? (i := 15) rfl)) rfl, ⟨by decide +kernel, by decide +kernel⟩, by decide +kernel, Nat.le_of_ble_eq_true rfl, rfl, Nat.le_of_ble_eq_true rfl⟩
set_option maxRecDepth 20000 in
theorem xok_mX1_bestHeaps : xMok mX1_bestHeaps := ⟨xw (xc6 _ (List.mem_of_getElem? (i := 215) rfl)) rfl, xw (xc1 _ (List.mem_of_getElem? (i := 14) rfl)) rfl, ⟨by decide +kernel, by decide +kernel⟩, by decide +kernel, Nat.le_of_ble_eq_true rfl, rfl, Nat.le_of_ble_eq_true rfl⟩
set_option maxRecDepth 20000 in
theorem xok_mX0_copyFrom : xMok mX0_copyFrom := ⟨xw (xc6 _ (List.mem_of_getElem? (i := 231) rfl)) rfl, xw (xc1 _ (List.mem_of_getElem? (i := 8) rfl)) rfl, ⟨by decide +kernel, by decide +kernel⟩, by decide +kernel, Nat.le_of_ble_eq_true rfl, rfl, Nat.le_of_ble_eq_true rfl⟩
set_option maxRecDepth 20000 in
theorem xok_mX10_empty : xMok mX10_empty := ⟨xw (xc3 _ (List.mem_of_getElem? (i := 145) rfl)) rfl, xw (xc1 _ (List.mem_of_getElem? (i := 2) rfl)) rfl, ⟨by decide +kernel, by decide +kernel⟩, by decide +kernel, Nat.le_of_ble_eq_true rfl, rfl, Nat.le_of_ble_eq_true rfl⟩
set_option maxRecDepth 20000 in
theorem xok_mX6_advance : xMok mX6_advance := ⟨xw (xc3 _ (List.mem_of_getElem? (i := 149) rfl)) rfl, xw (xc1 _ (List.mem_of_getElem? (i := 3) rfl)) rfl, ⟨by decide +kernel, by decide +kernel⟩, by decide +kernel, Nat.le_of_ble_eq_true rfl, rfl, Nat.le_of_ble_eq_true rfl⟩
set_option maxRecDepth 20000 in
theorem xok_mX6_byteAt : xMok mX6_byteAt := ⟨xw (xc3 _ (List.mem_of_getElem? (i := 153) rfl)) rfl, xw (xc1 _ (List.mem_of_getElem? (i := 3) rfl)) rfl, ⟨by decide +kernel, by decide +kernel⟩, by decide +kernel, Nat.le_of_ble_eq_true rfl, rfl, Nat.le_of_ble_eq_true rfl⟩
set_option maxRecDepth 20000 in
theorem xok_mX6_isLetter : xMok mX6_isLetter := ⟨xw (xc3 _ (List.mem_of_getElem? (i := 156) rfl)) rfl, xw (xc1 _ (List.mem_of_getElem? (i := 3) rfl)) rfl, ⟨by decide +kernel, by decide +kernel⟩, by decide +kernel, Nat.le_of_ble_eq_true rfl, rfl, Nat.le_of_ble_eq_true rfl⟩
set_option maxRecDepth 20000 in
theorem xok_mX7_find : xMok mX7_find := ⟨xw (xc3 _ (List.mem_of_getElem? (i := 159) rfl)) rfl, xw (xc1 _ (List.mem_of_getElem? (i := 16) rfl)) rfl, ⟨by decide +kernel, by decide +kernel⟩, by decide +kernel, Nat.le_of_ble_eq_true rfl, rfl, Nat.le_of_ble_eq_true rfl⟩
set_option maxRecDepth 20000 in
theorem xok_mX6_isDigit : xMok mX6_isDigit := ⟨xw (xc3 _ (List.mem_of_getElem? (i := 162) rfl)) rfl, xw (xc1 _ (List.mem_of_getElem? (i := 3) rfl)) rfl, ⟨by decide +kernel, by decide +kernel⟩, by decide +kernel, Nat.le_of_ble_eq_true rfl, rfl, Nat.le_of_ble_eq_true rfl⟩
set_option maxRecDepth 20000 in
theorem xok_mX6_isSign : xMok mX6_isSign := ⟨xw (xc3 _ (List.mem_of_getElem? (i := 165) rfl)) rfl, xw (xc1 _ (List.mem_of_getElem? (i := 3) rfl)) rfl, ⟨by decide +kernel, by decide +kernel⟩, by decide +kernel, Nat.le_of_ble_eq_true rfl, rfl, Nat.le_of_ble_eq_true rfl⟩
set_option maxRecDepth 20000 in
theorem xok_mX6_readLine : xMok mX6_readLine := ⟨xw (xc3 _ (List.mem_of_getElem? (i := 170) rfl)) rfl, xw (xc1 _ (List.mem_of_getElem? (i := 3) rfl)) rfl, ⟨by decide +kernel, by decide +kernel⟩, by decide +kernel, Nat.le_of_ble_eq_true rfl, rfl, Nat.le_of_ble_eq_true rfl⟩
set_option maxRecDepth 20000 in
theorem xok_mX6_isOwn : xMok mX6_isOwn := ⟨xw (xc3 _ (List.mem_of_getElem? (i := 174) rfl)) rfl, xw (xc1 _ (List.mem_of_getElem? (i := 3) rfl)) rfl, ⟨by decide +kernel, by decide +kernel⟩, by decide +kernel, Nat.le_of_ble_eq_true rfl, rfl, Nat.le_of_ble_eq_true rfl⟩
set_option maxRecDepth 20000 in
theorem xok_mX6_readThing : xMok mX6_readThing := ⟨xw (xc3 _ (List.mem_of_getElem? (i := 178) rfl)) rfl, xw (xc1 _ (List.mem_of_getElem? (i := 3) rfl)) rfl, ⟨by decide +kernel, by decide +kernel⟩, by decide +kernel, Nat.le_of_ble_eq_true rfl, rfl, Nat.le_of_ble_eq_true rfl⟩
set_option maxRecDepth 20000 in
theorem xok_mX6_fail : xMok mX6_fail := ⟨xw (xc3 _ (List.mem_of_getElem? (i := 182) rfl)) rfl, xw (xc1 _ (List.mem_of_getElem? (i := 3) rfl)) rfl, ⟨by decide +kernel, by decide +kernel⟩, by decide +kernel, Nat.le_of_ble_eq_true rfl, rfl, Nat.le_of_ble_eq_true rfl⟩
set_option maxRecDepth 20000 in
theorem xok_mX10_thingOf : xMok mX10_thingOf := ⟨xw (xc3 _ (List.mem_of_getElem? (i := 186) rfl)) rfl, xw (xc1 _ (List.mem_of_getElem? (i := 2) rfl)) rfl, ⟨by decide +kernel, by decide +kernel⟩, by decide +kernel, Nat.le_of_ble_eq_true rfl, rfl, Nat.le_of_ble_eq_true rfl⟩
set_option maxRecDepth 20000 in
theorem xok_mX6_takeNewName : xMok mX6_takeNewName := ⟨xw (xc3 _ (List.mem_of_getElem? (i := 191) rfl)) rfl, xw (xc1 _ (List.mem_of_getElem? (i := 3) rfl)) rfl, ⟨by decide +kernel, by decide +kernel⟩, by decide +kernel, Nat.le_of_ble_eq_true rfl, rfl, Nat.le_of_ble_eq_true rfl⟩
set_option maxRecDepth 20000 in
theorem xok_mX6_isName : xMok mX6_isName := ⟨xw (xc3 _ (List.mem_of_getElem? (i := 195) rfl)) rfl, xw (xc1 _ (List.mem_of_getElem? (i := 3) rfl)) rfl, ⟨by decide +kernel, by decide +kernel⟩, by decide +kernel, Nat.le_of_ble_eq_true rfl, rfl, Nat.le_of_ble_eq_true rfl⟩
set_option maxRecDepth 20000 in
theorem xok_mX6_takeOwn : xMok mX6_takeOwn := ⟨xw (xc3 _ (List.mem_of_getElem? (i := 199) rfl)) rfl, xw (xc1 _ (List.mem_of_getElem? (i := 3) rfl)) rfl, ⟨by decide +kernel, by decide +kernel⟩, by decide +kernel, Nat.le_of_ble_eq_true rfl, rfl, Nat.le_of_ble_eq_true rfl⟩
set_option maxRecDepth 20000 in
theorem xok_mX6_takeNumber : xMok mX6_takeNumber := ⟨xw (xc3 _ (List.mem_of_getElem? (i := 203) rfl)) rfl, xw (xc1 _ (List.mem_of_getElem? (i := 3) rfl)) rfl, ⟨by decide +kernel, by decide +kernel⟩, by decide +kernel, Nat.le_of_ble_eq_true rfl, rfl, Nat.le_of_ble_eq_true rfl⟩
set_option maxRecDepth 20000 in
theorem xok_mX6_takeSign : xMok mX6_takeSign := ⟨xw (xc3 _ (List.mem_of_getElem? (i := 207) rfl)) rfl, xw (xc1 _ (List.mem_of_getElem? (i := 3) rfl)) rfl, ⟨by decide +kernel, by decide +kernel⟩, by decide +kernel, Nat.le_of_ble_eq_true rfl, rfl, Nat.le_of_ble_eq_true rfl⟩
set_option maxRecDepth 20000 in
theorem xok_mX10_addThing : xMok mX10_addThing := ⟨xw (xc3 _ (List.mem_of_getElem? (i := 211) rfl)) rfl, xw (xc1 _ (List.mem_of_getElem? (i := 2) rfl)) rfl, ⟨by decide +kernel, by decide +kernel⟩, by decide +kernel, Nat.le_of_ble_eq_true rfl, rfl, Nat.le_of_ble_eq_true rfl⟩
set_option maxRecDepth 20000 in
theorem xok_mX6_readTwins : xMok mX6_readTwins := ⟨xw (xc3 _ (List.mem_of_getElem? (i := 219) rfl)) rfl, xw (xc1 _ (List.mem_of_getElem? (i := 3) rfl)) rfl, ⟨by decide +kernel, by decide +kernel⟩, by decide +kernel, Nat.le_of_ble_eq_true rfl, rfl, Nat.le_of_ble_eq_true rfl⟩
set_option maxRecDepth 20000 in
theorem xok_mX6_readSticks : xMok mX6_readSticks := ⟨xw (xc3 _ (List.mem_of_getElem? (i := 223) rfl)) rfl, xw (xc1 _ (List.mem_of_getElem? (i := 3) rfl)) rfl, ⟨by decide +kernel, by decide +kernel⟩, by decide +kernel, Nat.le_of_ble_eq_true rfl, rfl, Nat.le_of_ble_eq_true rfl⟩
set_option maxRecDepth 20000 in
theorem xok_mX6_readRow : xMok mX6_readRow := ⟨xw (xc3 _ (List.mem_of_getElem? (i := 227) rfl)) rfl, xw (xc1 _ (List.mem_of_getElem? (i := 3) rfl)) rfl, ⟨by decide +kernel, by decide +kernel⟩, by decide +kernel, Nat.le_of_ble_eq_true rfl, rfl, Nat.le_of_ble_eq_true rfl⟩
set_option maxRecDepth 20000 in
theorem xok_mX6_takeRowName : xMok mX6_takeRowName := ⟨xw (xc3 _ (List.mem_of_getElem? (i := 231) rfl)) rfl, xw (xc1 _ (List.mem_of_getElem? (i := 3) rfl)) rfl, ⟨by decide +kernel, by decide +kernel⟩, by decide +kernel, Nat.le_of_ble_eq_true rfl, rfl, Nat.le_of_ble_eq_true rfl⟩
set_option maxRecDepth 20000 in
theorem xok_mX10_rowBits : xMok mX10_rowBits := ⟨xw (xc3 _ (List.mem_of_getElem? (i := 235) rfl)) rfl, xw (xc1 _ (List.mem_of_getElem? (i := 2) rfl)) rfl, ⟨by decide +kernel, by decide +kernel⟩, by decide +kernel, Nat.le_of_ble_eq_true rfl, rfl, Nat.le_of_ble_eq_true rfl⟩
set_option maxRecDepth 20000 in
theorem xok_mX6_takeThing : xMok mX6_takeThing := ⟨xw (xc4 _ (List.mem_of_getElem? (i := 0) rfl)) rfl, xw (xc1 _ (List.mem_of_getElem? (i := 3) rfl)) rfl, ⟨by decide +kernel, by decide +kernel⟩, by decide +kernel, Nat.le_of_ble_eq_true rfl, rfl, Nat.le_of_ble_eq_true rfl⟩
set_option maxRecDepth 20000 in
theorem xok_mX7_hasBit : xMok mX7_hasBit := ⟨xw (xc4 _ (List.mem_of_getElem? (i := 3) rfl)) rfl, xw (xc1 _ (List.mem_of_getElem? (i := 16) rfl)) rfl, ⟨by decide +kernel, by decide +kernel⟩, by decide +kernel, Nat.le_of_ble_eq_true rfl, rfl, Nat.le_of_ble_eq_true rfl⟩
set_option maxRecDepth 20000 in
theorem xok_mX10_addToRow : xMok mX10_addToRow := ⟨xw (xc4 _ (List.mem_of_getElem? (i := 7) rfl)) rfl, xw (xc1 _ (List.mem_of_getElem? (i := 2) rfl)) rfl, ⟨by decide +kernel, by decide +kernel⟩, by decide +kernel, Nat.le_of_ble_eq_true rfl, rfl, Nat.le_of_ble_eq_true rfl⟩
set_option maxRecDepth 20000 in
theorem xok_mX6_readPlan : xMok mX6_readPlan := ⟨xw (xc4 _ (List.mem_of_getElem? (i := 11) rfl)) rfl, xw (xc1 _ (List.mem_of_getElem? (i := 3) rfl)) rfl, ⟨by decide +kernel, by decide +kernel⟩, by decide +kernel, Nat.le_of_ble_eq_true rfl, rfl, Nat.le_of_ble_eq_true rfl⟩
set_option maxRecDepth 20000 in
theorem xok_mX10_planOf : xMok mX10_planOf := ⟨xw (xc4 _ (List.mem_of_getElem? (i := 15) rfl)) rfl, xw (xc1 _ (List.mem_of_getElem? (i := 2) rfl)) rfl, ⟨by decide +kernel, by decide +kernel⟩, by decide +kernel, Nat.le_of_ble_eq_true rfl, rfl, Nat.le_of_ble_eq_true rfl⟩
set_option maxRecDepth 20000 in
theorem xok_mX6_readPart : xMok mX6_readPart := ⟨xw (xc4 _ (List.mem_of_getElem? (i := 18) rfl)) rfl, xw (xc1 _ (List.mem_of_getElem? (i := 3) rfl)) rfl, ⟨by decide +kernel, by decide +kernel⟩, by decide +kernel, Nat.le_of_ble_eq_true rfl, rfl, Nat.le_of_ble_eq_true rfl⟩
set_option maxRecDepth 20000 in
theorem xok_mX10_addTwo : xMok mX10_addTwo := ⟨xw (xc4 _ (List.mem_of_getElem? (i := 23) rfl)) rfl, xw (xc1 _ (List.mem_of_getElem? (i := 2) rfl)) rfl, ⟨by decide +kernel, by decide +kernel⟩, by decide +kernel, Nat.le_of_ble_eq_true rfl, rfl, Nat.le_of_ble_eq_true rfl⟩
set_option maxRecDepth 20000 in
theorem xok_mX10_setWay : xMok mX10_setWay := ⟨xw (xc4 _ (List.mem_of_getElem? (i := 27) rfl)) rfl, xw (xc1 _ (List.mem_of_getElem? (i := 2) rfl)) rfl, ⟨by decide +kernel, by decide +kernel⟩, by decide +kernel, Nat.le_of_ble_eq_true rfl, rfl, Nat.le_of_ble_eq_true rfl⟩
set_option maxRecDepth 20000 in
theorem xok_mX10_addPlan : xMok mX10_addPlan := ⟨xw (xc4 _ (List.mem_of_getElem? (i := 31) rfl)) rfl, xw (xc1 _ (List.mem_of_getElem? (i := 2) rfl)) rfl, ⟨by decide +kernel, by decide +kernel⟩, by decide +kernel, Nat.le_of_ble_eq_true rfl, rfl, Nat.le_of_ble_eq_true rfl⟩
set_option maxRecDepth 20000 in
theorem xok_mX10_completeRow : xMok mX10_completeRow := ⟨xw (xc4 _ (List.mem_of_getElem? (i := 35) rfl)) rfl, xw (xc1 _ (List.mem_of_getElem? (i := 2) rfl)) rfl, ⟨by decide +kernel, by decide +kernel⟩, by decide +kernel, Nat.le_of_ble_eq_true rfl, rfl, Nat.le_of_ble_eq_true rfl⟩
set_option maxRecDepth 20000 in
theorem xok_mX7_put : xMok mX7_put := ⟨xw (xc3 _ (List.mem_of_getElem? (i := 41) rfl)) rfl, xw (xc1 _ (List.mem_of_getElem? (i := 16) rfl)) rfl, ⟨by decide +kernel, by decide +kernel⟩, by decide +kernel, Nat.le_of_ble_eq_true rfl, rfl, Nat.le_of_ble_eq_true rfl⟩
set_option maxRecDepth 20000 in
theorem xok_mX5_isOrder : xMok mX5_isOrder := ⟨xw (xc3 _ (List.mem_of_getElem? (i := 45) rfl)) rfl, xw (xc1 _ (List.mem_of_getElem? (i := 9) rfl)) rfl, ⟨by decide +kernel, by decide +kernel⟩, by decide +kernel, Nat.le_of_ble_eq_true rfl, rfl, Nat.le_of_ble_eq_true rfl⟩
set_option maxRecDepth 20000 in
theorem xok_mX5_keepOrder : xMok mX5_keepOrder := ⟨xw (xc3 _ (List.mem_of_getElem? (i := 52) rfl)) rfl, xw (xc1 _ (List.mem_of_getElem? (i := 9) rfl)) rfl, ⟨by decide +kernel, by decide +kernel⟩, by decide +kernel, Nat.le_of_ble_eq_true rfl, rfl, Nat.le_of_ble_eq_true rfl⟩
set_option maxRecDepth 20000 in
theorem xok_mX5_markOfDigits : xMok mX5_markOfDigits := ⟨xw (xc3 _ (List.mem_of_getElem? (i := 56) rfl)) rfl, xw (xc1 _ (List.mem_of_getElem? (i := 9) rfl)) rfl, ⟨by decide +kernel, by decide +kernel⟩, by decide +kernel, Nat.le_of_ble_eq_true rfl, rfl, Nat.le_of_ble_eq_true rfl⟩
set_option maxRecDepth 20000 in
theorem xok_mX5_bitOf : xMok mX5_bitOf := ⟨xw (xc3 _ (List.mem_of_getElem? (i := 59) rfl)) rfl, xw (xc1 _ (List.mem_of_getElem? (i := 9) rfl)) rfl, ⟨by decide +kernel, by decide +kernel⟩, by decide +kernel, Nat.le_of_ble_eq_true rfl, rfl, Nat.le_of_ble_eq_true rfl⟩
set_option maxRecDepth 20000 in
theorem xok_mX5_pairOf : xMok mX5_pairOf := ⟨xw (xc3 _ (List.mem_of_getElem? (i := 62) rfl)) rfl, xw (xc1 _ (List.mem_of_getElem? (i := 9) rfl)) rfl, ⟨by decide +kernel, by decide +kernel⟩, by decide +kernel, Nat.le_of_ble_eq_true rfl, rfl, Nat.le_of_ble_eq_true rfl⟩
set_option maxRecDepth 20000 in
theorem xok_mX5_stepDigits : xMok mX5_stepDigits := ⟨xw (xc3 _ (List.mem_of_getElem? (i := 72) rfl)) rfl, xw (xc1 _ (List.mem_of_getElem? (i := 9) rfl)) rfl, ⟨by decide +kernel, by decide +kernel⟩, by decide +kernel, Nat.le_of_ble_eq_true rfl, rfl, Nat.le_of_ble_eq_true rfl⟩
set_option maxRecDepth 20000 in
theorem xok_mX7_fill : xMok mX7_fill := ⟨xw (xc4 _ (List.mem_of_getElem? (i := 144) rfl)) rfl, xw (xc1 _ (List.mem_of_getElem? (i := 16) rfl)) rfl, ⟨by decide +kernel, by decide +kernel⟩, by decide +kernel, Nat.le_of_ble_eq_true rfl, rfl, Nat.le_of_ble_eq_true rfl⟩
set_option maxRecDepth 20000 in
theorem xok_mX0_counts : xMok mX0_counts := ⟨xw (xc4 _ (List.mem_of_getElem? (i := 148) rfl)) rfl, xw (xc1 _ (List.mem_of_getElem? (i := 8) rfl)) rfl, ⟨by decide +kernel, by decide +kernel⟩, by decide +kernel, Nat.le_of_ble_eq_true rfl, rfl, Nat.le_of_ble_eq_true rfl⟩
set_option maxRecDepth 20000 in
theorem xok_mX0_isSingle : xMok mX0_isSingle := ⟨xw (xc4 _ (List.mem_of_getElem? (i := 152) rfl)) rfl, xw (xc1 _ (List.mem_of_getElem? (i := 8) rfl)) rfl, ⟨by decide +kernel, by decide +kernel⟩, by decide +kernel, Nat.le_of_ble_eq_true rfl, rfl, Nat.le_of_ble_eq_true rfl⟩
set_option maxRecDepth 20000 in
theorem xok_mX7_lowestBit : xMok mX7_lowestBit := ⟨xw (xc4 _ (List.mem_of_getElem? (i := 161) rfl)) rfl, xw (xc1 _ (List.mem_of_getElem? (i := 16) rfl)) rfl, ⟨by decide +kernel, by decide +kernel⟩, by decide +kernel, Nat.le_of_ble_eq_true rfl, rfl, Nat.le_of_ble_eq_true rfl⟩
set_option maxRecDepth 20000 in
theorem xok_mX7_add : xMok mX7_add := ⟨xw (xc4 _ (List.mem_of_getElem? (i := 170) rfl)) rfl, xw (xc1 _ (List.mem_of_getElem? (i := 16) rfl)) rfl, ⟨by decide +kernel, by decide +kernel⟩, by decide +kernel, Nat.le_of_ble_eq_true rfl, rfl, Nat.le_of_ble_eq_true rfl⟩
set_option maxRecDepth 20000 in
theorem xok_mJ6_bitCount_0f7a4 : xMok mJ6_bitCount_0f7a4 := ⟨xw (xc4 _ (List.mem_of_getElem? (i := 155) rfl)) rfl, xw (xc1 _ (List.mem_of_getElem? (i := 19) rfl)) rfl, ⟨by decide +kernel, by decide +kernel⟩, by decide +kernel, Nat.le_of_ble_eq_true rfl, rfl, Nat.le_of_ble_eq_true rfl⟩
set_option maxRecDepth 20000 in
theorem xok_mX5_isSet : xMok mX5_isSet := ⟨xw (xc6 _ (List.mem_of_getElem? (i := 87) rfl)) rfl, xw (xc1 _ (List.mem_of_getElem? (i := 9) rfl)) rfl, ⟨by decide +kernel, by decide +kernel⟩, by decide +kernel, Nat.le_of_ble_eq_true rfl, rfl, Nat.le_of_ble_eq_true rfl⟩
set_option maxRecDepth 20000 in
theorem xok_mX7_put_ : xMok mX7_put_ := ⟨xw (xc3 _ (List.mem_of_getElem? (i := 214) rfl)) rfl, xw (xc1 _ (List.mem_of_getElem? (i := 16) rfl)) rfl, ⟨by decide +kernel, by decide +kernel⟩, by decide +kernel, Nat.le_of_ble_eq_true rfl, rfl, Nat.le_of_ble_eq_true rfl⟩
set_option maxRecDepth 20000 in
theorem xok_mX10_isHeap : xMok mX10_isHeap := ⟨xw (xc4 _ (List.mem_of_getElem? (i := 65) rfl)) rfl, xw (xc1 _ (List.mem_of_getElem? (i := 2) rfl)) rfl, ⟨by decide +kernel, by decide +kernel⟩, by decide +kernel, Nat.le_of_ble_eq_true rfl, rfl, Nat.le_of_ble_eq_true rfl⟩
set_option maxRecDepth 20000 in
theorem xok_mX7_copy : xMok mX7_copy := ⟨xw (xc4 _ (List.mem_of_getElem? (i := 45) rfl)) rfl, xw (xc1 _ (List.mem_of_getElem? (i := 16) rfl)) rfl, ⟨by decide +kernel, by decide +kernel⟩, by decide +kernel, Nat.le_of_ble_eq_true rfl, rfl, Nat.le_of_ble_eq_true rfl⟩
set_option maxRecDepth 20000 in
theorem xok_mX0_heapOf : xMok mX0_heapOf := ⟨xw (xc4 _ (List.mem_of_getElem? (i := 77) rfl)) rfl, xw (xc1 _ (List.mem_of_getElem? (i := 8) rfl)) rfl, ⟨by decide +kernel, by decide +kernel⟩, by decide +kernel, Nat.le_of_ble_eq_true rfl, rfl, Nat.le_of_ble_eq_true rfl⟩
set_option maxRecDepth 20000 in
theorem xok_mX0_has : xMok mX0_has := ⟨xw (xc4 _ (List.mem_of_getElem? (i := 100) rfl)) rfl, xw (xc1 _ (List.mem_of_getElem? (i := 8) rfl)) rfl, ⟨by decide +kernel, by decide +kernel⟩, by decide +kernel, Nat.le_of_ble_eq_true rfl, rfl, Nat.le_of_ble_eq_true rfl⟩
set_option maxRecDepth 20000 in
theorem xok_mX0_isUntold : xMok mX0_isUntold := ⟨xw (xc4 _ (List.mem_of_getElem? (i := 104) rfl)) rfl, xw (xc1 _ (List.mem_of_getElem? (i := 8) rfl)) rfl, ⟨by decide +kernel, by decide +kernel⟩, by decide +kernel, Nat.le_of_ble_eq_true rfl, rfl, Nat.le_of_ble_eq_true rfl⟩
set_option maxRecDepth 20000 in
theorem xok_mX0_thingAtRank : xMok mX0_thingAtRank := ⟨xw (xc4 _ (List.mem_of_getElem? (i := 116) rfl)) rfl, xw (xc1 _ (List.mem_of_getElem? (i := 8) rfl)) rfl, ⟨by decide +kernel, by decide +kernel⟩, by decide +kernel, Nat.le_of_ble_eq_true rfl, rfl, Nat.le_of_ble_eq_true rfl⟩
set_option maxRecDepth 20000 in
theorem xok_mJ13_bitCount_95d88 : xMok mJ13_bitCount_95d88 := ⟨xw (xc4 _ (List.mem_of_getElem? (i := 164) rfl)) rfl, xw (xc1 _ (List.mem_of_getElem? (i := 20) rfl)) rfl, ⟨by decide +kernel, by decide +kernel⟩, by decide +kernel, Nat.le_of_ble_eq_true rfl, rfl, Nat.le_of_ble_eq_true rfl⟩
set_option maxRecDepth 20000 in
theorem xok_mX8_numberPairs : xMok mX8_numberPairs := ⟨xw (xc5 _ (List.mem_of_getElem? (i := 37) rfl)) rfl, xw (xc1 _ (List.mem_of_getElem? (i := 10) rfl)) rfl, ⟨by decide +kernel, by decide +kernel⟩, by decide +kernel, Nat.le_of_ble_eq_true rfl, rfl, Nat.le_of_ble_eq_true rfl⟩
set_option maxRecDepth 20000 in
theorem xok_mX8_sortIn : xMok mX8_sortIn := ⟨xw (xc5 _ (List.mem_of_getElem? (i := 55) rfl)) rfl, xw (xc1 _ (List.mem_of_getElem? (i := 10) rfl)) rfl, ⟨by decide +kernel, by decide +kernel⟩, by decide +kernel, Nat.le_of_ble_eq_true rfl, rfl, Nat.le_of_ble_eq_true rfl⟩
set_option maxRecDepth 20000 in
theorem xok_mX8_putIn : xMok mX8_putIn := ⟨xw (xc5 _ (List.mem_of_getElem? (i := 60) rfl)) rfl, xw (xc1 _ (List.mem_of_getElem? (i := 10) rfl)) rfl, ⟨by decide +kernel, by decide +kernel⟩, by decide +kernel, Nat.le_of_ble_eq_true rfl, rfl, Nat.le_of_ble_eq_true rfl⟩
set_option maxRecDepth 20000 in
theorem xok_mX7_at_ : xMok mX7_at_ := ⟨xw (xc5 _ (List.mem_of_getElem? (i := 63) rfl)) rfl, xw (xc1 _ (List.mem_of_getElem? (i := 16) rfl)) rfl, ⟨by decide +kernel, by decide +kernel⟩, by decide +kernel, Nat.le_of_ble_eq_true rfl, rfl, Nat.le_of_ble_eq_true rfl⟩
set_option maxRecDepth 20000 in
theorem xok_mX8_kindLike : xMok mX8_kindLike := ⟨xw (xc5 _ (List.mem_of_getElem? (i := 67) rfl)) rfl, xw (xc1 _ (List.mem_of_getElem? (i := 10) rfl)) rfl, ⟨by decide +kernel, by decide +kernel⟩, by decide +kernel, Nat.le_of_ble_eq_true rfl, rfl, Nat.le_of_ble_eq_true rfl⟩
set_option maxRecDepth 20000 in
theorem xok_mX8_allLow : xMok mX8_allLow := ⟨xw (xc5 _ (List.mem_of_getElem? (i := 75) rfl)) rfl, xw (xc1 _ (List.mem_of_getElem? (i := 10) rfl)) rfl, ⟨by decide +kernel, by decide +kernel⟩, by decide +kernel, Nat.le_of_ble_eq_true rfl, rfl, Nat.le_of_ble_eq_true rfl⟩
set_option maxRecDepth 20000 in
theorem xok_mX8_allHigh : xMok mX8_allHigh := ⟨xw (xc5 _ (List.mem_of_getElem? (i := 80) rfl)) rfl, xw (xc1 _ (List.mem_of_getElem? (i := 10) rfl)) rfl, ⟨by decide +kernel, by decide +kernel⟩, by decide +kernel, Nat.le_of_ble_eq_true rfl, rfl, Nat.le_of_ble_eq_true rfl⟩
set_option maxRecDepth 20000 in
theorem xok_mX8_surePairs : xMok mX8_surePairs := ⟨xw (xc5 _ (List.mem_of_getElem? (i := 85) rfl)) rfl, xw (xc1 _ (List.mem_of_getElem? (i := 10) rfl)) rfl, ⟨by decide +kernel, by decide +kernel⟩, by decide +kernel, Nat.le_of_ble_eq_true rfl, rfl, Nat.le_of_ble_eq_true rfl⟩
set_option maxRecDepth 20000 in
theorem xok_mX8_pairs : xMok mX8_pairs := ⟨xw (xc5 _ (List.mem_of_getElem? (i := 89) rfl)) rfl, xw (xc1 _ (List.mem_of_getElem? (i := 10) rfl)) rfl, ⟨by decide +kernel, by decide +kernel⟩, by decide +kernel, Nat.le_of_ble_eq_true rfl, rfl, Nat.le_of_ble_eq_true rfl⟩
set_option maxRecDepth 20000 in
theorem xok_mX8_worstFrom : xMok mX8_worstFrom := ⟨xw (xc5 _ (List.mem_of_getElem? (i := 92) rfl)) rfl, xw (xc1 _ (List.mem_of_getElem? (i := 10) rfl)) rfl, ⟨by decide +kernel, by decide +kernel⟩, by decide +kernel, Nat.le_of_ble_eq_true rfl, rfl, Nat.le_of_ble_eq_true rfl⟩
set_option maxRecDepth 20000 in
theorem xok_mX8_isAlike : xMok mX8_isAlike := ⟨xw (xc5 _ (List.mem_of_getElem? (i := 96) rfl)) rfl, xw (xc1 _ (List.mem_of_getElem? (i := 10) rfl)) rfl, ⟨by decide +kernel, by decide +kernel⟩, by decide +kernel, Nat.le_of_ble_eq_true rfl, rfl, Nat.le_of_ble_eq_true rfl⟩
set_option maxRecDepth 20000 in
theorem xok_mX8_slotOf : xMok mX8_slotOf := ⟨xw (xc5 _ (List.mem_of_getElem? (i := 103) rfl)) rfl, xw (xc1 _ (List.mem_of_getElem? (i := 10) rfl)) rfl, ⟨by decide +kernel, by decide +kernel⟩, by decide +kernel, Nat.le_of_ble_eq_true rfl, rfl, Nat.le_of_ble_eq_true rfl⟩
set_option maxRecDepth 20000 in
theorem xok_mX8_joinsFor : xMok mX8_joinsFor := ⟨xw (xc5 _ (List.mem_of_getElem? (i := 109) rfl)) rfl, xw (xc1 _ (List.mem_of_getElem? (i := 10) rfl)) rfl, ⟨by decide +kernel, by decide +kernel⟩, by decide +kernel, Nat.le_of_ble_eq_true rfl, rfl, Nat.le_of_ble_eq_true rfl⟩
set_option maxRecDepth 20000 in
theorem xok_mX8_countGroups : xMok mX8_countGroups := ⟨xw (xc5 _ (List.mem_of_getElem? (i := 113) rfl)) rfl, xw (xc1 _ (List.mem_of_getElem? (i := 10) rfl)) rfl, ⟨by decide +kernel, by decide +kernel⟩, by decide +kernel, Nat.le_of_ble_eq_true rfl, rfl, Nat.le_of_ble_eq_true rfl⟩
set_option maxRecDepth 20000 in
theorem xok_mX8_leastWorst : xMok mX8_leastWorst := ⟨xw (xc5 _ (List.mem_of_getElem? (i := 118) rfl)) rfl, xw (xc1 _ (List.mem_of_getElem? (i := 10) rfl)) rfl, ⟨by decide +kernel, by decide +kernel⟩, by decide +kernel, Nat.le_of_ble_eq_true rfl, rfl, Nat.le_of_ble_eq_true rfl⟩
set_option maxRecDepth 20000 in
theorem xok_mX8_kindsIn : xMok mX8_kindsIn := ⟨xw (xc5 _ (List.mem_of_getElem? (i := 122) rfl)) rfl, xw (xc1 _ (List.mem_of_getElem? (i := 10) rfl)) rfl, ⟨by decide +kernel, by decide +kernel⟩, by decide +kernel, Nat.le_of_ble_eq_true rfl, rfl, Nat.le_of_ble_eq_true rfl⟩
set_option maxRecDepth 20000 in
theorem xok_mX8_freeThings : xMok mX8_freeThings := ⟨xw (xc5 _ (List.mem_of_getElem? (i := 130) rfl)) rfl, xw (xc1 _ (List.mem_of_getElem? (i := 10) rfl)) rfl, ⟨by decide +kernel, by decide +kernel⟩, by decide +kernel, Nat.le_of_ble_eq_true rfl, rfl, Nat.le_of_ble_eq_true rfl⟩
set_option maxRecDepth 20000 in
theorem xok_mX8_codeOf : xMok mX8_codeOf := ⟨xw (xc5 _ (List.mem_of_getElem? (i := 134) rfl)) rfl, xw (xc1 _ (List.mem_of_getElem? (i := 10) rfl)) rfl, ⟨by decide +kernel, by decide +kernel⟩, by decide +kernel, Nat.le_of_ble_eq_true rfl, rfl, Nat.le_of_ble_eq_true rfl⟩
set_option maxRecDepth 20000 in
theorem xok_mX8_isFirstLike : xMok mX8_isFirstLike := ⟨xw (xc5 _ (List.mem_of_getElem? (i := 138) rfl)) rfl, xw (xc1 _ (List.mem_of_getElem? (i := 10) rfl)) rfl, ⟨by decide +kernel, by decide +kernel⟩, by decide +kernel, Nat.le_of_ble_eq_true rfl, rfl, Nat.le_of_ble_eq_true rfl⟩
set_option maxRecDepth 20000 in
theorem xok_mX8_worstBehind : xMok mX8_worstBehind := ⟨xw (xc5 _ (List.mem_of_getElem? (i := 141) rfl)) rfl, xw (xc1 _ (List.mem_of_getElem? (i := 10) rfl)) rfl, ⟨by decide +kernel, by decide +kernel⟩, by decide +kernel, Nat.le_of_ble_eq_true rfl, rfl, Nat.le_of_ble_eq_true rfl⟩
set_option maxRecDepth 20000 in
theorem xok_mX8_sumFrom : xMok mX8_sumFrom := ⟨xw (xc5 _ (List.mem_of_getElem? (i := 161) rfl)) rfl, xw (xc1 _ (List.mem_of_getElem? (i := 10) rfl)) rfl, ⟨by decide +kernel, by decide +kernel⟩, by decide +kernel, Nat.le_of_ble_eq_true rfl, rfl, Nat.le_of_ble_eq_true rfl⟩
set_option maxRecDepth 20000 in
theorem xok_mX8_leastSum : xMok mX8_leastSum := ⟨xw (xc5 _ (List.mem_of_getElem? (i := 165) rfl)) rfl, xw (xc1 _ (List.mem_of_getElem? (i := 10) rfl)) rfl, ⟨by decide +kernel, by decide +kernel⟩, by decide +kernel, Nat.le_of_ble_eq_true rfl, rfl, Nat.le_of_ble_eq_true rfl⟩
set_option maxRecDepth 20000 in
theorem xok_mX8_sumBehind : xMok mX8_sumBehind := ⟨xw (xc5 _ (List.mem_of_getElem? (i := 168) rfl)) rfl, xw (xc1 _ (List.mem_of_getElem? (i := 10) rfl)) rfl, ⟨by decide +kernel, by decide +kernel⟩, by decide +kernel, Nat.le_of_ble_eq_true rfl, rfl, Nat.le_of_ble_eq_true rfl⟩
set_option maxRecDepth 20000 in
theorem xok_mX4_leastSet : xMok mX4_leastSet := ⟨xw (xc5 _ (List.mem_of_getElem? (i := 190) rfl)) rfl, xw (xc1 _ (List.mem_of_getElem? (i := 11) rfl)) rfl, ⟨by decide +kernel, by decide +kernel⟩, by decide +kernel, Nat.le_of_ble_eq_true rfl, rfl, Nat.le_of_ble_eq_true rfl⟩
set_option maxRecDepth 20000 in
theorem xok_mX5_saidBy : xMok mX5_saidBy := ⟨xw (xc5 _ (List.mem_of_getElem? (i := 217) rfl)) rfl, xw (xc1 _ (List.mem_of_getElem? (i := 9) rfl)) rfl, ⟨by decide +kernel, by decide +kernel⟩, by decide +kernel, Nat.le_of_ble_eq_true rfl, rfl, Nat.le_of_ble_eq_true rfl⟩
set_option maxRecDepth 20000 in
theorem xok_mX2_comeTo : xMok mX2_comeTo := ⟨xw (xc5 _ (List.mem_of_getElem? (i := 222) rfl)) rfl, xw (xc1 _ (List.mem_of_getElem? (i := 13) rfl)) rfl, ⟨by decide +kernel, by decide +kernel⟩, by decide +kernel, Nat.le_of_ble_eq_true rfl, rfl, Nat.le_of_ble_eq_true rfl⟩
set_option maxRecDepth 20000 in
theorem xok_mX3_loadTruths : xMok mX3_loadTruths := ⟨xw (xc6 _ (List.mem_of_getElem? (i := 1) rfl)) rfl, xw (xc1 _ (List.mem_of_getElem? (i := 12) rfl)) rfl, ⟨by decide +kernel, by decide +kernel⟩, by decide +kernel, Nat.le_of_ble_eq_true rfl, rfl, Nat.le_of_ble_eq_true rfl⟩
set_option maxRecDepth 20000 in
theorem xok_mX3_isAlike : xMok mX3_isAlike := ⟨xw (xc6 _ (List.mem_of_getElem? (i := 7) rfl)) rfl, xw (xc1 _ (List.mem_of_getElem? (i := 12) rfl)) rfl, ⟨by decide +kernel, by decide +kernel⟩, by decide +kernel, Nat.le_of_ble_eq_true rfl, rfl, Nat.le_of_ble_eq_true rfl⟩
set_option maxRecDepth 20000 in
theorem xok_mX3_needOf : xMok mX3_needOf := ⟨xw (xc6 _ (List.mem_of_getElem? (i := 14) rfl)) rfl, xw (xc1 _ (List.mem_of_getElem? (i := 12) rfl)) rfl, ⟨by decide +kernel, by decide +kernel⟩, by decide +kernel, Nat.le_of_ble_eq_true rfl, rfl, Nat.le_of_ble_eq_true rfl⟩
set_option maxRecDepth 20000 in
theorem xok_mX3_worstBehind : xMok mX3_worstBehind := ⟨xw (xc6 _ (List.mem_of_getElem? (i := 18) rfl)) rfl, xw (xc1 _ (List.mem_of_getElem? (i := 12) rfl)) rfl, ⟨by decide +kernel, by decide +kernel⟩, by decide +kernel, Nat.le_of_ble_eq_true rfl, rfl, Nat.le_of_ble_eq_true rfl⟩
set_option maxRecDepth 20000 in
theorem xok_mX1_isRule : xMok mX1_isRule := ⟨xw (xc6 _ (List.mem_of_getElem? (i := 120) rfl)) rfl, xw (xc1 _ (List.mem_of_getElem? (i := 14) rfl)) rfl, ⟨by decide +kernel, by decide +kernel⟩, by decide +kernel, Nat.le_of_ble_eq_true rfl, rfl, Nat.le_of_ble_eq_true rfl⟩
set_option maxRecDepth 20000 in
theorem xok_mX1_isRuleAt : xMok mX1_isRuleAt := ⟨xw (xc6 _ (List.mem_of_getElem? (i := 124) rfl)) rfl, xw (xc1 _ (List.mem_of_getElem? (i := 14) rfl)) rfl, ⟨by decide +kernel, by decide +kernel⟩, by decide +kernel, Nat.le_of_ble_eq_true rfl, rfl, Nat.le_of_ble_eq_true rfl⟩
set_option maxRecDepth 20000 in
theorem xok_mX1_guess : xMok mX1_guess := ⟨xw (xc6 _ (List.mem_of_getElem? (i := 133) rfl)) rfl, xw (xc1 _ (List.mem_of_getElem? (i := 14) rfl)) rfl, ⟨by decide +kernel, by decide +kernel⟩, by decide +kernel, Nat.le_of_ble_eq_true rfl, rfl, Nat.le_of_ble_eq_true rfl⟩
set_option maxRecDepth 20000 in
theorem xok_mX1_layFrom : xMok mX1_layFrom := ⟨xw (xc6 _ (List.mem_of_getElem? (i := 137) rfl)) rfl, xw (xc1 _ (List.mem_of_getElem? (i := 14) rfl)) rfl, ⟨by decide +kernel, by decide +kernel⟩, by decide +kernel, Nat.le_of_ble_eq_true rfl, rfl, Nat.le_of_ble_eq_true rfl⟩
set_option maxRecDepth 20000 in
theorem xok_mX1_layLast : xMok mX1_layLast := ⟨xw (xc6 _ (List.mem_of_getElem? (i := 141) rfl)) rfl, xw (xc1 _ (List.mem_of_getElem? (i := 14) rfl)) rfl, ⟨by decide +kernel, by decide +kernel⟩, by decide +kernel, Nat.le_of_ble_eq_true rfl, rfl, Nat.le_of_ble_eq_true rfl⟩
set_option maxRecDepth 20000 in
theorem xok_mX1_fitting : xMok mX1_fitting := ⟨xw (xc6 _ (List.mem_of_getElem? (i := 145) rfl)) rfl, xw (xc1 _ (List.mem_of_getElem? (i := 14) rfl)) rfl, ⟨by decide +kernel, by decide +kernel⟩, by decide +kernel, Nat.le_of_ble_eq_true rfl, rfl, Nat.le_of_ble_eq_true rfl⟩
set_option maxRecDepth 20000 in
theorem xok_mX1_fitsOf : xMok mX1_fitsOf := ⟨xw (xc6 _ (List.mem_of_getElem? (i := 149) rfl)) rfl, xw (xc1 _ (List.mem_of_getElem? (i := 14) rfl)) rfl, ⟨by decide +kernel, by decide +kernel⟩, by decide +kernel, Nat.le_of_ble_eq_true rfl, rfl, Nat.le_of_ble_eq_true rfl⟩
set_option maxRecDepth 20000 in
theorem xok_mX1_upTo : xMok mX1_upTo := ⟨xw (xc6 _ (List.mem_of_getElem? (i := 152) rfl)) rfl, xw (xc1 _ (List.mem_of_getElem? (i := 14) rfl)) rfl, ⟨by decide +kernel, by decide +kernel⟩, by decide +kernel, Nat.le_of_ble_eq_true rfl, rfl, Nat.le_of_ble_eq_true rfl⟩
set_option maxRecDepth 20000 in
theorem xok_mX1_note : xMok mX1_note := ⟨xw (xc6 _ (List.mem_of_getElem? (i := 156) rfl)) rfl, xw (xc1 _ (List.mem_of_getElem? (i := 14) rfl)) rfl, ⟨by decide +kernel, by decide +kernel⟩, by decide +kernel, Nat.le_of_ble_eq_true rfl, rfl, Nat.le_of_ble_eq_true rfl⟩
set_option maxRecDepth 20000 in
theorem xok_mX1_lay : xMok mX1_lay := ⟨xw (xc6 _ (List.mem_of_getElem? (i := 166) rfl)) rfl, xw (xc1 _ (List.mem_of_getElem? (i := 14) rfl)) rfl, ⟨by decide +kernel, by decide +kernel⟩, by decide +kernel, Nat.le_of_ble_eq_true rfl, rfl, Nat.le_of_ble_eq_true rfl⟩
set_option maxRecDepth 20000 in
theorem xok_mX1_holds : xMok mX1_holds := ⟨xw (xc6 _ (List.mem_of_getElem? (i := 170) rfl)) rfl, xw (xc1 _ (List.mem_of_getElem? (i := 14) rfl)) rfl, ⟨by decide +kernel, by decide +kernel⟩, by decide +kernel, Nat.le_of_ble_eq_true rfl, rfl, Nat.le_of_ble_eq_true rfl⟩
set_option maxRecDepth 20000 in
theorem xok_mX1_ask : xMok mX1_ask := ⟨xw (xc6 _ (List.mem_of_getElem? (i := 194) rfl)) rfl, xw (xc1 _ (List.mem_of_getElem? (i := 14) rfl)) rfl, ⟨by decide +kernel, by decide +kernel⟩, by decide +kernel, Nat.le_of_ble_eq_true rfl, rfl, Nat.le_of_ble_eq_true rfl⟩
set_option maxRecDepth 20000 in
theorem xok_mX1_askAll : xMok mX1_askAll := ⟨xw (xc6 _ (List.mem_of_getElem? (i := 219) rfl)) rfl, xw (xc1 _ (List.mem_of_getElem? (i := 14) rfl)) rfl, ⟨by decide +kernel, by decide +kernel⟩, by decide +kernel, Nat.le_of_ble_eq_true rfl, rfl, Nat.le_of_ble_eq_true rfl⟩
set_option maxRecDepth 20000 in
theorem xok_mX9_powerOf : xMok mX9_powerOf := ⟨xw (xc6 _ (List.mem_of_getElem? (i := 206) rfl)) rfl, xw (xc1 _ (List.mem_of_getElem? (i := 15) rfl)) rfl, ⟨by decide +kernel, by decide +kernel⟩, by decide +kernel, Nat.le_of_ble_eq_true rfl, rfl, Nat.le_of_ble_eq_true rfl⟩
set_option maxRecDepth 20000 in
theorem xok_mX12_clearBank : xMok mX12_clearBank := ⟨xw (xc7 _ (List.mem_of_getElem? (i := 9) rfl)) rfl, xw (xc1 _ (List.mem_of_getElem? (i := 18) rfl)) rfl, ⟨by decide +kernel, by decide +kernel⟩, by decide +kernel, Nat.le_of_ble_eq_true rfl, rfl, Nat.le_of_ble_eq_true rfl⟩
set_option maxRecDepth 20000 in
theorem xok_mX12_layOrders : xMok mX12_layOrders := ⟨xw (xc7 _ (List.mem_of_getElem? (i := 13) rfl)) rfl, xw (xc1 _ (List.mem_of_getElem? (i := 18) rfl)) rfl, ⟨by decide +kernel, by decide +kernel⟩, by decide +kernel, Nat.le_of_ble_eq_true rfl, rfl, Nat.le_of_ble_eq_true rfl⟩
set_option maxRecDepth 20000 in
theorem xok_mX12_thingMany : xMok mX12_thingMany := ⟨xw (xc7 _ (List.mem_of_getElem? (i := 17) rfl)) rfl, xw (xc1 _ (List.mem_of_getElem? (i := 18) rfl)) rfl, ⟨by decide +kernel, by decide +kernel⟩, by decide +kernel, Nat.le_of_ble_eq_true rfl, rfl, Nat.le_of_ble_eq_true rfl⟩
set_option maxRecDepth 20000 in
theorem xok_mX12_isOrder : xMok mX12_isOrder := ⟨xw (xc7 _ (List.mem_of_getElem? (i := 21) rfl)) rfl, xw (xc1 _ (List.mem_of_getElem? (i := 18) rfl)) rfl, ⟨by decide +kernel, by decide +kernel⟩, by decide +kernel, Nat.le_of_ble_eq_true rfl, rfl, Nat.le_of_ble_eq_true rfl⟩
set_option maxRecDepth 20000 in
theorem xok_mX12_goOn : xMok mX12_goOn := ⟨xw (xc8 _ (List.mem_of_getElem? (i := 61) rfl)) rfl, xw (xc1 _ (List.mem_of_getElem? (i := 18) rfl)) rfl, ⟨by decide +kernel, by decide +kernel⟩, by decide +kernel, Nat.le_of_ble_eq_true rfl, rfl, Nat.le_of_ble_eq_true rfl⟩
set_option maxRecDepth 20000 in
theorem xok_mX12_sign : xMok mX12_sign := ⟨xw (xc8 _ (List.mem_of_getElem? (i := 65) rfl)) rfl, xw (xc1 _ (List.mem_of_getElem? (i := 18) rfl)) rfl, ⟨by decide +kernel, by decide +kernel⟩, by decide +kernel, Nat.le_of_ble_eq_true rfl, rfl, Nat.le_of_ble_eq_true rfl⟩
set_option maxRecDepth 20000 in
theorem xok_mX12_isLetter : xMok mX12_isLetter := ⟨xw (xc8 _ (List.mem_of_getElem? (i := 68) rfl)) rfl, xw (xc1 _ (List.mem_of_getElem? (i := 18) rfl)) rfl, ⟨by decide +kernel, by decide +kernel⟩, by decide +kernel, Nat.le_of_ble_eq_true rfl, rfl, Nat.le_of_ble_eq_true rfl⟩
set_option maxRecDepth 20000 in
theorem xok_mX12_isKept : xMok mX12_isKept := ⟨xw (xc8 _ (List.mem_of_getElem? (i := 71) rfl)) rfl, xw (xc1 _ (List.mem_of_getElem? (i := 18) rfl)) rfl, ⟨by decide +kernel, by decide +kernel⟩, by decide +kernel, Nat.le_of_ble_eq_true rfl, rfl, Nat.le_of_ble_eq_true rfl⟩
set_option maxRecDepth 20000 in
theorem xok_mX12_isDigit : xMok mX12_isDigit := ⟨xw (xc8 _ (List.mem_of_getElem? (i := 81) rfl)) rfl, xw (xc1 _ (List.mem_of_getElem? (i := 18) rfl)) rfl, ⟨by decide +kernel, by decide +kernel⟩, by decide +kernel, Nat.le_of_ble_eq_true rfl, rfl, Nat.le_of_ble_eq_true rfl⟩
set_option maxRecDepth 20000 in
theorem xok_mX12_isGood : xMok mX12_isGood := ⟨xw (xc8 _ (List.mem_of_getElem? (i := 85) rfl)) rfl, xw (xc1 _ (List.mem_of_getElem? (i := 18) rfl)) rfl, ⟨by decide +kernel, by decide +kernel⟩, by decide +kernel, Nat.le_of_ble_eq_true rfl, rfl, Nat.le_of_ble_eq_true rfl⟩
set_option maxRecDepth 20000 in
theorem xok_mX12_readLine : xMok mX12_readLine := ⟨xw (xc8 _ (List.mem_of_getElem? (i := 89) rfl)) rfl, xw (xc1 _ (List.mem_of_getElem? (i := 18) rfl)) rfl, ⟨by decide +kernel, by decide +kernel⟩, by decide +kernel, Nat.le_of_ble_eq_true rfl, rfl, Nat.le_of_ble_eq_true rfl⟩
set_option maxRecDepth 20000 in
theorem xok_mX12_isFull : xMok mX12_isFull := ⟨xw (xc8 _ (List.mem_of_getElem? (i := 93) rfl)) rfl, xw (xc1 _ (List.mem_of_getElem? (i := 18) rfl)) rfl, ⟨by decide +kernel, by decide +kernel⟩, by decide +kernel, Nat.le_of_ble_eq_true rfl, rfl, Nat.le_of_ble_eq_true rfl⟩
set_option maxRecDepth 20000 in
theorem xok_mX12_isWord : xMok mX12_isWord := ⟨xw (xc8 _ (List.mem_of_getElem? (i := 97) rfl)) rfl, xw (xc1 _ (List.mem_of_getElem? (i := 18) rfl)) rfl, ⟨by decide +kernel, by decide +kernel⟩, by decide +kernel, Nat.le_of_ble_eq_true rfl, rfl, Nat.le_of_ble_eq_true rfl⟩
set_option maxRecDepth 20000 in
theorem xok_mX12_misplaced : xMok mX12_misplaced := ⟨xw (xc8 _ (List.mem_of_getElem? (i := 101) rfl)) rfl, xw (xc1 _ (List.mem_of_getElem? (i := 18) rfl)) rfl, ⟨by decide +kernel, by decide +kernel⟩, by decide +kernel, Nat.le_of_ble_eq_true rfl, rfl, Nat.le_of_ble_eq_true rfl⟩
set_option maxRecDepth 20000 in
theorem xok_mX12_fails : xMok mX12_fails := ⟨xw (xc8 _ (List.mem_of_getElem? (i := 105) rfl)) rfl, xw (xc1 _ (List.mem_of_getElem? (i := 18) rfl)) rfl, ⟨by decide +kernel, by decide +kernel⟩, by decide +kernel, Nat.le_of_ble_eq_true rfl, rfl, Nat.le_of_ble_eq_true rfl⟩
set_option maxRecDepth 20000 in
theorem xok_mX12_numeral : xMok mX12_numeral := ⟨xw (xc8 _ (List.mem_of_getElem? (i := 109) rfl)) rfl, xw (xc1 _ (List.mem_of_getElem? (i := 18) rfl)) rfl, ⟨by decide +kernel, by decide +kernel⟩, by decide +kernel, Nat.le_of_ble_eq_true rfl, rfl, Nat.le_of_ble_eq_true rfl⟩
set_option maxRecDepth 20000 in
theorem xok_mX12_readThing : xMok mX12_readThing := ⟨xw (xc8 _ (List.mem_of_getElem? (i := 113) rfl)) rfl, xw (xc1 _ (List.mem_of_getElem? (i := 18) rfl)) rfl, ⟨by decide +kernel, by decide +kernel⟩, by decide +kernel, Nat.le_of_ble_eq_true rfl, rfl, Nat.le_of_ble_eq_true rfl⟩
set_option maxRecDepth 20000 in
theorem xok_mX12_thingHere : xMok mX12_thingHere := ⟨xw (xc8 _ (List.mem_of_getElem? (i := 117) rfl)) rfl, xw (xc1 _ (List.mem_of_getElem? (i := 18) rfl)) rfl, ⟨by decide +kernel, by decide +kernel⟩, by decide +kernel, Nat.le_of_ble_eq_true rfl, rfl, Nat.le_of_ble_eq_true rfl⟩
set_option maxRecDepth 20000 in
theorem xok_mX12_must : xMok mX12_must := ⟨xw (xc8 _ (List.mem_of_getElem? (i := 121) rfl)) rfl, xw (xc1 _ (List.mem_of_getElem? (i := 18) rfl)) rfl, ⟨by decide +kernel, by decide +kernel⟩, by decide +kernel, Nat.le_of_ble_eq_true rfl, rfl, Nat.le_of_ble_eq_true rfl⟩
set_option maxRecDepth 20000 in
theorem xok_mX12_readRow : xMok mX12_readRow := ⟨xw (xc8 _ (List.mem_of_getElem? (i := 125) rfl)) rfl, xw (xc1 _ (List.mem_of_getElem? (i := 18) rfl)) rfl, ⟨by decide +kernel, by decide +kernel⟩, by decide +kernel, Nat.le_of_ble_eq_true rfl, rfl, Nat.le_of_ble_eq_true rfl⟩
set_option maxRecDepth 20000 in
theorem xok_mX12_isInRow : xMok mX12_isInRow := ⟨xw (xc8 _ (List.mem_of_getElem? (i := 129) rfl)) rfl, xw (xc1 _ (List.mem_of_getElem? (i := 18) rfl)) rfl, ⟨by decide +kernel, by decide +kernel⟩, by decide +kernel, Nat.le_of_ble_eq_true rfl, rfl, Nat.le_of_ble_eq_true rfl⟩
set_option maxRecDepth 20000 in
theorem xok_mX12_readPlan : xMok mX12_readPlan := ⟨xw (xc8 _ (List.mem_of_getElem? (i := 133) rfl)) rfl, xw (xc1 _ (List.mem_of_getElem? (i := 18) rfl)) rfl, ⟨by decide +kernel, by decide +kernel⟩, by decide +kernel, Nat.le_of_ble_eq_true rfl, rfl, Nat.le_of_ble_eq_true rfl⟩
set_option maxRecDepth 20000 in
theorem xok_mX12_planHere : xMok mX12_planHere := ⟨xw (xc8 _ (List.mem_of_getElem? (i := 137) rfl)) rfl, xw (xc1 _ (List.mem_of_getElem? (i := 18) rfl)) rfl, ⟨by decide +kernel, by decide +kernel⟩, by decide +kernel, Nat.le_of_ble_eq_true rfl, rfl, Nat.le_of_ble_eq_true rfl⟩
set_option maxRecDepth 20000 in
theorem xok_mX12_readP : xMok mX12_readP := ⟨xw (xc8 _ (List.mem_of_getElem? (i := 141) rfl)) rfl, xw (xc1 _ (List.mem_of_getElem? (i := 18) rfl)) rfl, ⟨by decide +kernel, by decide +kernel⟩, by decide +kernel, Nat.le_of_ble_eq_true rfl, rfl, Nat.le_of_ble_eq_true rfl⟩
set_option maxRecDepth 20000 in
theorem xok_mX12_readTwo : xMok mX12_readTwo := ⟨xw (xc8 _ (List.mem_of_getElem? (i := 145) rfl)) rfl, xw (xc1 _ (List.mem_of_getElem? (i := 18) rfl)) rfl, ⟨by decide +kernel, by decide +kernel⟩, by decide +kernel, Nat.le_of_ble_eq_true rfl, rfl, Nat.le_of_ble_eq_true rfl⟩
set_option maxRecDepth 20000 in
theorem xok_mX12_isSignHere : xMok mX12_isSignHere := ⟨xw (xc8 _ (List.mem_of_getElem? (i := 149) rfl)) rfl, xw (xc1 _ (List.mem_of_getElem? (i := 18) rfl)) rfl, ⟨by decide +kernel, by decide +kernel⟩, by decide +kernel, Nat.le_of_ble_eq_true rfl, rfl, Nat.le_of_ble_eq_true rfl⟩
set_option maxRecDepth 20000 in
theorem xok_mX12_closes : xMok mX12_closes := ⟨xw (xc8 _ (List.mem_of_getElem? (i := 153) rfl)) rfl, xw (xc1 _ (List.mem_of_getElem? (i := 18) rfl)) rfl, ⟨by decide +kernel, by decide +kernel⟩, by decide +kernel, Nat.le_of_ble_eq_true rfl, rfl, Nat.le_of_ble_eq_true rfl⟩
set_option maxRecDepth 20000 in
theorem xok_mX12_layClerk : xMok mX12_layClerk := ⟨xw (xc8 _ (List.mem_of_getElem? (i := 157) rfl)) rfl, xw (xc1 _ (List.mem_of_getElem? (i := 18) rfl)) rfl, ⟨by decide +kernel, by decide +kernel⟩, by decide +kernel, Nat.le_of_ble_eq_true rfl, rfl, Nat.le_of_ble_eq_true rfl⟩
set_option maxRecDepth 20000 in
theorem xok_mX12_isIn : xMok mX12_isIn := ⟨xw (xc8 _ (List.mem_of_getElem? (i := 168) rfl)) rfl, xw (xc1 _ (List.mem_of_getElem? (i := 18) rfl)) rfl, ⟨by decide +kernel, by decide +kernel⟩, by decide +kernel, Nat.le_of_ble_eq_true rfl, rfl, Nat.le_of_ble_eq_true rfl⟩
set_option maxRecDepth 20000 in
theorem xok_mX12_areHeaps : xMok mX12_areHeaps := ⟨xw (xc8 _ (List.mem_of_getElem? (i := 176) rfl)) rfl, xw (xc1 _ (List.mem_of_getElem? (i := 18) rfl)) rfl, ⟨by decide +kernel, by decide +kernel⟩, by decide +kernel, Nat.le_of_ble_eq_true rfl, rfl, Nat.le_of_ble_eq_true rfl⟩
set_option maxRecDepth 20000 in
theorem xok_mX12_saysBy : xMok mX12_saysBy := ⟨xw (xc8 _ (List.mem_of_getElem? (i := 180) rfl)) rfl, xw (xc1 _ (List.mem_of_getElem? (i := 18) rfl)) rfl, ⟨by decide +kernel, by decide +kernel⟩, by decide +kernel, Nat.le_of_ble_eq_true rfl, rfl, Nat.le_of_ble_eq_true rfl⟩
set_option maxRecDepth 20000 in
theorem xok_mX12_add : xMok mX12_add := ⟨xw (xc8 _ (List.mem_of_getElem? (i := 184) rfl)) rfl, xw (xc1 _ (List.mem_of_getElem? (i := 18) rfl)) rfl, ⟨by decide +kernel, by decide +kernel⟩, by decide +kernel, Nat.le_of_ble_eq_true rfl, rfl, Nat.le_of_ble_eq_true rfl⟩
set_option maxRecDepth 20000 in
theorem xok_mX12_layLeft : xMok mX12_layLeft := ⟨xw (xc8 _ (List.mem_of_getElem? (i := 217) rfl)) rfl, xw (xc1 _ (List.mem_of_getElem? (i := 18) rfl)) rfl, ⟨by decide +kernel, by decide +kernel⟩, by decide +kernel, Nat.le_of_ble_eq_true rfl, rfl, Nat.le_of_ble_eq_true rfl⟩
set_option maxRecDepth 20000 in
theorem xok_mX12_wrongBy : xMok mX12_wrongBy := ⟨xw (xc8 _ (List.mem_of_getElem? (i := 221) rfl)) rfl, xw (xc1 _ (List.mem_of_getElem? (i := 18) rfl)) rfl, ⟨by decide +kernel, by decide +kernel⟩, by decide +kernel, Nat.le_of_ble_eq_true rfl, rfl, Nat.le_of_ble_eq_true rfl⟩
set_option maxRecDepth 20000 in
theorem xok_mX12_counts : xMok mX12_counts := ⟨xw (xc8 _ (List.mem_of_getElem? (i := 225) rfl)) rfl, xw (xc1 _ (List.mem_of_getElem? (i := 18) rfl)) rfl, ⟨by decide +kernel, by decide +kernel⟩, by decide +kernel, Nat.le_of_ble_eq_true rfl, rfl, Nat.le_of_ble_eq_true rfl⟩
set_option maxRecDepth 20000 in
theorem xok_mX12_isSingle : xMok mX12_isSingle := ⟨xw (xc8 _ (List.mem_of_getElem? (i := 229) rfl)) rfl, xw (xc1 _ (List.mem_of_getElem? (i := 18) rfl)) rfl, ⟨by decide +kernel, by decide +kernel⟩, by decide +kernel, Nat.le_of_ble_eq_true rfl, rfl, Nat.le_of_ble_eq_true rfl⟩
set_option maxRecDepth 20000 in
theorem xok_mX12_bitsOf : xMok mX12_bitsOf := ⟨xw (xc8 _ (List.mem_of_getElem? (i := 232) rfl)) rfl, xw (xc1 _ (List.mem_of_getElem? (i := 18) rfl)) rfl, ⟨by decide +kernel, by decide +kernel⟩, by decide +kernel, Nat.le_of_ble_eq_true rfl, rfl, Nat.le_of_ble_eq_true rfl⟩
set_option maxRecDepth 20000 in
theorem xok_mX12_lowest : xMok mX12_lowest := ⟨xw (xc8 _ (List.mem_of_getElem? (i := 235) rfl)) rfl, xw (xc1 _ (List.mem_of_getElem? (i := 18) rfl)) rfl, ⟨by decide +kernel, by decide +kernel⟩, by decide +kernel, Nat.le_of_ble_eq_true rfl, rfl, Nat.le_of_ble_eq_true rfl⟩
set_option maxRecDepth 20000 in
theorem xok_mX12_saidBy : xMok mX12_saidBy := ⟨xw (xc8 _ (List.mem_of_getElem? (i := 239) rfl)) rfl, xw (xc1 _ (List.mem_of_getElem? (i := 18) rfl)) rfl, ⟨by decide +kernel, by decide +kernel⟩, by decide +kernel, Nat.le_of_ble_eq_true rfl, rfl, Nat.le_of_ble_eq_true rfl⟩
set_option maxRecDepth 20000 in
theorem xok_mX12_layPlaces : xMok mX12_layPlaces := ⟨xw (xc9 _ (List.mem_of_getElem? (i := 3) rfl)) rfl, xw (xc1 _ (List.mem_of_getElem? (i := 18) rfl)) rfl, ⟨by decide +kernel, by decide +kernel⟩, by decide +kernel, Nat.le_of_ble_eq_true rfl, rfl, Nat.le_of_ble_eq_true rfl⟩
set_option maxRecDepth 20000 in
theorem xok_mX12_isThing : xMok mX12_isThing := ⟨xw (xc9 _ (List.mem_of_getElem? (i := 15) rfl)) rfl, xw (xc1 _ (List.mem_of_getElem? (i := 18) rfl)) rfl, ⟨by decide +kernel, by decide +kernel⟩, by decide +kernel, Nat.le_of_ble_eq_true rfl, rfl, Nat.le_of_ble_eq_true rfl⟩
set_option maxRecDepth 20000 in
theorem xok_mX12_hasLeft : xMok mX12_hasLeft := ⟨xw (xc9 _ (List.mem_of_getElem? (i := 19) rfl)) rfl, xw (xc1 _ (List.mem_of_getElem? (i := 18) rfl)) rfl, ⟨by decide +kernel, by decide +kernel⟩, by decide +kernel, Nat.le_of_ble_eq_true rfl, rfl, Nat.le_of_ble_eq_true rfl⟩
set_option maxRecDepth 20000 in
theorem xok_mX12_placeLeft : xMok mX12_placeLeft := ⟨xw (xc9 _ (List.mem_of_getElem? (i := 23) rfl)) rfl, xw (xc1 _ (List.mem_of_getElem? (i := 18) rfl)) rfl, ⟨by decide +kernel, by decide +kernel⟩, by decide +kernel, Nat.le_of_ble_eq_true rfl, rfl, Nat.le_of_ble_eq_true rfl⟩
set_option maxRecDepth 20000 in
theorem xok_mX12_areTwo : xMok mX12_areTwo := ⟨xw (xc9 _ (List.mem_of_getElem? (i := 35) rfl)) rfl, xw (xc1 _ (List.mem_of_getElem? (i := 18) rfl)) rfl, ⟨by decide +kernel, by decide +kernel⟩, by decide +kernel, Nat.le_of_ble_eq_true rfl, rfl, Nat.le_of_ble_eq_true rfl⟩
set_option maxRecDepth 20000 in
theorem xok_mX12_sureOf : xMok mX12_sureOf := ⟨xw (xc9 _ (List.mem_of_getElem? (i := 39) rfl)) rfl, xw (xc1 _ (List.mem_of_getElem? (i := 18) rfl)) rfl, ⟨by decide +kernel, by decide +kernel⟩, by decide +kernel, Nat.le_of_ble_eq_true rfl, rfl, Nat.le_of_ble_eq_true rfl⟩
set_option maxRecDepth 20000 in
theorem xok_mX12_howMany : xMok mX12_howMany := ⟨xw (xc9 _ (List.mem_of_getElem? (i := 43) rfl)) rfl, xw (xc1 _ (List.mem_of_getElem? (i := 18) rfl)) rfl, ⟨by decide +kernel, by decide +kernel⟩, by decide +kernel, Nat.le_of_ble_eq_true rfl, rfl, Nat.le_of_ble_eq_true rfl⟩
set_option maxRecDepth 20000 in
theorem xok_mX12_isGoal : xMok mX12_isGoal := ⟨xw (xc9 _ (List.mem_of_getElem? (i := 51) rfl)) rfl, xw (xc1 _ (List.mem_of_getElem? (i := 18) rfl)) rfl, ⟨by decide +kernel, by decide +kernel⟩, by decide +kernel, Nat.le_of_ble_eq_true rfl, rfl, Nat.le_of_ble_eq_true rfl⟩
set_option maxRecDepth 20000 in
theorem xok_mX12_layGoal : xMok mX12_layGoal := ⟨xw (xc9 _ (List.mem_of_getElem? (i := 55) rfl)) rfl, xw (xc1 _ (List.mem_of_getElem? (i := 18) rfl)) rfl, ⟨by decide +kernel, by decide +kernel⟩, by decide +kernel, Nat.le_of_ble_eq_true rfl, rfl, Nat.le_of_ble_eq_true rfl⟩
set_option maxRecDepth 20000 in
theorem xok_mX12_layPairs : xMok mX12_layPairs := ⟨xw (xc9 _ (List.mem_of_getElem? (i := 59) rfl)) rfl, xw (xc1 _ (List.mem_of_getElem? (i := 18) rfl)) rfl, ⟨by decide +kernel, by decide +kernel⟩, by decide +kernel, Nat.le_of_ble_eq_true rfl, rfl, Nat.le_of_ble_eq_true rfl⟩
set_option maxRecDepth 20000 in
theorem xok_mX12_layGoals : xMok mX12_layGoals := ⟨xw (xc9 _ (List.mem_of_getElem? (i := 63) rfl)) rfl, xw (xc1 _ (List.mem_of_getElem? (i := 18) rfl)) rfl, ⟨by decide +kernel, by decide +kernel⟩, by decide +kernel, Nat.le_of_ble_eq_true rfl, rfl, Nat.le_of_ble_eq_true rfl⟩
set_option maxRecDepth 20000 in
theorem xok_mX12_solves : xMok mX12_solves := ⟨xw (xc9 _ (List.mem_of_getElem? (i := 67) rfl)) rfl, xw (xc1 _ (List.mem_of_getElem? (i := 18) rfl)) rfl, ⟨by decide +kernel, by decide +kernel⟩, by decide +kernel, Nat.le_of_ble_eq_true rfl, rfl, Nat.le_of_ble_eq_true rfl⟩
set_option maxRecDepth 20000 in
theorem xok_mX12_clearTable : xMok mX12_clearTable := ⟨xw (xc9 _ (List.mem_of_getElem? (i := 72) rfl)) rfl, xw (xc1 _ (List.mem_of_getElem? (i := 18) rfl)) rfl, ⟨by decide +kernel, by decide +kernel⟩, by decide +kernel, Nat.le_of_ble_eq_true rfl, rfl, Nat.le_of_ble_eq_true rfl⟩
set_option maxRecDepth 20000 in
theorem xok_mX12_isCome : xMok mX12_isCome := ⟨xw (xc9 _ (List.mem_of_getElem? (i := 76) rfl)) rfl, xw (xc1 _ (List.mem_of_getElem? (i := 18) rfl)) rfl, ⟨by decide +kernel, by decide +kernel⟩, by decide +kernel, Nat.le_of_ble_eq_true rfl, rfl, Nat.le_of_ble_eq_true rfl⟩
set_option maxRecDepth 20000 in
theorem xok_mX12_has : xMok mX12_has := ⟨xw (xc9 _ (List.mem_of_getElem? (i := 79) rfl)) rfl, xw (xc1 _ (List.mem_of_getElem? (i := 18) rfl)) rfl, ⟨by decide +kernel, by decide +kernel⟩, by decide +kernel, Nat.le_of_ble_eq_true rfl, rfl, Nat.le_of_ble_eq_true rfl⟩
set_option maxRecDepth 20000 in
theorem xok_mX12_enter : xMok mX12_enter := ⟨xw (xc9 _ (List.mem_of_getElem? (i := 83) rfl)) rfl, xw (xc1 _ (List.mem_of_getElem? (i := 18) rfl)) rfl, ⟨by decide +kernel, by decide +kernel⟩, by decide +kernel, Nat.le_of_ble_eq_true rfl, rfl, Nat.le_of_ble_eq_true rfl⟩
set_option maxRecDepth 20000 in
theorem xok_mX12_beginPair : xMok mX12_beginPair := ⟨xw (xc9 _ (List.mem_of_getElem? (i := 88) rfl)) rfl, xw (xc1 _ (List.mem_of_getElem? (i := 18) rfl)) rfl, ⟨by decide +kernel, by decide +kernel⟩, by decide +kernel, Nat.le_of_ble_eq_true rfl, rfl, Nat.le_of_ble_eq_true rfl⟩
set_option maxRecDepth 20000 in
theorem xok_mX12_meets : xMok mX12_meets := ⟨xw (xc9 _ (List.mem_of_getElem? (i := 92) rfl)) rfl, xw (xc1 _ (List.mem_of_getElem? (i := 18) rfl)) rfl, ⟨by decide +kernel, by decide +kernel⟩, by decide +kernel, Nat.le_of_ble_eq_true rfl, rfl, Nat.le_of_ble_eq_true rfl⟩
set_option maxRecDepth 20000 in
theorem xok_mX12_slot : xMok mX12_slot := ⟨xw (xc9 _ (List.mem_of_getElem? (i := 96) rfl)) rfl, xw (xc1 _ (List.mem_of_getElem? (i := 18) rfl)) rfl, ⟨by decide +kernel, by decide +kernel⟩, by decide +kernel, Nat.le_of_ble_eq_true rfl, rfl, Nat.le_of_ble_eq_true rfl⟩
set_option maxRecDepth 20000 in
theorem xok_mX12_takes : xMok mX12_takes := ⟨xw (xc9 _ (List.mem_of_getElem? (i := 103) rfl)) rfl, xw (xc1 _ (List.mem_of_getElem? (i := 18) rfl)) rfl, ⟨by decide +kernel, by decide +kernel⟩, by decide +kernel, Nat.le_of_ble_eq_true rfl, rfl, Nat.le_of_ble_eq_true rfl⟩
set_option maxRecDepth 20000 in
theorem xok_mX12_endPair : xMok mX12_endPair := ⟨xw (xc9 _ (List.mem_of_getElem? (i := 107) rfl)) rfl, xw (xc1 _ (List.mem_of_getElem? (i := 18) rfl)) rfl, ⟨by decide +kernel, by decide +kernel⟩, by decide +kernel, Nat.le_of_ble_eq_true rfl, rfl, Nat.le_of_ble_eq_true rfl⟩
set_option maxRecDepth 20000 in
theorem xok_mX12_sizeOf : xMok mX12_sizeOf := ⟨xw (xc9 _ (List.mem_of_getElem? (i := 111) rfl)) rfl, xw (xc1 _ (List.mem_of_getElem? (i := 18) rfl)) rfl, ⟨by decide +kernel, by decide +kernel⟩, by decide +kernel, Nat.le_of_ble_eq_true rfl, rfl, Nat.le_of_ble_eq_true rfl⟩
set_option maxRecDepth 20000 in
theorem xok_mX12_goesOn : xMok mX12_goesOn := ⟨xw (xc9 _ (List.mem_of_getElem? (i := 115) rfl)) rfl, xw (xc1 _ (List.mem_of_getElem? (i := 18) rfl)) rfl, ⟨by decide +kernel, by decide +kernel⟩, by decide +kernel, Nat.le_of_ble_eq_true rfl, rfl, Nat.le_of_ble_eq_true rfl⟩
set_option maxRecDepth 20000 in
theorem xok_mX12_known : xMok mX12_known := ⟨xw (xc9 _ (List.mem_of_getElem? (i := 119) rfl)) rfl, xw (xc1 _ (List.mem_of_getElem? (i := 18) rfl)) rfl, ⟨by decide +kernel, by decide +kernel⟩, by decide +kernel, Nat.le_of_ble_eq_true rfl, rfl, Nat.le_of_ble_eq_true rfl⟩
set_option maxRecDepth 20000 in
theorem xok_mX12_pairNumber : xMok mX12_pairNumber := ⟨xw (xc9 _ (List.mem_of_getElem? (i := 127) rfl)) rfl, xw (xc1 _ (List.mem_of_getElem? (i := 18) rfl)) rfl, ⟨by decide +kernel, by decide +kernel⟩, by decide +kernel, Nat.le_of_ble_eq_true rfl, rfl, Nat.le_of_ble_eq_true rfl⟩
set_option maxRecDepth 20000 in
theorem xok_mX12_answerOf : xMok mX12_answerOf := ⟨xw (xc9 _ (List.mem_of_getElem? (i := 139) rfl)) rfl, xw (xc1 _ (List.mem_of_getElem? (i := 18) rfl)) rfl, ⟨by decide +kernel, by decide +kernel⟩, by decide +kernel, Nat.le_of_ble_eq_true rfl, rfl, Nat.le_of_ble_eq_true rfl⟩
set_option maxRecDepth 20000 in
theorem xok_mX12_goesThrough : xMok mX12_goesThrough := ⟨xw (xc9 _ (List.mem_of_getElem? (i := 147) rfl)) rfl, xw (xc1 _ (List.mem_of_getElem? (i := 18) rfl)) rfl, ⟨by decide +kernel, by decide +kernel⟩, by decide +kernel, Nat.le_of_ble_eq_true rfl, rfl, Nat.le_of_ble_eq_true rfl⟩
set_option maxRecDepth 20000 in
theorem xok_mX12_unlikeBy : xMok mX12_unlikeBy := ⟨xw (xc9 _ (List.mem_of_getElem? (i := 155) rfl)) rfl, xw (xc1 _ (List.mem_of_getElem? (i := 18) rfl)) rfl, ⟨by decide +kernel, by decide +kernel⟩, by decide +kernel, Nat.le_of_ble_eq_true rfl, rfl, Nat.le_of_ble_eq_true rfl⟩
set_option maxRecDepth 20000 in
theorem xok_mX12_isComeBy : xMok mX12_isComeBy := ⟨xw (xc9 _ (List.mem_of_getElem? (i := 163) rfl)) rfl, xw (xc1 _ (List.mem_of_getElem? (i := 18) rfl)) rfl, ⟨by decide +kernel, by decide +kernel⟩, by decide +kernel, Nat.le_of_ble_eq_true rfl, rfl, Nat.le_of_ble_eq_true rfl⟩
set_option maxRecDepth 20000 in
theorem xok_mX12_statusOf : xMok mX12_statusOf := ⟨xw (xc9 _ (List.mem_of_getElem? (i := 167) rfl)) rfl, xw (xc1 _ (List.mem_of_getElem? (i := 18) rfl)) rfl, ⟨by decide +kernel, by decide +kernel⟩, by decide +kernel, Nat.le_of_ble_eq_true rfl, rfl, Nat.le_of_ble_eq_true rfl⟩
set_option maxRecDepth 20000 in
theorem xok_mX12_canBy : xMok mX12_canBy := ⟨xw (xc9 _ (List.mem_of_getElem? (i := 171) rfl)) rfl, xw (xc1 _ (List.mem_of_getElem? (i := 18) rfl)) rfl, ⟨by decide +kernel, by decide +kernel⟩, by decide +kernel, Nat.le_of_ble_eq_true rfl, rfl, Nat.le_of_ble_eq_true rfl⟩
set_option maxRecDepth 20000 in
theorem xok_mX12_behind : xMok mX12_behind := ⟨xw (xc9 _ (List.mem_of_getElem? (i := 175) rfl)) rfl, xw (xc1 _ (List.mem_of_getElem? (i := 18) rfl)) rfl, ⟨by decide +kernel, by decide +kernel⟩, by decide +kernel, Nat.le_of_ble_eq_true rfl, rfl, Nat.le_of_ble_eq_true rfl⟩
set_option maxRecDepth 20000 in
theorem xok_mX12_isDirect : xMok mX12_isDirect := ⟨xw (xc9 _ (List.mem_of_getElem? (i := 191) rfl)) rfl, xw (xc1 _ (List.mem_of_getElem? (i := 18) rfl)) rfl, ⟨by decide +kernel, by decide +kernel⟩, by decide +kernel, Nat.le_of_ble_eq_true rfl, rfl, Nat.le_of_ble_eq_true rfl⟩
set_option maxRecDepth 20000 in
theorem xok_mX12_isHeavier : xMok mX12_isHeavier := ⟨xw (xc9 _ (List.mem_of_getElem? (i := 195) rfl)) rfl, xw (xc1 _ (List.mem_of_getElem? (i := 18) rfl)) rfl, ⟨by decide +kernel, by decide +kernel⟩, by decide +kernel, Nat.le_of_ble_eq_true rfl, rfl, Nat.le_of_ble_eq_true rfl⟩
set_option maxRecDepth 20000 in
theorem xok_mX12_placeInRow : xMok mX12_placeInRow := ⟨xw (xc9 _ (List.mem_of_getElem? (i := 215) rfl)) rfl, xw (xc1 _ (List.mem_of_getElem? (i := 18) rfl)) rfl, ⟨by decide +kernel, by decide +kernel⟩, by decide +kernel, Nat.le_of_ble_eq_true rfl, rfl, Nat.le_of_ble_eq_true rfl⟩
set_option maxRecDepth 20000 in
theorem xok_mX12_isLadder : xMok mX12_isLadder := ⟨xw (xc9 _ (List.mem_of_getElem? (i := 223) rfl)) rfl, xw (xc1 _ (List.mem_of_getElem? (i := 18) rfl)) rfl, ⟨by decide +kernel, by decide +kernel⟩, by decide +kernel, Nat.le_of_ble_eq_true rfl, rfl, Nat.le_of_ble_eq_true rfl⟩
set_option maxRecDepth 20000 in
theorem xok_mX12_laySwapped : xMok mX12_laySwapped := ⟨xw (xc9 _ (List.mem_of_getElem? (i := 235) rfl)) rfl, xw (xc1 _ (List.mem_of_getElem? (i := 18) rfl)) rfl, ⟨by decide +kernel, by decide +kernel⟩, by decide +kernel, Nat.le_of_ble_eq_true rfl, rfl, Nat.le_of_ble_eq_true rfl⟩
set_option maxRecDepth 20000 in
theorem xok_mX12_orderOf : xMok mX12_orderOf := ⟨xw (xc9 _ (List.mem_of_getElem? (i := 239) rfl)) rfl, xw (xc1 _ (List.mem_of_getElem? (i := 18) rfl)) rfl, ⟨by decide +kernel, by decide +kernel⟩, by decide +kernel, Nat.le_of_ble_eq_true rfl, rfl, Nat.le_of_ble_eq_true rfl⟩
set_option maxRecDepth 20000 in
theorem xok_mX12_countWeights : xMok mX12_countWeights := ⟨xw (xc10 _ (List.mem_of_getElem? (i := 7) rfl)) rfl, xw (xc1 _ (List.mem_of_getElem? (i := 18) rfl)) rfl, ⟨by decide +kernel, by decide +kernel⟩, by decide +kernel, Nat.le_of_ble_eq_true rfl, rfl, Nat.le_of_ble_eq_true rfl⟩
set_option maxRecDepth 20000 in
theorem xok_mX12_weightRows : xMok mX12_weightRows := ⟨xw (xc10 _ (List.mem_of_getElem? (i := 11) rfl)) rfl, xw (xc1 _ (List.mem_of_getElem? (i := 18) rfl)) rfl, ⟨by decide +kernel, by decide +kernel⟩, by decide +kernel, Nat.le_of_ble_eq_true rfl, rfl, Nat.le_of_ble_eq_true rfl⟩
set_option maxRecDepth 20000 in
theorem xok_mX12_layWeights : xMok mX12_layWeights := ⟨xw (xc10 _ (List.mem_of_getElem? (i := 15) rfl)) rfl, xw (xc1 _ (List.mem_of_getElem? (i := 18) rfl)) rfl, ⟨by decide +kernel, by decide +kernel⟩, by decide +kernel, Nat.le_of_ble_eq_true rfl, rfl, Nat.le_of_ble_eq_true rfl⟩
set_option maxRecDepth 20000 in
theorem xok_mX12_doFit : xMok mX12_doFit := ⟨xw (xc10 _ (List.mem_of_getElem? (i := 19) rfl)) rfl, xw (xc1 _ (List.mem_of_getElem? (i := 18) rfl)) rfl, ⟨by decide +kernel, by decide +kernel⟩, by decide +kernel, Nat.le_of_ble_eq_true rfl, rfl, Nat.le_of_ble_eq_true rfl⟩
set_option maxRecDepth 20000 in
theorem xok_mX12_saysOf : xMok mX12_saysOf := ⟨xw (xc10 _ (List.mem_of_getElem? (i := 23) rfl)) rfl, xw (xc1 _ (List.mem_of_getElem? (i := 18) rfl)) rfl, ⟨by decide +kernel, by decide +kernel⟩, by decide +kernel, Nat.le_of_ble_eq_true rfl, rfl, Nat.le_of_ble_eq_true rfl⟩
set_option maxRecDepth 20000 in
theorem xok_mX12_findStones : xMok mX12_findStones := ⟨xw (xc10 _ (List.mem_of_getElem? (i := 39) rfl)) rfl, xw (xc1 _ (List.mem_of_getElem? (i := 18) rfl)) rfl, ⟨by decide +kernel, by decide +kernel⟩, by decide +kernel, Nat.le_of_ble_eq_true rfl, rfl, Nat.le_of_ble_eq_true rfl⟩
set_option maxRecDepth 20000 in
theorem xok_mX12_mostStone : xMok mX12_mostStone := ⟨xw (xc10 _ (List.mem_of_getElem? (i := 43) rfl)) rfl, xw (xc1 _ (List.mem_of_getElem? (i := 18) rfl)) rfl, ⟨by decide +kernel, by decide +kernel⟩, by decide +kernel, Nat.le_of_ble_eq_true rfl, rfl, Nat.le_of_ble_eq_true rfl⟩
set_option maxRecDepth 20000 in
theorem xok_mX12_doReach : xMok mX12_doReach := ⟨xw (xc10 _ (List.mem_of_getElem? (i := 47) rfl)) rfl, xw (xc1 _ (List.mem_of_getElem? (i := 18) rfl)) rfl, ⟨by decide +kernel, by decide +kernel⟩, by decide +kernel, Nat.le_of_ble_eq_true rfl, rfl, Nat.le_of_ble_eq_true rfl⟩
set_option maxRecDepth 20000 in
theorem xok_mX12_worstOf : xMok mX12_worstOf := ⟨xw (xc10 _ (List.mem_of_getElem? (i := 55) rfl)) rfl, xw (xc1 _ (List.mem_of_getElem? (i := 18) rfl)) rfl, ⟨by decide +kernel, by decide +kernel⟩, by decide +kernel, Nat.le_of_ble_eq_true rfl, rfl, Nat.le_of_ble_eq_true rfl⟩
set_option maxRecDepth 20000 in
theorem xce_0_51 : xCok 0 (51, 0, mX7_copy, 2) := ⟨xok_mX7_copy, by decide +kernel, Or.inl ⟨rfl, xw (xc4 _ (List.mem_of_getElem? (i := 43) rfl)) rfl, xw (xc4 _ (List.mem_of_getElem? (i := 44) rfl)) rfl⟩⟩
set_option maxRecDepth 20000 in
theorem xce_0_60 : xCok 0 (60, 2, mX0_heapOf, 1) := ⟨xok_mX0_heapOf, by decide +kernel, Or.inr (Or.inr (Or.inl ⟨rfl, xw (xc4 _ (List.mem_of_getElem? (i := 74) rfl)) rfl, xw (xc4 _ (List.mem_of_getElem? (i := 76) rfl)) rfl, xw (List.mem_append_left _ (List.mem_of_getElem? (i := 23) rfl)) rfl, Nat.le_of_ble_eq_true rfl⟩))⟩
set_option maxRecDepth 20000 in
theorem xce_0_67 : xCok 0 (67, 0, mX7_hasBit, 2) := ⟨xok_mX7_hasBit, by decide +kernel, Or.inl ⟨rfl, xw (xc4 _ (List.mem_of_getElem? (i := 78) rfl)) rfl, xw (xc4 _ (List.mem_of_getElem? (i := 2) rfl)) rfl⟩⟩
set_option maxRecDepth 20000 in
theorem xce_0_71 : xCok 0 (71, 0, mX7_at, 2) := ⟨xok_mX7_at, by decide +kernel, Or.inl ⟨rfl, xw (xc4 _ (List.mem_of_getElem? (i := 79) rfl)) rfl, xw (xc3 _ (List.mem_of_getElem? (i := 47) rfl)) rfl⟩⟩
set_option maxRecDepth 20000 in
theorem xce_0_75 : xCok 0 (75, 0, mX7_put, 3) := ⟨xok_mX7_put, by decide +kernel, Or.inl ⟨rfl, xw (xc4 _ (List.mem_of_getElem? (i := 84) rfl)) rfl, xw (xc3 _ (List.mem_of_getElem? (i := 40) rfl)) rfl⟩⟩
set_option maxRecDepth 20000 in
theorem xce_0_79 : xCok 0 (79, 2, mX0_has, 1) := ⟨xok_mX0_has, by decide +kernel, Or.inr (Or.inr (Or.inl ⟨rfl, xw (xc4 _ (List.mem_of_getElem? (i := 97) rfl)) rfl, xw (xc4 _ (List.mem_of_getElem? (i := 99) rfl)) rfl, xw (List.mem_append_left _ (List.mem_of_getElem? (i := 24) rfl)) rfl, Nat.le_of_ble_eq_true rfl⟩))⟩
set_option maxRecDepth 20000 in
theorem xce_0_83 : xCok 0 (83, 2, mX0_isUntold, 1) := ⟨xok_mX0_isUntold, by decide +kernel, Or.inr (Or.inr (Or.inl ⟨rfl, xw (xc4 _ (List.mem_of_getElem? (i := 101) rfl)) rfl, xw (xc4 _ (List.mem_of_getElem? (i := 103) rfl)) rfl, xw (List.mem_append_left _ (List.mem_of_getElem? (i := 25) rfl)) rfl, Nat.le_of_ble_eq_true rfl⟩))⟩
set_option maxRecDepth 20000 in
theorem xce_0_87 : xCok 0 (87, 2, mX0_thingAtRank, 2) := ⟨xok_mX0_thingAtRank, by decide +kernel, Or.inr (Or.inr (Or.inl ⟨rfl, xw (xc4 _ (List.mem_of_getElem? (i := 113) rfl)) rfl, xw (xc4 _ (List.mem_of_getElem? (i := 115) rfl)) rfl, xw (List.mem_append_left _ (List.mem_of_getElem? (i := 26) rfl)) rfl, Nat.le_of_ble_eq_true rfl⟩))⟩
set_option maxRecDepth 20000 in
theorem xce_0_91 : xCok 0 (91, 0, mJ6_bitCount_0f7a4, 1) := ⟨xok_mJ6_bitCount_0f7a4, by decide +kernel, Or.inl ⟨rfl, xw (xc4 _ (List.mem_of_getElem? (i := 153) rfl)) rfl, xw (xc4 _ (List.mem_of_getElem? (i := 154) rfl)) rfl⟩⟩
theorem xca_0 : ∀ e ∈ xCl0, xCok 0 e := List.forall_mem_cons.mpr ⟨xce_0_51, List.forall_mem_cons.mpr ⟨xce_0_60, List.forall_mem_cons.mpr ⟨xce_0_67, List.forall_mem_cons.mpr ⟨xce_0_71, List.forall_mem_cons.mpr ⟨xce_0_75, List.forall_mem_cons.mpr ⟨xce_0_79, List.forall_mem_cons.mpr ⟨xce_0_83, List.forall_mem_cons.mpr ⟨xce_0_87, List.forall_mem_cons.mpr ⟨xce_0_91, fun _ h => absurd h List.not_mem_nil⟩⟩⟩⟩⟩⟩⟩⟩⟩
set_option maxRecDepth 20000 in
theorem xce_1_70 : xCok 1 (70, 0, mX7_at, 2) := ⟨xok_mX7_at, by decide +kernel, Or.inl ⟨rfl, xw (xc6 _ (List.mem_of_getElem? (i := 115) rfl)) rfl, xw (xc3 _ (List.mem_of_getElem? (i := 47) rfl)) rfl⟩⟩
set_option maxRecDepth 20000 in
theorem xce_1_82 : xCok 1 (82, 2, mX0_counts, 2) := ⟨xok_mX0_counts, by decide +kernel, Or.inr (Or.inr (Or.inl ⟨rfl, xw (xc6 _ (List.mem_of_getElem? (i := 116) rfl)) rfl, xw (xc4 _ (List.mem_of_getElem? (i := 146) rfl)) rfl, xw (xc4 _ (List.mem_of_getElem? (i := 147) rfl)) rfl, Nat.le_of_ble_eq_true rfl⟩))⟩
set_option maxRecDepth 20000 in
theorem xce_1_86 : xCok 1 (86, 2, mX1_isRule, 4) := ⟨xok_mX1_isRule, by decide +kernel, Or.inr (Or.inr (Or.inl ⟨rfl, xw (xc6 _ (List.mem_of_getElem? (i := 117) rfl)) rfl, xw (xc6 _ (List.mem_of_getElem? (i := 119) rfl)) rfl, xw (List.mem_append_left _ (List.mem_of_getElem? (i := 51) rfl)) rfl, Nat.le_of_ble_eq_true rfl⟩))⟩
set_option maxRecDepth 20000 in
theorem xce_1_90 : xCok 1 (90, 2, mX1_isRuleAt, 4) := ⟨xok_mX1_isRuleAt, by decide +kernel, Or.inr (Or.inr (Or.inl ⟨rfl, xw (xc6 _ (List.mem_of_getElem? (i := 121) rfl)) rfl, xw (xc6 _ (List.mem_of_getElem? (i := 123) rfl)) rfl, xw (List.mem_append_left _ (List.mem_of_getElem? (i := 52) rfl)) rfl, Nat.le_of_ble_eq_true rfl⟩))⟩
set_option maxRecDepth 20000 in
theorem xce_1_93 : xCok 1 (93, 0, mX7_put, 3) := ⟨xok_mX7_put, by decide +kernel, Or.inl ⟨rfl, xw (xc6 _ (List.mem_of_getElem? (i := 125) rfl)) rfl, xw (xc3 _ (List.mem_of_getElem? (i := 40) rfl)) rfl⟩⟩
set_option maxRecDepth 20000 in
theorem xce_1_103 : xCok 1 (103, 2, mX1_guess, 0) := ⟨xok_mX1_guess, by decide +kernel, Or.inr (Or.inr (Or.inl ⟨rfl, xw (xc6 _ (List.mem_of_getElem? (i := 130) rfl)) rfl, xw (xc6 _ (List.mem_of_getElem? (i := 132) rfl)) rfl, xw (List.mem_append_left _ (List.mem_of_getElem? (i := 53) rfl)) rfl, Nat.le_of_ble_eq_true rfl⟩))⟩
set_option maxRecDepth 20000 in
theorem xce_1_106 : xCok 1 (106, 2, mX1_ask, 2) := ⟨xok_mX1_ask, by decide +kernel, Or.inr (Or.inr (Or.inl ⟨rfl, xw (xc6 _ (List.mem_of_getElem? (i := 191) rfl)) rfl, xw (xc6 _ (List.mem_of_getElem? (i := 193) rfl)) rfl, xw (List.mem_append_left _ (List.mem_of_getElem? (i := 60) rfl)) rfl, Nat.le_of_ble_eq_true rfl⟩))⟩
set_option maxRecDepth 20000 in
theorem xce_1_113 : xCok 1 (113, 2, mX1_askAll, 0) := ⟨xok_mX1_askAll, by decide +kernel, Or.inr (Or.inr (Or.inl ⟨rfl, xw (xc6 _ (List.mem_of_getElem? (i := 216) rfl)) rfl, xw (xc6 _ (List.mem_of_getElem? (i := 218) rfl)) rfl, xw (List.mem_append_left _ (List.mem_of_getElem? (i := 61) rfl)) rfl, Nat.le_of_ble_eq_true rfl⟩))⟩
set_option maxRecDepth 20000 in
theorem xce_1_122 : xCok 1 (122, 0, mX7_fill, 2) := ⟨xok_mX7_fill, by decide +kernel, Or.inl ⟨rfl, xw (xc6 _ (List.mem_of_getElem? (i := 134) rfl)) rfl, xw (xc4 _ (List.mem_of_getElem? (i := 143) rfl)) rfl⟩⟩
set_option maxRecDepth 20000 in
theorem xce_1_126 : xCok 1 (126, 0, mX1_layFrom, 2) := ⟨xok_mX1_layFrom, by decide +kernel, Or.inl ⟨rfl, xw (xc6 _ (List.mem_of_getElem? (i := 135) rfl)) rfl, xw (xc6 _ (List.mem_of_getElem? (i := 136) rfl)) rfl⟩⟩
set_option maxRecDepth 20000 in
theorem xce_1_130 : xCok 1 (130, 2, mX1_layLast, 1) := ⟨xok_mX1_layLast, by decide +kernel, Or.inr (Or.inr (Or.inl ⟨rfl, xw (xc6 _ (List.mem_of_getElem? (i := 138) rfl)) rfl, xw (xc6 _ (List.mem_of_getElem? (i := 140) rfl)) rfl, xw (List.mem_append_left _ (List.mem_of_getElem? (i := 54) rfl)) rfl, Nat.le_of_ble_eq_true rfl⟩))⟩
set_option maxRecDepth 20000 in
theorem xce_1_134 : xCok 1 (134, 2, mX1_lay, 2) := ⟨xok_mX1_lay, by decide +kernel, Or.inr (Or.inr (Or.inl ⟨rfl, xw (xc6 _ (List.mem_of_getElem? (i := 163) rfl)) rfl, xw (xc6 _ (List.mem_of_getElem? (i := 165) rfl)) rfl, xw (List.mem_append_left _ (List.mem_of_getElem? (i := 58) rfl)) rfl, Nat.le_of_ble_eq_true rfl⟩))⟩
set_option maxRecDepth 20000 in
theorem xce_1_137 : xCok 1 (137, 2, mX1_holds, 1) := ⟨xok_mX1_holds, by decide +kernel, Or.inr (Or.inr (Or.inl ⟨rfl, xw (xc6 _ (List.mem_of_getElem? (i := 167) rfl)) rfl, xw (xc6 _ (List.mem_of_getElem? (i := 169) rfl)) rfl, xw (List.mem_append_left _ (List.mem_of_getElem? (i := 59) rfl)) rfl, Nat.le_of_ble_eq_true rfl⟩))⟩
set_option maxRecDepth 20000 in
theorem xce_1_141 : xCok 1 (141, 2, mX1_fitting, 4) := ⟨xok_mX1_fitting, by decide +kernel, Or.inr (Or.inr (Or.inl ⟨rfl, xw (xc6 _ (List.mem_of_getElem? (i := 142) rfl)) rfl, xw (xc6 _ (List.mem_of_getElem? (i := 144) rfl)) rfl, xw (List.mem_append_left _ (List.mem_of_getElem? (i := 55) rfl)) rfl, Nat.le_of_ble_eq_true rfl⟩))⟩
set_option maxRecDepth 20000 in
theorem xce_1_145 : xCok 1 (145, 2, mX1_note, 2) := ⟨xok_mX1_note, by decide +kernel, Or.inr (Or.inr (Or.inl ⟨rfl, xw (xc6 _ (List.mem_of_getElem? (i := 153) rfl)) rfl, xw (xc6 _ (List.mem_of_getElem? (i := 155) rfl)) rfl, xw (List.mem_append_left _ (List.mem_of_getElem? (i := 57) rfl)) rfl, Nat.le_of_ble_eq_true rfl⟩))⟩
set_option maxRecDepth 20000 in
theorem xce_1_148 : xCok 1 (148, 2, mX1_fitsOf, 3) := ⟨xok_mX1_fitsOf, by decide +kernel, Or.inr (Or.inr (Or.inl ⟨rfl, xw (xc6 _ (List.mem_of_getElem? (i := 146) rfl)) rfl, xw (xc6 _ (List.mem_of_getElem? (i := 148) rfl)) rfl, xw (List.mem_append_left _ (List.mem_of_getElem? (i := 56) rfl)) rfl, Nat.le_of_ble_eq_true rfl⟩))⟩
set_option maxRecDepth 20000 in
theorem xce_1_152 : xCok 1 (152, 0, mJ6_bitCount_0f7a4, 1) := ⟨xok_mJ6_bitCount_0f7a4, by decide +kernel, Or.inl ⟨rfl, xw (xc6 _ (List.mem_of_getElem? (i := 161) rfl)) rfl, xw (xc4 _ (List.mem_of_getElem? (i := 154) rfl)) rfl⟩⟩
set_option maxRecDepth 20000 in
theorem xce_1_158 : xCok 1 (158, 0, mX7_add, 3) := ⟨xok_mX7_add, by decide +kernel, Or.inl ⟨rfl, xw (xc6 _ (List.mem_of_getElem? (i := 162) rfl)) rfl, xw (xc4 _ (List.mem_of_getElem? (i := 169) rfl)) rfl⟩⟩
set_option maxRecDepth 20000 in
theorem xce_1_161 : xCok 1 (161, 0, mX7_lowestBit, 1) := ⟨xok_mX7_lowestBit, by decide +kernel, Or.inl ⟨rfl, xw (xc6 _ (List.mem_of_getElem? (i := 157) rfl)) rfl, xw (xc4 _ (List.mem_of_getElem? (i := 160) rfl)) rfl⟩⟩
set_option maxRecDepth 20000 in
theorem xce_1_165 : xCok 1 (165, 0, mX7_hasBit, 2) := ⟨xok_mX7_hasBit, by decide +kernel, Or.inl ⟨rfl, xw (xc6 _ (List.mem_of_getElem? (i := 158) rfl)) rfl, xw (xc4 _ (List.mem_of_getElem? (i := 2) rfl)) rfl⟩⟩
set_option maxRecDepth 20000 in
theorem xce_1_171 : xCok 1 (171, 0, mX1_upTo, 1) := ⟨xok_mX1_upTo, by decide +kernel, Or.inl ⟨rfl, xw (xc6 _ (List.mem_of_getElem? (i := 150) rfl)) rfl, xw (xc6 _ (List.mem_of_getElem? (i := 151) rfl)) rfl⟩⟩
theorem xca_1 : ∀ e ∈ xCl1, xCok 1 e := List.forall_mem_cons.mpr ⟨xce_1_70, List.forall_mem_cons.mpr ⟨xce_1_82, List.forall_mem_cons.mpr ⟨xce_1_86, List.forall_mem_cons.mpr ⟨xce_1_90, List.forall_mem_cons.mpr ⟨xce_1_93, List.forall_mem_cons.mpr ⟨xce_1_103, List.forall_mem_cons.mpr ⟨xce_1_106, List.forall_mem_cons.mpr ⟨xce_1_113, List.forall_mem_cons.mpr ⟨xce_1_122, List.forall_mem_cons.mpr ⟨xce_1_126, List.forall_mem_cons.mpr ⟨xce_1_130, List.forall_mem_cons.mpr ⟨xce_1_134, List.forall_mem_cons.mpr ⟨xce_1_137, List.forall_mem_cons.mpr ⟨xce_1_141, List.forall_mem_cons.mpr ⟨xce_1_145, List.forall_mem_cons.mpr ⟨xce_1_148, List.forall_mem_cons.mpr ⟨xce_1_152, List.forall_mem_cons.mpr ⟨xce_1_158, List.forall_mem_cons.mpr ⟨xce_1_161, List.forall_mem_cons.mpr ⟨xce_1_165, List.forall_mem_cons.mpr ⟨xce_1_171, fun _ h => absurd h List.not_mem_nil⟩⟩⟩⟩⟩⟩⟩⟩⟩⟩⟩⟩⟩⟩⟩⟩⟩⟩⟩⟩⟩
set_option maxRecDepth 20000 in
theorem xce_2_21 : xCok 2 (21, 0, mX7_fill, 2) := ⟨xok_mX7_fill, by decide +kernel, Or.inl ⟨rfl, xw (xc5 _ (List.mem_of_getElem? (i := 208) rfl)) rfl, xw (xc4 _ (List.mem_of_getElem? (i := 143) rfl)) rfl⟩⟩
set_option maxRecDepth 20000 in
theorem xce_2_37 : xCok 2 (37, 0, mX7_at, 2) := ⟨xok_mX7_at, by decide +kernel, Or.inl ⟨rfl, xw (xc5 _ (List.mem_of_getElem? (i := 213) rfl)) rfl, xw (xc3 _ (List.mem_of_getElem? (i := 47) rfl)) rfl⟩⟩
set_option maxRecDepth 20000 in
theorem xce_2_47 : xCok 2 (47, 2, mX5_saidBy, 3) := ⟨xok_mX5_saidBy, by decide +kernel, Or.inr (Or.inr (Or.inl ⟨rfl, xw (xc5 _ (List.mem_of_getElem? (i := 214) rfl)) rfl, xw (xc5 _ (List.mem_of_getElem? (i := 215) rfl)) rfl, xw (xc5 _ (List.mem_of_getElem? (i := 216) rfl)) rfl, Nat.le_of_ble_eq_true rfl⟩))⟩
set_option maxRecDepth 20000 in
theorem xce_2_62 : xCok 2 (62, 2, mX2_comeTo, 2) := ⟨xok_mX2_comeTo, by decide +kernel, Or.inr (Or.inr (Or.inl ⟨rfl, xw (xc5 _ (List.mem_of_getElem? (i := 219) rfl)) rfl, xw (xc5 _ (List.mem_of_getElem? (i := 221) rfl)) rfl, xw (List.mem_append_left _ (List.mem_of_getElem? (i := 46) rfl)) rfl, Nat.le_of_ble_eq_true rfl⟩))⟩
set_option maxRecDepth 20000 in
theorem xce_2_66 : xCok 2 (66, 0, mX7_put, 3) := ⟨xok_mX7_put, by decide +kernel, Or.inl ⟨rfl, xw (xc5 _ (List.mem_of_getElem? (i := 223) rfl)) rfl, xw (xc3 _ (List.mem_of_getElem? (i := 40) rfl)) rfl⟩⟩
set_option maxRecDepth 20000 in
theorem xce_2_70 : xCok 2 (70, 0, mX7_add, 3) := ⟨xok_mX7_add, by decide +kernel, Or.inl ⟨rfl, xw (xc5 _ (List.mem_of_getElem? (i := 224) rfl)) rfl, xw (xc4 _ (List.mem_of_getElem? (i := 169) rfl)) rfl⟩⟩
theorem xca_2 : ∀ e ∈ xCl2, xCok 2 e := List.forall_mem_cons.mpr ⟨xce_2_21, List.forall_mem_cons.mpr ⟨xce_2_37, List.forall_mem_cons.mpr ⟨xce_2_47, List.forall_mem_cons.mpr ⟨xce_2_62, List.forall_mem_cons.mpr ⟨xce_2_66, List.forall_mem_cons.mpr ⟨xce_2_70, fun _ h => absurd h List.not_mem_nil⟩⟩⟩⟩⟩⟩
set_option maxRecDepth 20000 in
theorem xce_3_35 : xCok 3 (35, 2, mX3_loadTruths, 1) := ⟨xok_mX3_loadTruths, by decide +kernel, Or.inr (Or.inr (Or.inl ⟨rfl, xw (xc5 _ (List.mem_of_getElem? (i := 238) rfl)) rfl, xw (xc6 _ (List.mem_of_getElem? (i := 0) rfl)) rfl, xw (List.mem_append_left _ (List.mem_of_getElem? (i := 47) rfl)) rfl, Nat.le_of_ble_eq_true rfl⟩))⟩
set_option maxRecDepth 20000 in
theorem xce_3_39 : xCok 3 (39, 0, mX3_isAlike, 2) := ⟨xok_mX3_isAlike, by decide +kernel, Or.inl ⟨rfl, xw (xc6 _ (List.mem_of_getElem? (i := 5) rfl)) rfl, xw (xc6 _ (List.mem_of_getElem? (i := 6) rfl)) rfl⟩⟩
set_option maxRecDepth 20000 in
theorem xce_3_43 : xCok 3 (43, 0, mX7_put, 3) := ⟨xok_mX7_put, by decide +kernel, Or.inl ⟨rfl, xw (xc6 _ (List.mem_of_getElem? (i := 9) rfl)) rfl, xw (xc3 _ (List.mem_of_getElem? (i := 40) rfl)) rfl⟩⟩
set_option maxRecDepth 20000 in
theorem xce_3_49 : xCok 3 (49, 2, mX8_pairs, 0) := ⟨xok_mX8_pairs, by decide +kernel, Or.inr (Or.inr (Or.inl ⟨rfl, xw (xc6 _ (List.mem_of_getElem? (i := 10) rfl)) rfl, xw (xc5 _ (List.mem_of_getElem? (i := 87) rfl)) rfl, xw (xc5 _ (List.mem_of_getElem? (i := 88) rfl)) rfl, Nat.le_of_ble_eq_true rfl⟩))⟩
set_option maxRecDepth 20000 in
theorem xce_3_53 : xCok 3 (53, 2, mX3_needOf, 3) := ⟨xok_mX3_needOf, by decide +kernel, Or.inr (Or.inr (Or.inl ⟨rfl, xw (xc6 _ (List.mem_of_getElem? (i := 11) rfl)) rfl, xw (xc6 _ (List.mem_of_getElem? (i := 13) rfl)) rfl, xw (List.mem_append_left _ (List.mem_of_getElem? (i := 48) rfl)) rfl, Nat.le_of_ble_eq_true rfl⟩))⟩
set_option maxRecDepth 20000 in
theorem xce_3_57 : xCok 3 (57, 0, mX7_at, 2) := ⟨xok_mX7_at, by decide +kernel, Or.inl ⟨rfl, xw (xc6 _ (List.mem_of_getElem? (i := 3) rfl)) rfl, xw (xc3 _ (List.mem_of_getElem? (i := 47) rfl)) rfl⟩⟩
set_option maxRecDepth 20000 in
theorem xce_3_61 : xCok 3 (61, 0, mX7_fill, 2) := ⟨xok_mX7_fill, by decide +kernel, Or.inl ⟨rfl, xw (xc6 _ (List.mem_of_getElem? (i := 2) rfl)) rfl, xw (xc4 _ (List.mem_of_getElem? (i := 143) rfl)) rfl⟩⟩
set_option maxRecDepth 20000 in
theorem xce_3_68 : xCok 3 (68, 0, mX7_hasBit, 2) := ⟨xok_mX7_hasBit, by decide +kernel, Or.inl ⟨rfl, xw (xc6 _ (List.mem_of_getElem? (i := 4) rfl)) rfl, xw (xc4 _ (List.mem_of_getElem? (i := 2) rfl)) rfl⟩⟩
set_option maxRecDepth 20000 in
theorem xce_3_72 : xCok 3 (72, 0, mX7_lowestBit, 1) := ⟨xok_mX7_lowestBit, by decide +kernel, Or.inl ⟨rfl, xw (xc6 _ (List.mem_of_getElem? (i := 8) rfl)) rfl, xw (xc4 _ (List.mem_of_getElem? (i := 160) rfl)) rfl⟩⟩
set_option maxRecDepth 20000 in
theorem xce_3_79 : xCok 3 (79, 2, mX3_worstBehind, 3) := ⟨xok_mX3_worstBehind, by decide +kernel, Or.inr (Or.inr (Or.inl ⟨rfl, xw (xc6 _ (List.mem_of_getElem? (i := 15) rfl)) rfl, xw (xc6 _ (List.mem_of_getElem? (i := 17) rfl)) rfl, xw (List.mem_append_left _ (List.mem_of_getElem? (i := 49) rfl)) rfl, Nat.le_of_ble_eq_true rfl⟩))⟩
theorem xca_3 : ∀ e ∈ xCl3, xCok 3 e := List.forall_mem_cons.mpr ⟨xce_3_35, List.forall_mem_cons.mpr ⟨xce_3_39, List.forall_mem_cons.mpr ⟨xce_3_43, List.forall_mem_cons.mpr ⟨xce_3_49, List.forall_mem_cons.mpr ⟨xce_3_53, List.forall_mem_cons.mpr ⟨xce_3_57, List.forall_mem_cons.mpr ⟨xce_3_61, List.forall_mem_cons.mpr ⟨xce_3_68, List.forall_mem_cons.mpr ⟨xce_3_72, List.forall_mem_cons.mpr ⟨xce_3_79, fun _ h => absurd h List.not_mem_nil⟩⟩⟩⟩⟩⟩⟩⟩⟩⟩
set_option maxRecDepth 20000 in
theorem xce_4_15 : xCok 4 (15, 0, mX7_fill, 2) := ⟨xok_mX7_fill, by decide +kernel, Or.inl ⟨rfl, xw (xc5 _ (List.mem_of_getElem? (i := 182) rfl)) rfl, xw (xc4 _ (List.mem_of_getElem? (i := 143) rfl)) rfl⟩⟩
set_option maxRecDepth 20000 in
theorem xce_4_30 : xCok 4 (30, 0, mX7_at, 2) := ⟨xok_mX7_at, by decide +kernel, Or.inl ⟨rfl, xw (xc5 _ (List.mem_of_getElem? (i := 183) rfl)) rfl, xw (xc3 _ (List.mem_of_getElem? (i := 47) rfl)) rfl⟩⟩
set_option maxRecDepth 20000 in
theorem xce_4_37 : xCok 4 (37, 0, mX7_put, 3) := ⟨xok_mX7_put, by decide +kernel, Or.inl ⟨rfl, xw (xc5 _ (List.mem_of_getElem? (i := 184) rfl)) rfl, xw (xc3 _ (List.mem_of_getElem? (i := 40) rfl)) rfl⟩⟩
set_option maxRecDepth 20000 in
theorem xce_4_41 : xCok 4 (41, 2, mX8_pairs, 0) := ⟨xok_mX8_pairs, by decide +kernel, Or.inr (Or.inr (Or.inl ⟨rfl, xw (xc5 _ (List.mem_of_getElem? (i := 185) rfl)) rfl, xw (xc5 _ (List.mem_of_getElem? (i := 87) rfl)) rfl, xw (xc5 _ (List.mem_of_getElem? (i := 88) rfl)) rfl, Nat.le_of_ble_eq_true rfl⟩))⟩
set_option maxRecDepth 20000 in
theorem xce_4_45 : xCok 4 (45, 0, mX7_hasBit, 2) := ⟨xok_mX7_hasBit, by decide +kernel, Or.inl ⟨rfl, xw (xc5 _ (List.mem_of_getElem? (i := 186) rfl)) rfl, xw (xc4 _ (List.mem_of_getElem? (i := 2) rfl)) rfl⟩⟩
set_option maxRecDepth 20000 in
theorem xce_4_49 : xCok 4 (49, 2, mX4_leastSet, 1) := ⟨xok_mX4_leastSet, by decide +kernel, Or.inr (Or.inr (Or.inl ⟨rfl, xw (xc5 _ (List.mem_of_getElem? (i := 187) rfl)) rfl, xw (xc5 _ (List.mem_of_getElem? (i := 189) rfl)) rfl, xw (List.mem_append_left _ (List.mem_of_getElem? (i := 45) rfl)) rfl, Nat.le_of_ble_eq_true rfl⟩))⟩
set_option maxRecDepth 20000 in
theorem xce_4_53 : xCok 4 (53, 0, mJ6_bitCount_0f7a4, 1) := ⟨xok_mJ6_bitCount_0f7a4, by decide +kernel, Or.inl ⟨rfl, xw (xc5 _ (List.mem_of_getElem? (i := 191) rfl)) rfl, xw (xc4 _ (List.mem_of_getElem? (i := 154) rfl)) rfl⟩⟩
theorem xca_4 : ∀ e ∈ xCl4, xCok 4 e := List.forall_mem_cons.mpr ⟨xce_4_15, List.forall_mem_cons.mpr ⟨xce_4_30, List.forall_mem_cons.mpr ⟨xce_4_37, List.forall_mem_cons.mpr ⟨xce_4_41, List.forall_mem_cons.mpr ⟨xce_4_45, List.forall_mem_cons.mpr ⟨xce_4_49, List.forall_mem_cons.mpr ⟨xce_4_53, fun _ h => absurd h List.not_mem_nil⟩⟩⟩⟩⟩⟩⟩
set_option maxRecDepth 20000 in
theorem xce_5_41 : xCok 5 (41, 0, mX5_pairOf, 3) := ⟨xok_mX5_pairOf, by decide +kernel, Or.inl ⟨rfl, xw (xc3 _ (List.mem_of_getElem? (i := 60) rfl)) rfl, xw (xc3 _ (List.mem_of_getElem? (i := 61) rfl)) rfl⟩⟩
set_option maxRecDepth 20000 in
theorem xce_5_53 : xCok 5 (53, 0, mX7_put, 3) := ⟨xok_mX7_put, by decide +kernel, Or.inl ⟨rfl, xw (xc3 _ (List.mem_of_getElem? (i := 39) rfl)) rfl, xw (xc3 _ (List.mem_of_getElem? (i := 40) rfl)) rfl⟩⟩
set_option maxRecDepth 20000 in
theorem xce_5_63 : xCok 5 (63, 2, mX5_isOrder, 1) := ⟨xok_mX5_isOrder, by decide +kernel, Or.inr (Or.inr (Or.inl ⟨rfl, xw (xc3 _ (List.mem_of_getElem? (i := 42) rfl)) rfl, xw (xc3 _ (List.mem_of_getElem? (i := 44) rfl)) rfl, xw (List.mem_append_left _ (List.mem_of_getElem? (i := 0) rfl)) rfl, Nat.le_of_ble_eq_true rfl⟩))⟩
set_option maxRecDepth 20000 in
theorem xce_5_67 : xCok 5 (67, 2, mX5_keepOrder, 0) := ⟨xok_mX5_keepOrder, by decide +kernel, Or.inr (Or.inr (Or.inl ⟨rfl, xw (xc3 _ (List.mem_of_getElem? (i := 49) rfl)) rfl, xw (xc3 _ (List.mem_of_getElem? (i := 51) rfl)) rfl, xw (List.mem_append_left _ (List.mem_of_getElem? (i := 1) rfl)) rfl, Nat.le_of_ble_eq_true rfl⟩))⟩
set_option maxRecDepth 20000 in
theorem xce_5_70 : xCok 5 (70, 2, mX5_stepDigits, 0) := ⟨xok_mX5_stepDigits, by decide +kernel, Or.inr (Or.inr (Or.inl ⟨rfl, xw (xc3 _ (List.mem_of_getElem? (i := 69) rfl)) rfl, xw (xc3 _ (List.mem_of_getElem? (i := 71) rfl)) rfl, xw (List.mem_append_left _ (List.mem_of_getElem? (i := 3) rfl)) rfl, Nat.le_of_ble_eq_true rfl⟩))⟩
set_option maxRecDepth 20000 in
theorem xce_5_73 : xCok 5 (73, 0, mX7_at, 2) := ⟨xok_mX7_at, by decide +kernel, Or.inl ⟨rfl, xw (xc3 _ (List.mem_of_getElem? (i := 46) rfl)) rfl, xw (xc3 _ (List.mem_of_getElem? (i := 47) rfl)) rfl⟩⟩
set_option maxRecDepth 20000 in
theorem xce_5_77 : xCok 5 (77, 2, mX5_markOfDigits, 0) := ⟨xok_mX5_markOfDigits, by decide +kernel, Or.inr (Or.inr (Or.inl ⟨rfl, xw (xc3 _ (List.mem_of_getElem? (i := 53) rfl)) rfl, xw (xc3 _ (List.mem_of_getElem? (i := 55) rfl)) rfl, xw (List.mem_append_left _ (List.mem_of_getElem? (i := 2) rfl)) rfl, Nat.le_of_ble_eq_true rfl⟩))⟩
set_option maxRecDepth 20000 in
theorem xce_5_81 : xCok 5 (81, 0, mX5_bitOf, 4) := ⟨xok_mX5_bitOf, by decide +kernel, Or.inl ⟨rfl, xw (xc3 _ (List.mem_of_getElem? (i := 57) rfl)) rfl, xw (xc3 _ (List.mem_of_getElem? (i := 58) rfl)) rfl⟩⟩
set_option maxRecDepth 20000 in
theorem xce_5_85 : xCok 5 (85, 0, mX7_fill, 2) := ⟨xok_mX7_fill, by decide +kernel, Or.inl ⟨rfl, xw (xc4 _ (List.mem_of_getElem? (i := 142) rfl)) rfl, xw (xc4 _ (List.mem_of_getElem? (i := 143) rfl)) rfl⟩⟩
set_option maxRecDepth 20000 in
theorem xce_5_100 : xCok 5 (100, 2, mX0_counts, 2) := ⟨xok_mX0_counts, by decide +kernel, Or.inr (Or.inr (Or.inl ⟨rfl, xw (xc4 _ (List.mem_of_getElem? (i := 145) rfl)) rfl, xw (xc4 _ (List.mem_of_getElem? (i := 146) rfl)) rfl, xw (xc4 _ (List.mem_of_getElem? (i := 147) rfl)) rfl, Nat.le_of_ble_eq_true rfl⟩))⟩
set_option maxRecDepth 20000 in
theorem xce_5_104 : xCok 5 (104, 2, mX0_isSingle, 1) := ⟨xok_mX0_isSingle, by decide +kernel, Or.inr (Or.inr (Or.inl ⟨rfl, xw (xc4 _ (List.mem_of_getElem? (i := 149) rfl)) rfl, xw (xc4 _ (List.mem_of_getElem? (i := 150) rfl)) rfl, xw (xc4 _ (List.mem_of_getElem? (i := 151) rfl)) rfl, Nat.le_of_ble_eq_true rfl⟩))⟩
set_option maxRecDepth 20000 in
theorem xce_5_111 : xCok 5 (111, 0, mX7_lowestBit, 1) := ⟨xok_mX7_lowestBit, by decide +kernel, Or.inl ⟨rfl, xw (xc4 _ (List.mem_of_getElem? (i := 159) rfl)) rfl, xw (xc4 _ (List.mem_of_getElem? (i := 160) rfl)) rfl⟩⟩
set_option maxRecDepth 20000 in
theorem xce_5_121 : xCok 5 (121, 0, mX7_add, 3) := ⟨xok_mX7_add, by decide +kernel, Or.inl ⟨rfl, xw (xc4 _ (List.mem_of_getElem? (i := 168) rfl)) rfl, xw (xc4 _ (List.mem_of_getElem? (i := 169) rfl)) rfl⟩⟩
set_option maxRecDepth 20000 in
theorem xce_5_130 : xCok 5 (130, 2, mX5_missesBy, 1) := ⟨xok_mX5_missesBy, by decide +kernel, Or.inr (Or.inr (Or.inl ⟨rfl, xw (xc4 _ (List.mem_of_getElem? (i := 175) rfl)) rfl, xw (xc4 _ (List.mem_of_getElem? (i := 176) rfl)) rfl, xw (xc4 _ (List.mem_of_getElem? (i := 177) rfl)) rfl, Nat.le_of_ble_eq_true rfl⟩))⟩
set_option maxRecDepth 20000 in
theorem xce_5_134 : xCok 5 (134, 2, mX5_heed, 2) := ⟨xok_mX5_heed, by decide +kernel, Or.inr (Or.inr (Or.inl ⟨rfl, xw (xc4 _ (List.mem_of_getElem? (i := 225) rfl)) rfl, xw (xc4 _ (List.mem_of_getElem? (i := 139) rfl)) rfl, xw (xc4 _ (List.mem_of_getElem? (i := 140) rfl)) rfl, Nat.le_of_ble_eq_true rfl⟩))⟩
set_option maxRecDepth 20000 in
theorem xce_5_138 : xCok 5 (138, 2, mX5_sift, 1) := ⟨xok_mX5_sift, by decide +kernel, Or.inr (Or.inr (Or.inl ⟨rfl, xw (xc4 _ (List.mem_of_getElem? (i := 226) rfl)) rfl, xw (xc4 _ (List.mem_of_getElem? (i := 172) rfl)) rfl, xw (xc4 _ (List.mem_of_getElem? (i := 173) rfl)) rfl, Nat.le_of_ble_eq_true rfl⟩))⟩
set_option maxRecDepth 20000 in
theorem xce_5_142 : xCok 5 (142, 0, mX7_hasBit, 2) := ⟨xok_mX7_hasBit, by decide +kernel, Or.inl ⟨rfl, xw (xc4 _ (List.mem_of_getElem? (i := 179) rfl)) rfl, xw (xc4 _ (List.mem_of_getElem? (i := 2) rfl)) rfl⟩⟩
set_option maxRecDepth 20000 in
theorem xce_5_145 : xCok 5 (145, 2, mX5_markOf, 1) := ⟨xok_mX5_markOf, by decide +kernel, Or.inr (Or.inr (Or.inl ⟨rfl, xw (xc4 _ (List.mem_of_getElem? (i := 208) rfl)) rfl, xw (xc4 _ (List.mem_of_getElem? (i := 209) rfl)) rfl, xw (xc4 _ (List.mem_of_getElem? (i := 210) rfl)) rfl, Nat.le_of_ble_eq_true rfl⟩))⟩
set_option maxRecDepth 20000 in
theorem xce_5_148 : xCok 5 (148, 2, mX5_missesOf, 1) := ⟨xok_mX5_missesOf, by decide +kernel, Or.inr (Or.inr (Or.inl ⟨rfl, xw (xc4 _ (List.mem_of_getElem? (i := 204) rfl)) rfl, xw (xc4 _ (List.mem_of_getElem? (i := 205) rfl)) rfl, xw (xc4 _ (List.mem_of_getElem? (i := 206) rfl)) rfl, Nat.le_of_ble_eq_true rfl⟩))⟩
set_option maxRecDepth 20000 in
theorem xce_5_151 : xCok 5 (151, 2, mX5_placeOf, 2) := ⟨xok_mX5_placeOf, by decide +kernel, Or.inr (Or.inr (Or.inl ⟨rfl, xw (xc4 _ (List.mem_of_getElem? (i := 232) rfl)) rfl, xw (xc4 _ (List.mem_of_getElem? (i := 189) rfl)) rfl, xw (xc4 _ (List.mem_of_getElem? (i := 190) rfl)) rfl, Nat.le_of_ble_eq_true rfl⟩))⟩
set_option maxRecDepth 20000 in
theorem xce_5_154 : xCok 5 (154, 2, mX5_leftAt, 1) := ⟨xok_mX5_leftAt, by decide +kernel, Or.inr (Or.inr (Or.inl ⟨rfl, xw (xc4 _ (List.mem_of_getElem? (i := 231) rfl)) rfl, xw (xc4 _ (List.mem_of_getElem? (i := 181) rfl)) rfl, xw (xc4 _ (List.mem_of_getElem? (i := 182) rfl)) rfl, Nat.le_of_ble_eq_true rfl⟩))⟩
set_option maxRecDepth 20000 in
theorem xce_5_157 : xCok 5 (157, 2, mX5_goalOf, 3) := ⟨xok_mX5_goalOf, by decide +kernel, Or.inr (Or.inr (Or.inl ⟨rfl, xw (xc5 _ (List.mem_of_getElem? (i := 1) rfl)) rfl, xw (xc5 _ (List.mem_of_getElem? (i := 2) rfl)) rfl, xw (xc5 _ (List.mem_of_getElem? (i := 3) rfl)) rfl, Nat.le_of_ble_eq_true rfl⟩))⟩
set_option maxRecDepth 20000 in
theorem xce_5_160 : xCok 5 (160, 2, mX5_isSure, 3) := ⟨xok_mX5_isSure, by decide +kernel, Or.inr (Or.inr (Or.inl ⟨rfl, xw (xc6 _ (List.mem_of_getElem? (i := 45) rfl)) rfl, xw (xc5 _ (List.mem_of_getElem? (i := 15) rfl)) rfl, xw (xc5 _ (List.mem_of_getElem? (i := 16) rfl)) rfl, Nat.le_of_ble_eq_true rfl⟩))⟩
set_option maxRecDepth 20000 in
theorem xce_5_164 : xCok 5 (164, 2, mX5_heavierIn, 2) := ⟨xok_mX5_heavierIn, by decide +kernel, Or.inr (Or.inr (Or.inl ⟨rfl, xw (xc6 _ (List.mem_of_getElem? (i := 36) rfl)) rfl, xw (xc6 _ (List.mem_of_getElem? (i := 25) rfl)) rfl, xw (xc6 _ (List.mem_of_getElem? (i := 26) rfl)) rfl, Nat.le_of_ble_eq_true rfl⟩))⟩
set_option maxRecDepth 20000 in
theorem xce_5_167 : xCok 5 (167, 0, mJ6_bitCount_0f7a4, 1) := ⟨xok_mJ6_bitCount_0f7a4, by decide +kernel, Or.inl ⟨rfl, xw (xc6 _ (List.mem_of_getElem? (i := 83) rfl)) rfl, xw (xc4 _ (List.mem_of_getElem? (i := 154) rfl)) rfl⟩⟩
set_option maxRecDepth 20000 in
theorem xce_5_172 : xCok 5 (172, 2, mX5_isSet, 2) := ⟨xok_mX5_isSet, by decide +kernel, Or.inr (Or.inr (Or.inl ⟨rfl, xw (xc6 _ (List.mem_of_getElem? (i := 84) rfl)) rfl, xw (xc6 _ (List.mem_of_getElem? (i := 86) rfl)) rfl, xw (List.mem_append_left _ (List.mem_of_getElem? (i := 50) rfl)) rfl, Nat.le_of_ble_eq_true rfl⟩))⟩
set_option maxRecDepth 20000 in
theorem xce_5_176 : xCok 5 (176, 2, mX8_add, 2) := ⟨xok_mX8_add, by decide +kernel, Or.inr (Or.inr (Or.inl ⟨rfl, xw (xc6 _ (List.mem_of_getElem? (i := 101) rfl)) rfl, xw (xc5 _ (List.mem_of_getElem? (i := 44) rfl)) rfl, xw (xc5 _ (List.mem_of_getElem? (i := 45) rfl)) rfl, Nat.le_of_ble_eq_true rfl⟩))⟩
theorem xca_5 : ∀ e ∈ xCl5, xCok 5 e := List.forall_mem_cons.mpr ⟨xce_5_41, List.forall_mem_cons.mpr ⟨xce_5_53, List.forall_mem_cons.mpr ⟨xce_5_63, List.forall_mem_cons.mpr ⟨xce_5_67, List.forall_mem_cons.mpr ⟨xce_5_70, List.forall_mem_cons.mpr ⟨xce_5_73, List.forall_mem_cons.mpr ⟨xce_5_77, List.forall_mem_cons.mpr ⟨xce_5_81, List.forall_mem_cons.mpr ⟨xce_5_85, List.forall_mem_cons.mpr ⟨xce_5_100, List.forall_mem_cons.mpr ⟨xce_5_104, List.forall_mem_cons.mpr ⟨xce_5_111, List.forall_mem_cons.mpr ⟨xce_5_121, List.forall_mem_cons.mpr ⟨xce_5_130, List.forall_mem_cons.mpr ⟨xce_5_134, List.forall_mem_cons.mpr ⟨xce_5_138, List.forall_mem_cons.mpr ⟨xce_5_142, List.forall_mem_cons.mpr ⟨xce_5_145, List.forall_mem_cons.mpr ⟨xce_5_148, List.forall_mem_cons.mpr ⟨xce_5_151, List.forall_mem_cons.mpr ⟨xce_5_154, List.forall_mem_cons.mpr ⟨xce_5_157, List.forall_mem_cons.mpr ⟨xce_5_160, List.forall_mem_cons.mpr ⟨xce_5_164, List.forall_mem_cons.mpr ⟨xce_5_167, List.forall_mem_cons.mpr ⟨xce_5_172, List.forall_mem_cons.mpr ⟨xce_5_176, fun _ h => absurd h List.not_mem_nil⟩⟩⟩⟩⟩⟩⟩⟩⟩⟩⟩⟩⟩⟩⟩⟩⟩⟩⟩⟩⟩⟩⟩⟩⟩⟩⟩
set_option maxRecDepth 20000 in
theorem xce_6_39 : xCok 6 (39, 3, mX10_init, 0) := ⟨xok_mX10_init, by decide +kernel, Or.inr (Or.inr (Or.inr ⟨rfl, xc1 _ (List.mem_of_getElem? (i := 172) rfl), xw (xc1 _ (List.mem_of_getElem? (i := 32) rfl)) rfl, rfl, rfl, Nat.le_of_ble_eq_true rfl⟩))⟩
set_option maxRecDepth 20000 in
theorem xce_6_60 : xCok 6 (60, 2, mX10_empty, 0) := ⟨xok_mX10_empty, by decide +kernel, Or.inr (Or.inr (Or.inl ⟨rfl, xw (xc3 _ (List.mem_of_getElem? (i := 142) rfl)) rfl, xw (xc3 _ (List.mem_of_getElem? (i := 143) rfl)) rfl, xw (xc3 _ (List.mem_of_getElem? (i := 144) rfl)) rfl, Nat.le_of_ble_eq_true rfl⟩))⟩
set_option maxRecDepth 20000 in
theorem xce_6_69 : xCok 6 (69, 2, mX6_advance, 0) := ⟨xok_mX6_advance, by decide +kernel, Or.inr (Or.inr (Or.inl ⟨rfl, xw (xc3 _ (List.mem_of_getElem? (i := 146) rfl)) rfl, xw (xc3 _ (List.mem_of_getElem? (i := 148) rfl)) rfl, xw (List.mem_append_left _ (List.mem_of_getElem? (i := 5) rfl)) rfl, Nat.le_of_ble_eq_true rfl⟩))⟩
set_option maxRecDepth 20000 in
theorem xce_6_75 : xCok 6 (75, 2, mX6_readLine, 0) := ⟨xok_mX6_readLine, by decide +kernel, Or.inr (Or.inr (Or.inl ⟨rfl, xw (xc3 _ (List.mem_of_getElem? (i := 167) rfl)) rfl, xw (xc3 _ (List.mem_of_getElem? (i := 169) rfl)) rfl, xw (List.mem_append_left _ (List.mem_of_getElem? (i := 7) rfl)) rfl, Nat.le_of_ble_eq_true rfl⟩))⟩
set_option maxRecDepth 20000 in
theorem xce_6_78 : xCok 6 (78, 2, mX10_completeRow, 0) := ⟨xok_mX10_completeRow, by decide +kernel, Or.inr (Or.inr (Or.inl ⟨rfl, xw (xc4 _ (List.mem_of_getElem? (i := 32) rfl)) rfl, xw (xc4 _ (List.mem_of_getElem? (i := 33) rfl)) rfl, xw (xc4 _ (List.mem_of_getElem? (i := 34) rfl)) rfl, Nat.le_of_ble_eq_true rfl⟩))⟩
set_option maxRecDepth 20000 in
theorem xce_6_84 : xCok 6 (84, 2, mX6_isOwn, 1) := ⟨xok_mX6_isOwn, by decide +kernel, Or.inr (Or.inr (Or.inl ⟨rfl, xw (xc3 _ (List.mem_of_getElem? (i := 171) rfl)) rfl, xw (xc3 _ (List.mem_of_getElem? (i := 173) rfl)) rfl, xw (List.mem_append_left _ (List.mem_of_getElem? (i := 8) rfl)) rfl, Nat.le_of_ble_eq_true rfl⟩))⟩
set_option maxRecDepth 20000 in
theorem xce_6_88 : xCok 6 (88, 2, mX6_readThing, 0) := ⟨xok_mX6_readThing, by decide +kernel, Or.inr (Or.inr (Or.inl ⟨rfl, xw (xc3 _ (List.mem_of_getElem? (i := 175) rfl)) rfl, xw (xc3 _ (List.mem_of_getElem? (i := 177) rfl)) rfl, xw (List.mem_append_left _ (List.mem_of_getElem? (i := 9) rfl)) rfl, Nat.le_of_ble_eq_true rfl⟩))⟩
set_option maxRecDepth 20000 in
theorem xce_6_91 : xCok 6 (91, 2, mX6_readTwins, 0) := ⟨xok_mX6_readTwins, by decide +kernel, Or.inr (Or.inr (Or.inl ⟨rfl, xw (xc3 _ (List.mem_of_getElem? (i := 216) rfl)) rfl, xw (xc3 _ (List.mem_of_getElem? (i := 218) rfl)) rfl, xw (List.mem_append_left _ (List.mem_of_getElem? (i := 16) rfl)) rfl, Nat.le_of_ble_eq_true rfl⟩))⟩
set_option maxRecDepth 20000 in
theorem xce_6_94 : xCok 6 (94, 2, mX6_readSticks, 0) := ⟨xok_mX6_readSticks, by decide +kernel, Or.inr (Or.inr (Or.inl ⟨rfl, xw (xc3 _ (List.mem_of_getElem? (i := 220) rfl)) rfl, xw (xc3 _ (List.mem_of_getElem? (i := 222) rfl)) rfl, xw (List.mem_append_left _ (List.mem_of_getElem? (i := 17) rfl)) rfl, Nat.le_of_ble_eq_true rfl⟩))⟩
set_option maxRecDepth 20000 in
theorem xce_6_97 : xCok 6 (97, 2, mX6_readRow, 0) := ⟨xok_mX6_readRow, by decide +kernel, Or.inr (Or.inr (Or.inl ⟨rfl, xw (xc3 _ (List.mem_of_getElem? (i := 224) rfl)) rfl, xw (xc3 _ (List.mem_of_getElem? (i := 226) rfl)) rfl, xw (List.mem_append_left _ (List.mem_of_getElem? (i := 18) rfl)) rfl, Nat.le_of_ble_eq_true rfl⟩))⟩
set_option maxRecDepth 20000 in
theorem xce_6_100 : xCok 6 (100, 2, mX6_readPlan, 0) := ⟨xok_mX6_readPlan, by decide +kernel, Or.inr (Or.inr (Or.inl ⟨rfl, xw (xc4 _ (List.mem_of_getElem? (i := 8) rfl)) rfl, xw (xc4 _ (List.mem_of_getElem? (i := 10) rfl)) rfl, xw (List.mem_append_left _ (List.mem_of_getElem? (i := 21) rfl)) rfl, Nat.le_of_ble_eq_true rfl⟩))⟩
set_option maxRecDepth 20000 in
theorem xce_6_103 : xCok 6 (103, 2, mX6_fail, 1) := ⟨xok_mX6_fail, by decide +kernel, Or.inr (Or.inr (Or.inl ⟨rfl, xw (xc3 _ (List.mem_of_getElem? (i := 179) rfl)) rfl, xw (xc3 _ (List.mem_of_getElem? (i := 181) rfl)) rfl, xw (List.mem_append_left _ (List.mem_of_getElem? (i := 10) rfl)) rfl, Nat.le_of_ble_eq_true rfl⟩))⟩
set_option maxRecDepth 20000 in
theorem xce_6_114 : xCok 6 (114, 2, mX10_thingOf, 1) := ⟨xok_mX10_thingOf, by decide +kernel, Or.inr (Or.inr (Or.inl ⟨rfl, xw (xc3 _ (List.mem_of_getElem? (i := 183) rfl)) rfl, xw (xc3 _ (List.mem_of_getElem? (i := 184) rfl)) rfl, xw (xc3 _ (List.mem_of_getElem? (i := 185) rfl)) rfl, Nat.le_of_ble_eq_true rfl⟩))⟩
set_option maxRecDepth 20000 in
theorem xce_6_118 : xCok 6 (118, 2, mX6_takeNewName, 1) := ⟨xok_mX6_takeNewName, by decide +kernel, Or.inr (Or.inr (Or.inl ⟨rfl, xw (xc3 _ (List.mem_of_getElem? (i := 188) rfl)) rfl, xw (xc3 _ (List.mem_of_getElem? (i := 190) rfl)) rfl, xw (List.mem_append_left _ (List.mem_of_getElem? (i := 11) rfl)) rfl, Nat.le_of_ble_eq_true rfl⟩))⟩
set_option maxRecDepth 20000 in
theorem xce_6_122 : xCok 6 (122, 2, mX6_takeOwn, 1) := ⟨xok_mX6_takeOwn, by decide +kernel, Or.inr (Or.inr (Or.inl ⟨rfl, xw (xc3 _ (List.mem_of_getElem? (i := 196) rfl)) rfl, xw (xc3 _ (List.mem_of_getElem? (i := 198) rfl)) rfl, xw (List.mem_append_left _ (List.mem_of_getElem? (i := 13) rfl)) rfl, Nat.le_of_ble_eq_true rfl⟩))⟩
set_option maxRecDepth 20000 in
theorem xce_6_125 : xCok 6 (125, 2, mX6_takeNumber, 2) := ⟨xok_mX6_takeNumber, by decide +kernel, Or.inr (Or.inr (Or.inl ⟨rfl, xw (xc3 _ (List.mem_of_getElem? (i := 200) rfl)) rfl, xw (xc3 _ (List.mem_of_getElem? (i := 202) rfl)) rfl, xw (List.mem_append_left _ (List.mem_of_getElem? (i := 14) rfl)) rfl, Nat.le_of_ble_eq_true rfl⟩))⟩
set_option maxRecDepth 20000 in
theorem xce_6_129 : xCok 6 (129, 2, mX6_takeSign, 1) := ⟨xok_mX6_takeSign, by decide +kernel, Or.inr (Or.inr (Or.inl ⟨rfl, xw (xc3 _ (List.mem_of_getElem? (i := 204) rfl)) rfl, xw (xc3 _ (List.mem_of_getElem? (i := 206) rfl)) rfl, xw (List.mem_append_left _ (List.mem_of_getElem? (i := 15) rfl)) rfl, Nat.le_of_ble_eq_true rfl⟩))⟩
set_option maxRecDepth 20000 in
theorem xce_6_132 : xCok 6 (132, 2, mX10_addThing, 2) := ⟨xok_mX10_addThing, by decide +kernel, Or.inr (Or.inr (Or.inl ⟨rfl, xw (xc3 _ (List.mem_of_getElem? (i := 208) rfl)) rfl, xw (xc3 _ (List.mem_of_getElem? (i := 209) rfl)) rfl, xw (xc3 _ (List.mem_of_getElem? (i := 210) rfl)) rfl, Nat.le_of_ble_eq_true rfl⟩))⟩
set_option maxRecDepth 20000 in
theorem xce_6_148 : xCok 6 (148, 2, mX6_takeRowName, 0) := ⟨xok_mX6_takeRowName, by decide +kernel, Or.inr (Or.inr (Or.inl ⟨rfl, xw (xc3 _ (List.mem_of_getElem? (i := 228) rfl)) rfl, xw (xc3 _ (List.mem_of_getElem? (i := 230) rfl)) rfl, xw (List.mem_append_left _ (List.mem_of_getElem? (i := 19) rfl)) rfl, Nat.le_of_ble_eq_true rfl⟩))⟩
set_option maxRecDepth 20000 in
theorem xce_6_151 : xCok 6 (151, 2, mX6_isName, 0) := ⟨xok_mX6_isName, by decide +kernel, Or.inr (Or.inr (Or.inl ⟨rfl, xw (xc3 _ (List.mem_of_getElem? (i := 192) rfl)) rfl, xw (xc3 _ (List.mem_of_getElem? (i := 194) rfl)) rfl, xw (List.mem_append_left _ (List.mem_of_getElem? (i := 12) rfl)) rfl, Nat.le_of_ble_eq_true rfl⟩))⟩
set_option maxRecDepth 20000 in
theorem xce_6_155 : xCok 6 (155, 2, mX10_rowBits, 0) := ⟨xok_mX10_rowBits, by decide +kernel, Or.inr (Or.inr (Or.inl ⟨rfl, xw (xc3 _ (List.mem_of_getElem? (i := 232) rfl)) rfl, xw (xc3 _ (List.mem_of_getElem? (i := 233) rfl)) rfl, xw (xc3 _ (List.mem_of_getElem? (i := 234) rfl)) rfl, Nat.le_of_ble_eq_true rfl⟩))⟩
set_option maxRecDepth 20000 in
theorem xce_6_158 : xCok 6 (158, 2, mX6_takeThing, 1) := ⟨xok_mX6_takeThing, by decide +kernel, Or.inr (Or.inr (Or.inl ⟨rfl, xw (xc3 _ (List.mem_of_getElem? (i := 237) rfl)) rfl, xw (xc3 _ (List.mem_of_getElem? (i := 239) rfl)) rfl, xw (List.mem_append_left _ (List.mem_of_getElem? (i := 20) rfl)) rfl, Nat.le_of_ble_eq_true rfl⟩))⟩
set_option maxRecDepth 20000 in
theorem xce_6_162 : xCok 6 (162, 2, mX10_addToRow, 1) := ⟨xok_mX10_addToRow, by decide +kernel, Or.inr (Or.inr (Or.inl ⟨rfl, xw (xc4 _ (List.mem_of_getElem? (i := 4) rfl)) rfl, xw (xc4 _ (List.mem_of_getElem? (i := 5) rfl)) rfl, xw (xc4 _ (List.mem_of_getElem? (i := 6) rfl)) rfl, Nat.le_of_ble_eq_true rfl⟩))⟩
set_option maxRecDepth 20000 in
theorem xce_6_168 : xCok 6 (168, 2, mX10_planOf, 1) := ⟨xok_mX10_planOf, by decide +kernel, Or.inr (Or.inr (Or.inl ⟨rfl, xw (xc4 _ (List.mem_of_getElem? (i := 12) rfl)) rfl, xw (xc4 _ (List.mem_of_getElem? (i := 13) rfl)) rfl, xw (xc4 _ (List.mem_of_getElem? (i := 14) rfl)) rfl, Nat.le_of_ble_eq_true rfl⟩))⟩
set_option maxRecDepth 20000 in
theorem xce_6_171 : xCok 6 (171, 0, mX6_readPart, 2) := ⟨xok_mX6_readPart, by decide +kernel, Or.inl ⟨rfl, xw (xc4 _ (List.mem_of_getElem? (i := 16) rfl)) rfl, xw (xc4 _ (List.mem_of_getElem? (i := 17) rfl)) rfl⟩⟩
set_option maxRecDepth 20000 in
theorem xce_6_175 : xCok 6 (175, 2, mX10_addPlan, 2) := ⟨xok_mX10_addPlan, by decide +kernel, Or.inr (Or.inr (Or.inl ⟨rfl, xw (xc4 _ (List.mem_of_getElem? (i := 28) rfl)) rfl, xw (xc4 _ (List.mem_of_getElem? (i := 29) rfl)) rfl, xw (xc4 _ (List.mem_of_getElem? (i := 30) rfl)) rfl, Nat.le_of_ble_eq_true rfl⟩))⟩
set_option maxRecDepth 20000 in
theorem xce_6_186 : xCok 6 (186, 2, mX10_addTwo, 2) := ⟨xok_mX10_addTwo, by decide +kernel, Or.inr (Or.inr (Or.inl ⟨rfl, xw (xc4 _ (List.mem_of_getElem? (i := 20) rfl)) rfl, xw (xc4 _ (List.mem_of_getElem? (i := 21) rfl)) rfl, xw (xc4 _ (List.mem_of_getElem? (i := 22) rfl)) rfl, Nat.le_of_ble_eq_true rfl⟩))⟩
set_option maxRecDepth 20000 in
theorem xce_6_189 : xCok 6 (189, 2, mX10_setWay, 3) := ⟨xok_mX10_setWay, by decide +kernel, Or.inr (Or.inr (Or.inl ⟨rfl, xw (xc4 _ (List.mem_of_getElem? (i := 24) rfl)) rfl, xw (xc4 _ (List.mem_of_getElem? (i := 25) rfl)) rfl, xw (xc4 _ (List.mem_of_getElem? (i := 26) rfl)) rfl, Nat.le_of_ble_eq_true rfl⟩))⟩
set_option maxRecDepth 20000 in
theorem xce_6_193 : xCok 6 (193, 0, mX7_hasBit, 2) := ⟨xok_mX7_hasBit, by decide +kernel, Or.inl ⟨rfl, xw (xc4 _ (List.mem_of_getElem? (i := 1) rfl)) rfl, xw (xc4 _ (List.mem_of_getElem? (i := 2) rfl)) rfl⟩⟩
set_option maxRecDepth 20000 in
theorem xce_6_205 : xCok 6 (205, 2, mX6_byteAt, 1) := ⟨xok_mX6_byteAt, by decide +kernel, Or.inr (Or.inr (Or.inl ⟨rfl, xw (xc3 _ (List.mem_of_getElem? (i := 150) rfl)) rfl, xw (xc3 _ (List.mem_of_getElem? (i := 152) rfl)) rfl, xw (List.mem_append_left _ (List.mem_of_getElem? (i := 6) rfl)) rfl, Nat.le_of_ble_eq_true rfl⟩))⟩
set_option maxRecDepth 20000 in
theorem xce_6_208 : xCok 6 (208, 0, mX6_isLetter, 1) := ⟨xok_mX6_isLetter, by decide +kernel, Or.inl ⟨rfl, xw (xc3 _ (List.mem_of_getElem? (i := 154) rfl)) rfl, xw (xc3 _ (List.mem_of_getElem? (i := 155) rfl)) rfl⟩⟩
set_option maxRecDepth 20000 in
theorem xce_6_211 : xCok 6 (211, 0, mX7_find, 3) := ⟨xok_mX7_find, by decide +kernel, Or.inl ⟨rfl, xw (xc3 _ (List.mem_of_getElem? (i := 157) rfl)) rfl, xw (xc3 _ (List.mem_of_getElem? (i := 158) rfl)) rfl⟩⟩
set_option maxRecDepth 20000 in
theorem xce_6_215 : xCok 6 (215, 0, mX6_isDigit, 1) := ⟨xok_mX6_isDigit, by decide +kernel, Or.inl ⟨rfl, xw (xc3 _ (List.mem_of_getElem? (i := 160) rfl)) rfl, xw (xc3 _ (List.mem_of_getElem? (i := 161) rfl)) rfl⟩⟩
set_option maxRecDepth 20000 in
theorem xce_6_218 : xCok 6 (218, 0, mX6_isSign, 1) := ⟨xok_mX6_isSign, by decide +kernel, Or.inl ⟨rfl, xw (xc3 _ (List.mem_of_getElem? (i := 163) rfl)) rfl, xw (xc3 _ (List.mem_of_getElem? (i := 164) rfl)) rfl⟩⟩
theorem xca_6 : ∀ e ∈ xCl6, xCok 6 e := List.forall_mem_cons.mpr ⟨xce_6_39, List.forall_mem_cons.mpr ⟨xce_6_60, List.forall_mem_cons.mpr ⟨xce_6_69, List.forall_mem_cons.mpr ⟨xce_6_75, List.forall_mem_cons.mpr ⟨xce_6_78, List.forall_mem_cons.mpr ⟨xce_6_84, List.forall_mem_cons.mpr ⟨xce_6_88, List.forall_mem_cons.mpr ⟨xce_6_91, List.forall_mem_cons.mpr ⟨xce_6_94, List.forall_mem_cons.mpr ⟨xce_6_97, List.forall_mem_cons.mpr ⟨xce_6_100, List.forall_mem_cons.mpr ⟨xce_6_103, List.forall_mem_cons.mpr ⟨xce_6_114, List.forall_mem_cons.mpr ⟨xce_6_118, List.forall_mem_cons.mpr ⟨xce_6_122, List.forall_mem_cons.mpr ⟨xce_6_125, List.forall_mem_cons.mpr ⟨xce_6_129, List.forall_mem_cons.mpr ⟨xce_6_132, List.forall_mem_cons.mpr ⟨xce_6_148, List.forall_mem_cons.mpr ⟨xce_6_151, List.forall_mem_cons.mpr ⟨xce_6_155, List.forall_mem_cons.mpr ⟨xce_6_158, List.forall_mem_cons.mpr ⟨xce_6_162, List.forall_mem_cons.mpr ⟨xce_6_168, List.forall_mem_cons.mpr ⟨xce_6_171, List.forall_mem_cons.mpr ⟨xce_6_175, List.forall_mem_cons.mpr ⟨xce_6_186, List.forall_mem_cons.mpr ⟨xce_6_189, List.forall_mem_cons.mpr ⟨xce_6_193, List.forall_mem_cons.mpr ⟨xce_6_205, List.forall_mem_cons.mpr ⟨xce_6_208, List.forall_mem_cons.mpr ⟨xce_6_211, List.forall_mem_cons.mpr ⟨xce_6_215, List.forall_mem_cons.mpr ⟨xce_6_218, fun _ h => absurd h List.not_mem_nil⟩⟩⟩⟩⟩⟩⟩⟩⟩⟩⟩⟩⟩⟩⟩⟩⟩⟩⟩⟩⟩⟩⟩⟩⟩⟩⟩⟩⟩⟩⟩⟩⟩⟩
set_option maxRecDepth 20000 in
theorem xce_7_68 : xCok 7 (68, 2, mX8_numberPairs, 1) := ⟨xok_mX8_numberPairs, by decide +kernel, Or.inr (Or.inr (Or.inl ⟨rfl, xw (xc5 _ (List.mem_of_getElem? (i := 34) rfl)) rfl, xw (xc5 _ (List.mem_of_getElem? (i := 36) rfl)) rfl, xw (List.mem_append_left _ (List.mem_of_getElem? (i := 29) rfl)) rfl, Nat.le_of_ble_eq_true rfl⟩))⟩
set_option maxRecDepth 20000 in
theorem xce_7_72 : xCok 7 (72, 0, mX7_fill, 2) := ⟨xok_mX7_fill, by decide +kernel, Or.inl ⟨rfl, xw (xc5 _ (List.mem_of_getElem? (i := 38) rfl)) rfl, xw (xc4 _ (List.mem_of_getElem? (i := 143) rfl)) rfl⟩⟩
set_option maxRecDepth 20000 in
theorem xce_7_78 : xCok 7 (78, 0, mX5_pairOf, 3) := ⟨xok_mX5_pairOf, by decide +kernel, Or.inl ⟨rfl, xw (xc5 _ (List.mem_of_getElem? (i := 39) rfl)) rfl, xw (xc3 _ (List.mem_of_getElem? (i := 61) rfl)) rfl⟩⟩
set_option maxRecDepth 20000 in
theorem xce_7_82 : xCok 7 (82, 0, mX7_put, 3) := ⟨xok_mX7_put, by decide +kernel, Or.inl ⟨rfl, xw (xc5 _ (List.mem_of_getElem? (i := 40) rfl)) rfl, xw (xc3 _ (List.mem_of_getElem? (i := 40) rfl)) rfl⟩⟩
set_option maxRecDepth 20000 in
theorem xce_7_95 : xCok 7 (95, 0, mX7_put_, 3) := ⟨xok_mX7_put_, by decide +kernel, Or.inl ⟨rfl, xw (xc5 _ (List.mem_of_getElem? (i := 51) rfl)) rfl, xw (xc3 _ (List.mem_of_getElem? (i := 213) rfl)) rfl⟩⟩
set_option maxRecDepth 20000 in
theorem xce_7_98 : xCok 7 (98, 2, mX8_sortIn, 1) := ⟨xok_mX8_sortIn, by decide +kernel, Or.inr (Or.inr (Or.inl ⟨rfl, xw (xc5 _ (List.mem_of_getElem? (i := 52) rfl)) rfl, xw (xc5 _ (List.mem_of_getElem? (i := 54) rfl)) rfl, xw (List.mem_append_left _ (List.mem_of_getElem? (i := 30) rfl)) rfl, Nat.le_of_ble_eq_true rfl⟩))⟩
set_option maxRecDepth 20000 in
theorem xce_7_101 : xCok 7 (101, 0, mX7_at, 2) := ⟨xok_mX7_at, by decide +kernel, Or.inl ⟨rfl, xw (xc5 _ (List.mem_of_getElem? (i := 56) rfl)) rfl, xw (xc3 _ (List.mem_of_getElem? (i := 47) rfl)) rfl⟩⟩
set_option maxRecDepth 20000 in
theorem xce_7_105 : xCok 7 (105, 0, mX7_hasBit, 2) := ⟨xok_mX7_hasBit, by decide +kernel, Or.inl ⟨rfl, xw (xc5 _ (List.mem_of_getElem? (i := 57) rfl)) rfl, xw (xc4 _ (List.mem_of_getElem? (i := 2) rfl)) rfl⟩⟩
set_option maxRecDepth 20000 in
theorem xce_7_109 : xCok 7 (109, 0, mX8_putIn, 3) := ⟨xok_mX8_putIn, by decide +kernel, Or.inl ⟨rfl, xw (xc5 _ (List.mem_of_getElem? (i := 58) rfl)) rfl, xw (xc5 _ (List.mem_of_getElem? (i := 59) rfl)) rfl⟩⟩
set_option maxRecDepth 20000 in
theorem xce_7_113 : xCok 7 (113, 2, mX8_kindLike, 1) := ⟨xok_mX8_kindLike, by decide +kernel, Or.inr (Or.inr (Or.inl ⟨rfl, xw (xc5 _ (List.mem_of_getElem? (i := 64) rfl)) rfl, xw (xc5 _ (List.mem_of_getElem? (i := 66) rfl)) rfl, xw (List.mem_append_left _ (List.mem_of_getElem? (i := 31) rfl)) rfl, Nat.le_of_ble_eq_true rfl⟩))⟩
set_option maxRecDepth 20000 in
theorem xce_7_117 : xCok 7 (117, 0, mX7_at_, 2) := ⟨xok_mX7_at_, by decide +kernel, Or.inl ⟨rfl, xw (xc5 _ (List.mem_of_getElem? (i := 61) rfl)) rfl, xw (xc5 _ (List.mem_of_getElem? (i := 62) rfl)) rfl⟩⟩
set_option maxRecDepth 20000 in
theorem xce_7_129 : xCok 7 (129, 2, mX8_pairs, 0) := ⟨xok_mX8_pairs, by decide +kernel, Or.inr (Or.inr (Or.inl ⟨rfl, xw (xc5 _ (List.mem_of_getElem? (i := 86) rfl)) rfl, xw (xc5 _ (List.mem_of_getElem? (i := 87) rfl)) rfl, xw (xc5 _ (List.mem_of_getElem? (i := 88) rfl)) rfl, Nat.le_of_ble_eq_true rfl⟩))⟩
set_option maxRecDepth 20000 in
theorem xce_7_133 : xCok 7 (133, 2, mX8_allLow, 0) := ⟨xok_mX8_allLow, by decide +kernel, Or.inr (Or.inr (Or.inl ⟨rfl, xw (xc5 _ (List.mem_of_getElem? (i := 72) rfl)) rfl, xw (xc5 _ (List.mem_of_getElem? (i := 74) rfl)) rfl, xw (List.mem_append_left _ (List.mem_of_getElem? (i := 32) rfl)) rfl, Nat.le_of_ble_eq_true rfl⟩))⟩
set_option maxRecDepth 20000 in
theorem xce_7_137 : xCok 7 (137, 2, mX8_allHigh, 0) := ⟨xok_mX8_allHigh, by decide +kernel, Or.inr (Or.inr (Or.inl ⟨rfl, xw (xc5 _ (List.mem_of_getElem? (i := 77) rfl)) rfl, xw (xc5 _ (List.mem_of_getElem? (i := 79) rfl)) rfl, xw (List.mem_append_left _ (List.mem_of_getElem? (i := 33) rfl)) rfl, Nat.le_of_ble_eq_true rfl⟩))⟩
set_option maxRecDepth 20000 in
theorem xce_7_140 : xCok 7 (140, 2, mX8_surePairs, 0) := ⟨xok_mX8_surePairs, by decide +kernel, Or.inr (Or.inr (Or.inl ⟨rfl, xw (xc5 _ (List.mem_of_getElem? (i := 82) rfl)) rfl, xw (xc5 _ (List.mem_of_getElem? (i := 84) rfl)) rfl, xw (List.mem_append_left _ (List.mem_of_getElem? (i := 34) rfl)) rfl, Nat.le_of_ble_eq_true rfl⟩))⟩
set_option maxRecDepth 20000 in
theorem xce_7_143 : xCok 7 (143, 0, mX8_worstFrom, 6) := ⟨xok_mX8_worstFrom, by decide +kernel, Or.inl ⟨rfl, xw (xc5 _ (List.mem_of_getElem? (i := 90) rfl)) rfl, xw (xc5 _ (List.mem_of_getElem? (i := 91) rfl)) rfl⟩⟩
set_option maxRecDepth 20000 in
theorem xce_7_147 : xCok 7 (147, 0, mX8_sumFrom, 6) := ⟨xok_mX8_sumFrom, by decide +kernel, Or.inl ⟨rfl, xw (xc5 _ (List.mem_of_getElem? (i := 159) rfl)) rfl, xw (xc5 _ (List.mem_of_getElem? (i := 160) rfl)) rfl⟩⟩
set_option maxRecDepth 20000 in
theorem xce_7_151 : xCok 7 (151, 2, mX8_fewestOfAll, 0) := ⟨xok_mX8_fewestOfAll, by decide +kernel, Or.inr (Or.inr (Or.inl ⟨rfl, xw (xc5 _ (List.mem_of_getElem? (i := 150) rfl)) rfl, xw (xc5 _ (List.mem_of_getElem? (i := 69) rfl)) rfl, xw (xc5 _ (List.mem_of_getElem? (i := 70) rfl)) rfl, Nat.le_of_ble_eq_true rfl⟩))⟩
set_option maxRecDepth 20000 in
theorem xce_7_154 : xCok 7 (154, 0, mX8_worstBehind, 7) := ⟨xok_mX8_worstBehind, by decide +kernel, Or.inl ⟨rfl, xw (xc5 _ (List.mem_of_getElem? (i := 139) rfl)) rfl, xw (xc5 _ (List.mem_of_getElem? (i := 140) rfl)) rfl⟩⟩
set_option maxRecDepth 20000 in
theorem xce_7_158 : xCok 7 (158, 2, mX8_codeOf, 1) := ⟨xok_mX8_codeOf, by decide +kernel, Or.inr (Or.inr (Or.inl ⟨rfl, xw (xc5 _ (List.mem_of_getElem? (i := 131) rfl)) rfl, xw (xc5 _ (List.mem_of_getElem? (i := 133) rfl)) rfl, xw (List.mem_append_left _ (List.mem_of_getElem? (i := 42) rfl)) rfl, Nat.le_of_ble_eq_true rfl⟩))⟩
set_option maxRecDepth 20000 in
theorem xce_7_161 : xCok 7 (161, 2, mX8_sumOfAll, 0) := ⟨xok_mX8_sumOfAll, by decide +kernel, Or.inr (Or.inr (Or.inl ⟨rfl, xw (xc5 _ (List.mem_of_getElem? (i := 173) rfl)) rfl, xw (xc5 _ (List.mem_of_getElem? (i := 156) rfl)) rfl, xw (xc5 _ (List.mem_of_getElem? (i := 157) rfl)) rfl, Nat.le_of_ble_eq_true rfl⟩))⟩
set_option maxRecDepth 20000 in
theorem xce_7_164 : xCok 7 (164, 0, mX8_sumBehind, 7) := ⟨xok_mX8_sumBehind, by decide +kernel, Or.inl ⟨rfl, xw (xc5 _ (List.mem_of_getElem? (i := 166) rfl)) rfl, xw (xc5 _ (List.mem_of_getElem? (i := 167) rfl)) rfl⟩⟩
set_option maxRecDepth 20000 in
theorem xce_7_167 : xCok 7 (167, 2, mX8_isAlike, 2) := ⟨xok_mX8_isAlike, by decide +kernel, Or.inr (Or.inr (Or.inl ⟨rfl, xw (xc5 _ (List.mem_of_getElem? (i := 93) rfl)) rfl, xw (xc5 _ (List.mem_of_getElem? (i := 95) rfl)) rfl, xw (List.mem_append_left _ (List.mem_of_getElem? (i := 35) rfl)) rfl, Nat.le_of_ble_eq_true rfl⟩))⟩
set_option maxRecDepth 20000 in
theorem xce_7_171 : xCok 7 (171, 2, mX8_slotOf, 2) := ⟨xok_mX8_slotOf, by decide +kernel, Or.inr (Or.inr (Or.inl ⟨rfl, xw (xc5 _ (List.mem_of_getElem? (i := 100) rfl)) rfl, xw (xc5 _ (List.mem_of_getElem? (i := 102) rfl)) rfl, xw (List.mem_append_left _ (List.mem_of_getElem? (i := 36) rfl)) rfl, Nat.le_of_ble_eq_true rfl⟩))⟩
set_option maxRecDepth 20000 in
theorem xce_7_175 : xCok 7 (175, 2, mX8_joinsFor, 1) := ⟨xok_mX8_joinsFor, by decide +kernel, Or.inr (Or.inr (Or.inl ⟨rfl, xw (xc5 _ (List.mem_of_getElem? (i := 106) rfl)) rfl, xw (xc5 _ (List.mem_of_getElem? (i := 108) rfl)) rfl, xw (List.mem_append_left _ (List.mem_of_getElem? (i := 37) rfl)) rfl, Nat.le_of_ble_eq_true rfl⟩))⟩
set_option maxRecDepth 20000 in
theorem xce_7_178 : xCok 7 (178, 2, mX8_leastWorst, 3) := ⟨xok_mX8_leastWorst, by decide +kernel, Or.inr (Or.inr (Or.inl ⟨rfl, xw (xc5 _ (List.mem_of_getElem? (i := 115) rfl)) rfl, xw (xc5 _ (List.mem_of_getElem? (i := 117) rfl)) rfl, xw (List.mem_append_left _ (List.mem_of_getElem? (i := 39) rfl)) rfl, Nat.le_of_ble_eq_true rfl⟩))⟩
set_option maxRecDepth 20000 in
theorem xce_7_182 : xCok 7 (182, 2, mX8_freeThings, 1) := ⟨xok_mX8_freeThings, by decide +kernel, Or.inr (Or.inr (Or.inl ⟨rfl, xw (xc5 _ (List.mem_of_getElem? (i := 127) rfl)) rfl, xw (xc5 _ (List.mem_of_getElem? (i := 129) rfl)) rfl, xw (List.mem_append_left _ (List.mem_of_getElem? (i := 41) rfl)) rfl, Nat.le_of_ble_eq_true rfl⟩))⟩
set_option maxRecDepth 20000 in
theorem xce_7_185 : xCok 7 (185, 2, mX8_isFirstLike, 2) := ⟨xok_mX8_isFirstLike, by decide +kernel, Or.inr (Or.inr (Or.inl ⟨rfl, xw (xc5 _ (List.mem_of_getElem? (i := 135) rfl)) rfl, xw (xc5 _ (List.mem_of_getElem? (i := 137) rfl)) rfl, xw (List.mem_append_left _ (List.mem_of_getElem? (i := 43) rfl)) rfl, Nat.le_of_ble_eq_true rfl⟩))⟩
set_option maxRecDepth 20000 in
theorem xce_7_188 : xCok 7 (188, 2, mX8_leastSum, 3) := ⟨xok_mX8_leastSum, by decide +kernel, Or.inr (Or.inr (Or.inl ⟨rfl, xw (xc5 _ (List.mem_of_getElem? (i := 162) rfl)) rfl, xw (xc5 _ (List.mem_of_getElem? (i := 164) rfl)) rfl, xw (List.mem_append_left _ (List.mem_of_getElem? (i := 44) rfl)) rfl, Nat.le_of_ble_eq_true rfl⟩))⟩
set_option maxRecDepth 20000 in
theorem xce_7_191 : xCok 7 (191, 0, mJ13_bitCount_95d88, 1) := ⟨xok_mJ13_bitCount_95d88, by decide +kernel, Or.inl ⟨rfl, xw (xc5 _ (List.mem_of_getElem? (i := 123) rfl)) rfl, xw (xc4 _ (List.mem_of_getElem? (i := 163) rfl)) rfl⟩⟩
set_option maxRecDepth 20000 in
theorem xce_7_197 : xCok 7 (197, 0, mX7_lowestBit, 1) := ⟨xok_mX7_lowestBit, by decide +kernel, Or.inl ⟨rfl, xw (xc5 _ (List.mem_of_getElem? (i := 97) rfl)) rfl, xw (xc4 _ (List.mem_of_getElem? (i := 160) rfl)) rfl⟩⟩
set_option maxRecDepth 20000 in
theorem xce_7_202 : xCok 7 (202, 2, mX8_kindsIn, 2) := ⟨xok_mX8_kindsIn, by decide +kernel, Or.inr (Or.inr (Or.inl ⟨rfl, xw (xc5 _ (List.mem_of_getElem? (i := 119) rfl)) rfl, xw (xc5 _ (List.mem_of_getElem? (i := 121) rfl)) rfl, xw (List.mem_append_left _ (List.mem_of_getElem? (i := 40) rfl)) rfl, Nat.le_of_ble_eq_true rfl⟩))⟩
set_option maxRecDepth 20000 in
theorem xce_7_205 : xCok 7 (205, 0, mX8_depthOf, 2) := ⟨xok_mX8_depthOf, by decide +kernel, Or.inl ⟨rfl, xw (xc5 _ (List.mem_of_getElem? (i := 124) rfl)) rfl, xw (xc5 _ (List.mem_of_getElem? (i := 125) rfl)) rfl⟩⟩
set_option maxRecDepth 20000 in
theorem xce_7_208 : xCok 7 (208, 2, mX8_countGroups, 1) := ⟨xok_mX8_countGroups, by decide +kernel, Or.inr (Or.inr (Or.inl ⟨rfl, xw (xc5 _ (List.mem_of_getElem? (i := 110) rfl)) rfl, xw (xc5 _ (List.mem_of_getElem? (i := 112) rfl)) rfl, xw (List.mem_append_left _ (List.mem_of_getElem? (i := 38) rfl)) rfl, Nat.le_of_ble_eq_true rfl⟩))⟩
theorem xca_7 : ∀ e ∈ xCl7, xCok 7 e := List.forall_mem_cons.mpr ⟨xce_7_68, List.forall_mem_cons.mpr ⟨xce_7_72, List.forall_mem_cons.mpr ⟨xce_7_78, List.forall_mem_cons.mpr ⟨xce_7_82, List.forall_mem_cons.mpr ⟨xce_7_95, List.forall_mem_cons.mpr ⟨xce_7_98, List.forall_mem_cons.mpr ⟨xce_7_101, List.forall_mem_cons.mpr ⟨xce_7_105, List.forall_mem_cons.mpr ⟨xce_7_109, List.forall_mem_cons.mpr ⟨xce_7_113, List.forall_mem_cons.mpr ⟨xce_7_117, List.forall_mem_cons.mpr ⟨xce_7_129, List.forall_mem_cons.mpr ⟨xce_7_133, List.forall_mem_cons.mpr ⟨xce_7_137, List.forall_mem_cons.mpr ⟨xce_7_140, List.forall_mem_cons.mpr ⟨xce_7_143, List.forall_mem_cons.mpr ⟨xce_7_147, List.forall_mem_cons.mpr ⟨xce_7_151, List.forall_mem_cons.mpr ⟨xce_7_154, List.forall_mem_cons.mpr ⟨xce_7_158, List.forall_mem_cons.mpr ⟨xce_7_161, List.forall_mem_cons.mpr ⟨xce_7_164, List.forall_mem_cons.mpr ⟨xce_7_167, List.forall_mem_cons.mpr ⟨xce_7_171, List.forall_mem_cons.mpr ⟨xce_7_175, List.forall_mem_cons.mpr ⟨xce_7_178, List.forall_mem_cons.mpr ⟨xce_7_182, List.forall_mem_cons.mpr ⟨xce_7_185, List.forall_mem_cons.mpr ⟨xce_7_188, List.forall_mem_cons.mpr ⟨xce_7_191, List.forall_mem_cons.mpr ⟨xce_7_197, List.forall_mem_cons.mpr ⟨xce_7_202, List.forall_mem_cons.mpr ⟨xce_7_205, List.forall_mem_cons.mpr ⟨xce_7_208, fun _ h => absurd h List.not_mem_nil⟩⟩⟩⟩⟩⟩⟩⟩⟩⟩⟩⟩⟩⟩⟩⟩⟩⟩⟩⟩⟩⟩⟩⟩⟩⟩⟩⟩⟩⟩⟩⟩⟩⟩
set_option maxRecDepth 20000 in
theorem xce_8_17 : xCok 8 (17, 0, mX8_depthOf, 2) := ⟨xok_mX8_depthOf, by decide +kernel, Or.inl ⟨rfl, xw (xc6 _ (List.mem_of_getElem? (i := 203) rfl)) rfl, xw (xc5 _ (List.mem_of_getElem? (i := 125) rfl)) rfl⟩⟩
set_option maxRecDepth 20000 in
theorem xce_8_23 : xCok 8 (23, 0, mX9_powerOf, 2) := ⟨xok_mX9_powerOf, by decide +kernel, Or.inl ⟨rfl, xw (xc6 _ (List.mem_of_getElem? (i := 204) rfl)) rfl, xw (xc6 _ (List.mem_of_getElem? (i := 205) rfl)) rfl⟩⟩
set_option maxRecDepth 20000 in
theorem xce_8_26 : xCok 8 (26, 2, mX9_lay, 1) := ⟨xok_mX9_lay, by decide +kernel, Or.inr (Or.inr (Or.inl ⟨rfl, xw (xc6 _ (List.mem_of_getElem? (i := 207) rfl)) rfl, xw (xc4 _ (List.mem_of_getElem? (i := 193) rfl)) rfl, xw (xc4 _ (List.mem_of_getElem? (i := 194) rfl)) rfl, Nat.le_of_ble_eq_true rfl⟩))⟩
theorem xca_8 : ∀ e ∈ xCl8, xCok 8 e := List.forall_mem_cons.mpr ⟨xce_8_17, List.forall_mem_cons.mpr ⟨xce_8_23, List.forall_mem_cons.mpr ⟨xce_8_26, fun _ h => absurd h List.not_mem_nil⟩⟩⟩
set_option maxRecDepth 20000 in
theorem xce_9_58 : xCok 9 (58, 0, mX7_put_, 3) := ⟨xok_mX7_put_, by decide +kernel, Or.inl ⟨rfl, xw (xc3 _ (List.mem_of_getElem? (i := 212) rfl)) rfl, xw (xc3 _ (List.mem_of_getElem? (i := 213) rfl)) rfl⟩⟩
set_option maxRecDepth 20000 in
theorem xce_9_64 : xCok 9 (64, 0, mX7_put, 3) := ⟨xok_mX7_put, by decide +kernel, Or.inl ⟨rfl, xw (xc3 _ (List.mem_of_getElem? (i := 215) rfl)) rfl, xw (xc3 _ (List.mem_of_getElem? (i := 40) rfl)) rfl⟩⟩
set_option maxRecDepth 20000 in
theorem xce_9_67 : xCok 9 (67, 0, mX7_at, 2) := ⟨xok_mX7_at, by decide +kernel, Or.inl ⟨rfl, xw (xc3 _ (List.mem_of_getElem? (i := 236) rfl)) rfl, xw (xc3 _ (List.mem_of_getElem? (i := 47) rfl)) rfl⟩⟩
set_option maxRecDepth 20000 in
theorem xce_9_71 : xCok 9 (71, 2, mX10_rowBits, 0) := ⟨xok_mX10_rowBits, by decide +kernel, Or.inr (Or.inr (Or.inl ⟨rfl, xw (xc4 _ (List.mem_of_getElem? (i := 36) rfl)) rfl, xw (xc3 _ (List.mem_of_getElem? (i := 233) rfl)) rfl, xw (xc3 _ (List.mem_of_getElem? (i := 234) rfl)) rfl, Nat.le_of_ble_eq_true rfl⟩))⟩
set_option maxRecDepth 20000 in
theorem xce_9_75 : xCok 9 (75, 0, mX7_hasBit, 2) := ⟨xok_mX7_hasBit, by decide +kernel, Or.inl ⟨rfl, xw (xc4 _ (List.mem_of_getElem? (i := 37) rfl)) rfl, xw (xc4 _ (List.mem_of_getElem? (i := 2) rfl)) rfl⟩⟩
set_option maxRecDepth 20000 in
theorem xce_9_79 : xCok 9 (79, 2, mX10_addToRow, 1) := ⟨xok_mX10_addToRow, by decide +kernel, Or.inr (Or.inr (Or.inl ⟨rfl, xw (xc4 _ (List.mem_of_getElem? (i := 38) rfl)) rfl, xw (xc4 _ (List.mem_of_getElem? (i := 5) rfl)) rfl, xw (xc4 _ (List.mem_of_getElem? (i := 6) rfl)) rfl, Nat.le_of_ble_eq_true rfl⟩))⟩
set_option maxRecDepth 20000 in
theorem xce_9_83 : xCok 9 (83, 0, mX7_find, 3) := ⟨xok_mX7_find, by decide +kernel, Or.inl ⟨rfl, xw (xc3 _ (List.mem_of_getElem? (i := 187) rfl)) rfl, xw (xc3 _ (List.mem_of_getElem? (i := 158) rfl)) rfl⟩⟩
set_option maxRecDepth 20000 in
theorem xce_9_87 : xCok 9 (87, 2, mX10_hasThing, 1) := ⟨xok_mX10_hasThing, by decide +kernel, Or.inr (Or.inr (Or.inl ⟨rfl, xw (xc5 _ (List.mem_of_getElem? (i := 13) rfl)) rfl, xw (xc4 _ (List.mem_of_getElem? (i := 218) rfl)) rfl, xw (xc4 _ (List.mem_of_getElem? (i := 219) rfl)) rfl, Nat.le_of_ble_eq_true rfl⟩))⟩
set_option maxRecDepth 20000 in
theorem xce_9_91 : xCok 9 (91, 2, mX10_isHeap, 1) := ⟨xok_mX10_isHeap, by decide +kernel, Or.inr (Or.inr (Or.inl ⟨rfl, xw (xc4 _ (List.mem_of_getElem? (i := 62) rfl)) rfl, xw (xc4 _ (List.mem_of_getElem? (i := 64) rfl)) rfl, xw (List.mem_append_left _ (List.mem_of_getElem? (i := 22) rfl)) rfl, Nat.le_of_ble_eq_true rfl⟩))⟩
theorem xca_9 : ∀ e ∈ xCl9, xCok 9 e := List.forall_mem_cons.mpr ⟨xce_9_58, List.forall_mem_cons.mpr ⟨xce_9_64, List.forall_mem_cons.mpr ⟨xce_9_67, List.forall_mem_cons.mpr ⟨xce_9_71, List.forall_mem_cons.mpr ⟨xce_9_75, List.forall_mem_cons.mpr ⟨xce_9_79, List.forall_mem_cons.mpr ⟨xce_9_83, List.forall_mem_cons.mpr ⟨xce_9_87, List.forall_mem_cons.mpr ⟨xce_9_91, fun _ h => absurd h List.not_mem_nil⟩⟩⟩⟩⟩⟩⟩⟩⟩
set_option maxRecDepth 20000 in
theorem xce_10_19 : xCok 10 (19, 3, mX10_init, 0) := ⟨xok_mX10_init, by decide +kernel, Or.inr (Or.inr (Or.inr ⟨rfl, xc1 _ (List.mem_of_getElem? (i := 31) rfl), xw (xc1 _ (List.mem_of_getElem? (i := 32) rfl)) rfl, rfl, rfl, Nat.le_of_ble_eq_true rfl⟩))⟩
set_option maxRecDepth 20000 in
theorem xce_10_29 : xCok 10 (29, 3, mX6_init, 0) := ⟨xok_mX6_init, by decide +kernel, Or.inr (Or.inr (Or.inr ⟨rfl, xc1 _ (List.mem_of_getElem? (i := 109) rfl), xw (xc1 _ (List.mem_of_getElem? (i := 110) rfl)) rfl, rfl, rfl, Nat.le_of_ble_eq_true rfl⟩))⟩
set_option maxRecDepth 20000 in
theorem xce_10_36 : xCok 10 (36, 3, mX0_init, 0) := ⟨xok_mX0_init, by decide +kernel, Or.inr (Or.inr (Or.inr ⟨rfl, xc1 _ (List.mem_of_getElem? (i := 214) rfl), xw (xc1 _ (List.mem_of_getElem? (i := 215) rfl)) rfl, rfl, rfl, Nat.le_of_ble_eq_true rfl⟩))⟩
set_option maxRecDepth 20000 in
theorem xce_10_47 : xCok 10 (47, 3, mX5_init, 0) := ⟨xok_mX5_init, by decide +kernel, Or.inr (Or.inr (Or.inr ⟨rfl, xc2 _ (List.mem_of_getElem? (i := 32) rfl), xw (xc2 _ (List.mem_of_getElem? (i := 33) rfl)) rfl, rfl, rfl, Nat.le_of_ble_eq_true rfl⟩))⟩
set_option maxRecDepth 20000 in
theorem xce_10_54 : xCok 10 (54, 3, mX8_init, 0) := ⟨xok_mX8_init, by decide +kernel, Or.inr (Or.inr (Or.inr ⟨rfl, xc2 _ (List.mem_of_getElem? (i := 76) rfl), xw (xc2 _ (List.mem_of_getElem? (i := 77) rfl)) rfl, rfl, rfl, Nat.le_of_ble_eq_true rfl⟩))⟩
set_option maxRecDepth 20000 in
theorem xce_10_61 : xCok 10 (61, 3, mX4_init, 0) := ⟨xok_mX4_init, by decide +kernel, Or.inr (Or.inr (Or.inr ⟨rfl, xc2 _ (List.mem_of_getElem? (i := 150) rfl), xw (xc2 _ (List.mem_of_getElem? (i := 151) rfl)) rfl, rfl, rfl, Nat.le_of_ble_eq_true rfl⟩))⟩
set_option maxRecDepth 20000 in
theorem xce_10_68 : xCok 10 (68, 3, mX3_init, 0) := ⟨xok_mX3_init, by decide +kernel, Or.inr (Or.inr (Or.inr ⟨rfl, xc2 _ (List.mem_of_getElem? (i := 160) rfl), xw (xc2 _ (List.mem_of_getElem? (i := 161) rfl)) rfl, rfl, rfl, Nat.le_of_ble_eq_true rfl⟩))⟩
set_option maxRecDepth 20000 in
theorem xce_10_75 : xCok 10 (75, 3, mX2_init, 0) := ⟨xok_mX2_init, by decide +kernel, Or.inr (Or.inr (Or.inr ⟨rfl, xc2 _ (List.mem_of_getElem? (i := 176) rfl), xw (xc2 _ (List.mem_of_getElem? (i := 177) rfl)) rfl, rfl, rfl, Nat.le_of_ble_eq_true rfl⟩))⟩
set_option maxRecDepth 20000 in
theorem xce_10_82 : xCok 10 (82, 3, mX1_init, 0) := ⟨xok_mX1_init, by decide +kernel, Or.inr (Or.inr (Or.inr ⟨rfl, xc2 _ (List.mem_of_getElem? (i := 200) rfl), xw (xc2 _ (List.mem_of_getElem? (i := 201) rfl)) rfl, rfl, rfl, Nat.le_of_ble_eq_true rfl⟩))⟩
set_option maxRecDepth 20000 in
theorem xce_10_89 : xCok 10 (89, 3, mX9_init, 0) := ⟨xok_mX9_init, by decide +kernel, Or.inr (Or.inr (Or.inr ⟨rfl, xc3 _ (List.mem_of_getElem? (i := 22) rfl), xw (xc3 _ (List.mem_of_getElem? (i := 23) rfl)) rfl, rfl, rfl, Nat.le_of_ble_eq_true rfl⟩))⟩
set_option maxRecDepth 20000 in
theorem xce_10_94 : xCok 10 (94, 2, mX5_refill, 1) := ⟨xok_mX5_refill, by decide +kernel, Or.inr (Or.inr (Or.inl ⟨rfl, xw (xc3 _ (List.mem_of_getElem? (i := 35) rfl)) rfl, xw (xc3 _ (List.mem_of_getElem? (i := 36) rfl)) rfl, xw (xc3 _ (List.mem_of_getElem? (i := 37) rfl)) rfl, Nat.le_of_ble_eq_true rfl⟩))⟩
set_option maxRecDepth 20000 in
theorem xce_10_101 : xCok 10 (101, 2, mX11_putBytes, 1) := ⟨xok_mX11_putBytes, by decide +kernel, Or.inr (Or.inr (Or.inl ⟨rfl, xw (xc3 _ (List.mem_of_getElem? (i := 126) rfl)) rfl, xw (xc3 _ (List.mem_of_getElem? (i := 128) rfl)) rfl, xw (List.mem_append_left _ (List.mem_of_getElem? (i := 4) rfl)) rfl, Nat.le_of_ble_eq_true rfl⟩))⟩
set_option maxRecDepth 20000 in
theorem xce_10_105 : xCok 10 (105, 2, mX6_read, 3) := ⟨xok_mX6_read, by decide +kernel, Or.inr (Or.inr (Or.inl ⟨rfl, xw (xc3 _ (List.mem_of_getElem? (i := 138) rfl)) rfl, xw (xc3 _ (List.mem_of_getElem? (i := 139) rfl)) rfl, xw (xc3 _ (List.mem_of_getElem? (i := 140) rfl)) rfl, Nat.le_of_ble_eq_true rfl⟩))⟩
set_option maxRecDepth 20000 in
theorem xce_10_116 : xCok 10 (116, 2, mX0_begin, 1) := ⟨xok_mX0_begin, by decide +kernel, Or.inr (Or.inr (Or.inl ⟨rfl, xw (xc4 _ (List.mem_of_getElem? (i := 39) rfl)) rfl, xw (xc4 _ (List.mem_of_getElem? (i := 40) rfl)) rfl, xw (xc4 _ (List.mem_of_getElem? (i := 41) rfl)) rfl, Nat.le_of_ble_eq_true rfl⟩))⟩
set_option maxRecDepth 20000 in
theorem xce_10_119 : xCok 10 (119, 2, mX9_empty, 0) := ⟨xok_mX9_empty, by decide +kernel, Or.inr (Or.inr (Or.inl ⟨rfl, xw (xc4 _ (List.mem_of_getElem? (i := 46) rfl)) rfl, xw (xc4 _ (List.mem_of_getElem? (i := 47) rfl)) rfl, xw (xc4 _ (List.mem_of_getElem? (i := 48) rfl)) rfl, Nat.le_of_ble_eq_true rfl⟩))⟩
set_option maxRecDepth 20000 in
theorem xce_10_129 : xCok 10 (129, 2, mX10_hasHeaps, 2) := ⟨xok_mX10_hasHeaps, by decide +kernel, Or.inr (Or.inr (Or.inl ⟨rfl, xw (xc4 _ (List.mem_of_getElem? (i := 58) rfl)) rfl, xw (xc4 _ (List.mem_of_getElem? (i := 59) rfl)) rfl, xw (xc4 _ (List.mem_of_getElem? (i := 60) rfl)) rfl, Nat.le_of_ble_eq_true rfl⟩))⟩
set_option maxRecDepth 20000 in
theorem xce_10_133 : xCok 10 (133, 2, mX0_isFull, 0) := ⟨xok_mX0_isFull, by decide +kernel, Or.inr (Or.inr (Or.inl ⟨rfl, xw (xc4 _ (List.mem_of_getElem? (i := 66) rfl)) rfl, xw (xc4 _ (List.mem_of_getElem? (i := 67) rfl)) rfl, xw (xc4 _ (List.mem_of_getElem? (i := 68) rfl)) rfl, Nat.le_of_ble_eq_true rfl⟩))⟩
set_option maxRecDepth 20000 in
theorem xce_10_137 : xCok 10 (137, 2, mX0_balance, 3) := ⟨xok_mX0_balance, by decide +kernel, Or.inr (Or.inr (Or.inl ⟨rfl, xw (xc4 _ (List.mem_of_getElem? (i := 70) rfl)) rfl, xw (xc4 _ (List.mem_of_getElem? (i := 71) rfl)) rfl, xw (xc4 _ (List.mem_of_getElem? (i := 72) rfl)) rfl, Nat.le_of_ble_eq_true rfl⟩))⟩
set_option maxRecDepth 20000 in
theorem xce_10_141 : xCok 10 (141, 2, mX0_write, 3) := ⟨xok_mX0_write, by decide +kernel, Or.inr (Or.inr (Or.inl ⟨rfl, xw (xc4 _ (List.mem_of_getElem? (i := 80) rfl)) rfl, xw (xc4 _ (List.mem_of_getElem? (i := 81) rfl)) rfl, xw (xc4 _ (List.mem_of_getElem? (i := 82) rfl)) rfl, Nat.le_of_ble_eq_true rfl⟩))⟩
set_option maxRecDepth 20000 in
theorem xce_10_145 : xCok 10 (145, 2, mX0_look, 2) := ⟨xok_mX0_look, by decide +kernel, Or.inr (Or.inr (Or.inl ⟨rfl, xw (xc4 _ (List.mem_of_getElem? (i := 93) rfl)) rfl, xw (xc4 _ (List.mem_of_getElem? (i := 94) rfl)) rfl, xw (xc4 _ (List.mem_of_getElem? (i := 95) rfl)) rfl, Nat.le_of_ble_eq_true rfl⟩))⟩
set_option maxRecDepth 20000 in
theorem xce_10_149 : xCok 10 (149, 2, mX0_rain, 1) := ⟨xok_mX0_rain, by decide +kernel, Or.inr (Or.inr (Or.inl ⟨rfl, xw (xc4 _ (List.mem_of_getElem? (i := 109) rfl)) rfl, xw (xc4 _ (List.mem_of_getElem? (i := 110) rfl)) rfl, xw (xc4 _ (List.mem_of_getElem? (i := 111) rfl)) rfl, Nat.le_of_ble_eq_true rfl⟩))⟩
set_option maxRecDepth 20000 in
theorem xce_10_153 : xCok 10 (153, 2, mX0_strike, 1) := ⟨xok_mX0_strike, by decide +kernel, Or.inr (Or.inr (Or.inl ⟨rfl, xw (xc4 _ (List.mem_of_getElem? (i := 121) rfl)) rfl, xw (xc4 _ (List.mem_of_getElem? (i := 122) rfl)) rfl, xw (xc4 _ (List.mem_of_getElem? (i := 123) rfl)) rfl, Nat.le_of_ble_eq_true rfl⟩))⟩
set_option maxRecDepth 20000 in
theorem xce_10_157 : xCok 10 (157, 2, mX0_pass, 1) := ⟨xok_mX0_pass, by decide +kernel, Or.inr (Or.inr (Or.inl ⟨rfl, xw (xc4 _ (List.mem_of_getElem? (i := 129) rfl)) rfl, xw (xc4 _ (List.mem_of_getElem? (i := 130) rfl)) rfl, xw (xc4 _ (List.mem_of_getElem? (i := 131) rfl)) rfl, Nat.le_of_ble_eq_true rfl⟩))⟩
set_option maxRecDepth 20000 in
theorem xce_10_160 : xCok 10 (160, 2, mX5_heed, 2) := ⟨xok_mX5_heed, by decide +kernel, Or.inr (Or.inr (Or.inl ⟨rfl, xw (xc4 _ (List.mem_of_getElem? (i := 138) rfl)) rfl, xw (xc4 _ (List.mem_of_getElem? (i := 139) rfl)) rfl, xw (xc4 _ (List.mem_of_getElem? (i := 140) rfl)) rfl, Nat.le_of_ble_eq_true rfl⟩))⟩
set_option maxRecDepth 20000 in
theorem xce_10_164 : xCok 10 (164, 2, mX5_sift, 1) := ⟨xok_mX5_sift, by decide +kernel, Or.inr (Or.inr (Or.inl ⟨rfl, xw (xc4 _ (List.mem_of_getElem? (i := 171) rfl)) rfl, xw (xc4 _ (List.mem_of_getElem? (i := 172) rfl)) rfl, xw (xc4 _ (List.mem_of_getElem? (i := 173) rfl)) rfl, Nat.le_of_ble_eq_true rfl⟩))⟩
set_option maxRecDepth 20000 in
theorem xce_10_170 : xCok 10 (170, 2, mX5_leftAt, 1) := ⟨xok_mX5_leftAt, by decide +kernel, Or.inr (Or.inr (Or.inl ⟨rfl, xw (xc4 _ (List.mem_of_getElem? (i := 180) rfl)) rfl, xw (xc4 _ (List.mem_of_getElem? (i := 181) rfl)) rfl, xw (xc4 _ (List.mem_of_getElem? (i := 182) rfl)) rfl, Nat.le_of_ble_eq_true rfl⟩))⟩
set_option maxRecDepth 20000 in
theorem xce_10_173 : xCok 10 (173, 2, mX11_shelvePlaces, 1) := ⟨xok_mX11_shelvePlaces, by decide +kernel, Or.inr (Or.inr (Or.inl ⟨rfl, xw (xc4 _ (List.mem_of_getElem? (i := 184) rfl)) rfl, xw (xc4 _ (List.mem_of_getElem? (i := 186) rfl)) rfl, xw (List.mem_append_left _ (List.mem_of_getElem? (i := 27) rfl)) rfl, Nat.le_of_ble_eq_true rfl⟩))⟩
set_option maxRecDepth 20000 in
theorem xce_10_176 : xCok 10 (176, 2, mX5_placeOf, 2) := ⟨xok_mX5_placeOf, by decide +kernel, Or.inr (Or.inr (Or.inl ⟨rfl, xw (xc4 _ (List.mem_of_getElem? (i := 188) rfl)) rfl, xw (xc4 _ (List.mem_of_getElem? (i := 189) rfl)) rfl, xw (xc4 _ (List.mem_of_getElem? (i := 190) rfl)) rfl, Nat.le_of_ble_eq_true rfl⟩))⟩
set_option maxRecDepth 20000 in
theorem xce_10_179 : xCok 10 (179, 2, mX9_lay, 1) := ⟨xok_mX9_lay, by decide +kernel, Or.inr (Or.inr (Or.inl ⟨rfl, xw (xc4 _ (List.mem_of_getElem? (i := 192) rfl)) rfl, xw (xc4 _ (List.mem_of_getElem? (i := 193) rfl)) rfl, xw (xc4 _ (List.mem_of_getElem? (i := 194) rfl)) rfl, Nat.le_of_ble_eq_true rfl⟩))⟩
set_option maxRecDepth 20000 in
theorem xce_10_182 : xCok 10 (182, 2, mX5_firstOfFewestMisses, 0) := ⟨xok_mX5_firstOfFewestMisses, by decide +kernel, Or.inr (Or.inr (Or.inl ⟨rfl, xw (xc4 _ (List.mem_of_getElem? (i := 200) rfl)) rfl, xw (xc4 _ (List.mem_of_getElem? (i := 201) rfl)) rfl, xw (xc4 _ (List.mem_of_getElem? (i := 202) rfl)) rfl, Nat.le_of_ble_eq_true rfl⟩))⟩
set_option maxRecDepth 20000 in
theorem xce_10_186 : xCok 10 (186, 2, mX5_missesOf, 1) := ⟨xok_mX5_missesOf, by decide +kernel, Or.inr (Or.inr (Or.inl ⟨rfl, xw (xc4 _ (List.mem_of_getElem? (i := 212) rfl)) rfl, xw (xc4 _ (List.mem_of_getElem? (i := 205) rfl)) rfl, xw (xc4 _ (List.mem_of_getElem? (i := 206) rfl)) rfl, Nat.le_of_ble_eq_true rfl⟩))⟩
set_option maxRecDepth 20000 in
theorem xce_10_189 : xCok 10 (189, 2, mX10_hasThing, 1) := ⟨xok_mX10_hasThing, by decide +kernel, Or.inr (Or.inr (Or.inl ⟨rfl, xw (xc4 _ (List.mem_of_getElem? (i := 217) rfl)) rfl, xw (xc4 _ (List.mem_of_getElem? (i := 218) rfl)) rfl, xw (xc4 _ (List.mem_of_getElem? (i := 219) rfl)) rfl, Nat.le_of_ble_eq_true rfl⟩))⟩
set_option maxRecDepth 20000 in
theorem xce_10_192 : xCok 10 (192, 2, mX5_know, 2) := ⟨xok_mX5_know, by decide +kernel, Or.inr (Or.inr (Or.inl ⟨rfl, xw (xc4 _ (List.mem_of_getElem? (i := 221) rfl)) rfl, xw (xc4 _ (List.mem_of_getElem? (i := 222) rfl)) rfl, xw (xc4 _ (List.mem_of_getElem? (i := 223) rfl)) rfl, Nat.le_of_ble_eq_true rfl⟩))⟩
set_option maxRecDepth 20000 in
theorem xce_10_196 : xCok 10 (196, 2, mX5_extremePlace, 2) := ⟨xok_mX5_extremePlace, by decide +kernel, Or.inr (Or.inr (Or.inl ⟨rfl, xw (xc4 _ (List.mem_of_getElem? (i := 227) rfl)) rfl, xw (xc4 _ (List.mem_of_getElem? (i := 228) rfl)) rfl, xw (xc4 _ (List.mem_of_getElem? (i := 229) rfl)) rfl, Nat.le_of_ble_eq_true rfl⟩))⟩
set_option maxRecDepth 20000 in
theorem xce_10_200 : xCok 10 (200, 2, mX5_standing, 2) := ⟨xok_mX5_standing, by decide +kernel, Or.inr (Or.inr (Or.inl ⟨rfl, xw (xc4 _ (List.mem_of_getElem? (i := 237) rfl)) rfl, xw (xc4 _ (List.mem_of_getElem? (i := 238) rfl)) rfl, xw (xc4 _ (List.mem_of_getElem? (i := 239) rfl)) rfl, Nat.le_of_ble_eq_true rfl⟩))⟩
set_option maxRecDepth 20000 in
theorem xce_10_203 : xCok 10 (203, 2, mX10_hasTwo, 2) := ⟨xok_mX10_hasTwo, by decide +kernel, Or.inr (Or.inr (Or.inl ⟨rfl, xw (xc5 _ (List.mem_of_getElem? (i := 9) rfl)) rfl, xw (xc5 _ (List.mem_of_getElem? (i := 10) rfl)) rfl, xw (xc5 _ (List.mem_of_getElem? (i := 11) rfl)) rfl, Nat.le_of_ble_eq_true rfl⟩))⟩
set_option maxRecDepth 20000 in
theorem xce_10_206 : xCok 10 (206, 2, mX5_isSure, 3) := ⟨xok_mX5_isSure, by decide +kernel, Or.inr (Or.inr (Or.inl ⟨rfl, xw (xc5 _ (List.mem_of_getElem? (i := 14) rfl)) rfl, xw (xc5 _ (List.mem_of_getElem? (i := 15) rfl)) rfl, xw (xc5 _ (List.mem_of_getElem? (i := 16) rfl)) rfl, Nat.le_of_ble_eq_true rfl⟩))⟩
set_option maxRecDepth 20000 in
theorem xce_10_210 : xCok 10 (210, 2, mX10_hasGoal, 2) := ⟨xok_mX10_hasGoal, by decide +kernel, Or.inr (Or.inr (Or.inl ⟨rfl, xw (xc5 _ (List.mem_of_getElem? (i := 26) rfl)) rfl, xw (xc5 _ (List.mem_of_getElem? (i := 27) rfl)) rfl, xw (xc5 _ (List.mem_of_getElem? (i := 28) rfl)) rfl, Nat.le_of_ble_eq_true rfl⟩))⟩
set_option maxRecDepth 20000 in
theorem xce_10_216 : xCok 10 (216, 2, mX8_begin, 3) := ⟨xok_mX8_begin, by decide +kernel, Or.inr (Or.inr (Or.inl ⟨rfl, xw (xc5 _ (List.mem_of_getElem? (i := 30) rfl)) rfl, xw (xc5 _ (List.mem_of_getElem? (i := 31) rfl)) rfl, xw (xc5 _ (List.mem_of_getElem? (i := 32) rfl)) rfl, Nat.le_of_ble_eq_true rfl⟩))⟩
set_option maxRecDepth 20000 in
theorem xce_10_219 : xCok 10 (219, 2, mX5_markOf, 1) := ⟨xok_mX5_markOf, by decide +kernel, Or.inr (Or.inr (Or.inl ⟨rfl, xw (xc5 _ (List.mem_of_getElem? (i := 41) rfl)) rfl, xw (xc4 _ (List.mem_of_getElem? (i := 209) rfl)) rfl, xw (xc4 _ (List.mem_of_getElem? (i := 210) rfl)) rfl, Nat.le_of_ble_eq_true rfl⟩))⟩
set_option maxRecDepth 20000 in
theorem xce_10_222 : xCok 10 (222, 2, mX5_goalOf, 3) := ⟨xok_mX5_goalOf, by decide +kernel, Or.inr (Or.inr (Or.inl ⟨rfl, xw (xc5 _ (List.mem_of_getElem? (i := 42) rfl)) rfl, xw (xc5 _ (List.mem_of_getElem? (i := 2) rfl)) rfl, xw (xc5 _ (List.mem_of_getElem? (i := 3) rfl)) rfl, Nat.le_of_ble_eq_true rfl⟩))⟩
set_option maxRecDepth 20000 in
theorem xce_10_225 : xCok 10 (225, 2, mX8_add, 2) := ⟨xok_mX8_add, by decide +kernel, Or.inr (Or.inr (Or.inl ⟨rfl, xw (xc5 _ (List.mem_of_getElem? (i := 43) rfl)) rfl, xw (xc5 _ (List.mem_of_getElem? (i := 44) rfl)) rfl, xw (xc5 _ (List.mem_of_getElem? (i := 45) rfl)) rfl, Nat.le_of_ble_eq_true rfl⟩))⟩
set_option maxRecDepth 20000 in
theorem xce_10_229 : xCok 10 (229, 2, mX8_finish, 0) := ⟨xok_mX8_finish, by decide +kernel, Or.inr (Or.inr (Or.inl ⟨rfl, xw (xc5 _ (List.mem_of_getElem? (i := 47) rfl)) rfl, xw (xc5 _ (List.mem_of_getElem? (i := 48) rfl)) rfl, xw (xc5 _ (List.mem_of_getElem? (i := 49) rfl)) rfl, Nat.le_of_ble_eq_true rfl⟩))⟩
set_option maxRecDepth 20000 in
theorem xce_10_232 : xCok 10 (232, 2, mX11_prepare, 3) := ⟨xok_mX11_prepare, by decide +kernel, Or.inr (Or.inr (Or.inl ⟨rfl, xw (xc5 _ (List.mem_of_getElem? (i := 22) rfl)) rfl, xw (xc5 _ (List.mem_of_getElem? (i := 24) rfl)) rfl, xw (List.mem_append_left _ (List.mem_of_getElem? (i := 28) rfl)) rfl, Nat.le_of_ble_eq_true rfl⟩))⟩
set_option maxRecDepth 20000 in
theorem xce_10_235 : xCok 10 (235, 2, mX8_fewestOfAll, 0) := ⟨xok_mX8_fewestOfAll, by decide +kernel, Or.inr (Or.inr (Or.inl ⟨rfl, xw (xc5 _ (List.mem_of_getElem? (i := 68) rfl)) rfl, xw (xc5 _ (List.mem_of_getElem? (i := 69) rfl)) rfl, xw (xc5 _ (List.mem_of_getElem? (i := 70) rfl)) rfl, Nat.le_of_ble_eq_true rfl⟩))⟩
set_option maxRecDepth 20000 in
theorem xce_10_238 : xCok 10 (238, 2, mX8_nextOfFewest, 0) := ⟨xok_mX8_nextOfFewest, by decide +kernel, Or.inr (Or.inr (Or.inl ⟨rfl, xw (xc5 _ (List.mem_of_getElem? (i := 146) rfl)) rfl, xw (xc5 _ (List.mem_of_getElem? (i := 147) rfl)) rfl, xw (xc5 _ (List.mem_of_getElem? (i := 148) rfl)) rfl, Nat.le_of_ble_eq_true rfl⟩))⟩
set_option maxRecDepth 20000 in
theorem xce_10_241 : xCok 10 (241, 2, mX8_sumOfAll, 0) := ⟨xok_mX8_sumOfAll, by decide +kernel, Or.inr (Or.inr (Or.inl ⟨rfl, xw (xc5 _ (List.mem_of_getElem? (i := 155) rfl)) rfl, xw (xc5 _ (List.mem_of_getElem? (i := 156) rfl)) rfl, xw (xc5 _ (List.mem_of_getElem? (i := 157) rfl)) rfl, Nat.le_of_ble_eq_true rfl⟩))⟩
set_option maxRecDepth 20000 in
theorem xce_10_244 : xCok 10 (244, 2, mX8_nextOfSum, 0) := ⟨xok_mX8_nextOfSum, by decide +kernel, Or.inr (Or.inr (Or.inl ⟨rfl, xw (xc5 _ (List.mem_of_getElem? (i := 169) rfl)) rfl, xw (xc5 _ (List.mem_of_getElem? (i := 170) rfl)) rfl, xw (xc5 _ (List.mem_of_getElem? (i := 171) rfl)) rfl, Nat.le_of_ble_eq_true rfl⟩))⟩
set_option maxRecDepth 20000 in
theorem xce_10_247 : xCok 10 (247, 2, mX4_fewestPairs, 1) := ⟨xok_mX4_fewestPairs, by decide +kernel, Or.inr (Or.inr (Or.inl ⟨rfl, xw (xc5 _ (List.mem_of_getElem? (i := 178) rfl)) rfl, xw (xc5 _ (List.mem_of_getElem? (i := 179) rfl)) rfl, xw (xc5 _ (List.mem_of_getElem? (i := 180) rfl)) rfl, Nat.le_of_ble_eq_true rfl⟩))⟩
set_option maxRecDepth 20000 in
theorem xce_10_251 : xCok 10 (251, 2, mX5_answer, 3) := ⟨xok_mX5_answer, by decide +kernel, Or.inr (Or.inr (Or.inl ⟨rfl, xw (xc5 _ (List.mem_of_getElem? (i := 196) rfl)) rfl, xw (xc5 _ (List.mem_of_getElem? (i := 197) rfl)) rfl, xw (xc5 _ (List.mem_of_getElem? (i := 198) rfl)) rfl, Nat.le_of_ble_eq_true rfl⟩))⟩
set_option maxRecDepth 20000 in
theorem xce_10_257 : xCok 10 (257, 2, mX2_begin, 0) := ⟨xok_mX2_begin, by decide +kernel, Or.inr (Or.inr (Or.inl ⟨rfl, xw (xc5 _ (List.mem_of_getElem? (i := 204) rfl)) rfl, xw (xc5 _ (List.mem_of_getElem? (i := 205) rfl)) rfl, xw (xc5 _ (List.mem_of_getElem? (i := 206) rfl)) rfl, Nat.le_of_ble_eq_true rfl⟩))⟩
set_option maxRecDepth 20000 in
theorem xce_10_259 : xCok 10 (259, 2, mX2_follow, 5) := ⟨xok_mX2_follow, by decide +kernel, Or.inr (Or.inr (Or.inl ⟨rfl, xw (xc5 _ (List.mem_of_getElem? (i := 209) rfl)) rfl, xw (xc5 _ (List.mem_of_getElem? (i := 210) rfl)) rfl, xw (xc5 _ (List.mem_of_getElem? (i := 211) rfl)) rfl, Nat.le_of_ble_eq_true rfl⟩))⟩
set_option maxRecDepth 20000 in
theorem xce_10_263 : xCok 10 (263, 2, mX2_unknown, 0) := ⟨xok_mX2_unknown, by decide +kernel, Or.inr (Or.inr (Or.inl ⟨rfl, xw (xc5 _ (List.mem_of_getElem? (i := 225) rfl)) rfl, xw (xc5 _ (List.mem_of_getElem? (i := 226) rfl)) rfl, xw (xc5 _ (List.mem_of_getElem? (i := 227) rfl)) rfl, Nat.le_of_ble_eq_true rfl⟩))⟩
set_option maxRecDepth 20000 in
theorem xce_10_275 : xCok 10 (275, 2, mX3_fewestWithALie, 1) := ⟨xok_mX3_fewestWithALie, by decide +kernel, Or.inr (Or.inr (Or.inl ⟨rfl, xw (xc5 _ (List.mem_of_getElem? (i := 233) rfl)) rfl, xw (xc5 _ (List.mem_of_getElem? (i := 234) rfl)) rfl, xw (xc5 _ (List.mem_of_getElem? (i := 235) rfl)) rfl, Nat.le_of_ble_eq_true rfl⟩))⟩
set_option maxRecDepth 20000 in
theorem xce_10_278 : xCok 10 (278, 2, mX5_heavierIn, 2) := ⟨xok_mX5_heavierIn, by decide +kernel, Or.inr (Or.inr (Or.inl ⟨rfl, xw (xc6 _ (List.mem_of_getElem? (i := 24) rfl)) rfl, xw (xc6 _ (List.mem_of_getElem? (i := 25) rfl)) rfl, xw (xc6 _ (List.mem_of_getElem? (i := 26) rfl)) rfl, Nat.le_of_ble_eq_true rfl⟩))⟩
set_option maxRecDepth 20000 in
theorem xce_10_281 : xCok 10 (281, 2, mX5_evenestTwo, 0) := ⟨xok_mX5_evenestTwo, by decide +kernel, Or.inr (Or.inr (Or.inl ⟨rfl, xw (xc6 _ (List.mem_of_getElem? (i := 32) rfl)) rfl, xw (xc6 _ (List.mem_of_getElem? (i := 33) rfl)) rfl, xw (xc6 _ (List.mem_of_getElem? (i := 34) rfl)) rfl, Nat.le_of_ble_eq_true rfl⟩))⟩
set_option maxRecDepth 20000 in
theorem xce_10_284 : xCok 10 (284, 2, mX5_isCover, 2) := ⟨xok_mX5_isCover, by decide +kernel, Or.inr (Or.inr (Or.inl ⟨rfl, xw (xc6 _ (List.mem_of_getElem? (i := 41) rfl)) rfl, xw (xc6 _ (List.mem_of_getElem? (i := 42) rfl)) rfl, xw (xc6 _ (List.mem_of_getElem? (i := 43) rfl)) rfl, Nat.le_of_ble_eq_true rfl⟩))⟩
set_option maxRecDepth 20000 in
theorem xce_10_288 : xCok 10 (288, 2, mX5_surelySaying, 2) := ⟨xok_mX5_surelySaying, by decide +kernel, Or.inr (Or.inr (Or.inl ⟨rfl, xw (xc6 _ (List.mem_of_getElem? (i := 50) rfl)) rfl, xw (xc6 _ (List.mem_of_getElem? (i := 51) rfl)) rfl, xw (xc6 _ (List.mem_of_getElem? (i := 52) rfl)) rfl, Nat.le_of_ble_eq_true rfl⟩))⟩
set_option maxRecDepth 20000 in
theorem xce_10_291 : xCok 10 (291, 2, mX5_weighingsWith, 2) := ⟨xok_mX5_weighingsWith, by decide +kernel, Or.inr (Or.inr (Or.inl ⟨rfl, xw (xc6 _ (List.mem_of_getElem? (i := 58) rfl)) rfl, xw (xc6 _ (List.mem_of_getElem? (i := 59) rfl)) rfl, xw (xc6 _ (List.mem_of_getElem? (i := 60) rfl)) rfl, Nat.le_of_ble_eq_true rfl⟩))⟩
set_option maxRecDepth 20000 in
theorem xce_10_298 : xCok 10 (298, 2, mX5_markOfRow, 1) := ⟨xok_mX5_markOfRow, by decide +kernel, Or.inr (Or.inr (Or.inl ⟨rfl, xw (xc6 _ (List.mem_of_getElem? (i := 66) rfl)) rfl, xw (xc6 _ (List.mem_of_getElem? (i := 67) rfl)) rfl, xw (xc6 _ (List.mem_of_getElem? (i := 68) rfl)) rfl, Nat.le_of_ble_eq_true rfl⟩))⟩
set_option maxRecDepth 20000 in
theorem xce_10_302 : xCok 10 (302, 2, mX5_missesBy, 1) := ⟨xok_mX5_missesBy, by decide +kernel, Or.inr (Or.inr (Or.inl ⟨rfl, xw (xc6 _ (List.mem_of_getElem? (i := 70) rfl)) rfl, xw (xc4 _ (List.mem_of_getElem? (i := 176) rfl)) rfl, xw (xc4 _ (List.mem_of_getElem? (i := 177) rfl)) rfl, Nat.le_of_ble_eq_true rfl⟩))⟩
set_option maxRecDepth 20000 in
theorem xce_10_305 : xCok 10 (305, 2, mX5_largestSet, 1) := ⟨xok_mX5_largestSet, by decide +kernel, Or.inr (Or.inr (Or.inl ⟨rfl, xw (xc6 _ (List.mem_of_getElem? (i := 79) rfl)) rfl, xw (xc6 _ (List.mem_of_getElem? (i := 80) rfl)) rfl, xw (xc6 _ (List.mem_of_getElem? (i := 81) rfl)) rfl, Nat.le_of_ble_eq_true rfl⟩))⟩
set_option maxRecDepth 20000 in
theorem xce_10_309 : xCok 10 (309, 0, mX8_depthOf, 2) := ⟨xok_mX8_depthOf, by decide +kernel, Or.inl ⟨rfl, xw (xc6 _ (List.mem_of_getElem? (i := 92) rfl)) rfl, xw (xc5 _ (List.mem_of_getElem? (i := 125) rfl)) rfl⟩⟩
set_option maxRecDepth 20000 in
theorem xce_10_312 : xCok 10 (312, 2, mX5_addSwapped, 3) := ⟨xok_mX5_addSwapped, by decide +kernel, Or.inr (Or.inr (Or.inl ⟨rfl, xw (xc6 _ (List.mem_of_getElem? (i := 97) rfl)) rfl, xw (xc6 _ (List.mem_of_getElem? (i := 98) rfl)) rfl, xw (xc6 _ (List.mem_of_getElem? (i := 99) rfl)) rfl, Nat.le_of_ble_eq_true rfl⟩))⟩
set_option maxRecDepth 20000 in
theorem xce_10_316 : xCok 10 (316, 0, mX7_at, 2) := ⟨xok_mX7_at, by decide +kernel, Or.inl ⟨rfl, xw (xc6 _ (List.mem_of_getElem? (i := 106) rfl)) rfl, xw (xc3 _ (List.mem_of_getElem? (i := 47) rfl)) rfl⟩⟩
set_option maxRecDepth 20000 in
theorem xce_10_322 : xCok 10 (322, 2, mX1_load, 3) := ⟨xok_mX1_load, by decide +kernel, Or.inr (Or.inr (Or.inl ⟨rfl, xw (xc6 _ (List.mem_of_getElem? (i := 111) rfl)) rfl, xw (xc6 _ (List.mem_of_getElem? (i := 112) rfl)) rfl, xw (xc6 _ (List.mem_of_getElem? (i := 113) rfl)) rfl, Nat.le_of_ble_eq_true rfl⟩))⟩
set_option maxRecDepth 20000 in
theorem xce_10_326 : xCok 10 (326, 2, mX1_guessAll, 0) := ⟨xok_mX1_guessAll, by decide +kernel, Or.inr (Or.inr (Or.inl ⟨rfl, xw (xc6 _ (List.mem_of_getElem? (i := 126) rfl)) rfl, xw (xc6 _ (List.mem_of_getElem? (i := 127) rfl)) rfl, xw (xc6 _ (List.mem_of_getElem? (i := 128) rfl)) rfl, Nat.le_of_ble_eq_true rfl⟩))⟩
set_option maxRecDepth 20000 in
theorem xce_10_330 : xCok 10 (330, 2, mX1_firstOf, 1) := ⟨xok_mX1_firstOf, by decide +kernel, Or.inr (Or.inr (Or.inl ⟨rfl, xw (xc6 _ (List.mem_of_getElem? (i := 171) rfl)) rfl, xw (xc6 _ (List.mem_of_getElem? (i := 172) rfl)) rfl, xw (xc6 _ (List.mem_of_getElem? (i := 173) rfl)) rfl, Nat.le_of_ble_eq_true rfl⟩))⟩
set_option maxRecDepth 20000 in
theorem xce_10_333 : xCok 10 (333, 2, mX1_extremeOf, 2) := ⟨xok_mX1_extremeOf, by decide +kernel, Or.inr (Or.inr (Or.inl ⟨rfl, xw (xc6 _ (List.mem_of_getElem? (i := 179) rfl)) rfl, xw (xc6 _ (List.mem_of_getElem? (i := 180) rfl)) rfl, xw (xc6 _ (List.mem_of_getElem? (i := 181) rfl)) rfl, Nat.le_of_ble_eq_true rfl⟩))⟩
set_option maxRecDepth 20000 in
theorem xce_10_336 : xCok 10 (336, 2, mX1_sayings, 2) := ⟨xok_mX1_sayings, by decide +kernel, Or.inr (Or.inr (Or.inl ⟨rfl, xw (xc6 _ (List.mem_of_getElem? (i := 187) rfl)) rfl, xw (xc6 _ (List.mem_of_getElem? (i := 188) rfl)) rfl, xw (xc6 _ (List.mem_of_getElem? (i := 189) rfl)) rfl, Nat.le_of_ble_eq_true rfl⟩))⟩
set_option maxRecDepth 20000 in
theorem xce_10_339 : xCok 10 (339, 2, mX9_layStones, 2) := ⟨xok_mX9_layStones, by decide +kernel, Or.inr (Or.inr (Or.inl ⟨rfl, xw (xc6 _ (List.mem_of_getElem? (i := 199) rfl)) rfl, xw (xc6 _ (List.mem_of_getElem? (i := 200) rfl)) rfl, xw (xc6 _ (List.mem_of_getElem? (i := 201) rfl)) rfl, Nat.le_of_ble_eq_true rfl⟩))⟩
set_option maxRecDepth 20000 in
theorem xce_10_343 : xCok 10 (343, 2, mX1_bestHeaps, 1) := ⟨xok_mX1_bestHeaps, by decide +kernel, Or.inr (Or.inr (Or.inl ⟨rfl, xw (xc6 _ (List.mem_of_getElem? (i := 212) rfl)) rfl, xw (xc6 _ (List.mem_of_getElem? (i := 213) rfl)) rfl, xw (xc6 _ (List.mem_of_getElem? (i := 214) rfl)) rfl, Nat.le_of_ble_eq_true rfl⟩))⟩
set_option maxRecDepth 20000 in
theorem xce_10_349 : xCok 10 (349, 2, mX0_copyFrom, 1) := ⟨xok_mX0_copyFrom, by decide +kernel, Or.inr (Or.inr (Or.inl ⟨rfl, xw (xc6 _ (List.mem_of_getElem? (i := 228) rfl)) rfl, xw (xc6 _ (List.mem_of_getElem? (i := 229) rfl)) rfl, xw (xc6 _ (List.mem_of_getElem? (i := 230) rfl)) rfl, Nat.le_of_ble_eq_true rfl⟩))⟩
theorem xca_10 : ∀ e ∈ xCl10, xCok 10 e := List.forall_mem_cons.mpr ⟨xce_10_19, List.forall_mem_cons.mpr ⟨xce_10_29, List.forall_mem_cons.mpr ⟨xce_10_36, List.forall_mem_cons.mpr ⟨xce_10_47, List.forall_mem_cons.mpr ⟨xce_10_54, List.forall_mem_cons.mpr ⟨xce_10_61, List.forall_mem_cons.mpr ⟨xce_10_68, List.forall_mem_cons.mpr ⟨xce_10_75, List.forall_mem_cons.mpr ⟨xce_10_82, List.forall_mem_cons.mpr ⟨xce_10_89, List.forall_mem_cons.mpr ⟨xce_10_94, List.forall_mem_cons.mpr ⟨xce_10_101, List.forall_mem_cons.mpr ⟨xce_10_105, List.forall_mem_cons.mpr ⟨xce_10_116, List.forall_mem_cons.mpr ⟨xce_10_119, List.forall_mem_cons.mpr ⟨xce_10_129, List.forall_mem_cons.mpr ⟨xce_10_133, List.forall_mem_cons.mpr ⟨xce_10_137, List.forall_mem_cons.mpr ⟨xce_10_141, List.forall_mem_cons.mpr ⟨xce_10_145, List.forall_mem_cons.mpr ⟨xce_10_149, List.forall_mem_cons.mpr ⟨xce_10_153, List.forall_mem_cons.mpr ⟨xce_10_157, List.forall_mem_cons.mpr ⟨xce_10_160, List.forall_mem_cons.mpr ⟨xce_10_164, List.forall_mem_cons.mpr ⟨xce_10_170, List.forall_mem_cons.mpr ⟨xce_10_173, List.forall_mem_cons.mpr ⟨xce_10_176, List.forall_mem_cons.mpr ⟨xce_10_179, List.forall_mem_cons.mpr ⟨xce_10_182, List.forall_mem_cons.mpr ⟨xce_10_186, List.forall_mem_cons.mpr ⟨xce_10_189, List.forall_mem_cons.mpr ⟨xce_10_192, List.forall_mem_cons.mpr ⟨xce_10_196, List.forall_mem_cons.mpr ⟨xce_10_200, List.forall_mem_cons.mpr ⟨xce_10_203, List.forall_mem_cons.mpr ⟨xce_10_206, List.forall_mem_cons.mpr ⟨xce_10_210, List.forall_mem_cons.mpr ⟨xce_10_216, List.forall_mem_cons.mpr ⟨xce_10_219, List.forall_mem_cons.mpr ⟨xce_10_222, List.forall_mem_cons.mpr ⟨xce_10_225, List.forall_mem_cons.mpr ⟨xce_10_229, List.forall_mem_cons.mpr ⟨xce_10_232, List.forall_mem_cons.mpr ⟨xce_10_235, List.forall_mem_cons.mpr ⟨xce_10_238, List.forall_mem_cons.mpr ⟨xce_10_241, List.forall_mem_cons.mpr ⟨xce_10_244, List.forall_mem_cons.mpr ⟨xce_10_247, List.forall_mem_cons.mpr ⟨xce_10_251, List.forall_mem_cons.mpr ⟨xce_10_257, List.forall_mem_cons.mpr ⟨xce_10_259, List.forall_mem_cons.mpr ⟨xce_10_263, List.forall_mem_cons.mpr ⟨xce_10_275, List.forall_mem_cons.mpr ⟨xce_10_278, List.forall_mem_cons.mpr ⟨xce_10_281, List.forall_mem_cons.mpr ⟨xce_10_284, List.forall_mem_cons.mpr ⟨xce_10_288, List.forall_mem_cons.mpr ⟨xce_10_291, List.forall_mem_cons.mpr ⟨xce_10_298, List.forall_mem_cons.mpr ⟨xce_10_302, List.forall_mem_cons.mpr ⟨xce_10_305, List.forall_mem_cons.mpr ⟨xce_10_309, List.forall_mem_cons.mpr ⟨xce_10_312, List.forall_mem_cons.mpr ⟨xce_10_316, List.forall_mem_cons.mpr ⟨xce_10_322, List.forall_mem_cons.mpr ⟨xce_10_326, List.forall_mem_cons.mpr ⟨xce_10_330, List.forall_mem_cons.mpr ⟨xce_10_333, List.forall_mem_cons.mpr ⟨xce_10_336, List.forall_mem_cons.mpr ⟨xce_10_339, List.forall_mem_cons.mpr ⟨xce_10_343, List.forall_mem_cons.mpr ⟨xce_10_349, fun _ h => absurd h List.not_mem_nil⟩⟩⟩⟩⟩⟩⟩⟩⟩⟩⟩⟩⟩⟩⟩⟩⟩⟩⟩⟩⟩⟩⟩⟩⟩⟩⟩⟩⟩⟩⟩⟩⟩⟩⟩⟩⟩⟩⟩⟩⟩⟩⟩⟩⟩⟩⟩⟩⟩⟩⟩⟩⟩⟩⟩⟩⟩⟩⟩⟩⟩⟩⟩⟩⟩⟩⟩⟩⟩⟩⟩⟩⟩
set_option maxRecDepth 20000 in
theorem xce_11_218 : xCok 11 (218, 2, mX12_clearBank, 0) := ⟨xok_mX12_clearBank, by decide +kernel, Or.inr (Or.inr (Or.inl ⟨rfl, xw (xc7 _ (List.mem_of_getElem? (i := 6) rfl)) rfl, xw (xc7 _ (List.mem_of_getElem? (i := 8) rfl)) rfl, xw (List.mem_append_left _ (List.mem_of_getElem? (i := 62) rfl)) rfl, Nat.le_of_ble_eq_true rfl⟩))⟩
set_option maxRecDepth 20000 in
theorem xce_11_221 : xCok 11 (221, 2, mX12_layOrders, 0) := ⟨xok_mX12_layOrders, by decide +kernel, Or.inr (Or.inr (Or.inl ⟨rfl, xw (xc7 _ (List.mem_of_getElem? (i := 10) rfl)) rfl, xw (xc7 _ (List.mem_of_getElem? (i := 12) rfl)) rfl, xw (List.mem_append_left _ (List.mem_of_getElem? (i := 63) rfl)) rfl, Nat.le_of_ble_eq_true rfl⟩))⟩
set_option maxRecDepth 20000 in
theorem xce_11_250 : xCok 11 (250, 2, mX12_sign, 1) := ⟨xok_mX12_sign, by decide +kernel, Or.inr (Or.inr (Or.inl ⟨rfl, xw (xc8 _ (List.mem_of_getElem? (i := 62) rfl)) rfl, xw (xc8 _ (List.mem_of_getElem? (i := 64) rfl)) rfl, xw (List.mem_append_left _ (List.mem_of_getElem? (i := 67) rfl)) rfl, Nat.le_of_ble_eq_true rfl⟩))⟩
set_option maxRecDepth 20000 in
theorem xce_11_257 : xCok 11 (257, 0, mX12_isLetter, 1) := ⟨xok_mX12_isLetter, by decide +kernel, Or.inl ⟨rfl, xw (xc8 _ (List.mem_of_getElem? (i := 66) rfl)) rfl, xw (xc8 _ (List.mem_of_getElem? (i := 67) rfl)) rfl⟩⟩
set_option maxRecDepth 20000 in
theorem xce_11_265 : xCok 11 (265, 0, mX12_isKept, 1) := ⟨xok_mX12_isKept, by decide +kernel, Or.inl ⟨rfl, xw (xc8 _ (List.mem_of_getElem? (i := 69) rfl)) rfl, xw (xc8 _ (List.mem_of_getElem? (i := 70) rfl)) rfl⟩⟩
set_option maxRecDepth 20000 in
theorem xce_11_269 : xCok 11 (269, 0, mX12_isDigit, 1) := ⟨xok_mX12_isDigit, by decide +kernel, Or.inl ⟨rfl, xw (xc8 _ (List.mem_of_getElem? (i := 79) rfl)) rfl, xw (xc8 _ (List.mem_of_getElem? (i := 80) rfl)) rfl⟩⟩
set_option maxRecDepth 20000 in
theorem xce_11_275 : xCok 11 (275, 2, mX12_fails, 2) := ⟨xok_mX12_fails, by decide +kernel, Or.inr (Or.inr (Or.inl ⟨rfl, xw (xc8 _ (List.mem_of_getElem? (i := 102) rfl)) rfl, xw (xc8 _ (List.mem_of_getElem? (i := 104) rfl)) rfl, xw (List.mem_append_left _ (List.mem_of_getElem? (i := 73) rfl)) rfl, Nat.le_of_ble_eq_true rfl⟩))⟩
set_option maxRecDepth 20000 in
theorem xce_11_279 : xCok 11 (279, 2, mX12_isGood, 0) := ⟨xok_mX12_isGood, by decide +kernel, Or.inr (Or.inr (Or.inl ⟨rfl, xw (xc8 _ (List.mem_of_getElem? (i := 82) rfl)) rfl, xw (xc8 _ (List.mem_of_getElem? (i := 84) rfl)) rfl, xw (List.mem_append_left _ (List.mem_of_getElem? (i := 68) rfl)) rfl, Nat.le_of_ble_eq_true rfl⟩))⟩
set_option maxRecDepth 20000 in
theorem xce_11_283 : xCok 11 (283, 2, mX12_goOn, 0) := ⟨xok_mX12_goOn, by decide +kernel, Or.inr (Or.inr (Or.inl ⟨rfl, xw (xc8 _ (List.mem_of_getElem? (i := 58) rfl)) rfl, xw (xc8 _ (List.mem_of_getElem? (i := 60) rfl)) rfl, xw (List.mem_append_left _ (List.mem_of_getElem? (i := 66) rfl)) rfl, Nat.le_of_ble_eq_true rfl⟩))⟩
set_option maxRecDepth 20000 in
theorem xce_11_286 : xCok 11 (286, 2, mX12_misplaced, 0) := ⟨xok_mX12_misplaced, by decide +kernel, Or.inr (Or.inr (Or.inl ⟨rfl, xw (xc8 _ (List.mem_of_getElem? (i := 98) rfl)) rfl, xw (xc8 _ (List.mem_of_getElem? (i := 100) rfl)) rfl, xw (List.mem_append_left _ (List.mem_of_getElem? (i := 72) rfl)) rfl, Nat.le_of_ble_eq_true rfl⟩))⟩
set_option maxRecDepth 20000 in
theorem xce_11_298 : xCok 11 (298, 2, mX12_readLine, 0) := ⟨xok_mX12_readLine, by decide +kernel, Or.inr (Or.inr (Or.inl ⟨rfl, xw (xc8 _ (List.mem_of_getElem? (i := 86) rfl)) rfl, xw (xc8 _ (List.mem_of_getElem? (i := 88) rfl)) rfl, xw (List.mem_append_left _ (List.mem_of_getElem? (i := 69) rfl)) rfl, Nat.le_of_ble_eq_true rfl⟩))⟩
set_option maxRecDepth 20000 in
theorem xce_11_301 : xCok 11 (301, 2, mX12_layClerk, 0) := ⟨xok_mX12_layClerk, by decide +kernel, Or.inr (Or.inr (Or.inl ⟨rfl, xw (xc8 _ (List.mem_of_getElem? (i := 154) rfl)) rfl, xw (xc8 _ (List.mem_of_getElem? (i := 156) rfl)) rfl, xw (List.mem_append_left _ (List.mem_of_getElem? (i := 86) rfl)) rfl, Nat.le_of_ble_eq_true rfl⟩))⟩
set_option maxRecDepth 20000 in
theorem xce_11_316 : xCok 11 (316, 2, mX12_isWord, 1) := ⟨xok_mX12_isWord, by decide +kernel, Or.inr (Or.inr (Or.inl ⟨rfl, xw (xc8 _ (List.mem_of_getElem? (i := 94) rfl)) rfl, xw (xc8 _ (List.mem_of_getElem? (i := 96) rfl)) rfl, xw (List.mem_append_left _ (List.mem_of_getElem? (i := 71) rfl)) rfl, Nat.le_of_ble_eq_true rfl⟩))⟩
set_option maxRecDepth 20000 in
theorem xce_11_319 : xCok 11 (319, 2, mX12_isFull, 0) := ⟨xok_mX12_isFull, by decide +kernel, Or.inr (Or.inr (Or.inl ⟨rfl, xw (xc8 _ (List.mem_of_getElem? (i := 90) rfl)) rfl, xw (xc8 _ (List.mem_of_getElem? (i := 92) rfl)) rfl, xw (List.mem_append_left _ (List.mem_of_getElem? (i := 70) rfl)) rfl, Nat.le_of_ble_eq_true rfl⟩))⟩
set_option maxRecDepth 20000 in
theorem xce_11_322 : xCok 11 (322, 2, mX12_numeral, 2) := ⟨xok_mX12_numeral, by decide +kernel, Or.inr (Or.inr (Or.inl ⟨rfl, xw (xc8 _ (List.mem_of_getElem? (i := 106) rfl)) rfl, xw (xc8 _ (List.mem_of_getElem? (i := 108) rfl)) rfl, xw (List.mem_append_left _ (List.mem_of_getElem? (i := 74) rfl)) rfl, Nat.le_of_ble_eq_true rfl⟩))⟩
set_option maxRecDepth 20000 in
theorem xce_11_326 : xCok 11 (326, 2, mX12_readThing, 0) := ⟨xok_mX12_readThing, by decide +kernel, Or.inr (Or.inr (Or.inl ⟨rfl, xw (xc8 _ (List.mem_of_getElem? (i := 110) rfl)) rfl, xw (xc8 _ (List.mem_of_getElem? (i := 112) rfl)) rfl, xw (List.mem_append_left _ (List.mem_of_getElem? (i := 75) rfl)) rfl, Nat.le_of_ble_eq_true rfl⟩))⟩
set_option maxRecDepth 20000 in
theorem xce_11_329 : xCok 11 (329, 2, mX12_readRow, 0) := ⟨xok_mX12_readRow, by decide +kernel, Or.inr (Or.inr (Or.inl ⟨rfl, xw (xc8 _ (List.mem_of_getElem? (i := 122) rfl)) rfl, xw (xc8 _ (List.mem_of_getElem? (i := 124) rfl)) rfl, xw (List.mem_append_left _ (List.mem_of_getElem? (i := 78) rfl)) rfl, Nat.le_of_ble_eq_true rfl⟩))⟩
set_option maxRecDepth 20000 in
theorem xce_11_332 : xCok 11 (332, 2, mX12_readPlan, 0) := ⟨xok_mX12_readPlan, by decide +kernel, Or.inr (Or.inr (Or.inl ⟨rfl, xw (xc8 _ (List.mem_of_getElem? (i := 130) rfl)) rfl, xw (xc8 _ (List.mem_of_getElem? (i := 132) rfl)) rfl, xw (List.mem_append_left _ (List.mem_of_getElem? (i := 80) rfl)) rfl, Nat.le_of_ble_eq_true rfl⟩))⟩
set_option maxRecDepth 20000 in
theorem xce_11_335 : xCok 11 (335, 2, mX12_isSignHere, 1) := ⟨xok_mX12_isSignHere, by decide +kernel, Or.inr (Or.inr (Or.inl ⟨rfl, xw (xc8 _ (List.mem_of_getElem? (i := 146) rfl)) rfl, xw (xc8 _ (List.mem_of_getElem? (i := 148) rfl)) rfl, xw (List.mem_append_left _ (List.mem_of_getElem? (i := 84) rfl)) rfl, Nat.le_of_ble_eq_true rfl⟩))⟩
set_option maxRecDepth 20000 in
theorem xce_11_338 : xCok 11 (338, 2, mX12_must, 1) := ⟨xok_mX12_must, by decide +kernel, Or.inr (Or.inr (Or.inl ⟨rfl, xw (xc8 _ (List.mem_of_getElem? (i := 118) rfl)) rfl, xw (xc8 _ (List.mem_of_getElem? (i := 120) rfl)) rfl, xw (List.mem_append_left _ (List.mem_of_getElem? (i := 77) rfl)) rfl, Nat.le_of_ble_eq_true rfl⟩))⟩
set_option maxRecDepth 20000 in
theorem xce_11_342 : xCok 11 (342, 2, mX12_thingHere, 0) := ⟨xok_mX12_thingHere, by decide +kernel, Or.inr (Or.inr (Or.inl ⟨rfl, xw (xc8 _ (List.mem_of_getElem? (i := 114) rfl)) rfl, xw (xc8 _ (List.mem_of_getElem? (i := 116) rfl)) rfl, xw (List.mem_append_left _ (List.mem_of_getElem? (i := 76) rfl)) rfl, Nat.le_of_ble_eq_true rfl⟩))⟩
set_option maxRecDepth 20000 in
theorem xce_11_346 : xCok 11 (346, 2, mX12_isInRow, 1) := ⟨xok_mX12_isInRow, by decide +kernel, Or.inr (Or.inr (Or.inl ⟨rfl, xw (xc8 _ (List.mem_of_getElem? (i := 126) rfl)) rfl, xw (xc8 _ (List.mem_of_getElem? (i := 128) rfl)) rfl, xw (List.mem_append_left _ (List.mem_of_getElem? (i := 79) rfl)) rfl, Nat.le_of_ble_eq_true rfl⟩))⟩
set_option maxRecDepth 20000 in
theorem xce_11_349 : xCok 11 (349, 2, mX12_planHere, 0) := ⟨xok_mX12_planHere, by decide +kernel, Or.inr (Or.inr (Or.inl ⟨rfl, xw (xc8 _ (List.mem_of_getElem? (i := 134) rfl)) rfl, xw (xc8 _ (List.mem_of_getElem? (i := 136) rfl)) rfl, xw (List.mem_append_left _ (List.mem_of_getElem? (i := 81) rfl)) rfl, Nat.le_of_ble_eq_true rfl⟩))⟩
set_option maxRecDepth 20000 in
theorem xce_11_355 : xCok 11 (355, 2, mX12_readP, 0) := ⟨xok_mX12_readP, by decide +kernel, Or.inr (Or.inr (Or.inl ⟨rfl, xw (xc8 _ (List.mem_of_getElem? (i := 138) rfl)) rfl, xw (xc8 _ (List.mem_of_getElem? (i := 140) rfl)) rfl, xw (List.mem_append_left _ (List.mem_of_getElem? (i := 82) rfl)) rfl, Nat.le_of_ble_eq_true rfl⟩))⟩
set_option maxRecDepth 20000 in
theorem xce_11_358 : xCok 11 (358, 2, mX12_closes, 1) := ⟨xok_mX12_closes, by decide +kernel, Or.inr (Or.inr (Or.inl ⟨rfl, xw (xc8 _ (List.mem_of_getElem? (i := 150) rfl)) rfl, xw (xc8 _ (List.mem_of_getElem? (i := 152) rfl)) rfl, xw (List.mem_append_left _ (List.mem_of_getElem? (i := 85) rfl)) rfl, Nat.le_of_ble_eq_true rfl⟩))⟩
set_option maxRecDepth 20000 in
theorem xce_11_361 : xCok 11 (361, 2, mX12_readTwo, 0) := ⟨xok_mX12_readTwo, by decide +kernel, Or.inr (Or.inr (Or.inl ⟨rfl, xw (xc8 _ (List.mem_of_getElem? (i := 142) rfl)) rfl, xw (xc8 _ (List.mem_of_getElem? (i := 144) rfl)) rfl, xw (List.mem_append_left _ (List.mem_of_getElem? (i := 83) rfl)) rfl, Nat.le_of_ble_eq_true rfl⟩))⟩
set_option maxRecDepth 20000 in
theorem xce_11_364 : xCok 11 (364, 2, mX12_thingMany, 0) := ⟨xok_mX12_thingMany, by decide +kernel, Or.inr (Or.inr (Or.inl ⟨rfl, xw (xc7 _ (List.mem_of_getElem? (i := 14) rfl)) rfl, xw (xc7 _ (List.mem_of_getElem? (i := 16) rfl)) rfl, xw (List.mem_append_left _ (List.mem_of_getElem? (i := 64) rfl)) rfl, Nat.le_of_ble_eq_true rfl⟩))⟩
set_option maxRecDepth 20000 in
theorem xce_11_367 : xCok 11 (367, 0, mX12_isIn, 3) := ⟨xok_mX12_isIn, by decide +kernel, Or.inl ⟨rfl, xw (xc8 _ (List.mem_of_getElem? (i := 166) rfl)) rfl, xw (xc8 _ (List.mem_of_getElem? (i := 167) rfl)) rfl⟩⟩
set_option maxRecDepth 20000 in
theorem xce_11_374 : xCok 11 (374, 2, mX12_isOrder, 0) := ⟨xok_mX12_isOrder, by decide +kernel, Or.inr (Or.inr (Or.inl ⟨rfl, xw (xc7 _ (List.mem_of_getElem? (i := 18) rfl)) rfl, xw (xc7 _ (List.mem_of_getElem? (i := 20) rfl)) rfl, xw (List.mem_append_left _ (List.mem_of_getElem? (i := 65) rfl)) rfl, Nat.le_of_ble_eq_true rfl⟩))⟩
set_option maxRecDepth 20000 in
theorem xce_11_380 : xCok 11 (380, 2, mX12_areHeaps, 2) := ⟨xok_mX12_areHeaps, by decide +kernel, Or.inr (Or.inr (Or.inl ⟨rfl, xw (xc8 _ (List.mem_of_getElem? (i := 173) rfl)) rfl, xw (xc8 _ (List.mem_of_getElem? (i := 175) rfl)) rfl, xw (List.mem_append_left _ (List.mem_of_getElem? (i := 87) rfl)) rfl, Nat.le_of_ble_eq_true rfl⟩))⟩
set_option maxRecDepth 20000 in
theorem xce_11_384 : xCok 11 (384, 2, mX12_saysBy, 1) := ⟨xok_mX12_saysBy, by decide +kernel, Or.inr (Or.inr (Or.inl ⟨rfl, xw (xc8 _ (List.mem_of_getElem? (i := 177) rfl)) rfl, xw (xc8 _ (List.mem_of_getElem? (i := 179) rfl)) rfl, xw (List.mem_append_left _ (List.mem_of_getElem? (i := 88) rfl)) rfl, Nat.le_of_ble_eq_true rfl⟩))⟩
set_option maxRecDepth 20000 in
theorem xce_11_387 : xCok 11 (387, 2, mX12_add, 3) := ⟨xok_mX12_add, by decide +kernel, Or.inr (Or.inr (Or.inl ⟨rfl, xw (xc8 _ (List.mem_of_getElem? (i := 181) rfl)) rfl, xw (xc8 _ (List.mem_of_getElem? (i := 183) rfl)) rfl, xw (List.mem_append_left _ (List.mem_of_getElem? (i := 89) rfl)) rfl, Nat.le_of_ble_eq_true rfl⟩))⟩
set_option maxRecDepth 20000 in
theorem xce_11_392 : xCok 11 (392, 0, mX12_bitsOf, 1) := ⟨xok_mX12_bitsOf, by decide +kernel, Or.inl ⟨rfl, xw (xc8 _ (List.mem_of_getElem? (i := 230) rfl)) rfl, xw (xc8 _ (List.mem_of_getElem? (i := 231) rfl)) rfl⟩⟩
set_option maxRecDepth 20000 in
theorem xce_11_395 : xCok 11 (395, 2, mX12_counts, 2) := ⟨xok_mX12_counts, by decide +kernel, Or.inr (Or.inr (Or.inl ⟨rfl, xw (xc8 _ (List.mem_of_getElem? (i := 222) rfl)) rfl, xw (xc8 _ (List.mem_of_getElem? (i := 224) rfl)) rfl, xw (List.mem_append_left _ (List.mem_of_getElem? (i := 92) rfl)) rfl, Nat.le_of_ble_eq_true rfl⟩))⟩
set_option maxRecDepth 20000 in
theorem xce_11_398 : xCok 11 (398, 2, mX12_isSingle, 1) := ⟨xok_mX12_isSingle, by decide +kernel, Or.inr (Or.inr (Or.inl ⟨rfl, xw (xc8 _ (List.mem_of_getElem? (i := 226) rfl)) rfl, xw (xc8 _ (List.mem_of_getElem? (i := 228) rfl)) rfl, xw (List.mem_append_left _ (List.mem_of_getElem? (i := 93) rfl)) rfl, Nat.le_of_ble_eq_true rfl⟩))⟩
set_option maxRecDepth 20000 in
theorem xce_11_401 : xCok 11 (401, 0, mX12_lowest, 1) := ⟨xok_mX12_lowest, by decide +kernel, Or.inl ⟨rfl, xw (xc8 _ (List.mem_of_getElem? (i := 233) rfl)) rfl, xw (xc8 _ (List.mem_of_getElem? (i := 234) rfl)) rfl⟩⟩
set_option maxRecDepth 20000 in
theorem xce_11_404 : xCok 11 (404, 2, mX12_saidBy, 3) := ⟨xok_mX12_saidBy, by decide +kernel, Or.inr (Or.inr (Or.inl ⟨rfl, xw (xc8 _ (List.mem_of_getElem? (i := 236) rfl)) rfl, xw (xc8 _ (List.mem_of_getElem? (i := 238) rfl)) rfl, xw (List.mem_append_left _ (List.mem_of_getElem? (i := 94) rfl)) rfl, Nat.le_of_ble_eq_true rfl⟩))⟩
set_option maxRecDepth 20000 in
theorem xce_11_411 : xCok 11 (411, 2, mX12_wrongBy, 2) := ⟨xok_mX12_wrongBy, by decide +kernel, Or.inr (Or.inr (Or.inl ⟨rfl, xw (xc8 _ (List.mem_of_getElem? (i := 218) rfl)) rfl, xw (xc8 _ (List.mem_of_getElem? (i := 220) rfl)) rfl, xw (List.mem_append_left _ (List.mem_of_getElem? (i := 91) rfl)) rfl, Nat.le_of_ble_eq_true rfl⟩))⟩
set_option maxRecDepth 20000 in
theorem xce_11_414 : xCok 11 (414, 2, mX12_layLeft, 2) := ⟨xok_mX12_layLeft, by decide +kernel, Or.inr (Or.inr (Or.inl ⟨rfl, xw (xc8 _ (List.mem_of_getElem? (i := 214) rfl)) rfl, xw (xc8 _ (List.mem_of_getElem? (i := 216) rfl)) rfl, xw (List.mem_append_left _ (List.mem_of_getElem? (i := 90) rfl)) rfl, Nat.le_of_ble_eq_true rfl⟩))⟩
set_option maxRecDepth 20000 in
theorem xce_11_417 : xCok 11 (417, 2, mX12_layPlaces, 1) := ⟨xok_mX12_layPlaces, by decide +kernel, Or.inr (Or.inr (Or.inl ⟨rfl, xw (xc9 _ (List.mem_of_getElem? (i := 0) rfl)) rfl, xw (xc9 _ (List.mem_of_getElem? (i := 2) rfl)) rfl, xw (List.mem_append_left _ (List.mem_of_getElem? (i := 95) rfl)) rfl, Nat.le_of_ble_eq_true rfl⟩))⟩
set_option maxRecDepth 20000 in
theorem xce_11_421 : xCok 11 (421, 2, mX12_isThing, 1) := ⟨xok_mX12_isThing, by decide +kernel, Or.inr (Or.inr (Or.inl ⟨rfl, xw (xc9 _ (List.mem_of_getElem? (i := 12) rfl)) rfl, xw (xc9 _ (List.mem_of_getElem? (i := 14) rfl)) rfl, xw (List.mem_append_left _ (List.mem_of_getElem? (i := 96) rfl)) rfl, Nat.le_of_ble_eq_true rfl⟩))⟩
set_option maxRecDepth 20000 in
theorem xce_11_424 : xCok 11 (424, 2, mX12_hasLeft, 1) := ⟨xok_mX12_hasLeft, by decide +kernel, Or.inr (Or.inr (Or.inl ⟨rfl, xw (xc9 _ (List.mem_of_getElem? (i := 16) rfl)) rfl, xw (xc9 _ (List.mem_of_getElem? (i := 18) rfl)) rfl, xw (List.mem_append_left _ (List.mem_of_getElem? (i := 97) rfl)) rfl, Nat.le_of_ble_eq_true rfl⟩))⟩
set_option maxRecDepth 20000 in
theorem xce_11_427 : xCok 11 (427, 2, mX12_placeLeft, 2) := ⟨xok_mX12_placeLeft, by decide +kernel, Or.inr (Or.inr (Or.inl ⟨rfl, xw (xc9 _ (List.mem_of_getElem? (i := 20) rfl)) rfl, xw (xc9 _ (List.mem_of_getElem? (i := 22) rfl)) rfl, xw (List.mem_append_left _ (List.mem_of_getElem? (i := 98) rfl)) rfl, Nat.le_of_ble_eq_true rfl⟩))⟩
set_option maxRecDepth 20000 in
theorem xce_11_430 : xCok 11 (430, 2, mX12_howMany, 3) := ⟨xok_mX12_howMany, by decide +kernel, Or.inr (Or.inr (Or.inl ⟨rfl, xw (xc9 _ (List.mem_of_getElem? (i := 40) rfl)) rfl, xw (xc9 _ (List.mem_of_getElem? (i := 42) rfl)) rfl, xw (List.mem_append_left _ (List.mem_of_getElem? (i := 101) rfl)) rfl, Nat.le_of_ble_eq_true rfl⟩))⟩
set_option maxRecDepth 20000 in
theorem xce_11_433 : xCok 11 (433, 2, mX12_areTwo, 2) := ⟨xok_mX12_areTwo, by decide +kernel, Or.inr (Or.inr (Or.inl ⟨rfl, xw (xc9 _ (List.mem_of_getElem? (i := 32) rfl)) rfl, xw (xc9 _ (List.mem_of_getElem? (i := 34) rfl)) rfl, xw (List.mem_append_left _ (List.mem_of_getElem? (i := 99) rfl)) rfl, Nat.le_of_ble_eq_true rfl⟩))⟩
set_option maxRecDepth 20000 in
theorem xce_11_436 : xCok 11 (436, 2, mX12_sureOf, 2) := ⟨xok_mX12_sureOf, by decide +kernel, Or.inr (Or.inr (Or.inl ⟨rfl, xw (xc9 _ (List.mem_of_getElem? (i := 36) rfl)) rfl, xw (xc9 _ (List.mem_of_getElem? (i := 38) rfl)) rfl, xw (List.mem_append_left _ (List.mem_of_getElem? (i := 100) rfl)) rfl, Nat.le_of_ble_eq_true rfl⟩))⟩
set_option maxRecDepth 20000 in
theorem xce_11_442 : xCok 11 (442, 0, mX12_has, 3) := ⟨xok_mX12_has, by decide +kernel, Or.inl ⟨rfl, xw (xc9 _ (List.mem_of_getElem? (i := 77) rfl)) rfl, xw (xc9 _ (List.mem_of_getElem? (i := 78) rfl)) rfl⟩⟩
set_option maxRecDepth 20000 in
theorem xce_11_452 : xCok 11 (452, 2, mX12_slot, 2) := ⟨xok_mX12_slot, by decide +kernel, Or.inr (Or.inr (Or.inl ⟨rfl, xw (xc9 _ (List.mem_of_getElem? (i := 93) rfl)) rfl, xw (xc9 _ (List.mem_of_getElem? (i := 95) rfl)) rfl, xw (List.mem_append_left _ (List.mem_of_getElem? (i := 112) rfl)) rfl, Nat.le_of_ble_eq_true rfl⟩))⟩
set_option maxRecDepth 20000 in
theorem xce_11_456 : xCok 11 (456, 2, mX12_isCome, 2) := ⟨xok_mX12_isCome, by decide +kernel, Or.inr (Or.inr (Or.inl ⟨rfl, xw (xc9 _ (List.mem_of_getElem? (i := 73) rfl)) rfl, xw (xc9 _ (List.mem_of_getElem? (i := 75) rfl)) rfl, xw (List.mem_append_left _ (List.mem_of_getElem? (i := 108) rfl)) rfl, Nat.le_of_ble_eq_true rfl⟩))⟩
set_option maxRecDepth 20000 in
theorem xce_11_464 : xCok 11 (464, 2, mX12_beginPair, 0) := ⟨xok_mX12_beginPair, by decide +kernel, Or.inr (Or.inr (Or.inl ⟨rfl, xw (xc9 _ (List.mem_of_getElem? (i := 85) rfl)) rfl, xw (xc9 _ (List.mem_of_getElem? (i := 87) rfl)) rfl, xw (List.mem_append_left _ (List.mem_of_getElem? (i := 110) rfl)) rfl, Nat.le_of_ble_eq_true rfl⟩))⟩
set_option maxRecDepth 20000 in
theorem xce_11_471 : xCok 11 (471, 2, mX12_sizeOf, 2) := ⟨xok_mX12_sizeOf, by decide +kernel, Or.inr (Or.inr (Or.inl ⟨rfl, xw (xc9 _ (List.mem_of_getElem? (i := 108) rfl)) rfl, xw (xc9 _ (List.mem_of_getElem? (i := 110) rfl)) rfl, xw (List.mem_append_left _ (List.mem_of_getElem? (i := 115) rfl)) rfl, Nat.le_of_ble_eq_true rfl⟩))⟩
set_option maxRecDepth 20000 in
theorem xce_11_479 : xCok 11 (479, 2, mX12_clearTable, 0) := ⟨xok_mX12_clearTable, by decide +kernel, Or.inr (Or.inr (Or.inl ⟨rfl, xw (xc9 _ (List.mem_of_getElem? (i := 69) rfl)) rfl, xw (xc9 _ (List.mem_of_getElem? (i := 71) rfl)) rfl, xw (List.mem_append_left _ (List.mem_of_getElem? (i := 107) rfl)) rfl, Nat.le_of_ble_eq_true rfl⟩))⟩
set_option maxRecDepth 20000 in
theorem xce_11_482 : xCok 11 (482, 2, mX12_enter, 2) := ⟨xok_mX12_enter, by decide +kernel, Or.inr (Or.inr (Or.inl ⟨rfl, xw (xc9 _ (List.mem_of_getElem? (i := 80) rfl)) rfl, xw (xc9 _ (List.mem_of_getElem? (i := 82) rfl)) rfl, xw (List.mem_append_left _ (List.mem_of_getElem? (i := 109) rfl)) rfl, Nat.le_of_ble_eq_true rfl⟩))⟩
set_option maxRecDepth 20000 in
theorem xce_11_486 : xCok 11 (486, 2, mX12_meets, 3) := ⟨xok_mX12_meets, by decide +kernel, Or.inr (Or.inr (Or.inl ⟨rfl, xw (xc9 _ (List.mem_of_getElem? (i := 89) rfl)) rfl, xw (xc9 _ (List.mem_of_getElem? (i := 91) rfl)) rfl, xw (List.mem_append_left _ (List.mem_of_getElem? (i := 111) rfl)) rfl, Nat.le_of_ble_eq_true rfl⟩))⟩
set_option maxRecDepth 20000 in
theorem xce_11_490 : xCok 11 (490, 2, mX12_takes, 1) := ⟨xok_mX12_takes, by decide +kernel, Or.inr (Or.inr (Or.inl ⟨rfl, xw (xc9 _ (List.mem_of_getElem? (i := 100) rfl)) rfl, xw (xc9 _ (List.mem_of_getElem? (i := 102) rfl)) rfl, xw (List.mem_append_left _ (List.mem_of_getElem? (i := 113) rfl)) rfl, Nat.le_of_ble_eq_true rfl⟩))⟩
set_option maxRecDepth 20000 in
theorem xce_11_493 : xCok 11 (493, 2, mX12_endPair, 0) := ⟨xok_mX12_endPair, by decide +kernel, Or.inr (Or.inr (Or.inl ⟨rfl, xw (xc9 _ (List.mem_of_getElem? (i := 104) rfl)) rfl, xw (xc9 _ (List.mem_of_getElem? (i := 106) rfl)) rfl, xw (List.mem_append_left _ (List.mem_of_getElem? (i := 114) rfl)) rfl, Nat.le_of_ble_eq_true rfl⟩))⟩
set_option maxRecDepth 20000 in
theorem xce_11_496 : xCok 11 (496, 2, mX12_goesOn, 0) := ⟨xok_mX12_goesOn, by decide +kernel, Or.inr (Or.inr (Or.inl ⟨rfl, xw (xc9 _ (List.mem_of_getElem? (i := 112) rfl)) rfl, xw (xc9 _ (List.mem_of_getElem? (i := 114) rfl)) rfl, xw (List.mem_append_left _ (List.mem_of_getElem? (i := 116) rfl)) rfl, Nat.le_of_ble_eq_true rfl⟩))⟩
set_option maxRecDepth 20000 in
theorem xce_11_499 : xCok 11 (499, 2, mX12_known, 2) := ⟨xok_mX12_known, by decide +kernel, Or.inr (Or.inr (Or.inl ⟨rfl, xw (xc9 _ (List.mem_of_getElem? (i := 116) rfl)) rfl, xw (xc9 _ (List.mem_of_getElem? (i := 118) rfl)) rfl, xw (List.mem_append_left _ (List.mem_of_getElem? (i := 117) rfl)) rfl, Nat.le_of_ble_eq_true rfl⟩))⟩
set_option maxRecDepth 20000 in
theorem xce_11_502 : xCok 11 (502, 2, mX12_layPairs, 0) := ⟨xok_mX12_layPairs, by decide +kernel, Or.inr (Or.inr (Or.inl ⟨rfl, xw (xc9 _ (List.mem_of_getElem? (i := 56) rfl)) rfl, xw (xc9 _ (List.mem_of_getElem? (i := 58) rfl)) rfl, xw (List.mem_append_left _ (List.mem_of_getElem? (i := 104) rfl)) rfl, Nat.le_of_ble_eq_true rfl⟩))⟩
set_option maxRecDepth 20000 in
theorem xce_11_505 : xCok 11 (505, 2, mX12_layGoals, 2) := ⟨xok_mX12_layGoals, by decide +kernel, Or.inr (Or.inr (Or.inl ⟨rfl, xw (xc9 _ (List.mem_of_getElem? (i := 60) rfl)) rfl, xw (xc9 _ (List.mem_of_getElem? (i := 62) rfl)) rfl, xw (List.mem_append_left _ (List.mem_of_getElem? (i := 105) rfl)) rfl, Nat.le_of_ble_eq_true rfl⟩))⟩
set_option maxRecDepth 20000 in
theorem xce_11_508 : xCok 11 (508, 2, mX12_isGoal, 2) := ⟨xok_mX12_isGoal, by decide +kernel, Or.inr (Or.inr (Or.inl ⟨rfl, xw (xc9 _ (List.mem_of_getElem? (i := 48) rfl)) rfl, xw (xc9 _ (List.mem_of_getElem? (i := 50) rfl)) rfl, xw (List.mem_append_left _ (List.mem_of_getElem? (i := 102) rfl)) rfl, Nat.le_of_ble_eq_true rfl⟩))⟩
set_option maxRecDepth 20000 in
theorem xce_11_511 : xCok 11 (511, 2, mX12_layGoal, 3) := ⟨xok_mX12_layGoal, by decide +kernel, Or.inr (Or.inr (Or.inl ⟨rfl, xw (xc9 _ (List.mem_of_getElem? (i := 52) rfl)) rfl, xw (xc9 _ (List.mem_of_getElem? (i := 54) rfl)) rfl, xw (List.mem_append_left _ (List.mem_of_getElem? (i := 103) rfl)) rfl, Nat.le_of_ble_eq_true rfl⟩))⟩
set_option maxRecDepth 20000 in
theorem xce_11_514 : xCok 11 (514, 2, mX12_solves, 1) := ⟨xok_mX12_solves, by decide +kernel, Or.inr (Or.inr (Or.inl ⟨rfl, xw (xc9 _ (List.mem_of_getElem? (i := 64) rfl)) rfl, xw (xc9 _ (List.mem_of_getElem? (i := 66) rfl)) rfl, xw (List.mem_append_left _ (List.mem_of_getElem? (i := 106) rfl)) rfl, Nat.le_of_ble_eq_true rfl⟩))⟩
set_option maxRecDepth 20000 in
theorem xce_11_518 : xCok 11 (518, 2, mX12_pairNumber, 0) := ⟨xok_mX12_pairNumber, by decide +kernel, Or.inr (Or.inr (Or.inl ⟨rfl, xw (xc9 _ (List.mem_of_getElem? (i := 124) rfl)) rfl, xw (xc9 _ (List.mem_of_getElem? (i := 126) rfl)) rfl, xw (List.mem_append_left _ (List.mem_of_getElem? (i := 118) rfl)) rfl, Nat.le_of_ble_eq_true rfl⟩))⟩
set_option maxRecDepth 20000 in
theorem xce_11_521 : xCok 11 (521, 2, mX12_answerOf, 2) := ⟨xok_mX12_answerOf, by decide +kernel, Or.inr (Or.inr (Or.inl ⟨rfl, xw (xc9 _ (List.mem_of_getElem? (i := 136) rfl)) rfl, xw (xc9 _ (List.mem_of_getElem? (i := 138) rfl)) rfl, xw (List.mem_append_left _ (List.mem_of_getElem? (i := 119) rfl)) rfl, Nat.le_of_ble_eq_true rfl⟩))⟩
set_option maxRecDepth 20000 in
theorem xce_11_524 : xCok 11 (524, 2, mX12_goesThrough, 2) := ⟨xok_mX12_goesThrough, by decide +kernel, Or.inr (Or.inr (Or.inl ⟨rfl, xw (xc9 _ (List.mem_of_getElem? (i := 144) rfl)) rfl, xw (xc9 _ (List.mem_of_getElem? (i := 146) rfl)) rfl, xw (List.mem_append_left _ (List.mem_of_getElem? (i := 120) rfl)) rfl, Nat.le_of_ble_eq_true rfl⟩))⟩
set_option maxRecDepth 20000 in
theorem xce_11_527 : xCok 11 (527, 2, mX12_unlikeBy, 2) := ⟨xok_mX12_unlikeBy, by decide +kernel, Or.inr (Or.inr (Or.inl ⟨rfl, xw (xc9 _ (List.mem_of_getElem? (i := 152) rfl)) rfl, xw (xc9 _ (List.mem_of_getElem? (i := 154) rfl)) rfl, xw (List.mem_append_left _ (List.mem_of_getElem? (i := 121) rfl)) rfl, Nat.le_of_ble_eq_true rfl⟩))⟩
set_option maxRecDepth 20000 in
theorem xce_11_530 : xCok 11 (530, 2, mX12_statusOf, 2) := ⟨xok_mX12_statusOf, by decide +kernel, Or.inr (Or.inr (Or.inl ⟨rfl, xw (xc9 _ (List.mem_of_getElem? (i := 164) rfl)) rfl, xw (xc9 _ (List.mem_of_getElem? (i := 166) rfl)) rfl, xw (List.mem_append_left _ (List.mem_of_getElem? (i := 123) rfl)) rfl, Nat.le_of_ble_eq_true rfl⟩))⟩
set_option maxRecDepth 20000 in
theorem xce_11_533 : xCok 11 (533, 2, mX12_behind, 3) := ⟨xok_mX12_behind, by decide +kernel, Or.inr (Or.inr (Or.inl ⟨rfl, xw (xc9 _ (List.mem_of_getElem? (i := 172) rfl)) rfl, xw (xc9 _ (List.mem_of_getElem? (i := 174) rfl)) rfl, xw (List.mem_append_left _ (List.mem_of_getElem? (i := 125) rfl)) rfl, Nat.le_of_ble_eq_true rfl⟩))⟩
set_option maxRecDepth 20000 in
theorem xce_11_536 : xCok 11 (536, 2, mX12_isComeBy, 1) := ⟨xok_mX12_isComeBy, by decide +kernel, Or.inr (Or.inr (Or.inl ⟨rfl, xw (xc9 _ (List.mem_of_getElem? (i := 160) rfl)) rfl, xw (xc9 _ (List.mem_of_getElem? (i := 162) rfl)) rfl, xw (List.mem_append_left _ (List.mem_of_getElem? (i := 122) rfl)) rfl, Nat.le_of_ble_eq_true rfl⟩))⟩
set_option maxRecDepth 20000 in
theorem xce_11_539 : xCok 11 (539, 2, mX12_canBy, 2) := ⟨xok_mX12_canBy, by decide +kernel, Or.inr (Or.inr (Or.inl ⟨rfl, xw (xc9 _ (List.mem_of_getElem? (i := 168) rfl)) rfl, xw (xc9 _ (List.mem_of_getElem? (i := 170) rfl)) rfl, xw (List.mem_append_left _ (List.mem_of_getElem? (i := 124) rfl)) rfl, Nat.le_of_ble_eq_true rfl⟩))⟩
set_option maxRecDepth 20000 in
theorem xce_11_542 : xCok 11 (542, 2, mX12_isHeavier, 2) := ⟨xok_mX12_isHeavier, by decide +kernel, Or.inr (Or.inr (Or.inl ⟨rfl, xw (xc9 _ (List.mem_of_getElem? (i := 192) rfl)) rfl, xw (xc9 _ (List.mem_of_getElem? (i := 194) rfl)) rfl, xw (List.mem_append_left _ (List.mem_of_getElem? (i := 127) rfl)) rfl, Nat.le_of_ble_eq_true rfl⟩))⟩
set_option maxRecDepth 20000 in
theorem xce_11_545 : xCok 11 (545, 2, mX12_isDirect, 2) := ⟨xok_mX12_isDirect, by decide +kernel, Or.inr (Or.inr (Or.inl ⟨rfl, xw (xc9 _ (List.mem_of_getElem? (i := 188) rfl)) rfl, xw (xc9 _ (List.mem_of_getElem? (i := 190) rfl)) rfl, xw (List.mem_append_left _ (List.mem_of_getElem? (i := 126) rfl)) rfl, Nat.le_of_ble_eq_true rfl⟩))⟩
set_option maxRecDepth 20000 in
theorem xce_11_548 : xCok 11 (548, 2, mX12_placeInRow, 1) := ⟨xok_mX12_placeInRow, by decide +kernel, Or.inr (Or.inr (Or.inl ⟨rfl, xw (xc9 _ (List.mem_of_getElem? (i := 212) rfl)) rfl, xw (xc9 _ (List.mem_of_getElem? (i := 214) rfl)) rfl, xw (List.mem_append_left _ (List.mem_of_getElem? (i := 128) rfl)) rfl, Nat.le_of_ble_eq_true rfl⟩))⟩
set_option maxRecDepth 20000 in
theorem xce_11_551 : xCok 11 (551, 2, mX12_isLadder, 2) := ⟨xok_mX12_isLadder, by decide +kernel, Or.inr (Or.inr (Or.inl ⟨rfl, xw (xc9 _ (List.mem_of_getElem? (i := 220) rfl)) rfl, xw (xc9 _ (List.mem_of_getElem? (i := 222) rfl)) rfl, xw (List.mem_append_left _ (List.mem_of_getElem? (i := 129) rfl)) rfl, Nat.le_of_ble_eq_true rfl⟩))⟩
set_option maxRecDepth 20000 in
theorem xce_11_555 : xCok 11 (555, 2, mX12_orderOf, 0) := ⟨xok_mX12_orderOf, by decide +kernel, Or.inr (Or.inr (Or.inl ⟨rfl, xw (xc9 _ (List.mem_of_getElem? (i := 236) rfl)) rfl, xw (xc9 _ (List.mem_of_getElem? (i := 238) rfl)) rfl, xw (List.mem_append_left _ (List.mem_of_getElem? (i := 131) rfl)) rfl, Nat.le_of_ble_eq_true rfl⟩))⟩
set_option maxRecDepth 20000 in
theorem xce_11_558 : xCok 11 (558, 2, mX12_laySwapped, 1) := ⟨xok_mX12_laySwapped, by decide +kernel, Or.inr (Or.inr (Or.inl ⟨rfl, xw (xc9 _ (List.mem_of_getElem? (i := 232) rfl)) rfl, xw (xc9 _ (List.mem_of_getElem? (i := 234) rfl)) rfl, xw (List.mem_append_left _ (List.mem_of_getElem? (i := 130) rfl)) rfl, Nat.le_of_ble_eq_true rfl⟩))⟩
set_option maxRecDepth 20000 in
theorem xce_11_561 : xCok 11 (561, 2, mX12_saysOf, 2) := ⟨xok_mX12_saysOf, by decide +kernel, Or.inr (Or.inr (Or.inl ⟨rfl, xw (xc10 _ (List.mem_of_getElem? (i := 20) rfl)) rfl, xw (xc10 _ (List.mem_of_getElem? (i := 22) rfl)) rfl, xw (List.mem_append_left _ (List.mem_of_getElem? (i := 136) rfl)) rfl, Nat.le_of_ble_eq_true rfl⟩))⟩
set_option maxRecDepth 20000 in
theorem xce_11_564 : xCok 11 (564, 2, mX12_weightRows, 0) := ⟨xok_mX12_weightRows, by decide +kernel, Or.inr (Or.inr (Or.inl ⟨rfl, xw (xc10 _ (List.mem_of_getElem? (i := 8) rfl)) rfl, xw (xc10 _ (List.mem_of_getElem? (i := 10) rfl)) rfl, xw (List.mem_append_left _ (List.mem_of_getElem? (i := 133) rfl)) rfl, Nat.le_of_ble_eq_true rfl⟩))⟩
set_option maxRecDepth 20000 in
theorem xce_11_567 : xCok 11 (567, 2, mX12_layWeights, 1) := ⟨xok_mX12_layWeights, by decide +kernel, Or.inr (Or.inr (Or.inl ⟨rfl, xw (xc10 _ (List.mem_of_getElem? (i := 12) rfl)) rfl, xw (xc10 _ (List.mem_of_getElem? (i := 14) rfl)) rfl, xw (List.mem_append_left _ (List.mem_of_getElem? (i := 134) rfl)) rfl, Nat.le_of_ble_eq_true rfl⟩))⟩
set_option maxRecDepth 20000 in
theorem xce_11_570 : xCok 11 (570, 2, mX12_doFit, 1) := ⟨xok_mX12_doFit, by decide +kernel, Or.inr (Or.inr (Or.inl ⟨rfl, xw (xc10 _ (List.mem_of_getElem? (i := 16) rfl)) rfl, xw (xc10 _ (List.mem_of_getElem? (i := 18) rfl)) rfl, xw (List.mem_append_left _ (List.mem_of_getElem? (i := 135) rfl)) rfl, Nat.le_of_ble_eq_true rfl⟩))⟩
set_option maxRecDepth 20000 in
theorem xce_11_573 : xCok 11 (573, 2, mX12_countWeights, 1) := ⟨xok_mX12_countWeights, by decide +kernel, Or.inr (Or.inr (Or.inl ⟨rfl, xw (xc10 _ (List.mem_of_getElem? (i := 4) rfl)) rfl, xw (xc10 _ (List.mem_of_getElem? (i := 6) rfl)) rfl, xw (List.mem_append_left _ (List.mem_of_getElem? (i := 132) rfl)) rfl, Nat.le_of_ble_eq_true rfl⟩))⟩
set_option maxRecDepth 20000 in
theorem xce_11_576 : xCok 11 (576, 2, mX12_mostStone, 3) := ⟨xok_mX12_mostStone, by decide +kernel, Or.inr (Or.inr (Or.inl ⟨rfl, xw (xc10 _ (List.mem_of_getElem? (i := 40) rfl)) rfl, xw (xc10 _ (List.mem_of_getElem? (i := 42) rfl)) rfl, xw (List.mem_append_left _ (List.mem_of_getElem? (i := 138) rfl)) rfl, Nat.le_of_ble_eq_true rfl⟩))⟩
set_option maxRecDepth 20000 in
theorem xce_11_580 : xCok 11 (580, 2, mX12_doReach, 3) := ⟨xok_mX12_doReach, by decide +kernel, Or.inr (Or.inr (Or.inl ⟨rfl, xw (xc10 _ (List.mem_of_getElem? (i := 44) rfl)) rfl, xw (xc10 _ (List.mem_of_getElem? (i := 46) rfl)) rfl, xw (List.mem_append_left _ (List.mem_of_getElem? (i := 139) rfl)) rfl, Nat.le_of_ble_eq_true rfl⟩))⟩
set_option maxRecDepth 20000 in
theorem xce_11_584 : xCok 11 (584, 2, mX12_findStones, 3) := ⟨xok_mX12_findStones, by decide +kernel, Or.inr (Or.inr (Or.inl ⟨rfl, xw (xc10 _ (List.mem_of_getElem? (i := 36) rfl)) rfl, xw (xc10 _ (List.mem_of_getElem? (i := 38) rfl)) rfl, xw (List.mem_append_left _ (List.mem_of_getElem? (i := 137) rfl)) rfl, Nat.le_of_ble_eq_true rfl⟩))⟩
set_option maxRecDepth 20000 in
theorem xce_11_587 : xCok 11 (587, 2, mX12_worstOf, 3) := ⟨xok_mX12_worstOf, by decide +kernel, Or.inr (Or.inr (Or.inl ⟨rfl, xw (xc10 _ (List.mem_of_getElem? (i := 52) rfl)) rfl, xw (xc10 _ (List.mem_of_getElem? (i := 54) rfl)) rfl, xw (List.mem_append_left _ (List.mem_of_getElem? (i := 140) rfl)) rfl, Nat.le_of_ble_eq_true rfl⟩))⟩
theorem xca_11 : ∀ e ∈ xCl11, xCok 11 e := List.forall_mem_cons.mpr ⟨xce_11_218, List.forall_mem_cons.mpr ⟨xce_11_221, List.forall_mem_cons.mpr ⟨xce_11_250, List.forall_mem_cons.mpr ⟨xce_11_257, List.forall_mem_cons.mpr ⟨xce_11_265, List.forall_mem_cons.mpr ⟨xce_11_269, List.forall_mem_cons.mpr ⟨xce_11_275, List.forall_mem_cons.mpr ⟨xce_11_279, List.forall_mem_cons.mpr ⟨xce_11_283, List.forall_mem_cons.mpr ⟨xce_11_286, List.forall_mem_cons.mpr ⟨xce_11_298, List.forall_mem_cons.mpr ⟨xce_11_301, List.forall_mem_cons.mpr ⟨xce_11_316, List.forall_mem_cons.mpr ⟨xce_11_319, List.forall_mem_cons.mpr ⟨xce_11_322, List.forall_mem_cons.mpr ⟨xce_11_326, List.forall_mem_cons.mpr ⟨xce_11_329, List.forall_mem_cons.mpr ⟨xce_11_332, List.forall_mem_cons.mpr ⟨xce_11_335, List.forall_mem_cons.mpr ⟨xce_11_338, List.forall_mem_cons.mpr ⟨xce_11_342, List.forall_mem_cons.mpr ⟨xce_11_346, List.forall_mem_cons.mpr ⟨xce_11_349, List.forall_mem_cons.mpr ⟨xce_11_355, List.forall_mem_cons.mpr ⟨xce_11_358, List.forall_mem_cons.mpr ⟨xce_11_361, List.forall_mem_cons.mpr ⟨xce_11_364, List.forall_mem_cons.mpr ⟨xce_11_367, List.forall_mem_cons.mpr ⟨xce_11_374, List.forall_mem_cons.mpr ⟨xce_11_380, List.forall_mem_cons.mpr ⟨xce_11_384, List.forall_mem_cons.mpr ⟨xce_11_387, List.forall_mem_cons.mpr ⟨xce_11_392, List.forall_mem_cons.mpr ⟨xce_11_395, List.forall_mem_cons.mpr ⟨xce_11_398, List.forall_mem_cons.mpr ⟨xce_11_401, List.forall_mem_cons.mpr ⟨xce_11_404, List.forall_mem_cons.mpr ⟨xce_11_411, List.forall_mem_cons.mpr ⟨xce_11_414, List.forall_mem_cons.mpr ⟨xce_11_417, List.forall_mem_cons.mpr ⟨xce_11_421, List.forall_mem_cons.mpr ⟨xce_11_424, List.forall_mem_cons.mpr ⟨xce_11_427, List.forall_mem_cons.mpr ⟨xce_11_430, List.forall_mem_cons.mpr ⟨xce_11_433, List.forall_mem_cons.mpr ⟨xce_11_436, List.forall_mem_cons.mpr ⟨xce_11_442, List.forall_mem_cons.mpr ⟨xce_11_452, List.forall_mem_cons.mpr ⟨xce_11_456, List.forall_mem_cons.mpr ⟨xce_11_464, List.forall_mem_cons.mpr ⟨xce_11_471, List.forall_mem_cons.mpr ⟨xce_11_479, List.forall_mem_cons.mpr ⟨xce_11_482, List.forall_mem_cons.mpr ⟨xce_11_486, List.forall_mem_cons.mpr ⟨xce_11_490, List.forall_mem_cons.mpr ⟨xce_11_493, List.forall_mem_cons.mpr ⟨xce_11_496, List.forall_mem_cons.mpr ⟨xce_11_499, List.forall_mem_cons.mpr ⟨xce_11_502, List.forall_mem_cons.mpr ⟨xce_11_505, List.forall_mem_cons.mpr ⟨xce_11_508, List.forall_mem_cons.mpr ⟨xce_11_511, List.forall_mem_cons.mpr ⟨xce_11_514, List.forall_mem_cons.mpr ⟨xce_11_518, List.forall_mem_cons.mpr ⟨xce_11_521, List.forall_mem_cons.mpr ⟨xce_11_524, List.forall_mem_cons.mpr ⟨xce_11_527, List.forall_mem_cons.mpr ⟨xce_11_530, List.forall_mem_cons.mpr ⟨xce_11_533, List.forall_mem_cons.mpr ⟨xce_11_536, List.forall_mem_cons.mpr ⟨xce_11_539, List.forall_mem_cons.mpr ⟨xce_11_542, List.forall_mem_cons.mpr ⟨xce_11_545, List.forall_mem_cons.mpr ⟨xce_11_548, List.forall_mem_cons.mpr ⟨xce_11_551, List.forall_mem_cons.mpr ⟨xce_11_555, List.forall_mem_cons.mpr ⟨xce_11_558, List.forall_mem_cons.mpr ⟨xce_11_561, List.forall_mem_cons.mpr ⟨xce_11_564, List.forall_mem_cons.mpr ⟨xce_11_567, List.forall_mem_cons.mpr ⟨xce_11_570, List.forall_mem_cons.mpr ⟨xce_11_573, List.forall_mem_cons.mpr ⟨xce_11_576, List.forall_mem_cons.mpr ⟨xce_11_580, List.forall_mem_cons.mpr ⟨xce_11_584, List.forall_mem_cons.mpr ⟨xce_11_587, fun _ h => absurd h List.not_mem_nil⟩⟩⟩⟩⟩⟩⟩⟩⟩⟩⟩⟩⟩⟩⟩⟩⟩⟩⟩⟩⟩⟩⟩⟩⟩⟩⟩⟩⟩⟩⟩⟩⟩⟩⟩⟩⟩⟩⟩⟩⟩⟩⟩⟩⟩⟩⟩⟩⟩⟩⟩⟩⟩⟩⟩⟩⟩⟩⟩⟩⟩⟩⟩⟩⟩⟩⟩⟩⟩⟩⟩⟩⟩⟩⟩⟩⟩⟩⟩⟩⟩⟩⟩⟩⟩⟩
set_option maxRecDepth 20000 in
theorem xce_12_9 : xCok 12 (9, 0, mJ13_bitCount_95d88, 1) := ⟨xok_mJ13_bitCount_95d88, by decide +kernel, Or.inl ⟨rfl, xw (xc4 _ (List.mem_of_getElem? (i := 162) rfl)) rfl, xw (xc4 _ (List.mem_of_getElem? (i := 163) rfl)) rfl⟩⟩
theorem xca_12 : ∀ e ∈ xCl12, xCok 12 e := List.forall_mem_cons.mpr ⟨xce_12_9, fun _ h => absurd h List.not_mem_nil⟩
set_option maxRecDepth 20000 in
theorem xce_16_9 : xCok 16 (9, 1, mX11_init, 0) := ⟨xok_mX11_init, by decide +kernel, Or.inr (Or.inl ⟨rfl, xw (xc1 _ (List.mem_of_getElem? (i := 23) rfl)) rfl, xw (xc1 _ (List.mem_of_getElem? (i := 24) rfl)) rfl, rfl, rfl, Nat.le_of_ble_eq_true rfl⟩)⟩
set_option maxRecDepth 20000 in
theorem xce_16_12 : xCok 16 (12, 1, mX12_init, 0) := ⟨xok_mX12_init, by decide +kernel, Or.inr (Or.inl ⟨rfl, xw (xc7 _ (List.mem_of_getElem? (i := 2) rfl)) rfl, xw (xc7 _ (List.mem_of_getElem? (i := 3) rfl)) rfl, rfl, rfl, Nat.le_of_ble_eq_true rfl⟩)⟩
set_option maxRecDepth 20000 in
theorem xce_16_13 : xCok 16 (13, 2, mX11_feed, 5) := ⟨xok_mX11_feed, by decide +kernel, Or.inr (Or.inr (Or.inl ⟨rfl, xw (xc3 _ (List.mem_of_getElem? (i := 122) rfl)) rfl, xw (xc3 _ (List.mem_of_getElem? (i := 123) rfl)) rfl, xw (xc3 _ (List.mem_of_getElem? (i := 124) rfl)) rfl, Nat.le_of_ble_eq_true rfl⟩))⟩
set_option maxRecDepth 20000 in
theorem xce_16_17 : xCok 16 (17, 2, mX12_feed, 5) := ⟨xok_mX12_feed, by decide +kernel, Or.inr (Or.inr (Or.inl ⟨rfl, xw (xc10 _ (List.mem_of_getElem? (i := 68) rfl)) rfl, xw (xc10 _ (List.mem_of_getElem? (i := 69) rfl)) rfl, xw (xc10 _ (List.mem_of_getElem? (i := 70) rfl)) rfl, Nat.le_of_ble_eq_true rfl⟩))⟩
set_option maxRecDepth 20000 in
theorem xce_16_18 : xCok 16 (18, 2, mX11_end, 1) := ⟨xok_mX11_end, by decide +kernel, Or.inr (Or.inr (Or.inl ⟨rfl, xw (xc3 _ (List.mem_of_getElem? (i := 130) rfl)) rfl, xw (xc3 _ (List.mem_of_getElem? (i := 131) rfl)) rfl, xw (xc3 _ (List.mem_of_getElem? (i := 132) rfl)) rfl, Nat.le_of_ble_eq_true rfl⟩))⟩
set_option maxRecDepth 20000 in
theorem xce_16_22 : xCok 16 (22, 2, mX12_end, 1) := ⟨xok_mX12_end, by decide +kernel, Or.inr (Or.inr (Or.inl ⟨rfl, xw (xc10 _ (List.mem_of_getElem? (i := 72) rfl)) rfl, xw (xc10 _ (List.mem_of_getElem? (i := 73) rfl)) rfl, xw (xc10 _ (List.mem_of_getElem? (i := 74) rfl)) rfl, Nat.le_of_ble_eq_true rfl⟩))⟩
set_option maxRecDepth 20000 in
theorem xce_16_23 : xCok 16 (23, 2, mX11_street, 0) := ⟨xok_mX11_street, by decide +kernel, Or.inr (Or.inr (Or.inl ⟨rfl, xw (xc3 _ (List.mem_of_getElem? (i := 134) rfl)) rfl, xw (xc3 _ (List.mem_of_getElem? (i := 135) rfl)) rfl, xw (xc3 _ (List.mem_of_getElem? (i := 136) rfl)) rfl, Nat.le_of_ble_eq_true rfl⟩))⟩
set_option maxRecDepth 20000 in
theorem xce_16_27 : xCok 16 (27, 2, mX12_street, 0) := ⟨xok_mX12_street, by decide +kernel, Or.inr (Or.inr (Or.inl ⟨rfl, xw (xc8 _ (List.mem_of_getElem? (i := 54) rfl)) rfl, xw (xc8 _ (List.mem_of_getElem? (i := 55) rfl)) rfl, xw (xc8 _ (List.mem_of_getElem? (i := 56) rfl)) rfl, Nat.le_of_ble_eq_true rfl⟩))⟩
set_option maxRecDepth 20000 in
theorem xce_16_28 : xCok 16 (28, 2, mX11_fault, 1) := ⟨xok_mX11_fault, by decide +kernel, Or.inr (Or.inr (Or.inl ⟨rfl, xw (xc4 _ (List.mem_of_getElem? (i := 50) rfl)) rfl, xw (xc4 _ (List.mem_of_getElem? (i := 51) rfl)) rfl, xw (xc4 _ (List.mem_of_getElem? (i := 52) rfl)) rfl, Nat.le_of_ble_eq_true rfl⟩))⟩
set_option maxRecDepth 20000 in
theorem xce_16_31 : xCok 16 (31, 2, mX12_fault, 1) := ⟨xok_mX12_fault, by decide +kernel, Or.inr (Or.inr (Or.inl ⟨rfl, xw (xc8 _ (List.mem_of_getElem? (i := 158) rfl)) rfl, xw (xc8 _ (List.mem_of_getElem? (i := 159) rfl)) rfl, xw (xc8 _ (List.mem_of_getElem? (i := 160) rfl)) rfl, Nat.le_of_ble_eq_true rfl⟩))⟩
set_option maxRecDepth 20000 in
theorem xce_16_32 : xCok 16 (32, 2, mX11_weigh, 2) := ⟨xok_mX11_weigh, by decide +kernel, Or.inr (Or.inr (Or.inl ⟨rfl, xw (xc4 _ (List.mem_of_getElem? (i := 54) rfl)) rfl, xw (xc4 _ (List.mem_of_getElem? (i := 55) rfl)) rfl, xw (xc4 _ (List.mem_of_getElem? (i := 56) rfl)) rfl, Nat.le_of_ble_eq_true rfl⟩))⟩
set_option maxRecDepth 20000 in
theorem xce_16_36 : xCok 16 (36, 2, mX12_weigh, 2) := ⟨xok_mX12_weigh, by decide +kernel, Or.inr (Or.inr (Or.inl ⟨rfl, xw (xc8 _ (List.mem_of_getElem? (i := 169) rfl)) rfl, xw (xc8 _ (List.mem_of_getElem? (i := 170) rfl)) rfl, xw (xc8 _ (List.mem_of_getElem? (i := 171) rfl)) rfl, Nat.le_of_ble_eq_true rfl⟩))⟩
set_option maxRecDepth 20000 in
theorem xce_16_37 : xCok 16 (37, 2, mX11_told, 3) := ⟨xok_mX11_told, by decide +kernel, Or.inr (Or.inr (Or.inl ⟨rfl, xw (xc4 _ (List.mem_of_getElem? (i := 85) rfl)) rfl, xw (xc4 _ (List.mem_of_getElem? (i := 86) rfl)) rfl, xw (xc4 _ (List.mem_of_getElem? (i := 87) rfl)) rfl, Nat.le_of_ble_eq_true rfl⟩))⟩
set_option maxRecDepth 20000 in
theorem xce_16_41 : xCok 16 (41, 2, mX12_told, 3) := ⟨xok_mX12_told, by decide +kernel, Or.inr (Or.inr (Or.inl ⟨rfl, xw (xc8 _ (List.mem_of_getElem? (i := 185) rfl)) rfl, xw (xc8 _ (List.mem_of_getElem? (i := 186) rfl)) rfl, xw (xc8 _ (List.mem_of_getElem? (i := 187) rfl)) rfl, Nat.le_of_ble_eq_true rfl⟩))⟩
set_option maxRecDepth 20000 in
theorem xce_16_42 : xCok 16 (42, 2, mX11_weighing, 2) := ⟨xok_mX11_weighing, by decide +kernel, Or.inr (Or.inr (Or.inl ⟨rfl, xw (xc4 _ (List.mem_of_getElem? (i := 89) rfl)) rfl, xw (xc4 _ (List.mem_of_getElem? (i := 90) rfl)) rfl, xw (xc4 _ (List.mem_of_getElem? (i := 91) rfl)) rfl, Nat.le_of_ble_eq_true rfl⟩))⟩
set_option maxRecDepth 20000 in
theorem xce_16_45 : xCok 16 (45, 2, mX12_weighing, 2) := ⟨xok_mX12_weighing, by decide +kernel, Or.inr (Or.inr (Or.inl ⟨rfl, xw (xc8 _ (List.mem_of_getElem? (i := 189) rfl)) rfl, xw (xc8 _ (List.mem_of_getElem? (i := 190) rfl)) rfl, xw (xc8 _ (List.mem_of_getElem? (i := 191) rfl)) rfl, Nat.le_of_ble_eq_true rfl⟩))⟩
set_option maxRecDepth 20000 in
theorem xce_16_46 : xCok 16 (46, 2, mX11_wet, 0) := ⟨xok_mX11_wet, by decide +kernel, Or.inr (Or.inr (Or.inl ⟨rfl, xw (xc4 _ (List.mem_of_getElem? (i := 105) rfl)) rfl, xw (xc4 _ (List.mem_of_getElem? (i := 106) rfl)) rfl, xw (xc4 _ (List.mem_of_getElem? (i := 107) rfl)) rfl, Nat.le_of_ble_eq_true rfl⟩))⟩
set_option maxRecDepth 20000 in
theorem xce_16_49 : xCok 16 (49, 2, mX12_wet, 0) := ⟨xok_mX12_wet, by decide +kernel, Or.inr (Or.inr (Or.inl ⟨rfl, xw (xc8 _ (List.mem_of_getElem? (i := 193) rfl)) rfl, xw (xc8 _ (List.mem_of_getElem? (i := 194) rfl)) rfl, xw (xc8 _ (List.mem_of_getElem? (i := 195) rfl)) rfl, Nat.le_of_ble_eq_true rfl⟩))⟩
set_option maxRecDepth 20000 in
theorem xce_16_50 : xCok 16 (50, 2, mX11_untell, 1) := ⟨xok_mX11_untell, by decide +kernel, Or.inr (Or.inr (Or.inl ⟨rfl, xw (xc4 _ (List.mem_of_getElem? (i := 117) rfl)) rfl, xw (xc4 _ (List.mem_of_getElem? (i := 118) rfl)) rfl, xw (xc4 _ (List.mem_of_getElem? (i := 119) rfl)) rfl, Nat.le_of_ble_eq_true rfl⟩))⟩
set_option maxRecDepth 20000 in
theorem xce_16_54 : xCok 16 (54, 2, mX12_untell, 1) := ⟨xok_mX12_untell, by decide +kernel, Or.inr (Or.inr (Or.inl ⟨rfl, xw (xc8 _ (List.mem_of_getElem? (i := 197) rfl)) rfl, xw (xc8 _ (List.mem_of_getElem? (i := 198) rfl)) rfl, xw (xc8 _ (List.mem_of_getElem? (i := 199) rfl)) rfl, Nat.le_of_ble_eq_true rfl⟩))⟩
set_option maxRecDepth 20000 in
theorem xce_16_55 : xCok 16 (55, 2, mX11_later, 1) := ⟨xok_mX11_later, by decide +kernel, Or.inr (Or.inr (Or.inl ⟨rfl, xw (xc4 _ (List.mem_of_getElem? (i := 125) rfl)) rfl, xw (xc4 _ (List.mem_of_getElem? (i := 126) rfl)) rfl, xw (xc4 _ (List.mem_of_getElem? (i := 127) rfl)) rfl, Nat.le_of_ble_eq_true rfl⟩))⟩
set_option maxRecDepth 20000 in
theorem xce_16_58 : xCok 16 (58, 2, mX12_later, 1) := ⟨xok_mX12_later, by decide +kernel, Or.inr (Or.inr (Or.inl ⟨rfl, xw (xc8 _ (List.mem_of_getElem? (i := 201) rfl)) rfl, xw (xc8 _ (List.mem_of_getElem? (i := 202) rfl)) rfl, xw (xc8 _ (List.mem_of_getElem? (i := 203) rfl)) rfl, Nat.le_of_ble_eq_true rfl⟩))⟩
set_option maxRecDepth 20000 in
theorem xce_16_59 : xCok 16 (59, 2, mX11_left, 2) := ⟨xok_mX11_left, by decide +kernel, Or.inr (Or.inr (Or.inl ⟨rfl, xw (xc4 _ (List.mem_of_getElem? (i := 134) rfl)) rfl, xw (xc4 _ (List.mem_of_getElem? (i := 135) rfl)) rfl, xw (xc4 _ (List.mem_of_getElem? (i := 136) rfl)) rfl, Nat.le_of_ble_eq_true rfl⟩))⟩
set_option maxRecDepth 20000 in
theorem xce_16_62 : xCok 16 (62, 2, mX12_left, 2) := ⟨xok_mX12_left, by decide +kernel, Or.inr (Or.inr (Or.inl ⟨rfl, xw (xc8 _ (List.mem_of_getElem? (i := 210) rfl)) rfl, xw (xc8 _ (List.mem_of_getElem? (i := 211) rfl)) rfl, xw (xc8 _ (List.mem_of_getElem? (i := 212) rfl)) rfl, Nat.le_of_ble_eq_true rfl⟩))⟩
set_option maxRecDepth 20000 in
theorem xce_16_63 : xCok 16 (63, 2, mX11_struck, 1) := ⟨xok_mX11_struck, by decide +kernel, Or.inr (Or.inr (Or.inl ⟨rfl, xw (xc4 _ (List.mem_of_getElem? (i := 196) rfl)) rfl, xw (xc4 _ (List.mem_of_getElem? (i := 197) rfl)) rfl, xw (xc4 _ (List.mem_of_getElem? (i := 198) rfl)) rfl, Nat.le_of_ble_eq_true rfl⟩))⟩
set_option maxRecDepth 20000 in
theorem xce_16_66 : xCok 16 (66, 2, mX12_struck, 1) := ⟨xok_mX12_struck, by decide +kernel, Or.inr (Or.inr (Or.inl ⟨rfl, xw (xc9 _ (List.mem_of_getElem? (i := 4) rfl)) rfl, xw (xc9 _ (List.mem_of_getElem? (i := 5) rfl)) rfl, xw (xc9 _ (List.mem_of_getElem? (i := 6) rfl)) rfl, Nat.le_of_ble_eq_true rfl⟩))⟩
set_option maxRecDepth 20000 in
theorem xce_16_67 : xCok 16 (67, 2, mX11_place, 3) := ⟨xok_mX11_place, by decide +kernel, Or.inr (Or.inr (Or.inl ⟨rfl, xw (xc4 _ (List.mem_of_getElem? (i := 213) rfl)) rfl, xw (xc4 _ (List.mem_of_getElem? (i := 214) rfl)) rfl, xw (xc4 _ (List.mem_of_getElem? (i := 215) rfl)) rfl, Nat.le_of_ble_eq_true rfl⟩))⟩
set_option maxRecDepth 20000 in
theorem xce_16_71 : xCok 16 (71, 2, mX12_place, 3) := ⟨xok_mX12_place, by decide +kernel, Or.inr (Or.inr (Or.inl ⟨rfl, xw (xc9 _ (List.mem_of_getElem? (i := 8) rfl)) rfl, xw (xc9 _ (List.mem_of_getElem? (i := 9) rfl)) rfl, xw (xc9 _ (List.mem_of_getElem? (i := 10) rfl)) rfl, Nat.le_of_ble_eq_true rfl⟩))⟩
set_option maxRecDepth 20000 in
theorem xce_16_72 : xCok 16 (72, 2, mX11_stand, 3) := ⟨xok_mX11_stand, by decide +kernel, Or.inr (Or.inr (Or.inl ⟨rfl, xw (xc4 _ (List.mem_of_getElem? (i := 233) rfl)) rfl, xw (xc4 _ (List.mem_of_getElem? (i := 234) rfl)) rfl, xw (xc4 _ (List.mem_of_getElem? (i := 235) rfl)) rfl, Nat.le_of_ble_eq_true rfl⟩))⟩
set_option maxRecDepth 20000 in
theorem xce_16_75 : xCok 16 (75, 2, mX12_stand, 3) := ⟨xok_mX12_stand, by decide +kernel, Or.inr (Or.inr (Or.inl ⟨rfl, xw (xc9 _ (List.mem_of_getElem? (i := 24) rfl)) rfl, xw (xc9 _ (List.mem_of_getElem? (i := 25) rfl)) rfl, xw (xc9 _ (List.mem_of_getElem? (i := 26) rfl)) rfl, Nat.le_of_ble_eq_true rfl⟩))⟩
set_option maxRecDepth 20000 in
theorem xce_16_76 : xCok 16 (76, 2, mX11_surely, 3) := ⟨xok_mX11_surely, by decide +kernel, Or.inr (Or.inr (Or.inl ⟨rfl, xw (xc5 _ (List.mem_of_getElem? (i := 5) rfl)) rfl, xw (xc5 _ (List.mem_of_getElem? (i := 6) rfl)) rfl, xw (xc5 _ (List.mem_of_getElem? (i := 7) rfl)) rfl, Nat.le_of_ble_eq_true rfl⟩))⟩
set_option maxRecDepth 20000 in
theorem xce_16_79 : xCok 16 (79, 2, mX12_surely, 3) := ⟨xok_mX12_surely, by decide +kernel, Or.inr (Or.inr (Or.inl ⟨rfl, xw (xc9 _ (List.mem_of_getElem? (i := 28) rfl)) rfl, xw (xc9 _ (List.mem_of_getElem? (i := 29) rfl)) rfl, xw (xc9 _ (List.mem_of_getElem? (i := 30) rfl)) rfl, Nat.le_of_ble_eq_true rfl⟩))⟩
set_option maxRecDepth 20000 in
theorem xce_16_80 : xCok 16 (80, 2, mX11_fewest, 3) := ⟨xok_mX11_fewest, by decide +kernel, Or.inr (Or.inr (Or.inl ⟨rfl, xw (xc5 _ (List.mem_of_getElem? (i := 18) rfl)) rfl, xw (xc5 _ (List.mem_of_getElem? (i := 19) rfl)) rfl, xw (xc5 _ (List.mem_of_getElem? (i := 20) rfl)) rfl, Nat.le_of_ble_eq_true rfl⟩))⟩
set_option maxRecDepth 20000 in
theorem xce_16_83 : xCok 16 (83, 2, mX12_fewest, 3) := ⟨xok_mX12_fewest, by decide +kernel, Or.inr (Or.inr (Or.inl ⟨rfl, xw (xc9 _ (List.mem_of_getElem? (i := 44) rfl)) rfl, xw (xc9 _ (List.mem_of_getElem? (i := 45) rfl)) rfl, xw (xc9 _ (List.mem_of_getElem? (i := 46) rfl)) rfl, Nat.le_of_ble_eq_true rfl⟩))⟩
set_option maxRecDepth 20000 in
theorem xce_16_84 : xCok 16 (84, 2, mX11_next, 3) := ⟨xok_mX11_next, by decide +kernel, Or.inr (Or.inr (Or.inl ⟨rfl, xw (xc5 _ (List.mem_of_getElem? (i := 142) rfl)) rfl, xw (xc5 _ (List.mem_of_getElem? (i := 143) rfl)) rfl, xw (xc5 _ (List.mem_of_getElem? (i := 144) rfl)) rfl, Nat.le_of_ble_eq_true rfl⟩))⟩
set_option maxRecDepth 20000 in
theorem xce_16_87 : xCok 16 (87, 2, mX12_next, 3) := ⟨xok_mX12_next, by decide +kernel, Or.inr (Or.inr (Or.inl ⟨rfl, xw (xc9 _ (List.mem_of_getElem? (i := 120) rfl)) rfl, xw (xc9 _ (List.mem_of_getElem? (i := 121) rfl)) rfl, xw (xc9 _ (List.mem_of_getElem? (i := 122) rfl)) rfl, Nat.le_of_ble_eq_true rfl⟩))⟩
set_option maxRecDepth 20000 in
theorem xce_16_88 : xCok 16 (88, 2, mX11_total, 4) := ⟨xok_mX11_total, by decide +kernel, Or.inr (Or.inr (Or.inl ⟨rfl, xw (xc5 _ (List.mem_of_getElem? (i := 151) rfl)) rfl, xw (xc5 _ (List.mem_of_getElem? (i := 152) rfl)) rfl, xw (xc5 _ (List.mem_of_getElem? (i := 153) rfl)) rfl, Nat.le_of_ble_eq_true rfl⟩))⟩
set_option maxRecDepth 20000 in
theorem xce_16_92 : xCok 16 (92, 2, mX12_total, 4) := ⟨xok_mX12_total, by decide +kernel, Or.inr (Or.inr (Or.inl ⟨rfl, xw (xc9 _ (List.mem_of_getElem? (i := 128) rfl)) rfl, xw (xc9 _ (List.mem_of_getElem? (i := 129) rfl)) rfl, xw (xc9 _ (List.mem_of_getElem? (i := 130) rfl)) rfl, Nat.le_of_ble_eq_true rfl⟩))⟩
set_option maxRecDepth 20000 in
theorem xce_16_93 : xCok 16 (93, 2, mX11_atOnce, 3) := ⟨xok_mX11_atOnce, by decide +kernel, Or.inr (Or.inr (Or.inl ⟨rfl, xw (xc5 _ (List.mem_of_getElem? (i := 174) rfl)) rfl, xw (xc5 _ (List.mem_of_getElem? (i := 175) rfl)) rfl, xw (xc5 _ (List.mem_of_getElem? (i := 176) rfl)) rfl, Nat.le_of_ble_eq_true rfl⟩))⟩
set_option maxRecDepth 20000 in
theorem xce_16_96 : xCok 16 (96, 2, mX12_atOnce, 3) := ⟨xok_mX12_atOnce, by decide +kernel, Or.inr (Or.inr (Or.inl ⟨rfl, xw (xc9 _ (List.mem_of_getElem? (i := 148) rfl)) rfl, xw (xc9 _ (List.mem_of_getElem? (i := 149) rfl)) rfl, xw (xc9 _ (List.mem_of_getElem? (i := 150) rfl)) rfl, Nat.le_of_ble_eq_true rfl⟩))⟩
set_option maxRecDepth 20000 in
theorem xce_16_97 : xCok 16 (97, 2, mX11_answers, 4) := ⟨xok_mX11_answers, by decide +kernel, Or.inr (Or.inr (Or.inl ⟨rfl, xw (xc5 _ (List.mem_of_getElem? (i := 192) rfl)) rfl, xw (xc5 _ (List.mem_of_getElem? (i := 193) rfl)) rfl, xw (xc5 _ (List.mem_of_getElem? (i := 194) rfl)) rfl, Nat.le_of_ble_eq_true rfl⟩))⟩
set_option maxRecDepth 20000 in
theorem xce_16_100 : xCok 16 (100, 2, mX12_answers, 4) := ⟨xok_mX12_answers, by decide +kernel, Or.inr (Or.inr (Or.inl ⟨rfl, xw (xc9 _ (List.mem_of_getElem? (i := 132) rfl)) rfl, xw (xc9 _ (List.mem_of_getElem? (i := 133) rfl)) rfl, xw (xc9 _ (List.mem_of_getElem? (i := 134) rfl)) rfl, Nat.le_of_ble_eq_true rfl⟩))⟩
set_option maxRecDepth 20000 in
theorem xce_16_101 : xCok 16 (101, 2, mX11_judged, 5) := ⟨xok_mX11_judged, by decide +kernel, Or.inr (Or.inr (Or.inl ⟨rfl, xw (xc5 _ (List.mem_of_getElem? (i := 200) rfl)) rfl, xw (xc5 _ (List.mem_of_getElem? (i := 201) rfl)) rfl, xw (xc5 _ (List.mem_of_getElem? (i := 202) rfl)) rfl, Nat.le_of_ble_eq_true rfl⟩))⟩
set_option maxRecDepth 20000 in
theorem xce_16_104 : xCok 16 (104, 2, mX12_judged, 5) := ⟨xok_mX12_judged, by decide +kernel, Or.inr (Or.inr (Or.inl ⟨rfl, xw (xc9 _ (List.mem_of_getElem? (i := 140) rfl)) rfl, xw (xc9 _ (List.mem_of_getElem? (i := 141) rfl)) rfl, xw (xc9 _ (List.mem_of_getElem? (i := 142) rfl)) rfl, Nat.le_of_ble_eq_true rfl⟩))⟩
set_option maxRecDepth 20000 in
theorem xce_16_105 : xCok 16 (105, 2, mX11_trusty, 3) := ⟨xok_mX11_trusty, by decide +kernel, Or.inr (Or.inr (Or.inl ⟨rfl, xw (xc5 _ (List.mem_of_getElem? (i := 229) rfl)) rfl, xw (xc5 _ (List.mem_of_getElem? (i := 230) rfl)) rfl, xw (xc5 _ (List.mem_of_getElem? (i := 231) rfl)) rfl, Nat.le_of_ble_eq_true rfl⟩))⟩
set_option maxRecDepth 20000 in
theorem xce_16_108 : xCok 16 (108, 2, mX12_trusty, 3) := ⟨xok_mX12_trusty, by decide +kernel, Or.inr (Or.inr (Or.inl ⟨rfl, xw (xc9 _ (List.mem_of_getElem? (i := 156) rfl)) rfl, xw (xc9 _ (List.mem_of_getElem? (i := 157) rfl)) rfl, xw (xc9 _ (List.mem_of_getElem? (i := 158) rfl)) rfl, Nat.le_of_ble_eq_true rfl⟩))⟩
set_option maxRecDepth 20000 in
theorem xce_16_109 : xCok 16 (109, 2, mX11_odds, 4) := ⟨xok_mX11_odds, by decide +kernel, Or.inr (Or.inr (Or.inl ⟨rfl, xw (xc6 _ (List.mem_of_getElem? (i := 20) rfl)) rfl, xw (xc6 _ (List.mem_of_getElem? (i := 21) rfl)) rfl, xw (xc6 _ (List.mem_of_getElem? (i := 22) rfl)) rfl, Nat.le_of_ble_eq_true rfl⟩))⟩
set_option maxRecDepth 20000 in
theorem xce_16_112 : xCok 16 (112, 2, mX12_odds, 4) := ⟨xok_mX12_odds, by decide +kernel, Or.inr (Or.inr (Or.inl ⟨rfl, xw (xc9 _ (List.mem_of_getElem? (i := 176) rfl)) rfl, xw (xc9 _ (List.mem_of_getElem? (i := 177) rfl)) rfl, xw (xc9 _ (List.mem_of_getElem? (i := 178) rfl)) rfl, Nat.le_of_ble_eq_true rfl⟩))⟩
set_option maxRecDepth 20000 in
theorem xce_16_113 : xCok 16 (113, 2, mX11_evenest, 1) := ⟨xok_mX11_evenest, by decide +kernel, Or.inr (Or.inr (Or.inl ⟨rfl, xw (xc6 _ (List.mem_of_getElem? (i := 28) rfl)) rfl, xw (xc6 _ (List.mem_of_getElem? (i := 29) rfl)) rfl, xw (xc6 _ (List.mem_of_getElem? (i := 30) rfl)) rfl, Nat.le_of_ble_eq_true rfl⟩))⟩
set_option maxRecDepth 20000 in
theorem xce_16_116 : xCok 16 (116, 2, mX12_evenest, 1) := ⟨xok_mX12_evenest, by decide +kernel, Or.inr (Or.inr (Or.inl ⟨rfl, xw (xc9 _ (List.mem_of_getElem? (i := 180) rfl)) rfl, xw (xc9 _ (List.mem_of_getElem? (i := 181) rfl)) rfl, xw (xc9 _ (List.mem_of_getElem? (i := 182) rfl)) rfl, Nat.le_of_ble_eq_true rfl⟩))⟩
set_option maxRecDepth 20000 in
theorem xce_16_117 : xCok 16 (117, 2, mX11_covers, 1) := ⟨xok_mX11_covers, by decide +kernel, Or.inr (Or.inr (Or.inl ⟨rfl, xw (xc6 _ (List.mem_of_getElem? (i := 37) rfl)) rfl, xw (xc6 _ (List.mem_of_getElem? (i := 38) rfl)) rfl, xw (xc6 _ (List.mem_of_getElem? (i := 39) rfl)) rfl, Nat.le_of_ble_eq_true rfl⟩))⟩
set_option maxRecDepth 20000 in
theorem xce_16_120 : xCok 16 (120, 2, mX12_covers, 1) := ⟨xok_mX12_covers, by decide +kernel, Or.inr (Or.inr (Or.inl ⟨rfl, xw (xc9 _ (List.mem_of_getElem? (i := 184) rfl)) rfl, xw (xc9 _ (List.mem_of_getElem? (i := 185) rfl)) rfl, xw (xc9 _ (List.mem_of_getElem? (i := 186) rfl)) rfl, Nat.le_of_ble_eq_true rfl⟩))⟩
set_option maxRecDepth 20000 in
theorem xce_16_121 : xCok 16 (121, 2, mX11_sits, 3) := ⟨xok_mX11_sits, by decide +kernel, Or.inr (Or.inr (Or.inl ⟨rfl, xw (xc6 _ (List.mem_of_getElem? (i := 46) rfl)) rfl, xw (xc6 _ (List.mem_of_getElem? (i := 47) rfl)) rfl, xw (xc6 _ (List.mem_of_getElem? (i := 48) rfl)) rfl, Nat.le_of_ble_eq_true rfl⟩))⟩
set_option maxRecDepth 20000 in
theorem xce_16_124 : xCok 16 (124, 2, mX12_sits, 3) := ⟨xok_mX12_sits, by decide +kernel, Or.inr (Or.inr (Or.inl ⟨rfl, xw (xc9 _ (List.mem_of_getElem? (i := 196) rfl)) rfl, xw (xc9 _ (List.mem_of_getElem? (i := 197) rfl)) rfl, xw (xc9 _ (List.mem_of_getElem? (i := 198) rfl)) rfl, Nat.le_of_ble_eq_true rfl⟩))⟩
set_option maxRecDepth 20000 in
theorem xce_16_125 : xCok 16 (125, 2, mX11_led, 3) := ⟨xok_mX11_led, by decide +kernel, Or.inr (Or.inr (Or.inl ⟨rfl, xw (xc6 _ (List.mem_of_getElem? (i := 54) rfl)) rfl, xw (xc6 _ (List.mem_of_getElem? (i := 55) rfl)) rfl, xw (xc6 _ (List.mem_of_getElem? (i := 56) rfl)) rfl, Nat.le_of_ble_eq_true rfl⟩))⟩
set_option maxRecDepth 20000 in
theorem xce_16_128 : xCok 16 (128, 2, mX12_led, 3) := ⟨xok_mX12_led, by decide +kernel, Or.inr (Or.inr (Or.inl ⟨rfl, xw (xc9 _ (List.mem_of_getElem? (i := 204) rfl)) rfl, xw (xc9 _ (List.mem_of_getElem? (i := 205) rfl)) rfl, xw (xc9 _ (List.mem_of_getElem? (i := 206) rfl)) rfl, Nat.le_of_ble_eq_true rfl⟩))⟩
set_option maxRecDepth 20000 in
theorem xce_16_129 : xCok 16 (129, 2, mX11_doubts, 1) := ⟨xok_mX11_doubts, by decide +kernel, Or.inr (Or.inr (Or.inl ⟨rfl, xw (xc6 _ (List.mem_of_getElem? (i := 62) rfl)) rfl, xw (xc6 _ (List.mem_of_getElem? (i := 63) rfl)) rfl, xw (xc6 _ (List.mem_of_getElem? (i := 64) rfl)) rfl, Nat.le_of_ble_eq_true rfl⟩))⟩
set_option maxRecDepth 20000 in
theorem xce_16_132 : xCok 16 (132, 2, mX12_doubts, 1) := ⟨xok_mX12_doubts, by decide +kernel, Or.inr (Or.inr (Or.inl ⟨rfl, xw (xc9 _ (List.mem_of_getElem? (i := 208) rfl)) rfl, xw (xc9 _ (List.mem_of_getElem? (i := 209) rfl)) rfl, xw (xc9 _ (List.mem_of_getElem? (i := 210) rfl)) rfl, Nat.le_of_ble_eq_true rfl⟩))⟩
set_option maxRecDepth 20000 in
theorem xce_16_133 : xCok 16 (133, 2, mX11_twins, 2) := ⟨xok_mX11_twins, by decide +kernel, Or.inr (Or.inr (Or.inl ⟨rfl, xw (xc6 _ (List.mem_of_getElem? (i := 71) rfl)) rfl, xw (xc6 _ (List.mem_of_getElem? (i := 72) rfl)) rfl, xw (xc6 _ (List.mem_of_getElem? (i := 73) rfl)) rfl, Nat.le_of_ble_eq_true rfl⟩))⟩
set_option maxRecDepth 20000 in
theorem xce_16_136 : xCok 16 (136, 2, mX12_twins, 2) := ⟨xok_mX12_twins, by decide +kernel, Or.inr (Or.inr (Or.inl ⟨rfl, xw (xc9 _ (List.mem_of_getElem? (i := 200) rfl)) rfl, xw (xc9 _ (List.mem_of_getElem? (i := 201) rfl)) rfl, xw (xc9 _ (List.mem_of_getElem? (i := 202) rfl)) rfl, Nat.le_of_ble_eq_true rfl⟩))⟩
set_option maxRecDepth 20000 in
theorem xce_16_137 : xCok 16 (137, 2, mX11_ladder, 2) := ⟨xok_mX11_ladder, by decide +kernel, Or.inr (Or.inr (Or.inl ⟨rfl, xw (xc6 _ (List.mem_of_getElem? (i := 75) rfl)) rfl, xw (xc6 _ (List.mem_of_getElem? (i := 76) rfl)) rfl, xw (xc6 _ (List.mem_of_getElem? (i := 77) rfl)) rfl, Nat.le_of_ble_eq_true rfl⟩))⟩
set_option maxRecDepth 20000 in
theorem xce_16_141 : xCok 16 (141, 2, mX12_ladder, 2) := ⟨xok_mX12_ladder, by decide +kernel, Or.inr (Or.inr (Or.inl ⟨rfl, xw (xc9 _ (List.mem_of_getElem? (i := 216) rfl)) rfl, xw (xc9 _ (List.mem_of_getElem? (i := 217) rfl)) rfl, xw (xc9 _ (List.mem_of_getElem? (i := 218) rfl)) rfl, Nat.le_of_ble_eq_true rfl⟩))⟩
set_option maxRecDepth 20000 in
theorem xce_16_142 : xCok 16 (142, 2, mX11_bound, 1) := ⟨xok_mX11_bound, by decide +kernel, Or.inr (Or.inr (Or.inl ⟨rfl, xw (xc6 _ (List.mem_of_getElem? (i := 88) rfl)) rfl, xw (xc6 _ (List.mem_of_getElem? (i := 89) rfl)) rfl, xw (xc6 _ (List.mem_of_getElem? (i := 90) rfl)) rfl, Nat.le_of_ble_eq_true rfl⟩))⟩
set_option maxRecDepth 20000 in
theorem xce_16_145 : xCok 16 (145, 2, mX12_bound, 1) := ⟨xok_mX12_bound, by decide +kernel, Or.inr (Or.inr (Or.inl ⟨rfl, xw (xc9 _ (List.mem_of_getElem? (i := 224) rfl)) rfl, xw (xc9 _ (List.mem_of_getElem? (i := 225) rfl)) rfl, xw (xc9 _ (List.mem_of_getElem? (i := 226) rfl)) rfl, Nat.le_of_ble_eq_true rfl⟩))⟩
set_option maxRecDepth 20000 in
theorem xce_16_146 : xCok 16 (146, 2, mX11_swapped, 2) := ⟨xok_mX11_swapped, by decide +kernel, Or.inr (Or.inr (Or.inl ⟨rfl, xw (xc6 _ (List.mem_of_getElem? (i := 93) rfl)) rfl, xw (xc6 _ (List.mem_of_getElem? (i := 94) rfl)) rfl, xw (xc6 _ (List.mem_of_getElem? (i := 95) rfl)) rfl, Nat.le_of_ble_eq_true rfl⟩))⟩
set_option maxRecDepth 20000 in
theorem xce_16_149 : xCok 16 (149, 2, mX12_swapped, 2) := ⟨xok_mX12_swapped, by decide +kernel, Or.inr (Or.inr (Or.inl ⟨rfl, xw (xc9 _ (List.mem_of_getElem? (i := 228) rfl)) rfl, xw (xc9 _ (List.mem_of_getElem? (i := 229) rfl)) rfl, xw (xc9 _ (List.mem_of_getElem? (i := 230) rfl)) rfl, Nat.le_of_ble_eq_true rfl⟩))⟩
set_option maxRecDepth 20000 in
theorem xce_16_150 : xCok 16 (150, 2, mX11_clerk, 1) := ⟨xok_mX11_clerk, by decide +kernel, Or.inr (Or.inr (Or.inl ⟨rfl, xw (xc6 _ (List.mem_of_getElem? (i := 102) rfl)) rfl, xw (xc6 _ (List.mem_of_getElem? (i := 103) rfl)) rfl, xw (xc6 _ (List.mem_of_getElem? (i := 104) rfl)) rfl, Nat.le_of_ble_eq_true rfl⟩))⟩
set_option maxRecDepth 20000 in
theorem xce_16_153 : xCok 16 (153, 2, mX12_clerk, 1) := ⟨xok_mX12_clerk, by decide +kernel, Or.inr (Or.inr (Or.inl ⟨rfl, xw (xc8 _ (List.mem_of_getElem? (i := 162) rfl)) rfl, xw (xc8 _ (List.mem_of_getElem? (i := 163) rfl)) rfl, xw (xc8 _ (List.mem_of_getElem? (i := 164) rfl)) rfl, Nat.le_of_ble_eq_true rfl⟩))⟩
set_option maxRecDepth 20000 in
theorem xce_16_154 : xCok 16 (154, 2, mX11_weights, 1) := ⟨xok_mX11_weights, by decide +kernel, Or.inr (Or.inr (Or.inl ⟨rfl, xw (xc6 _ (List.mem_of_getElem? (i := 107) rfl)) rfl, xw (xc6 _ (List.mem_of_getElem? (i := 108) rfl)) rfl, xw (xc6 _ (List.mem_of_getElem? (i := 109) rfl)) rfl, Nat.le_of_ble_eq_true rfl⟩))⟩
set_option maxRecDepth 20000 in
theorem xce_16_157 : xCok 16 (157, 2, mX12_weights, 1) := ⟨xok_mX12_weights, by decide +kernel, Or.inr (Or.inr (Or.inl ⟨rfl, xw (xc10 _ (List.mem_of_getElem? (i := 0) rfl)) rfl, xw (xc10 _ (List.mem_of_getElem? (i := 1) rfl)) rfl, xw (xc10 _ (List.mem_of_getElem? (i := 2) rfl)) rfl, Nat.le_of_ble_eq_true rfl⟩))⟩
set_option maxRecDepth 20000 in
theorem xce_16_158 : xCok 16 (158, 2, mX11_weight, 3) := ⟨xok_mX11_weight, by decide +kernel, Or.inr (Or.inr (Or.inl ⟨rfl, xw (xc6 _ (List.mem_of_getElem? (i := 175) rfl)) rfl, xw (xc6 _ (List.mem_of_getElem? (i := 176) rfl)) rfl, xw (xc6 _ (List.mem_of_getElem? (i := 177) rfl)) rfl, Nat.le_of_ble_eq_true rfl⟩))⟩
set_option maxRecDepth 20000 in
theorem xce_16_161 : xCok 16 (161, 2, mX12_weight, 3) := ⟨xok_mX12_weight, by decide +kernel, Or.inr (Or.inr (Or.inl ⟨rfl, xw (xc10 _ (List.mem_of_getElem? (i := 24) rfl)) rfl, xw (xc10 _ (List.mem_of_getElem? (i := 25) rfl)) rfl, xw (xc10 _ (List.mem_of_getElem? (i := 26) rfl)) rfl, Nat.le_of_ble_eq_true rfl⟩))⟩
set_option maxRecDepth 20000 in
theorem xce_16_162 : xCok 16 (162, 2, mX11_could, 3) := ⟨xok_mX11_could, by decide +kernel, Or.inr (Or.inr (Or.inl ⟨rfl, xw (xc6 _ (List.mem_of_getElem? (i := 183) rfl)) rfl, xw (xc6 _ (List.mem_of_getElem? (i := 184) rfl)) rfl, xw (xc6 _ (List.mem_of_getElem? (i := 185) rfl)) rfl, Nat.le_of_ble_eq_true rfl⟩))⟩
set_option maxRecDepth 20000 in
theorem xce_16_165 : xCok 16 (165, 2, mX12_could, 3) := ⟨xok_mX12_could, by decide +kernel, Or.inr (Or.inr (Or.inl ⟨rfl, xw (xc10 _ (List.mem_of_getElem? (i := 28) rfl)) rfl, xw (xc10 _ (List.mem_of_getElem? (i := 29) rfl)) rfl, xw (xc10 _ (List.mem_of_getElem? (i := 30) rfl)) rfl, Nat.le_of_ble_eq_true rfl⟩))⟩
set_option maxRecDepth 20000 in
theorem xce_16_166 : xCok 16 (166, 2, mX11_stones, 2) := ⟨xok_mX11_stones, by decide +kernel, Or.inr (Or.inr (Or.inl ⟨rfl, xw (xc6 _ (List.mem_of_getElem? (i := 195) rfl)) rfl, xw (xc6 _ (List.mem_of_getElem? (i := 196) rfl)) rfl, xw (xc6 _ (List.mem_of_getElem? (i := 197) rfl)) rfl, Nat.le_of_ble_eq_true rfl⟩))⟩
set_option maxRecDepth 20000 in
theorem xce_16_170 : xCok 16 (170, 2, mX12_stones, 2) := ⟨xok_mX12_stones, by decide +kernel, Or.inr (Or.inr (Or.inl ⟨rfl, xw (xc10 _ (List.mem_of_getElem? (i := 32) rfl)) rfl, xw (xc10 _ (List.mem_of_getElem? (i := 33) rfl)) rfl, xw (xc10 _ (List.mem_of_getElem? (i := 34) rfl)) rfl, Nat.le_of_ble_eq_true rfl⟩))⟩
set_option maxRecDepth 20000 in
theorem xce_16_171 : xCok 16 (171, 2, mX11_heaps, 2) := ⟨xok_mX11_heaps, by decide +kernel, Or.inr (Or.inr (Or.inl ⟨rfl, xw (xc6 _ (List.mem_of_getElem? (i := 208) rfl)) rfl, xw (xc6 _ (List.mem_of_getElem? (i := 209) rfl)) rfl, xw (xc6 _ (List.mem_of_getElem? (i := 210) rfl)) rfl, Nat.le_of_ble_eq_true rfl⟩))⟩
set_option maxRecDepth 20000 in
theorem xce_16_174 : xCok 16 (174, 2, mX12_heaps, 2) := ⟨xok_mX12_heaps, by decide +kernel, Or.inr (Or.inr (Or.inl ⟨rfl, xw (xc10 _ (List.mem_of_getElem? (i := 48) rfl)) rfl, xw (xc10 _ (List.mem_of_getElem? (i := 49) rfl)) rfl, xw (xc10 _ (List.mem_of_getElem? (i := 50) rfl)) rfl, Nat.le_of_ble_eq_true rfl⟩))⟩
set_option maxRecDepth 20000 in
theorem xce_16_175 : xCok 16 (175, 2, mX11_lies, 1) := ⟨xok_mX11_lies, by decide +kernel, Or.inr (Or.inr (Or.inl ⟨rfl, xw (xc6 _ (List.mem_of_getElem? (i := 220) rfl)) rfl, xw (xc6 _ (List.mem_of_getElem? (i := 221) rfl)) rfl, xw (xc6 _ (List.mem_of_getElem? (i := 222) rfl)) rfl, Nat.le_of_ble_eq_true rfl⟩))⟩
set_option maxRecDepth 20000 in
theorem xce_16_178 : xCok 16 (178, 2, mX12_lies, 1) := ⟨xok_mX12_lies, by decide +kernel, Or.inr (Or.inr (Or.inl ⟨rfl, xw (xc8 _ (List.mem_of_getElem? (i := 206) rfl)) rfl, xw (xc8 _ (List.mem_of_getElem? (i := 207) rfl)) rfl, xw (xc8 _ (List.mem_of_getElem? (i := 208) rfl)) rfl, Nat.le_of_ble_eq_true rfl⟩))⟩
set_option maxRecDepth 20000 in
theorem xce_16_179 : xCok 16 (179, 2, mX11_image, 1) := ⟨xok_mX11_image, by decide +kernel, Or.inr (Or.inr (Or.inl ⟨rfl, xw (xc6 _ (List.mem_of_getElem? (i := 224) rfl)) rfl, xw (xc6 _ (List.mem_of_getElem? (i := 225) rfl)) rfl, xw (xc6 _ (List.mem_of_getElem? (i := 226) rfl)) rfl, Nat.le_of_ble_eq_true rfl⟩))⟩
set_option maxRecDepth 20000 in
theorem xce_16_182 : xCok 16 (182, 2, mX12_image, 1) := ⟨xok_mX12_image, by decide +kernel, Or.inr (Or.inr (Or.inl ⟨rfl, xw (xc10 _ (List.mem_of_getElem? (i := 56) rfl)) rfl, xw (xc10 _ (List.mem_of_getElem? (i := 57) rfl)) rfl, xw (xc10 _ (List.mem_of_getElem? (i := 58) rfl)) rfl, Nat.le_of_ble_eq_true rfl⟩))⟩
set_option maxRecDepth 20000 in
theorem xce_16_183 : xCok 16 (183, 2, mX11_back, 1) := ⟨xok_mX11_back, by decide +kernel, Or.inr (Or.inr (Or.inl ⟨rfl, xw (xc6 _ (List.mem_of_getElem? (i := 232) rfl)) rfl, xw (xc6 _ (List.mem_of_getElem? (i := 233) rfl)) rfl, xw (xc6 _ (List.mem_of_getElem? (i := 234) rfl)) rfl, Nat.le_of_ble_eq_true rfl⟩))⟩
set_option maxRecDepth 20000 in
theorem xce_16_186 : xCok 16 (186, 2, mX12_back, 1) := ⟨xok_mX12_back, by decide +kernel, Or.inr (Or.inr (Or.inl ⟨rfl, xw (xc10 _ (List.mem_of_getElem? (i := 60) rfl)) rfl, xw (xc10 _ (List.mem_of_getElem? (i := 61) rfl)) rfl, xw (xc10 _ (List.mem_of_getElem? (i := 62) rfl)) rfl, Nat.le_of_ble_eq_true rfl⟩))⟩
set_option maxRecDepth 20000 in
theorem xce_16_187 : xCok 16 (187, 2, mX11_about, 1) := ⟨xok_mX11_about, by decide +kernel, Or.inr (Or.inr (Or.inl ⟨rfl, xw (xc6 _ (List.mem_of_getElem? (i := 236) rfl)) rfl, xw (xc6 _ (List.mem_of_getElem? (i := 237) rfl)) rfl, xw (xc6 _ (List.mem_of_getElem? (i := 238) rfl)) rfl, Nat.le_of_ble_eq_true rfl⟩))⟩
set_option maxRecDepth 20000 in
theorem xce_16_190 : xCok 16 (190, 2, mX12_about, 1) := ⟨xok_mX12_about, by decide +kernel, Or.inr (Or.inr (Or.inl ⟨rfl, xw (xc10 _ (List.mem_of_getElem? (i := 64) rfl)) rfl, xw (xc10 _ (List.mem_of_getElem? (i := 65) rfl)) rfl, xw (xc10 _ (List.mem_of_getElem? (i := 66) rfl)) rfl, Nat.le_of_ble_eq_true rfl⟩))⟩
theorem xca_16 : ∀ e ∈ xCl16, xCok 16 e := List.forall_mem_cons.mpr ⟨xce_16_9, List.forall_mem_cons.mpr ⟨xce_16_12, List.forall_mem_cons.mpr ⟨xce_16_13, List.forall_mem_cons.mpr ⟨xce_16_17, List.forall_mem_cons.mpr ⟨xce_16_18, List.forall_mem_cons.mpr ⟨xce_16_22, List.forall_mem_cons.mpr ⟨xce_16_23, List.forall_mem_cons.mpr ⟨xce_16_27, List.forall_mem_cons.mpr ⟨xce_16_28, List.forall_mem_cons.mpr ⟨xce_16_31, List.forall_mem_cons.mpr ⟨xce_16_32, List.forall_mem_cons.mpr ⟨xce_16_36, List.forall_mem_cons.mpr ⟨xce_16_37, List.forall_mem_cons.mpr ⟨xce_16_41, List.forall_mem_cons.mpr ⟨xce_16_42, List.forall_mem_cons.mpr ⟨xce_16_45, List.forall_mem_cons.mpr ⟨xce_16_46, List.forall_mem_cons.mpr ⟨xce_16_49, List.forall_mem_cons.mpr ⟨xce_16_50, List.forall_mem_cons.mpr ⟨xce_16_54, List.forall_mem_cons.mpr ⟨xce_16_55, List.forall_mem_cons.mpr ⟨xce_16_58, List.forall_mem_cons.mpr ⟨xce_16_59, List.forall_mem_cons.mpr ⟨xce_16_62, List.forall_mem_cons.mpr ⟨xce_16_63, List.forall_mem_cons.mpr ⟨xce_16_66, List.forall_mem_cons.mpr ⟨xce_16_67, List.forall_mem_cons.mpr ⟨xce_16_71, List.forall_mem_cons.mpr ⟨xce_16_72, List.forall_mem_cons.mpr ⟨xce_16_75, List.forall_mem_cons.mpr ⟨xce_16_76, List.forall_mem_cons.mpr ⟨xce_16_79, List.forall_mem_cons.mpr ⟨xce_16_80, List.forall_mem_cons.mpr ⟨xce_16_83, List.forall_mem_cons.mpr ⟨xce_16_84, List.forall_mem_cons.mpr ⟨xce_16_87, List.forall_mem_cons.mpr ⟨xce_16_88, List.forall_mem_cons.mpr ⟨xce_16_92, List.forall_mem_cons.mpr ⟨xce_16_93, List.forall_mem_cons.mpr ⟨xce_16_96, List.forall_mem_cons.mpr ⟨xce_16_97, List.forall_mem_cons.mpr ⟨xce_16_100, List.forall_mem_cons.mpr ⟨xce_16_101, List.forall_mem_cons.mpr ⟨xce_16_104, List.forall_mem_cons.mpr ⟨xce_16_105, List.forall_mem_cons.mpr ⟨xce_16_108, List.forall_mem_cons.mpr ⟨xce_16_109, List.forall_mem_cons.mpr ⟨xce_16_112, List.forall_mem_cons.mpr ⟨xce_16_113, List.forall_mem_cons.mpr ⟨xce_16_116, List.forall_mem_cons.mpr ⟨xce_16_117, List.forall_mem_cons.mpr ⟨xce_16_120, List.forall_mem_cons.mpr ⟨xce_16_121, List.forall_mem_cons.mpr ⟨xce_16_124, List.forall_mem_cons.mpr ⟨xce_16_125, List.forall_mem_cons.mpr ⟨xce_16_128, List.forall_mem_cons.mpr ⟨xce_16_129, List.forall_mem_cons.mpr ⟨xce_16_132, List.forall_mem_cons.mpr ⟨xce_16_133, List.forall_mem_cons.mpr ⟨xce_16_136, List.forall_mem_cons.mpr ⟨xce_16_137, List.forall_mem_cons.mpr ⟨xce_16_141, List.forall_mem_cons.mpr ⟨xce_16_142, List.forall_mem_cons.mpr ⟨xce_16_145, List.forall_mem_cons.mpr ⟨xce_16_146, List.forall_mem_cons.mpr ⟨xce_16_149, List.forall_mem_cons.mpr ⟨xce_16_150, List.forall_mem_cons.mpr ⟨xce_16_153, List.forall_mem_cons.mpr ⟨xce_16_154, List.forall_mem_cons.mpr ⟨xce_16_157, List.forall_mem_cons.mpr ⟨xce_16_158, List.forall_mem_cons.mpr ⟨xce_16_161, List.forall_mem_cons.mpr ⟨xce_16_162, List.forall_mem_cons.mpr ⟨xce_16_165, List.forall_mem_cons.mpr ⟨xce_16_166, List.forall_mem_cons.mpr ⟨xce_16_170, List.forall_mem_cons.mpr ⟨xce_16_171, List.forall_mem_cons.mpr ⟨xce_16_174, List.forall_mem_cons.mpr ⟨xce_16_175, List.forall_mem_cons.mpr ⟨xce_16_178, List.forall_mem_cons.mpr ⟨xce_16_179, List.forall_mem_cons.mpr ⟨xce_16_182, List.forall_mem_cons.mpr ⟨xce_16_183, List.forall_mem_cons.mpr ⟨xce_16_186, List.forall_mem_cons.mpr ⟨xce_16_187, List.forall_mem_cons.mpr ⟨xce_16_190, fun _ h => absurd h List.not_mem_nil⟩⟩⟩⟩⟩⟩⟩⟩⟩⟩⟩⟩⟩⟩⟩⟩⟩⟩⟩⟩⟩⟩⟩⟩⟩⟩⟩⟩⟩⟩⟩⟩⟩⟩⟩⟩⟩⟩⟩⟩⟩⟩⟩⟩⟩⟩⟩⟩⟩⟩⟩⟩⟩⟩⟩⟩⟩⟩⟩⟩⟩⟩⟩⟩⟩⟩⟩⟩⟩⟩⟩⟩⟩⟩⟩⟩⟩⟩⟩⟩⟩⟩⟩⟩⟩⟩
theorem xca (own : Nat) : ∀ e ∈ xClL own, xCok own e := by
  unfold xClL
  split
  · exact xca_0
  · exact xca_1
  · exact xca_2
  · exact xca_3
  · exact xca_4
  · exact xca_5
  · exact xca_6
  · exact xca_7
  · exact xca_8
  · exact xca_9
  · exact xca_10
  · exact xca_11
  · exact xca_12
  · exact xca_16
  · exact fun _ h => absurd h List.not_mem_nil
theorem xCl_ok {own idx kd n : Nat} {y : xMI} (h : xCl own idx = some (kd, y, n)) : xCok own (idx, kd, y, n) := by
  unfold xCl at h
  split at h
  · rename_i e he
    have h1 := xca own e (List.mem_of_find?_eq_some he)
    have h2 := List.find?_some he
    simp only [beq_iff_eq] at h2
    obtain ⟨e1, e2⟩ := e
    cases h
    cases h2
    exact h1
  · cases h
set_option maxRecDepth 20000 in
theorem xPk_words : Cond.methodLink (xNm 6) 11 yX6_packed ∈ xws ∧ Cond.static yX6_packed ∈ xws ∧ Cond.initialized RX6 ∈ xws ∧ Cond.code mX6_packed.1 mX6_packed.2.1 mX6_packed.2.2.1 mX6_packed.2.2.2.1 ∈ xws := ⟨xw (xc1 _ (List.mem_of_getElem? (i := 114) rfl)) rfl, xw (xc1 _ (List.mem_of_getElem? (i := 115) rfl)) rfl, xw (xc1 _ (List.mem_of_getElem? (i := 3) rfl)) rfl, xw (xc1 _ (List.mem_of_getElem? (i := 116) rfl)) rfl⟩
theorem xown : ∀ c, c < 12 → ∀ k, k < xNf c → (xTT c k).1 = xNm c := by
  intro c hc
  match c, hc with
  | 0, _ => exact by decide +kernel
  | 1, _ => exact by decide +kernel
  | 2, _ => exact by decide +kernel
  | 3, _ => exact by decide +kernel
  | 4, _ => exact by decide +kernel
  | 5, _ => exact by decide +kernel
  | 6, _ => exact by decide +kernel
  | 7, _ => exact by decide +kernel
  | 8, _ => exact by decide +kernel
  | 9, _ => exact by decide +kernel
  | 10, _ => exact by decide +kernel
  | 11, _ => exact by decide +kernel
  | c + 12, hc => exact absurd hc (by omega)
set_option maxRecDepth 20000 in
theorem xAC {ty : FieldType} (h : xTyOk ty = true) : Cond.arrayClass ty ∈ xws := by
  cases ty <;> simp [xTyOk] at h
  · exact xw (xc1 _ (List.mem_of_getElem? (i := 104) rfl)) rfl
  · exact xw (xc1 _ (List.mem_of_getElem? (i := 106) rfl)) rfl
  · exact xw (xc1 _ (List.mem_of_getElem? (i := 105) rfl)) rfl
  · exact xw (xc8 _ (List.mem_of_getElem? (i := 53) rfl)) rfl
set_option maxRecDepth 20000 in
theorem xAOw : Cond.arrayOver (.object RX0) ∈ lw_tbl ∧ Cond.classLink (xNm 10) 34 RX0 ∈ xws := ⟨xc2 _ (List.mem_of_getElem? (i := 29) rfl), xw (xc1 _ (List.mem_of_getElem? (i := 212) rfl)) rfl⟩
