/-! WHAT BOTH SIDES HOLD, through every call -/
section ST
variable {g g' : xSt} {N n β : Nat} {T B : yT} {X : Nat → yT} {a1 a2 a3 a4 a5 : Int32}
theorem own_of (h : zOw g g') (o : ∀ j, j < 7 → xL g 21 j = zOwn j) : ∀ j, j < 7 → xL g' 21 j = zOwn j := fun j hj => (h j).trans (o j hj)
theorem Cx_of (W : xWf g) (a : I_town g β T) (b : I_book g (T 0 0) B) (c : I_orders g (T 0 0) (T 0 1)) : Cx g β T B := ⟨xtw W, a, b, c⟩
/-- the store as it was -/
theorem st_0 {O : xSt → Option (Bool × xSt)} (h : O g = some (true, g)) (I : zInv N g) : ∃ g', O g = some (true, g') ∧ zInv (N + 1) g' := by
  obtain ⟨β, T, B, X, h1, h2, h3, h4, h5, h6, h7, h8, h9, h10⟩ := I
  exact ⟨g, h, β, T, B, X, h1, h2, h3, h4, h5, h6, h7, h8, h9.eq (Nat.le_succ N) (zSame.refl g), h10⟩
/-- scratch cells and the shelf -/
theorem st_S {O : xSt → Option (Bool × xSt)} (W : xWf g) (I : zInv N g) (h : ∀ β T B, Cx g β T B → I_shelf g → ∃ g', O g = some (true, g') ∧ yAg dAS g g' ∧ I_shelf g') (k : ∀ g', O g = some (true, g') → zSame g g') (w : ∀ g', O g = some (true, g') → zOw g g') : ∃ g', O g = some (true, g') ∧ zInv (N + 1) g' := by
  obtain ⟨β, T, B, X, h1, h2, h3, h4, h5, h6, h7, h8, h9, h10⟩ := I
  have C := Cx_of W h3 h4 h5
  obtain ⟨g', e, y, s⟩ := h β T B C h6
  obtain ⟨-, c2, c3, c4⟩ := C.as y
  exact ⟨g', e, β, T, B, X, h1.ag y (fun o k m => dAS_no (by simp only [List.mem_cons, List.not_mem_nil, or_false] at m; omega)) (dAS_no (by omega)) (dAS_no (by omega)), h2.ag y (dAS_no (by omega)) (dAS_no (by omega)) (dAS_no (by omega)) (dAS_no (by omega)), c2, c3, c4, s, h7.aS y, h8.ag y (fun o k x z => dAS_no (by omega)) (fun o k m => dAS_no (by simp only [List.mem_cons, List.not_mem_nil, or_false] at m; omega)), h9.eq (Nat.le_succ N) (k g' e), own_of (w g' e) h10⟩
theorem dASG_no {o k : Nat} (h : ¬ (98 ≤ o ∧ o ≤ 110)) (h2 : (o ≤ 68 ∨ o = 70 ∨ o = 71 ∨ (o = 69 ∧ k < 5) ∨ (76 ≤ o ∧ o ≤ 87) ∨ (98 ≤ o ∧ o ≤ 110) ∨ (114 ≤ o ∧ o ≤ 134) ∨ (136 ≤ o ∧ o ≤ 143) ∨ 174 ≤ o ∨ (o = 113 ∧ (k ≤ 52 ∨ (55 ≤ k ∧ k ≤ 58) ∨ (60 ≤ k ∧ k ≤ 69) ∨ 73 ≤ k)))) : ¬ dASG o k := fun z => z.elim (dAS_no h2) h
/-- the guesses' memory too -/
theorem st_G {O : xSt → Option (Bool × xSt)} (W : xWf g) (I : zInv N g) (h : ∀ β T B, Cx g β T B → I_shelf g → I_guess g → ∃ g', O g = some (true, g') ∧ yAg dASG g g' ∧ I_shelf g' ∧ I_guess g') (k : ∀ g', O g = some (true, g') → zSame g g') (w : ∀ g', O g = some (true, g') → zOw g g') : ∃ g', O g = some (true, g') ∧ zInv (N + 1) g' := by
  obtain ⟨β, T, B, X, h1, h2, h3, h4, h5, h6, h7, h8, h9, h10⟩ := I
  have C := Cx_of W h3 h4 h5
  obtain ⟨g', e, y, s, q⟩ := h β T B C h6 h7
  obtain ⟨-, c2, c3, c4⟩ := C.asg y
  exact ⟨g', e, β, T, B, X, h1.ag y (fun o k m => by simp only [List.mem_cons, List.not_mem_nil, or_false] at m; exact dASG_no (by omega) (by omega)) (dASG_no (by omega) (by omega)) (dASG_no (by omega) (by omega)), h2.ag y (dASG_no (by omega) (by omega)) (dASG_no (by omega) (by omega)) (dASG_no (by omega) (by omega)) (dASG_no (by omega) (by omega)), c2, c3, c4, s, q, h8.ag y (fun o k x z => dASG_no (by omega) (by omega)) (fun o k m => by simp only [List.mem_cons, List.not_mem_nil, or_false] at m; exact dASG_no (by omega) (by omega)), h9.eq (Nat.le_succ N) (k g' e), own_of (w g' e) h10⟩
theorem dSS_nq {o k : Nat} (h : o ≤ 68 ∨ (98 ≤ o ∧ o ≤ 112) ∨ o = 114 ∨ 174 ≤ o ∨ (o = 113 ∧ k ≤ 52)) : ¬ dSS o k := by unfold dSS dA; omega
/-- the search -/
theorem st_Q {O : xSt → Option (Bool × xSt)} (W : xWf g) (I : zInv N g) (h : ∀ β T B, Cx g β T B → I_search N g → ∃ g', O g = some (true, g') ∧ yAg dSS g g' ∧ I_search (N + 1) g') (w : ∀ g', O g = some (true, g') → zOw g g') : ∃ g', O g = some (true, g') ∧ zInv (N + 1) g' := by
  obtain ⟨β, T, B, X, h1, h2, h3, h4, h5, h6, h7, h8, h9, h10⟩ := I
  have C := Cx_of W h3 h4 h5
  obtain ⟨g', e, y, q⟩ := h β T B C h9
  obtain ⟨-, c2, c3, c4⟩ := C.ss y
  exact ⟨g', e, β, T, B, X, h1.ag y (fun o k m => dSS_nq (by simp only [List.mem_cons, List.not_mem_nil, or_false] at m; omega)) (dSS_nq (by omega)) (dSS_nq (by omega)), h2.ag y (dSS_nq (by omega)) (dSS_nq (by omega)) (dSS_nq (by omega)) (dSS_nq (by omega)), c2, c3, c4, h6.ss y, h7.ag y (fun o k x z => dSS_nq (by omega)), h8.ag y (fun o k x z => dSS_nq (by omega)) (fun o k m => dSS_nq (by simp only [List.mem_cons, List.not_mem_nil, or_false] at m; omega)), q, own_of (w g' e) h10⟩
/-- the book's cells alone -/
def dBq (o k : Nat) : Prop := (o = 32 ∧ k < 4) ∨ (33 ≤ o ∧ o ≤ 40) ∨ (136 ≤ o ∧ o ≤ 144) ∨ (o = 113 ∧ 44 ≤ k ∧ k ≤ 47)
theorem st_B {O : xSt → Option (Bool × xSt)} (W : xWf g) (I : zInv N g) (h : ∀ β T B X, I_town g β T → I_book g (T 0 0) B → I_boxes g (T 0 0) X → ∃ g' B', O g = some (true, g') ∧ I_book g' (T 0 0) B' ∧ yAg dBq g g') (k : ∀ g', O g = some (true, g') → zSame g g') (w : ∀ g', O g = some (true, g') → zOw g g') : ∃ g', O g = some (true, g') ∧ zInv (N + 1) g' := by
  obtain ⟨β, T, B, X, h1, h2, h3, h4, h5, h6, h7, h8, h9, h10⟩ := I
  have t := xtw_lt (xtw W)
  obtain ⟨g', B', e, b, y⟩ := h β T B X h3 h4 h8
  exact ⟨g', e, β, T, B', X, h1.ag y (fun o k m => by simp only [List.mem_cons, List.not_mem_nil, or_false] at m; unfold dBq; omega) (by unfold dBq; omega) (by unfold dBq; omega), h2.ag y (by unfold dBq; omega) (by unfold dBq; omega) (by unfold dBq; omega) (by unfold dBq; omega), h3.ag W y (fun j k hj => by unfold dBq; omega) (fun o k m => by simp only [List.mem_cons, List.not_mem_nil, or_false] at m; unfold dBq; omega) (by unfold dBq; omega), b, h5.ag y (by unfold dBq; omega) (by unfold dBq; omega) (by unfold dBq; omega) (fun o k m => by simp only [List.mem_cons, List.not_mem_nil, or_false] at m; unfold dBq; omega), h6.ag y (fun o k m => by simp only [List.mem_cons, List.not_mem_nil, or_false] at m; unfold dBq; omega) (by unfold dBq; omega) (by unfold dBq; omega), h7.ag y (fun o k x z => by unfold dBq; omega), h8.ag y (fun o k x z => by unfold dBq; omega) (fun o k m => by simp only [List.mem_cons, List.not_mem_nil, or_false] at m; unfold dBq; omega), h9.eq (Nat.le_succ N) (k g' e), own_of (w g' e) h10⟩
/-- the tape -/
def dTq (o k : Nat) : Prop := o = 1 ∨ o = 114 ∨ (o = 0 ∧ k = 1) ∨ (o = 113 ∧ k = 2)
theorem st_T {O : xSt → Option (Bool × xSt)} (W : xWf g) (I : zInv N g) (h : I_tape g → ∃ g', O g = some (true, g') ∧ I_tape g' ∧ yAg dTq g g') (k : ∀ g', O g = some (true, g') → zSame g g') (w : ∀ g', O g = some (true, g') → zOw g g') : ∃ g', O g = some (true, g') ∧ zInv (N + 1) g' := by
  obtain ⟨β, T, B, X, h1, h2, h3, h4, h5, h6, h7, h8, h9, h10⟩ := I
  have t := xtw W
  have t : tw g = 2 ∨ tw g = 11 := t
  obtain ⟨g', e, b, y⟩ := h h1
  exact ⟨g', e, β, T, B, X, b, h2.ag y (by unfold dTq; omega) (by unfold dTq; omega) (by unfold dTq; omega) (by unfold dTq; omega), h3.ag W y (fun j k hj => by unfold dTq; omega) (fun o k m => by simp only [List.mem_cons, List.not_mem_nil, or_false] at m; unfold dTq; omega) (by unfold dTq; omega), h4.ag y (fun j k _ _ => by unfold dTq; omega) (fun o k m => by simp only [List.mem_cons, List.not_mem_nil, or_false] at m; unfold dTq; omega) (by unfold dTq; omega) (by unfold dTq; omega) (by unfold dTq; omega) (by unfold dTq; omega), h5.ag y (by unfold dTq; omega) (by unfold dTq; omega) (by unfold dTq; omega) (fun o k m => by simp only [List.mem_cons, List.not_mem_nil, or_false] at m; unfold dTq; omega), h6.ag y (fun o k m => by simp only [List.mem_cons, List.not_mem_nil, or_false] at m; unfold dTq; omega) (by unfold dTq; omega) (by unfold dTq; omega), h7.ag y (fun o k x z => by unfold dTq; omega), h8.ag y (fun o k x z => by unfold dTq; omega) (fun o k m => by simp only [List.mem_cons, List.not_mem_nil, or_false] at m; unfold dTq; omega), h9.eq (Nat.le_succ N) (k g' e), own_of (w g' e) h10⟩
/-- the boxes -/
theorem st_X {O : xSt → Option (Bool × xSt)} (W : xWf g) (I : zInv N g) (h : ∀ β T B X, I_town g β T → I_book g (T 0 0) B → I_boxes g (T 0 0) X → ∃ g' X', O g = some (true, g') ∧ I_boxes g' (T 0 0) X' ∧ yAg dIm g g') (k : ∀ g', O g = some (true, g') → zSame g g') (w : ∀ g', O g = some (true, g') → zOw g g') : ∃ g', O g = some (true, g') ∧ zInv (N + 1) g' := by
  obtain ⟨β, T, B, X, h1, h2, h3, h4, h5, h6, h7, h8, h9, h10⟩ := I
  have t := xtw_lt (xtw W)
  obtain ⟨g', X', e, b, y⟩ := h β T B X h3 h4 h8
  exact ⟨g', e, β, T, B, X', h1.ag y (fun o k m => by simp only [List.mem_cons, List.not_mem_nil, or_false] at m; unfold dIm; omega) (by unfold dIm; omega) (by unfold dIm; omega), h2.ag y (by unfold dIm; omega) (by unfold dIm; omega) (by unfold dIm; omega) (by unfold dIm; omega), h3.ag W y (fun j k hj => by unfold dIm; omega) (fun o k m => by simp only [List.mem_cons, List.not_mem_nil, or_false] at m; unfold dIm; omega) (by unfold dIm; omega), h4.ag y (fun j k _ _ => by unfold dIm; omega) (fun o k m => by simp only [List.mem_cons, List.not_mem_nil, or_false] at m; unfold dIm; omega) (by unfold dIm; omega) (by unfold dIm; omega) (by unfold dIm; omega) (by unfold dIm; omega), h5.ag y (by unfold dIm; omega) (by unfold dIm; omega) (by unfold dIm; omega) (fun o k m => by simp only [List.mem_cons, List.not_mem_nil, or_false] at m; unfold dIm; omega), h6.ag y (fun o k m => by simp only [List.mem_cons, List.not_mem_nil, or_false] at m; unfold dIm; omega) (by unfold dIm; omega) (by unfold dIm; omega), h7.ag y (fun o k x z => by unfold dIm; omega), b, h9.eq (Nat.le_succ N) (k g' e), own_of (w g' e) h10⟩
theorem t_10 (W : xWf g) (I : zInv N g) : ∃ g', O_10 a1 a2 a3 a4 a5 g = some (true, g') ∧ zInv (N + 1) g' := st_S (O := O_10 a1 a2 a3 a4 a5) W I (fun β T B C s => op_10 C) (fun g' e => k_10 W e) fun g' e => w_10 W e
theorem t_11 (W : xWf g) (I : zInv N g) : ∃ g', O_11 a1 a2 a3 a4 a5 g = some (true, g') ∧ zInv (N + 1) g' := st_S (O := O_11 a1 a2 a3 a4 a5) W I (fun β T B C s => op_11 C) (fun g' e => k_11 W e) fun g' e => w_11 W e
theorem t_12 (W : xWf g) (I : zInv N g) : ∃ g', O_12 a1 a2 a3 a4 a5 g = some (true, g') ∧ zInv (N + 1) g' := st_S (O := O_12 a1 a2 a3 a4 a5) W I (fun β T B C s => op_12 C s) (fun g' e => k_12 W e) fun g' e => w_12 W e
theorem t_13 (W : xWf g) (I : zInv N g) : ∃ g', O_13 a1 a2 a3 a4 a5 g = some (true, g') ∧ zInv (N + 1) g' := st_S (O := O_13 a1 a2 a3 a4 a5) W I (fun β T B C s => op_13 C s) (fun g' e => k_13 W e) fun g' e => w_13 W e
theorem t_14 (W : xWf g) (I : zInv N g) : ∃ g', O_14 a1 a2 a3 a4 a5 g = some (true, g') ∧ zInv (N + 1) g' := st_S (O := O_14 a1 a2 a3 a4 a5) W I (fun β T B C s => op_14 C s) (fun g' e => k_14 W e) fun g' e => w_14 W e
theorem t_19 (W : xWf g) (I : zInv N g) : ∃ g', O_19 a1 a2 a3 a4 a5 g = some (true, g') ∧ zInv (N + 1) g' := st_S (O := O_19 a1 a2 a3 a4 a5) W I (fun β T B C s => op_19 C s) (fun g' e => k_19 W e) fun g' e => w_19 W e
theorem t_20 (W : xWf g) (I : zInv N g) : ∃ g', O_20 a1 a2 a3 a4 a5 g = some (true, g') ∧ zInv (N + 1) g' := st_S (O := O_20 a1 a2 a3 a4 a5) W I (fun β T B C s => op_20 C s) (fun g' e => k_20 W e) fun g' e => w_20 W e
theorem t_22 (W : xWf g) (I : zInv N g) : ∃ g', O_22 a1 a2 a3 a4 a5 g = some (true, g') ∧ zInv (N + 1) g' := st_S (O := O_22 a1 a2 a3 a4 a5) W I (fun β T B C s => op_22 C s) (fun g' e => k_22 W e) fun g' e => w_22 W e
theorem t_23 (W : xWf g) (I : zInv N g) : ∃ g', O_23 a1 a2 a3 a4 a5 g = some (true, g') ∧ zInv (N + 1) g' := st_S (O := O_23 a1 a2 a3 a4 a5) W I (fun β T B C s => op_23 C s) (fun g' e => k_23 W e) fun g' e => w_23 W e
theorem t_24 (W : xWf g) (I : zInv N g) : ∃ g', O_24 a1 a2 a3 a4 a5 g = some (true, g') ∧ zInv (N + 1) g' := st_S (O := O_24 a1 a2 a3 a4 a5) W I (fun β T B C s => op_24 C) (fun g' e => k_24 W e) fun g' e => w_24 W e
theorem t_25 (W : xWf g) (I : zInv N g) : ∃ g', O_25 a1 a2 a3 a4 a5 g = some (true, g') ∧ zInv (N + 1) g' := st_S (O := O_25 a1 a2 a3 a4 a5) W I (fun β T B C s => op_25 C s) (fun g' e => k_25 W e) fun g' e => w_25 W e
theorem t_26 (W : xWf g) (I : zInv N g) : ∃ g', O_26 a1 a2 a3 a4 a5 g = some (true, g') ∧ zInv (N + 1) g' := st_S (O := O_26 a1 a2 a3 a4 a5) W I (fun β T B C s => op_26 C s) (fun g' e => k_26 W e) fun g' e => w_26 W e
theorem t_27 (W : xWf g) (I : zInv N g) : ∃ g', O_27 a1 a2 a3 a4 a5 g = some (true, g') ∧ zInv (N + 1) g' := st_S (O := O_27 a1 a2 a3 a4 a5) W I (fun β T B C s => op_27 C s) (fun g' e => k_27 W e) fun g' e => w_27 W e
theorem t_28 (W : xWf g) (I : zInv N g) : ∃ g', O_28 a1 a2 a3 a4 a5 g = some (true, g') ∧ zInv (N + 1) g' := st_S (O := O_28 a1 a2 a3 a4 a5) W I (fun β T B C s => op_28 C s) (fun g' e => k_28 W e) fun g' e => w_28 W e
theorem t_29 (W : xWf g) (I : zInv N g) : ∃ g', O_29 a1 a2 a3 a4 a5 g = some (true, g') ∧ zInv (N + 1) g' := st_S (O := O_29 a1 a2 a3 a4 a5) W I (fun β T B C s => op_29 C s) (fun g' e => k_29 W e) fun g' e => w_29 W e
theorem t_30 (W : xWf g) (I : zInv N g) : ∃ g', O_30 a1 a2 a3 a4 a5 g = some (true, g') ∧ zInv (N + 1) g' := st_S (O := O_30 a1 a2 a3 a4 a5) W I (fun β T B C s => op_30 C s) (fun g' e => k_30 W e) fun g' e => w_30 W e
theorem t_36 (W : xWf g) (I : zInv N g) : ∃ g', O_36 a1 a2 a3 a4 a5 g = some (true, g') ∧ zInv (N + 1) g' := st_S (O := O_36 a1 a2 a3 a4 a5) W I (fun β T B C s => op_36 C) (fun g' e => k_36 W e) fun g' e => w_36 W e
theorem t_33 (W : xWf g) (I : zInv N g) : ∃ g', O_33 a1 a2 a3 a4 a5 g = some (true, g') ∧ zInv (N + 1) g' := st_G (O := O_33 a1 a2 a3 a4 a5) W I (fun β T B C s q => op_33 C q) (fun g' e => k_33 W e) fun g' e => w_33 W e
theorem t_34 (W : xWf g) (I : zInv N g) : ∃ g', O_34 a1 a2 a3 a4 a5 g = some (true, g') ∧ zInv (N + 1) g' := st_G (O := O_34 a1 a2 a3 a4 a5) W I (fun β T B C s q => op_34 C s q) (fun g' e => k_34 W e) fun g' e => w_34 W e
theorem t_35 (W : xWf g) (I : zInv N g) : ∃ g', O_35 a1 a2 a3 a4 a5 g = some (true, g') ∧ zInv (N + 1) g' := st_G (O := O_35 a1 a2 a3 a4 a5) W I (fun β T B C s q => op_35 C s q) (fun g' e => k_35 W e) fun g' e => w_35 W e
theorem t_37 (W : xWf g) (I : zInv N g) : ∃ g', O_37 a1 a2 a3 a4 a5 g = some (true, g') ∧ zInv (N + 1) g' := st_G (O := O_37 a1 a2 a3 a4 a5) W I (fun β T B C s q => op_37 C s q) (fun g' e => k_37 W e) fun g' e => w_37 W e
theorem t_15 (hN : N < 2 ^ 30) (W : xWf g) (I : zInv N g) : ∃ g', O_15 a1 a2 a3 a4 a5 g = some (true, g') ∧ zInv (N + 1) g' := st_Q (O := O_15 a1 a2 a3 a4 a5) W I (fun β T B C q => op_15 hN W C q) fun g' e => w_15 W e
theorem t_16 (hN : N < 2 ^ 30) (W : xWf g) (I : zInv N g) : ∃ g', O_16 a1 a2 a3 a4 a5 g = some (true, g') ∧ zInv (N + 1) g' := st_Q (O := O_16 a1 a2 a3 a4 a5) W I (fun β T B C q => op_16 hN W C q) fun g' e => w_16 W e
theorem t_17 (hN : N < 2 ^ 30) (W : xWf g) (I : zInv N g) : ∃ g', O_17 a1 a2 a3 a4 a5 g = some (true, g') ∧ zInv (N + 1) g' := st_Q (O := O_17 a1 a2 a3 a4 a5) W I (fun β T B C q => op_17 hN W C q) fun g' e => w_17 W e
theorem t_18 (hN : N < 2 ^ 30) (W : xWf g) (I : zInv N g) : ∃ g', O_18 a1 a2 a3 a4 a5 g = some (true, g') ∧ zInv (N + 1) g' := st_Q (O := O_18 a1 a2 a3 a4 a5) W I (fun β T B C q => op_18 W C q) fun g' e => w_18 W e
theorem t_21 (hN : N < 2 ^ 30) (W : xWf g) (I : zInv N g) : ∃ g', O_21 a1 a2 a3 a4 a5 g = some (true, g') ∧ zInv (N + 1) g' := st_Q (O := O_21 a1 a2 a3 a4 a5) W I (fun β T B C q => op_21 W C q) fun g' e => w_21 W e
theorem t_31 (hN : N < 2 ^ 30) (W : xWf g) (I : zInv N g) : ∃ g', O_31 a1 a2 a3 a4 a5 g = some (true, g') ∧ zInv (N + 1) g' := st_Q (O := O_31 a1 a2 a3 a4 a5) W I (fun β T B C q => op_31 hN W C q) fun g' e => w_31 W e
theorem t_4 (W : xWf g) (I : zInv N g) : ∃ g', O_4 a1 a2 a3 a4 a5 g = some (true, g') ∧ zInv (N + 1) g' := st_B (O := O_4 a1 a2 a3 a4 a5) W I (fun β T B X a b x => by
    obtain ⟨g', B', e, q, y⟩ := op_4 W a b
    exact ⟨g', B', e, q, y.up fun o k z => by unfold dBq; omega⟩) (fun g' e => k_4 W e) fun g' e => w_4 W e
theorem t_5 (W : xWf g) (I : zInv N g) : ∃ g', O_5 a1 a2 a3 a4 a5 g = some (true, g') ∧ zInv (N + 1) g' := st_B (O := O_5 a1 a2 a3 a4 a5) W I (fun β T B X a b x => by
    obtain ⟨g', B', e, q, y⟩ := op_5 W a b
    exact ⟨g', B', e, q, y.up fun o k z => by unfold dBq; omega⟩) (fun g' e => k_5 W e) fun g' e => w_5 W e
theorem t_7 (W : xWf g) (I : zInv N g) : ∃ g', O_7 a1 a2 a3 a4 a5 g = some (true, g') ∧ zInv (N + 1) g' := st_B (O := O_7 a1 a2 a3 a4 a5) W I (fun β T B X a b x => by
    obtain ⟨g', B', e, q, y⟩ := op_7 W a b
    exact ⟨g', B', e, q, y.up fun o k z => by unfold dBq; omega⟩) (fun g' e => k_7 W e) fun g' e => w_7 W e
theorem t_8 (W : xWf g) (I : zInv N g) : ∃ g', O_8 a1 a2 a3 a4 a5 g = some (true, g') ∧ zInv (N + 1) g' := st_B (O := O_8 a1 a2 a3 a4 a5) W I (fun β T B X a b x => by
    obtain ⟨g', B', e, q, y⟩ := op_8 b
    exact ⟨g', B', e, q, y.up fun o k z => by unfold dBq; omega⟩) (fun g' e => k_8 W e) fun g' e => w_8 W e
theorem t_9 (W : xWf g) (I : zInv N g) : ∃ g', O_9 a1 a2 a3 a4 a5 g = some (true, g') ∧ zInv (N + 1) g' := st_B (O := O_9 a1 a2 a3 a4 a5) W I (fun β T B X a b x => by
    obtain ⟨g', B', e, q, y⟩ := op_9 b
    exact ⟨g', B', e, q, y.up fun o k z => by unfold dBq; omega⟩) (fun g' e => k_9 W e) fun g' e => w_9 W e
theorem t_40 (W : xWf g) (I : zInv N g) : ∃ g', O_40 a1 a2 a3 a4 a5 g = some (true, g') ∧ zInv (N + 1) g' := st_B (O := O_40 a1 a2 a3 a4 a5) W I (fun β T B X a b x => by
    obtain ⟨g', B', e, q, y⟩ := op_40 b x a.1.1
    exact ⟨g', B', e, q, y.up fun o k z => by unfold dBb dBk at z; unfold dBq; omega⟩) (fun g' e => k_40 W e) fun g' e => w_40 W e
theorem t_0 (W : xWf g) (I : zInv N g) : ∃ g', O_0 a1 a2 a3 a4 a5 g = some (true, g') ∧ zInv (N + 1) g' := st_T (O := O_0 a1 a2 a3 a4 a5) W I (fun a => by
    obtain ⟨g', e, q, y⟩ := op_0 (a1 := a1) (a2 := a2) (a3 := a3) (a4 := a4) (a5 := a5) a
    exact ⟨g', e, q, y.up fun o k z => by unfold dTq; omega⟩) (fun g' e => k_0 W e) fun g' e => w_0 W e
theorem t_1 (W : xWf g) (I : zInv N g) : ∃ g', O_1 a1 a2 a3 a4 a5 g = some (true, g') ∧ zInv (N + 1) g' := st_T (O := O_1 a1 a2 a3 a4 a5) W I (fun a => by
    obtain ⟨g', e, q, y⟩ := op_1 (a1 := a1) (a2 := a2) (a3 := a3) (a4 := a4) (a5 := a5) a
    exact ⟨g', e, q, y.up fun o k z => by unfold dTq; omega⟩) (fun g' e => k_1 W e) fun g' e => w_1 W e
theorem t_39 (W : xWf g) (I : zInv N g) : ∃ g', O_39 a1 a2 a3 a4 a5 g = some (true, g') ∧ zInv (N + 1) g' := st_X (O := O_39 a1 a2 a3 a4 a5) W I (fun β T B X a b x => op_39 b x a.1.1) (fun g' e => k_39 W e) fun g' e => w_39 W e
theorem t_3 (I : zInv N g) : ∃ g', O_3 a1 a2 a3 a4 a5 g = some (true, g') ∧ zInv (N + 1) g' := st_0 (O := O_3 a1 a2 a3 a4 a5) (by obtain ⟨β, T, B, X, h1, h2, h3, h4, h5, h6, -⟩ := I; exact op_3 h2) I
theorem t_6 (I : zInv N g) : ∃ g', O_6 a1 a2 a3 a4 a5 g = some (true, g') ∧ zInv (N + 1) g' := st_0 (O := O_6 a1 a2 a3 a4 a5) (by obtain ⟨β, T, B, X, h1, h2, h3, h4, h5, h6, -⟩ := I; exact op_6 h4) I
theorem t_32 (I : zInv N g) : ∃ g', O_32 a1 a2 a3 a4 a5 g = some (true, g') ∧ zInv (N + 1) g' := st_0 (O := O_32 a1 a2 a3 a4 a5) (by obtain ⟨β, T, B, X, h1, h2, h3, h4, h5, h6, -⟩ := I; exact op_32 h3) I
theorem t_38 (I : zInv N g) : ∃ g', O_38 a1 a2 a3 a4 a5 g = some (true, g') ∧ zInv (N + 1) g' := st_0 (O := O_38 a1 a2 a3 a4 a5) (by obtain ⟨β, T, B, X, h1, h2, h3, h4, h5, h6, -⟩ := I; exact op_38 h6) I
theorem t_41 (I : zInv N g) : ∃ g', O_41 a1 a2 a3 a4 a5 g = some (true, g') ∧ zInv (N + 1) g' := st_0 (O := O_41 a1 a2 a3 a4 a5) (by obtain ⟨β, T, B, X, h1, h2, h3, h4, h5, h6, -⟩ := I; exact op_41 h3 h4 h6 h1) I
/-- every call keeps it, and both sides answer alike -/
theorem t_all (i n : Nat) (a1 a2 a3 a4 a5 : Int32) (g : xSt) (hi : i < 4000) (hn : n < 42) (W : xWf g) (I : zInv i g) : ∃ g', xOp n a1 a2 a3 a4 a5 g = some (true, g') ∧ zInv (i + 1) g' := by
  have hN : i < 2 ^ 30 := by omega
  match n, hn with
  | 0, _ => exact t_0 (a1 := a1) (a2 := a2) (a3 := a3) (a4 := a4) (a5 := a5) W I
  | 1, _ => exact t_1 (a1 := a1) (a2 := a2) (a3 := a3) (a4 := a4) (a5 := a5) W I
  | 2, _ => exact op_2 (a1 := a1) (a2 := a2) (a3 := a3) (a4 := a4) (a5 := a5) W I
  | 3, _ => exact t_3 (a1 := a1) (a2 := a2) (a3 := a3) (a4 := a4) (a5 := a5) I
  | 4, _ => exact t_4 (a1 := a1) (a2 := a2) (a3 := a3) (a4 := a4) (a5 := a5) W I
  | 5, _ => exact t_5 (a1 := a1) (a2 := a2) (a3 := a3) (a4 := a4) (a5 := a5) W I
  | 6, _ => exact t_6 (a1 := a1) (a2 := a2) (a3 := a3) (a4 := a4) (a5 := a5) I
  | 7, _ => exact t_7 (a1 := a1) (a2 := a2) (a3 := a3) (a4 := a4) (a5 := a5) W I
  | 8, _ => exact t_8 (a1 := a1) (a2 := a2) (a3 := a3) (a4 := a4) (a5 := a5) W I
  | 9, _ => exact t_9 (a1 := a1) (a2 := a2) (a3 := a3) (a4 := a4) (a5 := a5) W I
  | 10, _ => exact t_10 (a1 := a1) (a2 := a2) (a3 := a3) (a4 := a4) (a5 := a5) W I
  | 11, _ => exact t_11 (a1 := a1) (a2 := a2) (a3 := a3) (a4 := a4) (a5 := a5) W I
  | 12, _ => exact t_12 (a1 := a1) (a2 := a2) (a3 := a3) (a4 := a4) (a5 := a5) W I
  | 13, _ => exact t_13 (a1 := a1) (a2 := a2) (a3 := a3) (a4 := a4) (a5 := a5) W I
  | 14, _ => exact t_14 (a1 := a1) (a2 := a2) (a3 := a3) (a4 := a4) (a5 := a5) W I
  | 15, _ => exact t_15 (a1 := a1) (a2 := a2) (a3 := a3) (a4 := a4) (a5 := a5) hN W I
  | 16, _ => exact t_16 (a1 := a1) (a2 := a2) (a3 := a3) (a4 := a4) (a5 := a5) hN W I
  | 17, _ => exact t_17 (a1 := a1) (a2 := a2) (a3 := a3) (a4 := a4) (a5 := a5) hN W I
  | 18, _ => exact t_18 (a1 := a1) (a2 := a2) (a3 := a3) (a4 := a4) (a5 := a5) hN W I
  | 19, _ => exact t_19 (a1 := a1) (a2 := a2) (a3 := a3) (a4 := a4) (a5 := a5) W I
  | 20, _ => exact t_20 (a1 := a1) (a2 := a2) (a3 := a3) (a4 := a4) (a5 := a5) W I
  | 21, _ => exact t_21 (a1 := a1) (a2 := a2) (a3 := a3) (a4 := a4) (a5 := a5) hN W I
  | 22, _ => exact t_22 (a1 := a1) (a2 := a2) (a3 := a3) (a4 := a4) (a5 := a5) W I
  | 23, _ => exact t_23 (a1 := a1) (a2 := a2) (a3 := a3) (a4 := a4) (a5 := a5) W I
  | 24, _ => exact t_24 (a1 := a1) (a2 := a2) (a3 := a3) (a4 := a4) (a5 := a5) W I
  | 25, _ => exact t_25 (a1 := a1) (a2 := a2) (a3 := a3) (a4 := a4) (a5 := a5) W I
  | 26, _ => exact t_26 (a1 := a1) (a2 := a2) (a3 := a3) (a4 := a4) (a5 := a5) W I
  | 27, _ => exact t_27 (a1 := a1) (a2 := a2) (a3 := a3) (a4 := a4) (a5 := a5) W I
  | 28, _ => exact t_28 (a1 := a1) (a2 := a2) (a3 := a3) (a4 := a4) (a5 := a5) W I
  | 29, _ => exact t_29 (a1 := a1) (a2 := a2) (a3 := a3) (a4 := a4) (a5 := a5) W I
  | 30, _ => exact t_30 (a1 := a1) (a2 := a2) (a3 := a3) (a4 := a4) (a5 := a5) W I
  | 31, _ => exact t_31 (a1 := a1) (a2 := a2) (a3 := a3) (a4 := a4) (a5 := a5) hN W I
  | 32, _ => exact t_32 (a1 := a1) (a2 := a2) (a3 := a3) (a4 := a4) (a5 := a5) I
  | 33, _ => exact t_33 (a1 := a1) (a2 := a2) (a3 := a3) (a4 := a4) (a5 := a5) W I
  | 34, _ => exact t_34 (a1 := a1) (a2 := a2) (a3 := a3) (a4 := a4) (a5 := a5) W I
  | 35, _ => exact t_35 (a1 := a1) (a2 := a2) (a3 := a3) (a4 := a4) (a5 := a5) W I
  | 36, _ => exact t_36 (a1 := a1) (a2 := a2) (a3 := a3) (a4 := a4) (a5 := a5) W I
  | 37, _ => exact t_37 (a1 := a1) (a2 := a2) (a3 := a3) (a4 := a4) (a5 := a5) W I
  | 38, _ => exact t_38 (a1 := a1) (a2 := a2) (a3 := a3) (a4 := a4) (a5 := a5) I
  | 39, _ => exact t_39 (a1 := a1) (a2 := a2) (a3 := a3) (a4 := a4) (a5 := a5) W I
  | 40, _ => exact t_40 (a1 := a1) (a2 := a2) (a3 := a3) (a4 := a4) (a5 := a5) W I
  | 41, _ => exact t_41 (a1 := a1) (a2 := a2) (a3 := a3) (a4 := a4) (a5 := a5) I
  | n + 42, h => omega
end ST
