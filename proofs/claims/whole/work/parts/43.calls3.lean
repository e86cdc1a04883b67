/-! CALLS on who is left: place, stand -/
section PL
variable {g g' : xSt} {β n w : Nat} {T B : yT} {L : List Nat} {k a1 a2 a3 a4 a5 : Int32}
theorem yDg_lt (hn : n ≤ 5) (hw : w ≤ 1) {i t : Nat} (hi : i < yN n w) (ht : t < n) : yDg (yOr n w i) t < n := (yOr_chk hn hw hi).2.2.1 t ht
theorem r_placeLeft (o : I_orders g n w) (q : yLR g L) (hi : yIn n w L) {j t : Nat} (hj : j < L.length) (ht : t < n) : E_X12_placeLeft (nI j) (nI t) g = some (nI (yDg (yPv n w L j) t)) := by
  have hl := hi.1
  have hyl := (yO_len n (by have := o.1; omega) w (by have := o.2.1; omega)).2
  have hm := hi.2 j hj
  have hn := o.1
  unfold E_X12_placeLeft
  rw [xck_nI (by omega) (by decide), nI_clamp (by omega), q.2 j hj, show (5 : Int32) = nI 5 from rfl, nI_mul, nI_add, xck_nI (by omega) (by decide), nI_clamp (by omega), (o.2.2.2.2.2 _ hm).2.2 t ht]
  rfl
/-- the most or the least of the first ones -/
def yEx (most : Prop) [Decidable most] (d : Nat → Nat) : Nat → Nat
  | 0 => d 0
  | j + 1 => if most then max (yEx most d j) (d (j + 1)) else min (yEx most d j) (d (j + 1))
theorem yEx_lt (most : Prop) [Decidable most] {d : Nat → Nat} {c : Nat} : ∀ j, (∀ i, i ≤ j → d i < c) → yEx most d j < c := by
  intro j
  induction j with
  | zero => intro h; exact h 0 (Nat.le_refl _)
  | succ j ih =>
    intro h
    have h1 := ih (fun i hi => h i (by omega))
    have h2 := h (j + 1) (Nat.le_refl _)
    show (if most then max (yEx most d j) (d (j + 1)) else min (yEx most d j) (d (j + 1))) < c
    split <;> omega
theorem op_12 (C : Cx g β T B) (hs : I_shelf g) : ∃ g', O_12 a1 a2 a3 a4 a5 g = some (true, g') ∧ yAg dAS g g' ∧ I_shelf g' := by
  have hn := C.2.2.2.1
  have hw := C.2.2.2.2.1
  unfold O_12
  generalize xb01 a2 = m
  rcases r_thing (a1 := a1) C with ⟨p1, p2⟩ | ⟨t, ht, rfl⟩
  · exact ⟨g, r_O (v := -1) (by unfold E_X11_place; rw [if_pos p1]) (by unfold E_X12_place; rw [p2, xb1_some, if_pos rfl]), yAg.refl _ _, hs⟩
  · have hX := r_pairUp (c := fun r g20_2 => xb1 (E_X5_extremePlace (nI t) m g20_2) fun r34_4 => some (r34_4, g20_2)) (d := fun g10_3 => xb1 (E_X12_placeLeft 0 (nI t) g10_3) fun r21_5 => xb1 (xlim (S_X12_place_29 (nI t) m) (r21_5, 1, g10_3)) fun e_6 => some (e_6.1, e_6.2)) C a3 (fun L => nI (yEx (¬ m = 0) (fun j => yDg (yPv (T 0 0) (T 0 1) L j) t) (L.length - 1))) (fun g1 C1 q hi h0 => ?_) (fun g2 C2 q hi h0 => ?_)
    · obtain ⟨v, g1, g2, e1, e2, y1, y2⟩ := hX
      exact ⟨g2, r_O (by unfold E_X11_place; rw [(r_th1 C ht).1, if_neg (by decide)]; exact e1) (by unfold E_X12_place; rw [(r_th1 (C.as y1.A) ht).2, xb1_some, if_neg (by decide)]; exact e2), (y1.tr y2).A, hs.aA (y1.tr y2)⟩
    · generalize yLs B a3 (T 0 0) (T 0 1) 0 = L at *
      have hl := hi.1
      have hd : ∀ j, j < L.length → yDg (yPv (T 0 0) (T 0 1) L j) t < 5 := fun j hj => Nat.lt_of_lt_of_le (yDg_lt hn hw (hi.2 j hj) ht) hn
      have e := xlim_from (step := S_X5_extremePlace_14 (nI t) m g1) (fun j => (nI (yEx (¬ m = 0) (fun j => yDg (yPv (T 0 0) (T 0 1) L j) t) (j - 1)), nI j)) 1 L.length (by omega) (e := nI (yEx (¬ m = 0) (fun j => yDg (yPv (T 0 0) (T 0 1) L j) t) (L.length - 1))) (fun j hj1 hj => ?_) ?_
      · show xb1 (E_X5_extremePlace (nI t) m g1) _ = _
        unfold E_X5_extremePlace
        rw [show F_X5_leftAt g1 0 = nI (L.getD 0 0) from r_leftAt q hi (show 0 < L.length by omega), r_placeOf C1.2.2.2 (hi.2 0 (by omega)) ht]
        rw [show xlim (S_X5_extremePlace_14 (nI t) m g1) (nI (yDg (yOr (T 0 0) (T 0 1) (L.getD 0 0)) t), 1) = _ from e, xb1_some, xb1_some]
      · unfold S_X5_extremePlace_14
        have b1 := yEx_lt (¬ m = 0) (d := fun j => yDg (yPv (T 0 0) (T 0 1) L j) t) (c := 5) (j - 1) (fun i hi => hd i (by omega))
        have b2 := hd j hj
        simp only [q.1, if_neg (nI_ge hj (show L.length < 2 ^ 31 by omega)), r_leftAt q hi hj, r_placeOf C1.2.2.2 (hi.2 j hj) ht, nI_1]
        obtain ⟨i, rfl⟩ : ∃ i, j = i + 1 := ⟨j - 1, by omega⟩
        rw [show i + 1 - 1 = i by omega] at b1 ⊢
        rw [show i + 1 + 1 - 1 = i + 1 by omega]
        show _ = some (Sum.inl (nI (if ¬ m = 0 then max _ _ else min _ _), _))
        by_cases z : m = 0
        · rw [if_pos z, if_neg (fun y => y z), show yDg (yOr (T 0 0) (T 0 1) (L.getD (i + 1) 0)) t = yDg (yPv (T 0 0) (T 0 1) L (i + 1)) t from rfl, r_imin (by omega) (by omega)]
        · rw [if_neg z, if_pos z, show yDg (yOr (T 0 0) (T 0 1) (L.getD (i + 1) 0)) t = yDg (yPv (T 0 0) (T 0 1) L (i + 1)) t from rfl, r_imax (by omega) (by omega)]
      · unfold S_X5_extremePlace_14
        simp only [q.1]
        exact if_pos (nI_le (Nat.le_refl _) (by omega))
    · generalize yLs B a3 (T 0 0) (T 0 1) 0 = L at *
      have hl := hi.1
      have hd : ∀ j, j < L.length → yDg (yPv (T 0 0) (T 0 1) L j) t < 5 := fun j hj => Nat.lt_of_lt_of_le (yDg_lt hn hw (hi.2 j hj) ht) hn
      have e := xlim_from (step := S_X12_place_29 (nI t) m) (fun j => (nI (yEx (¬ m = 0) (fun j => yDg (yPv (T 0 0) (T 0 1) L j) t) (j - 1)), nI j, g2)) 1 L.length (by omega) (e := (nI (yEx (¬ m = 0) (fun j => yDg (yPv (T 0 0) (T 0 1) L j) t) (L.length - 1)), g2)) (fun j hj1 hj => ?_) ?_
      · show xb1 (E_X12_placeLeft (nI 0) (nI t) g2) _ = _
        rw [r_placeLeft C2.2.2.2 q hi (by omega) ht, xb1_some]
        exact congrArg (fun o => xb1 o fun e_6 : Int32 × xSt => some (e_6.1, e_6.2)) e
      · unfold S_X12_place_29
        have b1 := yEx_lt (¬ m = 0) (d := fun j => yDg (yPv (T 0 0) (T 0 1) L j) t) (c := 5) (j - 1) (fun i hi => hd i (by omega))
        have b2 := hd j hj
        simp only [q.1, if_neg (nI_ge hj (show L.length < 2 ^ 31 by omega)), r_placeLeft C2.2.2.2 q hi hj ht, xb1_some, nI_1]
        obtain ⟨i, rfl⟩ : ∃ i, j = i + 1 := ⟨j - 1, by omega⟩
        rw [show i + 1 - 1 = i by omega] at b1 ⊢
        rw [show i + 1 + 1 - 1 = i + 1 by omega]
        have hdf : yEx (¬ m = 0) (fun j => yDg (yPv (T 0 0) (T 0 1) L j) t) (i + 1) = if ¬ m = 0 then max (yEx (¬ m = 0) (fun j => yDg (yPv (T 0 0) (T 0 1) L j) t) i) (yDg (yPv (T 0 0) (T 0 1) L (i + 1)) t) else min (yEx (¬ m = 0) (fun j => yDg (yPv (T 0 0) (T 0 1) L j) t) i) (yDg (yPv (T 0 0) (T 0 1) L (i + 1)) t) := rfl
        rw [hdf]
        generalize yEx (¬ m = 0) (fun j => yDg (yPv (T 0 0) (T 0 1) L j) t) i = x at b1 ⊢
        generalize yDg (yPv (T 0 0) (T 0 1) L (i + 1)) t = y at b2 ⊢
        by_cases z : m = 0
        · rw [if_pos z, if_neg (show ¬ ¬ m = 0 from fun y => y z)]
          by_cases c : x ≤ y
          · rw [if_pos (nI_le c (by omega)), Nat.min_eq_left c]
          · rw [if_neg (fun z => c ((nI_leI (by omega) (by omega)).mp z)), Nat.min_eq_right (by omega)]
        · rw [if_neg z, if_pos z]
          by_cases c : y ≤ x
          · rw [if_pos (nI_le c (by omega)), Nat.max_eq_left c]
          · rw [if_neg (fun z => c ((nI_leI (by omega) (by omega)).mp z)), Nat.max_eq_right (by omega)]
      · unfold S_X12_place_29
        simp only [q.1]
        exact if_pos (nI_le (Nat.le_refl _) (by omega))
/-- who stands at place p in an order -/
def yAt (n v p : Nat) : Nat := yBs (fun t => yDg v t == p) n
/-- the order as a number -/
def yDec (v : Nat) : Nat → Nat
  | 0 => 0
  | t + 1 => 10 * yDec v t + yDg v t
theorem yDec_lt {v : Nat} (h : ∀ t, t < n → yDg v t < 10) : ∀ j, j ≤ n → yDec v j < 10 ^ j := by
  intro j
  induction j with
  | zero => intro _; exact Nat.one_pos
  | succ j ih =>
    intro hj
    have h1 := ih (by omega)
    have h2 := h j (by omega)
    show 10 * yDec v j + yDg v j < _
    rw [Nat.pow_succ]; omega
theorem r_goal1 (o : I_orders g n w) {i p : Nat} (hi : i < yN n w) (hp : p < 5) : E_X5_goalOf (nI i) 1 (nI p) g = some (nI (yAt n (yOr n w i) p)) := by
  have hn := o.1
  unfold E_X5_goalOf
  rw [if_neg (by decide)]
  have e := xlim_of (step := S_X5_goalOf_18 (nI i) 1 (nI p) g) (fun j => (nI (yBs (fun t => yDg (yOr n w i) t == p) j), nI j)) n (e := nI (yAt n (yOr n w i) p)) (fun j hj => ?_) ?_
  · rw [show ((0 : Int32), (0 : Int32)) = (nI (yBs (fun t => yDg (yOr n w i) t == p) 0), nI 0) from rfl, e, xb1_some]
  · unfold S_X5_goalOf_18
    have hd := yDg_lt hn o.2.1 hi hj
    simp only [o.2.2.1, if_neg (nI_ge hj (show n < 2 ^ 31 by omega)), if_neg (show ¬ (1 : Int32) = 0 by decide), r_placeOf o hi hj, nI_1, r_1shl j (by omega), r_orG, yBs_succ]
    by_cases c : yDg (yOr n w i) j = p
    · rw [if_pos (by rw [c]), if_pos (beq_iff_eq.mpr c)]
    · rw [if_neg (fun z => c ((nI_eq (by omega) (by omega)).mp z)), if_neg (fun z => c (beq_iff_eq.mp z)), Nat.or_zero]
  · unfold S_X5_goalOf_18
    simp only [o.2.2.1]
    exact if_pos (nI_le (Nat.le_refl _) (by omega))
theorem r_goal2 (o : I_orders g n w) {i p : Nat} (hi : i < yN n w) (hp : p < n) : E_X5_goalOf (nI i) 2 (nI p) g = some (nI (yDg (yOr n w i) p)) := by
  unfold E_X5_goalOf
  rw [if_pos rfl, r_placeOf o hi hp]
theorem r_goal0 (o : I_orders g n w) {i : Nat} (hi : i < yN n w) : E_X5_goalOf (nI i) 0 a3 g = some (nI (yDec (yOr n w i) n)) := by
  have hn := o.1
  unfold E_X5_goalOf
  rw [if_neg (by decide)]
  have e := xlim_of (step := S_X5_goalOf_18 (nI i) 0 a3 g) (fun j => (nI (yDec (yOr n w i) j), nI j)) n (e := nI (yDec (yOr n w i) n)) (fun j hj => ?_) ?_
  · rw [show ((0 : Int32), (0 : Int32)) = (nI (yDec (yOr n w i) 0), nI 0) from rfl, e, xb1_some]
  · unfold S_X5_goalOf_18
    simp only [o.2.2.1, if_neg (nI_ge hj (show n < 2 ^ 31 by omega)), if_pos (show (0 : Int32) = 0 from rfl), r_placeOf o hi hj, nI_1, show (10 : Int32) = nI 10 from rfl, nI_mul, nI_add]
    rfl
  · unfold S_X5_goalOf_18
    simp only [o.2.2.1]
    exact if_pos (nI_le (Nat.le_refl _) (by omega))
/-- bits that all have -/
def yAf (f : Nat → Nat) (s : Nat) : Nat → Nat
  | 0 => s
  | m + 1 => yAf f s m &&& f m
theorem yAf_bit (f : Nat → Nat) (s x : Nat) : ∀ m, (yAf f s m).testBit x = true ↔ s.testBit x = true ∧ ∀ i, i < m → (f i).testBit x = true := by
  intro m
  induction m with
  | zero => exact ⟨fun h => ⟨h, fun i hi => by omega⟩, fun h => h.1⟩
  | succ m ih =>
    show (yAf f s m &&& f m).testBit x = true ↔ _
    rw [Nat.testBit_and, Bool.and_eq_true, ih]
    refine ⟨fun ⟨⟨h1, h2⟩, h3⟩ => ⟨h1, fun i hi => ?_⟩, fun ⟨h1, h2⟩ => ⟨⟨h1, fun i hi => h2 i (by omega)⟩, h2 m (by omega)⟩⟩
    by_cases e : i = m
    · subst e; exact h3
    · exact h2 i (by omega)
/-- in how many thing t stands at place p -/
def yPc (n w : Nat) (L : List Nat) (p t : Nat) : Nat := yCn (fun j => yDg (yPv n w L j) t == p) L.length
theorem yCn_pos {p : Nat → Bool} {m : Nat} : 0 < yCn p m ↔ ∃ i, i < m ∧ p i = true := by
  constructor
  · intro h
    refine Classical.byContradiction fun q => ?_
    have := yCn_zero.mpr (fun i hi hp => q ⟨i, hi, hp⟩)
    omega
  · rintro ⟨i, hi, hp⟩
    refine Nat.pos_of_ne_zero fun q => ?_
    exact yCn_zero.mp q i hi hp
def ySt (n w : Nat) (L : List Nat) (p : Nat) (some_ : Prop) [Decidable some_] : Nat := yBs (fun t => if some_ then decide (0 < yPc n w L p t) else yPc n w L p t == L.length) n
theorem ySt_some (p : Nat) : ySt n w L p True = yOf (fun j => yAt n (yPv n w L j) p) L.length := by
  refine Nat.eq_of_testBit_eq fun x => ?_
  rw [Bool.eq_iff_iff]
  unfold ySt
  rw [yBs_bit, yOf_bit, if_pos trivial, decide_eq_true_iff]
  unfold yPc
  rw [yCn_pos]
  unfold yAt
  exact ⟨fun ⟨h1, i, h2, h3⟩ => ⟨i, h2, yBs_bit.mpr ⟨h1, h3⟩⟩, fun ⟨i, h2, h3⟩ => ⟨(yBs_bit.mp h3).1, i, h2, (yBs_bit.mp h3).2⟩⟩
theorem ySt_all (p : Nat) : ySt n w L p False = yAf (fun j => yAt n (yPv n w L j) p) (2 ^ n - 1) L.length := by
  refine Nat.eq_of_testBit_eq fun x => ?_
  rw [Bool.eq_iff_iff]
  unfold ySt
  rw [yBs_bit, yAf_bit, if_neg (fun z => z), beq_iff_eq]
  unfold yPc
  rw [yCn_all, Nat.testBit_two_pow_sub_one, decide_eq_true_iff]
  unfold yAt
  exact ⟨fun ⟨h1, h2⟩ => ⟨h1, fun i hi => yBs_bit.mpr ⟨h1, h2 i hi⟩⟩, fun ⟨h1, h2⟩ => ⟨h1, fun i hi => (yBs_bit.mp (h2 i hi)).2⟩⟩
theorem op_13 (C : Cx g β T B) (hs : I_shelf g) : ∃ g', O_13 a1 a2 a3 a4 a5 g = some (true, g') ∧ yAg dAS g g' ∧ I_shelf g' := by
  have hn := C.2.2.2.1
  have hw := C.2.2.2.2.1
  unfold O_13
  generalize xb01 a2 = m
  rcases r_inN (g := g) (a1 := a1) (m := 4) (by decide) with ⟨i1, i2⟩ | ⟨p, hp, rfl, i1, i2, i3⟩
  · refine ⟨g, r_O (v := -1) ?_ (by unfold E_X12_stand; exact if_pos i1), yAg.refl _ _, hs⟩
    unfold E_X11_stand
    by_cases q : a1 < 0
    · rw [if_pos q]
    · rw [if_neg q, if_pos]
      have := i2.resolve_left q
      rw [Int32.le_iff_toInt_le] at this ⊢
      rw [nI_toInt (by decide)] at this
      rw [show (5 : Int32).toInt = 5 from rfl]
      omega
  · have i5 : ¬ (5 : Int32) ≤ nI p := by rw [show (5 : Int32) = nI 5 from rfl]; exact nI_ge (by omega) (by decide)
    have hX := r_pairUp (c := fun r g18_3 => xb1 (E_X5_standing (nI p) m g18_3) fun r32_5 => some (r32_5, g18_3)) (d := fun g11_2 => xb1 (xlim (S_X12_stand_25 (nI p) m) (0, 0, g11_2)) fun e_4 => some (e_4.1, e_4.2)) C a3 (fun L => nI (ySt (T 0 0) (T 0 1) L p (¬ m = 0))) (fun g1 C1 q hi h0 => ?_) (fun g2 C2 q hi h0 => ?_)
    · obtain ⟨v, g1, g2, e1, e2, y1, y2⟩ := hX
      exact ⟨g2, r_O (by unfold E_X11_stand; rw [if_neg i2, if_neg i5]; exact e1) (by unfold E_X12_stand; rw [show F_X12_isIn g1 (nI p) 0 4 = 1 from i1, if_neg (by decide)]; exact e2), (y1.tr y2).A, hs.aA (y1.tr y2)⟩
    · generalize yLs B a3 (T 0 0) (T 0 1) 0 = L at *
      have hl := hi.1
      show xb1 (E_X5_standing (nI p) m g1) _ = _
      unfold E_X5_standing
      by_cases z : m = 0
      · have e := xlim_of (step := S_X5_standing_20 (nI p) m g1) (fun j => (nI (yAf (fun j => yAt (T 0 0) (yPv (T 0 0) (T 0 1) L j) p) (2 ^ T 0 0 - 1) j), nI j)) L.length (e := nI (yAf (fun j => yAt (T 0 0) (yPv (T 0 0) (T 0 1) L j) p) (2 ^ T 0 0 - 1) L.length)) (fun j hj => ?_) ?_
        · rw [if_pos z]
          unfold K_X5_standing_16
          have hk : ∀ n, n < 6 → (1 : Int32) <<< (nI n &&& 31) - 1 = nI (2 ^ n - 1) := by decide +kernel
          have h1 : ((1 : Int32) <<< (xI g1 69 0 &&& 31)) - 1 = nI (2 ^ T 0 0 - 1) := by
            have hk : ∀ n, n < 6 → ((1 : Int32) <<< (nI n &&& 31)) - 1 = nI (2 ^ n - 1) := by decide +kernel
            rw [C1.2.2.2.2.2.1]; exact hk _ (by omega)
          rw [h1, show ((nI (2 ^ T 0 0 - 1) : Int32), (0 : Int32)) = (nI (yAf (fun j => yAt (T 0 0) (yPv (T 0 0) (T 0 1) L j) p) (2 ^ T 0 0 - 1) 0), nI 0) from rfl, e, xb1_some, xb1_some, ← ySt_all]
          unfold ySt
          rw [show (fun t => if ¬ m = 0 then decide (0 < yPc (T 0 0) (T 0 1) L p t) else yPc (T 0 0) (T 0 1) L p t == L.length) = (fun t => if False then decide (0 < yPc (T 0 0) (T 0 1) L p t) else yPc (T 0 0) (T 0 1) L p t == L.length) from funext fun t => by rw [if_neg (fun y => y z), if_neg (fun y => y)]]
        · unfold S_X5_standing_20
          simp only [q.1, if_neg (nI_ge hj (show L.length < 2 ^ 31 by omega)), r_leftAt q hi hj, r_goal1 C1.2.2.2 (hi.2 j hj) (show p < 5 by omega), xb1_some, if_pos z, r_andG, nI_1]
          rfl
        · unfold S_X5_standing_20
          simp only [q.1]
          exact if_pos (nI_le (Nat.le_refl _) (by omega))
      · have e := xlim_of (step := S_X5_standing_20 (nI p) m g1) (fun j => (nI (yOf (fun j => yAt (T 0 0) (yPv (T 0 0) (T 0 1) L j) p) j), nI j)) L.length (e := nI (yOf (fun j => yAt (T 0 0) (yPv (T 0 0) (T 0 1) L j) p) L.length)) (fun j hj => ?_) ?_
        · rw [if_neg z]
          unfold K_X5_standing_16
          rw [show ((0 : Int32), (0 : Int32)) = (nI (yOf (fun j => yAt (T 0 0) (yPv (T 0 0) (T 0 1) L j) p) 0), nI 0) from rfl, e, xb1_some, xb1_some, ← ySt_some]
          unfold ySt
          rw [show (fun t => if ¬ m = 0 then decide (0 < yPc (T 0 0) (T 0 1) L p t) else yPc (T 0 0) (T 0 1) L p t == L.length) = (fun t => if True then decide (0 < yPc (T 0 0) (T 0 1) L p t) else yPc (T 0 0) (T 0 1) L p t == L.length) from funext fun t => by rw [if_pos z, if_pos trivial]]
        · unfold S_X5_standing_20
          simp only [q.1, if_neg (nI_ge hj (show L.length < 2 ^ 31 by omega)), r_leftAt q hi hj, r_goal1 C1.2.2.2 (hi.2 j hj) (show p < 5 by omega), xb1_some, if_neg z, r_orG, nI_1]
          rfl
        · unfold S_X5_standing_20
          simp only [q.1]
          exact if_pos (nI_le (Nat.le_refl _) (by omega))
    · generalize yLs B a3 (T 0 0) (T 0 1) 0 = L at *
      have hl := hi.1
      have e := xlim_of (step := S_X12_stand_25 (nI p) m) (fun j => (nI (yBs (fun t => if ¬ m = 0 then decide (0 < yPc (T 0 0) (T 0 1) L p t) else yPc (T 0 0) (T 0 1) L p t == L.length) j), nI j, g2)) (T 0 0) (e := (nI (ySt (T 0 0) (T 0 1) L p (¬ m = 0)), g2)) (fun t ht => ?_) ?_
      · show xb1 (xlim (S_X12_stand_25 (nI p) m) (nI 0, nI 0, g2)) _ = _
        exact congrArg (fun o => xb1 o fun e_6 : Int32 × xSt => some (e_6.1, e_6.2)) e
      · have e2 := xlim_of (step := S_X12_stand_40 (nI p) m (nI (yBs (fun t => if ¬ m = 0 then decide (0 < yPc (T 0 0) (T 0 1) L p t) else yPc (T 0 0) (T 0 1) L p t == L.length) t)) (nI t)) (fun j => (nI (yCn (fun j => yDg (yPv (T 0 0) (T 0 1) L j) t == p) j), nI j, g2)) L.length (e := (nI (yPc (T 0 0) (T 0 1) L p t), g2)) (fun j hj => ?_) ?_
        · have hc : yPc (T 0 0) (T 0 1) L p t ≤ L.length := yCn_le _ _
          unfold S_X12_stand_25
          simp only [r_thingMany C2.2.1, xb1_some, if_neg (nI_ge ht (show T 0 0 < 2 ^ 31 by omega)), nI_1, r_1shl t (by omega), r_orG, yBs_succ]
          rw [show xlim (S_X12_stand_40 (nI p) m (nI (yBs (fun t => if ¬ m = 0 then decide (0 < yPc (T 0 0) (T 0 1) L p t) else yPc (T 0 0) (T 0 1) L p t == L.length) t)) (nI t)) (0, 0, g2) = _ from e2, xb1_some]
          simp only [q.1]
          by_cases z : m = 0
          · have zz : ¬ ¬ m = 0 := fun y => y z
            simp only [if_pos z, if_neg zz]
            by_cases c : yPc (T 0 0) (T 0 1) L p t = L.length
            · rw [if_pos (by rw [c]), if_pos (beq_iff_eq.mpr c)]
            · rw [if_neg (fun y => c ((nI_eq (by omega) (by omega)).mp y)), if_neg (fun y => c (beq_iff_eq.mp y)), Nat.or_zero]
          · simp only [if_neg z, if_pos z]
            by_cases c : 0 < yPc (T 0 0) (T 0 1) L p t
            · rw [if_neg (fun y => by have := (r_le0 (by omega)).mp y; omega), if_pos (decide_eq_true c)]
            · rw [if_pos ((r_le0 (by omega)).mpr (by omega)), if_neg (by simpa using c), Nat.or_zero]
        · unfold S_X12_stand_40
          have hd := yDg_lt hn hw (hi.2 j hj) ht
          simp only [q.1, if_neg (nI_ge hj (show L.length < 2 ^ 31 by omega)), r_placeLeft C2.2.2.2 q hi hj ht, xb1_some, nI_1]
          show _ = some (Sum.inl (nI (yCn (fun j => yDg (yPv (T 0 0) (T 0 1) L j) t == p) j + (if yDg (yPv (T 0 0) (T 0 1) L j) t == p then 1 else 0)), nI (j + 1), g2))
          by_cases c : yDg (yPv (T 0 0) (T 0 1) L j) t = p
          · rw [if_pos (by rw [c]), if_pos (beq_iff_eq.mpr c), nI_1]
          · rw [if_neg (fun y => c ((nI_eq (by unfold yPv; omega) (by omega)).mp y)), if_neg (fun y => c (beq_iff_eq.mp y)), Int32.add_zero] <;> rfl
        · unfold S_X12_stand_40
          simp only [q.1]
          exact if_pos (nI_le (Nat.le_refl _) (by omega))
      · unfold S_X12_stand_25
        simp only [r_thingMany C2.2.1, xb1_some]
        exact if_pos (nI_le (Nat.le_refl _) (by omega))
end PL
