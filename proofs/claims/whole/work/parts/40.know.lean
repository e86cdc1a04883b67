/-! WHAT IS KNOWN of those left; loops that look for one -/
theorem xlim_all {β : Type} {step : Int32 → Option (Int32 ⊕ (β ⊕ Unit))} {p : Nat → Prop} {v : β} {N : Nat} (h1 : ∀ j, j < N → p j → step (nI j) = some (.inl (nI (j + 1)))) (h2 : ∀ j, j < N → ¬ p j → step (nI j) = some (.inr (.inl v))) (h3 : step (nI N) = some (.inr (.inr ()))) : ∀ m a, m + a = N → ((∀ j, a ≤ j → j < N → p j) → xlim step (nI a) = some (.inr ())) ∧ ((¬ ∀ j, a ≤ j → j < N → p j) → xlim step (nI a) = some (.inl v)) := by
  intro m
  induction m with
  | zero =>
    intro a ha
    have : a = N := by omega
    subst this
    exact ⟨fun _ => xlim_end h3, fun q => absurd (fun j _ _ => by omega) q⟩
  | succ m ih =>
    intro a ha
    obtain ⟨i1, i2⟩ := ih (a + 1) (by omega)
    by_cases q : p a
    · have e := xlim_go (h1 a (by omega) q)
      refine ⟨fun z => e.trans (i1 fun j q1 q2 => z j (by omega) q2), fun z => e.trans (i2 fun y => z fun j q1 q2 => ?_)⟩
      by_cases c : j = a
      · subst c; exact q
      · exact y j (by omega) q2
    · have e := xlim_end (h2 a (by omega) q)
      exact ⟨fun z => absurd (z a (Nat.le_refl _) (by omega)) q, fun _ => e⟩
/-- the j-th order left -/
def yPv (n w : Nat) (L : List Nat) (j : Nat) : Nat := yOr n w (L.getD j 0)
/-- in how many that are left the balance says so -/
def yHm (n w : Nat) (L : List Nat) (a b s : Nat) : Nat := yCn (fun j => ySd (yPv n w L j) a b == s) L.length
/-- it is sure -/
def ySe (n w : Nat) (L : List Nat) (a b s : Nat) : Bool := yHm n w L a b s == L.length
/-- the bits of what is so -/
def yBs (p : Nat → Bool) (m : Nat) : Nat := yOf (fun i => if p i then 2 ^ i else 0) m
theorem yBs_lt {p : Nat → Bool} {m : Nat} : yBs p m < 2 ^ m := by
  refine yOf_lt fun i hi => ?_
  split
  · exact Nat.pow_lt_pow_right (by decide) hi
  · exact Nat.two_pow_pos m
theorem yBs_bit {p : Nat → Bool} {m x : Nat} : (yBs p m).testBit x = true ↔ x < m ∧ p x = true := by
  unfold yBs
  rw [yOf_bit]
  constructor
  · rintro ⟨i, hi, h⟩
    by_cases c : p i = true
    · rw [if_pos c, Nat.testBit_two_pow, decide_eq_true_iff] at h
      subst h; exact ⟨hi, c⟩
    · rw [if_neg c, Nat.zero_testBit] at h; cases h
  · rintro ⟨h1, h2⟩
    exact ⟨x, h1, by rw [if_pos h2, Nat.testBit_two_pow, decide_eq_true_iff]⟩
theorem yBs_congr {p q : Nat → Bool} {m : Nat} (h : ∀ i, i < m → p i = q i) : yBs p m = yBs q m := yOf_congr fun i hi => by rw [h i hi]
theorem yCn_all {p : Nat → Bool} {m : Nat} : yCn p m = m ↔ ∀ i, i < m → p i = true := by
  induction m with
  | zero => exact ⟨fun _ i hi => by omega, fun _ => rfl⟩
  | succ m ih =>
    have := yCn_le p m
    rw [yCn_succ]
    refine ⟨fun h i hi => ?_, fun h => by rw [if_pos (h m (by omega)), ih.mpr fun i hi => h i (by omega)]⟩
    by_cases q : p m = true
    · rw [if_pos q] at h
      by_cases e : i = m
      · subst e; exact q
      · exact ih.mp (by omega) i (by omega)
    · rw [if_neg q] at h; omega
theorem ySe_i {n w : Nat} {L : List Nat} {a b s : Nat} : ySe n w L a b s = true ↔ ∀ j, j < L.length → ySd (yPv n w L j) a b = s := by
  unfold ySe yHm
  rw [beq_iff_eq, yCn_all]
  exact ⟨fun h j hj => beq_iff_eq.mp (h j hj), fun h j hj => beq_iff_eq.mpr (h j hj)⟩
theorem ySd_flip (v a b : Nat) : ySd v a b = if ySd v b a = 0 then 0 else 3 - ySd v b a := ySf_flip _ _ _
theorem ySd_12 (v a b : Nat) : ySd v a b = 2 ↔ ySd v b a = 1 := by
  have h := ySd_flip v a b
  have := ySd_le v b a
  split at h <;> omega
theorem yHm_12 (n w : Nat) (L : List Nat) (a b : Nat) : yHm n w L a b 2 = yHm n w L b a 1 := yCn_congr fun o _ => by
  rw [Bool.eq_iff_iff, beq_iff_eq, beq_iff_eq]; exact ySd_12 _ _ _
theorem ySe_12 (n w : Nat) (L : List Nat) (a b : Nat) : ySe n w L a b 2 = ySe n w L b a 1 := by unfold ySe; rw [yHm_12]
theorem ySe_0 (n w : Nat) (L : List Nat) (a b : Nat) : ySe n w L a b 0 = ySe n w L b a 0 := by
  rw [Bool.eq_iff_iff, ySe_i, ySe_i]
  have : ∀ v, ySd v a b = 0 ↔ ySd v b a = 0 := fun v => by
    have h := ySd_flip v a b
    have := ySd_le v b a
    split at h <;> omega
  exact ⟨fun h j hj => (this _).mp (h j hj), fun h j hj => (this _).mpr (h j hj)⟩
section KN
variable {g g' : xSt} {β n w : Nat} {T B : yT} {L : List Nat} {k a1 a2 a3 a4 a5 : Int32}
theorem dHd_A : ∀ o k, dHd o k → dA o k := fun o k h => by unfold dHd at h; unfold dA; omega
theorem dLC_A : ∀ o k, dLC o k → dA o k := fun o k h => by unfold dLC at h; unfold dA; omega
theorem dLR_A : ∀ o k, dLR o k → dA o k := fun o k h => by unfold dLR at h; unfold dA; omega
theorem r_know (C : Cx g β T B) : ∃ g', E_X5_know k g = some (nI (yLs B k (T 0 0) (T 0 1) 0).length, g') ∧ yAg dA g g' ∧ yLC g' (T 0 0) (T 0 1) (yLs B k (T 0 0) (T 0 1) 0) := by
  obtain ⟨c1, c2, c3, c4⟩ := id C
  obtain ⟨g1, r1, r2, r3⟩ := r_heed (k := k) c4.1 c3.1 c3.2.1 c4.2.2.1
  have a1 := r2.up dHd_A
  obtain ⟨-, -, -, o1⟩ := C.as a1.A
  obtain ⟨g2, s1, s2, s3⟩ := r_sift (lies := 0) (by decide) c3.1 o1 r3
  refine ⟨g2, ?_, a1.tr (s2.up dLC_A), s3⟩
  unfold E_X5_know
  rw [r1, xb1_some, show (0 : Int32) = nI 0 from rfl, s1, xb1_some, s3.1]
theorem r_hasLeft (C : Cx g β T B) : ∃ g', E_X12_hasLeft k g = some (if (yLs B k (T 0 0) (T 0 1) 0).length = 0 then 0 else 1, g') ∧ yAg dA g g' ∧ yLR g' (yLs B k (T 0 0) (T 0 1) 0) := by
  obtain ⟨c1, c2, c3, c4⟩ := id C
  obtain ⟨g1, r1, r2, r3⟩ := r_layLeft (k := k) (lies := 0) (by decide) c3.1 c4 c3.2.2
  refine ⟨g1, ?_, r2.up dLR_A, r3⟩
  unfold E_X12_hasLeft
  have hl := yLs_len (B := B) (k := k) (lies := 0) c4.1 c4.2.1
  rw [show (0 : Int32) = nI 0 from rfl, r1, xb1_some, r3.1]
  by_cases q : (yLs B k (T 0 0) (T 0 1) 0).length = 0
  · rw [if_pos q, q, if_pos (by decide)]; exact xz01_in (Or.inl rfl)
  · rw [if_neg q, if_neg (fun z => q (by rw [show (nI 0 : Int32) = nI 0 from rfl, nI_leI (by omega) (by decide)] at z; omega))]; exact xz01_in (Or.inr rfl)
/-- those left stand in the orders' list -/
def yIn (n w : Nat) (L : List Nat) : Prop := L.length ≤ 541 ∧ ∀ j, j < L.length → L.getD j 0 < yN n w
theorem yLs_in {lies : Nat} (hn : n ≤ 5) (hw : w ≤ 1) : yIn n w (yLs B k n w lies) := ⟨yLs_len hn hw, fun _ h => yLs_get h⟩
theorem r_leftAt (q : yLC g n w L) (hi : yIn n w L) {j : Nat} (hj : j < L.length) : F_X5_leftAt g (nI j) = nI (L.getD j 0) := by
  have := hi.1
  unfold F_X5_leftAt
  rw [xat_nI (by omega) (by decide), q.2.2 j hj]
theorem r_markOf (o : I_orders g n w) {i : Nat} (hi : i < yN n w) : F_X5_markOf g (nI i) = nI (yMk n (yOr n w i)) := by
  have := (yO_len n (by have := o.1; omega) w (by have := o.2.1; omega)).2
  unfold F_X5_markOf
  rw [xat_nI (by omega) (by decide), (o.2.2.2.2.2 i hi).2.1]
theorem yAnd_bit {x : Nat} (hx : x < 30) : ∀ L, (yAnd n w L).testBit x = true ↔ ∀ o, o ∈ L → (yMk n (yOr n w o)).testBit x = true := by
  intro L
  induction L with
  | nil => exact ⟨fun _ o h => absurd h List.not_mem_nil, fun _ => by show (2 ^ 32 - 1).testBit x = true; rw [Nat.testBit_two_pow_sub_one, decide_eq_true_iff]; omega⟩
  | cons a L ih =>
    show (yMk n (yOr n w a) &&& yAnd n w L).testBit x = true ↔ _
    rw [Nat.testBit_and, Bool.and_eq_true, ih]
    exact ⟨fun h o m => (List.mem_cons.mp m).elim (fun e => e ▸ h.1) (h.2 o), fun h => ⟨h a (List.mem_cons_self ..), fun o m => h o (List.mem_cons_of_mem _ m)⟩⟩
theorem r_sure (o : I_orders g n w) (q : yLC g n w L) (hi : yIn n w L) (h0 : L.length ≠ 0) {a b s : Nat} (ha : a < n) (hb : b < n) (hs : s < 3) : F_X5_isSure g (nI a) (nI b) (nI s) = if a ≠ b ∧ ySe n w L a b s = true then 1 else 0 := by
  have hn := o.1
  unfold F_X5_isSure
  by_cases e : a = b
  · rw [if_pos (by rw [e]), if_neg (fun z => z.1 e)]
  · rw [if_neg (fun z => e ((nI_eq (by omega) (by omega)).mp z)), o.2.2.1, r_bitOf n (by omega) a ha b hb s hs e, q.2.1]
    have hx := yBit_lt n (by omega) a ha b hb s hs e
    have hlt : yAnd n w L < 2 ^ 31 := by
      cases L with
      | nil => exact absurd rfl h0
      | cons o1 L =>
        have hm := yOr_chk hn o.2.1 (hi.2 0 (Nat.succ_pos _))
        exact Nat.lt_of_le_of_lt Nat.and_le_left (Nat.lt_trans hm.1 (by decide))
    rw [r_xbG hlt (by omega)]
    have key : (yAnd n w L).testBit (yBit n a b s) = true ↔ ySe n w L a b s = true := by
      rw [yAnd_bit hx, ySe_i]
      constructor
      · intro h j hj
        have hm := yOr_chk hn o.2.1 (hi.2 j hj)
        refine (hm.2.2.2 a b s ha hb e hs).mp (h _ ?_)
        rw [yGet hj]
        exact List.getElem_mem hj
      · intro h o1 m
        obtain ⟨j, hj, rfl⟩ := List.getElem_of_mem m
        have e1 : L.getD j 0 = L[j] := yGet hj
        have hm := yOr_chk hn o.2.1 (hi.2 j hj)
        rw [← e1]
        exact (hm.2.2.2 a b s ha hb e hs).mpr (h j hj)
    by_cases c : ySe n w L a b s = true
    · rw [if_pos (key.mpr c), if_neg (by decide), if_pos ⟨e, c⟩]
    · rw [if_neg (fun z => c (key.mp z)), if_pos rfl, if_neg (fun z => c z.2)]
theorem r_howMany (o : I_orders g n w) (q : yLR g L) (hi : yIn n w L) {a b s : Nat} (ha : a < n) (hb : b < n) (hs : s < 3) : E_X12_howMany (nI a) (nI b) (nI s) g = some (nI (yHm n w L a b s)) := by
  have hl := hi.1
  have hyl := (yO_len n (by have := o.1; omega) w (by have := o.2.1; omega)).2
  have e := xlim_of (step := S_X12_howMany_6 (nI a) (nI b) (nI s) g) (fun j => (nI (yCn (fun j => ySd (yPv n w L j) a b == s) j), nI j)) L.length (e := nI (yHm n w L a b s)) (fun j hj => ?_) ?_
  · unfold E_X12_howMany
    rw [show ((0 : Int32), (0 : Int32)) = (nI (yCn (fun j => ySd (yPv n w L j) a b == s) 0), nI 0) from rfl, e, xb1_some]
  · unfold S_X12_howMany_6
    simp only [q.1, if_neg (nI_ge hj (show L.length < 2 ^ 31 by omega)), xck_nI (show j < 541 by omega) (show (541 : Nat) < 2 ^ 31 by decide), nI_clamp (show j < 2 ^ 31 by omega), q.2 j hj, r_saidBy o (hi.2 j hj) ha hb, xb1_some, nI_1]
    show _ = some (Sum.inl (nI (yCn (fun j => ySd (yPv n w L j) a b == s) j + (if ySd (yOr n w (L.getD j 0)) a b == s then 1 else 0)), nI (j + 1)))
    have hle := ySd_le (yOr n w (L.getD j 0)) a b
    by_cases c : ySd (yOr n w (L.getD j 0)) a b = s
    · rw [if_pos (show nI _ = nI _ by rw [c]), if_pos (beq_iff_eq.mpr c), nI_1]
    · rw [if_neg (fun z => c ((nI_eq (by omega) (by omega)).mp z)), if_neg (fun z => c (beq_iff_eq.mp z)), Int32.add_zero] <;> rfl
  · unfold S_X12_howMany_6
    simp only [q.1]
    exact if_pos (nI_le (Nat.le_refl _) (by omega))
theorem yHm_le (n w : Nat) (L : List Nat) (a b s : Nat) : yHm n w L a b s ≤ L.length := yCn_le _ _
theorem r_isHeavier (o : I_orders g n w) (q : yLR g L) (hi : yIn n w L) {a b : Nat} (ha : a < n) (hb : b < n) : E_X12_isHeavier (nI a) (nI b) g = some (if a ≠ b ∧ ySe n w L a b 1 = true then 1 else 0) := by
  have hn := o.1
  have hl := hi.1
  have hh := yHm_le n w L a b 1
  unfold E_X12_isHeavier
  by_cases e : a = b
  · rw [if_pos (by rw [e]), if_neg (fun z => z.1 e)]
  · rw [if_neg (fun z => e ((nI_eq (by omega) (by omega)).mp z)), show (1 : Int32) = nI 1 from rfl, r_howMany o q hi ha hb (by decide), xb1_some, q.1]
    by_cases c : ySe n w L a b 1 = true
    · rw [if_pos (show nI _ = nI _ by rw [beq_iff_eq.mp c]), if_pos ⟨e, c⟩]; exact xz01_in (Or.inr rfl)
    · rw [if_neg (show ¬ nI _ = nI _ from fun z => c (beq_iff_eq.mpr ((nI_eq (by omega) (by omega)).mp z))), if_neg (fun z => c z.2)]; exact xz01_in (Or.inl rfl)
theorem r_heavierIn (o : I_orders g n w) (q : yLC g n w L) (hi : yIn n w L) {a b : Nat} (ha : a < n) (hb : b < n) (hab : a ≠ b) : E_X5_heavierIn (nI a) (nI b) g = some (nI (yHm n w L a b 1)) := by
  have hn := o.1
  have hl := hi.1
  have hx := yBit_lt n (by omega) a ha b hb 1 (by decide) hab
  have e := xlim_of (step := S_X5_heavierIn_17 (nI (yBit n a b 1)) g) (fun j => (nI (yCn (fun j => ySd (yPv n w L j) a b == 1) j), nI j)) L.length (e := nI (yHm n w L a b 1)) (fun j hj => ?_) ?_
  · unfold E_X5_heavierIn
    rw [o.2.2.1, show (1 : Int32) = nI 1 from rfl, r_bitOf n (by omega) a ha b hb 1 (by decide) hab, show ((0 : Int32), (0 : Int32)) = (nI (yCn (fun j => ySd (yPv n w L j) a b == 1) 0), nI 0) from rfl, e, xb1_some]
  · unfold S_X5_heavierIn_17
    have hm := yOr_chk hn o.2.1 (hi.2 j hj)
    simp only [q.1, if_neg (nI_ge hj (show L.length < 2 ^ 31 by omega)), r_leftAt q hi hj, r_markOf o (hi.2 j hj), r_xbG (show yMk n (yOr n w (L.getD j 0)) < 2 ^ 31 by omega) (show yBit n a b 1 < 31 by omega), nI_1]
    show _ = some (Sum.inl (nI (yCn (fun j => ySd (yPv n w L j) a b == 1) j + (if ySd (yOr n w (L.getD j 0)) a b == 1 then 1 else 0)), nI (j + 1)))
    have key := hm.2.2.2 a b 1 ha hb hab (by decide)
    by_cases c : ySd (yOr n w (L.getD j 0)) a b = 1
    · rw [if_pos (key.mpr c), if_neg (by decide), if_pos (beq_iff_eq.mpr c), nI_1]
    · rw [if_neg (fun z => c (key.mp z)), if_pos rfl, if_neg (fun z => c (beq_iff_eq.mp z)), Int32.add_zero] <;> rfl
  · unfold S_X5_heavierIn_17
    simp only [q.1]
    exact if_pos (nI_le (Nat.le_refl _) (by omega))
/-- a thing of the street, on both sides -/
theorem r_th1 (C : Cx g β T B) {t : Nat} (ht : t < T 0 0) : F_X10_hasThing g (tw g) (nI t) = 1 ∧ E_X12_isThing (nI t) g = some 1 := by
  have hn := C.2.2.2.1
  have h0 := C.2.1.2.1.1
  unfold F_X10_hasThing E_X12_isThing
  rw [r_thingMany C.2.1, xb1_some, h0, if_neg (nI_pos (by omega)), if_neg (nI_ge ht (by omega))]
  refine ⟨rfl, congrArg some ?_⟩
  have := r_isIn1 (g := g) (show T 0 0 < 2 ^ 31 by omega) ht
  unfold F_X12_isIn at this ⊢
  rw [if_neg (nI_pos (by omega))] at this ⊢
  by_cases c2 : nI (T 0 0) - 1 < nI t
  · rw [if_pos c2] at this; exact absurd rfl this
  · rw [if_neg c2]
theorem r_thing (C : Cx g β T B) : (F_X10_hasThing g (tw g) a1 = 0 ∧ E_X12_isThing a1 g = some 0) ∨ ∃ t, t < T 0 0 ∧ a1 = nI t := by
  have hn := C.2.2.2.1
  have h0 := C.2.1.2.1.1
  unfold F_X10_hasThing E_X12_isThing
  rw [r_thingMany C.2.1, xb1_some, h0]
  by_cases q : a1 < 0
  · exact Or.inl ⟨if_pos q, by unfold F_X12_isIn; rw [if_pos q]⟩
  · rw [if_neg q]
    by_cases q1 : nI (T 0 0) ≤ a1
    · refine Or.inl ⟨if_pos q1, congrArg some ((r_isIn (by omega)).mpr fun ⟨j, hj, e⟩ => ?_)⟩
      rw [e] at q1; exact nI_ge hj (by omega) q1
    · obtain ⟨t, ht, rfl⟩ := r_lt (by omega) q q1
      exact Or.inr ⟨t, ht, rfl⟩
theorem r_tw1 (C : Cx g β T B) {a b : Nat} (ha : a < T 0 0) (hb : b < T 0 0) (e : a ≠ b) : F_X10_hasTwo g (tw g) (nI a) (nI b) = 1 ∧ E_X12_areTwo (nI a) (nI b) g = some 1 := by
  have hn := C.2.2.2.1
  have e' : ¬ nI a = nI b := fun z => e ((nI_eq (by omega) (by omega)).mp z)
  unfold F_X10_hasTwo E_X12_areTwo
  rw [(r_th1 C ha).1, (r_th1 C ha).2, (r_th1 C hb).1, (r_th1 C hb).2, if_neg (by decide), if_neg (by decide), if_neg e', xb1_some, if_neg (by decide), xb1_some, if_neg (by decide)]
  exact ⟨rfl, xz01_in (Or.inr rfl)⟩
theorem r_two (C : Cx g β T B) : (F_X10_hasTwo g (tw g) a1 a2 = 0 ∧ E_X12_areTwo a1 a2 g = some 0) ∨ ∃ a b, a < T 0 0 ∧ b < T 0 0 ∧ a ≠ b ∧ a1 = nI a ∧ a2 = nI b := by
  have hn := C.2.2.2.1
  rcases r_thing (a1 := a1) C with ⟨p1, p2⟩ | ⟨a, ha, rfl⟩
  · exact Or.inl ⟨by unfold F_X10_hasTwo; rw [if_pos p1], by unfold E_X12_areTwo; rw [p2, xb1_some, if_pos rfl]⟩
  · obtain ⟨p1, p2⟩ := r_th1 C ha
    rcases r_thing (a1 := a2) C with ⟨q1, q2⟩ | ⟨b, hb, rfl⟩
    · exact Or.inl ⟨by unfold F_X10_hasTwo; rw [p1, if_neg (by decide), if_pos q1], by unfold E_X12_areTwo; rw [p2, xb1_some, if_neg (by decide), q2, xb1_some, if_pos rfl]⟩
    · by_cases e : a = b
      · subst e
        exact Or.inl ⟨by unfold F_X10_hasTwo; rw [p1, if_neg (by decide), if_neg (by decide), if_pos rfl], by unfold E_X12_areTwo; rw [p2, xb1_some, if_neg (by decide), xb1_some, if_neg (by decide), if_pos rfl]; exact xz01_in (Or.inl rfl)⟩
      · exact Or.inr ⟨a, b, ha, hb, e, rfl, rfl⟩
/-- both sides of a call -/
theorem r_O {v : Int32} {A : Option (Int32 × xSt)} {F : xSt → Option (Int32 × xSt)} {g1 g2 : xSt} (e1 : A = some (v, g1)) (e2 : F g1 = some (v, g2)) : (xb2 A fun v1 g1 => xb2 (F g1) fun v2 g2 => some (decide (v1 = v2), g2)) = some (true, g2) := by
  rw [e1, xb2_some, e2, xb2_some, decide_eq_true rfl]
theorem r_pairUp (C : Cx g β T B) (k : Int32) {c : Int32 → xSt → Option (Int32 × xSt)} {d : xSt → Option (Int32 × xSt)} (V : List Nat → Int32) (hc : ∀ g1, Cx g1 β T B → yLC g1 (T 0 0) (T 0 1) (yLs B k (T 0 0) (T 0 1) 0) → yIn (T 0 0) (T 0 1) (yLs B k (T 0 0) (T 0 1) 0) → (yLs B k (T 0 0) (T 0 1) 0).length ≠ 0 → c (nI (yLs B k (T 0 0) (T 0 1) 0).length) g1 = some (V (yLs B k (T 0 0) (T 0 1) 0), g1)) (hd : ∀ g2, Cx g2 β T B → yLR g2 (yLs B k (T 0 0) (T 0 1) 0) → yIn (T 0 0) (T 0 1) (yLs B k (T 0 0) (T 0 1) 0) → (yLs B k (T 0 0) (T 0 1) 0).length ≠ 0 → d g2 = some (V (yLs B k (T 0 0) (T 0 1) 0), g2)) : ∃ v g1 g2, (xb2 (E_X5_know k g) fun r g1 => if r = 0 then some (-1, g1) else c r g1) = some (v, g1) ∧ (xb2 (E_X12_hasLeft k g1) fun r g2 => if r = 0 then some (-1, g2) else d g2) = some (v, g2) ∧ yAg dA g g1 ∧ yAg dA g1 g2 := by
  obtain ⟨g1, r1, r2, r3⟩ := r_know (k := k) C
  have C1 := C.as r2.A
  obtain ⟨g2, s1, s2, s3⟩ := r_hasLeft (k := k) C1
  have hi := yLs_in (B := B) (k := k) (lies := 0) C.2.2.2.1 C.2.2.2.2.1
  have hl := hi.1
  rw [r1]
  by_cases h0 : (yLs B k (T 0 0) (T 0 1) 0).length = 0
  · exact ⟨-1, g1, g2, by rw [xb2_some, h0]; exact if_pos rfl, by rw [s1, xb2_some, if_pos h0]; exact if_pos rfl, r2, s2⟩
  · refine ⟨V (yLs B k (T 0 0) (T 0 1) 0), g1, g2, ?_, ?_, r2, s2⟩
    · rw [xb2_some, if_neg (show ¬ nI _ = (0 : Int32) from fun z => h0 ((nI_eq (by omega) (by decide)).mp (show _ = nI 0 from z)))]
      exact hc g1 C1 r3 hi h0
    · rw [s1, xb2_some, if_neg h0]
      exact (if_neg (by decide)).trans (hd g2 (C1.as s2.A) s3 hi h0)
end KN
