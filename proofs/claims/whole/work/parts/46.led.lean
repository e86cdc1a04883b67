/-! CALLS led, doubts -/
/-- one to one in n things is onto -/
theorem yNoInj : ∀ n, ∀ f : Nat → Nat, (∀ i, i < n + 1 → f i < n) → (∀ i j, i < n + 1 → j < n + 1 → f i = f j → i = j) → False := by
  intro n
  induction n with
  | zero => intro f h _; have := h 0 (by omega); omega
  | succ n ih =>
    intro f h1 h2
    refine ih (fun i => if f (n + 1) < f i then f i - 1 else f i) (fun i hi => ?_) (fun i j hi hj e => ?_)
    · have a := h1 i (by omega)
      have b := h1 (n + 1) (by omega)
      have c : ¬ f i = f (n + 1) := fun z => by have := h2 i (n + 1) (by omega) (by omega) z; omega
      show (if f (n + 1) < f i then f i - 1 else f i) < n
      split <;> omega
    · have c : ¬ f i = f (n + 1) := fun z => by have := h2 i (n + 1) (by omega) (by omega) z; omega
      have d : ¬ f j = f (n + 1) := fun z => by have := h2 j (n + 1) (by omega) (by omega) z; omega
      have e : (if f (n + 1) < f i then f i - 1 else f i) = (if f (n + 1) < f j then f j - 1 else f j) := e
      refine h2 i j (by omega) (by omega) ?_
      split at e <;> split at e <;> omega
theorem yOnto {n : Nat} {f : Nat → Nat} (h1 : ∀ i, i < n → f i < n) (h2 : ∀ i j, i < n → j < n → f i = f j → i = j) {t : Nat} (ht : t < n) : ∃ i, i < n ∧ f i = t := by
  refine Classical.byContradiction fun q => ?_
  obtain ⟨m, rfl⟩ : ∃ m, n = m + 1 := ⟨n - 1, by omega⟩
  have q' : ∀ i, i < m + 1 → ¬ f i = t := fun i hi z => q ⟨i, hi, z⟩
  refine yNoInj m (fun i => if t < f i then f i - 1 else f i) (fun i hi => ?_) (fun i j hi hj e => ?_)
  · have a := h1 i hi
    have b := q' i hi
    show (if t < f i then f i - 1 else f i) < m
    split <;> omega
  · have b := q' i hi
    have c := q' j hj
    have e : (if t < f i then f i - 1 else f i) = (if t < f j then f j - 1 else f j) := e
    refine h2 i j hi hj ?_
    split at e <;> split at e <;> omega
section LD
variable {g g' : xSt} {β n w : Nat} {T B : yT} {L : List Nat} {k a1 a2 a3 a4 a5 : Int32}
/-- the pair's number of a single weighing -/
def yPp (B : yT) (n i : Nat) : Nat := yPr n (yA B i) (yC B i)
theorem yBt_pp (hn : n ≤ 5) (hb : bkOK n B) {i : Nat} (hi : i < B 9 0) (h : ySg B i = true) : ∃ s, s < 3 ∧ yBt B n i = 10 * s + yPp B n i ∧ yPp B n i < 10 := by
  obtain ⟨a1, a2, a3, a4, -⟩ := r_td hn hb hi h
  refine ⟨if B 2 i = 0 ∨ yA B i < yC B i then B 2 i else 3 - B 2 i, by split <;> omega, rfl, ?_⟩
  have sym : ∀ a b, yPr n a b = yPr n b a := fun a b => by unfold yPr; rw [Nat.min_comm, Nat.max_comm]
  rcases Nat.lt_or_ge (yA B i) (yC B i) with c | c
  · exact yPr_lt n (by omega) _ a1 _ a2 c
  · unfold yPp; rw [sym]; exact yPr_lt n (by omega) _ a2 _ a1 (by omega)
theorem yPr_sym (n a b : Nat) : yPr n a b = yPr n b a := by unfold yPr; rw [Nat.min_comm, Nat.max_comm]
theorem yPr_eq {a b c d : Nat} (hn : n ≤ 5) (ha : a < n) (hb : b < n) (hc : c < n) (hd : d < n) (hab : a ≠ b) (hcd : c ≠ d) : yPr n a b = yPr n c d ↔ (a = c ∧ b = d) ∨ (a = d ∧ b = c) := by
  constructor
  · intro h
    rcases Nat.lt_or_ge a b with x | x
    · rcases Nat.lt_or_ge c d with y | y
      · exact Or.inl (yPr_inj n (by omega) a ha b hb c hc d hd x y h)
      · rw [yPr_sym n c d] at h
        exact Or.inr (yPr_inj n (by omega) a ha b hb d hd c hc x (by omega) h)
    · rw [yPr_sym n a b] at h
      rcases Nat.lt_or_ge c d with y | y
      · have := yPr_inj n (by omega) b hb a ha c hc d hd (by omega) y h
        exact Or.inr ⟨this.2, this.1⟩
      · rw [yPr_sym n c d] at h
        have := yPr_inj n (by omega) b hb a ha d hd c hc (by omega) (by omega) h
        exact Or.inl ⟨this.2, this.1⟩
  · rintro (⟨rfl, rfl⟩ | ⟨rfl, rfl⟩)
    · rfl
    · exact yPr_sym _ _ _
/-- whether the weighing has a thing t and one below j, as led asks -/
def yLe (B : yT) (t o j i : Nat) : Bool := decide ((yA B i = t ∧ yC B i < j ∧ (yC B i = o ∨ t = o)) ∨ (yC B i = t ∧ yA B i < j ∧ (yA B i = o ∨ t = o)))
theorem r_tally3 (hn : n ≤ 5) (hb : bkOK n B) (hh : yHd B k n (B 9 0) g) {p : Nat} (hp : p < 10) : (xat (xI g 73) 30 (nI p) + xat (xI g 73) 30 (10 + nI p)) + xat (xI g 73) 30 (20 + nI p) = nI (yCn (fun i => yTd B k i && (yPp B n i == p)) (B 9 0)) := by
  rw [show (10 : Int32) = nI 10 from rfl, show (20 : Int32) = nI 20 from rfl, nI_add, nI_add, xat_nI (by omega) (by decide), xat_nI (by omega) (by decide), xat_nI (by omega) (by decide), hh.1 _ (by omega), hh.1 _ (by omega), hh.1 _ (by omega), nI_add, nI_add]
  have e1 : yCn (fun i => yTd B k i && (yPp B n i == p)) (B 9 0) = yCn (fun i => yTd B k i && (yPp B n i == p) && decide (yBt B n i < 20)) (B 9 0) + yCn (fun i => yTd B k i && (yBt B n i == 20 + p)) (B 9 0) := by
    refine yCn_add fun o ho => ?_
    by_cases q : yTd B k o = true
    · obtain ⟨s, h1, h2, h3⟩ := yBt_pp hn hb ho (r_tdS q).2
      rw [h2]
      by_cases c : yPp B n o = p
      · have hs : s = 0 ∨ s = 1 ∨ s = 2 := by omega
        rcases hs with rfl | rfl | rfl
        · have : 10 * 0 + yPp B n o < 20 := by omega
          have z : ¬ 10 * 0 + yPp B n o = 20 + p := by omega
          simp [q, c]; omega
        · simp [q, c]; omega
        · simp [q, c]
      · have z : ¬ 10 * s + yPp B n o = 20 + p := by omega
        simp [c, z]
    · simp [q]
  have e2 : yCn (fun i => yTd B k i && (yPp B n i == p) && decide (yBt B n i < 20)) (B 9 0) = yCn (fun i => yTd B k i && (yBt B n i == p)) (B 9 0) + yCn (fun i => yTd B k i && (yBt B n i == 10 + p)) (B 9 0) := by
    refine yCn_add fun o ho => ?_
    by_cases q : yTd B k o = true
    · obtain ⟨s, h1, h2, h3⟩ := yBt_pp hn hb ho (r_tdS q).2
      rw [h2]
      by_cases c : yPp B n o = p
      · have hs : s = 0 ∨ s = 1 ∨ s = 2 := by omega
        rcases hs with rfl | rfl | rfl
        · simp [q, c]; omega
        · simp [q, c]; omega
        · simp [q, c]
      · have z : ¬ 10 * s + yPp B n o = 10 + p := by omega
        have z2 : ¬ 10 * s + yPp B n o = p := by omega
        simp [c, z, z2]
    · simp [q]
  rw [e1, e2]
theorem r_with (o : I_orders g n w) (hb : bkOK n B) (hh : yHd B k n (B 9 0) g) {t u : Nat} (ht : t < n) (hu : u < n) : E_X5_weighingsWith (nI t) (nI u) g = some (nI (yCn (fun i => yTd B k i && yLe B t u n i) (B 9 0))) := by
  have hn := o.1
  have e := xlim_of (step := S_X5_weighingsWith_5 (nI t) (nI u) g) (fun j => (nI (yCn (fun i => yTd B k i && yLe B t u j i) (B 9 0)), nI j)) n (e := nI (yCn (fun i => yTd B k i && yLe B t u n i) (B 9 0))) (fun j hj => ?_) ?_
  · unfold E_X5_weighingsWith
    rw [show ((0 : Int32), (0 : Int32)) = (nI (yCn (fun i => yTd B k i && yLe B t u 0 i) (B 9 0)), nI 0) by
      rw [yCn_zero.mpr]
      · rfl
      · intro i _; unfold yLe; simp]
    rw [e, xb1_some]
  · have same : (¬ (j ≠ t ∧ (j = u ∨ t = u))) → yCn (fun i => yTd B k i && yLe B t u (j + 1) i) (B 9 0) = yCn (fun i => yTd B k i && yLe B t u j i) (B 9 0) := by
      intro hz
      refine yCn_congr fun i hi => ?_
      by_cases q : yTd B k i = true
      · obtain ⟨a1, a2, a3, -⟩ := r_td hn hb hi (r_tdS q).2
        rw [q, Bool.true_and, Bool.true_and]
        unfold yLe
        rw [decide_eq_decide]
        omega
      · simp [q]
    have more : j ≠ t → (j = u ∨ t = u) → yCn (fun i => yTd B k i && yLe B t u (j + 1) i) (B 9 0) = yCn (fun i => yTd B k i && yLe B t u j i) (B 9 0) + yCn (fun i => yTd B k i && (yPp B n i == yPr n t j)) (B 9 0) := by
      intro h1 h2
      refine yCn_add fun i hi => ?_
      by_cases q : yTd B k i = true
      · obtain ⟨a1, a2, a3, -⟩ := r_td hn hb hi (r_tdS q).2
        have key := yPr_eq hn a1 a2 ht hj a3 (fun z => h1 z.symm)
        have kb : (yPp B n i == yPr n t j) = decide ((yA B i = t ∧ yC B i = j) ∨ (yA B i = j ∧ yC B i = t)) := by
          rw [Bool.eq_iff_iff, beq_iff_eq, decide_eq_true_iff]; exact key
        rw [q, Bool.true_and, Bool.true_and, Bool.true_and, kb]
        unfold yLe
        simp only [decide_eq_true_eq]
        repeat' split
        all_goals omega
      · simp [q]
    have hK : j ≠ t → K_X5_weighingsWith_31 (nI t) (nI u) (nI (yCn (fun i => yTd B k i && yLe B t u j i) (B 9 0))) (nI j) g = some (.inl (nI (yCn (fun i => yTd B k i && yLe B t u j i) (B 9 0) + yCn (fun i => yTd B k i && (yPp B n i == yPr n t j)) (B 9 0)), nI (j + 1))) := by
      intro h1
      have hp : yPr n t j < 10 := by
        rcases Nat.lt_or_ge t j with c | c
        · exact yPr_lt n (by omega) _ ht _ hj c
        · rw [yPr_sym]; exact yPr_lt n (by omega) _ hj _ ht (by omega)
      unfold K_X5_weighingsWith_31
      rw [o.2.2.1, r_pairOf n (by omega) t ht j hj (fun z => h1 z.symm), r_tally3 hn hb hh hp, nI_add, nI_1]
    unfold S_X5_weighingsWith_5
    simp only [o.2.2.1, if_neg (nI_ge hj (show n < 2 ^ 31 by omega)), nI_1]
    by_cases c1 : j = t
    · rw [if_pos (by rw [c1]), same (fun z => z.1 c1)]
    · rw [if_neg (fun z => c1 ((nI_eq (by omega) (by omega)).mp z)), hK c1]
      by_cases c2 : j = u
      · rw [if_pos (by rw [c2]), more c1 (Or.inl c2)]
      · rw [if_neg (fun z => c2 ((nI_eq (by omega) (by omega)).mp z))]
        by_cases c3 : t = u
        · rw [if_pos (by rw [c3]), more c1 (Or.inr c3)]
        · rw [if_neg (fun z => c3 ((nI_eq (by omega) (by omega)).mp z)), same (fun z => z.2.elim c2 c3)]
  · unfold S_X5_weighingsWith_5
    simp only [o.2.2.1]
    exact if_pos (nI_le (Nat.le_refl _) (by omega))
theorem r_both2 : ∀ a, a < 5 → ∀ c, c < 5 → ∀ t, t < 5 → ∀ u, u < 5 → (((nI (2 ^ a) ||| nI (2 ^ c)) &&& (nI (2 ^ t) ||| nI (2 ^ u))) = (nI (2 ^ t) ||| nI (2 ^ u)) ↔ (a = t ∨ c = t) ∧ (a = u ∨ c = u)) := by
  have key : ((List.range 5).all fun a => (List.range 5).all fun c => (List.range 5).all fun t => (List.range 5).all fun u => decide (((nI (2 ^ a) ||| nI (2 ^ c)) &&& (nI (2 ^ t) ||| nI (2 ^ u))) = (nI (2 ^ t) ||| nI (2 ^ u))) == decide ((a = t ∨ c = t) ∧ (a = u ∨ c = u))) = true := by decide +kernel
  intro a ha c hc t ht u hu
  simp only [List.all_eq_true, List.mem_range] at key
  have := key a ha c hc t ht u hu
  rw [beq_iff_eq, decide_eq_decide] at this
  exact this
theorem r_ledR (C : Cx g β T B) {t u : Nat} (ht : t < T 0 0) (hu : u < T 0 0) : E_X12_led (nI t) (nI u) k g = some (nI (yCn (fun i => yTd B k i && yLe B t u (T 0 0) i) (B 9 0))) := by
  have hn := C.2.2.2.1
  obtain ⟨hw, -, hr⟩ := C.2.2.1
  have h60 := hw.1
  unfold E_X12_led
  rw [(r_th1 C ht).2, xb1_some, if_neg (by decide), (r_th1 C hu).2, xb1_some, if_neg (by decide), r_1shl t (by omega), r_1shl u (by omega)]
  have e := xlim_of (step := S_X12_led_33 k (nI (2 ^ t) ||| nI (2 ^ u)) g) (fun j => (nI (yCn (fun i => yTd B k i && yLe B t u (T 0 0) i) j), nI j)) (B 9 0) (e := nI (yCn (fun i => yTd B k i && yLe B t u (T 0 0) i) (B 9 0))) (fun j hj => ?_) ?_
  · rw [show ((0 : Int32), (0 : Int32)) = (nI (yCn (fun i => yTd B k i && yLe B t u (T 0 0) i) 0), nI 0) from rfl, e, xb1_some]
  · unfold S_X12_led_33
    obtain ⟨k1, k2⟩ := r_ctR (k := k) hw hr hj
    have k3 := r_sgR hn hw hr hj
    have c0 : ¬ xI g 113 44 ≤ nI j := by rw [hr.1]; exact nI_ge hj (by omega)
    show _ = some (Sum.inl (nI (yCn (fun i => yTd B k i && yLe B t u (T 0 0) i) j + (if (yTd B k j && yLe B t u (T 0 0) j) then 1 else 0)), nI (j + 1)))
    simp only [if_neg c0, nI_1]
    by_cases q1 : yCt B j k
    · rw [k1 q1, xb1_some, if_neg (by decide), k3, xb1_some]
      by_cases q2 : ySg B j = true
      · obtain ⟨a1, a2, a3, a4, a5, a6, a7, a8⟩ := r_td hn hw hj q2
        obtain ⟨d1, d2, d3, -⟩ := hr.2.2.2.2.1 j hj
        have td : yTd B k j = true := by unfold yTd; simp [q1, q2]
        have b0 : B 0 j = 2 ^ yA B j := (r_s1 _ a5 a7).2.1
        have b1 : B 1 j = 2 ^ yC B j := (r_s1 _ a6 a8).2.1
        have key := r_both2 (yA B j) (by omega) (yC B j) (by omega) t (by omega) u (by omega)
        have key2 : yLe B t u (T 0 0) j = true ↔ (yA B j = t ∨ yC B j = t) ∧ (yA B j = u ∨ yC B j = u) := by
          unfold yLe; rw [decide_eq_true_iff]; omega
        rw [if_pos q2, if_neg (by decide)]
        simp only [xck_nI (show j < 60 by omega) (show (60 : Nat) < 2 ^ 31 by decide), nI_clamp (show j < 2 ^ 31 by omega), d1, d2, b0, b1]
        by_cases c : yLe B t u (T 0 0) j = true
        · rw [if_pos (key.mpr (key2.mp c)), if_pos (by simp [td, c]), nI_1]
        · rw [if_neg (fun z => c (key2.mpr (key.mp z))), if_neg (by simp [c]), Int32.add_zero] <;> rfl
      · rw [if_neg q2, if_pos rfl, if_neg (by unfold yTd; simp [q2]), Int32.add_zero] <;> rfl
    · rw [k2 q1, xb1_some, if_pos rfl, if_neg (by unfold yTd; simp [q1]), Int32.add_zero] <;> rfl
  · unfold S_X12_led_33
    simp only [hr.1]
    exact if_pos (nI_le (Nat.le_refl _) (by omega))
theorem r_O1 {v : Int32} {A : Option (Int32 × xSt)} {F : xSt → Option Int32} {g1 : xSt} (e1 : A = some (v, g1)) (e2 : F g1 = some v) : (xb2 A fun v1 g1 => xb1 (F g1) fun v2 => some (decide (v1 = v2), g1)) = some (true, g1) := by
  rw [e1, xb2_some, e2, xb1_some, decide_eq_true rfl]
theorem op_26 (C : Cx g β T B) (hs : I_shelf g) : ∃ g', O_26 a1 a2 a3 a4 a5 g = some (true, g') ∧ yAg dAS g g' ∧ I_shelf g' := by
  rcases r_thing (a1 := a1) C with ⟨p1, p2⟩ | ⟨t, ht, rfl⟩
  · exact ⟨g, r_O1 (v := -1) (by unfold E_X11_led; rw [if_pos p1]) (by unfold E_X12_led; rw [p2, xb1_some, if_pos rfl]), yAg.refl _ _, hs⟩
  · rcases r_thing (a1 := a2) C with ⟨q1, q2⟩ | ⟨u, hu, rfl⟩
    · exact ⟨g, r_O1 (v := -1) (by unfold E_X11_led; rw [(r_th1 C ht).1, if_neg (by decide), if_pos q1]) (by unfold E_X12_led; rw [(r_th1 C ht).2, xb1_some, if_neg (by decide), q2, xb1_some, if_pos rfl]), yAg.refl _ _, hs⟩
    · obtain ⟨c1, c2, c3, c4⟩ := id C
      obtain ⟨g1, h1, h2, h3⟩ := r_heed (k := a3) c4.1 c3.1 c3.2.1 c4.2.2.1
      have C1 := C.as (h2.up dHd_A).A
      refine ⟨g1, r_O1 ?_ (r_ledR C1 ht hu), (h2.up dHd_A).A, hs.aA (h2.up dHd_A)⟩
      unfold E_X11_led
      rw [(r_th1 C ht).1, if_neg (by decide), (r_th1 C hu).1, if_neg (by decide), h1, xb1_some, r_with C1.2.2.2 c3.1 h3 ht hu, xb1_some]
/-! the mark of a row of places -/
theorem r_dif2 {x y : Nat} (hx : x < 10000) (hy : y < 10000) : (0 ≤ nI x - nI y ↔ y ≤ x) ∧ (nI x - nI y ≤ 0 ↔ x ≤ y) := by
  have e := r_diff hx hy
  rw [Int32.le_iff_toInt_le, Int32.le_iff_toInt_le, e, show (0 : Int32).toInt = 0 from rfl]
  omega
theorem r_markOfDigits (h0 : xI g 69 0 = nI n) (hn : n ≤ 5) {d : Nat → Nat} (hd : ∀ t, t < n → xI g 75 t = nI (d t) ∧ d t < 10000) : E_X5_markOfDigits g = some (nI (yMf n d)) := by
  have e := xlim_of (step := S_X5_markOfDigits_4 g) (fun a => (nI (yOf (fun a => yOf (fun b => if a < b then 2 ^ yBit n a b (ySf d a b) else 0) n) a), nI a)) n (e := nI (yMf n d)) (fun a ha => ?_) ?_
  · unfold E_X5_markOfDigits
    exact congrArg (fun o => xb1 o fun e_1 => some e_1) e
  · show _ = some (Sum.inl (nI (yOf (fun a => yOf (fun b => if a < b then 2 ^ yBit n a b (ySf d a b) else 0) n) a ||| yOf (fun b => if a < b then 2 ^ yBit n a b (ySf d a b) else 0) n), nI (a + 1)))
    generalize yOf (fun a => yOf (fun b => if a < b then 2 ^ yBit n a b (ySf d a b) else 0) n) a = x
    have e2 := xlim_from (step := S_X5_markOfDigits_16 (nI a) g) (fun b => (nI (x ||| yOf (fun b => if a < b then 2 ^ yBit n a b (ySf d a b) else 0) b), nI b)) (a + 1) n (by omega) (e := nI (x ||| yOf (fun b => if a < b then 2 ^ yBit n a b (ySf d a b) else 0) n)) (fun b hb1 hb => ?_) ?_
    · have z : yOf (fun b => if a < b then 2 ^ yBit n a b (ySf d a b) else 0) (a + 1) = 0 := by
        have : ∀ m, m ≤ a + 1 → yOf (fun b => if a < b then 2 ^ yBit n a b (ySf d a b) else 0) m = 0 := by
          intro m
          induction m with
          | zero => intro _; rfl
          | succ m ih =>
            intro hm
            show yOf _ m ||| (if a < m then _ else 0) = 0
            rw [ih (by omega), if_neg (by omega), Nat.or_zero]
        exact this _ (Nat.le_refl _)
      rw [z, Nat.or_zero] at e2
      unfold S_X5_markOfDigits_4
      simp only [h0, if_neg (nI_ge ha (show n < 2 ^ 31 by omega)), nI_1]
      rw [e2, xb1_some]
    · obtain ⟨d1, d2⟩ := hd a ha
      obtain ⟨d3, d4⟩ := hd b hb
      obtain ⟨x1, x2⟩ := r_dif2 d2 d4
      have hK : ∀ s, s < 3 → K_X5_markOfDigits_62 (nI (x ||| yOf (fun b => if a < b then 2 ^ yBit n a b (ySf d a b) else 0) b)) (nI a) (nI b) (nI s) g = some (.inl (nI ((x ||| yOf (fun b => if a < b then 2 ^ yBit n a b (ySf d a b) else 0) b) ||| 2 ^ yBit n a b s), nI (b + 1))) := by
        intro s hs
        have hx := yBit_lt n (by omega) a ha b hb s hs (by omega)
        unfold K_X5_markOfDigits_62
        rw [h0, r_bitOf n (by omega) a ha b hb s hs (by omega), r_1shl _ (by omega), r_orG, nI_1]
      have hK0 := hK 0 (by decide)
      have hK1 := hK 1 (by decide)
      have hK2 := hK 2 (by decide)
      unfold S_X5_markOfDigits_16
      simp only [h0, if_neg (nI_ge hb (show n < 2 ^ 31 by omega)), xat_nI (show a < 5 by omega) (show (5 : Nat) < 2 ^ 31 by decide), xat_nI (show b < 5 by omega) (show (5 : Nat) < 2 ^ 31 by decide), d1, d3]
      show _ = some (Sum.inl (nI (x ||| (yOf (fun b => if a < b then 2 ^ yBit n a b (ySf d a b) else 0) b ||| (if a < b then 2 ^ yBit n a b (ySf d a b) else 0))), nI (b + 1)))
      rw [if_pos (show a < b by omega), ← Nat.or_assoc]
      generalize yOf (fun b => if a < b then 2 ^ yBit n a b (ySf d a b) else 0) b = Y at hK0 hK1 hK2 ⊢
      unfold ySf
      by_cases c1 : d a < d b
      · rw [if_neg (show ¬ (0 : Int32) ≤ _ from fun z => by have := x1.mp z; omega), if_pos c1]; exact hK1
      · rw [if_pos (x1.mpr (by omega)), if_neg c1]
        by_cases c2 : d b < d a
        · rw [if_neg (fun z => by have := x2.mp z; omega), if_pos c2]; exact hK2
        · rw [if_pos (x2.mpr (by omega)), if_neg c2]; exact hK0
    · unfold S_X5_markOfDigits_16
      simp only [h0]
      exact if_pos (nI_le (Nat.le_refl _) (by omega))
  · unfold S_X5_markOfDigits_4
    simp only [h0]
    exact if_pos (nI_le (Nat.le_refl _) (by omega))
/-- where a thing stands in the clerk's row -/
def yPos (n : Nat) (T : yT) (t : Nat) : Nat := ((List.range n).find? fun p => T 2 p == t).getD 0
theorem yPos_i (ht : twOK T) {t : Nat} (h : t < T 0 0) : yPos (T 0 0) T t < T 0 0 ∧ T 2 (yPos (T 0 0) T t) = t := by
  obtain ⟨-, -, -, -, -, -, h1, h2, -⟩ := ht
  obtain ⟨i, hi, e⟩ := yOnto h1 h2 h
  unfold yPos
  cases hf : (List.range (T 0 0)).find? (fun p => T 2 p == t) with
  | none =>
    have := List.find?_eq_none.mp hf i (List.mem_range.mpr hi)
    simp [e] at this
  | some p =>
    have a := List.find?_some hf
    have b := List.mem_of_find?_eq_some hf
    exact ⟨List.mem_range.mp b, beq_iff_eq.mp a⟩
theorem yPos_u (ht : twOK T) {p : Nat} (h : p < T 0 0) : yPos (T 0 0) T (T 2 p) = p := by
  have h1 := ht.2.2.2.2.2.2.1 p h
  have := yPos_i ht h1
  exact ht.2.2.2.2.2.2.2.1 _ _ this.1 h this.2
def dDg (o k : Nat) : Prop := o = 75
theorem dDg_A : ∀ o k, dDg o k → dA o k := fun o k h => by unfold dDg at h; unfold dA; omega
theorem r_markOfRow (C : Cx g β T B) : ∃ g', E_X5_markOfRow (tw g + 3) g = some (nI (yMf (T 0 0) (yPos (T 0 0) T)), g') ∧ yAg dDg g g' := by
  have hn := C.2.2.2.1
  have htw := xtw_lt C.1
  have ht := C.2.1.1
  have key : ∀ m j g1, m + j = T 0 0 → yAg dDg g g1 → (∀ p, p < j → xI g1 75 (T 2 p) = nI p) → ∃ g', xlim (S_X5_markOfRow_2 (tw g + 3)) (nI j, g1) = some g' ∧ yAg dDg g g' ∧ ∀ p, p < T 0 0 → xI g' 75 (T 2 p) = nI p := by
    intro m
    induction m with
    | zero =>
      intro j g1 hj y q
      have : j = T 0 0 := by omega
      have C1 := C.as (y.up dDg_A).A
      refine ⟨g1, xlim_end ?_, y, this ▸ q⟩
      unfold S_X5_markOfRow_2
      simp only [C1.2.2.2.2.2.1]
      exact if_pos (nI_le (by omega) (by omega))
    | succ m ih =>
      intro j g1 hj y q
      have hjn : j < T 0 0 := by omega
      have C1 := C.as (y.up dDg_A).A
      have r3 : xI g1 (tw g + 3) j = nI (T 2 j) := (y.2 _ _ (by unfold dDg; omega)).trans (C.2.1.2.1.2.2.2.2.2.2.1 j hjn)
      have hT := ht.2.2.2.2.2.2.1 j hjn
      have st : S_X5_markOfRow_2 (tw g + 3) (nI j, g1) = some (.inl (nI (j + 1), xWI g1 75 (T 2 j) (nI j))) := by
        unfold S_X5_markOfRow_2
        simp only [C1.2.2.2.2.2.1, if_neg (nI_ge hjn (show T 0 0 < 2 ^ 31 by omega)), xat_nI (show j < 5 by omega) (show (5 : Nat) < 2 ^ 31 by decide), r3, xput_nI (show T 2 j < 5 by omega) (show (5 : Nat) < 2 ^ 31 by decide), nI_1]
      obtain ⟨g', r1, r2⟩ := ih (j + 1) (xWI g1 75 (T 2 j) (nI j)) (by omega) (y.wi rfl) (fun p hp => by
        rw [yI_wi]
        by_cases e : T 2 p = T 2 j
        · have := ht.2.2.2.2.2.2.2.1 p j (by omega) hjn e
          rw [if_pos ⟨rfl, e⟩, this]
        · rw [if_neg (fun z => e z.2)]
          refine q p ?_
          by_cases z : p = j
          · subst z; exact absurd rfl e
          · omega)
      exact ⟨g', (xlim_go st).trans r1, r2⟩
  obtain ⟨g', r1, r2, r3⟩ := key (T 0 0) 0 g (by omega) (yAg.refl _ _) (fun p hp => by omega)
  have C1 := C.as (r2.up dDg_A).A
  refine ⟨g', ?_, r2⟩
  unfold E_X5_markOfRow
  rw [show xlim (S_X5_markOfRow_2 (tw g + 3)) (0, g) = some g' from r1, xb1_some, r_markOfDigits C1.2.2.2.2.2.1 hn (d := yPos (T 0 0) T) (fun t h => ?_), xb1_some]
  obtain ⟨p1, p2⟩ := yPos_i ht h
  have := r3 _ p1
  rw [p2] at this
  exact ⟨this, by omega⟩
theorem r_inRow (C : Cx g β T B) {t : Nat} (h : t < T 0 0) : E_X12_placeInRow (nI t) g = some (nI (yPos (T 0 0) T t)) := by
  have hn := C.2.2.2.1
  have ht := C.2.1.1
  obtain ⟨p1, p2⟩ := yPos_i ht h
  have hβ := C.2.1.2.2.1
  have row : ∀ j, j < T 0 0 → S_X12_placeInRow_2 (nI t) g (nI j) = if T 2 j = t then some (.inr (nI j)) else some (.inl (nI (j + 1))) := by
    intro j hj
    have hT := ht.2.2.2.2.2.2.1 j hj
    unfold S_X12_placeInRow_2
    rw [C.2.1.2.2.2.1, show (5 : Int32) = nI 5 from rfl, nI_mul, nI_add, xck_nI (by omega) (by decide), nI_clamp (by omega), C.2.1.2.2.2.2.2.2.2.2.2.2.1 j hj, nI_1]
    by_cases c : T 2 j = t
    · rw [if_pos c, if_pos (by rw [c])]
    · rw [if_neg c, if_neg (fun z => c ((nI_eq (by omega) (by omega)).mp z))]
  have e := xlim_of (step := S_X12_placeInRow_2 (nI t) g) (fun j => nI j) (yPos (T 0 0) T t) (e := nI (yPos (T 0 0) T t)) (fun j hj => ?_) ?_
  · unfold E_X12_placeInRow
    rw [show (0 : Int32) = nI 0 from rfl, e, xb1_some]
  · rw [row j (by omega), if_neg]
    intro z
    have := ht.2.2.2.2.2.2.2.1 j _ (by omega) p1 (z.trans p2.symm)
    omega
  · rw [row _ p1, if_pos p2]
theorem op_27 (C : Cx g β T B) (hs : I_shelf g) : ∃ g', O_27 a1 a2 a3 a4 a5 g = some (true, g') ∧ yAg dAS g g' ∧ I_shelf g' := by
  have hn := C.2.2.2.1
  obtain ⟨c1, c2, c3, c4⟩ := id C
  have h60 := c3.1.1
  obtain ⟨g1, h1, h2, h3⟩ := r_heed (k := a1) c4.1 c3.1 c3.2.1 c4.2.2.1
  have C1 := C.as (h2.up dHd_A).A
  obtain ⟨g2, m1, m2⟩ := r_markOfRow C1
  have C2 := C1.as (m2.up dDg_A).A
  have h3' : yHd B a1 (T 0 0) (B 9 0) g2 := ⟨fun b hb => (m2.2 _ _ (by unfold dDg; omega)).trans (h3.1 b hb), (m2.2 _ _ (by unfold dDg; omega)).trans h3.2.1, (m2.2 _ _ (by unfold dDg; omega)).trans h3.2.2⟩
  have hmk := yMf_lt hn (yPos (T 0 0) T)
  have ms := r_missesBy (show yMf (T 0 0) (yPos (T 0 0) T) < 2 ^ 31 by omega) h3'
  have y := (h2.up dHd_A).tr (m2.up dDg_A)
  refine ⟨g2, r_O1 (v := nI (yCn (fun i => yTd B a1 i && !(decide (yBt B (T 0 0) i < 30) && (yMf (T 0 0) (yPos (T 0 0) T)).testBit (yBt B (T 0 0) i))) (B 9 0))) (g1 := g2) ?_ ?_, y.A, hs.aA y⟩
  · unfold E_X11_doubts
    rw [h1, xb1_some, m1, xb2_some, ms, xb1_some]
  · obtain ⟨hw, -, hr⟩ := C2.2.2.1
    unfold E_X12_doubts
    have e := xlim_of (step := S_X12_doubts_4 a1 g2) (fun j => (nI (yCn (fun i => yTd B a1 i && !(decide (yBt B (T 0 0) i < 30) && (yMf (T 0 0) (yPos (T 0 0) T)).testBit (yBt B (T 0 0) i))) j), nI j)) (B 9 0) (e := nI (yCn (fun i => yTd B a1 i && !(decide (yBt B (T 0 0) i < 30) && (yMf (T 0 0) (yPos (T 0 0) T)).testBit (yBt B (T 0 0) i))) (B 9 0))) (fun j hj => ?_) ?_
    · exact congrArg (fun o => xb1 o fun e_1 => some e_1) e
    · unfold S_X12_doubts_4
      obtain ⟨k1, k2⟩ := r_ctR (k := a1) hw hr hj
      have k3 := r_sgR hn hw hr hj
      have c0 : ¬ xI g2 113 44 ≤ nI j := by rw [hr.1]; exact nI_ge hj (by omega)
      rw [yCn_succ]
      generalize yCn (fun i => yTd B a1 i && !(decide (yBt B (T 0 0) i < 30) && (yMf (T 0 0) (yPos (T 0 0) T)).testBit (yBt B (T 0 0) i))) j = X
      simp only [if_neg c0, nI_1]
      by_cases q1 : yCt B j a1
      · rw [k1 q1, xb1_some, if_neg (by decide), k3, xb1_some]
        by_cases q2 : ySg B j = true
        · obtain ⟨b1, b2, b3, b4, b5, b6, b7, b8⟩ := r_td hn hw hj q2
          obtain ⟨d1, d2, d3, -⟩ := hr.2.2.2.2.1 j hj
          have td : yTd B a1 j = true := by unfold yTd; simp [q1, q2]
          have bt := yBt_lt hn hw hj q2
          obtain ⟨pa1, pa2⟩ := yPos_i C2.2.1.1 b1
          obtain ⟨pc1, pc2⟩ := yPos_i C2.2.1.1 b2
          have key := yMf_bit (s := B 2 j) hn (yPos (T 0 0) T) b1 b2 b3 b4
          have pne : yPos (T 0 0) T (yA B j) ≠ yPos (T 0 0) T (yC B j) := fun z => b3 (by rw [← pa2, ← pc2, z])
          rw [if_pos q2, if_neg (by decide)]
          simp only [xck_nI (show j < 60 by omega) (show (60 : Nat) < 2 ^ 31 by decide), nI_clamp (show j < 2 ^ 31 by omega), d1, d2, r_lowest b5 b7, r_lowest b6 b8, xb1_some]
          rw [show nI (Nat.log2 (B 0 j)) = nI (yA B j) from rfl, show nI (Nat.log2 (B 1 j)) = nI (yC B j) from rfl, r_inRow C2 b1, xb1_some, r_inRow C2 b2, xb1_some]
          unfold K_X12_doubts_66
          rw [xck_nI (by omega) (by decide), nI_clamp (by omega), d3, nI_1]
          have sv : (if nI (yPos (T 0 0) T (yC B j)) ≤ nI (yPos (T 0 0) T (yA B j)) then (2 : Int32) else 1) = nI (ySf (yPos (T 0 0) T) (yA B j) (yC B j)) := by
            unfold ySf
            by_cases c : yPos (T 0 0) T (yC B j) ≤ yPos (T 0 0) T (yA B j)
            · rw [if_pos (nI_le c (by omega)), if_neg (by omega), if_pos (by omega)]; rfl
            · rw [if_neg (fun z => c ((nI_leI (by omega) (by omega)).mp z)), if_pos (by omega)]; rfl
          rw [sv]
          have hle := ySf_le (yPos (T 0 0) T) (yA B j) (yC B j)
          by_cases c : ySf (yPos (T 0 0) T) (yA B j) (yC B j) = B 2 j
          · have kc := key.mpr c
            rw [if_pos (by rw [c]), if_neg, Int32.add_zero] <;> try rfl
            rw [show yBt B (T 0 0) j = yBit (T 0 0) (yA B j) (yC B j) (B 2 j) from rfl, kc, decide_eq_true (show yBit (T 0 0) (yA B j) (yC B j) (B 2 j) < 30 from bt)]
            simp
          · have kc : ¬ _ := fun z => c (key.mp z)
            rw [if_neg (fun z => c ((nI_eq (by omega) (by omega)).mp z)), if_pos, nI_1]
            rw [show yBt B (T 0 0) j = yBit (T 0 0) (yA B j) (yC B j) (B 2 j) from rfl, Bool.eq_false_iff.mpr kc, td]
            simp
        · rw [if_neg q2, if_pos rfl, if_neg (by unfold yTd; simp [q2])] <;> rfl
      · rw [k2 q1, xb1_some, if_pos rfl, if_neg (by unfold yTd; simp [q1])] <;> rfl
    · unfold S_X12_doubts_4
      simp only [hr.1]
      exact if_pos (nI_le (Nat.le_refl _) (by omega))
end LD
