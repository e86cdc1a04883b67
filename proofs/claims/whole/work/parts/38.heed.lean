/-! THE SINGLE WEIGHINGS that count: heed, missesBy, wrongBy -/
def yCtD (B : yT) (i : Nat) (k : Int32) : Decidable (yCt B i k) := inferInstanceAs (Decidable (_ ∧ _ ∧ _))
def yS1 (x : Nat) : Bool := (List.range 5).any fun t => x == 2 ^ t
def yA (B : yT) (i : Nat) : Nat := Nat.log2 (B 0 i)
def yC (B : yT) (i : Nat) : Nat := Nat.log2 (B 1 i)
def ySg (B : yT) (i : Nat) : Bool := yS1 (B 0 i) && yS1 (B 1 i)
/-- a single weighing that counts -/
def yTd (B : yT) (k : Int32) (i : Nat) : Bool := @decide (yCt B i k) (yCtD B i k) && ySg B i
def yBt (B : yT) (n i : Nat) : Nat := yBit n (yA B i) (yC B i) (B 2 i)
def yAsk (B : yT) (k : Int32) (n : Nat) : Nat → Nat
  | 0 => 0
  | j + 1 => if yTd B k j then yAsk B k n j ||| 2 ^ yBt B n j else yAsk B k n j
/-- how many of them an order makes wrong -/
def yWr (B : yT) (k : Int32) (v m : Nat) : Nat := yCn (fun i => yTd B k i && !(ySd v (yA B i) (yC B i) == B 2 i)) m
def yPop (x : Nat) : Nat := ySum (fun t => if x.testBit t then 1 else 0) 31
theorem r_bci1 : ∀ x, x < 32 → (xbci (nI x) = 1 ↔ yS1 x = true) := by decide +kernel
theorem r_pop1 : ∀ x, x < 32 → (nI (yPop x) = 1 ↔ yS1 x = true) := by decide +kernel
theorem r_s1 : ∀ x, x < 32 → yS1 x = true → xlow (Int32.toInt64 (nI x)) = nI (Nat.log2 x) ∧ x = 2 ^ Nat.log2 x ∧ Nat.log2 x < 5 := by decide +kernel
theorem r_log : ∀ n, n < 6 → ∀ x, x < 2 ^ n → yS1 x = true → Nat.log2 x < n := by decide +kernel
theorem r_low : ∀ a, a < 5 → ∀ j, j < a → (nI (2 ^ a) >>> (nI j &&& 31)) &&& 1 = 0 := by decide +kernel
theorem r_low2 : ∀ a, a < 5 → ¬ (nI (2 ^ a) >>> (nI a &&& 31)) &&& 1 = 0 := by decide +kernel
theorem yCn_add {p q r : Nat → Bool} {m : Nat} (h : ∀ o, o < m → (if p o then 1 else 0) = (if q o then 1 else 0) + (if r o then 1 else 0)) : yCn p m = yCn q m + yCn r m := by
  induction m with
  | zero => rfl
  | succ m ih =>
    have i := ih (fun o ho => h o (by omega))
    have hm := h m (by omega)
    rw [yCn_succ, yCn_succ, yCn_succ]
    omega
section HD
variable {g g' : xSt} {n m i : Nat} {B : yT} {k : Int32}
theorem r_bitsOf {x : Nat} (hx : x < 32) : E_X12_bitsOf (nI x) g = some (nI (yPop x)) := by
  unfold E_X12_bitsOf
  have e := xlim_of (step := S_X12_bitsOf_4 (nI x) g) (fun j => (nI (ySum (fun t => if x.testBit t then 1 else 0) j), nI j)) 31 (e := nI (yPop x)) (fun j hj => ?_) ?_
  · rw [show ((0 : Int32), (0 : Int32)) = (nI (ySum (fun t => if x.testBit t then 1 else 0) 0), nI 0) from rfl, e, xb1_some]
  · unfold S_X12_bitsOf_4
    have h31 : ¬ (31 : Int32) ≤ nI j := by rw [show (31 : Int32) = nI 31 from rfl]; exact nI_ge hj (by decide)
    simp only [if_neg h31, r_bitG (show x < 2 ^ 31 by omega) (show j < 32 by omega), nI_1]
    show some (Sum.inl (nI (ySum (fun t => if x.testBit t then 1 else 0) j) + (if x.testBit j then 1 else 0), nI (j + 1))) = some (Sum.inl (nI (ySum (fun t => if x.testBit t then 1 else 0) j + (if x.testBit j then 1 else 0)), nI (j + 1)))
    by_cases q : x.testBit j = true
    · rw [if_pos q, if_pos q, nI_1]
    · rw [if_neg q, if_neg q, Int32.add_zero]; rfl
  · unfold S_X12_bitsOf_4
    exact if_pos (show (31 : Int32) ≤ nI 31 by decide)
theorem r_lowest {x : Nat} (hx : x < 32) (h : yS1 x = true) : E_X12_lowest (nI x) g = some (nI (Nat.log2 x)) := by
  obtain ⟨-, h2, h3⟩ := r_s1 x hx h
  unfold E_X12_lowest
  have e := xlim_of (step := S_X12_lowest_2 (nI x) g) (fun j => nI j) (Nat.log2 x) (e := nI (Nat.log2 x)) (fun j hj => ?_) ?_
  · rw [show (0 : Int32) = nI 0 from rfl, e, xb1_some]
  · unfold S_X12_lowest_2
    rw [if_pos, nI_1]
    have := r_low _ h3 j hj
    rw [← h2] at this
    exact this
  · unfold S_X12_lowest_2
    rw [if_neg]
    have := r_low2 _ h3
    rw [← h2] at this
    exact this
theorem r_x32 (hn : n ≤ 5) {x : Nat} (h : x < 2 ^ n) : x < 32 := Nat.lt_of_lt_of_le h (Nat.pow_le_pow_right (n := 2) (by decide) (show n ≤ 5 from hn))
theorem r_sgC (hn : n ≤ 5) (hw : bkOK n B) (h : bkC g 32 n B) (hi : i < B 9 0) : F_X0_isSingle g 32 (nI i) = if ySg B i then 1 else 0 := by
  have hm := hw.1
  obtain ⟨c1, c2, -⟩ := hw.2.2.2.2.1 i hi
  obtain ⟨d1, d2, -⟩ := h.2.2.2.2.1 i hi
  unfold F_X0_isSingle ySg
  rw [xat_nI (by omega) (by decide), xat_nI (by omega) (by decide), d1, d2]
  have p1 := r_bci1 _ (r_x32 hn c1.2)
  have p2 := r_bci1 _ (r_x32 hn c2.2)
  by_cases q1 : yS1 (B 0 i) = true
  · rw [if_pos (p1.mpr q1)]
    by_cases q2 : yS1 (B 1 i) = true
    · rw [if_pos (p2.mpr q2), if_pos (by simp [q1, q2])]
    · rw [if_neg (fun z => q2 (p2.mp z)), if_neg (by simp [q2])]
  · rw [if_neg (fun z => q1 (p1.mp z)), if_neg (by simp [q1])]
theorem r_sgR (hn : n ≤ 5) (hw : bkOK n B) (h : bkR g n B) (hi : i < B 9 0) : E_X12_isSingle (nI i) g = some (if ySg B i then 1 else 0) := by
  have hm := hw.1
  obtain ⟨c1, c2, -⟩ := hw.2.2.2.2.1 i hi
  obtain ⟨d1, d2, -⟩ := h.2.2.2.2.1 i hi
  unfold E_X12_isSingle ySg
  simp only [xck_nI (show i < 60 by omega) (show (60 : Nat) < 2 ^ 31 by decide), nI_clamp (show i < 2 ^ 31 by omega), d1, d2, r_bitsOf (r_x32 hn c1.2), r_bitsOf (r_x32 hn c2.2), xb1_some]
  have p1 := r_pop1 _ (r_x32 hn c1.2)
  have p2 := r_pop1 _ (r_x32 hn c2.2)
  by_cases q1 : yS1 (B 0 i) = true
  · rw [if_pos (p1.mpr q1)]
    by_cases q2 : yS1 (B 1 i) = true
    · rw [if_pos (p2.mpr q2), if_pos (by simp [q1, q2])]; exact xz01_in (Or.inr rfl)
    · rw [if_neg (fun z => q2 (p2.mp z)), if_neg (by simp [q2])]; exact xz01_in (Or.inl rfl)
  · rw [if_neg (fun z => q1 (p1.mp z)), if_neg (by simp [q1])]
/-- what is told of two things -/
theorem r_td (hn : n ≤ 5) (hw : bkOK n B) (hi : i < B 9 0) (h : ySg B i = true) : yA B i < n ∧ yC B i < n ∧ yA B i ≠ yC B i ∧ B 2 i < 3 ∧ B 0 i < 32 ∧ B 1 i < 32 ∧ yS1 (B 0 i) = true ∧ yS1 (B 1 i) = true := by
  obtain ⟨c1, c2, c3, c4, -⟩ := hw.2.2.2.2.1 i hi
  unfold ySg at h
  rw [Bool.and_eq_true] at h
  obtain ⟨h1, h2⟩ := h
  refine ⟨r_log n (by omega) _ c1.2 h1, r_log n (by omega) _ c2.2 h2, fun e => ?_, by omega, r_x32 hn c1.2, r_x32 hn c2.2, h1, h2⟩
  have e1 := (r_s1 _ (r_x32 hn c1.2) h1).2.1
  have e2 := (r_s1 _ (r_x32 hn c2.2) h2).2.1
  unfold yA yC at e
  rw [← e, ← e1] at e2
  rw [e2, Nat.and_self] at c3
  omega
theorem r_tdS (h : yTd B k i = true) : yCt B i k ∧ ySg B i = true := by
  unfold yTd at h
  rw [Bool.and_eq_true] at h
  exact ⟨@of_decide_eq_true _ (yCtD B i k) h.1, h.2⟩
theorem yBt_lt (hn : n ≤ 5) (hw : bkOK n B) (hi : i < B 9 0) (h : ySg B i = true) : yBt B n i < 30 := by
  obtain ⟨c1, c2, c3, c4, -⟩ := r_td hn hw hi h
  exact yBit_lt n (by omega) _ c1 _ c2 _ c4 c3
theorem yAsk_lt (hn : n ≤ 5) (hw : bkOK n B) : ∀ j, j ≤ B 9 0 → yAsk B k n j < 2 ^ 30 := by
  intro j
  induction j with
  | zero => intro _; exact Nat.two_pow_pos 30
  | succ j ih =>
    intro hj
    show (if yTd B k j then yAsk B k n j ||| 2 ^ yBt B n j else yAsk B k n j) < _
    split
    · rename_i q
      exact Nat.or_lt_two_pow (ih (by omega)) (Nat.pow_lt_pow_right (by decide) (yBt_lt hn hw (by omega) (r_tdS q).2))
    · exact ih (by omega)
theorem yAsk_bit (b : Nat) : ∀ j, (yAsk B k n j).testBit b = true ↔ ∃ i, i < j ∧ yTd B k i = true ∧ yBt B n i = b := by
  intro j
  induction j with
  | zero => simp [yAsk]
  | succ j ih =>
    show (if yTd B k j then yAsk B k n j ||| 2 ^ yBt B n j else yAsk B k n j).testBit b = true ↔ _
    by_cases q : yTd B k j = true
    · rw [if_pos q, Nat.testBit_or, Bool.or_eq_true, ih, Nat.testBit_two_pow, decide_eq_true_iff]
      refine ⟨fun z => z.elim (fun ⟨i, h1, h2, h3⟩ => ⟨i, by omega, h2, h3⟩) (fun e => ⟨j, by omega, q, e⟩), fun ⟨i, h1, h2, h3⟩ => ?_⟩
      by_cases e : i = j
      · subst e; exact Or.inr h3
      · exact Or.inl ⟨i, by omega, h2, h3⟩
    · rw [if_neg q, ih]
      refine ⟨fun ⟨i, h1, h2, h3⟩ => ⟨i, by omega, h2, h3⟩, fun ⟨i, h1, h2, h3⟩ => ⟨i, ?_, h2, h3⟩⟩
      by_cases e : i = j
      · subst e; exact absurd h2 q
      · omega
/-- what heed leaves behind j weighings -/
def yHd (B : yT) (k : Int32) (n : Nat) (j : Nat) (g : xSt) : Prop := (∀ b, b < 30 → xI g 73 b = nI (yCn (fun i => yTd B k i && (yBt B n i == b)) j)) ∧ xI g 69 7 = nI (yAsk B k n j) ∧ xI g 69 8 = nI (yCn (yTd B k) j)
def dHd (o k : Nat) : Prop := o = 73 ∨ (o = 69 ∧ (k = 7 ∨ k = 8))
theorem bkC.hd {D : Nat → Nat → Prop} (h : bkC g 32 n B) (a : yAg D g g') (hD : ∀ o k, 32 ≤ o → o ≤ 40 → ¬ D o k) : bkC g' 32 n B := h.ag a (fun j k hj _ => hD _ _ (by omega) (by omega))
theorem r_heedL (hn : n ≤ 5) (hw : bkOK n B) : ∀ m j g, m + j = B 9 0 → bkC g 32 n B → xI g 69 0 = nI n → yHd B k n j g → ∃ g', xlim (S_X5_heed_20 k) (nI j, g) = some g' ∧ yAg dHd g g' ∧ yHd B k n (B 9 0) g' := by
  intro m
  have h60 := hw.1
  induction m with
  | zero =>
    intro j g hj hc h0 hp
    have : j = B 9 0 := by omega
    subst this
    refine ⟨g, xlim_end ?_, yAg.refl _ _, hp⟩
    unfold S_X5_heed_20
    simp only [hc.1]
    exact if_pos (nI_le (Nat.le_refl _) (by omega))
  | succ m ih =>
    intro j g hj hc h0 hp
    have hjm : j < B 9 0 := by omega
    obtain ⟨k1, k2⟩ := r_ctC (k := k) hw hc hjm
    have k3 := r_sgC hn hw hc hjm
    have c0 : ¬ xI g 32 0 ≤ nI j := by rw [hc.1]; exact nI_ge hjm (by omega)
    by_cases q : yTd B k j = true
    · obtain ⟨q1, q2⟩ := r_tdS q
      obtain ⟨a1, a2, a3, a4, a5, a6, a7, a8⟩ := r_td hn hw hjm q2
      have b1 := r_bitOf (g := g) n (by omega) _ a1 _ a2 _ a4 a3
      obtain ⟨p1, p2, p3⟩ := hp
      obtain ⟨d1, d2, d3, -⟩ := hc.2.2.2.2.1 j hjm
      have bt : F_X5_bitOf g (nI n) (nI (yA B j)) (nI (yC B j)) (nI (B 2 j)) = nI (yBt B n j) := b1
      have b2 : yBt B n j < 30 := yBt_lt hn hw hjm q2
      have cnt := yCn_le (yTd B k) j
      have st : S_X5_heed_20 k (nI j, g) = some (.inl (nI (j + 1), xWI (xWI (xWI g 73 (yBt B n j) (nI (yCn (fun i => yTd B k i && (yBt B n i == yBt B n j)) j + 1))) 69 7 (nI (yAsk B k n j ||| 2 ^ yBt B n j))) 69 8 (nI (yCn (yTd B k) j + 1)))) := by
        unfold S_X5_heed_20
        simp only [if_neg c0, k1 q1, k3, if_pos q2, if_neg (show ¬ (1 : Int32) = 0 by decide), xat_nI (show j < 60 by omega) (show (60 : Nat) < 2 ^ 31 by decide), show xI g 33 j = nI (B 0 j) from d1, show xI g 34 j = nI (B 1 j) from d2, show xI g 35 j = nI (B 2 j) from d3, (r_s1 _ a5 a7).1, (r_s1 _ a6 a8).1, h0]
        rw [show nI (Nat.log2 (B 0 j)) = nI (yA B j) from rfl, show nI (Nat.log2 (B 1 j)) = nI (yC B j) from rfl, bt, r_1shl _ (by omega)]
        unfold xadd
        rw [if_neg (nI_in b2 (by decide)), nI_clamp (by omega), p1 _ b2]
        simp only [yI_wi]
        simp [p2, p3, r_orG, nI_1]
      have hX := ih (j + 1) (xWI (xWI (xWI g 73 (yBt B n j) (nI (yCn (fun i => yTd B k i && (yBt B n i == yBt B n j)) j + 1))) 69 7 (nI (yAsk B k n j ||| 2 ^ yBt B n j))) 69 8 (nI (yCn (yTd B k) j + 1))) (by omega) (hc.hd (D := dHd) ((((yAg.refl _ g).wi (Or.inl rfl)).wi (Or.inr ⟨rfl, Or.inl rfl⟩)).wi (Or.inr ⟨rfl, Or.inr rfl⟩)) (fun o k h1 h2 => by unfold dHd; omega)) (by simp only [yI_wi]; simp [h0]) ⟨fun b hb => ?_, ?_, ?_⟩
      · obtain ⟨g', r1, r2, r3⟩ := hX
        exact ⟨g', (xlim_go st).trans r1, ⟨r2.1, fun o k hk => (r2.2 o k hk).trans ((((yAg.refl dHd g).wi (Or.inl rfl)).wi (Or.inr ⟨rfl, Or.inl rfl⟩)).wi (Or.inr ⟨rfl, Or.inr rfl⟩) |>.2 o k hk)⟩, r3⟩
      · rw [yI_wi, if_neg (by omega), yI_wi, if_neg (by omega), yI_wi, yCn_succ]
        by_cases e : b = yBt B n j
        · subst e; rw [if_pos ⟨rfl, rfl⟩, if_pos (by simp [q])]
        · rw [if_neg (fun z => e z.2), if_neg (by simp [q]; exact fun z => e z.symm), Nat.add_zero]; exact p1 b hb
      · rw [yI_wi, if_neg (by omega), yI_wi, if_pos ⟨rfl, rfl⟩]
        show _ = nI (if yTd B k j then _ else _)
        rw [if_pos q]
      · rw [yI_wi, if_pos ⟨rfl, rfl⟩, yCn_succ, if_pos q]
    · have st : S_X5_heed_20 k (nI j, g) = some (.inl (nI (j + 1), g)) := by
        unfold S_X5_heed_20
        simp only [if_neg c0, k3, nI_1]
        by_cases q1 : yCt B j k
        · have q2 : ¬ ySg B j = true := fun z => q (by unfold yTd; simp [q1, z])
          rw [k1 q1, if_neg (by decide), if_neg q2, if_pos rfl]
        · rw [k2 q1, if_pos rfl]
      obtain ⟨p1, p2, p3⟩ := hp
      have hX := ih (j + 1) g (by omega) hc h0 ⟨fun b hb => ?_, ?_, ?_⟩
      · obtain ⟨g', r1, r2, r3⟩ := hX
        exact ⟨g', (xlim_go st).trans r1, r2, r3⟩
      · rw [yCn_succ, if_neg (by simp [q]), Nat.add_zero]; exact p1 b hb
      · show _ = nI (if yTd B k j then _ else _)
        rw [if_neg q]; exact p2
      · rw [yCn_succ, if_neg q, Nat.add_zero]; exact p3
theorem r_heed (hn : n ≤ 5) (hw : bkOK n B) (hc : bkC g 32 n B) (h0 : xI g 69 0 = nI n) : ∃ g', E_X5_heed k g = some g' ∧ yAg dHd g g' ∧ yHd B k n (B 9 0) g' := by
  have a : yAg dHd g (xWI (xWI (xRowI g 73 (fun j => if j < 30 then 0 else xI g 73 j)) 69 7 0) 69 8 0) := by
    have : yAg dHd g (xRowI g 73 (fun j => if j < 30 then 0 else xI g 73 j)) := ⟨rfl, fun o k hk => congrFun (xI_RowI_ne g _ (fun e => hk (Or.inl e))) k⟩
    exact (this.wi (Or.inr ⟨rfl, Or.inl rfl⟩)).wi (Or.inr ⟨rfl, Or.inr rfl⟩)
  have hX := r_heedL (k := k) hn hw (B 9 0) 0 (xWI (xWI (xRowI g 73 (fun j => if j < 30 then 0 else xI g 73 j)) 69 7 0) 69 8 0) (by omega) (hc.hd a (fun o k h1 h2 => by unfold dHd; omega)) ((a.2 69 0 (by unfold dHd; omega)).trans h0) ⟨fun b hb => ?_, ?_, ?_⟩
  · obtain ⟨g', r1, r2, r3⟩ := hX
    refine ⟨g', ?_, ⟨r2.1.trans a.1, fun o k hk => (r2.2 o k hk).trans (a.2 o k hk)⟩, r3⟩
    unfold E_X5_heed E_X7_fill
    rw [xb1_some]
    exact congrArg (fun o => xb1 o fun e_2 => some e_2) r1
  · rw [yI_wi, if_neg (by omega), yI_wi, if_neg (by omega)]
    rw [show xI (xRowI g 73 (fun j => if j < 30 then 0 else xI g 73 j)) 73 b = _ from xI_RowI _ _ _ _ _, if_pos rfl, if_pos hb]
    rfl
  · rw [yI_wi, if_neg (by omega), yI_wi, if_pos ⟨rfl, rfl⟩]; rfl
  · rw [yI_wi, if_pos ⟨rfl, rfl⟩]; rfl
theorem r_missesBy {mk : Nat} (hmk : mk < 2 ^ 31) (h : yHd B k n (B 9 0) g) : E_X5_missesBy (nI mk) g = some (nI (yCn (fun i => yTd B k i && !(decide (yBt B n i < 30) && mk.testBit (yBt B n i))) (B 9 0))) := by
  obtain ⟨p1, p2, p3⟩ := h
  have e := xlim_of (step := S_X5_missesBy_7 (nI mk) g) (fun j => (nI (yCn (fun i => yTd B k i && !(decide (yBt B n i < j) && mk.testBit (yBt B n i))) (B 9 0)), nI j)) 30 (e := nI (yCn (fun i => yTd B k i && !(decide (yBt B n i < 30) && mk.testBit (yBt B n i))) (B 9 0))) (fun j hj => ?_) ?_
  · unfold E_X5_missesBy
    rw [p3, show yCn (yTd B k) (B 9 0) = yCn (fun i => yTd B k i && !(decide (yBt B n i < 0) && mk.testBit (yBt B n i))) (B 9 0) from yCn_congr (fun o _ => by simp), show ((_ : Int32), (0 : Int32)) = (_, nI 0) from rfl, e, xb1_some]
  · unfold S_X5_missesBy_7
    have h30 : ¬ (30 : Int32) ≤ nI j := by rw [show (30 : Int32) = nI 30 from rfl]; exact nI_ge hj (by decide)
    simp only [if_neg h30, r_xbG hmk (show j < 31 by omega), xck_nI hj (show (30 : Nat) < 2 ^ 31 by decide), nI_clamp (show j < 2 ^ 31 by omega), p1 j hj, nI_1]
    by_cases q : mk.testBit j = true
    · rw [if_pos q, if_neg (by decide)]
      have : yCn (fun i => yTd B k i && !(decide (yBt B n i < j) && mk.testBit (yBt B n i))) (B 9 0) = yCn (fun i => yTd B k i && !(decide (yBt B n i < j + 1) && mk.testBit (yBt B n i))) (B 9 0) + yCn (fun i => yTd B k i && (yBt B n i == j)) (B 9 0) := by
        refine yCn_add (fun o _ => ?_)
        rcases Nat.lt_trichotomy (yBt B n o) j with c | c | c
        · have h1 : yBt B n o < j + 1 := by omega
          have h2 : ¬ yBt B n o = j := by omega
          simp [c, h1, h2]
        · have h1 : yBt B n o < j + 1 := by omega
          have h2 : ¬ yBt B n o < j := by omega
          simp [c, q]
        · have h1 : ¬ yBt B n o < j + 1 := by omega
          have h2 : ¬ yBt B n o < j := by omega
          have h3 : ¬ yBt B n o = j := by omega
          simp [h1, h2, h3]
      rw [this, ← nI_add]
      generalize nI (yCn _ _) = x
      generalize nI (yCn _ _) = y
      rw [show x + y - y = x by grind]
    · rw [if_neg q, if_pos rfl]
      refine congrArg (fun z => some (Sum.inl (nI z, nI (j + 1)))) (yCn_congr fun o _ => ?_)
      by_cases c : yBt B n o = j
      · simp [c, q]
      · have : (yBt B n o < j + 1) ↔ (yBt B n o < j) := by omega
        simp [this]
  · unfold S_X5_missesBy_7
    exact if_pos (show (30 : Int32) ≤ nI 30 by decide)
theorem yWr_mk (hn : n ≤ 5) (hw : bkOK n B) {w o : Nat} (hw1 : w ≤ 1) (ho : o < yN n w) : yCn (fun i => yTd B k i && !(decide (yBt B n i < 30) && (yMk n (yOr n w o)).testBit (yBt B n i))) (B 9 0) = yWr B k (yOr n w o) (B 9 0) := by
  refine yCn_congr fun i hi => ?_
  by_cases q : yTd B k i = true
  · obtain ⟨a1, a2, a3, a4, -⟩ := r_td hn hw hi (r_tdS q).2
    have hb := yBt_lt hn hw hi (r_tdS q).2
    have := (yOr_chk hn hw1 ho).2.2.2 (yA B i) (yC B i) (B 2 i) a1 a2 a3 a4
    show (yTd B k i && !(decide (yBt B n i < 30) && (yMk n (yOr n w o)).testBit (yBt B n i))) = (yTd B k i && !(ySd (yOr n w o) (yA B i) (yC B i) == B 2 i))
    rw [q, decide_eq_true hb, Bool.true_and, Bool.true_and, Bool.true_and]
    congr 1
    rw [Bool.eq_iff_iff, beq_iff_eq]
    exact this
  · simp [q]
theorem r_wrongBy (hw : bkOK n B) (hr : bkR g n B) {w o : Nat} (ho : I_orders g n w) (hi : o < yN n w) : E_X12_wrongBy (nI o) k g = some (nI (yWr B k (yOr n w o) (B 9 0))) := by
  have hn := ho.1
  have h60 := hw.1
  have e := xlim_of (step := S_X12_wrongBy_5 (nI o) k g) (fun j => (nI (yWr B k (yOr n w o) j), nI j)) (B 9 0) (e := nI (yWr B k (yOr n w o) (B 9 0))) (fun j hj => ?_) ?_
  · unfold E_X12_wrongBy
    rw [show ((0 : Int32), (0 : Int32)) = (nI (yWr B k (yOr n w o) 0), nI 0) from rfl, e, xb1_some]
  · unfold S_X12_wrongBy_5
    obtain ⟨k1, k2⟩ := r_ctR (k := k) hw hr hj
    have k3 := r_sgR hn hw hr hj
    have c0 : ¬ xI g 113 44 ≤ nI j := by rw [hr.1]; exact nI_ge hj (by omega)
    show _ = some (Sum.inl (nI (yWr B k (yOr n w o) j + (if (yTd B k j && !(ySd (yOr n w o) (yA B j) (yC B j) == B 2 j)) then 1 else 0)), nI (j + 1)))
    simp only [if_neg c0, nI_1]
    by_cases q1 : yCt B j k
    · rw [k1 q1, xb1_some, if_neg (by decide), k3, xb1_some]
      by_cases q2 : ySg B j = true
      · obtain ⟨a1, a2, a3, a4, a5, a6, a7, a8⟩ := r_td hn hw hj q2
        obtain ⟨d1, d2, d3, -⟩ := hr.2.2.2.2.1 j hj
        have td : yTd B k j = true := by unfold yTd; simp [q1, q2]
        rw [if_pos q2, if_neg (by decide)]
        simp only [xck_nI (show j < 60 by omega) (show (60 : Nat) < 2 ^ 31 by decide), nI_clamp (show j < 2 ^ 31 by omega), d1, d2, d3, r_lowest a5 a7, r_lowest a6 a8, xb1_some]
        rw [show nI (Nat.log2 (B 0 j)) = nI (yA B j) from rfl, show nI (Nat.log2 (B 1 j)) = nI (yC B j) from rfl, r_saidBy ho hi a1 a2, xb1_some]
        have := ySd_le (yOr n w o) (yA B j) (yC B j)
        by_cases e : ySd (yOr n w o) (yA B j) (yC B j) = B 2 j
        · rw [e, if_pos rfl, if_neg (by simp [e]), Int32.add_zero] <;> rfl
        · rw [if_neg (fun z => e ((nI_eq (by omega) (by omega)).mp z)), if_pos (by simp [td, e]), nI_1]
      · rw [if_neg q2, if_pos rfl, if_neg (by unfold yTd; simp [q2]), Int32.add_zero] <;> rfl
    · rw [k2 q1, xb1_some, if_pos rfl, if_neg (by unfold yTd; simp [q1]), Int32.add_zero] <;> rfl
  · unfold S_X12_wrongBy_5
    simp only [hr.1]
    exact if_pos (nI_le (Nat.le_refl _) (by omega))
theorem r_missesOf (hn : n ≤ 5) (hw : bkOK n B) {w o : Nat} (ho : I_orders g n w) (hi : o < yN n w) (h : yHd B k n (B 9 0) g) : E_X5_missesOf (nI o) g = some (nI (yWr B k (yOr n w o) (B 9 0))) := by
  have hl := (yO_len n (by omega) w (by have := ho.2.1; omega)).2
  have c := yOr_chk hn ho.2.1 hi
  unfold E_X5_missesOf F_X5_markOf
  rw [xat_nI (by omega) (by decide), (ho.2.2.2.2.2 o hi).2.1, r_missesBy (by omega) h, xb1_some, yWr_mk hn hw ho.2.1 hi]
end HD
