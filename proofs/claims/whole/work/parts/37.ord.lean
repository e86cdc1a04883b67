/-! BITS of small numbers -/
theorem r_andG (a b : Nat) : nI a &&& nI b = nI (a &&& b) := Int32.toBitVec_inj.mp (by
  rw [Int32.toBitVec_and]
  exact (BitVec.ofNat_and (w := 32) (x := a) (y := b)).symm)
theorem r_orG (a b : Nat) : nI a ||| nI b = nI (a ||| b) := Int32.toBitVec_inj.mp (by
  rw [Int32.toBitVec_or]
  exact (BitVec.ofNat_or (w := 32) (x := a) (y := b)).symm)
theorem r_xorG (a b : Nat) : nI a ^^^ nI b = nI (a ^^^ b) := Int32.toBitVec_inj.mp (by
  rw [Int32.toBitVec_xor]
  exact (BitVec.ofNat_xor (w := 32) (x := a) (y := b)).symm)
theorem r_1shl : ∀ b, b < 31 → (1 : Int32) <<< (nI b &&& 31) = nI (2 ^ b) := by decide +kernel
theorem r_31bv : ∀ b, b < 32 → ((nI b &&& 31).toBitVec.smod 32) = BitVec.ofNat 32 b := by decide +kernel
theorem r_shr {a b : Nat} (ha : a < 2 ^ 31) (hb : b < 32) : nI a >>> (nI b &&& 31) = nI (a >>> b) := by
  apply Int32.toBitVec_inj.mp
  rw [Int32.toBitVec_shiftRight]
  have h1 : (nI a).toBitVec = BitVec.ofNat 32 a := rfl
  rw [h1, r_31bv b hb]
  apply BitVec.eq_of_toNat_eq
  have hm : (BitVec.ofNat 32 a).msb = false := by
    rw [BitVec.msb_eq_decide, BitVec.toNat_ofNat, Nat.mod_eq_of_lt (by omega)]
    simp; omega
  rw [BitVec.toNat_sshiftRight'_of_msb_false hm]
  show (BitVec.ofNat 32 a).toNat >>> (BitVec.ofNat 32 b).toNat = (BitVec.ofNat 32 (a >>> b)).toNat
  rw [BitVec.toNat_ofNat, BitVec.toNat_ofNat, BitVec.toNat_ofNat, Nat.mod_eq_of_lt (a := a) (by omega), Nat.mod_eq_of_lt (a := b) (by omega), Nat.mod_eq_of_lt]
  have := Nat.shiftRight_le a b
  omega
theorem r_bitG {a b : Nat} (ha : a < 2 ^ 31) (hb : b < 32) : (nI a >>> (nI b &&& 31)) &&& 1 = if a.testBit b then 1 else 0 := by
  rw [r_shr ha hb, show (1 : Int32) = nI 1 from rfl, r_andG]
  rw [Nat.testBit_eq_decide_div_mod_eq, Nat.shiftRight_eq_div_pow, Nat.and_one_is_mod]
  have : a / 2 ^ b % 2 = 0 ∨ a / 2 ^ b % 2 = 1 := by omega
  rcases this with h | h <;> rw [h] <;> rfl
theorem r_xbG {a b : Nat} (ha : a < 2 ^ 31) (hb : b < 31) : xbit (nI a) (nI b) = if a.testBit b then 1 else 0 := by
  unfold xbit
  have h31 : ¬ (31 : Int32) ≤ nI b := by rw [show (31 : Int32) = nI 31 from rfl]; exact nI_ge hb (by decide)
  rw [if_neg (nI_pos (by omega)), if_neg h31, r_bitG ha (by omega)]
  by_cases h : a.testBit b = true
  · rw [if_pos h, if_neg (by decide)]
  · rw [if_neg h, if_pos rfl]
theorem r_mul3 {t : Nat} : (3 : Int32) * nI t = nI (3 * t) := by rw [show (3 : Int32) = nI 3 from rfl, nI_mul]
theorem r_7 (a : Nat) : nI a &&& 7 = nI (a % 8) := by
  rw [show (7 : Int32) = nI 7 from rfl, r_andG, show (7 : Nat) = 2 ^ 3 - 1 from rfl, Nat.and_two_pow_sub_one_eq_mod]
/-! THE ORDERS, packed: the place of thing t in three bits -/
/-- what the balance says of two things, by their places -/
def ySf (d : Nat → Nat) (a b : Nat) : Nat := if d a < d b then 1 else if d b < d a then 2 else 0
def yPr (n a b : Nat) : Nat := min a b * n - min a b * (min a b + 1) / 2 + max a b - min a b - 1
def yBit (n a b s : Nat) : Nat := 10 * (if s = 0 ∨ a < b then s else 3 - s) + yPr n a b
/-- bits put together -/
def yOf (f : Nat → Nat) : Nat → Nat
  | 0 => 0
  | m + 1 => yOf f m ||| f m
def yMf (n : Nat) (d : Nat → Nat) : Nat := yOf (fun a => yOf (fun b => if a < b then 2 ^ yBit n a b (ySf d a b) else 0) n) n
theorem yOf_bit (f : Nat → Nat) (x : Nat) : ∀ m, (yOf f m).testBit x = true ↔ ∃ i, i < m ∧ (f i).testBit x = true := by
  intro m
  induction m with
  | zero => simp [yOf]
  | succ m ih =>
    show (yOf f m ||| f m).testBit x = true ↔ _
    rw [Nat.testBit_or, Bool.or_eq_true, ih]
    refine ⟨fun z => z.elim (fun ⟨i, h1, h2⟩ => ⟨i, by omega, h2⟩) (fun e => ⟨m, by omega, e⟩), fun ⟨i, h1, h2⟩ => ?_⟩
    by_cases e : i = m
    · subst e; exact Or.inr h2
    · exact Or.inl ⟨i, by omega, h2⟩
theorem yOf_lt {f : Nat → Nat} {c : Nat} : ∀ {m}, (∀ i, i < m → f i < 2 ^ c) → yOf f m < 2 ^ c := by
  intro m
  induction m with
  | zero => intro _; exact Nat.two_pow_pos c
  | succ m ih => intro h; exact Nat.or_lt_two_pow (ih (fun i hi => h i (by omega))) (h m (by omega))
theorem yOf_congr {f h : Nat → Nat} : ∀ {m}, (∀ i, i < m → f i = h i) → yOf f m = yOf h m := by
  intro m
  induction m with
  | zero => intro _; rfl
  | succ m ih => intro q; show yOf f m ||| f m = yOf h m ||| h m; rw [ih (fun i hi => q i (by omega)), q m (by omega)]
theorem ySf_le (d : Nat → Nat) (a b : Nat) : ySf d a b ≤ 2 := by unfold ySf; split <;> (try split) <;> omega
theorem yBit_lt : ∀ n, n < 6 → ∀ a, a < n → ∀ b, b < n → ∀ s, s < 3 → a ≠ b → yBit n a b s < 30 := by decide +kernel
theorem yPr_inj : ∀ n, n < 6 → ∀ a, a < n → ∀ b, b < n → ∀ c, c < n → ∀ d, d < n → a < b → c < d → yPr n a b = yPr n c d → a = c ∧ b = d := by
  have : (List.range 6).all (fun n => (List.range n).all fun a => (List.range n).all fun b => (List.range n).all fun c => (List.range n).all fun d => !(decide (a < b) && decide (c < d) && (yPr n a b == yPr n c d)) || (a == c && b == d)) = true := by decide +kernel
  intro n hn a ha b hb c hc d hd h1 h2 h3
  simp only [List.all_eq_true, List.mem_range] at this
  have := this n hn a ha b hb c hc d hd
  simpa [h1, h2, h3] using this
theorem yPr_lt : ∀ n, n < 6 → ∀ a, a < n → ∀ b, b < n → a < b → yPr n a b < 10 := by decide +kernel
theorem yBit_inj (n : Nat) (hn : n < 6) (a : Nat) (ha : a < n) (b : Nat) (hb : b < n) (c : Nat) (hc : c < n) (d : Nat) (hd : d < n) (s : Nat) (_hs : s < 3) (t : Nat) (_ht : t < 3) (hab : a < b) (hcd : c < d) (h : yBit n a b s = yBit n c d t) : a = c ∧ b = d ∧ s = t := by
  have p1 := yPr_lt n hn a ha b hb hab
  have p2 := yPr_lt n hn c hc d hd hcd
  unfold yBit at h
  rw [if_pos (Or.inr hab), if_pos (Or.inr hcd)] at h
  have := yPr_inj n hn a ha b hb c hc d hd hab hcd (by omega)
  exact ⟨this.1, this.2, by omega⟩
theorem yBit_flip : ∀ n, n < 6 → ∀ a, a < n → ∀ b, b < n → ∀ s, s < 3 → b < a → yBit n a b s = yBit n b a (if s = 0 then 0 else 3 - s) := by decide +kernel
theorem ySf_flip (d : Nat → Nat) (a b : Nat) : ySf d a b = if ySf d b a = 0 then 0 else 3 - ySf d b a := by
  unfold ySf
  rcases Nat.lt_trichotomy (d a) (d b) with h | h | h
  · simp [h, Nat.lt_asymm h]
  · simp [h]
  · simp [h, Nat.lt_asymm h]
theorem yMf_lt {n : Nat} (hn : n ≤ 5) (d : Nat → Nat) : yMf n d < 2 ^ 30 := by
  refine yOf_lt fun a ha => yOf_lt fun b hb => ?_
  split
  · exact Nat.pow_lt_pow_right (by decide) (yBit_lt n (by omega) a ha b hb _ (by have := ySf_le d a b; omega) (by omega))
  · decide
theorem yMf_bit1 {n a b s : Nat} (hn : n ≤ 5) (d : Nat → Nat) (ha : a < n) (hb : b < n) (hab : a < b) (hs : s < 3) : (yMf n d).testBit (yBit n a b s) = true ↔ ySf d a b = s := by
  unfold yMf
  rw [yOf_bit]
  refine ⟨fun ⟨i, hi, h⟩ => ?_, fun h => ⟨a, ha, (yOf_bit _ _ _).mpr ⟨b, hb, ?_⟩⟩⟩
  · obtain ⟨j, hj, h⟩ := (yOf_bit _ _ _).mp h
    by_cases c : i < j
    · rw [if_pos c, Nat.testBit_two_pow, decide_eq_true_iff] at h
      have := yBit_inj n (by omega) i hi j hj a ha b hb _ (by have := ySf_le d i j; omega) s hs c hab h
      rw [← this.1, ← this.2.1]; exact this.2.2
    · rw [if_neg c, Nat.zero_testBit] at h; cases h
  · rw [if_pos hab, Nat.testBit_two_pow, decide_eq_true_iff, h]
theorem yMf_bit {n a b s : Nat} (hn : n ≤ 5) (d : Nat → Nat) (ha : a < n) (hb : b < n) (hab : a ≠ b) (hs : s < 3) : (yMf n d).testBit (yBit n a b s) = true ↔ ySf d a b = s := by
  rcases Nat.lt_or_ge a b with c | c
  · exact yMf_bit1 hn d ha hb c hs
  · have c : b < a := by omega
    rw [yBit_flip n (by omega) a ha b hb s hs c, yMf_bit1 hn d hb ha c (by split <;> omega), ySf_flip d a b]
    have := ySf_le d b a
    constructor
    · intro h; rw [h]; split <;> (try split) <;> omega
    · intro h; rw [← h]; split <;> (try split) <;> omega
/-- the place of thing t -/
def yDg (v t : Nat) : Nat := v / 8 ^ t % 8
def ySum (f : Nat → Nat) : Nat → Nat
  | 0 => 0
  | m + 1 => ySum f m + f m
/-- the packed tuple of number i, to the base c -/
def yPk (c n i : Nat) : Nat := ySum (fun t => (i / c ^ (n - 1 - t) % c) * 8 ^ t) n
def yIsO (n w v : Nat) : Bool := (List.range n).all fun t => ySum (fun o => if yDg v o < yDg v t then 1 else 0) n == yDg v t && (w == 1 || (List.range n).all fun o => o == t || !(yDg v o == yDg v t))
def yOB (c n w : Nat) : List Nat := ((List.range (c ^ n)).map (yPk c n)).filter (yIsO n w)
def yO (n w : Nat) : List Nat := yOB n n w
def yChk (n w : Nat) : Bool := (yO n w).all fun v => decide (v < 2 ^ 15) && (List.range n).all (fun t => decide (yDg v t < n))
def yN (n w : Nat) : Nat := (yO n w).length
def yOr (n w i : Nat) : Nat := (yO n w).getD i 0
def ySd (v a b : Nat) : Nat := ySf (yDg v) a b
def yMk (n v : Nat) : Nat := yMf n (yDg v)
set_option maxRecDepth 100000 in
theorem yO_5 : ∀ n, n < 6 → ∀ w, w < 2 → yOB 5 n w = yO n w := by decide +kernel
set_option maxRecDepth 100000 in
theorem yO_chk : ∀ n, n < 6 → ∀ w, w < 2 → yChk n w = true := by decide +kernel
set_option maxRecDepth 100000 in
theorem yO_len : ∀ n, n < 6 → ∀ w, w < 2 → 1 ≤ yN n w ∧ yN n w ≤ 541 := by decide +kernel
