/-! WEIGHTS that fit: the rows of weights, what a balance says by them -/
/-- the weight of thing t in row v -/
def yWt (n v t : Nat) : Nat := 1 + v / 6 ^ (n - 1 - t) % 6
/-- what a heap weighs by weights w, its things below k -/
def yHw (w : Nat → Nat) (a : Nat) : Nat → Nat
  | 0 => 0
  | t + 1 => yHw w a t + a / 2 ^ t % 2 * w t
def yBl (st x y : Nat) : Nat := if y + st < x then 1 else if x + st < y then 2 else 0
def ySo (n st v a b : Nat) : Nat := yBl st (yHw (yWt n v) a n) (yHw (yWt n v) b n)
theorem yBl_le (st x y : Nat) : yBl st x y ≤ 2 := by unfold yBl; split <;> (try split) <;> omega
theorem yWt_i (n v t : Nat) : 1 ≤ yWt n v t ∧ yWt n v t ≤ 6 := by unfold yWt; omega
theorem yHw_congr {w u : Nat → Nat} (a : Nat) : ∀ k, (∀ t, t < k → w t = u t) → yHw w a k = yHw u a k := by
  intro k
  induction k with
  | zero => intro _; rfl
  | succ k ih => intro h; show yHw w a k + _ * w k = yHw u a k + _ * u k; rw [ih (fun t ht => h t (by omega)), h k (by omega)]
theorem yHw_le {w : Nat → Nat} {c : Nat} (a : Nat) : ∀ k, (∀ t, t < k → w t ≤ c) → yHw w a k ≤ c * k := by
  intro k
  induction k with
  | zero => intro _; exact Nat.le_refl _
  | succ k ih =>
    intro h
    have h1 := ih (fun t ht => h t (by omega))
    have h2 := h k (by omega)
    have h3 : a / 2 ^ k % 2 * w k ≤ 1 * w k := Nat.mul_le_mul_right _ (by omega)
    show yHw w a k + a / 2 ^ k % 2 * w k ≤ c * (k + 1)
    rw [Nat.mul_succ]; omega
theorem yHw_top {w : Nat → Nat} {a k : Nat} (ha : a < 2 ^ k) : ∀ m, yHw w a (k + m) = yHw w a k := by
  intro m
  induction m with
  | zero => rfl
  | succ m ih =>
    show yHw w a (k + m) + a / 2 ^ (k + m) % 2 * w (k + m) = _
    have : a / 2 ^ (k + m) = 0 := Nat.div_eq_of_lt (Nat.lt_of_lt_of_le ha (Nat.pow_le_pow_right (by decide) (by omega)))
    rw [ih, this]; omega
theorem yHw_tp {w : Nat → Nat} {a k n : Nat} (ha : a < 2 ^ k) (hk : k ≤ n) : yHw w a n = yHw w a k := by
  obtain ⟨m, rfl⟩ : ∃ m, n = k + m := ⟨n - k, by omega⟩
  exact yHw_top ha m
/-- the rows that fit the rules -/
def yFr (n st R : Nat) (rf rs rd : Nat → Nat) (v : Nat) : Bool := (List.range R).all fun i => ySo n st v (rf i) (rs i) == rd i
theorem yFr_i {n st R : Nat} {rf rs rd : Nat → Nat} {v : Nat} : yFr n st R rf rs rd v = true ↔ ∀ i, i < R → ySo n st v (rf i) (rs i) = rd i := by
  unfold yFr
  simp only [List.all_eq_true, List.mem_range, beq_iff_eq]
/-- the rules whose highest thing is t hold -/
def yHt (st R : Nat) (rf rs rd : Nat → Nat) (w : Nat → Nat) (n t : Nat) : Bool := (List.range R).all fun i => !((rf i ||| rs i) >>> t == 1) || yBl st (yHw w (rf i) n) (yHw w (rs i) n) == rd i
theorem yHt_i {n st R : Nat} {rf rs rd w : Nat → Nat} {t : Nat} : yHt st R rf rs rd w n t = true ↔ ∀ i, i < R → (rf i ||| rs i) >>> t = 1 → yBl st (yHw w (rf i) n) (yHw w (rs i) n) = rd i := by
  unfold yHt
  simp only [List.all_eq_true, List.mem_range, Bool.or_eq_true, Bool.not_eq_true', beq_eq_false_iff_ne, beq_iff_eq]
  exact ⟨fun h i hi e => (h i hi).resolve_left (fun z => z e), fun h i hi => by
    by_cases e : (rf i ||| rs i) >>> t = 1
    · exact Or.inr (h i hi e)
    · exact Or.inl e⟩
/-- a heap pair's highest thing -/
theorem yTopT : ∀ n, n < 6 → ∀ x, x < 2 ^ n → 0 < x → ∃ t, t < n ∧ x >>> t = 1 := by decide +kernel
/-- rules as they can be -/
def yRl (n R : Nat) (rf rs rd : Nat → Nat) : Prop := R ≤ 60 ∧ ∀ i, i < R → (0 < rf i ∧ rf i < 2 ^ n) ∧ (0 < rs i ∧ rs i < 2 ^ n) ∧ rf i &&& rs i = 0 ∧ rd i ≤ 2
theorem yFr_ht {n st R : Nat} {rf rs rd : Nat → Nat} {v : Nat} (hn : n ≤ 5) (hr : yRl n R rf rs rd) : yFr n st R rf rs rd v = true ↔ ∀ t, t < n → yHt st R rf rs rd (yWt n v) n t = true := by
  rw [yFr_i]
  constructor
  · intro h t _
    exact yHt_i.mpr fun i hi _ => h i hi
  · intro h i hi
    obtain ⟨h1, h2, -, -⟩ := hr.2 i hi
    have lt : rf i ||| rs i < 2 ^ n := Nat.or_lt_two_pow h1.2 h2.2
    have pos : 0 < rf i ||| rs i := Nat.lt_of_lt_of_le h1.1 Nat.left_le_or
    obtain ⟨t, ht, e⟩ := yTopT n (by omega) _ lt pos
    exact yHt_i.mp (h t ht) i hi e
/-- the block of rows that begin like b -/
def yFb (n st R : Nat) (rf rs rd : Nat → Nat) (t b : Nat) : List Nat := (List.range' (b * 6 ^ (n - t)) (6 ^ (n - t))).filter (yFr n st R rf rs rd)
theorem yRan (a m : Nat) : List.range' a (6 * m) = List.range' a m ++ (List.range' (a + m) m ++ (List.range' (a + 2 * m) m ++ (List.range' (a + 3 * m) m ++ (List.range' (a + 4 * m) m ++ List.range' (a + 5 * m) m)))) := by
  have e : ∀ s k l, List.range' s (k + l) = List.range' s k ++ List.range' (s + k) l := fun s k l => by
    have := List.range'_append (s := s) (m := k) (n := l) (step := 1)
    rw [Nat.one_mul] at this
    exact this.symm
  rw [show 6 * m = m + (m + (m + (m + (m + m)))) by omega, e, e, e, e, e]
  rw [show a + m + m = a + 2 * m by omega, show a + 2 * m + m = a + 3 * m by omega, show a + 3 * m + m = a + 4 * m by omega, show a + 4 * m + m = a + 5 * m by omega]
theorem yFb_split {n st R : Nat} {rf rs rd : Nat → Nat} {t b : Nat} (ht : t < n) : yFb n st R rf rs rd t b = yFb n st R rf rs rd (t + 1) (6 * b) ++ (yFb n st R rf rs rd (t + 1) (6 * b + 1) ++ (yFb n st R rf rs rd (t + 1) (6 * b + 2) ++ (yFb n st R rf rs rd (t + 1) (6 * b + 3) ++ (yFb n st R rf rs rd (t + 1) (6 * b + 4) ++ yFb n st R rf rs rd (t + 1) (6 * b + 5))))) := by
  unfold yFb
  have e : 6 ^ (n - t) = 6 * 6 ^ (n - (t + 1)) := by rw [← Nat.pow_succ', show (n - (t + 1)).succ = n - t by omega]
  rw [e]
  generalize 6 ^ (n - (t + 1)) = m
  rw [yRan]
  simp only [List.filter_append]
  have e1 : b * (6 * m) = 6 * b * m := by rw [← Nat.mul_assoc, Nat.mul_comm b 6]
  rw [e1, show (6 * b + 1) * m = 6 * b * m + m by rw [Nat.add_mul, Nat.one_mul], Nat.add_mul (6 * b) 2, Nat.add_mul (6 * b) 3, Nat.add_mul (6 * b) 4, Nat.add_mul (6 * b) 5]
/-- the rows of a block begin like it -/
theorem yWt_blk {n t b v j : Nat} (ht : t ≤ n) (hv : b * 6 ^ (n - t) ≤ v ∧ v < (b + 1) * 6 ^ (n - t)) (hj : j < t) : yWt n v j = yWt t b j := by
  unfold yWt
  have e1 : v / 6 ^ (n - t) = b := by
    refine Nat.div_eq_of_lt_le ?_ ?_
    · exact hv.1
    · exact hv.2
  rw [show n - 1 - j = (n - t) + (t - 1 - j) by omega, Nat.pow_add, ← Nat.div_div_eq_div_mul, e1]
theorem yWt_kid {t b x j : Nat} (hx : x < 6) (hj : j < t + 1) : yWt (t + 1) (6 * b + x) j = if j = t then x + 1 else yWt t b j := by
  unfold yWt
  by_cases e : j = t
  · subst e; rw [if_pos rfl, show j + 1 - 1 - j = 0 by omega, Nat.pow_zero, Nat.div_one]; omega
  · rw [if_neg e, show t + 1 - 1 - j = 1 + (t - 1 - j) by omega, Nat.pow_add, ← Nat.div_div_eq_div_mul, Nat.pow_one, show (6 * b + x) / 6 = b by omega]
theorem yFb_none {n st R : Nat} {rf rs rd : Nat → Nat} {t b : Nat} (hn : n ≤ 5) (hr : yRl n R rf rs rd) (ht : t < n) (h : ¬ yHt st R rf rs rd (yWt (t + 1) b) (t + 1) t = true) : yFb n st R rf rs rd (t + 1) b = [] := by
  unfold yFb
  rw [List.filter_eq_nil_iff]
  intro v hv hf
  rw [List.mem_range'_1] at hv
  have hv2 : b * 6 ^ (n - (t + 1)) ≤ v ∧ v < (b + 1) * 6 ^ (n - (t + 1)) := ⟨hv.1, by rw [Nat.add_mul, Nat.one_mul]; exact hv.2⟩
  apply h
  have := (yFr_ht hn hr).mp hf t ht
  rw [yHt_i] at this ⊢
  intro i hi e
  have hlt : rf i < 2 ^ (t + 1) ∧ rs i < 2 ^ (t + 1) := by
    have : (rf i ||| rs i) < 2 ^ (t + 1) := by
      rw [Nat.shiftRight_eq_div_pow] at e
      have := Nat.lt_mul_of_div_lt (show (rf i ||| rs i) / 2 ^ t < 2 by omega) (Nat.two_pow_pos t)
      rw [Nat.pow_succ]; omega
    exact ⟨Nat.lt_of_le_of_lt Nat.left_le_or this, Nat.lt_of_le_of_lt Nat.right_le_or this⟩
  have q := this i hi e
  rw [yHw_tp hlt.1 (show t + 1 ≤ n by omega), yHw_tp hlt.2 (show t + 1 ≤ n by omega)] at q
  rw [← q]
  rw [yHw_congr (rf i) (t + 1) (fun j hj => yWt_blk (by omega) hv2 hj), yHw_congr (rs i) (t + 1) (fun j hj => yWt_blk (by omega) hv2 hj)]
