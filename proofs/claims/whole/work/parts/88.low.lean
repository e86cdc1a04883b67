/-! THE SEARCH: the lowest of a set -/
section LW
theorem nOdd : ∀ m, ∀ a, a < m → a ≠ 0 → ∃ t q, a = 2 ^ t * (2 * q + 1) := by
  intro m
  induction m with
  | zero => intro a h; omega
  | succ m ih =>
    intro a h h0
    by_cases e : a % 2 = 1
    · exact ⟨0, a / 2, by rw [Nat.pow_zero]; omega⟩
    · obtain ⟨t, q, h1⟩ := ih (a / 2) (by omega) (by omega)
      refine ⟨t + 1, q, ?_⟩
      rw [Nat.pow_succ, Nat.mul_comm (2 ^ t) 2, Nat.mul_assoc, ← h1]
      omega
theorem bv_low (t q : Nat) (ht : t < 60) : (BitVec.ofNat 64 (2 ^ t * (2 * q + 1))) &&& -(BitVec.ofNat 64 (2 ^ t * (2 * q + 1))) = BitVec.ofNat 64 (2 ^ t) := by
  have p0 : 0 < 2 ^ t := Nat.two_pow_pos t
  have neg : -(BitVec.ofNat 64 (2 ^ t * (2 * q + 1))) = ~~~(BitVec.ofNat 64 (2 ^ t * (2 * q) + (2 ^ t - 1))) := by
    rw [BitVec.neg_eq_not_add]
    have e : BitVec.ofNat 64 (2 ^ t * (2 * q + 1)) = BitVec.ofNat 64 (2 ^ t * (2 * q) + (2 ^ t - 1)) + 1#64 := by
      rw [← BitVec.ofNat_add]
      congr 1
      rw [Nat.mul_add, Nat.mul_one]
      omega
    rw [e]
    generalize BitVec.ofNat 64 (2 ^ t * (2 * q) + (2 ^ t - 1)) = x
    rw [← BitVec.neg_eq_not_add, BitVec.neg_add, BitVec.neg_eq_not_add, BitVec.sub_eq_add_neg, BitVec.add_assoc, show 1#64 + -1#64 = 0#64 from by decide, BitVec.add_zero]
  rw [neg]
  apply BitVec.eq_of_getLsbD_eq
  intro i hi
  rw [BitVec.getLsbD_and, BitVec.getLsbD_not, BitVec.getLsbD_ofNat, BitVec.getLsbD_ofNat, BitVec.getLsbD_ofNat, decide_eq_true hi, Bool.true_and, Bool.true_and, Bool.true_and, Bool.true_and, Nat.testBit_two_pow]
  have l1 : ∀ j, (2 ^ t * j).testBit i = (decide (t ≤ i) && j.testBit (i - t)) := fun j => by rw [Nat.testBit_two_pow_mul]
  have l2 : (2 ^ t * (2 * q) + (2 ^ t - 1)).testBit i = if i < t then (2 ^ t - 1).testBit i else (2 * q).testBit (i - t) := Nat.testBit_two_pow_mul_add _ (by omega) _
  rw [l1, l2]
  by_cases c : i < t
  · rw [decide_eq_false (by omega), Bool.false_and, Bool.false_and, decide_eq_false (by omega)]
  · rw [if_neg c, decide_eq_true (by omega : t ≤ i), Bool.true_and]
    by_cases d : t = i
    · subst d
      rw [Nat.sub_self, decide_eq_true rfl, Nat.testBit_zero, Nat.testBit_zero, decide_eq_true (by omega), decide_eq_false (by omega)]
      rfl
    · rw [decide_eq_false d, show i - t = (i - t - 1) + 1 by omega, Nat.testBit_succ, Nat.testBit_succ, show (2 * q + 1) / 2 = q by omega, show 2 * q / 2 = q by omega]
      cases q.testBit (i - t - 1) <;> rfl
theorem r_xlow {a : Nat} (ha : a < 2 ^ 60) (h0 : a ≠ 0) : ∃ t, t < 60 ∧ a.testBit t = true ∧ xlow (nL a) = nI t := by
  obtain ⟨t, q, e⟩ := nOdd (a + 1) a (Nat.lt_succ_self _) h0
  have bt : a.testBit t = true := by
    rw [e, Nat.testBit_two_pow_mul, decide_eq_true (Nat.le_refl t), Nat.sub_self, Nat.testBit_zero, decide_eq_true (by omega)]
    rfl
  have ht := zLt_bit ha bt
  refine ⟨t, ht, bt, ?_⟩
  unfold xlow
  have p0 : 0 < 2 ^ t := Nat.two_pow_pos t
  have : (nL a &&& -nL a) - 1 = Int64.ofNat (2 ^ t - 1) := by
    apply Int64.toBitVec_inj.mp
    rw [Int64.toBitVec_sub, Int64.toBitVec_and, Int64.toBitVec_neg]
    show (BitVec.ofNat 64 a &&& -BitVec.ofNat 64 a) - 1#64 = BitVec.ofNat 64 (2 ^ t - 1)
    rw [e, bv_low t q ht]
    have : BitVec.ofNat 64 (2 ^ t) = BitVec.ofNat 64 (2 ^ t - 1) + 1#64 := by
      rw [← BitVec.ofNat_add]
      congr 1
      omega
    rw [this, BitVec.add_sub_cancel]
  rw [this, xlow_mask t (by omega)]
end LW
