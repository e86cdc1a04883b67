/-! THE SEARCH: all the orders, as two words -/
section AL
variable {g g' : xSt} {n c lo hi : Nat}
theorem r_allW : ∀ c, c < 121 → ((1 : Int64) <<< (Int32.toInt64 (imin (nI c) 60) &&& 63)) - 1 = nL (2 ^ min c 60 - 1) ∧ ((1 : Int64) <<< (Int32.toInt64 (imax ((nI c) - 60) 0) &&& 63)) - 1 = nL (2 ^ (c - 60) - 1) := by decide +kernel
theorem r_allLow (hc : c ≤ 120) (h : xI g 76 2 = nI c) : F_X8_allLow g = nL (2 ^ min c 60 - 1) ∧ F_X8_allHigh g = nL (2 ^ (c - 60) - 1) := by
  unfold F_X8_allLow F_X8_allHigh
  rw [h]
  exact r_allW c (by omega)
theorem zIn_all (hc : c ≤ 120) : zIn c (2 ^ min c 60 - 1) (2 ^ (c - 60) - 1) := by
  refine ⟨fun i h => ?_, fun i h => ?_⟩
  · rw [Nat.testBit_two_pow_sub_one, decide_eq_true_eq] at h
    omega
  · rw [Nat.testBit_two_pow_sub_one, decide_eq_true_eq] at h
    omega
theorem zSt_all (hc : c ≤ 120) {i : Nat} : zSt (2 ^ min c 60 - 1) (2 ^ (c - 60) - 1) i = decide (i < c) := by
  unfold zSt
  rw [Nat.testBit_two_pow_sub_one, Nat.testBit_two_pow_sub_one]
  by_cases d : i < 60
  · rw [if_pos d, Bool.eq_iff_iff, decide_eq_true_eq, decide_eq_true_eq]; omega
  · rw [if_neg d, Bool.eq_iff_iff, decide_eq_true_eq, decide_eq_true_eq]; omega
/-- a part of a set, by words -/
theorem zIn_and (h : zIn c lo hi) (a b : Nat) : zIn c (lo &&& a) (hi &&& b) := ⟨fun i z => h.1 i (by rw [Nat.testBit_and, Bool.and_eq_true] at z; exact z.1), fun i z => h.2 i (by rw [Nat.testBit_and, Bool.and_eq_true] at z; exact z.1)⟩
theorem zSt_and {mk : Nat → Nat} {b : Nat} (h : zIn c lo hi) {i : Nat} : zSt (lo &&& yBs (fun i => (mk i).testBit b) (min c 60)) (hi &&& yBs (fun i => (mk (60 + i)).testBit b) (c - 60)) i = (zSt lo hi i && (mk i).testBit b) := by
  unfold zSt
  by_cases d : i < 60
  · rw [if_pos d, if_pos d, Nat.testBit_and, Bool.eq_iff_iff, Bool.and_eq_true, Bool.and_eq_true, yBs_bit]
    exact ⟨fun z => ⟨z.1, z.2.2⟩, fun z => ⟨z.1, by have := (h.1 i z.1).2; omega, z.2⟩⟩
  · rw [if_neg d, if_neg d, Nat.testBit_and, Bool.eq_iff_iff, Bool.and_eq_true, Bool.and_eq_true, yBs_bit, show 60 + (i - 60) = i by omega]
    exact ⟨fun z => ⟨z.1, z.2.2⟩, fun z => ⟨z.1, by have := (h.2 _ z.1).2; omega, z.2⟩⟩
end AL
