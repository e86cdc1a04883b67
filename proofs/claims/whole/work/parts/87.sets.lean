/-! THE SEARCH: sets as two words -/
section SS
variable {g g' : xSt} {n c r N lo hi k : Nat} {mk : Nat → Nat} {γ : Nat → Int32}
theorem l_sub (x y : Int64) : x &&& (y ^^^ (-1)) = 0 ↔ x &&& y = x := by
  rw [← Int64.toBitVec_inj, ← Int64.toBitVec_inj, Int64.toBitVec_and, Int64.toBitVec_and, Int64.toBitVec_xor, show (-1 : Int64).toBitVec = BitVec.allOnes 64 from rfl, show (0 : Int64).toBitVec = 0#64 from rfl]
  generalize x.toBitVec = a
  generalize y.toBitVec = b
  refine ⟨fun h => ?_, fun h => ?_⟩
  · apply BitVec.eq_of_getLsbD_eq
    intro i hi
    have := congrArg (fun v => v.getLsbD i) h
    simp only [BitVec.getLsbD_and, BitVec.getLsbD_xor, BitVec.getLsbD_allOnes, BitVec.getLsbD_zero, decide_eq_true hi] at this ⊢
    revert this
    generalize a.getLsbD i = p
    generalize b.getLsbD i = q
    cases p <;> cases q <;> decide
  · apply BitVec.eq_of_getLsbD_eq
    intro i hi
    have := congrArg (fun v => v.getLsbD i) h
    simp only [BitVec.getLsbD_and, BitVec.getLsbD_xor, BitVec.getLsbD_allOnes, BitVec.getLsbD_zero, decide_eq_true hi] at this ⊢
    revert this
    generalize a.getLsbD i = p
    generalize b.getLsbD i = q
    cases p <;> cases q <;> decide
/-- one set in another, by words -/
theorem nL_sub {a b : Nat} (ha : a < 2 ^ 60) : lg_cmp (nL a &&& (nL b ^^^ (-1))) 0 = 0 ↔ a &&& b = a := by
  rw [lg_0, l_sub, nL_and]
  exact nL_eq (Nat.lt_of_le_of_lt Nat.and_le_left ha) ha
theorem nL_non {a : Nat} (ha : a < 2 ^ 60) : lg_cmp (nL a) 0 = 0 ↔ a = 0 := by
  rw [lg_0, show (0 : Int64) = nL 0 from rfl]
  exact nL_eq ha (by decide)
end SS
