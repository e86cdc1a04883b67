/-! writes of the reader's two pointers leave the shape -/
theorem xWf_R20 {g : xSt} (W : xWf g) {k : Nat} {v : Option Nat} (hk : xPtr 20 k = none) : xWf (xWR g 20 k v) := by
  refine ⟨W.1, W.2.1, fun o k' t h => ?_, ?_, W.2.2.2.2.1, ?_⟩
  · rw [xR_WR]
    by_cases e : o = 20 ∧ k' = k
    · obtain ⟨rfl, rfl⟩ := e
      rw [hk] at h; cases h
    · have : x2 (xR g) 20 k v o k' = xR g o k' := by
        unfold x2
        by_cases e1 : o = 20
        · rw [if_pos e1, if_neg (fun e2 => e ⟨e1, e2⟩)]
        · rw [if_neg e1]
      rw [this]
      exact W.2.2.1 o k' t h
  · exact W.2.2.2.1
  · exact W.2.2.2.2.2
