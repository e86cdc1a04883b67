/-! THE SEARCH: all of a set alike -/
section SA
variable {g g' : xSt} {n c r N lo hi k : Nat} {mk : Nat → Nat} {γ : Nat → Int32}
/-- two words that hold orders only -/
def zIn (c lo hi : Nat) : Prop := (∀ i, lo.testBit i = true → i < 60 ∧ i < c) ∧ ∀ i, hi.testBit i = true → i < 60 ∧ 60 + i < c
theorem zIn_lt (h : zIn c lo hi) : lo < 2 ^ 60 ∧ hi < 2 ^ 60 := ⟨Nat.lt_pow_two_of_testBit _ fun i hi => Bool.eq_false_iff.mpr fun z => by have := (h.1 i z).1; omega, Nat.lt_pow_two_of_testBit _ fun i hi => Bool.eq_false_iff.mpr fun z => by have := (h.2 i z).1; omega⟩
theorem nSub_i {a b : Nat} : a &&& b = a ↔ ∀ i, a.testBit i = true → b.testBit i = true := by
  refine ⟨fun h i z => ?_, fun h => Nat.eq_of_testBit_eq fun i => ?_⟩
  · have := congrArg (fun v => v.testBit i) h
    simp only [Nat.testBit_and, z, Bool.true_and] at this
    exact this
  · rw [Nat.testBit_and]
    by_cases e : a.testBit i = true
    · rw [e, h i e]; rfl
    · rw [Bool.eq_false_iff.mpr e]; rfl
theorem zSt_in (h : zIn c lo hi) {i : Nat} : zSt lo hi i = true → i < c := by
  unfold zSt
  split
  · intro z; exact (h.1 i z).2
  · intro z; have := (h.2 _ z).2; omega
theorem r_kindMask (hc : c ≤ 120) (f : zFn g c mk γ) (h : zIn c lo hi) {j : Nat} (hj : j < c) : (if lg_cmp (nL lo &&& ((xatL (xL g 80) 240 (2 * (xat (xI g 79) 120 (nI j)))) ^^^ (-1))) 0 = 0 then if lg_cmp (nL hi &&& ((xatL (xL g 80) 240 ((2 * (xat (xI g 79) 120 (nI j))) + 1)) ^^^ (-1))) 0 = 0 then (1 : Int32) else 0 else 0) = @ite _ (∀ i, zSt lo hi i = true → γ i = γ j) (Classical.propDecidable _) 1 0 := by
  obtain ⟨-, -, κ, K, f1, f2, f3, f4, f5⟩ := f
  obtain ⟨k1, k2⟩ := f3 j hj
  obtain ⟨-, m1, m2⟩ := f5 (κ j) k1
  obtain ⟨b1, b2⟩ := zIn_lt h
  rw [xat_nI (by omega) (by decide), k2, show (2 : Int32) = nI 2 from rfl, nI_mul, nI_1, xatL_nI (by omega) (by decide), xatL_nI (by omega) (by decide), m1, m2]
  have e1 : lg_cmp (nL lo &&& (nL (yBs (fun i => κ i == κ j) (min c 60)) ^^^ (-1))) 0 = 0 ↔ ∀ i, lo.testBit i = true → γ i = γ j := (nL_sub b1).trans (nSub_i.trans ⟨fun z i q => (f4 i j (h.1 i q).2 hj).mp (beq_iff_eq.mp (yBs_bit.mp (z i q)).2), fun z i q => yBs_bit.mpr ⟨by have := h.1 i q; omega, beq_iff_eq.mpr ((f4 i j (h.1 i q).2 hj).mpr (z i q))⟩⟩)
  have e2 : lg_cmp (nL hi &&& (nL (yBs (fun i => κ (60 + i) == κ j) (c - 60)) ^^^ (-1))) 0 = 0 ↔ ∀ i, hi.testBit i = true → γ (60 + i) = γ j := (nL_sub b2).trans (nSub_i.trans ⟨fun z i q => (f4 (60 + i) j (h.2 i q).2 hj).mp (beq_iff_eq.mp (yBs_bit.mp (z i q)).2), fun z i q => yBs_bit.mpr ⟨by have := h.2 i q; omega, beq_iff_eq.mpr ((f4 (60 + i) j (h.2 i q).2 hj).mpr (z i q))⟩⟩)
  have all : (∀ i, zSt lo hi i = true → γ i = γ j) ↔ (∀ i, lo.testBit i = true → γ i = γ j) ∧ ∀ i, hi.testBit i = true → γ (60 + i) = γ j := by
    unfold zSt
    refine ⟨fun z => ⟨fun i q => z i (by rw [if_pos (h.1 i q).1]; exact q), fun i q => z (60 + i) (by rw [if_neg (by omega), show 60 + i - 60 = i by omega]; exact q)⟩, fun ⟨z1, z2⟩ i q => ?_⟩
    by_cases d : i < 60
    · rw [if_pos d] at q; exact z1 i q
    · rw [if_neg d] at q
      have := z2 _ q
      rw [show 60 + (i - 60) = i by omega] at this
      exact this
  by_cases d1 : ∀ i, lo.testBit i = true → γ i = γ j
  · rw [if_pos (e1.mpr d1)]
    by_cases d2 : ∀ i, hi.testBit i = true → γ (60 + i) = γ j
    · rw [if_pos (e2.mpr d2), if_pos (all.mpr ⟨d1, d2⟩)]
    · rw [if_neg (fun z => d2 (e2.mp z)), if_neg (fun z => d2 (all.mp z).2)]
  · rw [if_neg (fun z => d1 (e1.mp z)), if_neg (fun z => d1 (all.mp z).1)]
/-- the class's isAlike -/
theorem r_isAlikeS (hc : c ≤ 120) (f : zFn g c mk γ) (h : zIn c lo hi) : F_X8_isAlike g (nL lo) (nL hi) = @ite _ (zAl c γ (zSt lo hi)) (Classical.propDecidable _) 1 0 := by
  obtain ⟨b1, b2⟩ := zIn_lt h
  have rep : ∀ j, j < c → zSt lo hi j = true → (zAl c γ (zSt lo hi) ↔ ∀ i, zSt lo hi i = true → γ i = γ j) := fun j hj hz => ⟨fun z i q => z i j (zSt_in h q) hj q hz, fun z a b _ _ q1 q2 => (z a q1).trans (z b q2).symm⟩
  have fin : ∀ j, j < c → zSt lo hi j = true → (@ite _ (∀ i, zSt lo hi i = true → γ i = γ j) (Classical.propDecidable _) (1 : Int32) 0) = @ite _ (zAl c γ (zSt lo hi)) (Classical.propDecidable _) 1 0 := fun j hj hz => by
    by_cases d : zAl c γ (zSt lo hi)
    · rw [if_pos d, if_pos ((rep j hj hz).mp d)]
    · rw [if_neg d, if_neg (fun z => d ((rep j hj hz).mpr z))]
  unfold F_X8_isAlike
  by_cases d1 : lo = 0
  · rw [if_pos ((nL_non b1).mpr d1)]
    by_cases d2 : hi = 0
    · rw [if_pos ((nL_non b2).mpr d2), if_pos]
      intro i j _ _ q
      rw [d1, d2] at q
      unfold zSt at q
      rw [Nat.zero_testBit, Nat.zero_testBit] at q
      split at q <;> exact absurd q (by decide)
    · rw [if_neg (fun z => d2 ((nL_non b2).mp z))]
      obtain ⟨t, t1, t2, t3⟩ := r_xlow b2 d2
      have tc := (h.2 t t2).2
      rw [t3, show (60 : Int32) + nI t = nI (60 + t) from nI_add 60 t, r_kindMask hc f h tc, fin _ tc]
      unfold zSt
      rw [if_neg (by omega), show 60 + t - 60 = t by omega]
      exact t2
  · rw [if_neg (fun z => d1 ((nL_non b1).mp z))]
    obtain ⟨t, t1, t2, t3⟩ := r_xlow b1 d1
    have tc := (h.1 t t2).2
    rw [t3, r_kindMask hc f h tc, fin _ tc]
    unfold zSt
    rw [if_pos t1]
    exact t2
end SA
