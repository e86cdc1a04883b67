/-! THE SEARCH: slotOf -/
section SP
variable {g g' : xSt} {n c r N lo hi k : Nat} {mk : Nat → Nat} {γ : Nat → Int32}
theorem lg_0 (a b : Int64) : lg_cmp a b = 0 ↔ a = b := by
  unfold lg_cmp
  by_cases h : a > b
  · rw [if_pos h]
    exact ⟨fun z => absurd z (by decide), fun z => absurd (z ▸ h : b > b) (Int64.lt_irrefl)⟩
  · rw [if_neg h]
    by_cases e : a = b
    · rw [if_pos e]; exact ⟨fun _ => e, fun _ => rfl⟩
    · rw [if_neg e]; exact ⟨fun z => absurd z (by decide), fun z => absurd z e⟩
theorem nL_eq {a b : Nat} (ha : a < 2 ^ 60) (hb : b < 2 ^ 60) : nL a = nL b ↔ a = b := by
  refine ⟨fun h => ?_, fun h => by rw [h]⟩
  have e : (BitVec.ofNat 64 a).toNat = (BitVec.ofNat 64 b).toNat := congrArg (fun x : Int64 => x.toBitVec.toNat) h
  rw [BitVec.toNat_ofNat, BitVec.toNat_ofNat, Nat.mod_eq_of_lt (by omega), Nat.mod_eq_of_lt (by omega)] at e
  exact e
/-- slot k is this round's slot of the set -/
def zAt (g : xSt) (r k lo hi : Nat) : Prop := k < 4096 ∧ xI g 84 k = nI r ∧ xL g 85 (2 * k) = nL lo ∧ xL g 85 (2 * k + 1) = nL hi
def dSl (o k : Nat) : Prop := o = 84 ∨ o = 86 ∨ o = 87
theorem zWr_ag : yAg dSl g (zWr g r k lo hi) := ⟨rfl, fun o j h => by rw [zWr_i, if_neg (fun z => h (by unfold dSl; omega)), if_neg (fun z => h (by unfold dSl; omega))]⟩
theorem zMe_at (hr : 0 < r) (hr2 : r < 2 ^ 31) (h1 : lo < 2 ^ 60) (h2 : hi < 2 ^ 60) (h : zMe g r n c mk γ) (a : zAt g r k lo hi) : zOkW (n * (n - 1) / 2) c mk γ (zSt lo hi) (xI g 86 k) ∧ zOkS (n * (n - 1) / 2) c mk γ (zSt lo hi) (xI g 87 k) := by
  obtain ⟨a1, a2, a3, a4⟩ := a
  obtain ⟨ρ, m1, m2, m3⟩ := h k a1
  have e : ρ = r := (nI_eq (by omega) hr2).mp (m2.symm.trans a2)
  obtain ⟨l', h', s1, s2, s3, s4, s5, s6⟩ := m3 hr e
  have e1 : l' = lo := (nL_eq s1 h1).mp (s3.symm.trans a3)
  have e2 : h' = hi := (nL_eq s2 h2).mp (s4.symm.trans a4)
  subst e1 e2
  exact ⟨s5, s6⟩
/-- a slot of its own, or none -/
theorem r_slotOf (hr2 : r < 2 ^ 31) (h15 : xI g 76 15 = nI r) (h1 : lo < 2 ^ 60) (h2 : hi < 2 ^ 60) (h : zMe g r n c mk γ) : ∃ s g', E_X8_slotOf (nL lo) (nL hi) g = some (s, g') ∧ yAg dSl g g' ∧ (∀ o j, o ≠ 85 → xL g' o j = xL g o j) ∧ zMe g' r n c mk γ ∧ (s = -1 ∨ ∃ k, s = nI k ∧ zAt g' r k lo hi) := by
  have key : ∀ m t k, m + t = 64 → k < 4096 → xlim (S_X8_slotOf_28 (nL lo) (nL hi)) (nI k, nI t, g) = some (.inr g) ∨ ∃ k' g', k' < 4096 ∧ xlim (S_X8_slotOf_28 (nL lo) (nL hi)) (nI k, nI t, g) = some (.inl (nI k', g')) ∧ (g' = g ∧ zAt g r k' lo hi ∨ g' = zWr g r k' lo hi) := by
    intro m
    induction m with
    | zero =>
      intro t k ht hk
      refine Or.inl (xlim_end ?_)
      unfold S_X8_slotOf_28
      exact if_pos (show (64 : Int32) ≤ nI t by rw [show (64 : Int32) = nI 64 from rfl]; exact nI_le (by omega) (by omega))
    | succ m ih =>
      intro t k ht hk
      have h64 : ¬ (64 : Int32) ≤ nI t := by rw [show (64 : Int32) = nI 64 from rfl]; exact nI_ge (by omega) (by omega)
      obtain ⟨k2, q1, q2⟩ := r_4095 (nI k + 1)
      rw [nI_1] at q2
      have i1 : (2 : Int32) * nI k = nI (2 * k) := nI_mul 2 k
      have i2 : nI (2 * k) + 1 = nI (2 * k + 1) := nI_1 _
      have go : S_X8_slotOf_28 (nL lo) (nL hi) (nI k, nI t, g) = some (.inl (nI k2, nI (t + 1), g)) → xlim (S_X8_slotOf_28 (nL lo) (nL hi)) (nI k, nI t, g) = some (.inr g) ∨ ∃ k' g', k' < 4096 ∧ xlim (S_X8_slotOf_28 (nL lo) (nL hi)) (nI k, nI t, g) = some (.inl (nI k', g')) ∧ (g' = g ∧ zAt g r k' lo hi ∨ g' = zWr g r k' lo hi) := fun st => by
        rw [xlim_go st]
        exact ih (t + 1) k2 (by omega) q1
      by_cases c : xI g 84 k = nI r
      · by_cases d : xL g 85 (2 * k) = nL lo
        · by_cases e : xL g 85 (2 * k + 1) = nL hi
          · refine Or.inr ⟨k, g, hk, xlim_end ?_, Or.inl ⟨rfl, hk, c, d, e⟩⟩
            unfold S_X8_slotOf_28
            simp only [if_neg h64, xat_nI hk (show 4096 < 2 ^ 31 by decide), h15, i1, i2, xatL_nI (show 2 * k < 8192 by omega) (show 8192 < 2 ^ 31 by decide), xatL_nI (show 2 * k + 1 < 8192 by omega) (show 8192 < 2 ^ 31 by decide), if_pos c, if_pos ((lg_0 _ _).mpr d), if_pos ((lg_0 _ _).mpr e)]
          · refine go ?_
            unfold S_X8_slotOf_28
            simp only [if_neg h64, xat_nI hk (show 4096 < 2 ^ 31 by decide), h15, i1, i2, xatL_nI (show 2 * k < 8192 by omega) (show 8192 < 2 ^ 31 by decide), xatL_nI (show 2 * k + 1 < 8192 by omega) (show 8192 < 2 ^ 31 by decide), if_pos c, if_pos ((lg_0 _ _).mpr d), if_neg (fun z => e ((lg_0 _ _).mp z)), q2, nI_1]
        · refine go ?_
          unfold S_X8_slotOf_28
          simp only [if_neg h64, xat_nI hk (show 4096 < 2 ^ 31 by decide), h15, i1, xatL_nI (show 2 * k < 8192 by omega) (show 8192 < 2 ^ 31 by decide), if_pos c, if_neg (fun z => d ((lg_0 _ _).mp z)), q2, nI_1]
      · refine Or.inr ⟨k, zWr g r k lo hi, hk, xlim_end ?_, Or.inr rfl⟩
        unfold S_X8_slotOf_28
        simp only [if_neg h64, xat_nI hk (show 4096 < 2 ^ 31 by decide), h15, i1, i2, if_neg c, xput_nI hk (show 4096 < 2 ^ 31 by decide), xputL_nI (show 2 * k < 8192 by omega) (show 8192 < 2 ^ 31 by decide), xputL_nI (show 2 * k + 1 < 8192 by omega) (show 8192 < 2 ^ 31 by decide)]
        rfl
  unfold E_X8_slotOf
  obtain ⟨k0, q1, q2⟩ := r_4095 (Int64.toInt32 ((Int64.toUInt64 (((nL lo * 31) + nL hi) * (-7046029254386353131)) >>> ((Int32.toInt64 40).toUInt64 &&& Int64.toUInt64 63)).toInt64))
  rw [q2]
  rcases key 64 0 k0 (by omega) q1 with e | ⟨k', g', e0, e, f⟩
  · exact ⟨-1, g, by rw [show (nI k0, (0 : Int32), g) = (nI k0, nI 0, g) from rfl, e]; rfl, yAg.refl _ _, fun _ _ _ => rfl, h, Or.inl rfl⟩
  · refine ⟨nI k', g', by rw [show (nI k0, (0 : Int32), g) = (nI k0, nI 0, g) from rfl, e]; rfl, ?_⟩
    rcases f with ⟨rfl, f⟩ | rfl
    · exact ⟨yAg.refl _ _, fun _ _ _ => rfl, h, Or.inr ⟨k', rfl, f⟩⟩
    · refine ⟨zWr_ag, fun o j ho => by rw [zWr_l, if_neg (by omega), if_neg (by omega)], zMe_put e0 h1 h2 h, Or.inr ⟨k', rfl, e0, ?_, ?_, ?_⟩⟩
      · rw [zWr_i, if_neg (by omega), if_pos ⟨rfl, rfl⟩]
      · rw [zWr_l, if_neg (by omega), if_pos ⟨rfl, rfl⟩]
      · rw [zWr_l, if_pos ⟨rfl, rfl⟩]
end SP
