/-! THE SEARCH: a set's slot -/
section SO
variable {g g' : xSt} {n c r N lo hi k : Nat} {mk : Nat → Nat} {γ : Nat → Int32}
theorem r_4095 (x : Int32) : ∃ k, k < 4096 ∧ x &&& 4095 = nI k := by
  refine ⟨(x.toBitVec &&& 4095#32).toNat, ?_, ?_⟩
  · rw [BitVec.toNat_and]
    exact Nat.lt_of_le_of_lt Nat.and_le_right (by decide)
  · apply Int32.toBitVec_inj.mp
    rw [Int32.toBitVec_and]
    show _ = BitVec.ofNat 32 _
    rw [BitVec.ofNat_toNat, BitVec.setWidth_eq]
    rfl
def zWr (g : xSt) (r k lo hi : Nat) : xSt := xWI (xWI (xWL (xWL (xWI g 84 k (nI r)) 85 (2 * k) (nL lo)) 85 (2 * k + 1) (nL hi)) 86 k 0) 87 k 0
theorem zWr_i (o j : Nat) : xI (zWr g r k lo hi) o j = if (o = 87 ∨ o = 86) ∧ j = k then 0 else if o = 84 ∧ j = k then nI r else xI g o j := by
  unfold zWr
  rw [yI_wi, yI_wi]
  show (if o = 87 ∧ j = k then 0 else if o = 86 ∧ j = k then 0 else xI (xWI g 84 k (nI r)) o j) = _
  rw [yI_wi]
  by_cases a : o = 87 ∧ j = k
  · rw [if_pos a, if_pos ⟨Or.inl a.1, a.2⟩]
  · rw [if_neg a]
    by_cases b : o = 86 ∧ j = k
    · rw [if_pos b, if_pos ⟨Or.inr b.1, b.2⟩]
    · rw [if_neg b, if_neg (show ¬ ((o = 87 ∨ o = 86) ∧ j = k) by omega)]
theorem zWr_l (o j : Nat) : xL (zWr g r k lo hi) o j = if o = 85 ∧ j = 2 * k + 1 then nL hi else if o = 85 ∧ j = 2 * k then nL lo else xL g o j := by
  unfold zWr
  rw [xL_WI, xL_WI, yL_wl, yL_wl]
  rfl
theorem zMe_put (hk : k < 4096) (h1 : lo < 2 ^ 60) (h2 : hi < 2 ^ 60) (h : zMe g r n c mk γ) : zMe (zWr g r k lo hi) r n c mk γ := fun s hs => by
  by_cases e : s = k
  · subst e
    refine ⟨r, Nat.le_refl _, by rw [zWr_i, if_neg (by omega), if_pos ⟨rfl, rfl⟩], fun _ _ => ⟨lo, hi, h1, h2, ?_, ?_, ?_, ?_⟩⟩
    · rw [zWr_l, if_neg (by omega), if_pos ⟨rfl, rfl⟩]
    · rw [zWr_l, if_pos ⟨rfl, rfl⟩]
    · rw [zWr_i, if_pos ⟨Or.inr rfl, rfl⟩]; exact Or.inl rfl
    · rw [zWr_i, if_pos ⟨Or.inl rfl, rfl⟩]; exact Or.inl rfl
  · obtain ⟨ρ, m1, m2, m3⟩ := h s hs
    refine ⟨ρ, m1, by rw [zWr_i, if_neg (by omega), if_neg (by omega)]; exact m2, fun a b => ?_⟩
    obtain ⟨l', h', s1, s2, s3, s4, s5, s6⟩ := m3 a b
    refine ⟨l', h', s1, s2, ?_, ?_, ?_, ?_⟩
    · rw [zWr_l, if_neg (by omega), if_neg (by omega)]; exact s3
    · rw [zWr_l, if_neg (by omega), if_neg (by omega)]; exact s4
    · rw [zWr_i, if_neg (by omega), if_neg (by omega)]; exact s5
    · rw [zWr_i, if_neg (by omega), if_neg (by omega)]; exact s6
end SO
