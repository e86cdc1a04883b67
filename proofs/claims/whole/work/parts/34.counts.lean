/-! WHICH WEIGHINGS COUNT, on both sides -/
def yCt (B : yT) (i : Nat) (k : Int32) : Prop := ¬ k < nI (B 3 i) ∧ (B 4 i = 0 ∨ k < nI (B 4 i) - 1) ∧ ¬ (B 5 i < B 9 1 ∧ ¬ k < nI (B 6 (B 5 i)))
section CT
variable {g : xSt} {n : Nat} {B : yT} {i : Nat} {k : Int32}
theorem r_ctC (hb : bkOK n B) (h : bkC g 32 n B) (hi : i < B 9 0) : (yCt B i k → F_X0_counts g 32 (nI i) k = 1) ∧ (¬ yCt B i k → F_X0_counts g 32 (nI i) k = 0) := by
  obtain ⟨w1, w2, w3, w4, w5, w6, w7⟩ := hb
  obtain ⟨c1, c2, c3, c4, c5, c6⟩ := h.2.2.2.2.1 i hi
  have hu := (w5 i hi).2.2.2.2.2.1
  have hd := (w5 i hi).2.2.2.2.2.2
  obtain ⟨u1, u2⟩ := r_unt (v := B 4 i) (by omega)
  have key : (nI (B 9 1) ≤ nI (B 5 i)) ↔ ¬ B 5 i < B 9 1 := by rw [nI_leI (by omega) (by omega)]; omega
  have hw : B 5 i < B 9 1 → xat (xI g (32 + 7)) 40 (nI (B 5 i)) = nI (B 6 (B 5 i)) := fun q => by rw [xat_nI (by omega) (by decide), h.2.2.2.2.2.1 _ q]
  unfold F_X0_counts F_X0_isUntold yCt
  simp only [xat_nI (show i < 60 by omega) (show (60 : Nat) < 2 ^ 31 by decide), c4, c5, c6, h.2.1]
  by_cases q1 : B 5 i < B 9 1
  · have q1' : ¬ nI (B 9 1) ≤ nI (B 5 i) := fun e => key.mp e q1
    rw [if_neg q1', hw q1]
    by_cases q2 : B 4 i = 0
    · have e2 := u1.mpr q2
      by_cases q3 : k < nI (B 3 i) <;> by_cases q4 : k < nI (B 6 (B 5 i)) <;> simp [q1, q2, q3, q4, show nI 0 - 1 = (-1 : Int32) by decide]
    · have e2 : ¬ nI (B 4 i) - 1 = -1 := fun e => q2 (u1.mp e)
      by_cases q3 : k < nI (B 3 i) <;> by_cases q4 : k < nI (B 6 (B 5 i)) <;> by_cases q5 : k < nI (B 4 i) - 1 <;> simp [q1, q2, q3, q4, q5, e2]
  · have q1' : nI (B 9 1) ≤ nI (B 5 i) := key.mpr q1
    rw [if_pos q1']
    by_cases q2 : B 4 i = 0
    · have e2 := u1.mpr q2
      by_cases q3 : k < nI (B 3 i) <;> simp [q1, q2, q3, show nI 0 - 1 = (-1 : Int32) by decide]
    · have e2 : ¬ nI (B 4 i) - 1 = -1 := fun e => q2 (u1.mp e)
      by_cases q3 : k < nI (B 3 i) <;> by_cases q5 : k < nI (B 4 i) - 1 <;> simp [q1, q2, q3, q5, e2]
theorem r_ctLoop (hb : bkOK n B) (h : bkR g n B) (hi : i < B 9 0) : ∀ m j, m + j = B 9 1 → ((∃ w, j ≤ w ∧ w < B 9 1 ∧ ¬ k < nI (B 6 w) ∧ B 5 i ≤ w) → xlim (S_X12_counts_33 (nI i) k g) (nI j) = some (.inl 0)) ∧ ((¬ ∃ w, j ≤ w ∧ w < B 9 1 ∧ ¬ k < nI (B 6 w) ∧ B 5 i ≤ w) → xlim (S_X12_counts_33 (nI i) k g) (nI j) = some (.inr ())) := by
  obtain ⟨w1, w2, w3, w4, w5, w6, w7⟩ := hb
  intro m
  induction m with
  | zero =>
    intro j hj
    refine ⟨fun ⟨w, h1, h2, _⟩ => by omega, fun _ => xlim_end ?_⟩
    unfold S_X12_counts_33
    rw [h.2.1, if_pos (nI_le (by omega) (by omega))]
  | succ m ih =>
    intro j hj
    obtain ⟨i1, i2⟩ := ih (j + 1) (by omega)
    have hjd : j < B 9 1 := by omega
    obtain ⟨d1, d2⟩ := h.2.2.2.2.2.1 j hjd
    obtain ⟨v1, v2, v3, v4⟩ := w6 j hjd
    have k7 : (nI (B 7 j) ≤ nI i) ↔ ¬ B 5 i ≤ j := by
      rw [nI_leI (by omega) (by omega), ← v4 i hi]; omega
    have st : S_X12_counts_33 (nI i) k g (nI j) = if k < nI (B 6 j) then some (.inl (nI (j + 1))) else if nI (B 7 j) ≤ nI i then some (.inl (nI (j + 1))) else some (.inr (.inl 0)) := by
      unfold S_X12_counts_33
      rw [h.2.1, if_neg (nI_ge hjd (by omega)), xck_nI (by omega) (by decide), xck_nI (by omega) (by decide), nI_clamp (by omega), d1, d2, nI_1]
    by_cases q1 : k < nI (B 6 j)
    · have e := xlim_go (st.trans (if_pos q1))
      refine ⟨fun ⟨w, h1, h2, h3, h4⟩ => e.trans (i1 ⟨w, ?_, h2, h3, h4⟩), fun q => e.trans (i2 fun ⟨w, h1, h2, h3, h4⟩ => q ⟨w, by omega, h2, h3, h4⟩)⟩
      rcases Nat.eq_or_lt_of_le h1 with z | z
      · subst z; exact absurd q1 h3
      · exact z
    · by_cases q2 : nI (B 7 j) ≤ nI i
      · have e := xlim_go (st.trans ((if_neg q1).trans (if_pos q2)))
        refine ⟨fun ⟨w, h1, h2, h3, h4⟩ => e.trans (i1 ⟨w, ?_, h2, h3, h4⟩), fun q => e.trans (i2 fun ⟨w, h1, h2, h3, h4⟩ => q ⟨w, by omega, h2, h3, h4⟩)⟩
        rcases Nat.eq_or_lt_of_le h1 with z | z
        · subst z; exact absurd h4 (k7.mp q2)
        · exact z
      · have e := xlim_end (st.trans ((if_neg q1).trans (if_neg q2)))
        refine ⟨fun _ => e, fun q => absurd ⟨j, Nat.le_refl _, hjd, q1, ?_⟩ q⟩
        exact Decidable.byContradiction fun z => q2 (k7.mpr z)
theorem r_ctR (hb : bkOK n B) (h : bkR g n B) (hi : i < B 9 0) : (yCt B i k → E_X12_counts (nI i) k g = some 1) ∧ (¬ yCt B i k → E_X12_counts (nI i) k g = some 0) := by
  obtain ⟨l1, l2⟩ := r_ctLoop (k := k) hb h hi (B 9 1) 0 (by omega)
  obtain ⟨w1, w2, w3, w4, w5, w6, w7⟩ := hb
  obtain ⟨d1, d2, d3, d4, d5⟩ := h.2.2.2.2.1 i hi
  have hu := (w5 i hi).2.2.2.2.2.1
  obtain ⟨u1, u2⟩ := r_unt (v := B 4 i) (by omega)
  have hex : (∃ w, 0 ≤ w ∧ w < B 9 1 ∧ ¬ k < nI (B 6 w) ∧ B 5 i ≤ w) ↔ (B 5 i < B 9 1 ∧ ¬ k < nI (B 6 (B 5 i))) := by
    refine ⟨fun ⟨w, _, h2, h3, h4⟩ => ⟨by omega, fun q => h3 ?_⟩, fun ⟨h1, h2⟩ => ⟨B 5 i, Nat.zero_le _, h1, h2, Nat.le_refl _⟩⟩
    have hm := (w6 (B 5 i) (by omega)).2.1 w h4 h2
    have hwt := (w6 w h2).1
    rw [Int32.lt_iff_toInt_lt, nI_toInt (by omega)] at q ⊢
    omega
  have hK : ((B 5 i < B 9 1 ∧ ¬ k < nI (B 6 (B 5 i))) → K_X12_counts_31 (nI i) k g = some 0) ∧ (¬ (B 5 i < B 9 1 ∧ ¬ k < nI (B 6 (B 5 i))) → K_X12_counts_31 (nI i) k g = some 1) := by
    unfold K_X12_counts_31
    refine ⟨fun q => ?_, fun q => ?_⟩
    · rw [show xlim (S_X12_counts_33 (nI i) k g) 0 = some (.inl 0) from l1 (hex.mpr q), xbs_inl]
    · rw [show xlim (S_X12_counts_33 (nI i) k g) 0 = some (.inr ()) from l2 (fun z => q (hex.mp z)), xbs_inr]
  unfold E_X12_counts
  rw [xck_nI (by omega) (by decide), xck_nI (by omega) (by decide), xck_nI (by omega) (by decide), nI_clamp (by omega), d4, d5]
  unfold yCt
  by_cases q3 : k < nI (B 3 i)
  · rw [if_pos q3]; exact ⟨fun z => absurd q3 z.1, fun _ => rfl⟩
  · rw [if_neg q3]
    by_cases q2 : nI (B 4 i) - 1 < 0
    · rw [if_pos q2]
      have e2 := u2.mp q2
      refine ⟨fun z => hK.2 z.2.2, fun z => hK.1 ?_⟩
      exact Decidable.byContradiction fun y => z ⟨q3, Or.inl e2, y⟩
    · rw [if_neg q2]
      have e2 : ¬ B 4 i = 0 := fun e => q2 (u2.mpr e)
      by_cases q5 : k < nI (B 4 i) - 1
      · rw [if_pos q5]
        refine ⟨fun z => hK.2 z.2.2, fun z => hK.1 ?_⟩
        exact Decidable.byContradiction fun y => z ⟨q3, Or.inr q5, y⟩
      · rw [if_neg q5]
        exact ⟨fun z => absurd z.2.1 (fun y => y.elim e2 q5), fun _ => rfl⟩
end CT
