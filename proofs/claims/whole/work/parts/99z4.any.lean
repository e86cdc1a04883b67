/-! STREET: a line, whichever it is -/
section LX4
variable {gC gR gC' gR' g g' g1 : xSt} {t b n w u s r p k m o i q f pl : Nat} {bt : Nat → Nat}
theorem own_if {j i : Nat} (hj : j < 7) (hi : i < 7) (h6 : xI g 20 6 = 1) (h9 : xI g 20 9 = nI j) : F_X6_isOwn g (nI i) = if j = i then 1 else 0 := by
  unfold F_X6_isOwn
  rw [if_pos h6, h9]
  by_cases c : j = i
  · rw [if_pos c, if_pos (by rw [c])]
  · rw [if_neg c, if_neg (fun z => c ((nI_eq (by omega) (by omega)).mp z))]
theorem j_any (ht : t = 2 ∨ t = 11) (hb : b ≤ 1) (h31 : xI gR 113 31 = nI b) (hC : zTxC gC m bt) (hR : zTxR gR m bt) (h : zGo2 gC gR m bt) (T : zTbl gC gR t b n r p k) (hr : xI gR 123 b = nI (if r = 0 then 0 else 1)) (Wy : zWays gC gR t b k) : ∃ gC' gR', E_X6_readLine t gC = some gC' ∧ E_X12_readLine gR = some gR' ∧ zCb t gC gC' ∧ zRk b gR gR' ∧ zLn gC gC' gR' m bt t b := by
  have fl : (F_X6_isOwn gC 0 = 0 ∧ F_X6_isOwn gC 2 = 0 ∧ F_X6_isOwn gC 3 = 0 ∧ F_X6_isOwn gC 4 = 0 ∧ F_X6_isOwn gC 5 = 0) → (∃ z, E_X12_readLine gR = xb1 (E_X12_misplaced gR) fun g' => K_X12_readLine_24 z g') → ∃ gC' gR', E_X6_readLine t gC = some gC' ∧ E_X12_readLine gR = some gR' ∧ zCb t gC gC' ∧ zRk b gR gR' ∧ zLn gC gC' gR' m bt t b := fun ⟨a0, a2, a3, a4, a5⟩ ⟨z, rl⟩ => by
    obtain ⟨gC2, gR2, b1, b2⟩ := j_full (t := t) (b := b) (K := fun g => some g) h hC (fun g f pl y0 y1 => ⟨g, rfl, zCb.refl, y1⟩) rl
    refine ⟨gC2, gR2, ?_, b2⟩
    unfold E_X6_readLine
    rw [if_pos a0, if_pos a2, if_pos a3, if_pos a4, if_pos a5, b1]
  rcases h.2.2.own with ⟨j, j7, h6, h9, hw, h8⟩ | ⟨no, h8⟩
  · have i0 : F_X6_isOwn gC 0 = if j = 0 then 1 else 0 := own_if j7 (i := 0) (by decide) h6 h9
    have i2 : F_X6_isOwn gC 2 = if j = 2 then 1 else 0 := own_if j7 (i := 2) (by decide) h6 h9
    have i3 : F_X6_isOwn gC 3 = if j = 3 then 1 else 0 := own_if j7 (i := 3) (by decide) h6 h9
    have i4 : F_X6_isOwn gC 4 = if j = 4 then 1 else 0 := own_if j7 (i := 4) (by decide) h6 h9
    have i5 : F_X6_isOwn gC 5 = if j = 5 then 1 else 0 := own_if j7 (i := 5) (by decide) h6 h9
    have none5 : j = 1 ∨ j = 6 → ∃ gC' gR', E_X6_readLine t gC = some gC' ∧ E_X12_readLine gR = some gR' ∧ zCb t gC gC' ∧ zRk b gR gR' ∧ zLn gC gC' gR' m bt t b := fun hj => by
      refine fl ⟨by rw [i0, if_neg (by omega)], by rw [i2, if_neg (by omega)], by rw [i3, if_neg (by omega)], by rw [i4, if_neg (by omega)], by rw [i5, if_neg (by omega)]⟩ ⟨xL gR 113 10, ?_⟩
      have o1 : ∀ x : Nat, x ≤ 1 → nI x = 0 ∨ nI x = 1 := by decide
      obtain ⟨w, u, s, w1, w2, w3, w4, w5, w6, w7, w8, w9⟩ := T.2.1
      have full := r_fullJ hb h31 h8 j7 hw (by rw [w5]; exact o1 w w1) (by rw [w7]; exact o1 u w2)
      rw [if_neg (show ¬ j = 0 by omega), if_neg (show ¬ j = 2 by omega), if_neg (show ¬ j = 3 by omega), if_neg (show ¬ j = 5 by omega), if_neg (show ¬ j = 4 by omega)] at full
      rw [r_line h8 full, if_neg (by decide)]
    have : j = 0 ∨ j = 2 ∨ j = 3 ∨ j = 4 ∨ j = 5 ∨ (j = 1 ∨ j = 6) := by omega
    rcases this with e | e | e | e | e | e
    · subst e
      obtain ⟨gC', gR', a1, a2⟩ := j_line0 ht hb h31 hC hR h h8 hw T hr Wy
      refine ⟨gC', gR', ?_, a2⟩
      unfold E_X6_readLine
      rw [i0, if_neg (by decide), a1, xb1_some]
    · subst e
      obtain ⟨gC', gR', a1, a2⟩ := j_twins ht hb h31 hC hR h h8 hw T hr Wy
      refine ⟨gC', gR', ?_, a2⟩
      unfold E_X6_readLine
      rw [i0, if_pos (by decide), i2, if_neg (by decide), a1, xb1_some]
    · subst e
      obtain ⟨gC', gR', a1, a2⟩ := j_sticks ht hb h31 hC hR h h8 hw T hr Wy
      refine ⟨gC', gR', ?_, a2⟩
      unfold E_X6_readLine
      rw [i0, if_pos (by decide), i2, if_pos (by decide), i3, if_neg (by decide), a1, xb1_some]
    · subst e
      obtain ⟨gC', gR', a1, a2⟩ := j_row ht hb h31 hC hR h h8 hw T hr Wy
      refine ⟨gC', gR', ?_, a2⟩
      unfold E_X6_readLine
      rw [i0, if_pos (by decide), i2, if_pos (by decide), i3, if_pos (by decide), i4, if_neg (by decide), a1, xb1_some]
    · subst e
      obtain ⟨gC', gR', a1, a2⟩ := j_line5 ht hb h31 hC hR h h8 hw T hr Wy
      refine ⟨gC', gR', ?_, a2⟩
      unfold E_X6_readLine
      rw [i0, if_pos (by decide), i2, if_pos (by decide), i3, if_pos (by decide), i4, if_pos (by decide), i5, if_neg (by decide), a1, xb1_some]
    · exact none5 e
  · refine fl ⟨no 0 (by decide), no 2 (by decide), no 3 (by decide), no 4 (by decide), no 5 (by decide)⟩ ⟨xL gR 113 10, ?_⟩
    unfold E_X12_readLine K_X12_readLine_20
    rw [if_neg h8]
end LX4
