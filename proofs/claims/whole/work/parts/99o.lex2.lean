/-! STREET: the reference's tokens -/
section LZ
variable {g g' g1 : xSt} {m st sp p e k : Nat} {bt : Nat → Nat}
def dLr (o k : Nat) : Prop := o = 113 ∧ 6 ≤ k ∧ k ≤ 10
theorem zTxR.lx (h : zTxR g m bt) (y : yAg dLr g g') : zTxR g' m bt := ⟨h.1, h.2.1, (y.2 113 3 (by unfold dLr; omega)).trans h.2.2.1, fun k hk => by rw [y.2 115 k (by unfold dLr; omega)]; exact h.2.2.2 k hk⟩
theorem q_skip (hT : zTxR g m bt) (hst : st ≤ m) (hend : st < m → ¬ zBl (bt st)) : ∀ n i g1, n + i = st → (∀ j, i ≤ j → j < st → zBl (bt j)) → yAg dLr g g1 → xL g1 = xL g → xI g1 113 6 = nI i → ∃ g2, xlim S_X12_goOn_8 g1 = some g2 ∧ yAg dLr g g2 ∧ xL g2 = xL g ∧ xI g2 113 6 = nI st := by
  have hm := hT.1
  intro n
  induction n with
  | zero =>
    intro i g1 hi hb y hL h4
    have : i = st := by omega
    subst this
    have T1 := hT.lx y
    refine ⟨g1, xlim_end ?_, y, hL, h4⟩
    unfold S_X12_goOn_8
    simp only [h4, T1.2.2.1]
    by_cases c : i < m
    · have nb := hend c
      have lt := T1.2.1 i c
      rw [if_neg (nI_ge c (by omega)), r_sign T1 (by omega), if_pos c, xb1_some, if_neg (fun z => nb (Or.inl ((r_blk _ lt).1.mp z))), xb1_some, if_neg (fun z => nb (Or.inr ((r_blk _ lt).2.mp z)))]
    · rw [if_pos (nI_le (by omega) (by omega))]
  | succ n ih =>
    intro i g1 hi hb y hL h4
    have T1 := hT.lx y
    have c : i < m := by omega
    have lt := T1.2.1 i c
    have st1 : S_X12_goOn_8 g1 = some (.inl (xWI g1 113 6 (nI (i + 1)))) := by
      unfold S_X12_goOn_8
      simp only [h4, T1.2.2.1, nI_1]
      rw [if_neg (nI_ge c (by omega)), r_sign T1 (by omega), if_pos c, xb1_some]
      rcases hb i (Nat.le_refl _) (by omega) with b | b
      · rw [if_pos ((r_blk _ lt).1.mpr b)]
      · rw [if_neg (fun z => by have := (r_blk _ lt).1.mp z; omega), xb1_some, if_pos ((r_blk _ lt).2.mpr b)]
    rw [xlim_go st1]
    exact ih (i + 1) _ (by omega) (fun j a b => hb j (by omega) b) (y.wi (by unfold dLr; omega)) hL (by rw [yI_wi, if_pos ⟨rfl, rfl⟩])
theorem r_let0 : F_X12_isLetter g (nI 0) = 0 := if_pos (by decide)
theorem r_dig0 : F_X12_isDigit g (nI 0) = 0 := if_pos (by decide)
theorem r_letS (hT : zTxR g1 m bt) (hk : k ≤ m) : ∃ v, E_X12_sign (nI k) g1 = some v ∧ (∀ h : xSt, F_X12_isLetter h v = if k < m ∧ 97 ≤ bt k ∧ bt k ≤ 122 then 1 else 0) ∧ ∀ h : xSt, F_X12_isDigit h v = if k < m ∧ 48 ≤ bt k ∧ bt k ≤ 57 then 1 else 0 := by
  by_cases c : k < m
  · have lt := hT.2.1 k c
    refine ⟨nI (bt k), by rw [r_sign hT hk, if_pos c], fun h => ?_, fun h => ?_⟩
    · rw [r_letR lt]
      by_cases d : 97 ≤ bt k ∧ bt k ≤ 122
      · rw [if_pos d, if_pos ⟨c, d⟩]
      · rw [if_neg d, if_neg (fun z => d z.2)]
    · rw [r_digR lt]
      by_cases d : 48 ≤ bt k ∧ bt k ≤ 57
      · rw [if_pos d, if_pos ⟨c, d⟩]
      · rw [if_neg d, if_neg (fun z => d z.2)]
  · refine ⟨nI 0, by rw [r_sign hT hk, if_neg c], fun h => ?_, fun h => ?_⟩
    · rw [r_let0, if_neg (fun z => c z.1)]
    · rw [r_dig0, if_neg (fun z => c z.1)]
theorem q_letters (hT : zTxR g m bt) (he : sp ≤ m) (hend : sp < m → ¬ zLt (bt sp)) : ∀ n i g1, n + i = sp → (∀ j, i ≤ j → j < sp → zLt (bt j)) → yAg dLr g g1 → xL g1 = xL g → xI g1 113 7 = nI i → ∃ g2, xlim S_X12_goOn_119 g1 = some g2 ∧ yAg dLr g g2 ∧ xL g2 = xL g ∧ xI g2 113 7 = nI sp ∧ (∀ k, k ≠ 7 → xI g2 113 k = xI g1 113 k) := by
  have hm := hT.1
  intro n
  induction n with
  | zero =>
    intro i g1 hi hb y hL h7
    have : i = sp := by omega
    subst this
    have T1 := hT.lx y
    refine ⟨g1, xlim_end ?_, y, hL, h7, fun _ _ => rfl⟩
    obtain ⟨v, v1, v2, -⟩ := r_letS T1 he
    unfold S_X12_goOn_119
    rw [h7, v1, xb1_some, v2, if_neg (show ¬ (i < m ∧ 97 ≤ bt i ∧ bt i ≤ 122) from fun z => hend z.1 z.2), if_pos rfl]
  | succ n ih =>
    intro i g1 hi hb y hL h7
    have T1 := hT.lx y
    obtain ⟨v, v1, v2, -⟩ := r_letS (k := i) T1 (by omega)
    have st1 : S_X12_goOn_119 g1 = some (.inl (xWI g1 113 7 (nI (i + 1)))) := by
      unfold S_X12_goOn_119
      rw [h7, v1, xb1_some, v2, if_pos (show i < m ∧ 97 ≤ bt i ∧ bt i ≤ 122 from ⟨by omega, hb i (Nat.le_refl _) (by omega)⟩), if_neg (by decide), nI_1]
    rw [xlim_go st1]
    obtain ⟨g2, a1, a2, a3, a4, a5⟩ := ih (i + 1) (xWI g1 113 7 (nI (i + 1))) (by omega) (fun j a b => hb j (by omega) b) (y.wi (by unfold dLr; omega)) hL (by rw [yI_wi, if_pos ⟨rfl, rfl⟩])
    exact ⟨g2, a1, a2, a3, a4, fun k hk => (a5 k hk).trans (by rw [yI_wi, if_neg (by omega)])⟩
theorem q_name (hT : zTxR g m bt) (he : sp ≤ m) (hs : st < sp) : ∀ n j g1, n + j = min (sp - st) 8 → yAg dLr g g1 → (∀ o k, ¬ (o = 113 ∧ k = 10) → xL g1 o k = xL g o k) → xI g1 113 6 = nI st → xI g1 113 7 = nI sp → xL g1 113 10 = zWd bt st j → ∃ g2, xlim S_X12_goOn_156 (nI (st + j), g1) = some g2 ∧ xI g2 = xI g1 ∧ xR g2 = xR g1 ∧ (∀ o k, ¬ (o = 113 ∧ k = 10) → xL g2 o k = xL g o k) ∧ xL g2 113 10 = zWd bt st (min (sp - st) 8) := by
  have hm := hT.1
  have i8 : ∀ x : Nat, nI x + 8 = nI (x + 8) := fun x => nI_add x 8
  intro n
  induction n with
  | zero =>
    intro j g1 hj y hL h6 h7 h10
    refine ⟨g1, xlim_end ?_, rfl, rfl, hL, by rw [h10, show j = min (sp - st) 8 by omega]⟩
    unfold S_X12_goOn_156
    simp only [h6, h7, i8]
    by_cases c : sp ≤ st + j
    · rw [if_pos (nI_le c (by omega))]
    · rw [if_neg (nI_ge (by omega) (by omega)), if_pos (nI_le (by omega) (by omega))]
  | succ n ih =>
    intro j g1 hj y hL h6 h7 h10
    have T1 := hT.lx y
    have st1 : S_X12_goOn_156 (nI (st + j), g1) = some (.inl (nI (st + (j + 1)), xWL g1 113 10 (zWd bt st (j + 1)))) := by
      unfold S_X12_goOn_156
      simp only [h6, h7, i8]
      rw [if_neg (nI_ge (by omega) (by omega)), if_neg (nI_ge (by omega) (by omega)), r_sign T1 (by omega), if_pos (by omega), xb1_some, h10, nI_1]
      rfl
    rw [xlim_go st1]
    obtain ⟨g2, a1, a2, a3, a4, a5⟩ := ih (j + 1) (xWL g1 113 10 (zWd bt st (j + 1))) (by omega) ⟨y.1, y.2⟩ (fun o k h => by rw [yL_wl, if_neg h]; exact hL o k h) h6 h7 (by rw [yL_wl, if_pos ⟨rfl, rfl⟩])
    exact ⟨g2, a1, a2, a3, a4, a5⟩
theorem q_digits (hT : zTxR g m bt) (he : sp ≤ m) (hend : sp < m → ¬ zDt (bt sp)) (hds : ∀ j, st ≤ j → j < sp → zDt (bt j)) : ∀ n j g1, n + j + st = sp → yAg dLr g g1 → xL g1 = xL g → xI g1 113 6 = nI st → xI g1 113 7 = nI (st + j) → xI g1 113 9 = nI (zNn bt st (min j 4)) → ∃ g2, xlim S_X12_goOn_259 g1 = some g2 ∧ yAg dLr g g2 ∧ xL g2 = xL g ∧ xI g2 113 6 = nI st ∧ xI g2 113 7 = nI sp ∧ xI g2 113 9 = nI (zNn bt st (min (sp - st) 4)) := by
  have hm := hT.1
  intro n
  induction n with
  | zero =>
    intro j g1 hj y hL h6 h7 h9
    have T1 := hT.lx y
    have e : st + j = sp := by omega
    refine ⟨g1, xlim_end ?_, y, hL, h6, by rw [h7, e], by rw [h9, show sp - st = j by omega]⟩
    obtain ⟨v, v1, -, v3⟩ := r_letS T1 he
    unfold S_X12_goOn_259
    rw [h7, e, v1, xb1_some, v3, if_neg (show ¬ (sp < m ∧ 48 ≤ bt sp ∧ bt sp ≤ 57) from fun z => hend z.1 z.2), if_pos rfl]
  | succ n ih =>
    intro j g1 hj y hL h6 h7 h9
    have T1 := hT.lx y
    have c : st + j < m := by omega
    have dd := hds (st + j) (by omega) (by omega)
    obtain ⟨v, v1, -, v3⟩ := r_letS (k := st + j) T1 (by omega)
    have ve : v = nI (bt (st + j)) := by
      have := r_sign T1 (k := st + j) (by omega)
      rw [if_pos c, v1] at this
      exact Option.some.inj this
    have sub : nI (st + j) - nI st = nI j := by
      have : nI (st + j) = nI j + nI st := by rw [nI_add, Nat.add_comm]
      rw [this]
      exact Int32.add_sub_cancel _ _
    by_cases c4 : 4 ≤ j
    · have st1 : S_X12_goOn_259 g1 = some (.inl (xWI g1 113 7 (nI (st + (j + 1))))) := by
        unfold S_X12_goOn_259
        rw [h7, v1, xb1_some, v3, if_pos (show st + j < m ∧ 48 ≤ bt (st + j) ∧ bt (st + j) ≤ 57 from ⟨c, dd⟩), if_neg (by decide), h6, sub, if_pos (show (4 : Int32) ≤ nI j from nI_le (a := 4) c4 (by omega)), nI_1]
        rfl
      rw [xlim_go st1]
      refine ih (j + 1) _ (by omega) (y.wi (by unfold dLr; omega)) hL (by rw [yI_wi, if_neg (by omega)]; exact h6) (by rw [yI_wi, if_pos ⟨rfl, rfl⟩]) ?_
      rw [yI_wi, if_neg (by omega), h9, Nat.min_eq_right c4, Nat.min_eq_right (by omega)]
    · have ev : ((10 * nI (zNn bt st j)) + nI (bt (st + j))) - 48 = nI (zNn bt st (j + 1)) := by
        show _ = nI (10 * zNn bt st j + bt (st + j) - 48)
        have : nI (10 * zNn bt st j + bt (st + j)) = nI (10 * zNn bt st j + bt (st + j) - 48) + 48 := by
          rw [show (48 : Int32) = nI 48 from rfl, nI_add, Nat.sub_add_cancel (by have := dd.1; omega)]
        rw [show (10 : Int32) = nI 10 from rfl, nI_mul, nI_add, this]
        exact Int32.add_sub_cancel _ _
      have st1 : S_X12_goOn_259 g1 = some (.inl (xWI (xWI g1 113 9 (nI (zNn bt st (j + 1)))) 113 7 (nI (st + (j + 1))))) := by
        unfold S_X12_goOn_259
        rw [h7, v1, xb1_some, v3, if_pos (show st + j < m ∧ 48 ≤ bt (st + j) ∧ bt (st + j) ≤ 57 from ⟨c, dd⟩), if_neg (by decide), h6, sub, if_neg (show ¬ (4 : Int32) ≤ nI j by rw [show (4 : Int32) = nI 4 from rfl]; exact nI_ge (by omega) (by decide)), xb1_some, h9, Nat.min_eq_left (by omega), ve, ev]
        show some (Sum.inl (xWI (xWI g1 113 9 (nI (zNn bt st (j + 1)))) 113 7 (xI (xWI g1 113 9 (nI (zNn bt st (j + 1)))) 113 7 + 1))) = _
        rw [yI_wi, if_neg (by omega), h7, nI_1]
        rfl
      rw [xlim_go st1]
      refine ih (j + 1) _ (by omega) ((y.wi (by unfold dLr; omega)).wi (by unfold dLr; omega)) hL (by rw [yI_wi, if_neg (by omega), yI_wi, if_neg (by omega)]; exact h6) (by rw [yI_wi, if_pos ⟨rfl, rfl⟩]) ?_
      rw [yI_wi, if_neg (by omega), yI_wi, if_pos ⟨rfl, rfl⟩, Nat.min_eq_left (by omega)]
/-- the reference's token -/
def zTkR (g : xSt) (m : Nat) (bt : Nat → Nat) (st sp : Nat) : Prop := xI g 113 6 = nI st ∧ xI g 113 7 = nI sp ∧ ((st = m ∧ xI g 113 8 = 0) ∨ (st < m ∧ ((zLt (bt st) ∧ xL g 113 10 = zWd bt st (min (sp - st) 8) ∧ ((8 < sp - st ∧ xI g 113 8 = 1) ∨ (sp - st ≤ 8 ∧ (((∃ j, j < 7 ∧ zWd bt st (sp - st) = zOwn j) ∧ xI g 113 8 = 3) ∨ ((∀ j, j < 7 → zWd bt st (sp - st) ≠ zOwn j) ∧ xI g 113 8 = 2))))) ∨ (¬ zLt (bt st) ∧ zDt (bt st) ∧ (((4 < sp - st ∨ (sp < m ∧ zLt (bt sp))) ∧ xI g 113 8 = 1) ∨ (sp - st ≤ 4 ∧ ¬ (sp < m ∧ zLt (bt sp)) ∧ xI g 113 8 = 4 ∧ xI g 113 9 = nI (zNn bt st (sp - st))))) ∨ (¬ zLt (bt st) ∧ ¬ zDt (bt st) ∧ ((zSg (bt st) ∧ xI g 113 8 = 5) ∨ (¬ zSg (bt st) ∧ xI g 113 8 = 1))))))
theorem r_keptW {x : Int64} : (F_X12_isKept g x = 0 ∧ ∀ j, j < 7 → x ≠ zOwn j) ∨ (F_X12_isKept g x = 1 ∧ ∃ j, j < 7 ∧ x = zOwn j) := by
  have h0 : zOwn 0 = 499967946343 := rfl
  have h1 : zOwn 1 = 131277443786867 := rfl
  have h2 : zOwn 2 = 500219604595 := rfl
  have h3 : zOwn 3 = 126943821523827 := rfl
  have h4 : zOwn 4 = 7499639 := rfl
  have h5 : zOwn 5 = 1886151022 := rfl
  have h6 : zOwn 6 = 1685024357 := rfl
  unfold F_X12_isKept
  rw [← h0, ← h1, ← h2, ← h3, ← h4, ← h5, ← h6]
  by_cases c0 : x = zOwn 0
  · exact Or.inr ⟨if_pos ((lg_0 _ _).mpr c0), 0, by decide, c0⟩
  · rw [if_neg (fun z => c0 ((lg_0 _ _).mp z))]
    by_cases c1 : x = zOwn 1
    · exact Or.inr ⟨if_pos ((lg_0 _ _).mpr c1), 1, by decide, c1⟩
    · rw [if_neg (fun z => c1 ((lg_0 _ _).mp z))]
      by_cases c2 : x = zOwn 2
      · exact Or.inr ⟨if_pos ((lg_0 _ _).mpr c2), 2, by decide, c2⟩
      · rw [if_neg (fun z => c2 ((lg_0 _ _).mp z))]
        by_cases c3 : x = zOwn 3
        · exact Or.inr ⟨if_pos ((lg_0 _ _).mpr c3), 3, by decide, c3⟩
        · rw [if_neg (fun z => c3 ((lg_0 _ _).mp z))]
          by_cases c4 : x = zOwn 4
          · exact Or.inr ⟨if_pos ((lg_0 _ _).mpr c4), 4, by decide, c4⟩
          · rw [if_neg (fun z => c4 ((lg_0 _ _).mp z))]
            by_cases c5 : x = zOwn 5
            · exact Or.inr ⟨if_pos ((lg_0 _ _).mpr c5), 5, by decide, c5⟩
            · rw [if_neg (fun z => c5 ((lg_0 _ _).mp z))]
              by_cases c6 : x = zOwn 6
              · exact Or.inr ⟨if_pos ((lg_0 _ _).mpr c6), 6, by decide, c6⟩
              · rw [if_neg (fun z => c6 ((lg_0 _ _).mp z))]
                refine Or.inl ⟨rfl, fun j hj => ?_⟩
                have : j = 0 ∨ j = 1 ∨ j = 2 ∨ j = 3 ∨ j = 4 ∨ j = 5 ∨ j = 6 := by omega
                rcases this with e | e | e | e | e | e | e <;> subst e <;> assumption
/-- the token by the text alone -/
def zTkP (m : Nat) (bt : Nat → Nat) (st sp : Nat) : Prop := (st = m ∧ sp = m) ∨ (st < m ∧ st < sp ∧ sp ≤ m ∧ ((zLt (bt st) ∧ (∀ i, st ≤ i → i < sp → zLt (bt i)) ∧ (sp < m → ¬ zLt (bt sp))) ∨ (¬ zLt (bt st) ∧ zDt (bt st) ∧ (∀ i, st ≤ i → i < sp → zDt (bt i)) ∧ (sp < m → ¬ zDt (bt sp))) ∨ (¬ zLt (bt st) ∧ ¬ zDt (bt st) ∧ sp = st + 1)))
theorem zTkC.pure (h : zTkC g m bt st sp) : zTkP m bt st sp := by
  obtain ⟨h1, h2, h3, h4, h5⟩ := h
  rcases h5 with ⟨e, -⟩ | ⟨a, b, c⟩
  · exact Or.inl ⟨e, by omega⟩
  · refine Or.inr ⟨a, b, h4, ?_⟩
    rcases c with ⟨l1, _, l2, l3, _⟩ | ⟨l1, l2, l3, l4, _⟩ | ⟨l1, l2, l3, _⟩
    · exact Or.inl ⟨l1, l2, l3⟩
    · exact Or.inr (Or.inl ⟨l1, l2, l3, l4⟩)
    · exact Or.inr (Or.inr ⟨l1, l2, l3⟩)
theorem q_goOn (hT : zTxR g m bt) (hp : p ≤ st) (hsm : st ≤ m) (h7 : xI g 113 7 = nI p) (hb : ∀ j, p ≤ j → j < st → zBl (bt j)) (hbe : st < m → ¬ zBl (bt st)) (tk : zTkP m bt st sp) : ∃ g', E_X12_goOn g = some g' ∧ yAg dLr g g' ∧ (∀ o k, ¬ (o = 113 ∧ k = 10) → xL g' o k = xL g o k) ∧ zTkR g' m bt st sp := by
  have hm := hT.1
  obtain ⟨g1, a1, a2, a3, a4⟩ := q_skip hT hsm hbe (st - p) p (xWI g 113 6 (nI p)) (by omega) hb ((yAg.refl _ g).wi (by unfold dLr; omega)) rfl (by rw [yI_wi, if_pos ⟨rfl, rfl⟩])
  have T1 := hT.lx a2
  unfold E_X12_goOn
  rw [h7, a1, xb1_some]
  unfold K_X12_goOn_58
  simp only [a4, nI_1, T1.2.2.1]
  rcases tk with ⟨e1, e2⟩ | ⟨lt, l2, l3, tk⟩
  · subst e1
    have e2 := e2.symm
    subst e2
    rw [r_sign T1 (by omega), if_neg (by omega), xb1_some, if_neg (by rw [nI_ltI (by omega) (by omega)]; omega)]
    have e3 : xI (xWI g1 113 7 (nI (st + 1))) 113 3 = nI st := by rw [yI_wi, if_neg (by omega)]; exact T1.2.2.1
    rw [e3]
    refine ⟨_, rfl, (((a2.wi (by unfold dLr; omega)).wi (by unfold dLr; omega)).wi (by unfold dLr; omega)).wi (by unfold dLr; omega), fun o k _ => by rw [← a3]; rfl, ?_, ?_, Or.inl ⟨rfl, ?_⟩⟩
    · rw [yI_wi, if_neg (by omega), yI_wi, if_pos ⟨rfl, rfl⟩]
    · rw [yI_wi, if_pos ⟨rfl, rfl⟩]
    · rw [yI_wi, if_neg (by omega), yI_wi, if_neg (by omega), yI_wi, if_pos ⟨rfl, rfl⟩]
  · have lb := hT.2.1 st lt
    rw [r_sign T1 (by omega), if_pos lt, xb1_some, if_pos (by rw [nI_ltI (by omega) (by omega)]; exact lt), r_letR lb]
    have y1 : yAg dLr g (xWI g1 113 7 (nI (st + 1))) := a2.wi (by unfold dLr; omega)
    have at6 : xI (xWI g1 113 7 (nI (st + 1))) 113 6 = nI st := by rw [yI_wi, if_neg (by omega)]; exact a4
    rcases tk with ⟨t1, t2, t3⟩ | ⟨t1, t2, t3, t4⟩ | ⟨t1, t2, t3⟩
    · rw [if_pos (show 97 ≤ bt st ∧ bt st ≤ 122 from t1), if_neg (by decide)]
      obtain ⟨g2, b1, b2, b3, b4, b5⟩ := q_letters hT l3 t3 (sp - (st + 1)) (st + 1) (xWI g1 113 7 (nI (st + 1))) (by omega) (fun j x y => t2 j (by omega) y) y1 a3 (by rw [yI_wi, if_pos ⟨rfl, rfl⟩])
      have g26 : xI g2 113 6 = nI st := (b5 6 (by decide)).trans at6
      rw [b1, xb1_some, g26]
      obtain ⟨g3, c1, c2, c3, c4, c5⟩ := q_name hT l3 l2 (min (sp - st) 8) 0 (xWL g2 113 10 0) (by omega) ⟨b2.1, b2.2⟩ (fun o k h => by rw [yL_wl, if_neg h, b3]) g26 b4 (by rw [yL_wl, if_pos ⟨rfl, rfl⟩]; rfl)
      rw [Nat.add_zero] at c1
      rw [c1, xb1_some]
      have g3i : ∀ o k, xI g3 o k = xI g2 o k := fun o k => by rw [c2]; rfl
      have y3 : yAg dLr g g3 := ⟨c3.trans b2.1, fun o k h => (g3i o k).trans (b2.2 o k h)⟩
      unfold K_X12_goOn_199
      have sub : nI sp - nI st = nI (sp - st) := by
        have : nI sp = nI (sp - st) + nI st := by rw [nI_add, Nat.sub_add_cancel (by omega)]
        rw [this]
        exact Int32.add_sub_cancel _ _
      rw [g3i 113 7, g3i 113 6, b4, g26, sub]
      have out : ∀ q : Int32, ∀ P : Prop, P → (P → xI (xWI g3 113 8 q) 113 8 = q → ((8 < sp - st ∧ xI (xWI g3 113 8 q) 113 8 = 1) ∨ (sp - st ≤ 8 ∧ (((∃ j, j < 7 ∧ zWd bt st (sp - st) = zOwn j) ∧ xI (xWI g3 113 8 q) 113 8 = 3) ∨ ((∀ j, j < 7 → zWd bt st (sp - st) ≠ zOwn j) ∧ xI (xWI g3 113 8 q) 113 8 = 2))))) → ∃ g', some (xWI g3 113 8 q) = some g' ∧ yAg dLr g g' ∧ (∀ o k, ¬ (o = 113 ∧ k = 10) → xL g' o k = xL g o k) ∧ zTkR g' m bt st sp := fun q P hP z => by
        refine ⟨_, rfl, y3.wi (by unfold dLr; omega), c4, ?_, ?_, Or.inr ⟨lt, Or.inl ⟨t1, c5, z hP (by rw [yI_wi, if_pos ⟨rfl, rfl⟩])⟩⟩⟩
        · rw [yI_wi, if_neg (by omega), g3i]; exact g26
        · rw [yI_wi, if_neg (by omega), g3i]; exact b4
      by_cases d : sp - st ≤ 8
      · rw [if_pos (show nI (sp - st) ≤ (8 : Int32) from nI_le d (by decide)), c5, Nat.min_eq_left d]
        rcases r_keptW (g := g3) (x := zWd bt st (sp - st)) with ⟨k1, k2⟩ | ⟨k1, k2⟩
        · rw [k1, if_pos rfl]
          exact out 2 True trivial fun _ z => Or.inr ⟨d, Or.inr ⟨k2, z⟩⟩
        · rw [k1, if_neg (by decide)]
          exact out 3 True trivial fun _ z => Or.inr ⟨d, Or.inl ⟨k2, z⟩⟩
      · rw [if_neg (show ¬ nI (sp - st) ≤ (8 : Int32) by rw [show (8 : Int32) = nI 8 from rfl]; exact nI_ge (by omega) (by omega))]
        exact out 1 True trivial fun _ z => Or.inl ⟨by omega, z⟩
    · rw [if_neg (show ¬ (97 ≤ bt st ∧ bt st ≤ 122) from t1), if_pos rfl, r_digR lb, if_pos (show 48 ≤ bt st ∧ bt st ≤ 57 from t2), if_neg (by decide), at6]
      obtain ⟨g2, b1, b2, b3, b4, b5, b6⟩ := q_digits hT l3 t4 t3 (sp - st) 0 (xWI (xWI (xWI g1 113 7 (nI (st + 1))) 113 9 0) 113 7 (nI st)) (by omega) ((y1.wi (by unfold dLr; omega)).wi (by unfold dLr; omega)) a3 (by rw [yI_wi, if_neg (by omega), yI_wi, if_neg (by omega)]; exact at6) (by rw [yI_wi, if_pos ⟨rfl, rfl⟩, Nat.add_zero]) (by rw [yI_wi, if_neg (by omega), yI_wi, if_pos ⟨rfl, rfl⟩]; rfl)
      have sub : nI sp - nI st = nI (sp - st) := by
        have : nI sp = nI (sp - st) + nI st := by rw [nI_add, Nat.sub_add_cancel (by omega)]
        rw [this]
        exact Int32.add_sub_cancel _ _
      rw [b1, xb1_some, b5, b4, sub]
      have T2 := hT.lx b2
      by_cases d : 4 < sp - st
      · rw [if_pos (show (4 : Int32) < nI (sp - st) by rw [show (4 : Int32) = nI 4 from rfl, nI_ltI (by decide) (by omega)]; exact d)]
        unfold K_X12_goOn_350
        refine ⟨_, rfl, b2.wi (by unfold dLr; omega), fun o k _ => by rw [← b3]; rfl, ?_, ?_, Or.inr ⟨lt, Or.inr (Or.inl ⟨t1, t2, Or.inl ⟨Or.inl d, ?_⟩⟩)⟩⟩
        · rw [yI_wi, if_neg (by omega)]; exact b4
        · rw [yI_wi, if_neg (by omega)]; exact b5
        · rw [yI_wi, if_pos ⟨rfl, rfl⟩]
      · obtain ⟨v, v1, v2, -⟩ := r_letS T2 l3
        rw [if_neg (show ¬ (4 : Int32) < nI (sp - st) by rw [show (4 : Int32) = nI 4 from rfl, nI_ltI (by decide) (by omega)]; exact d), v1, xb1_some, v2]
        by_cases c4 : sp < m ∧ 97 ≤ bt sp ∧ bt sp ≤ 122
        · rw [if_pos c4, if_neg (by decide)]
          refine ⟨_, rfl, b2.wi (by unfold dLr; omega), fun o k _ => by rw [← b3]; rfl, ?_, ?_, Or.inr ⟨lt, Or.inr (Or.inl ⟨t1, t2, Or.inl ⟨Or.inr c4, ?_⟩⟩)⟩⟩
          · rw [yI_wi, if_neg (by omega)]; exact b4
          · rw [yI_wi, if_neg (by omega)]; exact b5
          · rw [yI_wi, if_pos ⟨rfl, rfl⟩]
        · rw [if_neg c4, if_pos rfl]
          refine ⟨_, rfl, b2.wi (by unfold dLr; omega), fun o k _ => by rw [← b3]; rfl, ?_, ?_, Or.inr ⟨lt, Or.inr (Or.inl ⟨t1, t2, Or.inr ⟨by omega, c4, ?_, ?_⟩⟩)⟩⟩
          · rw [yI_wi, if_neg (by omega)]; exact b4
          · rw [yI_wi, if_neg (by omega)]; exact b5
          · rw [yI_wi, if_pos ⟨rfl, rfl⟩]
          · rw [yI_wi, if_neg (by omega), b6, Nat.min_eq_left (by omega)]
    · rw [if_neg (show ¬ (97 ≤ bt st ∧ bt st ≤ 122) from t1), if_pos rfl, r_digR lb, if_neg (show ¬ (48 ≤ bt st ∧ bt st ≤ 57) from t2), if_pos rfl]
      subst t3
      have sg : (if nI (bt st) = 59 then K_X12_goOn_386 (xWI g1 113 7 (nI (st + 1))) else if nI (bt st) = 40 then K_X12_goOn_386 (xWI g1 113 7 (nI (st + 1))) else if nI (bt st) = 41 then K_X12_goOn_386 (xWI g1 113 7 (nI (st + 1))) else some (xWI (xWI g1 113 7 (nI (st + 1))) 113 8 (if nI (bt st) = 47 then (5 : Int32) else (1 : Int32)))) = some (xWI (xWI g1 113 7 (nI (st + 1))) 113 8 (if bt st = 59 ∨ bt st = 40 ∨ bt st = 41 ∨ bt st = 47 then (5 : Int32) else 1)) := by
        have q : ∀ x y : Nat, x < 256 → y < 256 → (nI x = nI y ↔ x = y) := fun x y hx hy => nI_eq (by omega) (by omega)
        unfold K_X12_goOn_386
        rw [show (59 : Int32) = nI 59 from rfl, show (40 : Int32) = nI 40 from rfl, show (41 : Int32) = nI 41 from rfl, show (47 : Int32) = nI 47 from rfl]
        simp only [q _ _ lb (show 59 < 256 by decide), q _ _ lb (show 40 < 256 by decide), q _ _ lb (show 41 < 256 by decide), q _ _ lb (show 47 < 256 by decide)]
        by_cases d1 : bt st = 59
        · rw [if_pos d1, if_pos (Or.inl d1)]
        · rw [if_neg d1]
          by_cases d2 : bt st = 40
          · rw [if_pos d2, if_pos (Or.inr (Or.inl d2))]
          · rw [if_neg d2]
            by_cases d3 : bt st = 41
            · rw [if_pos d3, if_pos (Or.inr (Or.inr (Or.inl d3)))]
            · rw [if_neg d3]
              by_cases d4 : bt st = 47
              · rw [if_pos d4, if_pos (Or.inr (Or.inr (Or.inr d4)))]
              · rw [if_neg d4, if_neg (fun z => z.elim d1 (fun z => z.elim d2 (fun z => z.elim d3 d4)))]
      rw [sg]
      by_cases d : bt st = 59 ∨ bt st = 40 ∨ bt st = 41 ∨ bt st = 47
      · rw [if_pos d]
        refine ⟨_, rfl, y1.wi (by unfold dLr; omega), fun o k _ => by rw [← a3]; rfl, ?_, ?_, Or.inr ⟨lt, Or.inr (Or.inr ⟨t1, t2, Or.inl ⟨d, ?_⟩⟩)⟩⟩
        · rw [yI_wi, if_neg (by omega)]; exact at6
        · rw [yI_wi, if_neg (by omega), yI_wi, if_pos ⟨rfl, rfl⟩]
        · rw [yI_wi, if_pos ⟨rfl, rfl⟩]
      · rw [if_neg d]
        refine ⟨_, rfl, y1.wi (by unfold dLr; omega), fun o k _ => by rw [← a3]; rfl, ?_, ?_, Or.inr ⟨lt, Or.inr (Or.inr ⟨t1, t2, Or.inr ⟨d, ?_⟩⟩)⟩⟩
        · rw [yI_wi, if_neg (by omega)]; exact at6
        · rw [yI_wi, if_neg (by omega), yI_wi, if_pos ⟨rfl, rfl⟩]
        · rw [yI_wi, if_pos ⟨rfl, rfl⟩]
end LZ
