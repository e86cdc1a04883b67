/-! STREET: the text's tokens, on both sides -/
section LX
variable {g g' g1 gC gR gC' gR' : xSt} {m st sp p e k : Nat} {bt : Nat → Nat}
def zOwn (j : Nat) : Int64 := if j = 0 then 499967946343 else if j = 1 then 131277443786867 else if j = 2 then 500219604595 else if j = 3 then 126943821523827 else if j = 4 then 7499639 else if j = 5 then 1886151022 else 1685024357
def zTxC (g : xSt) (m : Nat) (bt : Nat → Nat) : Prop := m ≤ 1200 ∧ (∀ k, k < m → bt k < 256) ∧ xI g 20 2 = nI m ∧ (∀ k, k < m → xI g 1 k &&& 255 = nI (bt k)) ∧ ∀ j, j < 7 → xL g 21 j = zOwn j
def zTxR (g : xSt) (m : Nat) (bt : Nat → Nat) : Prop := m ≤ 1200 ∧ (∀ k, k < m → bt k < 256) ∧ xI g 113 3 = nI m ∧ ∀ k, k < m → xI g 115 k &&& 255 = nI (bt k)
def zBl (b : Nat) : Prop := b = 32 ∨ b = 10
def zLt (b : Nat) : Prop := 97 ≤ b ∧ b ≤ 122
def zDt (b : Nat) : Prop := 48 ≤ b ∧ b ≤ 57
theorem zScan (q : Nat → Prop) : ∀ n p, n + p = m → ∃ e, p ≤ e ∧ e ≤ m ∧ (∀ i, p ≤ i → i < e → q i) ∧ (e < m → ¬ q e) := by
  intro n
  induction n with
  | zero => intro p h; exact ⟨p, Nat.le_refl _, by omega, fun i a b => by omega, fun z => by omega⟩
  | succ n ih =>
    intro p h
    by_cases d : q p
    · obtain ⟨e, h1, h2, h3, h4⟩ := ih (p + 1) (by omega)
      refine ⟨e, by omega, h2, fun i a b => ?_, h4⟩
      by_cases c : i = p
      · rw [c]; exact d
      · exact h3 i (by omega) b
    · exact ⟨p, Nat.le_refl _, by omega, fun i a b => by omega, fun _ => d⟩
theorem r_byteAt (h : zTxC g m bt) (hk : k ≤ m) : E_X6_byteAt (nI k) g = some (if k < m then nI (bt k) else -1) := by
  have h1 := h.1
  unfold E_X6_byteAt
  rw [if_neg (nI_pos (by omega)), h.2.2.1]
  by_cases c : k < m
  · rw [if_neg (nI_ge c (by omega)), if_neg (show ¬ (1200 : Int32) ≤ nI k by rw [show (1200 : Int32) = nI 1200 from rfl]; exact nI_ge (by omega) (by decide)), xck_nI (by omega) (by decide), nI_clamp (by omega), h.2.2.2.1 k c, if_pos c]
  · rw [if_pos (nI_le (by omega) (by omega)), if_neg c]
theorem r_sign (h : zTxR g m bt) (hk : k ≤ m) : E_X12_sign (nI k) g = some (if k < m then nI (bt k) else nI 0) := by
  have h1 := h.1
  unfold E_X12_sign
  rw [h.2.2.1]
  by_cases c : k < m
  · rw [if_neg (nI_ge c (by omega)), xck_nI (by omega) (by decide), nI_clamp (by omega), h.2.2.2 k c, if_pos c]
  · rw [if_pos (nI_le (by omega) (by omega)), if_neg c]; rfl
theorem r_let : ∀ b, b < 256 → (if nI b < 97 then (0 : Int32) else if 122 < nI b then 0 else 1) = if 97 ≤ b ∧ b ≤ 122 then 1 else 0 := by decide +kernel
theorem r_dig : ∀ b, b < 256 → (if nI b < 48 then (0 : Int32) else if 57 < nI b then 0 else 1) = if 48 ≤ b ∧ b ≤ 57 then 1 else 0 := by decide +kernel
theorem r_blk : ∀ b, b < 256 → (nI b = 32 ↔ b = 32) ∧ (nI b = 10 ↔ b = 10) := by decide +kernel
theorem r_letC {x : Nat} (hx : x < 256) : F_X6_isLetter g (nI x) = if 97 ≤ x ∧ x ≤ 122 then 1 else 0 := r_let x hx
theorem r_letR {x : Nat} (hx : x < 256) : F_X12_isLetter g (nI x) = if 97 ≤ x ∧ x ≤ 122 then 1 else 0 := r_let x hx
theorem r_digC {x : Nat} (hx : x < 256) : F_X6_isDigit g (nI x) = if 48 ≤ x ∧ x ≤ 57 then 1 else 0 := r_dig x hx
theorem r_digR {x : Nat} (hx : x < 256) : F_X12_isDigit g (nI x) = if 48 ≤ x ∧ x ≤ 57 then 1 else 0 := r_dig x hx
theorem r_letN : F_X6_isLetter g (-1) = 0 := if_pos (by decide)
theorem r_digN : F_X6_isDigit g (-1) = 0 := if_pos (by decide)
def zWd (bt : Nat → Nat) (st : Nat) : Nat → Int64
  | 0 => 0
  | j + 1 => (zWd bt st j <<< (Int32.toInt64 8 &&& 63)) ||| (Int32.toInt64 (nI (bt (st + j))))
def zNn (bt : Nat → Nat) (st : Nat) : Nat → Nat
  | 0 => 0
  | j + 1 => 10 * zNn bt st j + bt (st + j) - 48
theorem zNn_lt : ∀ j, (∀ i, i < j → bt (st + i) ≤ 57) → zNn bt st j < 10 ^ j := by
  intro j
  induction j with
  | zero => intro _; exact Nat.one_pos
  | succ j ih =>
    intro h
    have a := ih fun i hi => h i (by omega)
    have b := h j (by omega)
    show 10 * zNn bt st j + bt (st + j) - 48 < _
    rw [Nat.pow_succ]
    omega
/-! the class -/
def dLx (o k : Nat) : Prop := o = 20 ∧ 4 ≤ k ∧ k ≤ 9
theorem zTxC.lx (h : zTxC g m bt) (y : yAg dLx g g') (l : ∀ o k, ¬ (o = 20 ∧ k = 8) → xL g' o k = xL g o k) : zTxC g' m bt := ⟨h.1, h.2.1, (y.2 20 2 (by unfold dLx; omega)).trans h.2.2.1, fun k hk => by rw [y.2 1 k (by unfold dLx; omega)]; exact h.2.2.2.1 k hk, fun j hj => (l 21 j (by omega)).trans (h.2.2.2.2 j hj)⟩
theorem c_skip (hT : zTxC g m bt) (hst : st ≤ m) (hend : st < m → ¬ zBl (bt st)) : ∀ n i g1, n + i = st → (∀ j, i ≤ j → j < st → zBl (bt j)) → yAg dLx g g1 → xL g1 = xL g → xI g1 20 4 = nI i → ∃ g2, xlim S_X6_advance_8 g1 = some g2 ∧ yAg dLx g g2 ∧ xL g2 = xL g ∧ xI g2 20 4 = nI st := by
  have hm := hT.1
  intro n
  induction n with
  | zero =>
    intro i g1 hi hb y hL h4
    have : i = st := by omega
    subst this
    have T1 := hT.lx y (fun _ _ _ => by rw [hL])
    refine ⟨g1, xlim_end ?_, y, hL, h4⟩
    unfold S_X6_advance_8
    simp only [h4, T1.2.2.1]
    by_cases c : i < m
    · have nb := hend c
      have lt := T1.2.1 i c
      rw [if_neg (nI_ge c (by omega)), r_byteAt T1 (by omega), if_pos c, xb1_some, if_neg (fun z => nb (Or.inl ((r_blk _ lt).1.mp z))), xb1_some, if_neg (fun z => nb (Or.inr ((r_blk _ lt).2.mp z)))]
    · rw [if_pos (nI_le (by omega) (by omega))]
  | succ n ih =>
    intro i g1 hi hb y hL h4
    have T1 := hT.lx y (fun _ _ _ => by rw [hL])
    have c : i < m := by omega
    have lt := T1.2.1 i c
    have st1 : S_X6_advance_8 g1 = some (.inl (xWI g1 20 4 (nI (i + 1)))) := by
      unfold S_X6_advance_8
      simp only [h4, T1.2.2.1, nI_1]
      rw [if_neg (nI_ge c (by omega)), r_byteAt T1 (by omega), if_pos c, xb1_some]
      rcases hb i (Nat.le_refl _) (by omega) with b | b
      · rw [if_pos ((r_blk _ lt).1.mpr b)]
      · rw [if_neg (fun z => by have := (r_blk _ lt).1.mp z; omega), xb1_some, if_pos ((r_blk _ lt).2.mpr b)]
    rw [xlim_go st1]
    exact ih (i + 1) _ (by omega) (fun j a b => hb j (by omega) b) (y.wi (by unfold dLx; omega)) hL (by rw [yI_wi, if_pos ⟨rfl, rfl⟩])
theorem c_letters (hT : zTxC g m bt) (he : e ≤ m) (hend : e < m → ¬ zLt (bt e)) : ∀ n j g1, n + j + st = e → (∀ i, st + j ≤ i → i < e → zLt (bt i)) → yAg dLx g g1 → (∀ o k, ¬ (o = 20 ∧ k = 8) → xL g1 o k = xL g o k) → xI g1 20 5 = nI (st + j) → xL g1 20 8 = zWd bt st j → ∃ g2, xlim S_X6_advance_76 g1 = some g2 ∧ yAg dLx g g2 ∧ (∀ o k, ¬ (o = 20 ∧ k = 8) → xL g2 o k = xL g o k) ∧ xI g2 20 5 = nI e ∧ xL g2 20 8 = zWd bt st (e - st) ∧ (∀ k, k ≠ 5 → xI g2 20 k = xI g1 20 k) := by
  have hm := hT.1
  intro n
  induction n with
  | zero =>
    intro j g1 hi hb y hL h5 h8
    have : st + j = e := by omega
    have T1 := hT.lx y hL
    refine ⟨g1, xlim_end ?_, y, hL, by rw [h5, this], by rw [h8, show e - st = j by omega], fun _ _ => rfl⟩
    unfold S_X6_advance_76
    simp only [h5, this, T1.2.2.1]
    by_cases c : e < m
    · have nb := hend c
      have lt := T1.2.1 e c
      rw [if_neg (nI_ge c (by omega)), r_byteAt T1 (by omega), if_pos c, xb1_some, r_letC lt, if_neg (show ¬ (97 ≤ bt e ∧ bt e ≤ 122) from nb), if_pos rfl]
    · rw [if_pos (nI_le (by omega) (by omega))]
  | succ n ih =>
    intro j g1 hi hb y hL h5 h8
    have T1 := hT.lx y hL
    have c : st + j < m := by omega
    have lt := T1.2.1 _ c
    have st1 : S_X6_advance_76 g1 = some (.inl (xWI (xWL g1 20 8 (zWd bt st (j + 1))) 20 5 (nI (st + (j + 1))))) := by
      unfold S_X6_advance_76
      simp only [h5, h8, T1.2.2.1, nI_1]
      rw [if_neg (nI_ge c (by omega)), r_byteAt T1 (by omega), if_pos c, xb1_some, r_letC lt, if_pos (show 97 ≤ bt (st + j) ∧ bt (st + j) ≤ 122 from hb _ (Nat.le_refl _) (by omega)), if_neg (by decide), xb1_some]
      rfl
    rw [xlim_go st1]
    obtain ⟨g2, a1, a2, a3, a4, a5, a6⟩ := ih (j + 1) (xWI (xWL g1 20 8 (zWd bt st (j + 1))) 20 5 (nI (st + (j + 1)))) (by omega) (fun i a b => hb i (by omega) b) ((show yAg dLx g (xWL g1 20 8 (zWd bt st (j + 1))) from ⟨y.1, y.2⟩).wi (by unfold dLx; omega)) (fun o k h => by rw [xL_WI, yL_wl, if_neg h]; exact hL o k h) (by rw [yI_wi, if_pos ⟨rfl, rfl⟩]) (by rw [xL_WI, yL_wl, if_pos ⟨rfl, rfl⟩])
    exact ⟨g2, a1, a2, a3, a4, a5, fun k hk => (a6 k hk).trans (by rw [yI_wi, if_neg (by omega)]; rfl)⟩
theorem c_digits (hT : zTxC g m bt) (he : e ≤ m) (hend : e < m → ¬ zDt (bt e)) : ∀ n j g1, n + j + st = e → (∀ i, st + j ≤ i → i < e → zDt (bt i)) → yAg dLx g g1 → (∀ o k, ¬ (o = 20 ∧ k = 8) → xL g1 o k = xL g o k) → xI g1 20 5 = nI (st + j) → xI g1 20 7 = nI (zNn bt st j) → ∃ g2, xlim S_X6_advance_190 g1 = some g2 ∧ yAg dLx g g2 ∧ xL g2 = xL g1 ∧ xI g2 20 5 = nI e ∧ xI g2 20 7 = nI (zNn bt st (e - st)) ∧ (∀ k, k ≠ 5 → k ≠ 7 → xI g2 20 k = xI g1 20 k) := by
  have hm := hT.1
  intro n
  induction n with
  | zero =>
    intro j g1 hi hb y hL h5 h7
    have : st + j = e := by omega
    have T1 := hT.lx y hL
    refine ⟨g1, xlim_end ?_, y, rfl, by rw [h5, this], by rw [h7, show e - st = j by omega], fun _ _ _ => rfl⟩
    unfold S_X6_advance_190
    simp only [h5, this, T1.2.2.1]
    by_cases c : e < m
    · have nb := hend c
      have lt := T1.2.1 e c
      rw [if_neg (nI_ge c (by omega)), r_byteAt T1 (by omega), if_pos c, xb1_some, r_digC lt, if_neg (show ¬ (48 ≤ bt e ∧ bt e ≤ 57) from nb), if_pos rfl]
    · rw [if_pos (nI_le (by omega) (by omega))]
  | succ n ih =>
    intro j g1 hi hb y hL h5 h7
    have T1 := hT.lx y hL
    have c : st + j < m := by omega
    have lt := T1.2.1 _ c
    have dd : zDt (bt (st + j)) := hb _ (Nat.le_refl _) (by omega)
    have ev : ((10 * nI (zNn bt st j)) + nI (bt (st + j))) - 48 = nI (zNn bt st (j + 1)) := by
      show _ = nI (10 * zNn bt st j + bt (st + j) - 48)
      have : nI (10 * zNn bt st j + bt (st + j)) = nI (10 * zNn bt st j + bt (st + j) - 48) + 48 := by
        rw [show (48 : Int32) = nI 48 from rfl, nI_add, Nat.sub_add_cancel (by have := dd.1; omega)]
      rw [show (10 : Int32) = nI 10 from rfl, nI_mul, nI_add, this]
      exact Int32.add_sub_cancel _ _
    have st1 : S_X6_advance_190 g1 = some (.inl (xWI (xWI g1 20 7 (nI (zNn bt st (j + 1)))) 20 5 (nI (st + (j + 1))))) := by
      unfold S_X6_advance_190
      simp only [h5, h7, T1.2.2.1, nI_1]
      rw [if_neg (nI_ge c (by omega)), r_byteAt T1 (by omega), if_pos c, xb1_some, r_digC lt, if_pos (show 48 ≤ bt (st + j) ∧ bt (st + j) ≤ 57 from dd), if_neg (by decide), xb1_some, ev]
      rfl
    rw [xlim_go st1]
    obtain ⟨g2, a1, a2, a3, a4, a5, a6⟩ := ih (j + 1) (xWI (xWI g1 20 7 (nI (zNn bt st (j + 1)))) 20 5 (nI (st + (j + 1)))) (by omega) (fun i a b => hb i (by omega) b) ((y.wi (by unfold dLx; omega)).wi (by unfold dLx; omega)) hL (by rw [yI_wi, if_pos ⟨rfl, rfl⟩]) (by rw [yI_wi, if_neg (by omega), yI_wi, if_pos ⟨rfl, rfl⟩])
    exact ⟨g2, a1, a2, a3, a4, a5, fun k h1 h2 => (a6 k h1 h2).trans (by rw [yI_wi, if_neg (by omega), yI_wi, if_neg (by omega)])⟩
/-- what a token is -/
def zSg (b : Nat) : Prop := b = 59 ∨ b = 40 ∨ b = 41 ∨ b = 47
theorem r_sgnC : ∀ b, b < 256 → (if nI b = 59 then (1 : Int32) else if nI b = 40 then 1 else if nI b = 41 then 1 else if nI b = 47 then 1 else 0) = if b = 59 ∨ b = 40 ∨ b = 41 ∨ b = 47 then 1 else 0 := by decide +kernel
/-- the class's token: from st to sp -/
def zTkC (g : xSt) (m : Nat) (bt : Nat → Nat) (st sp : Nat) : Prop := xI g 20 4 = nI st ∧ xI g 20 5 = nI sp ∧ st ≤ sp ∧ sp ≤ m ∧ ((st = m ∧ xI g 20 6 = 0) ∨ (st < m ∧ st < sp ∧ ((zLt (bt st) ∧ xL g 20 8 = zWd bt st (sp - st) ∧ (∀ i, st ≤ i → i < sp → zLt (bt i)) ∧ (sp < m → ¬ zLt (bt sp)) ∧ ((8 < sp - st ∧ xI g 20 6 = 3) ∨ (sp - st ≤ 8 ∧ xI g 20 6 = 1 ∧ ((∃ j, j < 7 ∧ xI g 20 9 = nI j ∧ zWd bt st (sp - st) = zOwn j) ∨ (xI g 20 9 = -1 ∧ ∀ j, j < 7 → zWd bt st (sp - st) ≠ zOwn j))))) ∨ (¬ zLt (bt st) ∧ zDt (bt st) ∧ (∀ i, st ≤ i → i < sp → zDt (bt i)) ∧ (sp < m → ¬ zDt (bt sp)) ∧ (((4 < sp - st ∨ (sp < m ∧ zLt (bt sp))) ∧ xI g 20 6 = 3) ∨ (sp - st ≤ 4 ∧ ¬ (sp < m ∧ zLt (bt sp)) ∧ xI g 20 6 = 2 ∧ xI g 20 7 = nI (zNn bt st (sp - st))))) ∨ (¬ zLt (bt st) ∧ ¬ zDt (bt st) ∧ sp = st + 1 ∧ ((zSg (bt st) ∧ xI g 20 6 = nI (bt st)) ∨ (¬ zSg (bt st) ∧ xI g 20 6 = 3))))))
theorem xfind_own {f : Nat → Int64} {v : Int64} (hf : ∀ j, j < 7 → f j = zOwn j) : ∀ q k, q + k = 7 → (∀ j, j < k → v ≠ zOwn j) → (∃ j, j < 7 ∧ xfind f 7 v q k = nI j ∧ v = zOwn j) ∨ (xfind f 7 v q k = -1 ∧ ∀ j, j < 7 → v ≠ zOwn j) := by
  intro q
  induction q with
  | zero =>
    intro k hk h
    exact Or.inr ⟨rfl, fun j hj => h j (by omega)⟩
  | succ q ih =>
    intro k hk h
    have e : xfind f 7 v (q + 1) k = if k < 7 ∧ f k = v then nI k else if k < 7 then xfind f 7 v q (k + 1) else -1 := rfl
    rw [e]
    by_cases d : f k = v
    · rw [if_pos ⟨by omega, d⟩]
      exact Or.inl ⟨k, by omega, rfl, by rw [← d, hf k (by omega)]⟩
    · rw [if_neg (fun z => d z.2), if_pos (by omega)]
      refine ih (k + 1) (by omega) fun j hj => ?_
      by_cases y : j = k
      · rw [y, ← hf k (by omega)]; exact fun z => d z.symm
      · exact h j (by omega)
end LX
section LY
variable {g g' g1 : xSt} {m st sp p e k o n q : Nat} {bt : Nat → Nat} {v : Int64}
theorem r_findL (hn : n < 2 ^ 31) (hq : q ≤ n) : (∃ j, j < q ∧ E_X7_find o n (nI q) v g = some (nI j) ∧ xL g o j = v) ∨ (E_X7_find o n (nI q) v g = some (-1) ∧ ∀ j, j < q → xL g o j ≠ v) := by
  have key : ∀ m k, m + k = q → (∀ j, j < k → xL g o j ≠ v) → (∃ j, j < q ∧ xlim (S_X7_find_3 o n (nI q) v g) (nI k) = some (.inl (nI j)) ∧ xL g o j = v) ∨ (xlim (S_X7_find_3 o n (nI q) v g) (nI k) = some (.inr ()) ∧ ∀ j, j < q → xL g o j ≠ v) := by
    intro m
    induction m with
    | zero =>
      intro k hk h
      have : k = q := by omega
      subst this
      refine Or.inr ⟨xlim_end ?_, h⟩
      unfold S_X7_find_3
      by_cases c : nI n ≤ nI k
      · simp only [if_pos c, if_pos (nI_le (Nat.le_refl k) (show k < 2 ^ 31 by omega))]
        try (split <;> rfl)
      · simp only [if_neg c, if_pos (nI_le (Nat.le_refl k) (show k < 2 ^ 31 by omega))]
        try (split <;> rfl)
    | succ m ih =>
      intro k hk h
      by_cases d : xL g o k = v
      · refine Or.inl ⟨k, by omega, xlim_end ?_, d⟩
        unfold S_X7_find_3
        rw [show Int32.ofNat n = nI n from rfl]
        simp only [if_neg (nI_ge (show k < q by omega) (show q < 2 ^ 31 by omega)), if_neg (nI_ge (show k < n by omega) hn), xck_nI (show k < n by omega) hn, nI_clamp (show k < 2 ^ 31 by omega), if_pos ((lg_0 _ _).mpr d)]
      · have st1 : S_X7_find_3 o n (nI q) v g (nI k) = some (.inl (nI (k + 1))) := by
          unfold S_X7_find_3
          rw [show Int32.ofNat n = nI n from rfl]
          simp only [if_neg (nI_ge (show k < q by omega) (show q < 2 ^ 31 by omega)), if_neg (nI_ge (show k < n by omega) hn), xck_nI (show k < n by omega) hn, nI_clamp (show k < 2 ^ 31 by omega), if_neg (fun z => d ((lg_0 _ _).mp z)), nI_1]
        rw [xlim_go st1]
        exact ih (k + 1) (by omega) fun j hj => by
          by_cases y : j = k
          · rw [y]; exact d
          · exact h j (by omega)
  unfold E_X7_find
  rcases key q 0 (by omega) (fun j hj => absurd hj (by omega)) with ⟨j, h1, h2, h3⟩ | ⟨h1, h2⟩
  · exact Or.inl ⟨j, h1, by rw [show (0 : Int32) = nI 0 from rfl, h2]; rfl, h3⟩
  · exact Or.inr ⟨by rw [show (0 : Int32) = nI 0 from rfl, h1]; rfl, h2⟩
theorem c_advance (hT : zTxC g m bt) (hp : p ≤ m) (h5 : xI g 20 5 = nI p) : ∃ g' st sp, E_X6_advance g = some g' ∧ yAg dLx g g' ∧ (∀ o k, ¬ (o = 20 ∧ k = 8) → xL g' o k = xL g o k) ∧ zTkC g' m bt st sp ∧ p ≤ st ∧ (∀ j, p ≤ j → j < st → zBl (bt j)) ∧ (st < m → ¬ zBl (bt st)) := by
  have hm := hT.1
  obtain ⟨st, s1, s2, s3, s4⟩ := zScan (m := m) (fun i => zBl (bt i)) (m - p) p (by omega)
  obtain ⟨g1, a1, a2, a3, a4⟩ := c_skip hT s2 s4 (st - p) p (xWI g 20 4 (nI p)) (by omega) s3 ((yAg.refl _ g).wi (by unfold dLx; omega)) rfl (by rw [yI_wi, if_pos ⟨rfl, rfl⟩])
  unfold E_X6_advance
  rw [h5, a1, xb1_some]
  unfold K_X6_advance_58
  rw [a4]
  obtain ⟨e, e1, e2, e3, e4⟩ := zScan (m := m) (fun i => zLt (bt i)) (m - st) st (by omega)
  have y1 : yAg dLx g (xWI (xWL (xWI g1 20 5 (nI st)) 20 8 0) 20 7 0) := (show yAg dLx g (xWL (xWI g1 20 5 (nI st)) 20 8 0) from ⟨(a2.wi (by unfold dLx; omega) : yAg dLx g (xWI g1 20 5 (nI st))).1, (a2.wi (by unfold dLx; omega) : yAg dLx g (xWI g1 20 5 (nI st))).2⟩).wi (by unfold dLx; omega)
  have l1 : ∀ o k, ¬ (o = 20 ∧ k = 8) → xL (xWI (xWL (xWI g1 20 5 (nI st)) 20 8 0) 20 7 0) o k = xL g o k := fun o k h => by rw [xL_WI, yL_wl, if_neg h, xL_WI, a3]
  obtain ⟨g2, b1, b2, b3, b4, b5, b6⟩ := c_letters (st := st) hT e2 e4 (e - st) 0 (xWI (xWL (xWI g1 20 5 (nI st)) 20 8 0) 20 7 0) (by omega) (fun i x y => e3 i (by omega) y) y1 l1 (by rw [yI_wi, if_neg (by omega)]; show xI (xWI g1 20 5 (nI st)) 20 5 = nI (st + 0); rw [yI_wi, if_pos ⟨rfl, rfl⟩, Nat.add_zero]) (by rw [xL_WI, yL_wl, if_pos ⟨rfl, rfl⟩]; rfl)
  have g2_4 : xI g2 20 4 = nI st := by
    rw [b6 4 (by decide), yI_wi, if_neg (by omega)]
    show xI (xWI g1 20 5 (nI st)) 20 4 = nI st
    rw [yI_wi, if_neg (by omega)]; exact a4
  have g2_7 : xI g2 20 7 = 0 := by rw [b6 7 (by decide), yI_wi, if_pos ⟨rfl, rfl⟩]
  rw [b1, xb1_some]
  unfold K_X6_advance_135
  rw [b4, g2_4]
  by_cases c1 : e = st
  · subst c1
    rw [if_pos (nI_le (Nat.le_refl _) (by omega))]
    have nl : e < m → ¬ zLt (bt e) := e4
    obtain ⟨f, f1, f2, f3, f4⟩ := zScan (m := m) (fun i => zDt (bt i)) (m - e) e (by omega)
    obtain ⟨g3, d1, d2, d3, d4, d5, d6⟩ := c_digits (st := e) hT f2 f4 (f - e) 0 g2 (by omega) (fun i x y => f3 i (by omega) y) b2 b3 (by rw [b4, Nat.add_zero]) (by rw [g2_7]; rfl)
    have g3_4 : xI g3 20 4 = nI e := (d6 4 (by decide) (by decide)).trans g2_4
    have T3 := hT.lx d2 (fun o k h => by rw [d3]; exact b3 o k h)
    have l3 : ∀ o k, ¬ (o = 20 ∧ k = 8) → xL g3 o k = xL g o k := fun o k h => by rw [d3]; exact b3 o k h
    rw [d1, xb1_some]
    unfold K_X6_advance_251
    rw [d4, g3_4]
    by_cases c2 : f = e
    · subst c2
      rw [if_pos (nI_le (Nat.le_refl _) (by omega)), T3.2.2.1]
      have im : imin (nI f + 1) (nI m) = nI (min (f + 1) m) := by rw [nI_1, r_imin (by omega) (by omega)]
      by_cases c3 : f < m
      · have lt := hT.2.1 f c3
        rw [if_pos (by rw [nI_ltI (by omega) (by omega)]; exact c3), r_byteAt T3 (by omega), if_pos c3, xb1_some, xb1_some, im]
        have hs : F_X6_isSign g3 (nI (bt f)) = if bt f = 59 ∨ bt f = 40 ∨ bt f = 41 ∨ bt f = 47 then 1 else 0 := r_sgnC _ lt
        rw [hs]
        have mi : min (f + 1) m = f + 1 := Nat.min_eq_left (by omega)
        by_cases c4 : bt f = 59 ∨ bt f = 40 ∨ bt f = 41 ∨ bt f = 47
        · rw [if_pos c4, if_neg (by decide)]
          refine ⟨_, f, f + 1, rfl, (d2.wi (by unfold dLx; omega)).wi (by unfold dLx; omega), l3, ⟨?_, ?_, by omega, by omega, Or.inr ⟨c3, by omega, Or.inr (Or.inr ⟨nl c3, f4 c3, rfl, Or.inl ⟨c4, ?_⟩⟩)⟩⟩, s1, s3, s4⟩
          · rw [yI_wi, if_neg (by omega), yI_wi, if_neg (by omega)]; exact g3_4
          · rw [yI_wi, if_pos ⟨rfl, rfl⟩, mi]
          · rw [yI_wi, if_neg (by omega), yI_wi, if_pos ⟨rfl, rfl⟩]
        · rw [if_neg c4, if_pos rfl]
          refine ⟨_, f, f + 1, rfl, (d2.wi (by unfold dLx; omega)).wi (by unfold dLx; omega), l3, ⟨?_, ?_, by omega, by omega, Or.inr ⟨c3, by omega, Or.inr (Or.inr ⟨nl c3, f4 c3, rfl, Or.inr ⟨c4, ?_⟩⟩)⟩⟩, s1, s3, s4⟩
          · rw [yI_wi, if_neg (by omega), yI_wi, if_neg (by omega)]; exact g3_4
          · rw [yI_wi, if_pos ⟨rfl, rfl⟩, mi]
          · rw [yI_wi, if_neg (by omega), yI_wi, if_pos ⟨rfl, rfl⟩]
      · rw [if_neg (by rw [nI_ltI (by omega) (by omega)]; exact c3), im]
        have mi : min (f + 1) m = m := Nat.min_eq_right (by omega)
        refine ⟨_, f, m, rfl, (d2.wi (by unfold dLx; omega)).wi (by unfold dLx; omega), l3, ⟨?_, ?_, by omega, by omega, Or.inl ⟨by omega, ?_⟩⟩, s1, s3, s4⟩
        · rw [yI_wi, if_neg (by omega), yI_wi, if_neg (by omega)]; exact g3_4
        · rw [yI_wi, if_pos ⟨rfl, rfl⟩, mi]
        · rw [yI_wi, if_neg (by omega), yI_wi, if_pos ⟨rfl, rfl⟩]
    · have fe : e < f := by omega
      have em : e < m := by omega
      have sub : nI f - nI e = nI (f - e) := by
        have : nI f = nI (f - e) + nI e := by rw [nI_add, Nat.sub_add_cancel (by omega)]
        rw [this]
        exact Int32.add_sub_cancel _ _
      rw [if_neg (nI_ge fe (by omega)), sub]
      have dg : zDt (bt e) := f3 e (Nat.le_refl _) fe
      by_cases c3 : 4 < f - e
      · rw [if_pos (show (4 : Int32) < nI (f - e) by rw [show (4 : Int32) = nI 4 from rfl, nI_ltI (by decide) (by omega)]; exact c3)]
        refine ⟨_, e, f, rfl, d2.wi (by unfold dLx; omega), l3, ⟨?_, ?_, by omega, by omega, Or.inr ⟨em, fe, Or.inr (Or.inl ⟨nl em, dg, f3, f4, Or.inl ⟨Or.inl c3, ?_⟩⟩)⟩⟩, s1, s3, s4⟩
        · rw [yI_wi, if_neg (by omega)]; exact g3_4
        · rw [yI_wi, if_neg (by omega)]; exact d4
        · rw [yI_wi, if_pos ⟨rfl, rfl⟩]
      · rw [if_neg (show ¬ (4 : Int32) < nI (f - e) by rw [show (4 : Int32) = nI 4 from rfl, nI_ltI (by decide) (by omega)]; exact c3), r_byteAt T3 f2, xb1_some]
        have il : F_X6_isLetter g3 (if f < m then nI (bt f) else -1) = if f < m ∧ 97 ≤ bt f ∧ bt f ≤ 122 then 1 else 0 := by
          by_cases c4 : f < m
          · rw [if_pos c4, r_letC (hT.2.1 f c4)]
            by_cases c5 : 97 ≤ bt f ∧ bt f ≤ 122
            · rw [if_pos c5, if_pos ⟨c4, c5⟩]
            · rw [if_neg c5, if_neg (fun z => c5 z.2)]
          · rw [if_neg c4, r_letN, if_neg (fun z => c4 z.1)]
        rw [il]
        by_cases c4 : f < m ∧ 97 ≤ bt f ∧ bt f ≤ 122
        · rw [if_pos c4, if_neg (by decide)]
          refine ⟨_, e, f, rfl, d2.wi (by unfold dLx; omega), l3, ⟨?_, ?_, by omega, by omega, Or.inr ⟨em, fe, Or.inr (Or.inl ⟨nl em, dg, f3, f4, Or.inl ⟨Or.inr c4, ?_⟩⟩)⟩⟩, s1, s3, s4⟩
          · rw [yI_wi, if_neg (by omega)]; exact g3_4
          · rw [yI_wi, if_neg (by omega)]; exact d4
          · rw [yI_wi, if_pos ⟨rfl, rfl⟩]
        · rw [if_neg c4, if_pos rfl]
          refine ⟨_, e, f, rfl, d2.wi (by unfold dLx; omega), l3, ⟨?_, ?_, by omega, by omega, Or.inr ⟨em, fe, Or.inr (Or.inl ⟨nl em, dg, f3, f4, Or.inr ⟨by omega, c4, ?_, ?_⟩⟩)⟩⟩, s1, s3, s4⟩
          · rw [yI_wi, if_neg (by omega)]; exact g3_4
          · rw [yI_wi, if_neg (by omega)]; exact d4
          · rw [yI_wi, if_pos ⟨rfl, rfl⟩]
          · rw [yI_wi, if_neg (by omega)]; exact d5
  · have fe : st < e := by omega
    have em : st < m := by omega
    have sub : nI e - nI st = nI (e - st) := by
      have : nI e = nI (e - st) + nI st := by rw [nI_add, Nat.sub_add_cancel (by omega)]
      rw [this]
      exact Int32.add_sub_cancel _ _
    rw [if_neg (nI_ge fe (by omega)), sub]
    have lt1 : zLt (bt st) := e3 st (Nat.le_refl _) fe
    generalize hs0 : (if nI (e - st) ≤ (8 : Int32) then (1 : Int32) else 3) = s0
    unfold K_X6_advance_166
    have own : ∀ j, j < 7 → xL (xWI g2 20 6 s0) 21 j = zOwn j := fun j hj => by rw [xL_WI, b3 21 j (by omega)]; exact hT.2.2.2.2 j hj
    rw [b5]
    have fin : ∀ r, E_X7_find 21 7 7 (zWd bt st (e - st)) (xWI g2 20 6 s0) = some r → ((∃ j, j < 7 ∧ r = nI j ∧ zWd bt st (e - st) = zOwn j) ∨ (r = -1 ∧ ∀ j, j < 7 → zWd bt st (e - st) ≠ zOwn j)) → ∃ g' st1 sp1, (xb1 (E_X7_find 21 7 7 (zWd bt st (e - st)) (xWI g2 20 6 s0)) fun r183_1 => some (xWI (xWI g2 20 6 s0) 20 9 r183_1)) = some g' ∧ yAg dLx g g' ∧ (∀ o k, ¬ (o = 20 ∧ k = 8) → xL g' o k = xL g o k) ∧ zTkC g' m bt st1 sp1 ∧ p ≤ st1 ∧ (∀ j, p ≤ j → j < st1 → zBl (bt j)) ∧ (st1 < m → ¬ zBl (bt st1)) := fun r hr hcase => by
      rw [hr, xb1_some]
      refine ⟨_, st, e, rfl, (b2.wi (by unfold dLx; omega)).wi (by unfold dLx; omega), b3, ⟨?_, ?_, by omega, e2, Or.inr ⟨em, fe, Or.inl ⟨lt1, b5, e3, e4, ?_⟩⟩⟩, s1, s3, s4⟩
      · rw [yI_wi, if_neg (by omega), yI_wi, if_neg (by omega)]; exact g2_4
      · rw [yI_wi, if_neg (by omega), yI_wi, if_neg (by omega)]; exact b4
      · by_cases c3 : e - st ≤ 8
        · right
          rw [if_pos (show nI (e - st) ≤ (8 : Int32) from nI_le c3 (by decide))] at hs0
          refine ⟨c3, ?_, hcase.imp (fun ⟨j, j1, j2, j3⟩ => ⟨j, j1, ?_, j3⟩) (fun ⟨j1, j2⟩ => ⟨?_, j2⟩)⟩
          · rw [yI_wi, if_neg (by omega), yI_wi, if_pos ⟨rfl, rfl⟩, hs0]
          · rw [yI_wi, if_pos ⟨rfl, rfl⟩]; exact j2
          · rw [yI_wi, if_pos ⟨rfl, rfl⟩]; exact j1
        · left
          rw [if_neg (show ¬ nI (e - st) ≤ (8 : Int32) by rw [show (8 : Int32) = nI 8 from rfl]; exact nI_ge (by omega) (by omega))] at hs0
          refine ⟨by omega, ?_⟩
          rw [yI_wi, if_neg (by omega), yI_wi, if_pos ⟨rfl, rfl⟩, hs0]
    rcases r_findL (g := xWI g2 20 6 s0) (o := 21) (n := 7) (q := 7) (v := zWd bt st (e - st)) (by decide) (Nat.le_refl _) with ⟨j, j1, j2, j3⟩ | ⟨j1, j2⟩
    · exact fin (nI j) j2 (Or.inl ⟨j, j1, rfl, by rw [← j3, own j j1]⟩)
    · exact fin (-1) j1 (Or.inr ⟨rfl, fun j hj z => j2 j hj (by rw [own j hj, z])⟩)
end LY
