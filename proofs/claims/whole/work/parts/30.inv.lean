/-! THE ABSTRACT STATE that both sides hold. A table of numbers T : Nat → Nat → Nat for the street in force, one B for the book, three for the boxes.
T 0: 0 things, 1 twins, 2 sticks, 3 plans, 4 twos; T 1 weights; T 2 the clerk's row; T 3 roots (0: done, else the two and one); T 4, T 5 a two's things; T 6 ways at 3 * two + said (0: done, else the two and one).
B 0 first heaps, 1 second heaps, 2 said, 3 told at, 4 untold at (0: not, else the time and one), 5 wet days ahead, 6 wet days' times, 7 weighings ahead of a wet day, 8 hidden weights; B 9: 0 weighings, 1 wet days, 2 time, 3 seed. -/
abbrev yT : Type := Nat → Nat → Nat
def twOK (T : yT) : Prop := T 0 0 ≤ 5 ∧ T 0 1 ≤ 1 ∧ T 0 2 ≤ 99 ∧ T 0 3 ≤ 3 ∧ T 0 4 ≤ 60 ∧ (∀ k, k < T 0 0 → 1 ≤ T 1 k ∧ T 1 k ≤ 999) ∧ (∀ p, p < T 0 0 → T 2 p < T 0 0) ∧ (∀ p q, p < T 0 0 → q < T 0 0 → T 2 p = T 2 q → p = q) ∧ (∀ p, p < T 0 3 → T 3 p ≤ T 0 4) ∧ (∀ i, i < T 0 4 → T 4 i < T 0 0 ∧ T 5 i < T 0 0 ∧ T 4 i ≠ T 5 i) ∧ ∀ i s, i < T 0 4 → s < 3 → T 6 (3 * i + s) = 0 ∨ (i + 1 < T 6 (3 * i + s) ∧ T 6 (3 * i + s) ≤ T 0 4)
def twC (g : xSt) (t : Nat) (T : yT) : Prop := xI g t 0 = nI (T 0 0) ∧ xI g t 3 = nI (T 0 1) ∧ xI g t 5 = nI (T 0 2) ∧ xI g t 8 = nI (T 0 3) ∧ xI g t 11 = nI (T 0 4) ∧ (∀ k, k < T 0 0 → xI g (t + 2) k = nI (T 1 k)) ∧ (∀ p, p < T 0 0 → xI g (t + 3) p = nI (T 2 p)) ∧ (∀ p, p < T 0 3 → xI g (t + 5) p = nI (T 3 p) - 1) ∧ (∀ i, i < T 0 4 → xI g (t + 6) i = nI (T 4 i) ∧ xI g (t + 7) i = nI (T 5 i)) ∧ ∀ i s, i < T 0 4 → s < 3 → xI g (t + 8) (3 * i + s) = nI (T 6 (3 * i + s)) - 1
/-- the reference's way of what was said -/
def yway (s : Nat) : Nat := if s = 0 then 2 else s - 1
/-- a two's place in the reference's tables -/
def ytwo (β v : Nat) : Int32 := if v = 0 then -1 else nI (60 * β + (v - 1))
def twR (g : xSt) (β : Nat) (T : yT) : Prop := xI g 116 β = nI (T 0 0) ∧ xI g 121 β = nI (T 0 1) ∧ xI g 117 β = nI (T 0 2) ∧ xI g 126 β = nI (T 0 3) ∧ xI g 127 β = nI (T 0 4) ∧ (∀ k, k < T 0 0 → xI g 120 (5 * β + k) = nI (T 1 k)) ∧ (∀ p, p < T 0 0 → xI g 119 (5 * β + p) = nI (T 2 p)) ∧ (∀ p, p < T 0 3 → xI g 128 (3 * β + p) = ytwo β (T 3 p)) ∧ (∀ i, i < T 0 4 → xI g 129 (60 * β + i) = nI (T 4 i) ∧ xI g 130 (60 * β + i) = nI (T 5 i)) ∧ ∀ i s, i < T 0 4 → s < 3 → xI g 131 (3 * (60 * β + i) + yway s) = ytwo β (T 6 (3 * i + s))
def bkOK (n : Nat) (B : yT) : Prop := B 9 0 ≤ 60 ∧ B 9 1 ≤ 40 ∧ B 9 2 ≤ 100000 ∧ B 9 3 ≤ 999 ∧ (∀ i, i < B 9 0 → (0 < B 0 i ∧ B 0 i < 2 ^ n) ∧ (0 < B 1 i ∧ B 1 i < 2 ^ n) ∧ B 0 i &&& B 1 i = 0 ∧ B 2 i ≤ 2 ∧ B 3 i ≤ B 9 2 ∧ B 4 i ≤ B 9 2 + 1 ∧ B 5 i ≤ B 9 1) ∧ (∀ w, w < B 9 1 → B 6 w ≤ B 9 2 ∧ (∀ v, w ≤ v → v < B 9 1 → B 6 w ≤ B 6 v) ∧ B 7 w ≤ B 9 0 ∧ ∀ i, i < B 9 0 → (i < B 7 w ↔ B 5 i ≤ w)) ∧ ∀ k, k < n → 1 ≤ B 8 k ∧ B 8 k ≤ 999
def bkC (g : xSt) (b n : Nat) (B : yT) : Prop := xI g b 0 = nI (B 9 0) ∧ xI g b 1 = nI (B 9 1) ∧ xI g b 2 = nI (B 9 2) ∧ xI g b 3 = nI (B 9 3) ∧ (∀ i, i < B 9 0 → xI g (b + 1) i = nI (B 0 i) ∧ xI g (b + 2) i = nI (B 1 i) ∧ xI g (b + 3) i = nI (B 2 i) ∧ xI g (b + 4) i = nI (B 3 i) ∧ xI g (b + 5) i = nI (B 4 i) - 1 ∧ xI g (b + 6) i = nI (B 5 i)) ∧ (∀ w, w < B 9 1 → xI g (b + 7) w = nI (B 6 w)) ∧ ∀ k, k < n → xI g (b + 8) k = nI (B 8 k)
def bkR (g : xSt) (n : Nat) (B : yT) : Prop := xI g 113 44 = nI (B 9 0) ∧ xI g 113 46 = nI (B 9 1) ∧ xI g 113 45 = nI (B 9 2) ∧ xI g 113 47 = nI (B 9 3) ∧ (∀ i, i < B 9 0 → xI g 136 i = nI (B 0 i) ∧ xI g 137 i = nI (B 1 i) ∧ xI g 138 i = nI (B 2 i) ∧ xI g 139 i = nI (B 3 i) ∧ xI g 140 i = nI (B 4 i) - 1) ∧ (∀ w, w < B 9 1 → xI g 141 w = nI (B 6 w) ∧ xI g 142 w = nI (B 7 w)) ∧ ∀ k, k < n → xI g 143 k = nI (B 8 k)
def bkX (g : xSt) (j n : Nat) (B : yT) : Prop := xI g 174 j = nI (B 9 0) ∧ xI g 177 j = nI (B 9 1) ∧ xI g 175 j = nI (B 9 2) ∧ xI g 178 j = nI (B 9 3) ∧ (∀ i, i < B 9 0 → xI g 176 (300 * j + 5 * i) = nI (B 0 i) ∧ xI g 176 (300 * j + 5 * i + 1) = nI (B 1 i) ∧ xI g 176 (300 * j + 5 * i + 2) = nI (B 2 i) ∧ xI g 176 (300 * j + 5 * i + 3) = nI (B 3 i) ∧ xI g 176 (300 * j + 5 * i + 4) = nI (B 4 i) - 1) ∧ (∀ w, w < B 9 1 → xI g 180 (80 * j + w) = nI (B 6 w) ∧ xI g 180 (80 * j + 40 + w) = nI (B 7 w)) ∧ ∀ k, k < n → xI g 179 (5 * j + k) = nI (B 8 k)
def ybx (j : Nat) : Nat := if j = 0 then 42 else if j = 1 then 51 else 60
def I_tape (g : xSt) : Prop := ∃ m : Nat, m ≤ 1200 ∧ xI g 0 1 = nI m ∧ xI g 113 2 = nI m ∧ ∀ k, k < m → xI g 1 k = xI g 114 k
def I_fault (g : xSt) : Prop := xI g 0 2 = xI g 113 4 ∧ xI g 0 3 = xI g 113 5
def I_shelf (g : xSt) : Prop := ∃ m : Nat, m ≤ 24 ∧ xI g 111 1 = nI m ∧ xI g 113 54 = nI m ∧ ∀ k, k < m → xI g 112 k = xI g 149 k
def I_town (g : xSt) (β : Nat) (T : yT) : Prop := twOK T ∧ twC g (tw g) T ∧ β ≤ 1 ∧ xI g 113 30 = nI β ∧ twR g β T
def I_book (g : xSt) (n : Nat) (B : yT) : Prop := bkOK n B ∧ bkC g 32 n B ∧ bkR g n B
def I_boxes (g : xSt) (n : Nat) (X : Nat → yT) : Prop := ∀ j, j < 3 → (xI g (ybx j) 4 = 0 ∧ xI g 174 j = -1) ∨ (xI g (ybx j) 4 = 1 ∧ bkOK n (X j) ∧ bkC g (ybx j) n (X j) ∧ bkX g j n (X j))
/-! what a store may change -/
/-- beside D the ints are the same, the references too -/
def yAg (D : Nat → Nat → Prop) (g g' : xSt) : Prop := xR g' = xR g ∧ ∀ o k, ¬ D o k → xI g' o k = xI g o k
section AG
variable {D : Nat → Nat → Prop} {g g' : xSt} {β n : Nat} {T B : yT} {X : Nat → yT}
theorem twC.ag {t : Nat} (h : yAg D g g') (hD : ∀ j k, j ≤ 8 → ¬ D (t + j) k) (q : twC g t T) : twC g' t T := by
  have e : ∀ k, xI g' t k = xI g t k := fun k => h.2 t k (hD 0 k (by decide))
  have e2 : ∀ j k, j ≤ 8 → xI g' (t + j) k = xI g (t + j) k := fun j k hj => h.2 _ k (hD j k hj)
  unfold twC
  simp only [e, e2 2 _ (by decide), e2 3 _ (by decide), e2 5 _ (by decide), e2 6 _ (by decide), e2 7 _ (by decide), e2 8 _ (by decide)]
  exact q
theorem twR.ag (h : yAg D g g') (hD : ∀ o k, o ∈ [116, 117, 119, 120, 121, 126, 127, 128, 129, 130, 131] → ¬ D o k) (q : twR g β T) : twR g' β T := by
  have e : ∀ o k, o ∈ [116, 117, 119, 120, 121, 126, 127, 128, 129, 130, 131] → xI g' o k = xI g o k := fun o k ho => h.2 o k (hD o k ho)
  unfold twR
  simp only [e 116 _ (by decide), e 117 _ (by decide), e 119 _ (by decide), e 120 _ (by decide), e 121 _ (by decide), e 126 _ (by decide), e 127 _ (by decide), e 128 _ (by decide), e 129 _ (by decide), e 130 _ (by decide), e 131 _ (by decide)]
  exact q
theorem bkC.ag {b : Nat} (h : yAg D g g') (hD : ∀ j k, j ≤ 8 → (j = 0 → k < 4) → ¬ D (b + j) k) (q : bkC g b n B) : bkC g' b n B := by
  have e : ∀ k, k < 4 → xI g' b k = xI g b k := fun k hk => h.2 b k (hD 0 k (by decide) (fun _ => hk))
  have e2 : ∀ j k, j ≤ 8 → 0 < j → xI g' (b + j) k = xI g (b + j) k := fun j k hj h0 => h.2 _ k (hD j k hj (fun q => absurd q (by omega)))
  unfold bkC
  rw [e 0 (by decide), e 1 (by decide), e 2 (by decide), e 3 (by decide)]
  simp only [e2 1 _ (by decide) (by decide), e2 2 _ (by decide) (by decide), e2 3 _ (by decide) (by decide), e2 4 _ (by decide) (by decide), e2 5 _ (by decide) (by decide), e2 6 _ (by decide) (by decide), e2 7 _ (by decide) (by decide), e2 8 _ (by decide) (by decide)]
  exact q
theorem bkR.ag (h : yAg D g g') (hD : ∀ o k, o ∈ [136, 137, 138, 139, 140, 141, 142, 143] → ¬ D o k) (h1 : ¬ D 113 44) (h2 : ¬ D 113 46) (h3 : ¬ D 113 45) (h4 : ¬ D 113 47) (q : bkR g n B) : bkR g' n B := by
  have e : ∀ o k, o ∈ [136, 137, 138, 139, 140, 141, 142, 143] → xI g' o k = xI g o k := fun o k ho => h.2 o k (hD o k ho)
  unfold bkR
  rw [h.2 _ _ h1, h.2 _ _ h2, h.2 _ _ h3, h.2 _ _ h4]
  simp only [e 136 _ (by decide), e 137 _ (by decide), e 138 _ (by decide), e 139 _ (by decide), e 140 _ (by decide), e 141 _ (by decide), e 142 _ (by decide), e 143 _ (by decide)]
  exact q
theorem bkX.ag {j : Nat} (h : yAg D g g') (hD : ∀ o k, o ∈ [174, 175, 176, 177, 178, 179, 180] → ¬ D o k) (q : bkX g j n B) : bkX g' j n B := by
  have e : ∀ o k, o ∈ [174, 175, 176, 177, 178, 179, 180] → xI g' o k = xI g o k := fun o k ho => h.2 o k (hD o k ho)
  unfold bkX
  simp only [e 174 _ (by decide), e 175 _ (by decide), e 176 _ (by decide), e 177 _ (by decide), e 178 _ (by decide), e 179 _ (by decide), e 180 _ (by decide)]
  exact q
theorem I_tape.ag (h : yAg D g g') (hD : ∀ o k, o ∈ [1, 114] → ¬ D o k) (h1 : ¬ D 0 1) (h2 : ¬ D 113 2) (q : I_tape g) : I_tape g' := by
  have e : ∀ o k, o ∈ [1, 114] → xI g' o k = xI g o k := fun o k ho => h.2 o k (hD o k ho)
  unfold I_tape
  rw [h.2 _ _ h1, h.2 _ _ h2]
  simp only [e 1 _ (by decide), e 114 _ (by decide)]
  exact q
theorem I_shelf.ag (h : yAg D g g') (hD : ∀ o k, o ∈ [112, 149] → ¬ D o k) (h1 : ¬ D 111 1) (h2 : ¬ D 113 54) (q : I_shelf g) : I_shelf g' := by
  have e : ∀ o k, o ∈ [112, 149] → xI g' o k = xI g o k := fun o k ho => h.2 o k (hD o k ho)
  unfold I_shelf
  rw [h.2 _ _ h1, h.2 _ _ h2]
  simp only [e 112 _ (by decide), e 149 _ (by decide)]
  exact q
theorem I_fault.ag (h : yAg D g g') (h1 : ¬ D 0 2) (h2 : ¬ D 113 4) (h3 : ¬ D 0 3) (h4 : ¬ D 113 5) (q : I_fault g) : I_fault g' := by
  unfold I_fault
  rw [h.2 _ _ h1, h.2 _ _ h2, h.2 _ _ h3, h.2 _ _ h4]
  exact q
theorem I_town.ag (W : xWf g) (h : yAg D g g') (hD : ∀ j k, j ≤ 8 → ¬ D (tw g + j) k) (hR : ∀ o k, o ∈ [116, 117, 119, 120, 121, 126, 127, 128, 129, 130, 131] → ¬ D o k) (h1 : ¬ D 113 30) (q : I_town g β T) : I_town g' β T := by
  obtain ⟨q1, q2, q3, q4, q5⟩ := q
  refine ⟨q1, ?_, q3, (h.2 _ _ h1).trans q4, q5.ag h hR⟩
  have : tw g' = tw g := by unfold tw; rw [h.1]
  rw [this]
  exact q2.ag h hD
theorem I_book.ag (h : yAg D g g') (hC : ∀ j k, j ≤ 8 → (j = 0 → k < 4) → ¬ D (32 + j) k) (hD : ∀ o k, o ∈ [136, 137, 138, 139, 140, 141, 142, 143] → ¬ D o k) (h1 : ¬ D 113 44) (h2 : ¬ D 113 46) (h3 : ¬ D 113 45) (h4 : ¬ D 113 47) (q : I_book g n B) : I_book g' n B := ⟨q.1, q.2.1.ag h hC, q.2.2.ag h hD h1 h2 h3 h4⟩
theorem I_boxes.ag (h : yAg D g g') (hC : ∀ o k, 42 ≤ o → o ≤ 68 → ¬ D o k) (hD : ∀ o k, o ∈ [174, 175, 176, 177, 178, 179, 180] → ¬ D o k) (q : I_boxes g n X) : I_boxes g' n X := by
  intro j hj
  have hb : 42 ≤ ybx j ∧ ybx j ≤ 60 := by
    unfold ybx
    split
    · decide
    · split <;> decide
  have e4 : xI g' (ybx j) 4 = xI g (ybx j) 4 := h.2 _ _ (hC _ _ hb.1 (by omega))
  have e5 : xI g' 174 j = xI g 174 j := h.2 _ _ (hD _ _ (by decide))
  rcases q j hj with q | ⟨q1, q2, q3, q4⟩
  · exact Or.inl ⟨e4.trans q.1, e5.trans q.2⟩
  · exact Or.inr ⟨e4.trans q1, q2, q3.ag h (fun i k hi _ => hC _ _ (by omega) (by omega)), q4.ag h hD⟩
end AG
