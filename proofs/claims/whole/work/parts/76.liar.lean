/-! with one lie: the game -/
section LI
variable {g g' : xSt} {n w c o M P N : Nat} {mk : Nat → Nat} {γ : Nat → Int32} {tr : Nat → Nat → Nat} {al : Nat → Prop}
def zSub (a b : Nat) : Prop := ∀ i, a.testBit i = true → b.testBit i = true
/-- behind an answer: those told a lie by it move over -/
def zLy (t x y : Nat) : Nat := (y &&& t) ||| (x &&& (63 ^^^ t))
def zG (tr : Nat → Nat → Nat) (al : Nat → Prop) (P s0 : Nat) : Nat → Nat → Nat → Prop
  | 0, x, y => al (x ||| y)
  | k + 1, x, y => al (x ||| y) ∨ ∃ p, p < P ∧ ∀ s, s0 ≤ s → s < 3 → zG tr al P s0 k (x &&& tr p s) (zLy (tr p s) x y)
theorem zG_al {s0 k x y : Nat} (h : al (x ||| y)) : zG tr al P s0 k x y := by
  cases k with
  | zero => exact h
  | succ k => exact Or.inl h
theorem zG_up {s0 : Nat} : ∀ k x y, zG tr al P s0 k x y → zG tr al P s0 (k + 1) x y := by
  intro k
  induction k with
  | zero => intro x y h; exact Or.inl h
  | succ k ih =>
    intro x y h
    rcases h with h | ⟨p, h1, h2⟩
    · exact Or.inl h
    · exact Or.inr ⟨p, h1, fun s a b => ih _ _ (h2 s a b)⟩
theorem zG_le {s0 x y k : Nat} (h : zG tr al P s0 k x y) : ∀ m, zG tr al P s0 (k + m) x y := by
  intro m
  induction m with
  | zero => exact h
  | succ m ih => exact zG_up _ _ _ ih
theorem zSub_or {x y x' y' : Nat} (h1 : zSub x' x) (h2 : zSub (x' ||| y') (x ||| y)) (t : Nat) : zSub (x' &&& t) (x &&& t) ∧ zSub ((x' &&& t) ||| zLy t x' y') ((x &&& t) ||| zLy t x y) := by
  refine ⟨fun i => ?_, fun i => ?_⟩
  · have a := h1 i
    rw [Nat.testBit_and, Nat.testBit_and]
    generalize x'.testBit i = b1 at a
    generalize x.testBit i = b2 at a
    generalize t.testBit i = b3
    revert a
    cases b1 <;> cases b2 <;> cases b3 <;> decide
  · have a := h1 i
    have b := h2 i
    rw [Nat.testBit_or, Nat.testBit_or] at b
    unfold zLy
    simp only [Nat.testBit_or, Nat.testBit_and]
    generalize x'.testBit i = b1 at a b
    generalize x.testBit i = b2 at a b
    generalize y'.testBit i = b4 at b
    generalize y.testBit i = b5 at b
    generalize t.testBit i = b3
    generalize (63 ^^^ t).testBit i = b6
    revert a b
    cases b1 <;> cases b2 <;> cases b3 <;> cases b4 <;> cases b5 <;> cases b6 <;> decide
/-- fewer are no harder -/
theorem zG_sub (hal : ∀ u v, zSub u v → al v → al u) {s0 : Nat} : ∀ k x y x' y', zG tr al P s0 k x y → zSub x' x → zSub (x' ||| y') (x ||| y) → zG tr al P s0 k x' y' := by
  intro k
  induction k with
  | zero => intro x y x' y' h h1 h2; exact hal _ _ h2 h
  | succ k ih =>
    intro x y x' y' h h1 h2
    rcases h with h | ⟨p, h3, h4⟩
    · exact Or.inl (hal _ _ h2 h)
    · refine Or.inr ⟨p, h3, fun s a b => ?_⟩
      obtain ⟨q1, q2⟩ := zSub_or h1 h2 (tr p s)
      exact ih _ _ _ _ (h4 s a b) q1 q2
/-- without twins the answer that both are the same never decides -/
theorem zG_even (hal : ∀ u v, zSub u v → al v → al u) (h0 : ∀ p, p < P → tr p 0 = 0) : ∀ k x y, x < 64 → y < 64 → (zG tr al P 0 k x y ↔ zG tr al P 1 k x y) := by
  intro k
  induction k with
  | zero => intro x y _ _; exact Iff.rfl
  | succ k ih =>
    intro x y hx hy
    have lt1 : ∀ t, x &&& t < 64 := fun t => Nat.lt_of_le_of_lt Nat.and_le_left hx
    have lt2 : ∀ t, zLy t x y < 64 := fun t => Nat.or_lt_two_pow (n := 6) (Nat.lt_of_le_of_lt Nat.and_le_left hy) (Nat.lt_of_le_of_lt Nat.and_le_left hx)
    refine ⟨fun h => ?_, fun h => ?_⟩
    · rcases h with h | ⟨p, h1, h2⟩
      · exact Or.inl h
      · exact Or.inr ⟨p, h1, fun s a b => (ih _ _ (lt1 _) (lt2 _)).mp (h2 s (by omega) b)⟩
    · rcases h with h | ⟨p, h1, h2⟩
      · exact Or.inl h
      · refine Or.inr ⟨p, h1, fun s a b => ?_⟩
        by_cases c : s = 0
        · subst c
          refine (ih _ _ (lt1 _) (lt2 _)).mpr (zG_sub hal k _ _ _ _ (h2 1 (by omega) (by omega)) ?_ ?_)
          · rw [h0 p h1, Nat.and_zero]; intro i z; rw [Nat.zero_testBit] at z; exact absurd z (by decide)
          · intro i z
            rw [h0 p h1, Nat.and_zero, Nat.zero_or] at z
            unfold zLy at z ⊢
            simp only [Nat.testBit_or, Nat.testBit_and, Nat.testBit_xor, Nat.zero_testBit, Bool.and_false, Bool.false_or, Bool.xor_false] at z ⊢
            generalize x.testBit i = b1 at z ⊢
            generalize y.testBit i = b2 at z ⊢
            generalize (tr p 1).testBit i = b3 at z ⊢
            generalize (63 : Nat).testBit i = b4 at z ⊢
            revert z
            cases b1 <;> cases b2 <;> cases b3 <;> cases b4 <;> decide
        · exact (ih _ _ (lt1 _) (lt2 _)).mpr (h2 s (by omega) b)
/-- v is what it needs, 13 for more than 12 -/
def zNd (tr : Nat → Nat → Nat) (al : Nat → Prop) (P s0 v x y : Nat) : Prop := v ≤ 13 ∧ (v ≤ 12 → zG tr al P s0 v x y) ∧ ∀ k, k < v → ¬ zG tr al P s0 k x y
theorem zNd_one {s0 v v' x y : Nat} (h : zNd tr al P s0 v x y) (h' : zNd tr al P s0 v' x y) : v = v' := by
  obtain ⟨a1, a2, a3⟩ := h
  obtain ⟨b1, b2, b3⟩ := h'
  rcases Nat.lt_trichotomy v v' with c | c | c
  · exact absurd (a2 (by omega)) (b3 v c)
  · exact c
  · exact absurd (b2 (by omega)) (a3 v' c)
theorem zNd_iff {s0 s1 v x y : Nat} (h : ∀ k, zG tr al P s0 k x y ↔ zG tr al P s1 k x y) (q : zNd tr al P s0 v x y) : zNd tr al P s1 v x y := ⟨q.1, fun a => (h v).mp (q.2.1 a), fun k a b => q.2.2 k a ((h k).mpr b)⟩
/-- the worst behind pair p -/
def zWs (tr : Nat → Nat → Nat) (al : Nat → Prop) (P s0 p W x y : Nat) : Prop := W ≤ 13 ∧ (W ≤ 12 → ∀ s, s0 ≤ s → s < 3 → zG tr al P s0 W (x &&& tr p s) (zLy (tr p s) x y)) ∧ ∀ k, k < W → (∀ s, s0 ≤ s → s < 3 → zG tr al P s0 k (x &&& tr p s) (zLy (tr p s) x y)) → zG tr al P s0 k x y
/-- the least of a pair more -/
theorem zNd_of {s0 v x y : Nat} (ha : ¬ al (x ||| y)) (hv : v ≤ 13) (h1 : v ≤ 12 → ∃ p W, p < P ∧ v = 1 + W ∧ zWs tr al P s0 p W x y) (h2 : ∀ p, p < P → ∃ W, v ≤ 1 + W ∧ zWs tr al P s0 p W x y) : zNd tr al P s0 v x y := by
  refine ⟨hv, fun a => ?_, ?_⟩
  · obtain ⟨p, W, q1, q2, q3⟩ := h1 a
    rw [q2, Nat.add_comm]
    exact Or.inr ⟨p, q1, fun s b c => q3.2.1 (by omega) s b c⟩
  · intro k
    induction k with
    | zero => intro _ z; exact ha z
    | succ k ih =>
      intro hk z
      rcases z with z | ⟨p, q1, q2⟩
      · exact ha z
      · obtain ⟨W, w1, w2⟩ := h2 p q1
        exact ih (by omega) (w2.2.2 k (by omega) q2)
end LI
