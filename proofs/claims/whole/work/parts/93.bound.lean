/-! THE SEARCH: bounds by kinds, by joined things, by counts -/
section NB
variable {P c k f x0 x : Nat} {mk : Nat → Nat} {γ : Nat → Int32} {S S' : Nat → Bool} {κ : Nat → Nat} {K : Nat}
theorem yCn_or3 {p q0 q1 q2 : Nat → Bool} {m : Nat} (h : ∀ o, o < m → p o = true → q0 o = true ∨ q1 o = true ∨ q2 o = true) : yCn p m ≤ yCn q0 m + yCn q1 m + yCn q2 m := by
  induction m with
  | zero => exact Nat.zero_le _
  | succ m ih =>
    have := ih fun o ho => h o (by omega)
    rw [yCn_succ, yCn_succ, yCn_succ, yCn_succ]
    by_cases d : p m = true
    · rcases h m (by omega) d with e | e | e <;> rw [if_pos d, if_pos e] <;> omega
    · rw [if_neg d]; omega
/-- of how many kinds a set's orders are -/
def zKd (κ : Nat → Nat) (K c : Nat) (S : Nat → Bool) : Nat := yCn (fun k => decide (0 < yCn (fun i => S i && (κ i == k)) c)) K
theorem zKd_mem {k : Nat} : decide (0 < yCn (fun i => S i && (κ i == k)) c) = true ↔ ∃ i, i < c ∧ S i = true ∧ κ i = k := by
  rw [decide_eq_true_eq, yCn_pos]
  constructor
  · rintro ⟨i, h1, h2⟩
    rw [Bool.and_eq_true, beq_iff_eq] at h2
    exact ⟨i, h1, h2⟩
  · rintro ⟨i, h1, h2⟩
    exact ⟨i, h1, by rw [Bool.and_eq_true, beq_iff_eq]; exact h2⟩
theorem zKd_1 (hκ : ∀ i j, i < c → j < c → (κ i = κ j ↔ γ i = γ j)) (h : zAl c γ S) : zKd κ K c S ≤ 1 := by
  refine yCn_inj (c' := 1) (fun _ => 0) K _ (fun _ => true) (fun i _ _ => ⟨by decide, rfl⟩) (fun i j _ _ pi pj _ => ?_)
  obtain ⟨i', h1, h2, h3⟩ := zKd_mem.mp pi
  obtain ⟨j', h4, h5, h6⟩ := zKd_mem.mp pj
  rw [← h3, ← h6]
  exact (hκ _ _ h1 h4).mpr (h _ _ h1 h4 h2 h5)
theorem zKd_3 {p : Nat} (ho : zOne P c mk) (hp : p < P) : zKd κ K c S ≤ zKd κ K c (zPt mk S p 0) + zKd κ K c (zPt mk S p 1) + zKd κ K c (zPt mk S p 2) := by
  refine yCn_or3 fun k _ z => ?_
  obtain ⟨i, h1, h2, h3⟩ := zKd_mem.mp z
  obtain ⟨s, hs, hb⟩ := ho i h1 p hp
  have : s = 0 ∨ s = 1 ∨ s = 2 := by omega
  rcases this with e | e | e <;> subst e
  · exact Or.inl (zKd_mem.mpr ⟨i, h1, zPt_bit.mpr ⟨h2, (hb 0 (by decide)).mpr rfl⟩, h3⟩)
  · exact Or.inr (Or.inl (zKd_mem.mpr ⟨i, h1, zPt_bit.mpr ⟨h2, (hb 1 (by decide)).mpr rfl⟩, h3⟩))
  · exact Or.inr (Or.inr (zKd_mem.mpr ⟨i, h1, zPt_bit.mpr ⟨h2, (hb 2 (by decide)).mpr rfl⟩, h3⟩))
theorem zKd_0 (h : ∀ i, i < c → ¬ S i = true) : zKd κ K c S = 0 := yCn_zero.mpr fun k _ z => by
  obtain ⟨i, h1, h2, -⟩ := zKd_mem.mp z
  exact h i h1 h2
theorem zEv {i p : Nat} (h : mk i % 1024 = 0) (hp : p < 10) : ¬ (mk i).testBit (10 * 0 + p) = true := fun z => by
  have e : (mk i % 2 ^ 10).testBit p = true := by
    rw [Nat.testBit_mod_two_pow, decide_eq_true hp, Bool.true_and]
    rw [show 10 * 0 + p = p by omega] at z
    exact z
  rw [show mk i % 2 ^ 10 = 0 from h, Nat.zero_testBit] at e
  exact absurd e (by decide)
/-- so many weighings part no more kinds -/
theorem zKd_can (ho : zOne P c mk) (hP : P ≤ 10) (hκ : ∀ i j, i < c → j < c → (κ i = κ j ↔ γ i = γ j)) {b : Nat} (hb : b = 3 ∨ (b = 2 ∧ ∀ i, i < c → mk i % 1024 = 0)) : ∀ (k : Nat) (S : Nat → Bool), zCan P c mk γ k S → zKd κ K c S ≤ b ^ k := by
  have b0 : ∀ k, 1 ≤ b ^ k := fun k => Nat.one_le_pow _ _ (by omega)
  intro k
  induction k with
  | zero => intro S h; exact zKd_1 hκ h
  | succ k ih =>
    intro S h
    rcases h with h | ⟨p, hp, h⟩
    · exact Nat.le_trans (zKd_1 hκ h) (b0 _)
    · have t := zKd_3 (κ := κ) (K := K) (S := S) ho hp
      have h0 := ih _ (h 0 (by decide))
      have h1 := ih _ (h 1 (by decide))
      have h2 := ih _ (h 2 (by decide))
      rw [Nat.pow_succ]
      rcases hb with e | ⟨e, hb⟩
      · subst e; omega
      · have z : zKd κ K c (zPt mk S p 0) = 0 := zKd_0 fun i hi z => zEv (hb i hi) (show p < 10 by omega) (zPt_bit.mp z).2
        subst e; omega
/-! sets of all loaded orders by which the balance says so -/
def zCl (P c : Nat) (mk : Nat → Nat) (x0 x : Nat) (S : Nat → Bool) : Prop := x < 2 ^ P ∧ (∀ q, q < P → x0.testBit q = true → x.testBit q = true) ∧ ∃ τ : Nat → Nat, (∀ q, q < P → τ q < 3) ∧ ∀ i, i < c → (S i = true ↔ ∀ q, q < P → x.testBit q = true → (mk i).testBit (10 * τ q + q) = true)
theorem zOr_bit {x p q : Nat} : (x ||| 2 ^ p).testBit q = true ↔ x.testBit q = true ∨ q = p := by
  rw [Nat.testBit_or, Bool.or_eq_true, Nat.testBit_two_pow, decide_eq_true_eq]
  exact ⟨fun z => z.elim Or.inl (fun e => Or.inr e.symm), fun z => z.elim Or.inl (fun e => Or.inr e.symm)⟩
theorem zOr_lt {x p : Nat} (hx : x < 2 ^ P) (hp : p < P) : x ||| 2 ^ p < 2 ^ P := Nat.or_lt_two_pow hx (Nat.pow_lt_pow_right (by decide) hp)
theorem zCl_pt {p s : Nat} (h : zCl P c mk x0 x S) (hp : p < P) (hs : s < 3) (hx : ¬ x.testBit p = true) : zCl P c mk x0 (x ||| 2 ^ p) (zPt mk S p s) := by
  obtain ⟨h0, h1, τ, h2, h3⟩ := h
  refine ⟨zOr_lt h0 hp, fun q hq z => zOr_bit.mpr (Or.inl (h1 q hq z)), fun q => if q = p then s else τ q, fun q hq => ?_, fun i hi => ?_⟩
  · show (if q = p then s else τ q) < 3
    split
    · exact hs
    · exact h2 q hq
  · rw [zPt_bit, h3 i hi]
    constructor
    · rintro ⟨z1, z2⟩ q hq z
      show (mk i).testBit (10 * (if q = p then s else τ q) + q) = true
      by_cases e : q = p
      · rw [if_pos e, e]; exact z2
      · rw [if_neg e]
        rcases zOr_bit.mp z with z | z
        · exact z1 q hq z
        · exact absurd z e
    · intro z
      refine ⟨fun q hq y => ?_, ?_⟩
      · have e : ¬ q = p := fun e => hx (e ▸ y)
        have w : (mk i).testBit (10 * (if q = p then s else τ q) + q) = true := z q hq (zOr_bit.mpr (Or.inl y))
        rw [if_neg e] at w
        exact w
      · have w : (mk i).testBit (10 * (if p = p then s else τ p) + p) = true := z p hp (zOr_bit.mpr (Or.inr rfl))
        rw [if_pos rfl] at w
        exact w
/-- a pair that is sure parts nothing -/
theorem zCl_sp {p : Nat} (h : zCl P c mk x0 x S) (hp : p < P) (hs : zSp c mk S p) : ¬ x.testBit p = true := fun z => by
  obtain ⟨-, -, τ, h2, h3⟩ := h
  obtain ⟨i, h4, h5, h6⟩ := hs (τ p) (h2 p hp)
  exact h6 ((h3 i h4).mp h5 p hp z)
theorem zCl_same {p : Nat} (h : zCl P c mk x0 x S) (hp : p < P) (hx : x.testBit p = true) : ∃ s, s < 3 ∧ (∀ i, i < c → S i = true → zPt mk S p s i = true) ∧ x ||| 2 ^ p = x := by
  obtain ⟨-, -, τ, h2, h3⟩ := h
  refine ⟨τ p, h2 p hp, fun i hi si => zPt_bit.mpr ⟨si, (h3 i hi).mp si p hp hx⟩, Nat.eq_of_testBit_eq fun q => ?_⟩
  rw [Bool.eq_iff_iff, zOr_bit]
  exact ⟨fun z => z.elim id (fun e => e ▸ hx), Or.inl⟩
theorem zPt_3 {p : Nat} (ho : zOne P c mk) (hp : p < P) : yCn S c ≤ yCn (zPt mk S p 0) c + yCn (zPt mk S p 1) c + yCn (zPt mk S p 2) c := yCn_or3 fun i hi z => by
  obtain ⟨s, hs, hb⟩ := ho i hi p hp
  have : s = 0 ∨ s = 1 ∨ s = 2 := by omega
  rcases this with e | e | e <;> subst e
  · exact Or.inl (zPt_bit.mpr ⟨z, (hb 0 (by decide)).mpr rfl⟩)
  · exact Or.inr (Or.inl (zPt_bit.mpr ⟨z, (hb 1 (by decide)).mpr rfl⟩))
  · exact Or.inr (Or.inr (zPt_bit.mpr ⟨z, (hb 2 (by decide)).mpr rfl⟩))
/-- the same, just -/
theorem zPt_3' {p : Nat} (ho : zOne P c mk) (hp : p < P) : yCn S c = yCn (zPt mk S p 0) c + yCn (zPt mk S p 1) c + yCn (zPt mk S p 2) c := by
  have e : yCn S c = yCn (fun i => zPt mk S p 0 i || zPt mk S p 1 i) c + yCn (zPt mk S p 2) c := yCn_add fun i hi => by
    obtain ⟨t, ht, oi⟩ := ho i hi _ hp
    have b0 := oi 0 (by decide)
    have b1 := oi 1 (by decide)
    have b2 := oi 2 (by decide)
    unfold zPt
    have : t = 0 ∨ t = 1 ∨ t = 2 := by omega
    rcases this with e | e | e <;> subst e
    · rw [b0.mpr rfl, Bool.eq_false_iff.mpr (fun z => absurd (b1.mp z) (by decide)), Bool.eq_false_iff.mpr (fun z => absurd (b2.mp z) (by decide))]
      cases S i <;> rfl
    · rw [b1.mpr rfl, Bool.eq_false_iff.mpr (fun z => absurd (b0.mp z) (by decide)), Bool.eq_false_iff.mpr (fun z => absurd (b2.mp z) (by decide))]
      cases S i <;> rfl
    · rw [b2.mpr rfl, Bool.eq_false_iff.mpr (fun z => absurd (b0.mp z) (by decide)), Bool.eq_false_iff.mpr (fun z => absurd (b1.mp z) (by decide))]
      cases S i <;> rfl
  have e2 : yCn (fun i => zPt mk S p 0 i || zPt mk S p 1 i) c = yCn (zPt mk S p 0) c + yCn (zPt mk S p 1) c := yCn_add fun i hi => by
    obtain ⟨t, ht, oi⟩ := ho i hi _ hp
    have b0 := oi 0 (by decide)
    have b1 := oi 1 (by decide)
    unfold zPt
    by_cases e0 : t = 0
    · rw [b0.mpr e0.symm, Bool.eq_false_iff.mpr (fun z => absurd (b1.mp z) (by omega))]
      cases S i <;> rfl
    · rw [Bool.eq_false_iff.mpr (fun z => e0 (b0.mp z).symm)]
      cases S i <;> cases (mk i).testBit (10 * 1 + p) <;> rfl
  rw [e, e2]
/-- things not joined yet ask for so many weighings more -/
theorem zJo_can {G : Nat → Nat} (ho : zOne P c mk) (hG : ∀ x p, x < 2 ^ P → p < P → G x ≤ G (x ||| 2 ^ p) + 1) (hK : ∀ x S, zCl P c mk x0 x S → (∃ i, i < c ∧ S i = true) → zAl c γ S → G x ≤ 1) : ∀ (k x : Nat) (S : Nat → Bool), zCl P c mk x0 x S → (∃ i, i < c ∧ S i = true) → zCan P c mk γ k S → G x ≤ k + 1 := by
  intro k
  induction k with
  | zero => intro x S h1 h2 h3; exact hK x S h1 h2 h3
  | succ k ih =>
    intro x S h1 h2 h3
    rcases h3 with h3 | ⟨p, hp, h3⟩
    · have := hK x S h1 h2 h3; omega
    · obtain ⟨i, hi, si⟩ := h2
      by_cases d : x.testBit p = true
      · obtain ⟨s, s1, s2, -⟩ := zCl_same h1 hp d
        have := ih x S h1 ⟨i, hi, si⟩ (zCan_sub s2 (h3 s s1))
        omega
      · obtain ⟨s, hs, hb⟩ := ho i hi p hp
        have := ih _ _ (zCl_pt h1 hp hs d) ⟨i, hi, zPt_bit.mpr ⟨si, (hb s hs).mpr rfl⟩⟩ (h3 s hs)
        have := hG x p h1.1 hp
        omega
theorem zJo_tot {G : Nat → Nat} (ho : zOne P c mk) (hG : ∀ x p, x < 2 ^ P → p < P → G x ≤ G (x ||| 2 ^ p) + 1) (hK : ∀ x S, zCl P c mk x0 x S → (∃ i, i < c ∧ S i = true) → zAl c γ S → G x ≤ 1) : ∀ (f k x : Nat) (S : Nat → Bool), zCl P c mk x0 x S → zTot P c mk γ f k S → yCn S c * (G x - 1) ≤ k := by
  have al : ∀ (k x : Nat) (S : Nat → Bool), zCl P c mk x0 x S → zAl c γ S → yCn S c * (G x - 1) ≤ k := fun k x S h1 h3 => by
    rcases Nat.eq_zero_or_pos (yCn S c) with e | e
    · rw [e, Nat.zero_mul]; exact Nat.zero_le _
    · have := hK x S h1 (yCn_pos.mp e) h3
      rw [show G x - 1 = 0 by omega, Nat.mul_zero]
      exact Nat.zero_le _
  intro f
  induction f with
  | zero => intro k x S h1 h3; exact al k x S h1 h3
  | succ f ih =>
    intro k x S h1 h3
    rcases h3 with h3 | ⟨p, hp, t, ht, h3⟩
    · exact al k x S h1 h3
    · by_cases d : x.testBit p = true
      · obtain ⟨s, s1, s2, -⟩ := zCl_same h1 hp d
        have := ih (t s) x S h1 (zTot_sub s2 (h3 s s1))
        have : s = 0 ∨ s = 1 ∨ s = 2 := by omega
        rcases this with e | e | e <;> subst e <;> omega
      · have i0 := ih _ _ _ (zCl_pt h1 hp (show 0 < 3 by decide) d) (h3 0 (by decide))
        have i1 := ih _ _ _ (zCl_pt h1 hp (show 1 < 3 by decide) d) (h3 1 (by decide))
        have i2 := ih _ _ _ (zCl_pt h1 hp (show 2 < 3 by decide) d) (h3 2 (by decide))
        have e := zPt_3' (S := S) ho hp
        have g := hG x p h1.1 hp
        have m : yCn S c * (G x - 1) ≤ yCn S c * (1 + (G (x ||| 2 ^ p) - 1)) := Nat.mul_le_mul_left _ (by omega)
        rw [Nat.mul_add, Nat.mul_one] at m
        have e3 : yCn S c * (G (x ||| 2 ^ p) - 1) = yCn (zPt mk S p 0) c * (G (x ||| 2 ^ p) - 1) + yCn (zPt mk S p 1) c * (G (x ||| 2 ^ p) - 1) + yCn (zPt mk S p 2) c * (G (x ||| 2 ^ p) - 1) := by
          rw [← Nat.add_mul, ← Nat.add_mul, ← e]
        omega
theorem zTot_one (ha : ¬ zAl c γ S) (h : zTot P c mk γ f k S) : yCn S c ≤ k := by
  cases f with
  | zero => exact absurd h ha
  | succ f =>
    rcases h with h | ⟨p, hp, t, ht, h⟩
    · exact absurd h ha
    · omega
/-- by counts alone -/
theorem zHt_tot {H : Nat → Nat} (ho : zOne P c mk) (hP : P ≤ 10) (hc : c ≤ 120) (h1 : ∀ m, m ≤ 1 → H m = 0) (hi : ∀ i j, i < c → j < c → γ i = γ j → i = j) (hH : (∀ a b d, a + b + d ≤ 120 → H (a + b + d) ≤ (a + b + d) + (H a + H b + H d)) ∨ ((∀ b d, b + d ≤ 120 → H (b + d) ≤ (b + d) + (H b + H d)) ∧ ∀ i, i < c → mk i % 1024 = 0)) : ∀ (f k : Nat) (S : Nat → Bool), zTot P c mk γ f k S → H (yCn S c) ≤ k := by
  have al : ∀ (k : Nat) (S : Nat → Bool), zAl c γ S → H (yCn S c) ≤ k := fun k S h => by
    rw [h1]
    · exact Nat.zero_le _
    · exact yCn_inj (c' := 1) (fun _ => 0) c S (fun _ => true) (fun i _ _ => ⟨by decide, rfl⟩) (fun i j a b pi pj _ => hi i j a b (h i j a b pi pj))
  intro f
  induction f with
  | zero => intro k S h; exact al k S h
  | succ f ih =>
    intro k S h
    rcases h with h | ⟨p, hp, t, ht, h⟩
    · exact al k S h
    · have i0 := ih _ _ (h 0 (by decide))
      have i1 := ih _ _ (h 1 (by decide))
      have i2 := ih _ _ (h 2 (by decide))
      have e := zPt_3' (S := S) ho hp
      have le := yCn_le S c
      rcases hH with hH | ⟨hH, hb⟩
      · have := hH (yCn (zPt mk S p 0) c) (yCn (zPt mk S p 1) c) (yCn (zPt mk S p 2) c) (by omega)
        rw [← e] at this
        omega
      · have z : yCn (zPt mk S p 0) c = 0 := yCn_zero.mpr fun i hi z => zEv (hb i hi) (show p < 10 by omega) (zPt_bit.mp z).2
        have := hH (yCn (zPt mk S p 1) c) (yCn (zPt mk S p 2) c) (by omega)
        rw [show yCn (zPt mk S p 1) c + yCn (zPt mk S p 2) c = yCn S c by omega] at this
        omega
end NB
