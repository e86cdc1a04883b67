/-! THE SEARCH: what sets need, without the store -/
section ND
variable {P c k f : Nat} {mk : Nat → Nat} {γ : Nat → Int32} {S S' : Nat → Bool}
/-- of each order and pair just one saying -/
def zOne (P c : Nat) (mk : Nat → Nat) : Prop := ∀ i, i < c → ∀ p, p < P → ∃ s, s < 3 ∧ ∀ s', s' < 3 → ((mk i).testBit (10 * s' + p) = true ↔ s' = s)
/-- orders of unlike goals are parted by some pair -/
def zDif (P c : Nat) (mk : Nat → Nat) (γ : Nat → Int32) : Prop := ∀ i j, i < c → j < c → (∀ p, p < P → ∀ s, s < 3 → ((mk i).testBit (10 * s + p) = true ↔ (mk j).testBit (10 * s + p) = true)) → γ i = γ j
/-- a pair parts a set: no part is all of it -/
def zSp (c : Nat) (mk : Nat → Nat) (S : Nat → Bool) (p : Nat) : Prop := ∀ s, s < 3 → ∃ i, i < c ∧ S i = true ∧ ¬ (mk i).testBit (10 * s + p) = true
/-- orders sent to orders, with what the balance says of pairs sent to pairs -/
def zMp (P c : Nat) (mk : Nat → Nat) (γ : Nat → Int32) (ρ : Nat → Nat) : Prop := (∀ i, i < c → ρ i < c) ∧ (∀ i j, i < c → j < c → ρ i = ρ j → i = j) ∧ (∀ i j, i < c → j < c → γ (ρ i) = γ (ρ j) → γ i = γ j) ∧ ∀ p', p' < P → ∃ p, p < P ∧ ∃ σ : Nat → Nat, (∀ s, s < 3 → σ s < 3 ∧ ∀ i, i < c → (mk i).testBit (10 * s + p) = true → (mk (ρ i)).testBit (10 * σ s + p') = true) ∧ ∀ t : Nat → Nat, t (σ 0) + t (σ 1) + t (σ 2) = t 0 + t 1 + t 2
theorem zPt_bit {p s i : Nat} : zPt mk S p s i = true ↔ S i = true ∧ (mk i).testBit (10 * s + p) = true := by
  unfold zPt
  rw [Bool.and_eq_true]
theorem zAl_map {ρ : Nat → Nat} (h : zMp P c mk γ ρ) (hS : ∀ i, i < c → S i = true → S' (ρ i) = true) (q : zAl c γ S') : zAl c γ S := fun i j hi hj si sj => h.2.2.1 i j hi hj (q _ _ (h.1 i hi) (h.1 j hj) (hS i hi si) (hS j hj sj))
theorem zCan_map {ρ : Nat → Nat} (h : zMp P c mk γ ρ) : ∀ (k : Nat) (S S' : Nat → Bool), (∀ i, i < c → S i = true → S' (ρ i) = true) → zCan P c mk γ k S' → zCan P c mk γ k S := by
  intro k
  induction k with
  | zero => intro S S' hS q; exact zAl_map h hS q
  | succ k ih =>
    intro S S' hS q
    rcases q with q | ⟨p', hp, q⟩
    · exact Or.inl (zAl_map h hS q)
    · obtain ⟨p, h1, σ, h2, -⟩ := h.2.2.2 p' hp
      refine Or.inr ⟨p, h1, fun s hs => ?_⟩
      obtain ⟨h3, h4⟩ := h2 s hs
      exact ih _ _ (fun i hi z => zPt_bit.mpr ⟨hS i hi (zPt_bit.mp z).1, h4 i hi (zPt_bit.mp z).2⟩) (q (σ s) h3)
theorem zMp_id : zMp P c mk γ (fun i => i) := ⟨fun _ h => h, fun _ _ _ _ h => h, fun _ _ _ _ h => h, fun p hp => ⟨p, hp, fun s => s, fun s hs => ⟨hs, fun _ _ z => z⟩, fun _ => rfl⟩⟩
theorem zCan_sub (hS : ∀ i, i < c → S i = true → S' i = true) (q : zCan P c mk γ k S') : zCan P c mk γ k S := zCan_map zMp_id k S S' hS q
theorem zCan_al (h : zAl c γ S) : ∀ k, zCan P c mk γ k S := by
  intro k
  cases k with
  | zero => exact h
  | succ k => exact Or.inl h
theorem zCan_succ : ∀ (k : Nat) (S : Nat → Bool), zCan P c mk γ k S → zCan P c mk γ (k + 1) S := by
  intro k
  induction k with
  | zero => intro S h; exact Or.inl h
  | succ k ih =>
    intro S h
    rcases h with h | ⟨p, hp, h⟩
    · exact Or.inl h
    · exact Or.inr ⟨p, hp, fun s hs => ih _ (h s hs)⟩
theorem zCan_le {k' : Nat} (h : zCan P c mk γ k S) (hk : k ≤ k') : zCan P c mk γ k' S := by
  induction hk with
  | refl => exact h
  | step _ ih => exact zCan_succ _ _ ih
/-- the least: its first pair parts the set -/
theorem zCan_least (h : zCan P c mk γ k S) (ha : ¬ zAl c γ S) (hl : ∀ k', k' < k → ¬ zCan P c mk γ k' S) : 0 < k ∧ ∃ p, p < P ∧ zSp c mk S p ∧ ∀ s, s < 3 → zCan P c mk γ (k - 1) (zPt mk S p s) := by
  cases k with
  | zero => exact absurd h ha
  | succ k =>
    refine ⟨Nat.succ_pos k, ?_⟩
    rcases h with h | ⟨p, hp, h⟩
    · exact absurd h ha
    · refine ⟨p, hp, fun s hs => ?_, fun s hs => h s hs⟩
      refine Decidable.byContradiction fun z => hl k (Nat.lt_succ_self k) (zCan_sub (fun i hi si => ?_) (h s hs))
      refine zPt_bit.mpr ⟨si, ?_⟩
      refine Decidable.byContradiction fun y => z ⟨i, hi, si, y⟩
theorem zCan_min (h : zCan P c mk γ k S) : ∃ k', k' ≤ k ∧ zCan P c mk γ k' S ∧ ∀ k'', k'' < k' → ¬ zCan P c mk γ k'' S := by
  have : ∀ m, (∃ k', k' ≤ k ∧ zCan P c mk γ k' S ∧ ∀ k'', k'' < k' → ¬ zCan P c mk γ k'' S) ∨ ∀ k', k' < m → ¬ zCan P c mk γ k' S := by
    intro m
    induction m with
    | zero => exact Or.inr fun k' hk => absurd hk (by omega)
    | succ m ih =>
      rcases ih with ih | ih
      · exact Or.inl ih
      · by_cases d : zCan P c mk γ m S
        · by_cases e : m ≤ k
          · exact Or.inl ⟨m, e, d, ih⟩
          · exact absurd h (ih k (by omega))
        · exact Or.inr fun k' hk => by
            by_cases e : k' = m
            · rw [e]; exact d
            · exact ih k' (by omega)
  rcases this (k + 1) with z | z
  · exact z
  · exact absurd h (z k (by omega))
/-! together -/
theorem zTot_al (h : zAl c γ S) (f k : Nat) : zTot P c mk γ f k S := by
  cases f with
  | zero => exact h
  | succ f => exact Or.inl h
theorem zTot_k {k' : Nat} (h : zTot P c mk γ f k S) (hk : k ≤ k') : zTot P c mk γ f k' S := by
  cases f with
  | zero => exact h
  | succ f =>
    rcases h with h | ⟨p, hp, t, ht, h⟩
    · exact Or.inl h
    · exact Or.inr ⟨p, hp, t, by omega, h⟩
theorem zTot_f : ∀ (f k : Nat) (S : Nat → Bool), zTot P c mk γ f k S → zTot P c mk γ (f + 1) k S := by
  intro f
  induction f with
  | zero => intro k S h; exact Or.inl h
  | succ f ih =>
    intro k S h
    rcases h with h | ⟨p, hp, t, ht, h⟩
    · exact Or.inl h
    · exact Or.inr ⟨p, hp, t, ht, fun s hs => ih _ _ (h s hs)⟩
theorem zTot_le {f' k' : Nat} (h : zTot P c mk γ f k S) (hf : f ≤ f') (hk : k ≤ k') : zTot P c mk γ f' k' S := by
  induction hf with
  | refl => exact zTot_k h hk
  | step _ ih => exact zTot_f _ _ _ ih
/-- removing one that is counted -/
theorem yCn_rem {p : Nat → Bool} {m u : Nat} (hu : u < m) (h : p u = true) : yCn p m = yCn (fun x => p x && !(x == u)) m + 1 := by
  induction m with
  | zero => omega
  | succ m ih =>
    rw [yCn_succ, yCn_succ]
    by_cases e : u = m
    · subst e
      have : yCn p u = yCn (fun x => p x && !(x == u)) u := yCn_congr fun o ho => by
        rw [show (o == u) = false from beq_false_of_ne (by omega)]; simp
      rw [h, this]
      simp
    · rw [ih (by omega), show (m == u) = false from beq_false_of_ne (by omega)]
      simp only [Bool.not_false, Bool.and_true]
      omega
/-- one set sent into another, no two alike: it is no larger -/
theorem yCn_inj {c' : Nat} (ρ : Nat → Nat) : ∀ (c : Nat) (p q : Nat → Bool), (∀ i, i < c → p i = true → ρ i < c' ∧ q (ρ i) = true) → (∀ i j, i < c → j < c → p i = true → p j = true → ρ i = ρ j → i = j) → yCn p c ≤ yCn q c' := by
  intro c
  induction c with
  | zero => intro p q _ _; exact Nat.zero_le _
  | succ c ih =>
    intro p q h hi
    rw [yCn_succ]
    by_cases d : p c = true
    · obtain ⟨h1, h2⟩ := h c (by omega) d
      rw [if_pos d, yCn_rem h1 h2]
      have := ih p (fun x => q x && !(x == ρ c)) (fun i hic pi => ⟨(h i (by omega) pi).1, by
        have : ¬ ρ i = ρ c := fun z => by have := hi i c (by omega) (by omega) pi d z; omega
        rw [(h i (by omega) pi).2, show (ρ i == ρ c) = false from beq_false_of_ne this]; rfl⟩) (fun i j a b => hi i j (by omega) (by omega))
      omega
    · rw [if_neg d]
      exact ih p q (fun i hic => h i (by omega)) (fun i j a b => hi i j (by omega) (by omega))
theorem zTot_map {ρ : Nat → Nat} (h : zMp P c mk γ ρ) : ∀ (f k : Nat) (S S' : Nat → Bool), (∀ i, i < c → S i = true → S' (ρ i) = true) → zTot P c mk γ f k S' → zTot P c mk γ f k S := by
  intro f
  induction f with
  | zero => intro k S S' hS q; exact zAl_map h hS q
  | succ f ih =>
    intro k S S' hS q
    rcases q with q | ⟨p', hp, t, ht, q⟩
    · exact Or.inl (zAl_map h hS q)
    · obtain ⟨p, h1, σ, h2, h3⟩ := h.2.2.2 p' hp
      have hc : yCn S c ≤ yCn S' c := yCn_inj ρ c S S' (fun i hi si => ⟨h.1 i hi, hS i hi si⟩) (fun i j hi hj _ _ e => h.2.1 i j hi hj e)
      refine Or.inr ⟨p, h1, fun s => t (σ s), ?_, fun s hs => ?_⟩
      · have := h3 t
        show yCn S c + (t (σ 0) + t (σ 1) + t (σ 2)) ≤ k
        omega
      · exact ih _ _ _ (fun i hi z => zPt_bit.mpr ⟨hS i hi (zPt_bit.mp z).1, (h2 s hs).2 i hi (zPt_bit.mp z).2⟩) (q _ (h2 s hs).1)
theorem zTot_sub (hS : ∀ i, i < c → S i = true → S' i = true) (q : zTot P c mk γ f k S') : zTot P c mk γ f k S := zTot_map zMp_id f k S S' hS q
/-- the least together: its first pair parts the set -/
theorem zTot_least (h : zTot P c mk γ f k S) (ha : ¬ zAl c γ S) (hl : ∀ f' k', k' < k → ¬ zTot P c mk γ f' k' S) : ∃ p, p < P ∧ zSp c mk S p ∧ ∃ t : Nat → Nat, yCn S c + (t 0 + t 1 + t 2) ≤ k ∧ ∀ s, s < 3 → ∃ f', zTot P c mk γ f' (t s) (zPt mk S p s) := by
  cases f with
  | zero => exact absurd h ha
  | succ f =>
    rcases h with h | ⟨p, hp, t, ht, h⟩
    · exact absurd h ha
    · refine ⟨p, hp, fun s hs => ?_, t, ht, fun s hs => ⟨f, h s hs⟩⟩
      refine Decidable.byContradiction fun z => hl f (t s) ?_ (zTot_sub (fun i hi si => ?_) (h s hs))
      · have pos : 0 < yCn S c := yCn_pos.mpr (Decidable.byContradiction fun y => ha fun i j hi hj si sj => absurd ⟨i, hi, si⟩ y)
        have : t s ≤ t 0 + t 1 + t 2 := by
          have : s = 0 ∨ s = 1 ∨ s = 2 := by omega
          rcases this with e | e | e <;> rw [e] <;> omega
        omega
      · refine zPt_bit.mpr ⟨si, ?_⟩
        refine Decidable.byContradiction fun y => z ⟨i, hi, si, y⟩
theorem zTot_min (h : zTot P c mk γ f k S) : ∃ k', k' ≤ k ∧ (∃ f', zTot P c mk γ f' k' S) ∧ ∀ f'' k'', k'' < k' → ¬ zTot P c mk γ f'' k'' S := by
  have : ∀ m, (∃ k', k' ≤ k ∧ (∃ f', zTot P c mk γ f' k' S) ∧ ∀ f'' k'', k'' < k' → ¬ zTot P c mk γ f'' k'' S) ∨ ∀ f' k', k' < m → ¬ zTot P c mk γ f' k' S := by
    intro m
    induction m with
    | zero => exact Or.inr fun f' k' hk => absurd hk (by omega)
    | succ m ih =>
      rcases ih with ih | ih
      · exact Or.inl ih
      · by_cases d : ∃ f', zTot P c mk γ f' m S
        · by_cases e : m ≤ k
          · exact Or.inl ⟨m, e, d, ih⟩
          · exact absurd h (ih f k (by omega))
        · exact Or.inr fun f' k' hk => by
            by_cases e : k' = m
            · rw [e]; exact fun z => d ⟨f', z⟩
            · exact ih f' k' (by omega)
  rcases this (k + 1) with z | z
  · exact z
  · exact absurd h (z f k (by omega))
/-! one pair after the other: so many weighings are always enough -/
theorem zEx_1 (hd : zDif P c mk γ) (ho : zOne P c mk) : ∀ (m : Nat) (S : Nat → Bool), m ≤ P → (∀ i j, i < c → j < c → S i = true → S j = true → ∀ p, p < P - m → ∀ s, s < 3 → ((mk i).testBit (10 * s + p) = true ↔ (mk j).testBit (10 * s + p) = true)) → zCan P c mk γ m S ∧ zTot P c mk γ m (m * yCn S c) S := by
  intro m
  induction m with
  | zero =>
    intro S _ h
    have : zAl c γ S := fun i j hi hj si sj => hd i j hi hj fun p hp s hs => h i j hi hj si sj p hp s hs
    exact ⟨this, this⟩
  | succ m ih =>
    intro S hm h
    have hp : P - (m + 1) < P := by omega
    have part : ∀ s, s < 3 → ∀ i j, i < c → j < c → zPt mk S (P - (m + 1)) s i = true → zPt mk S (P - (m + 1)) s j = true → ∀ p, p < P - m → ∀ s', s' < 3 → ((mk i).testBit (10 * s' + p) = true ↔ (mk j).testBit (10 * s' + p) = true) := fun s hs i j hi hj zi zj p hp' s' hs' => by
      obtain ⟨si, bi⟩ := zPt_bit.mp zi
      obtain ⟨sj, bj⟩ := zPt_bit.mp zj
      by_cases e : p = P - (m + 1)
      · subst e
        obtain ⟨ti, _, oi⟩ := ho i hi _ hp
        obtain ⟨tj, _, oj⟩ := ho j hj _ hp
        have e1 := (oi s hs).mp bi
        have e2 := (oj s hs).mp bj
        rw [oi s' hs', oj s' hs', ← e1, ← e2]
      · exact h i j hi hj si sj p (by omega) s' hs'
    refine ⟨Or.inr ⟨_, hp, fun s hs => (ih _ (by omega) (part s hs)).1⟩, Or.inr ⟨_, hp, fun s => m * yCn (zPt mk S (P - (m + 1)) s) c, ?_, fun s hs => (ih _ (by omega) (part s hs)).2⟩⟩
    have e : yCn S c = yCn (fun i => zPt mk S (P - (m + 1)) 0 i || zPt mk S (P - (m + 1)) 1 i) c + yCn (zPt mk S (P - (m + 1)) 2) c := yCn_add fun i hi => by
      obtain ⟨t, ht, oi⟩ := ho i hi _ hp
      have b0 := oi 0 (by decide)
      have b1 := oi 1 (by decide)
      have b2 := oi 2 (by decide)
      unfold zPt
      have : t = 0 ∨ t = 1 ∨ t = 2 := by omega
      rcases this with e | e | e <;> subst e
      · rw [b0.mpr rfl, Bool.eq_false_iff.mpr (fun z => absurd (b1.mp z) (by decide)), Bool.eq_false_iff.mpr (fun z => absurd (b2.mp z) (by decide))]
        cases S i <;> rfl
      · rw [b1.mpr rfl, Bool.eq_false_iff.mpr (fun z => absurd (b0.mp z) (by decide)), Bool.eq_false_iff.mpr (fun z => absurd (b2.mp z) (by decide))]
        cases S i <;> rfl
      · rw [b2.mpr rfl, Bool.eq_false_iff.mpr (fun z => absurd (b0.mp z) (by decide)), Bool.eq_false_iff.mpr (fun z => absurd (b1.mp z) (by decide))]
        cases S i <;> rfl
    have e2 : yCn (fun i => zPt mk S (P - (m + 1)) 0 i || zPt mk S (P - (m + 1)) 1 i) c = yCn (zPt mk S (P - (m + 1)) 0) c + yCn (zPt mk S (P - (m + 1)) 1) c := yCn_add fun i hi => by
      obtain ⟨t, ht, oi⟩ := ho i hi _ hp
      have b0 := oi 0 (by decide)
      have b1 := oi 1 (by decide)
      unfold zPt
      by_cases e0 : t = 0
      · rw [b0.mpr e0.symm, Bool.eq_false_iff.mpr (fun z => absurd (b1.mp z) (by omega))]
        cases S i <;> rfl
      · rw [Bool.eq_false_iff.mpr (fun z => e0 (b0.mp z).symm)]
        cases S i <;> cases (mk i).testBit (10 * 1 + (P - (m + 1))) <;> rfl
    show yCn S c + (m * yCn (zPt mk S (P - (m + 1)) 0) c + m * yCn (zPt mk S (P - (m + 1)) 1) c + m * yCn (zPt mk S (P - (m + 1)) 2) c) ≤ (m + 1) * yCn S c
    rw [← Nat.mul_add, ← Nat.mul_add, ← e2, ← e, Nat.succ_mul]
    omega
theorem zCan_ex (hd : zDif P c mk γ) (ho : zOne P c mk) (S : Nat → Bool) : zCan P c mk γ P S := (zEx_1 hd ho P S (Nat.le_refl _) fun _ _ _ _ _ _ p hp => absurd hp (by omega)).1
theorem zTot_ex (hd : zDif P c mk γ) (ho : zOne P c mk) (S : Nat → Bool) : zTot P c mk γ P (P * yCn S c) S := (zEx_1 hd ho P S (Nat.le_refl _) fun _ _ _ _ _ _ p hp => absurd hp (by omega)).2
end ND
