/-! with one lie: the class -/
section LC
variable {g g' : xSt} {n w c o M P N : Nat} {mk : Nat → Nat} {γ : Nat → Int32} {tr : Nat → Nat → Nat} {al : Nat → Prop}
def zTr (mk : Nat → Nat) (c p s : Nat) : Nat := yBs (fun i => (mk i).testBit (10 * s + p)) c
def zAk (γ : Nat → Int32) (c u : Nat) : Prop := ∀ i j, i < c → j < c → u.testBit i = true → u.testBit j = true → γ i = γ j
theorem zAk_sub {u v : Nat} (h : zSub u v) (q : zAk γ c v) : zAk γ c u := fun i j h1 h2 h3 h4 => q i j h1 h2 (h i h3) (h j h4)
theorem zTr_lt {p s : Nat} (hc : c ≤ 6) : zTr mk c p s < 64 := Nat.lt_of_lt_of_le yBs_lt (Nat.pow_le_pow_right (n := 2) (by decide) (show c ≤ 6 from hc))
def d93 (o k : Nat) : Prop := 91 ≤ o ∧ o ≤ 93
theorem r_lt20 {i : Nat} (hi : i < c) (hc : c ≤ 6) (hm : mk i < 2 ^ 30) (h77 : xI g 77 i = nI (mk i)) : ∀ m b g1, m + b = 30 → yAg d93 g g1 → (∀ x, x < 30 → xI g1 93 x = nI (yBs (fun i => (mk i).testBit x) (if x < b then i + 1 else i))) → ∃ g', xlim (S_X3_loadTruths_20 (nI i)) (nI b, g1) = some g' ∧ yAg d93 g g' ∧ ∀ x, x < 30 → xI g' 93 x = nI (yBs (fun i => (mk i).testBit x) (i + 1)) := by
  intro m
  induction m with
  | zero =>
    intro b g1 hb y z
    refine ⟨g1, xlim_end ?_, y, fun x hx => by have := z x hx; rw [if_pos (by omega)] at this; exact this⟩
    unfold S_X3_loadTruths_20
    exact if_pos (show (30 : Int32) ≤ nI b by rw [show (30 : Int32) = nI 30 from rfl]; exact nI_le (by omega) (by omega))
  | succ m ih =>
    intro b g1 hb y z
    have h30 : ¬ (30 : Int32) ≤ nI b := by rw [show (30 : Int32) = nI 30 from rfl]; exact nI_ge (by omega) (by omega)
    have e77 : xI g1 77 i = nI (mk i) := (y.2 77 i (by unfold d93; omega)).trans h77
    have zb := z b (by omega)
    rw [if_neg (by omega)] at zb
    by_cases d : (mk i).testBit b = true
    · have st : S_X3_loadTruths_20 (nI i) (nI b, g1) = some (.inl (nI (b + 1), xWI g1 93 b (nI (yBs (fun i => (mk i).testBit b) i ||| 2 ^ i)))) := by
        unfold S_X3_loadTruths_20
        simp only [if_neg h30, xat_nI (show i < 120 by omega) (show 120 < 2 ^ 31 by decide), e77, r_xbG (show mk i < 2 ^ 31 by omega) (show b < 31 by omega), if_pos d, xck_nI (show b < 30 by omega) (show 30 < 2 ^ 31 by decide), nI_clamp (show b < 2 ^ 31 by omega), zb, r_1shl i (by omega), r_orG, nI_1]
        exact if_neg (by decide)
      rw [xlim_go st]
      refine ih (b + 1) _ (by omega) (y.wi (by unfold d93; omega)) (fun x hx => ?_)
      rw [yI_wi]
      by_cases e : x = b
      · subst e
        rw [if_pos ⟨rfl, rfl⟩, if_pos (by omega), yBs_succ, if_pos d]
      · rw [if_neg (fun q => e q.2), z x hx]
        by_cases f : x < b
        · rw [if_pos f, if_pos (by omega)]
        · rw [if_neg f, if_neg (by omega)]
    · have st : S_X3_loadTruths_20 (nI i) (nI b, g1) = some (.inl (nI (b + 1), g1)) := by
        unfold S_X3_loadTruths_20
        simp only [if_neg h30, xat_nI (show i < 120 by omega) (show 120 < 2 ^ 31 by decide), e77, r_xbG (show mk i < 2 ^ 31 by omega) (show b < 31 by omega), if_neg d, nI_1]
        exact if_pos trivial
      rw [xlim_go st]
      refine ih (b + 1) g1 (by omega) y (fun x hx => ?_)
      rw [z x hx]
      by_cases e : x = b
      · subst e
        rw [if_neg (by omega), if_pos (by omega), yBs_succ, if_neg d, Nat.or_zero]
      · by_cases f : x < b
        · rw [if_pos f, if_pos (by omega)]
        · rw [if_neg f, if_neg (by omega)]
theorem r_loadTruths (hc : c ≤ 6) (h2 : xI g 76 2 = nI c) (hm : ∀ i, i < c → mk i < 2 ^ 30) (hr : ∀ i, i < c → xI g 77 i = nI (mk i)) : ∃ g', E_X3_loadTruths g = some g' ∧ yAg d93 g g' ∧ ∀ p s, p < 10 → s < 3 → xI g' 93 (10 * s + p) = nI (zTr mk c p s) := by
  have key : ∀ m i g1, m + i = c → yAg d93 g g1 → (∀ x, x < 30 → xI g1 93 x = nI (yBs (fun i => (mk i).testBit x) i)) → ∃ g', xlim S_X3_loadTruths_10 (nI i, g1) = some g' ∧ yAg d93 g g' ∧ ∀ x, x < 30 → xI g' 93 x = nI (yBs (fun i => (mk i).testBit x) c) := by
    intro m
    induction m with
    | zero =>
      intro i g1 hi y z
      have : i = c := by omega
      subst this
      refine ⟨g1, xlim_end ?_, y, z⟩
      unfold S_X3_loadTruths_10
      simp only [(y.2 76 2 (by unfold d93; omega)).trans h2]
      exact if_pos (nI_le (Nat.le_refl _) (by omega))
    | succ m ih =>
      intro i g1 hi y z
      obtain ⟨g2, r1, r2, r3⟩ := r_lt20 (g := g) (mk := mk) (show i < c by omega) hc (hm i (by omega)) (hr i (by omega)) 30 0 g1 (by omega) y (fun x hx => by rw [if_neg (by omega)]; exact z x hx)
      have st : S_X3_loadTruths_10 (nI i, g1) = some (.inl (nI (i + 1), g2)) := by
        unfold S_X3_loadTruths_10
        simp only [(y.2 76 2 (by unfold d93; omega)).trans h2, if_neg (nI_ge (show i < c by omega) (show c < 2 ^ 31 by omega)), nI_1]
        rw [show ((0 : Int32), g1) = (nI 0, g1) from rfl, r1, xb1_some]
      rw [xlim_go st]
      exact ih (i + 1) g2 (by omega) r2 r3
  have yR : yAg d93 g (xRowI g 93 (fun j => if j < 30 then 0 else xI g 93 j)) := ⟨rfl, fun o k hk => congrFun (xI_RowI_ne g _ (fun e => hk (by unfold d93; omega))) k⟩
  obtain ⟨g', r1, r2, r3⟩ := key c 0 _ (by omega) yR (fun x hx => by rw [xI_RowI, if_pos rfl, if_pos hx]; rfl)
  refine ⟨g', ?_, r2, fun p s hp hs => r3 _ (by omega)⟩
  unfold E_X3_loadTruths E_X7_fill
  rw [xb1_some, show ((0 : Int32), xRowI g 93 (fun j => if j < 30 then 0 else xI g 93 j)) = (nI 0, xRowI g 93 (fun j => if j < 30 then 0 else xI g 93 j)) from rfl, r1, xb1_some]
theorem r_low6 : ∀ u, u < 64 → u ≠ 0 → ∃ l, l < 6 ∧ u.testBit l = true ∧ xlow (Int32.toInt64 (nI u)) = nI l := by decide +kernel
theorem r_alike {u : Nat} (hc : c ≤ 6) (hu : u < 2 ^ c) (h2 : xI g 76 2 = nI c) (hr : ∀ i, i < c → xI g 78 i = γ i) : ∃ v, E_X3_isAlike (nI u) g = some v ∧ (v = 0 ∨ v = 1) ∧ (v = 1 ↔ zAk γ c u) := by
  have hu6 : u < 64 := Nat.lt_of_lt_of_le hu (Nat.pow_le_pow_right (n := 2) (by decide) (show c ≤ 6 from hc))
  unfold E_X3_isAlike
  have hl : ∃ l : Int32, xlow (Int32.toInt64 (nI u)) = l ∧ (u ≠ 0 → ∃ l', l' < c ∧ u.testBit l' = true ∧ l = nI l') := by
    refine ⟨_, rfl, fun h => ?_⟩
    obtain ⟨l', h1, h3, h4⟩ := r_low6 u hu6 h
    exact ⟨l', zLt_bit hu h3, h3, h4⟩
  obtain ⟨l, e1, e2⟩ := hl
  rw [e1]
  have key := xlim_all (step := S_X3_isAlike_8 (nI u) l g) (p := fun i => u.testBit i = true → xat (xI g 78) 120 l = γ i) (v := (0 : Int32)) (N := c) (fun j hj hp => ?_) (fun j hj hp => ?_) ?_
  · obtain ⟨k1, k2⟩ := key c 0 (by omega)
    by_cases d : zAk γ c u
    · refine ⟨1, ?_, Or.inr rfl, fun _ => d, fun _ => rfl⟩
      have : ∀ j, 0 ≤ j → j < c → u.testBit j = true → xat (xI g 78) 120 l = γ j := fun j _ hj hb => by
        have hu0 : u ≠ 0 := fun z => by rw [z, Nat.zero_testBit] at hb; exact absurd hb (by decide)
        obtain ⟨l', q1, q2, q3⟩ := e2 hu0
        rw [q3, xat_nI (by omega) (by decide), hr l' q1]
        exact d l' j q1 hj q2 hb
      rw [show (0 : Int32) = nI 0 from rfl, k1 this]
      rfl
    · refine ⟨0, ?_, Or.inl rfl, fun z => absurd z (by decide), fun z => absurd z d⟩
      have : ¬ ∀ j, 0 ≤ j → j < c → u.testBit j = true → xat (xI g 78) 120 l = γ j := fun h => d fun i j h1 h2 h3 h4 => (h i (Nat.zero_le _) h1 h3).symm.trans (h j (Nat.zero_le _) h2 h4)
      rw [show (0 : Int32) = nI 0 from rfl, k2 this]
      rfl
  · unfold S_X3_isAlike_8
    simp only [h2, if_neg (nI_ge hj (show c < 2 ^ 31 by omega)), r_xbG (show u < 2 ^ 31 by omega) (show j < 31 by omega), xat_nI (show j < 120 by omega) (show 120 < 2 ^ 31 by decide), hr j hj, nI_1]
    by_cases b : u.testBit j = true
    · rw [if_pos b, if_neg (by decide), if_pos (hp b).symm]
    · rw [if_neg b, if_pos rfl]
  · have hp' : u.testBit j = true ∧ ¬ xat (xI g 78) 120 l = γ j := Classical.byContradiction fun z => hp fun b => Classical.byContradiction fun q => z ⟨b, q⟩
    unfold S_X3_isAlike_8
    simp only [h2, if_neg (nI_ge hj (show c < 2 ^ 31 by omega)), r_xbG (show u < 2 ^ 31 by omega) (show j < 31 by omega), xat_nI (show j < 120 by omega) (show 120 < 2 ^ 31 by decide), hr j hj, nI_1]
    rw [if_pos hp'.1, if_neg (by decide), if_neg (fun z => hp'.2 z.symm)]
  · unfold S_X3_isAlike_8
    simp only [h2]
    exact if_pos (nI_le (Nat.le_refl _) (by omega))
def d92 (o k : Nat) : Prop := o = 92
theorem r_fl21 (hc : c ≤ 6) (h2 : xI g 76 2 = nI c) (hr : ∀ i, i < c → xI g 78 i = γ i) : ∀ m u g1, m + u = 2 ^ c → yAg d92 g g1 → (∀ x, x < u → (xI g1 92 x = 0 ∨ xI g1 92 x = 1) ∧ (xI g1 92 x = 1 ↔ zAk γ c x)) → ∃ g', xlim (S_X3_fewestWithALie_21 (nI (2 ^ c - 1))) (nI u, g1) = some g' ∧ yAg d92 g g' ∧ zB g' 92 (2 ^ c) (zAk γ c) := by
  have h26 : 2 ^ c ≤ 2 ^ 6 := Nat.pow_le_pow_right (by decide) hc
  have h1 : 0 < 2 ^ c := Nat.two_pow_pos c
  intro m
  induction m with
  | zero =>
    intro u g1 hu y z
    refine ⟨g1, xlim_end ?_, y, fun x hx => z x (by omega)⟩
    unfold S_X3_fewestWithALie_21
    exact if_pos (by rw [nI_ltI (by omega) (by omega)]; omega)
  | succ m ih =>
    intro u g1 hu y z
    have nlt : ¬ nI (2 ^ c - 1) < nI u := by rw [nI_ltI (by omega) (by omega)]; omega
    obtain ⟨v, a1, a2, a3⟩ := r_alike (g := g1) (γ := γ) hc (show u < 2 ^ c by omega) ((y.2 76 2 (by unfold d92; omega)).trans h2) (fun i hi => (y.2 78 i (by unfold d92; omega)).trans (hr i hi))
    have st : S_X3_fewestWithALie_21 (nI (2 ^ c - 1)) (nI u, g1) = some (.inl (nI (u + 1), xWI g1 92 u v)) := by
      unfold S_X3_fewestWithALie_21
      simp only [if_neg nlt, a1, xb1_some, xput_nI (show u < 64 by omega) (show 64 < 2 ^ 31 by decide), nI_1]
      rcases a2 with rfl | rfl
      · rw [if_pos rfl]
      · rw [if_neg (by decide)]
    rw [xlim_go st]
    refine ih (u + 1) _ (by omega) (y.wi rfl) (fun x hx => ?_)
    rw [yI_wi]
    by_cases e : x = u
    · subst e; rw [if_pos ⟨rfl, rfl⟩]; exact ⟨a2, a3⟩
    · rw [if_neg (fun q => e q.2)]; exact z x (by omega)
end LC
