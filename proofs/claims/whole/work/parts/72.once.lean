/-! all at once: the class -/
section ON
variable {g g' : xSt} {n c o M : Nat} {mk : Nat → Nat} {γ : Nat → Int32} {Q Q' : Nat → Prop}
/-- a row of yes and no -/
def zB (g : xSt) (o M : Nat) (Q : Nat → Prop) : Prop := ∀ s, s < M → (xI g o s = 0 ∨ xI g o s = 1) ∧ (xI g o s = 1 ↔ Q s)
theorem zB.congr (h : zB g o M Q) (e : ∀ s, s < M → (Q s ↔ Q' s)) : zB g o M Q' := fun s hs => ⟨(h s hs).1, (h s hs).2.trans (e s hs)⟩
theorem zB.put {x : Nat} (h : zB g o M Q) : zB (xWI g o x 1) o M (fun s => Q s ∨ s = x) := fun s hs => by
  rw [yI_wi]
  by_cases d : s = x
  · rw [if_pos ⟨rfl, d⟩]; exact ⟨Or.inr rfl, fun _ => Or.inr d, fun _ => rfl⟩
  · rw [if_neg (fun z => d z.2)]
    exact ⟨(h s hs).1, fun z => Or.inl ((h s hs).2.mp z), fun z => z.elim (h s hs).2.mpr (fun y => absurd y d)⟩
theorem zB.zero {s : Nat} (h : zB g o M Q) (hs : s < M) : xI g o s = 0 ↔ ¬ Q s := by
  obtain ⟨h1, h2⟩ := h s hs
  rw [← h2]
  rcases h1 with e | e <;> rw [e]
  · exact ⟨fun _ => by decide, fun _ => rfl⟩
  · exact ⟨fun z => absurd z (by decide), fun z => absurd rfl z⟩
def zV (Q : Nat → Prop) : Nat → Nat → Prop
  | 0, s => Q s
  | p + 1, s => zV Q p s ∨ (s.testBit p = true ∧ zV Q p (s ^^^ 2 ^ p))
theorem zx_bit (s p b : Nat) : (s ^^^ 2 ^ p).testBit b = (s.testBit b != decide (p = b)) := by rw [Nat.testBit_xor, Nat.testBit_two_pow]
theorem zx_ne {s p b : Nat} (h : b ≠ p) : (s ^^^ 2 ^ p).testBit b = s.testBit b := by rw [zx_bit, decide_eq_false (fun z => h z.symm), Bool.bne_false]
theorem zx_eq {s p : Nat} : (s ^^^ 2 ^ p).testBit p = !(s.testBit p) := by rw [zx_bit, decide_eq_true rfl, Bool.bne_true]
set_option maxRecDepth 100000 in
theorem zx_lt : ∀ p, p < 10 → ∀ s, s < 1024 → s.testBit p = true → s ^^^ 2 ^ p < s := by decide +kernel
theorem zV_sub : ∀ q s, zV Q q s ↔ ∃ X, Q X ∧ (∀ b, X.testBit b = true → s.testBit b = true) ∧ ∀ b, q ≤ b → s.testBit b = X.testBit b := by
  intro q
  induction q with
  | zero =>
    intro s
    refine ⟨fun h => ⟨s, h, fun _ z => z, fun _ _ => rfl⟩, fun ⟨X, h1, h2, h3⟩ => ?_⟩
    have : s = X := Nat.eq_of_testBit_eq fun b => h3 b (Nat.zero_le _)
    rw [this]; exact h1
  | succ q ih =>
    intro s
    refine ⟨fun h => ?_, fun ⟨X, h1, h2, h3⟩ => ?_⟩
    · rcases h with h | ⟨hb, h⟩
      · obtain ⟨X, h1, h2, h3⟩ := (ih s).mp h
        exact ⟨X, h1, h2, fun b hb => h3 b (by omega)⟩
      · obtain ⟨X, h1, h2, h3⟩ := (ih _).mp h
        refine ⟨X, h1, fun b z => ?_, fun b hbq => ?_⟩
        · by_cases d : b = q
          · rw [d]; exact hb
          · have := h2 b z
            rw [zx_ne d] at this; exact this
        · have := h3 b (by omega)
          rw [zx_ne (by omega)] at this; exact this
    · by_cases d : s.testBit q = X.testBit q
      · refine Or.inl ((ih s).mpr ⟨X, h1, h2, fun b hb => ?_⟩)
        by_cases e : b = q
        · rw [e]; exact d
        · exact h3 b (by omega)
      · have sx : s.testBit q = true ∧ X.testBit q = false := by
          by_cases e : X.testBit q = true
          · exact absurd ((h2 q e).trans e.symm) d
          · have e' := Bool.eq_false_iff.mpr e
            refine ⟨?_, e'⟩
            rw [e'] at d
            exact Bool.not_eq_false _ ▸ d
        refine Or.inr ⟨sx.1, (ih _).mpr ⟨X, h1, fun b z => ?_, fun b hb => ?_⟩⟩
        · by_cases e : b = q
          · rw [e] at z; rw [sx.2] at z; exact absurd z (by decide)
          · rw [zx_ne e]; exact h2 b z
        · by_cases e : b = q
          · rw [e, zx_eq, sx.1, sx.2]; rfl
          · rw [zx_ne e]; exact h3 b (by omega)
def d89 (o k : Nat) : Prop := o = 89
def zBs (X : Nat → Nat → Nat) (γ : Nat → Int32) (c s : Nat) : Prop := ∃ i j, i < c ∧ j < i ∧ γ i ≠ γ j ∧ X i j = s
theorem r_fp20 {i : Nat} (hi : i < c) (hc : c ≤ 120) (hm : ∀ i, i < c → mk i < 2 ^ 30) (hr : ∀ i, i < c → xI g 77 i = nI (mk i) ∧ xI g 78 i = γ i) : ∀ m j g1, m + j = i → yAg d89 g g1 → xL g1 = xL g → zB g1 89 1024 (fun s => zBs (fun i j => zXr (mk i ^^^ mk j)) γ i s ∨ ∃ j', j' < j ∧ γ i ≠ γ j' ∧ zXr (mk i ^^^ mk j') = s) → ∃ g', xlim (S_X4_fewestPairs_20 (nI i)) (nI j, g1) = some g' ∧ yAg d89 g g' ∧ xL g' = xL g ∧ zB g' 89 1024 (zBs (fun i j => zXr (mk i ^^^ mk j)) γ (i + 1)) := by
  intro m
  induction m with
  | zero =>
    intro j g1 hj y hL z
    have : j = i := by omega
    subst this
    refine ⟨g1, xlim_end ?_, y, hL, z.congr fun s _ => ⟨fun h => ?_, fun ⟨x, x', h1, h2, h3, h4⟩ => ?_⟩⟩
    · unfold S_X4_fewestPairs_20
      exact if_pos (nI_le (Nat.le_refl _) (by omega))
    · rcases h with ⟨x, x', h1, h2, h3⟩ | ⟨x, h1, h2⟩
      · exact ⟨x, x', by omega, h2, h3⟩
      · exact ⟨j, x, by omega, h1, h2⟩
    · by_cases d : x = j
      · subst d; exact Or.inr ⟨x', h2, h3, h4⟩
      · exact Or.inl ⟨x, x', by omega, h2, h3, h4⟩
  | succ m ih =>
    intro j g1 hj y hL z
    have f : ∀ o k, o = 77 ∨ o = 78 → xI g1 o k = xI g o k := fun o k ho => y.2 o k (by unfold d89; omega)
    obtain ⟨a1, a2⟩ := hr i hi
    obtain ⟨b1, b2⟩ := hr j (by omega)
    by_cases d : γ i = γ j
    · have st : S_X4_fewestPairs_20 (nI i) (nI j, g1) = some (.inl (nI (j + 1), g1)) := by
        unfold S_X4_fewestPairs_20
        simp only [if_neg (nI_ge (show j < i by omega) (show i < 2 ^ 31 by omega)), xat_nI (show i < 120 by omega) (show 120 < 2 ^ 31 by decide), xat_nI (show j < 120 by omega) (show 120 < 2 ^ 31 by decide), f _ _ (Or.inr rfl), a2, b2, if_pos d, nI_1]
      rw [xlim_go st]
      refine ih (j + 1) g1 (by omega) y hL (z.congr fun s _ => ?_)
      refine or_congr Iff.rfl ⟨fun ⟨x, h1, h2⟩ => ⟨x, by omega, h2⟩, fun ⟨x, h1, h2, h3⟩ => ?_⟩
      by_cases e : x = j
      · subst e; exact absurd d h2
      · exact ⟨x, by omega, h2, h3⟩
    · have hx : mk i ^^^ mk j < 2 ^ 30 := Nat.xor_lt_two_pow (hm i hi) (hm j (by omega))
      have st : S_X4_fewestPairs_20 (nI i) (nI j, g1) = some (.inl (nI (j + 1), xWI g1 89 (zXr (mk i ^^^ mk j)) 1)) := by
        unfold S_X4_fewestPairs_20
        simp only [if_neg (nI_ge (show j < i by omega) (show i < 2 ^ 31 by omega)), xat_nI (show i < 120 by omega) (show 120 < 2 ^ 31 by decide), xat_nI (show j < 120 by omega) (show 120 < 2 ^ 31 by decide), f _ _ (Or.inr rfl), f _ _ (Or.inl rfl), a1, a2, b1, b2, if_neg d, nI_1, nI_xor]
        rw [r_xr hx, xput_nI (zXr_lt _) (by decide)]
      rw [xlim_go st]
      refine ih (j + 1) _ (by omega) (y.wi rfl) hL (z.put.congr fun s _ => ?_)
      rw [or_assoc]
      refine or_congr Iff.rfl ⟨fun h => ?_, fun ⟨x, h1, h2, h3⟩ => ?_⟩
      · rcases h with ⟨x, h1, h2⟩ | h
        · exact ⟨x, by omega, h2⟩
        · exact ⟨j, by omega, d, h.symm⟩
      · by_cases e : x = j
        · subst e; exact Or.inr h3.symm
        · exact Or.inl ⟨x, by omega, h2, h3⟩
theorem r_fp10 (hc : c ≤ 120) (h2 : xI g 76 2 = nI c) (hm : ∀ i, i < c → mk i < 2 ^ 30) (hr : ∀ i, i < c → xI g 77 i = nI (mk i) ∧ xI g 78 i = γ i) : ∀ m i g1, m + i = c → yAg d89 g g1 → xL g1 = xL g → zB g1 89 1024 (zBs (fun i j => zXr (mk i ^^^ mk j)) γ i) → ∃ g', xlim S_X4_fewestPairs_10 (nI i, g1) = some g' ∧ yAg d89 g g' ∧ xL g' = xL g ∧ zB g' 89 1024 (zBs (fun i j => zXr (mk i ^^^ mk j)) γ c) := by
  intro m
  induction m with
  | zero =>
    intro i g1 hi y hL z
    have : i = c := by omega
    subst this
    refine ⟨g1, xlim_end ?_, y, hL, z⟩
    unfold S_X4_fewestPairs_10
    simp only [(y.2 76 2 (by unfold d89; omega)).trans h2]
    exact if_pos (nI_le (Nat.le_refl _) (by omega))
  | succ m ih =>
    intro i g1 hi y hL z
    obtain ⟨g2, r1, r2, r3, r4⟩ := r_fp20 (g := g) (show i < c by omega) hc hm hr i 0 g1 (by omega) y hL (z.congr fun s _ => ⟨Or.inl, fun h => h.elim id (fun ⟨x, h1, _⟩ => absurd h1 (by omega))⟩)
    have st : S_X4_fewestPairs_10 (nI i, g1) = some (.inl (nI (i + 1), g2)) := by
      unfold S_X4_fewestPairs_10
      simp only [(y.2 76 2 (by unfold d89; omega)).trans h2, if_neg (nI_ge (show i < c by omega) (show c < 2 ^ 31 by omega)), nI_1]
      rw [show ((0 : Int32), g1) = (nI 0, g1) from rfl, r1, xb1_some]
    rw [xlim_go st]
    exact ih (i + 1) g2 (by omega) r2 r3 r4
theorem r_fp113 {p : Nat} (hp : p < 10) : ∀ m s g1, m + s = 1024 → yAg d89 g g1 → xL g1 = xL g → zB g1 89 1024 (fun x => if x < s then zV Q (p + 1) x else zV Q p x) → ∃ g', xlim (S_X4_fewestPairs_113 (nI p)) (nI s, g1) = some g' ∧ yAg d89 g g' ∧ xL g' = xL g ∧ zB g' 89 1024 (zV Q (p + 1)) := by
  intro m
  induction m with
  | zero =>
    intro s g1 hs y hL z
    refine ⟨g1, xlim_end ?_, y, hL, z.congr fun x hx => by rw [if_pos (by omega)]⟩
    unfold S_X4_fewestPairs_113
    exact if_pos (show (1024 : Int32) ≤ nI s by rw [show (1024 : Int32) = nI 1024 from rfl]; exact nI_le (by omega) (by omega))
  | succ m ih =>
    intro s g1 hs y hL z
    have h0 : ¬ (1024 : Int32) ≤ nI s := by rw [show (1024 : Int32) = nI 1024 from rfl]; exact nI_ge (by omega) (by omega)
    have move : ∀ g2 : xSt, zB g2 89 1024 (fun x => if x < s then zV Q (p + 1) x else if x = s then zV Q (p + 1) x else zV Q p x) → zB g2 89 1024 (fun x => if x < s + 1 then zV Q (p + 1) x else zV Q p x) := fun g2 h => h.congr fun x _ => by
      by_cases c1 : x < s
      · rw [if_pos c1, if_pos (by omega)]
      · by_cases c2 : x = s
        · rw [if_neg c1, if_pos c2, if_pos (by omega)]
        · rw [if_neg c1, if_neg c2, if_neg (by omega)]
    have keep : (zV Q (p + 1) s ↔ zV Q p s) → zB g1 89 1024 (fun x => if x < s then zV Q (p + 1) x else if x = s then zV Q (p + 1) x else zV Q p x) := fun h => z.congr fun x _ => by
      by_cases c1 : x < s
      · rw [if_pos c1, if_pos c1]
      · by_cases c2 : x = s
        · rw [if_neg c1, if_neg c1, if_pos c2, c2, h]
        · rw [if_neg c1, if_neg c1, if_neg c2]
    by_cases d : s.testBit p = true
    · have lt := zx_lt p hp s (by omega) d
      have hv : zB g1 89 1024 _ := z
      have e0 := z.zero (show s ^^^ 2 ^ p < 1024 by omega)
      rw [if_pos lt] at e0
      have eU : zV Q (p + 1) (s ^^^ 2 ^ p) ↔ zV Q p (s ^^^ 2 ^ p) := ⟨fun h => h.elim id (fun h => absurd h.1 (by rw [zx_eq, d]; decide)), Or.inl⟩
      rw [eU] at e0
      have hpw : (2 : Nat) ^ p < 2 ^ 31 := Nat.pow_lt_pow_right (by decide) (by omega)
      by_cases e : xI g1 89 (s ^^^ 2 ^ p) = 0
      · have st : S_X4_fewestPairs_113 (nI p) (nI s, g1) = some (.inl (nI (s + 1), g1)) := by
          unfold S_X4_fewestPairs_113
          simp only [if_neg h0, r_xbG (show s < 2 ^ 31 by omega) (show p < 31 by omega), if_pos d, r_1shl p (by omega), nI_xor, xat_nI (show s ^^^ 2 ^ p < 1024 by omega) (show 1024 < 2 ^ 31 by decide), if_pos e, nI_1]
          exact if_neg (by decide)
        rw [xlim_go st]
        exact ih (s + 1) g1 (by omega) y hL (move g1 (keep ⟨fun h => h.elim id (fun h => absurd h.2 (e0.mp e)), Or.inl⟩))
      · have st : S_X4_fewestPairs_113 (nI p) (nI s, g1) = some (.inl (nI (s + 1), xWI g1 89 s 1)) := by
          unfold S_X4_fewestPairs_113
          simp only [if_neg h0, r_xbG (show s < 2 ^ 31 by omega) (show p < 31 by omega), if_pos d, r_1shl p (by omega), nI_xor, xat_nI (show s ^^^ 2 ^ p < 1024 by omega) (show 1024 < 2 ^ 31 by decide), if_neg e, nI_1, xput_nI (show s < 1024 by omega) (show 1024 < 2 ^ 31 by decide)]
          exact if_neg (by decide)
        rw [xlim_go st]
        have yes : zV Q (p + 1) s := Or.inr ⟨d, Classical.byContradiction fun h => e (e0.mpr h)⟩
        refine ih (s + 1) _ (by omega) (y.wi rfl) hL (move _ (z.put.congr fun x _ => ?_))
        by_cases c1 : x < s
        · rw [if_pos c1, if_pos c1]; exact ⟨fun h => h.elim id (fun h => absurd h (by omega)), Or.inl⟩
        · by_cases c2 : x = s
          · rw [if_neg c1, if_neg c1, if_pos c2, c2]; exact ⟨fun _ => yes, fun _ => Or.inr rfl⟩
          · rw [if_neg c1, if_neg c1, if_neg c2]; exact ⟨fun h => h.elim id (fun h => absurd h c2), Or.inl⟩
    · have st : S_X4_fewestPairs_113 (nI p) (nI s, g1) = some (.inl (nI (s + 1), g1)) := by
        unfold S_X4_fewestPairs_113
        simp only [if_neg h0, r_xbG (show s < 2 ^ 31 by omega) (show p < 31 by omega), if_neg d, nI_1]
        exact if_pos trivial
      rw [xlim_go st]
      exact ih (s + 1) g1 (by omega) y hL (move g1 (keep ⟨fun h => h.elim id (fun h => absurd h.1 d), Or.inl⟩))
theorem r_pairs8 : ∀ n, n < 6 → (nI n * (nI n - 1)) / 2 = nI (n * (n - 1) / 2) := by decide +kernel
theorem r_all8 : ∀ P, P < 11 → ((1 : Int32) <<< (nI P &&& 31)) - 1 = nI (2 ^ P - 1) := by decide +kernel
theorem r_fp103 {P : Nat} (hP : P ≤ 10) (hF : ∀ g1, yAg d89 g g1 → F_X8_pairs g1 = nI P) : ∀ m p g1, m + p = P → yAg d89 g g1 → xL g1 = xL g → zB g1 89 1024 (zV Q p) → ∃ g', xlim S_X4_fewestPairs_103 (nI p, g1) = some g' ∧ yAg d89 g g' ∧ xL g' = xL g ∧ zB g' 89 1024 (zV Q P) := by
  intro m
  induction m with
  | zero =>
    intro p g1 hp y hL z
    have : p = P := by omega
    subst this
    refine ⟨g1, xlim_end ?_, y, hL, z⟩
    unfold S_X4_fewestPairs_103
    simp only [hF g1 y]
    exact if_pos (nI_le (Nat.le_refl _) (by omega))
  | succ m ih =>
    intro p g1 hp y hL z
    obtain ⟨g2, r1, r2, r3, r4⟩ := r_fp113 (g := g) (show p < 10 by omega) 1024 0 g1 (by omega) y hL (z.congr fun x _ => by rw [if_neg (by omega)])
    have st : S_X4_fewestPairs_103 (nI p, g1) = some (.inl (nI (p + 1), g2)) := by
      unfold S_X4_fewestPairs_103
      simp only [hF g1 y, if_neg (nI_ge (show p < P by omega) (show P < 2 ^ 31 by omega)), nI_1]
      rw [show ((0 : Int32), g1) = (nI 0, g1) from rfl, r1, xb1_some]
    rw [xlim_go st]
    exact ih (p + 1) g2 (by omega) r2 r3 r4
end ON
