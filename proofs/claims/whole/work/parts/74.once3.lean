/-! all at once: the reference, call 18 -/
section OR
variable {g g' : xSt} {β n w c o M P N : Nat} {T B : yT} {L : List Nat} {mk : Nat → Nat} {γ : Nat → Int32} {Q Q' Bs : Nat → Prop} {a1 a2 a3 a4 a5 : Int32}
theorem zx_zx (s p : Nat) : (s ^^^ 2 ^ p) ^^^ 2 ^ p = s := by rw [Nat.xor_assoc, Nat.xor_self, Nat.xor_zero]
set_option maxRecDepth 100000 in
theorem r_offB : ∀ s, s < 1024 → ∀ p, p < 10 → s.testBit p = true → nI s &&& (((1 : Int32) <<< (nI p &&& 31)) ^^^ (-1)) = nI (s ^^^ 2 ^ p) := by decide +kernel
set_option maxRecDepth 100000 in
theorem r_dec : ∀ s, s < 1024 → nI (s + 1) + (-1) = nI s ∧ ¬ nI s < 0 := by decide +kernel
theorem r_allM : ∀ P, P < 11 → nI (2 ^ P - 1) = nI (2 ^ P) + (-1) := by decide +kernel
def zDn (Bs : Nat → Prop) (M s : Nat) : Prop := ∃ Y, Bs Y ∧ Y < M ∧ ∀ b, s.testBit b = true → Y.testBit b = true
def zDi (Bs : Nat → Prop) (P m x : Nat) : Prop := Bs x ∨ ∃ s', m ≤ s' ∧ s' < 2 ^ P ∧ zDn Bs (2 ^ P) s' ∧ ∃ p, p < P ∧ s'.testBit p = true ∧ x = s' ^^^ 2 ^ p
theorem zDi_dn {m x : Nat} (hx : x < 2 ^ P) (h : zDi Bs P m x) : zDn Bs (2 ^ P) x := by
  rcases h with h | ⟨s', -, h2, ⟨Y, h3, h4, h5⟩, p, h6, h7, rfl⟩
  · exact ⟨x, h, hx, fun _ z => z⟩
  · refine ⟨Y, h3, h4, fun b z => h5 b ?_⟩
    by_cases d : b = p
    · rw [d]; exact h7
    · rw [zx_ne d] at z; exact z
theorem zDn_di {s : Nat} (hP : P ≤ 10) (hs : s < 2 ^ P) (h : zDn Bs (2 ^ P) s) : zDi Bs P (s + 1) s := by
  have h2 : 2 ^ P ≤ 2 ^ 10 := Nat.pow_le_pow_right (by decide) hP
  obtain ⟨Y, h3, h4, h5⟩ := h
  by_cases d : Y = s
  · exact Or.inl (d ▸ h3)
  · have : ∃ b, Y.testBit b = true ∧ s.testBit b = false := Classical.byContradiction fun z => d (Nat.eq_of_testBit_eq fun b => by
      by_cases e : s.testBit b = true
      · rw [e, h5 b e]
      · have e' := Bool.eq_false_iff.mpr e
        rw [e']
        exact Bool.eq_false_iff.mpr fun y => z ⟨b, y, e'⟩)
    obtain ⟨b, b1, b2⟩ := this
    have hb : b < P := Classical.byContradiction fun z => by
      have : Y < 2 ^ b := Nat.lt_of_lt_of_le h4 (Nat.pow_le_pow_right (by decide) (by omega))
      rw [Nat.testBit_lt_two_pow this] at b1
      exact absurd b1 (by decide)
    have lt : s ^^^ 2 ^ b < 2 ^ P := Nat.xor_lt_two_pow hs (Nat.pow_lt_pow_right (by decide) hb)
    have on : (s ^^^ 2 ^ b).testBit b = true := by rw [zx_eq, b2]; rfl
    have gt := zx_lt b (by omega) (s ^^^ 2 ^ b) (by omega) on
    rw [zx_zx] at gt
    refine Or.inr ⟨s ^^^ 2 ^ b, by omega, lt, ⟨Y, h3, h4, fun x z => ?_⟩, b, hb, on, (zx_zx s b).symm⟩
    by_cases e : x = b
    · rw [e]; exact b1
    · rw [zx_ne e] at z; exact h5 x z
theorem r_ao140 (hP : P ≤ 10) (h59 : xI g 113 59 = nI P) {s : Nat} (hs : s < 2 ^ P) : ∀ m p g1, m + p = P → yAg d164 g g1 → xL g1 = xL g → zB g1 164 (2 ^ P) (fun x => Q x ∨ (Q s ∧ ∃ p', p' < p ∧ s.testBit p' = true ∧ x = s ^^^ 2 ^ p')) → ∃ g', xlim (S_X12_atOnce_140 a4 (nI s)) (nI p, g1) = some g' ∧ yAg d164 g g' ∧ xL g' = xL g ∧ zB g' 164 (2 ^ P) (fun x => Q x ∨ (Q s ∧ ∃ p', p' < P ∧ s.testBit p' = true ∧ x = s ^^^ 2 ^ p')) := by
  have h2 : 2 ^ P ≤ 2 ^ 10 := Nat.pow_le_pow_right (by decide) hP
  intro m
  induction m with
  | zero =>
    intro p g1 hp y hL z
    have : p = P := by omega
    subst this
    refine ⟨g1, xlim_end ?_, y, hL, z⟩
    unfold S_X12_atOnce_140
    simp only [(y.2 113 59 (by unfold d164; omega)).trans h59]
    exact if_pos (nI_le (Nat.le_refl _) (by omega))
  | succ m ih =>
    intro p g1 hp y hL z
    have e59 := (y.2 113 59 (by unfold d164; omega)).trans h59
    have z0 := z.zero hs
    have zz : (Q s ∨ (Q s ∧ ∃ p', p' < p ∧ s.testBit p' = true ∧ s = s ^^^ 2 ^ p')) ↔ Q s := ⟨fun h => h.elim id (fun h => h.1), Or.inl⟩
    rw [zz] at z0
    by_cases c : xI g1 164 s = 0
    · have st : S_X12_atOnce_140 a4 (nI s) (nI p, g1) = some (.inl (nI (p + 1), g1)) := by
        unfold S_X12_atOnce_140
        simp only [e59, if_neg (nI_ge (show p < P by omega) (show P < 2 ^ 31 by omega)), xck_nI (show s < 1024 by omega) (show 1024 < 2 ^ 31 by decide), nI_clamp (show s < 2 ^ 31 by omega), if_pos c, nI_1]
      rw [xlim_go st]
      refine ih (p + 1) g1 (by omega) y hL (z.congr fun x _ => ?_)
      have nq := z0.mp c
      exact or_congr Iff.rfl ⟨fun h => absurd h.1 nq, fun h => absurd h.1 nq⟩
    · have yq : Q s := Classical.byContradiction fun h => c (z0.mpr h)
      by_cases d : s.testBit p = true
      · have lt := zx_lt p (by omega) s (by omega) d
        have st : S_X12_atOnce_140 a4 (nI s) (nI p, g1) = some (.inl (nI (p + 1), xWI g1 164 (s ^^^ 2 ^ p) 1)) := by
          unfold S_X12_atOnce_140
          simp only [e59, if_neg (nI_ge (show p < P by omega) (show P < 2 ^ 31 by omega)), xck_nI (show s < 1024 by omega) (show 1024 < 2 ^ 31 by decide), nI_clamp (show s < 2 ^ 31 by omega), if_neg c, nI_1, r_bitG (show s < 2 ^ 31 by omega) (show p < 32 by omega), if_pos d, r_offB s (by omega) p (by omega) d, xck_nI (show s ^^^ 2 ^ p < 1024 by omega) (show 1024 < 2 ^ 31 by decide), nI_clamp (show s ^^^ 2 ^ p < 2 ^ 31 by omega)]
          exact if_pos trivial
        rw [xlim_go st]
        refine ih (p + 1) _ (by omega) (y.wi rfl) hL (z.put.congr fun x _ => ?_)
        rw [or_assoc]
        refine or_congr Iff.rfl ⟨fun h => ?_, fun ⟨_, p', h1, h2, h3⟩ => ?_⟩
        · rcases h with ⟨_, p', h1, h2⟩ | h
          · exact ⟨yq, p', by omega, h2⟩
          · exact ⟨yq, p, by omega, d, h⟩
        · by_cases e : p' = p
          · subst e; exact Or.inr h3
          · exact Or.inl ⟨yq, p', by omega, h2, h3⟩
      · have st : S_X12_atOnce_140 a4 (nI s) (nI p, g1) = some (.inl (nI (p + 1), g1)) := by
          unfold S_X12_atOnce_140
          simp only [e59, if_neg (nI_ge (show p < P by omega) (show P < 2 ^ 31 by omega)), xck_nI (show s < 1024 by omega) (show 1024 < 2 ^ 31 by decide), nI_clamp (show s < 2 ^ 31 by omega), if_neg c, nI_1, r_bitG (show s < 2 ^ 31 by omega) (show p < 32 by omega), if_neg d]
          exact if_neg (by decide)
        rw [xlim_go st]
        refine ih (p + 1) g1 (by omega) y hL (z.congr fun x _ => or_congr Iff.rfl (and_congr Iff.rfl ⟨fun ⟨p', h1, h2⟩ => ⟨p', by omega, h2⟩, fun ⟨p', h1, h2, h3⟩ => ?_⟩))
        by_cases e : p' = p
        · subst e; exact absurd h2 d
        · exact ⟨p', by omega, h2, h3⟩
theorem r_ao132 (hP : P ≤ 10) (h59 : xI g 113 59 = nI P) : ∀ m g1, m ≤ 2 ^ P → yAg d164 g g1 → xL g1 = xL g → zB g1 164 (2 ^ P) (zDi Bs P m) → ∃ g', xlim (S_X12_atOnce_132 a4) (nI m + (-1), g1) = some g' ∧ yAg d164 g g' ∧ xL g' = xL g ∧ zB g' 164 (2 ^ P) (zDn Bs (2 ^ P)) := by
  have h2 : 2 ^ P ≤ 2 ^ 10 := Nat.pow_le_pow_right (by decide) hP
  intro m
  induction m with
  | zero =>
    intro g1 hm y hL z
    refine ⟨g1, xlim_end ?_, y, hL, z.congr fun x hx => ⟨fun h => zDi_dn hx h, fun h => ?_⟩⟩
    · unfold S_X12_atOnce_132
      exact if_pos (by show nI 0 + (-1) < 0; decide)
    · rcases zDn_di hP hx h with h | ⟨s', -, h⟩
      · exact Or.inl h
      · exact Or.inr ⟨s', Nat.zero_le _, h⟩
  | succ m ih =>
    intro g1 hm y hL z
    obtain ⟨d1, d2⟩ := r_dec m (by omega)
    have e59 := (y.2 113 59 (by unfold d164; omega)).trans h59
    obtain ⟨g2, r1, r2, r3, r4⟩ := r_ao140 (g := g) (a4 := a4) (Q := zDi Bs P (m + 1)) hP h59 (show m < 2 ^ P by omega) P 0 g1 (by omega) y hL (z.congr fun x _ => ⟨Or.inl, fun h => h.elim id (fun h => by obtain ⟨_, p', h1, _⟩ := h; exact absurd h1 (by omega))⟩)
    have st : S_X12_atOnce_132 a4 (nI m, g1) = some (.inl (nI m + (-1), g2)) := by
      unfold S_X12_atOnce_132
      simp only [if_neg d2]
      rw [show ((0 : Int32), g1) = (nI 0, g1) from rfl, r1, xb1_some]
    rw [d1, xlim_go st]
    refine ih g2 (by omega) r2 r3 (r4.congr fun x hx => ⟨fun h => ?_, fun h => ?_⟩)
    · rcases h with (h | ⟨s', h1, h2⟩) | ⟨h, p', h1, h2, h3⟩
      · exact Or.inl h
      · exact Or.inr ⟨s', by omega, h2⟩
      · exact Or.inr ⟨m, Nat.le_refl _, by omega, zDi_dn (by omega) h, p', h1, h2, h3⟩
    · rcases h with h | ⟨s', h1, h3, h4, p', h5, h6, h7⟩
      · exact Or.inl (Or.inl h)
      · by_cases e : s' = m
        · subst e; exact Or.inr ⟨zDn_di hP h3 h4, p', h5, h6, h7⟩
        · exact Or.inl (Or.inr ⟨s', by omega, h3, h4, p', h5, h6, h7⟩)
theorem r_ao203 (hP : P ≤ 10) (h : zB g 164 (2 ^ P) Q) : xlim (S_X12_atOnce_203 (nI (2 ^ P - 1))) (-1, 0, g) = some (zO (zLs (fun s => ¬ Q s) (2 ^ P)), g) := by
  have h2 : 2 ^ P ≤ 2 ^ 10 := Nat.pow_le_pow_right (by decide) hP
  have h1 : 0 < 2 ^ P := Nat.two_pow_pos P
  refine xlim_of (step := S_X12_atOnce_203 (nI (2 ^ P - 1))) (fun j => (zO (zLs (fun s => ¬ Q s) j), nI j, g)) (2 ^ P) (fun j hj => ?_) ?_
  · unfold S_X12_atOnce_203
    have nlt : ¬ nI (2 ^ P - 1) < nI j := by rw [nI_ltI (by omega) (by omega)]; omega
    simp only [if_neg nlt, xck_nI (show j < 1024 by omega) (show 1024 < 2 ^ 31 by decide), nI_clamp (show j < 2 ^ 31 by omega)]
    have z := h.zero hj
    rw [nI_1]
    by_cases c : Q j
    · rw [if_neg (show ¬ xI g 164 j = 0 from fun y => z.mp y c)]
      have : zLs (fun s => ¬ Q s) (j + 1) = zLs (fun s => ¬ Q s) j := by
        conv => lhs; unfold zLs
        exact if_neg (fun y => y c)
      rw [this]
    · rw [if_pos (z.mpr c)]
      have u : zLs (fun s => ¬ Q s) (j + 1) = (match zLs (fun s => ¬ Q s) j with
        | none => some j
        | some b => if yPop b ≤ yPop j then some b else some j) := by
        conv => lhs; unfold zLs
        exact if_pos c
      rw [u]
      cases e : zLs (fun s => ¬ Q s) j with
      | none => exact if_pos (by decide)
      | some b =>
        have hb := zLs_lt j b e
        obtain ⟨b1, b2, b3, b4⟩ := r_bci10 b (by omega)
        obtain ⟨j1, j2, -, -⟩ := r_bci10 j (by omega)
        show (if nI b < 0 then _ else xb1 (E_X12_bitsOf (nI j) g) fun r227_5 => xb1 (E_X12_bitsOf (nI b) g) fun r232_6 => if r232_6 ≤ r227_5 then some (Sum.inl (nI b, nI (j + 1), g)) else some (Sum.inl (nI j, nI (j + 1), g))) = _
        rw [if_neg b4, r_bitsOf2 (by omega), xb1_some, r_bitsOf2 (by omega), xb1_some]
        by_cases d : yPop b ≤ yPop j
        · rw [if_pos (nI_le d (by omega))]; simp only [if_pos d]; rfl
        · rw [if_neg (nI_ge (show yPop j < yPop b by omega) (by omega))]; simp only [if_neg d]; rfl
  · unfold S_X12_atOnce_203
    have lt : nI (2 ^ P - 1) < nI (2 ^ P) := by rw [nI_ltI (by omega) (by omega)]; omega
    exact if_pos lt
/-- the reference's sets behind the laying -/
theorem r_onceR {ρ : Nat → Nat} (ho : I_orders g n w) (q : yLR g L) (hi : yIn n w L) (hp : zPa g n (n * (n - 1) / 2)) (hρ : ∀ j, j < L.length → xI g 146 j = nI (ρ j) ∧ ρ j < 100000) : ∃ e5 e6 e7, xlim (S_X12_atOnce_37 ((1 <<< ((xI g 113 59) &&& 31)) - 1)) (0, g) = some e5 ∧ xlim (S_X12_atOnce_61 ((1 <<< ((xI g 113 59) &&& 31)) - 1)) (0, e5) = some e6 ∧ xlim (S_X12_atOnce_132 ((1 <<< ((xI g 113 59) &&& 31)) - 1)) ((1 <<< ((xI g 113 59) &&& 31)) - 1, e6) = some e7 ∧ xlim (S_X12_atOnce_203 ((1 <<< ((xI g 113 59) &&& 31)) - 1)) (-1, 0, e7) = some (zO (zLs (fun s => ¬ zDn (zRs (zX n w L) ρ (n * (n - 1) / 2) L.length) (2 ^ (n * (n - 1) / 2)) s) (2 ^ (n * (n - 1) / 2))), e7) ∧ yAg d164 g e7 := by
  have hn := ho.1
  have hP := (yPs_3 n (by omega)).2.2
  obtain ⟨e5, r1, r2, r3, r4⟩ := r_ao37 (g := g) hP (2 ^ (n * (n - 1) / 2)) 0 g (by omega) (yAg.refl _ _) rfl (fun x hx => absurd hx (by omega))
  have z0 : zB e5 164 (2 ^ (n * (n - 1) / 2)) (zRs (zX n w L) ρ (n * (n - 1) / 2) 0) := fun s hs => ⟨Or.inl (r4 s hs), by rw [r4 s hs]; exact ⟨fun z => absurd z (by decide), fun ⟨i, j, h, _⟩ => absurd h (by omega)⟩⟩
  obtain ⟨e6, s1, s2, s3, s4⟩ := r_ao61 ho q hi hp hρ L.length 0 e5 (by omega) r2 r3 z0
  obtain ⟨e7, t1, t2, t3, t4⟩ := r_ao132 (g := g) (a4 := nI (2 ^ (n * (n - 1) / 2) - 1)) (Bs := zRs (zX n w L) ρ (n * (n - 1) / 2) L.length) hP hp.1 (2 ^ (n * (n - 1) / 2)) e6 (Nat.le_refl _) s2 s3 (s4.congr fun x _ => ⟨Or.inl, fun h => h.elim id (fun ⟨s', h1, h2, _⟩ => absurd h1 (by omega))⟩)
  have u := r_ao203 hP t4
  rw [hp.1, r_all8 _ (by omega)]
  rw [← r_allM _ (by omega)] at t1
  exact ⟨e5, e6, e7, r1, s1, t1, u, t2⟩
end OR
