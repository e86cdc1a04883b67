/-! STREET: the lines, on both sides -/
section LO
variable {gC gR gC' gR' g g' g1 : xSt} {t b n r p k m o i q f pl : Nat} {bt : Nat → Nat} {v : Int32}
/-- where the reading ends -/
def zEs (gC gR : xSt) (m : Nat) (bt : Nat → Nat) (t b : Nat) : Prop := (zGo2 gC gR m bt ∧ ∃ n r p k, zTbl gC gR t b n r p k ∧ xI gR 123 b = nI (if r = 0 then 0 else 1) ∧ zWays gC gR t b k) ∨ zFd gC gR m
theorem zTk.k0 (h : zTk gC gR m bt) : xI gC 20 6 = 0 ↔ xI gR 113 8 = 0 := by
  obtain ⟨st, sp, t1, t2, t3, t4, t5, t6, t7⟩ := h
  have n0 : ∀ x : Nat, zSg x → nI x ≠ 0 := fun x hb z => by
    have : x = 59 ∨ x = 40 ∨ x = 41 ∨ x = 47 := hb
    rcases this with e | e | e | e <;> subst e <;> exact absurd z (by decide)
  rcases t7 with ⟨a, c⟩ | ⟨a, c⟩ | ⟨a, _, c⟩ | ⟨v, _, a, c, _⟩ | ⟨a, _, c, d⟩
  · rw [a, c]
  · rw [a, c]; exact ⟨fun z => absurd z (by decide), fun z => absurd z (by decide)⟩
  · rcases c with ⟨_, _, c⟩ | ⟨j, _, _, _, c⟩
    · rw [a, c]; exact ⟨fun z => absurd z (by decide), fun z => absurd z (by decide)⟩
    · rw [a, c]; exact ⟨fun z => absurd z (by decide), fun z => absurd z (by decide)⟩
  · rw [a, c]; exact ⟨fun z => absurd z (by decide), fun z => absurd z (by decide)⟩
  · rw [c, d]; exact ⟨fun z => absurd z (n0 _ a), fun z => absurd z (by decide)⟩
theorem l_stopC (c : Int32) (h : xI g 20 6 = 0) : S_X6_read_44 t (c, g) = some (.inr g) := by
  unfold S_X6_read_44
  by_cases d : xI g 20 2 < c
  · exact if_pos d
  · show (if xI g 20 2 < c then _ else if xI g 20 10 = 0 then _ else _) = _
    rw [if_neg d, if_pos h]
    exact ite_self _
theorem l_stopF (c : Int32) (h : ¬ xI g 20 10 = 0) : S_X6_read_44 t (c, g) = some (.inr g) := by
  unfold S_X6_read_44
  by_cases d : xI g 20 2 < c
  · exact if_pos d
  · show (if xI g 20 2 < c then _ else if xI g 20 10 = 0 then _ else _) = _
    rw [if_neg d, if_neg h]
theorem j_lines (ht : t = 2 ∨ t = 11) (hb : b ≤ 1) : ∀ (w : Nat) (gC gR : xSt) (c a s : Nat), m ≤ a + w → c ≤ a → a ≤ s → s ≤ 1200 → xI gC 20 4 = nI a → xI gC 20 5 = nI s → (a < s ∨ xI gC 20 6 = 0) → xI gR 113 31 = nI b → zTxC gC m bt → zTxR gR m bt → zGo2 gC gR m bt → (∃ n r p k, zTbl gC gR t b n r p k ∧ xI gR 123 b = nI (if r = 0 then 0 else 1) ∧ zWays gC gR t b k) → ∃ gC' gR', xlim (S_X6_read_44 t) (nI c, gC) = some gC' ∧ xlim S_X12_street_74 gR = some gR' ∧ zCb t gC gC' ∧ zRk b gR gR' ∧ zEs gC' gR' m bt t b := by
  intro w
  have stop : ∀ (gC gR : xSt) (c : Nat), xI gC 20 6 = 0 → zGo2 gC gR m bt → (∃ n r p k, zTbl gC gR t b n r p k ∧ xI gR 123 b = nI (if r = 0 then 0 else 1) ∧ zWays gC gR t b k) → ∃ gC' gR', xlim (S_X6_read_44 t) (nI c, gC) = some gC' ∧ xlim S_X12_street_74 gR = some gR' ∧ zCb t gC gC' ∧ zRk b gR gR' ∧ zEs gC' gR' m bt t b := fun gC gR c k0 h T => by
    refine ⟨gC, gR, xlim_end (l_stopC _ k0), xlim_end ?_, zCb.refl, zRk.refl, Or.inl ⟨h, T⟩⟩
    unfold S_X12_street_74
    rw [g_good h, if_neg (by decide), if_pos (h.2.2.k0.mp k0)]
  have small : ∀ (gC gR : xSt) (a s : Nat), a ≤ s → s ≤ 1200 → xI gC 20 4 = nI a → xI gC 20 5 = nI s → zTxC gC m bt → zGo2 gC gR m bt → a ≤ m ∧ s ≤ m := fun gC gR a s has hs h4 h5 hC h => by
    obtain ⟨-, -, st, sp, t1, t2, t3, t4, -⟩ := h
    have m1 := hC.1
    have e1 : a = st := (nI_eq (by omega) (by omega)).mp (h4.symm.trans t3)
    have e2 : s = sp := (nI_eq (by omega) (by omega)).mp (h5.symm.trans t4)
    omega
  induction w with
  | zero =>
    intro gC gR c a s hw hc has hs h4 h5 h6 h31 hC hR h T
    rcases h6 with h6 | h6
    · have := small gC gR a s has hs h4 h5 hC h
      omega
    · exact stop gC gR c h6 h T
  | succ w ih =>
    intro gC gR c a s hw hc has hs h4 h5 h6 h31 hC hR h T
    by_cases k0 : xI gC 20 6 = 0
    · exact stop gC gR c k0 h T
    · have las : a < s := h6.resolve_right k0
      have sm := small gC gR a s has hs h4 h5 hC h
      have m1 := hC.1
      obtain ⟨n, r, p, k, T1, T2, T3⟩ := T
      obtain ⟨gC1, gR1, a1, a2, y1, y2, ln⟩ := j_any ht hb h31 hC hR h T1 T2 T3
      have hC1 := hC.cb ht y1
      have hR1 := hR.rk y2
      have s1 : S_X6_read_44 t (nI c, gC) = some (.inl (nI (c + 1), gC1)) := by
        unfold S_X6_read_44
        show (if xI gC 20 2 < nI c then _ else if xI gC 20 10 = 0 then (if xI gC 20 6 = 0 then _ else xb1 (E_X6_readLine t gC) fun g68_4 => some (Sum.inl (nI c + 1, g68_4))) else _) = _
        rw [hC.2.2.1, if_neg (show ¬ nI m < nI c by rw [nI_ltI (by omega) (by omega)]; omega), if_pos h.1, if_neg k0, a1, xb1_some, nI_1]
      have s2 : S_X12_street_74 gR = some (.inl gR1) := by
        unfold S_X12_street_74
        rw [g_good h, if_neg (by decide), if_neg (fun z => k0 (h.2.2.k0.mpr z)), a2, xb1_some]
      rw [xlim_go s1, xlim_go s2]
      rcases ln with ⟨go, ⟨g1, b1, b2⟩, T'⟩ | fd
      · obtain ⟨g1', st1, sp1, d1, d2, d3, d4, d5, -, -⟩ := c_advance hC sm.2 h5
        have e : g1' = g1 := Option.some.inj (d1.symm.trans b1)
        rw [e] at d4
        obtain ⟨a', p', q1, q2, q3, q4, q5, q6, q7⟩ := b2.2.2.1 st1 sp1 d4.2.2.1 (by have := d4.2.2.2.1; omega) d4.1 d4.2.1
        obtain ⟨gC2, gR2, u1, u2, u3, u4, u5⟩ := ih gC1 gR1 (c + 1) a' p' (by omega) (by omega) q3 q4 q5 q6 (q7 d4.mo) (y2.b31 h31) hC1 hR1 go T'
        exact ⟨gC2, gR2, u1, u2, y1.tr u3, y2.tr u4, u5⟩
      · have fd0 := fd
        obtain ⟨f, pl, f1, f2, f3⟩ := fd
        refine ⟨gC1, gR1, xlim_end (l_stopF _ (by rw [f2.2.2.1]; exact nI_nz f2.1 (by have := f2.2.1; omega))), xlim_end ?_, y1, y2, Or.inr fd0⟩
        unfold S_X12_street_74
        rw [f_good f3, if_pos rfl]
end LO
