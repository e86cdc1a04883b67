/-! STREET: a street without a fault, side by side -/
section SD
variable {g gR gR2 g1 g' : xSt} {t b n w p k m o i q f pl β : Nat}
def dSg (o k : Nat) : Prop := (o = 0 ∧ 1 ≤ k ∧ k ≤ 3) ∨ dRf o k ∨ (o = 32 ∧ (k = 0 ∨ k = 1 ∨ k = 3)) ∨ o = 40 ∨ (o = 111 ∧ k = 1) ∨ ((o = 42 ∨ o = 51 ∨ o = 60) ∧ k = 4)
theorem c_streetG (ht : t = 2 ∨ t = 11) (et : 13 - tw g = t) (E1 : E_X6_read t (nI m) g = some g1) (h01 : xI g 0 1 = nI m) (etw : tw g1 = tw g) (f0 : xI g1 20 10 = 0) (hn : n ≤ 5) (hw : w ≤ 1) (c0 : xI g1 t 0 = nI n) (c3 : xI g1 t 3 = nI w) : ∃ g6, E_X11_street g = some (nI n, g6) ∧ tw g6 = t ∧ (∀ o k, ¬ dSg o k → xI g6 o k = xI g1 o k) ∧ xL g6 = xL g1 ∧ xI g6 0 1 = 0 ∧ xI g6 0 2 = 0 ∧ xI g6 0 3 = xI g1 20 11 ∧ xI g6 69 0 = nI n ∧ xI g6 69 1 = nI (yN n w) ∧ (∀ i, i < yN n w → xI g6 70 i = nI (yOr n w i) ∧ xI g6 71 i = nI (yMk n (yOr n w i))) ∧ xI g6 32 0 = 0 ∧ xI g6 32 1 = 0 ∧ xI g6 32 3 = 0 ∧ (∀ k, k < 5 → xI g6 40 k = xI g1 (t + 2) k) ∧ xI g6 111 1 = 0 ∧ xI g6 42 4 = 0 ∧ xI g6 51 4 = 0 ∧ xI g6 60 4 = 0 := by
  have aA : ∀ o k, o ≠ 0 → xI (xSw (xWI (xWI (xWI g1 0 1 0) 0 2 (xI g1 20 10)) 0 3 (xI g1 20 11))) o k = xI g1 o k := fun o k ho => by
    show xI (xWI (xWI (xWI g1 0 1 0) 0 2 (xI g1 20 10)) 0 3 (xI g1 20 11)) o k = _
    rw [yI_wi, if_neg (by omega), yI_wi, if_neg (by omega), yI_wi, if_neg (by omega)]
  have a0 : ∀ k, xI (xSw (xWI (xWI (xWI g1 0 1 0) 0 2 (xI g1 20 10)) 0 3 (xI g1 20 11))) 0 k = if k = 3 then xI g1 20 11 else if k = 2 then 0 else if k = 1 then 0 else xI g1 0 k := fun k => by
    show xI (xWI (xWI (xWI g1 0 1 0) 0 2 (xI g1 20 10)) 0 3 (xI g1 20 11)) 0 k = _
    rw [yI_wi, yI_wi, yI_wi, f0]
    simp only [true_and]
  have aT : tw (xSw (xWI (xWI (xWI g1 0 1 0) 0 2 (xI g1 20 10)) 0 3 (xI g1 20 11))) = t := by
    rw [tw_sw]
    show 13 - tw g1 = t
    rw [etw, et]
  have aL : xL (xSw (xWI (xWI (xWI g1 0 1 0) 0 2 (xI g1 20 10)) 0 3 (xI g1 20 11))) = xL g1 := rfl
  have S : E_X11_street g = xb1 (E_X5_refill t (xSw (xWI (xWI (xWI g1 0 1 0) 0 2 (xI g1 20 10)) 0 3 (xI g1 20 11)))) fun g2 => xb1 (E_X0_begin 32 (tw g2) g2) fun g3 => xb1 (E_X9_empty g3) fun g4 => some (xI (xWI (xWI (xWI g4 42 4 0) 51 4 0) 60 4 0) (tw g4) 0, xWI (xWI (xWI g4 42 4 0) 51 4 0) 60 4 0) := by
    unfold E_X11_street
    rw [h01, et, E1, xb1_some, if_pos f0, etw, et]
  generalize xSw (xWI (xWI (xWI g1 0 1 0) 0 2 (xI g1 20 10)) 0 3 (xI g1 20 11)) = gS at aA a0 aT aL S
  obtain ⟨g2, r1, r2, r3, r4, r5, r6⟩ := c_refill (g := gS) ht ((aA t 0 (by omega)).trans c0) ((aA t 3 (by omega)).trans c3) hn hw
  have e2 : tw g2 = t := by
    have : tw g2 = tw gS := by unfold tw; rw [r2.1]
    rw [this, aT]
  rw [r1, xb1_some, e2] at S
  have k2 : ∀ o k, ¬ dRf o k → o ≠ 0 → xI g2 o k = xI g1 o k := fun o k h h0 => (r2.2 o k h).trans (aA o k h0)
  have k20 : ∀ k, xI g2 0 k = if k = 3 then xI g1 20 11 else if k = 2 then 0 else if k = 1 then 0 else xI g1 0 k := fun k => (r2.2 0 k (by unfold dRf; omega)).trans (a0 k)
  have S2 : E_X11_street g = some (xI (xWI (xWI (xWI (xWI (xRowI (xWI (xWI (xWI g2 32 0 0) 32 1 0) 32 3 0) 40 (fun j => if j < 5 ∧ j < 5 then xI (xWI (xWI (xWI g2 32 0 0) 32 1 0) 32 3 0) (t + 2) j else xI (xWI (xWI (xWI g2 32 0 0) 32 1 0) 32 3 0) 40 j)) 111 1 0) 42 4 0) 51 4 0) 60 4 0) (tw g2) 0, xWI (xWI (xWI (xWI (xRowI (xWI (xWI (xWI g2 32 0 0) 32 1 0) 32 3 0) 40 (fun j => if j < 5 ∧ j < 5 then xI (xWI (xWI (xWI g2 32 0 0) 32 1 0) 32 3 0) (t + 2) j else xI (xWI (xWI (xWI g2 32 0 0) 32 1 0) 32 3 0) 40 j)) 111 1 0) 42 4 0) 51 4 0) 60 4 0) := S
  have e6 : ∀ o k, xI (xWI (xWI (xWI (xWI (xRowI (xWI (xWI (xWI g2 32 0 0) 32 1 0) 32 3 0) 40 (fun j => if j < 5 ∧ j < 5 then xI (xWI (xWI (xWI g2 32 0 0) 32 1 0) 32 3 0) (t + 2) j else xI (xWI (xWI (xWI g2 32 0 0) 32 1 0) 32 3 0) 40 j)) 111 1 0) 42 4 0) 51 4 0) 60 4 0) o k = if o = 60 ∧ k = 4 then 0 else if o = 51 ∧ k = 4 then 0 else if o = 42 ∧ k = 4 then 0 else if o = 111 ∧ k = 1 then 0 else if o = 40 then (if k < 5 ∧ k < 5 then xI (xWI (xWI (xWI g2 32 0 0) 32 1 0) 32 3 0) (t + 2) k else xI (xWI (xWI (xWI g2 32 0 0) 32 1 0) 32 3 0) 40 k) else if o = 32 ∧ k = 3 then 0 else if o = 32 ∧ k = 1 then 0 else if o = 32 ∧ k = 0 then 0 else xI g2 o k := fun o k => by
    rw [yI_wi, yI_wi, yI_wi, yI_wi, xI_RowI, yI_wi (xWI (xWI g2 32 0 0) 32 1 0) 32 3 o k, yI_wi (xWI g2 32 0 0) 32 1 o k, yI_wi g2 32 0 o k]
  have l6 : xL (xWI (xWI (xWI (xWI (xRowI (xWI (xWI (xWI g2 32 0 0) 32 1 0) 32 3 0) 40 (fun j => if j < 5 ∧ j < 5 then xI (xWI (xWI (xWI g2 32 0 0) 32 1 0) 32 3 0) (t + 2) j else xI (xWI (xWI (xWI g2 32 0 0) 32 1 0) 32 3 0) 40 j)) 111 1 0) 42 4 0) 51 4 0) 60 4 0) = xL g2 := rfl
  have t6 : tw (xWI (xWI (xWI (xWI (xRowI (xWI (xWI (xWI g2 32 0 0) 32 1 0) 32 3 0) 40 (fun j => if j < 5 ∧ j < 5 then xI (xWI (xWI (xWI g2 32 0 0) 32 1 0) 32 3 0) (t + 2) j else xI (xWI (xWI (xWI g2 32 0 0) 32 1 0) 32 3 0) 40 j)) 111 1 0) 42 4 0) 51 4 0) 60 4 0) = tw g2 := rfl
  rw [e2] at S2 t6
  generalize xWI (xWI (xWI (xWI (xRowI (xWI (xWI (xWI g2 32 0 0) 32 1 0) 32 3 0) 40 (fun j => if j < 5 ∧ j < 5 then xI (xWI (xWI (xWI g2 32 0 0) 32 1 0) 32 3 0) (t + 2) j else xI (xWI (xWI (xWI g2 32 0 0) 32 1 0) 32 3 0) 40 j)) 111 1 0) 42 4 0) 51 4 0) 60 4 0 = g6 at S2 e6 l6 t6
  have o6 : ∀ o k, ¬ (o = 60 ∧ k = 4) → ¬ (o = 51 ∧ k = 4) → ¬ (o = 42 ∧ k = 4) → ¬ (o = 111 ∧ k = 1) → o ≠ 40 → ¬ (o = 32 ∧ (k = 0 ∨ k = 1 ∨ k = 3)) → xI g6 o k = xI g2 o k := fun o k h1 h2 h3 h4 h5 h6 => by
    rw [e6, if_neg h1, if_neg h2, if_neg h3, if_neg h4, if_neg h5, if_neg (by omega), if_neg (by omega), if_neg (by omega)]
  have n6 : xI g6 t 0 = nI n := by rw [o6 t 0 (by omega) (by omega) (by omega) (by omega) (by omega) (by omega), k2 t 0 (by unfold dRf; omega) (by omega)]; exact c0
  refine ⟨g6, by rw [S2, n6], t6, fun o k h => ?_, l6.trans (r3.trans aL), ?_, ?_, ?_, ?_, ?_, fun i hi => ⟨?_, ?_⟩, ?_, ?_, ?_, fun k hk => ?_, ?_, ?_, ?_, ?_⟩
  · unfold dSg at h
    by_cases z : o = 0
    · subst z
      rw [o6 0 k (by omega) (by omega) (by omega) (by omega) (by omega) (by omega), k20, if_neg (by omega), if_neg (by omega), if_neg (by omega)]
    · rw [o6 o k (by omega) (by omega) (by omega) (by omega) (by omega) (by omega), k2 o k (fun y => h (Or.inr (Or.inl y))) z]
  · rw [o6 0 1 (by omega) (by omega) (by omega) (by omega) (by omega) (by omega), k20]; rfl
  · rw [o6 0 2 (by omega) (by omega) (by omega) (by omega) (by omega) (by omega), k20]; rfl
  · rw [o6 0 3 (by omega) (by omega) (by omega) (by omega) (by omega) (by omega), k20]; rfl
  · rw [o6 69 0 (by omega) (by omega) (by omega) (by omega) (by omega) (by omega)]; exact r4
  · rw [o6 69 1 (by omega) (by omega) (by omega) (by omega) (by omega) (by omega)]; exact r5
  · rw [o6 70 i (by omega) (by omega) (by omega) (by omega) (by omega) (by omega)]; exact (r6 i hi).1
  · rw [o6 71 i (by omega) (by omega) (by omega) (by omega) (by omega) (by omega)]; exact (r6 i hi).2
  · rw [e6]; rfl
  · rw [e6]; rfl
  · rw [e6]; rfl
  · rw [e6, if_neg (by omega), if_neg (by omega), if_neg (by omega), if_neg (by omega), if_pos rfl, if_pos ⟨hk, hk⟩, yI_wi, if_neg (by omega), yI_wi, if_neg (by omega), yI_wi, if_neg (by omega), k2 (t + 2) k (by unfold dRf; omega) (by omega)]
  · rw [e6]; rfl
  · rw [e6]; rfl
  · rw [e6]; rfl
  · rw [e6]; rfl
theorem q_137 (hb : b ≤ 1) : ∀ m i g1, m + i = 5 → yAg (fun o _ => o = 143) g g1 → xL g1 = xL g → xI g 113 30 = nI b → (∀ k, k < i → xI g1 143 k = xI g 120 (5 * b + k)) → ∃ g', xlim S_X12_street_137 (nI i, g1) = some g' ∧ yAg (fun o _ => o = 143) g g' ∧ xL g' = xL g ∧ ∀ k, k < 5 → xI g' 143 k = xI g 120 (5 * b + k) := by
  intro m
  induction m with
  | zero =>
    intro i g1 hi y hL h30 h
    have e : i = 5 := by omega
    subst e
    refine ⟨g1, xlim_end ?_, y, hL, h⟩
    unfold S_X12_street_137
    exact if_pos (show (5 : Int32) ≤ nI 5 by decide)
  | succ m ih =>
    intro i g1 hi y hL h30 h
    have st : S_X12_street_137 (nI i, g1) = some (.inl (nI (i + 1), xWI g1 143 i (xI g1 120 (5 * b + i)))) := by
      unfold S_X12_street_137
      show (if 5 ≤ nI i then _ else xck 10 ((nI 5 * (xI g1 113 30)) + nI i) (xck 5 (nI i) (some (Sum.inl (nI i + 1, xWI g1 143 (nI i).toNatClampNeg (xI g1 120 ((nI 5 * (xI g1 113 30)) + nI i).toNatClampNeg)))))) = _
      rw [if_neg (show ¬ (5 : Int32) ≤ nI i by rw [show (5 : Int32) = nI 5 from rfl]; exact nI_ge (by omega) (by decide)), y.2 113 30 (by omega), h30, nI_b5, xck_nI (by omega) (by decide), xck_nI (by omega) (by decide), nI_clamp (by omega), nI_clamp (by omega), nI_1]
    rw [xlim_go st]
    refine ih (i + 1) _ (by omega) (y.wi rfl) hL h30 fun k hk => ?_
    rw [yI_wi]
    by_cases z : k = i
    · rw [if_pos ⟨rfl, z⟩, z, y.2 120 _ (by omega)]
    · rw [if_neg (fun x => z x.2)]; exact h k (by omega)
theorem q_174 : ∀ m i g1, m + i = 3 → yAg (fun o _ => o = 174) g g1 → xL g1 = xL g → (∀ k, k < i → xI g1 174 k = -1) → ∃ g', xlim S_X12_street_174 (nI i, g1) = some g' ∧ yAg (fun o _ => o = 174) g g' ∧ xL g' = xL g ∧ ∀ k, k < 3 → xI g' 174 k = -1 := by
  intro m
  induction m with
  | zero =>
    intro i g1 hi y hL h
    have e : i = 3 := by omega
    subst e
    refine ⟨g1, xlim_end ?_, y, hL, h⟩
    unfold S_X12_street_174
    exact if_pos (show (3 : Int32) ≤ nI 3 by decide)
  | succ m ih =>
    intro i g1 hi y hL h
    have st : S_X12_street_174 (nI i, g1) = some (.inl (nI (i + 1), xWI g1 174 i (-1))) := by
      unfold S_X12_street_174
      show (if 3 ≤ nI i then _ else xck 3 (nI i) (some (Sum.inl (nI i + 1, xWI g1 174 (nI i).toNatClampNeg (-1))))) = _
      rw [if_neg (show ¬ (3 : Int32) ≤ nI i by rw [show (3 : Int32) = nI 3 from rfl]; exact nI_ge (by omega) (by decide)), xck_nI (by omega) (by decide), nI_clamp (by omega), nI_1]
    rw [xlim_go st]
    refine ih (i + 1) _ (by omega) (y.wi rfl) hL fun k hk => ?_
    rw [yI_wi]
    by_cases z : k = i
    · rw [if_pos ⟨rfl, z⟩]
    · rw [if_neg (fun x => z x.2)]; exact h k (by omega)
theorem r_streetG (hb : b ≤ 1) (h4 : xI gR 113 4 = 0) (h31 : xI gR 113 31 = nI b) (ck : E_X12_layClerk (xWI gR 113 30 (nI b)) = some gR2) (y2 : yAg (dLk b) (xWI gR 113 30 (nI b)) gR2) (l2 : xL gR2 = xL gR) (hn : n ≤ 5) (hw : w ≤ 1) (h116 : xI gR2 116 b = nI n) (h121 : xI gR2 121 b = nI w) : ∃ g', K_X12_street_95 gR = some (nI n, g') ∧ yAg (fun o _ => 113 ≤ o) gR g' ∧ xL g' = xL gR ∧ (∀ o k, 116 ≤ o → o ≤ 131 → xI g' o k = xI gR2 o k) ∧ xI g' 113 30 = nI b ∧ (∀ k, k = 2 ∨ k = 4 ∨ k = 5 ∨ k = 45 → xI g' 113 k = xI gR 113 k) ∧ xI g' 113 34 = nI (yN n w) ∧ (∀ i, i < yN n w → ∀ t, t < n → xI g' 134 (5 * i + t) = nI (yDg (yOr n w i) t)) ∧ xI g' 113 44 = 0 ∧ xI g' 113 46 = 0 ∧ xI g' 113 47 = 0 ∧ xI g' 113 54 = 0 ∧ (∀ k, k < 5 → xI g' 143 k = xI gR2 120 (5 * b + k)) ∧ ∀ k, k < 3 → xI g' 174 k = -1 := by
  have e30 : xI gR2 113 30 = nI b := by rw [y2.2 113 30 (by unfold dLk; omega), yI_wi, if_pos ⟨rfl, rfl⟩]
  have e2 : ∀ k, k ≠ 30 → xI gR2 113 k = xI gR 113 k := fun k hk => by rw [y2.2 113 k (by unfold dLk; omega), yI_wi, if_neg (by omega)]
  obtain ⟨g3, a1, a2, a3, a4, a5⟩ := r_layOrders hb e30 h116 h121 hn hw
  have y4 : yAg (fun o k => o = 113 ∧ (k = 44 ∨ k = 46 ∨ k = 47)) g3 (xWI (xWI (xWI g3 113 44 0) 113 46 0) 113 47 0) := (((yAg.refl _ _).wi (by omega)).wi (by omega)).wi (by omega)
  have z4 : ∀ k, k = 44 ∨ k = 46 ∨ k = 47 → xI (xWI (xWI (xWI g3 113 44 0) 113 46 0) 113 47 0) 113 k = 0 := fun k hk => by
    rw [yI_wi, yI_wi, yI_wi]
    rcases hk with e | e | e <;> subst e <;> rfl
  have L4 : xL (xWI (xWI (xWI g3 113 44 0) 113 46 0) 113 47 0) = xL g3 := rfl
  have K0 : K_X12_street_95 gR = xb1 (xlim (S_X12_street_137) (0, xWI (xWI (xWI g3 113 44 0) 113 46 0) 113 47 0)) fun e_4 => xb1 (xlim (S_X12_street_174) (0, xWI e_4 113 54 0)) fun e_5 => xck 2 (xI e_5 113 30) (some (xI e_5 116 (xI e_5 113 30).toNatClampNeg, e_5)) := by
    unfold K_X12_street_95
    have gd : F_X12_isGood gR = 1 := by unfold F_X12_isGood; rw [h4, if_pos rfl]
    rw [gd, if_neg (by decide), h31, ck, xb1_some, a1, xb1_some]
  generalize xWI (xWI (xWI g3 113 44 0) 113 46 0) 113 47 0 = g4 at y4 z4 L4 K0
  obtain ⟨g5, b1, b2, b3, b4⟩ := q_137 (g := g4) hb 5 0 g4 (by omega) (yAg.refl _ _) rfl (by rw [y4.2 113 30 (by omega), a2.2 113 30 (by unfold dLo; omega)]; exact e30) (fun k hk => by omega)
  rw [show ((0 : Int32), g4) = (nI 0, g4) from rfl, b1, xb1_some] at K0
  obtain ⟨g6, d1, d2, d3, d4⟩ := q_174 (g := xWI g5 113 54 0) 3 0 (xWI g5 113 54 0) (by omega) (yAg.refl _ _) rfl (fun k hk => by omega)
  rw [show ((0 : Int32), xWI g5 113 54 0) = (nI 0, xWI g5 113 54 0) from rfl, d1, xb1_some] at K0
  -- what the end holds
  have w6 : ∀ o k, o ≠ 174 → ¬ (o = 113 ∧ k = 54) → o ≠ 143 → ¬ (o = 113 ∧ (k = 44 ∨ k = 46 ∨ k = 47)) → xI g6 o k = xI g3 o k := fun o k h1 h2 h3 h5 => by
    rw [d2.2 o k h1, yI_wi, if_neg h2, b2.2 o k h3, y4.2 o k h5]
  have w5 : ∀ o k, o ≠ 174 → ¬ (o = 113 ∧ k = 54) → o ≠ 143 → xI g6 o k = xI g4 o k := fun o k h1 h2 h3 => by
    rw [d2.2 o k h1, yI_wi, if_neg h2, b2.2 o k h3]
  have v30 : xI g6 113 30 = nI b := by rw [w6 113 30 (by omega) (by omega) (by omega) (by omega), a2.2 113 30 (by unfold dLo; omega)]; exact e30
  have v116 : ∀ o k, 116 ≤ o → o ≤ 131 → xI g6 o k = xI gR2 o k := fun o k h1 h2 => by rw [w6 o k (by omega) (by omega) (by omega) (by omega), a2.2 o k (by unfold dLo; omega)]
  rw [v30, xck_nI (by omega) (by decide), nI_clamp (by omega), v116 116 b (by omega) (by omega), h116] at K0
  have yy : yAg (fun o _ => 113 ≤ o) gR g6 := (((((yAg.refl (fun o _ => 113 ≤ o) gR).wi (o := 113) (k := 30) (v := nI b) (Nat.le_refl _)).tr (y2.up fun o k z => by unfold dLk at z; omega)).tr (a2.up fun o k z => by unfold dLo at z; omega)).tr (y4.up fun o k z => by omega)).tr ((((b2.up fun o k z => by omega).wi (o := 113) (k := 54) (v := 0) (Nat.le_refl _))).tr (d2.up fun o k z => by omega))
  refine ⟨g6, K0, yy, ?_, v116, v30, fun k hk => ?_, ?_, fun i hi t ht => ?_, ?_, ?_, ?_, ?_, fun k hk => ?_, d4⟩
  · rw [d3]; show xL g5 = _; rw [b3, L4, a3, l2]
  · rw [w6 113 k (by omega) (by omega) (by omega) (by omega), a2.2 113 k (by unfold dLo; omega), e2 k (by omega)]
  · rw [w6 113 34 (by omega) (by omega) (by omega) (by omega)]; exact a4
  · rw [w6 134 _ (by omega) (by omega) (by omega) (by omega)]; exact a5 i hi t ht
  · rw [w5 113 44 (by omega) (by omega) (by omega)]; exact z4 44 (by omega)
  · rw [w5 113 46 (by omega) (by omega) (by omega)]; exact z4 46 (by omega)
  · rw [w5 113 47 (by omega) (by omega) (by omega)]; exact z4 47 (by omega)
  · rw [d2.2 113 54 (by omega), yI_wi, if_pos ⟨rfl, rfl⟩]
  · rw [d2.2 143 k (by omega), yI_wi, if_neg (by omega), b4 k hk, y4.2 120 _ (by omega), a2.2 120 _ (by unfold dLo; omega)]
end SD
