/-! STREET: the clerk's row completed, on both sides -/
section CK
variable {gC gR gC' gR' g g' g1 : xSt} {t b n r p k m o i q f pl β w : Nat} {bt : Nat → Nat} {v a : Int32}
def dFu (t o k : Nat) : Prop := (o = t ∧ k = 6) ∨ o = t + 3
def dLk (b o k : Nat) : Prop := (o = 118 ∧ k = b) ∨ (o = 119 ∧ 5 * b ≤ k ∧ k < 5 * b + 5)
theorem yAg.pt {D : Nat → Nat → Prop} (h : yAg D g g') (hD : ∀ k, D o k) : yAg D g (xput g' o n a v) := by
  unfold xput
  split
  · exact h
  · exact h.wi (hD _)
theorem xL_pt : xL (xput g o n a v) = xL g := by
  unfold xput
  split <;> rfl
theorem c_bitsAny : ∃ x, E_X10_rowBits t g = some x := by
  have key : ∀ x, ∃ e, xlim (S_X10_rowBits_4 t g) (x, 0) = some e := by
    by_cases d : xI g t 6 < 0
    · intro x
      refine ⟨x, xlim_end ?_⟩
      unfold S_X10_rowBits_4
      exact if_pos (Int32.le_of_lt d)
    · obtain ⟨w, hw, e⟩ := nI_of d
      have go : ∀ n i x, n + i = w → ∃ e, xlim (S_X10_rowBits_4 t g) (x, nI i) = some e := by
        intro n
        induction n with
        | zero =>
          intro i x hi
          refine ⟨x, xlim_end ?_⟩
          unfold S_X10_rowBits_4
          show (if xI g t 6 ≤ nI i then _ else _) = _
          rw [e, if_pos (nI_le (by omega) (by omega))]
        | succ n ih =>
          intro i x hi
          obtain ⟨y, hy⟩ := ih (i + 1) (x ||| (1 <<< ((xat (xI g (t + 3)) 5 (nI i)) &&& 31))) (by omega)
          refine ⟨y, ?_⟩
          rw [xlim_go (t := (x ||| (1 <<< ((xat (xI g (t + 3)) 5 (nI i)) &&& 31)), nI (i + 1))) ?_]
          · exact hy
          · unfold S_X10_rowBits_4
            show (if xI g t 6 ≤ nI i then _ else some (Sum.inl (x ||| (1 <<< ((xat (xI g (t + 3)) 5 (nI i)) &&& 31)), nI i + 1))) = _
            rw [e, if_neg (nI_ge (by omega) (by omega)), nI_1]
      intro x
      exact go w 0 x (by omega)
  obtain ⟨x, hx⟩ := key 0
  exact ⟨x, by unfold E_X10_rowBits; rw [hx, xb1_some]⟩
/-- whatever the table holds -/
theorem c_fullAny : ∃ g', E_X10_completeRow t g = some g' ∧ yAg (dFu t) g g' ∧ xL g' = xL g := by
  obtain ⟨x, hx⟩ := c_bitsAny (g := g) (t := t)
  have key : ∃ g', xlim (S_X10_completeRow_7 t x) (0, g) = some g' ∧ yAg (dFu t) g g' ∧ xL g' = xL g := by
    by_cases d : xI g t 0 < 0
    · refine ⟨g, xlim_end ?_, yAg.refl _ _, rfl⟩
      unfold S_X10_completeRow_7
      exact if_pos (Int32.le_of_lt d)
    · obtain ⟨w, hw, e⟩ := nI_of d
      have go : ∀ n i g1, n + i = w → yAg (dFu t) g g1 → xL g1 = xL g → ∃ g', xlim (S_X10_completeRow_7 t x) (nI i, g1) = some g' ∧ yAg (dFu t) g g' ∧ xL g' = xL g := by
        intro n
        induction n with
        | zero =>
          intro i g1 hi y hL
          refine ⟨g1, xlim_end ?_, y, hL⟩
          unfold S_X10_completeRow_7
          show (if xI g1 t 0 ≤ nI i then _ else _) = _
          rw [y.2 t 0 (by unfold dFu; omega), e, if_pos (nI_le (by omega) (by omega))]
        | succ n ih =>
          intro i g1 hi y hL
          by_cases b : xbit x (nI i) = 0
          · obtain ⟨g2, u1, u2, u3⟩ := ih (i + 1) (xWI (xput g1 (t + 3) 5 (xI g1 t 6) (nI i)) t 6 ((xI (xput g1 (t + 3) 5 (xI g1 t 6) (nI i)) t 6) + 1)) (by omega) ((y.pt fun k => Or.inr rfl).wi (Or.inl ⟨rfl, rfl⟩)) ((show xL (xWI (xput g1 (t + 3) 5 (xI g1 t 6) (nI i)) t 6 ((xI (xput g1 (t + 3) 5 (xI g1 t 6) (nI i)) t 6) + 1)) = xL (xput g1 (t + 3) 5 (xI g1 t 6) (nI i)) from rfl).trans (xL_pt.trans hL))
            refine ⟨g2, ?_, u2, u3⟩
            rw [← u1]
            refine xlim_go ?_
            unfold S_X10_completeRow_7
            show (if xI g1 t 0 ≤ nI i then _ else if xbit x (nI i) = 0 then (xb1 (E_X10_addToRow t (nI i) g1) fun g25_3 => some (Sum.inl (nI i + 1, g25_3))) else _) = _
            rw [y.2 t 0 (by unfold dFu; omega), e, if_neg (nI_ge (by omega) (by omega)), if_pos b, nI_1]
            rfl
          · obtain ⟨g2, u1, u2, u3⟩ := ih (i + 1) g1 (by omega) y hL
            refine ⟨g2, ?_, u2, u3⟩
            rw [← u1]
            refine xlim_go ?_
            unfold S_X10_completeRow_7
            show (if xI g1 t 0 ≤ nI i then _ else if xbit x (nI i) = 0 then _ else some (Sum.inl (nI i + 1, g1))) = _
            rw [y.2 t 0 (by unfold dFu; omega), e, if_neg (nI_ge (by omega) (by omega)), if_neg b, nI_1]
      exact go w 0 g (by omega) (yAg.refl _ _) rfl
  obtain ⟨g', h1, h2, h3⟩ := key
  exact ⟨g', by unfold E_X10_completeRow; rw [hx, xb1_some, h1, xb1_some], h2, h3⟩
theorem j_clerkGo (hb : b ≤ 1) {M : Nat} (hM : M < 32) (h0C : xI gC t 0 = nI n) (hn : n ≤ 5) (h0R : xI gR 116 b = nI n) (h30 : xI gR 113 30 = nI b) (h31 : xI gR 113 31 = nI b) : ∀ w i r gC1 gR1, w + i = n → yAg (dFu t) gC gC1 → xL gC1 = xL gC → yAg (dLk b) gR gR1 → xL gR1 = xL gR → zVr gC1 gR1 t b n r → (∀ v, v < n → ((∃ j, j < r ∧ xI gC1 (t + 3) j = nI v) ↔ (M.testBit v = true ∨ v < i))) → ∃ gC' gR', xlim (S_X10_completeRow_7 t (nI M)) (nI i, gC1) = some gC' ∧ xlim S_X12_layClerk_2 (nI i, gR1) = some gR' ∧ yAg (dFu t) gC gC' ∧ xL gC' = xL gC ∧ yAg (dLk b) gR gR' ∧ xL gR' = xL gR ∧ zVr gC' gR' t b n n := by
  intro w
  induction w with
  | zero =>
    intro i r gC1 gR1 hi yC lC yR lR V S
    have ei : i = n := by omega
    subst ei
    have rn : r = i := by
      rcases Nat.lt_or_ge r i with c | c
      · have S' : ∀ v, v < i → ∃ j, j < r ∧ xI gC1 (t + 3) j = nI v := fun v hv => (S v hv).mpr (Or.inr hv)
        refine (yNoInj (i - 1) (fun v => if h : v < i then (S' v h).choose else 0) (fun v hv => ?_) (fun v u hv hu z => ?_)).elim
        · have h : v < i := by omega
          show (if h : v < i then (S' v h).choose else 0) < i - 1
          rw [dif_pos h]
          have := (S' v h).choose_spec.1
          omega
        · have h1 : v < i := by omega
          have h2 : u < i := by omega
          have z : (if h : v < i then (S' v h).choose else 0) = if h : u < i then (S' u h).choose else 0 := z
          rw [dif_pos h1, dif_pos h2] at z
          have e1 := (S' v h1).choose_spec.2
          rw [z, (S' u h2).choose_spec.2] at e1
          exact ((nI_eq (by omega) (by omega)).mp e1).symm
      · have := V.1; omega
    rw [rn] at V
    refine ⟨gC1, gR1, xlim_end ?_, xlim_end ?_, yC, lC, yR, lR, V⟩
    · unfold S_X10_completeRow_7
      show (if xI gC1 t 0 ≤ nI i then _ else _) = _
      rw [yC.2 t 0 (by unfold dFu; omega), h0C, if_pos (nI_le (Nat.le_refl _) (by omega))]
    · unfold S_X12_layClerk_2
      show xck 2 (xI gR1 113 30) (if xI gR1 116 (xI gR1 113 30).toNatClampNeg ≤ nI i then _ else _) = _
      rw [yR.2 113 30 (by unfold dLk; omega), h30, xck_nI (by omega) (by decide), nI_clamp (by omega), yR.2 116 b (by unfold dLk; omega), h0R, if_pos (nI_le (Nat.le_refl _) (by omega))]
  | succ w ih =>
    intro i r gC1 gR1 hi yC lC yR lR V S
    obtain ⟨R, hR⟩ := V.fn hn
    have rn := V.1
    have i5 : i < 5 := by omega
    have bC := xbit_tb M hM i i5
    have e31 : xI gR1 113 31 = nI b := by rw [yR.2 113 31 (by unfold dLk; omega)]; exact h31
    have bR := r_isInRow (R := R) i5 hb e31 (by omega) V.2.2.1 (fun j hj => ⟨by have := (hR j hj).1; omega, (hR j hj).2.2⟩)
    rw [xbit_tb _ (zRwb_lt r fun j hj => by have := (hR j hj).1; omega) i i5] at bR
    have same : (zRwb R r).testBit i = true ↔ M.testBit i = true := by
      rw [zRwb_bit]
      refine Iff.trans ?_ ((S i (by omega)).trans ⟨fun z => z.resolve_right (by omega), Or.inl⟩)
      constructor
      · rintro ⟨j, h1, h2⟩; exact ⟨j, h1, by rw [(hR j h1).2.1, h2]⟩
      · rintro ⟨j, h1, h2⟩; exact ⟨j, h1, (nI_eq (by have := (hR j h1).1; omega) (by omega)).mp ((hR j h1).2.1.symm.trans h2)⟩
    have c0 : ¬ xI gC1 t 0 ≤ nI i := by rw [yC.2 t 0 (by unfold dFu; omega), h0C]; exact nI_ge (by omega) (by omega)
    have e30 : xI gR1 113 30 = nI b := by rw [yR.2 113 30 (by unfold dLk; omega)]; exact h30
    have e116 : xI gR1 116 b = nI n := by rw [yR.2 116 b (by unfold dLk; omega)]; exact h0R
    have e118 := V.2.2.1
    have e6 := V.2.1
    by_cases d : M.testBit i = true
    · obtain ⟨gC', gR', u1, u2, u3⟩ := ih (i + 1) r gC1 gR1 (by omega) yC lC yR lR V (fun v hv => (S v hv).trans ⟨fun z => z.imp id fun z => by omega, fun z => z.elim Or.inl fun z => by
        by_cases e : v = i
        · rw [e]; exact Or.inl d
        · exact Or.inr (by omega)⟩)
      refine ⟨gC', gR', ?_, ?_, u3⟩
      · rw [← u1]
        refine xlim_go ?_
        unfold S_X10_completeRow_7
        show (if xI gC1 t 0 ≤ nI i then _ else if xbit (nI M) (nI i) = 0 then _ else some (Sum.inl (nI i + 1, gC1))) = _
        rw [if_neg c0, bC, if_pos d, if_neg (by decide), nI_1]
      · rw [← u2]
        refine xlim_go ?_
        unfold S_X12_layClerk_2
        show xck 2 (xI gR1 113 30) (if xI gR1 116 (xI gR1 113 30).toNatClampNeg ≤ nI i then _ else xb1 (E_X12_isInRow (nI i) gR1) fun r17_3 => if r17_3 = 0 then _ else some (Sum.inl (nI i + 1, gR1))) = _
        rw [e30, xck_nI (by omega) (by decide), nI_clamp (by omega), e116, if_neg (nI_ge (by omega) (by omega)), bR, xb1_some, if_pos (same.mpr d), if_neg (by decide), nI_1]
    · have nv : ∀ j, j < r → R j ≠ i := fun j hj z => d (same.mp ((zRwb_bit r).mpr ⟨j, hj, z⟩))
      have cN : ∀ j, xI (xWI (xWI gC1 (t + 3) r (nI i)) t 6 (nI (r + 1))) (t + 3) j = if j = r then nI i else xI gC1 (t + 3) j := fun j => by
        rw [yI_wi, if_neg (by omega), yI_wi]
        by_cases z : j = r
        · rw [if_pos ⟨rfl, z⟩, if_pos z]
        · rw [if_neg (fun x => z x.2), if_neg z]
      have rN : ∀ j, xI (xWI (xWI gR1 119 (5 * b + r) (nI i)) 118 b (nI (r + 1))) 119 (5 * b + j) = if j = r then nI i else xI gR1 119 (5 * b + j) := fun j => by
        rw [yI_wi, if_neg (by omega), yI_wi]
        by_cases z : j = r
        · rw [if_pos ⟨rfl, by omega⟩, if_pos z]
        · rw [if_neg (by omega), if_neg z]
      obtain ⟨le, V2⟩ := V.add (v := i) (gC' := xWI (xWI gC1 (t + 3) r (nI i)) t 6 (nI (r + 1))) (gR' := xWI (xWI gR1 119 (5 * b + r) (nI i)) 118 b (nI (r + 1))) hn hR (by omega) nv (by rw [yI_wi, if_pos ⟨rfl, rfl⟩]) (by rw [yI_wi, if_pos ⟨rfl, rfl⟩]) (fun j hj => by rw [cN, if_neg (by omega)]) (by rw [cN, if_pos rfl]) (fun j hj => by rw [rN, if_neg (by omega)]) (by rw [rN, if_pos rfl])
      obtain ⟨gC', gR', u1, u2, u3⟩ := ih (i + 1) (r + 1) _ _ (by omega) ((yC.wi (Or.inr rfl)).wi (Or.inl ⟨rfl, rfl⟩)) lC ((yR.wi (Or.inr ⟨rfl, by omega, by omega⟩)).wi (Or.inl ⟨rfl, rfl⟩)) lR V2 (fun v hv => by
        constructor
        · rintro ⟨j, h1, h2⟩
          rw [cN] at h2
          by_cases z : j = r
          · rw [if_pos z] at h2
            have := (nI_eq (by omega) (by omega)).mp h2
            exact Or.inr (by omega)
          · rw [if_neg z] at h2
            exact ((S v hv).mp ⟨j, by omega, h2⟩).imp id fun z => by omega
        · intro h
          by_cases e : v = i
          · exact ⟨r, by omega, by rw [cN, if_pos rfl, e]⟩
          · obtain ⟨j, h1, h2⟩ := (S v hv).mpr (h.imp id fun z => by omega)
            exact ⟨j, by omega, by rw [cN, if_neg (by omega)]; exact h2⟩)
      refine ⟨gC', gR', ?_, ?_, u3⟩
      · rw [← u1]
        refine xlim_go ?_
        unfold S_X10_completeRow_7
        show (if xI gC1 t 0 ≤ nI i then _ else if xbit (nI M) (nI i) = 0 then (xb1 (E_X10_addToRow t (nI i) gC1) fun g25_3 => some (Sum.inl (nI i + 1, g25_3))) else _) = _
        rw [if_neg c0, bC, if_neg d, if_pos rfl]
        unfold E_X10_addToRow
        simp only []
        rw [e6, xput_nI (by omega) (by decide), yI_wi, if_neg (by omega), e6, xb1_some, nI_1, nI_1]
      · rw [← u2]
        refine xlim_go ?_
        unfold S_X12_layClerk_2
        show xck 2 (xI gR1 113 30) (if xI gR1 116 (xI gR1 113 30).toNatClampNeg ≤ nI i then _ else xb1 (E_X12_isInRow (nI i) gR1) fun r17_3 => if r17_3 = 0 then (xck 2 (xI gR1 113 30) (xck 10 ((5 * (xI gR1 113 30)) + (xI gR1 118 (xI gR1 113 30).toNatClampNeg)) (xck 2 (xI gR1 113 30) (xck 2 (xI gR1 113 30) (some (Sum.inl (nI i + 1, xWI (xWI gR1 119 ((5 * (xI gR1 113 30)) + (xI gR1 118 (xI gR1 113 30).toNatClampNeg)).toNatClampNeg (nI i)) 118 (xI gR1 113 30).toNatClampNeg ((xI gR1 118 (xI gR1 113 30).toNatClampNeg) + 1)))))))) else _) = _
        rw [e30, xck_nI (by omega) (by decide), nI_clamp (by omega), e116, if_neg (nI_ge (by omega) (by omega)), bR, xb1_some, if_neg (fun z => d (same.mp z)), if_pos rfl, e118, show (5 : Int32) = nI 5 from rfl, nI_b5, xck_nI (by omega) (by decide), xck_nI (by omega) (by decide), xck_nI (by omega) (by decide), xck_nI (by omega) (by decide), nI_clamp (by omega), nI_1, nI_1]
theorem j_clerk (hb : b ≤ 1) (T : zTbl gC gR t b n r p k) (h30 : xI gR 113 30 = nI b) (h31 : xI gR 113 31 = nI b) : ∃ gC' gR', E_X10_completeRow t gC = some gC' ∧ E_X12_layClerk gR = some gR' ∧ yAg (dFu t) gC gC' ∧ xL gC' = xL gC ∧ yAg (dLk b) gR gR' ∧ xL gR' = xL gR ∧ zVr gC' gR' t b n n := by
  obtain ⟨Tn, -, Tr, -⟩ := T
  obtain ⟨R, hR⟩ := Tr.fn Tn.1
  have rn := Tr.1
  have n5 := Tn.1
  have bits := c_rowBits (R := R) (g := gC) (t := t) (r := r) (by omega) Tr.2.1 (fun i hi => ⟨by have := (hR i hi).1; omega, (hR i hi).2.1⟩)
  obtain ⟨gC', gR', u1, u2, u3⟩ := j_clerkGo (gC := gC) (gR := gR) hb (zRwb_lt (R := R) r fun j hj => by have := (hR j hj).1; omega) Tn.2.1 n5 Tn.2.2.1 h30 h31 n 0 r gC gR (by omega) (yAg.refl _ _) rfl (yAg.refl _ _) rfl Tr (fun v hv => by
    rw [zRwb_bit]
    constructor
    · rintro ⟨j, h1, h2⟩
      exact Or.inl ⟨j, h1, (nI_eq (by have := (hR j h1).1; omega) (by omega)).mp ((hR j h1).2.1.symm.trans h2)⟩
    · intro h
      obtain ⟨j, h1, h2⟩ := h.resolve_right (by omega)
      exact ⟨j, h1, by rw [(hR j h1).2.1, h2]⟩)
  refine ⟨gC', gR', ?_, ?_, u3⟩
  · unfold E_X10_completeRow
    rw [bits, xb1_some, show ((0 : Int32), gC) = (nI 0, gC) from rfl, u1, xb1_some]
  · unfold E_X12_layClerk
    rw [show ((0 : Int32), gR) = (nI 0, gR) from rfl, u2, xb1_some]
end CK
