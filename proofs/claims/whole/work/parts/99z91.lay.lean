/-! STREET: the reference's orders laid -/
section LY2
variable {g g' g1 : xSt} {t n w m i k o c q β : Nat} {v : Nat}
def dLo (o k : Nat) : Prop := o = 134 ∨ o = 135 ∨ (o = 113 ∧ k = 34)
theorem r_digits5 (a : Int32) (s : Int32) (hn : n ≤ 5) (hi : i < 10000) : ∃ g', xlim (S_X12_layOrders_44 a s) (nI i, nI n - 1, g) = some g' ∧ yAg (fun o _ => o = 135) g g' ∧ xL g' = xL g ∧ ∀ t, t < n → xI g' 135 t = nI (zDt2 5 n i t) := by
  have key : ∀ m j g1, m + j = n → yAg (fun o _ => o = 135) g g1 → xL g1 = xL g → (∀ t, n - j ≤ t → t < n → xI g1 135 t = nI (zDt2 5 n i t)) → ∃ g', xlim (S_X12_layOrders_44 a s) (nI (i / 5 ^ j), nI (n - j) - 1, g1) = some g' ∧ yAg (fun o _ => o = 135) g g' ∧ xL g' = xL g ∧ ∀ t, t < n → xI g' 135 t = nI (zDt2 5 n i t) := by
    intro m
    induction m with
    | zero =>
      intro j g1 hj y hL h
      have e : j = n := by omega
      subst e
      rw [Nat.sub_self] at h ⊢
      exact ⟨g1, xlim_end (if_pos (show nI 0 - 1 < (0 : Int32) by decide)), y, hL, fun t ht => h t (Nat.zero_le _) ht⟩
    | succ m ih =>
      intro j g1 hj y hL h
      have ev : n - j = (n - 1 - j) + 1 := by omega
      have hvj : i / 5 ^ j ≤ i := Nat.div_le_self _ _
      have dt : zDt2 5 n i (n - 1 - j) = i / 5 ^ j % 5 := by
        unfold zDt2
        rw [show n - 1 - (n - 1 - j) = j by omega]
      have e5 : nI (i / 5 ^ j) - nI (i / 5 ^ j / 5) * nI 5 = nI (i / 5 ^ j % 5) := by
        have := pk_rem (show i / 5 ^ j < 2 ^ 31 by omega) (show 0 < 5 by decide) (show 5 < 2 ^ 31 by decide)
        rw [pk_div (show i / 5 ^ j < 2 ^ 31 by omega) (show 0 < 5 by decide) (show 5 < 2 ^ 31 by decide)] at this
        exact this
      have st : S_X12_layOrders_44 a s (nI (i / 5 ^ j), nI (n - j) - 1, g1) = some (.inl (nI (i / 5 ^ (j + 1)), nI (n - (j + 1)) - 1, xWI g1 135 (n - 1 - j) (nI (zDt2 5 n i (n - 1 - j))))) := by
        unfold S_X12_layOrders_44
        rw [ev, nI_pred]
        show (if nI (n - 1 - j) < 0 then _ else xck 5 (nI (n - 1 - j)) (some (Sum.inl (nI (i / 5 ^ j) / nI 5, nI (n - 1 - j) + (-1), xWI g1 135 (nI (n - 1 - j)).toNatClampNeg (nI (i / 5 ^ j) - nI (i / 5 ^ j) / nI 5 * nI 5))))) = _
        rw [if_neg (nI_pos (n := n - 1 - j) (by omega)), xck_nI (by omega) (by decide), nI_clamp (by omega), pk_div (show i / 5 ^ j < 2 ^ 31 by omega) (show 0 < 5 by decide) (show 5 < 2 ^ 31 by decide), e5, dt, Nat.div_div_eq_div_mul, ← Nat.pow_succ, ← Int32.sub_eq_add_neg, show n - (j + 1) = n - 1 - j by omega]
      obtain ⟨g', r1, r2⟩ := ih (j + 1) (xWI g1 135 (n - 1 - j) (nI (zDt2 5 n i (n - 1 - j)))) (by omega) (y.wi rfl) hL (fun t h1 h2 => by
        rw [yI_wi]
        by_cases e : t = n - 1 - j
        · rw [if_pos ⟨rfl, e⟩, e]
        · rw [if_neg (fun z => e z.2)]; exact h t (by omega) h2)
      exact ⟨g', (xlim_go st).trans r1, r2⟩
  obtain ⟨g', r1, r2⟩ := key n 0 g (by omega) (yAg.refl _ _) rfl (fun t h1 h2 => by omega)
  rw [Nat.pow_zero, Nat.div_one, Nat.sub_zero] at r1
  exact ⟨g', r1, r2⟩
theorem r_tm (hβ : β ≤ 1) (h30 : xI g 113 30 = nI β) (h116 : xI g 116 β = nI n) : E_X12_thingMany g = some (nI n) := by
  unfold E_X12_thingMany
  rw [h30, xck_nI (by omega) (by decide), nI_clamp (by omega), h116]
/-- an order copied -/
theorem r_copyOrd (a s : Int32) (hβ : β ≤ 1) (h30 : xI g 113 30 = nI β) (h116 : xI g 116 β = nI n) (hn : n ≤ 5) (h34 : xI g 113 34 = nI k) (hk : k < 541) : ∃ g', xlim (S_X12_layOrders_82 a s) (0, g) = some g' ∧ yAg (fun o x => o = 134 ∧ 5 * k ≤ x) g g' ∧ xL g' = xL g ∧ ∀ t, t < n → xI g' 134 (5 * k + t) = xI g 135 t := by
  have key : ∀ m i g1, m + i = n → yAg (fun o x => o = 134 ∧ 5 * k ≤ x) g g1 → xL g1 = xL g → (∀ t, t < i → xI g1 134 (5 * k + t) = xI g 135 t) → ∃ g', xlim (S_X12_layOrders_82 a s) (nI i, g1) = some g' ∧ yAg (fun o x => o = 134 ∧ 5 * k ≤ x) g g' ∧ xL g' = xL g ∧ ∀ t, t < n → xI g' 134 (5 * k + t) = xI g 135 t := by
    intro m
    induction m with
    | zero =>
      intro i g1 hi y hL h
      have e : i = n := by omega
      subst e
      refine ⟨g1, xlim_end ?_, y, hL, h⟩
      unfold S_X12_layOrders_82
      show (xb1 (E_X12_thingMany g1) fun r85_1 => if r85_1 ≤ nI i then _ else _) = _
      rw [r_tm hβ ((y.2 113 30 (by omega)).trans h30) ((y.2 116 β (by omega)).trans h116), xb1_some, if_pos (nI_le (Nat.le_refl _) (by omega))]
    | succ m ih =>
      intro i g1 hi y hL h
      have st : S_X12_layOrders_82 a s (nI i, g1) = some (.inl (nI (i + 1), xWI g1 134 (5 * k + i) (xI g1 135 i))) := by
        unfold S_X12_layOrders_82
        show (xb1 (E_X12_thingMany g1) fun r85_1 => if r85_1 ≤ nI i then _ else xck 5 (nI i) (xck 2705 ((5 * (xI g1 113 34)) + nI i) (some (Sum.inl (nI i + 1, xWI g1 134 ((5 * (xI g1 113 34)) + nI i).toNatClampNeg (xI g1 135 (nI i).toNatClampNeg)))))) = _
        rw [r_tm hβ ((y.2 113 30 (by omega)).trans h30) ((y.2 116 β (by omega)).trans h116), xb1_some, if_neg (nI_ge (by omega) (by omega)), xck_nI (by omega) (by decide), y.2 113 34 (by omega), h34, show (5 : Int32) = nI 5 from rfl, nI_b5, xck_nI (by omega) (by decide), nI_clamp (by omega), nI_clamp (by omega), nI_1]
      rw [xlim_go st]
      refine ih (i + 1) _ (by omega) (y.wi ⟨rfl, by omega⟩) hL fun t ht => ?_
      rw [yI_wi]
      by_cases z : t = i
      · rw [if_pos ⟨rfl, by omega⟩, z, y.2 135 i (by omega)]
      · rw [if_neg (by omega)]; exact h t (by omega)
  exact key n 0 g (by omega) (yAg.refl _ _) rfl (fun t ht => by omega)
/-- the reference's list so far -/
def zOr2 (g : xSt) (n w i : Nat) : Prop := xI g 113 34 = nI (zOL 5 n w i).length ∧ ∀ j, j < (zOL 5 n w i).length → ∀ t, t < n → xI g 134 (5 * j + t) = nI (yDg ((zOL 5 n w i).getD j 0) t)
theorem r_layOrders (hβ : β ≤ 1) (h30 : xI g 113 30 = nI β) (h116 : xI g 116 β = nI n) (h121 : xI g 121 β = nI w) (hn : n ≤ 5) (hw : w ≤ 1) : ∃ g', E_X12_layOrders g = some g' ∧ yAg dLo g g' ∧ xL g' = xL g ∧ xI g' 113 34 = nI (yN n w) ∧ ∀ i, i < yN n w → ∀ t, t < n → xI g' 134 (5 * i + t) = nI (yDg (yOr n w i) t) := by
  have p5 : ∀ n, n < 6 → 5 ^ n ≤ 3125 := by decide
  have n5 := p5 n (by omega)
  have len := (yO_len n (by omega) w (by omega)).2
  have b5 : zOL 5 n w (5 ^ n) = yO n w := yO_5 n (by omega) w (by omega)
  have first := xlim_of (step := S_X12_layOrders_9) (fun i => (nI (5 ^ i), nI i, xWI g 113 34 0)) n (e := (nI (5 ^ n), xWI g 113 34 0)) (fun i hi => by
    unfold S_X12_layOrders_9
    show (xb1 (E_X12_thingMany (xWI g 113 34 0)) fun r11_1 => if r11_1 ≤ nI i then _ else some (Sum.inl (nI (5 ^ i) * nI 5, nI i + 1, xWI g 113 34 0))) = _
    rw [r_tm (g := xWI g 113 34 0) hβ (by rw [yI_wi, if_neg (by omega)]; exact h30) (by rw [yI_wi, if_neg (by omega)]; exact h116), xb1_some, if_neg (nI_ge hi (by omega)), nI_mul, nI_1, ← Nat.pow_succ]) (by
    unfold S_X12_layOrders_9
    show (xb1 (E_X12_thingMany (xWI g 113 34 0)) fun r11_1 => if r11_1 ≤ nI n then _ else _) = _
    rw [r_tm (g := xWI g 113 34 0) hβ (by rw [yI_wi, if_neg (by omega)]; exact h30) (by rw [yI_wi, if_neg (by omega)]; exact h116), xb1_some, if_pos (nI_le (Nat.le_refl _) (by omega))])
  have main : ∀ m i g1, m + i = 5 ^ n → yAg dLo g g1 → xL g1 = xL g → zOr2 g1 n w i → ∃ g', xlim (S_X12_layOrders_29 (nI (5 ^ n))) (nI i, g1) = some g' ∧ yAg dLo g g' ∧ xL g' = xL g ∧ zOr2 g' n w (5 ^ n) := by
    intro m
    induction m with
    | zero =>
      intro i g1 hi y hL Z
      have e : i = 5 ^ n := by omega
      rw [e] at Z ⊢
      refine ⟨g1, xlim_end ?_, y, hL, Z⟩
      unfold S_X12_layOrders_29
      exact if_pos (nI_le (Nat.le_refl _) (by omega))
    | succ m ih =>
      intro i g1 hi y hL Z
      have pd : ∀ t, t < n → yDg (yPk 5 n i) t = zDt2 5 n i t := yPk_at (by decide) (Or.inl (by decide))
      have q30 : xI g1 113 30 = nI β := (y.2 113 30 (by unfold dLo; omega)).trans h30
      have q116 : xI g1 116 β = nI n := (y.2 116 β (by unfold dLo; omega)).trans h116
      have q121 : xI g1 121 β = nI w := (y.2 121 β (by unfold dLo; omega)).trans h121
      obtain ⟨g2, u1, u2, u3, u4⟩ := r_digits5 (g := g1) (i := i) (nI (5 ^ n)) (nI i) hn (by omega)
      have io := r_isOrder (g := g2) (w := w) (v := yPk 5 n i) hβ ((u2.2 113 30 (by omega)).trans q30) ((u2.2 116 β (by omega)).trans q116) ((u2.2 121 β (by omega)).trans q121) hn hw (fun t ht => ⟨by rw [pd t ht]; exact u4 t ht, by rw [pd t ht]; have := zDt2_lt (i := i) (Nat.le_refl 5) (Or.inl (by decide)) ht; omega⟩)
      have le : (zOL 5 n w (i + 1)).length ≤ yN n w := by
        have := zOL_mono (c := 5) (n := n) (w := w) (i := i + 1) m
        rw [show i + 1 + m = 5 ^ n by omega, b5] at this
        exact this
      by_cases d : yIsO n w (yPk 5 n i) = true
      · rw [if_pos d] at io
        have su : zOL 5 n w (i + 1) = zOL 5 n w i ++ [yPk 5 n i] := by rw [zOL_succ, if_pos d]
        rw [su, List.length_append, List.length_singleton] at le
        have e34 : xI g2 113 34 = nI (zOL 5 n w i).length := (u2.2 113 34 (by omega)).trans Z.1
        obtain ⟨g3, v1, v2, v3, v4⟩ := r_copyOrd (g := g2) (nI (5 ^ n)) (nI i) hβ ((u2.2 113 30 (by omega)).trans q30) ((u2.2 116 β (by omega)).trans q116) hn e34 (by omega)
        have s1 : S_X12_layOrders_29 (nI (5 ^ n)) (nI i, g1) = some (.inl (nI (i + 1), xWI g3 113 34 (nI ((zOL 5 n w i).length + 1)))) := by
          unfold S_X12_layOrders_29
          show (if nI (5 ^ n) ≤ nI i then _ else xb1 (E_X12_thingMany g1) fun r37_2 => xb1 (xlim (S_X12_layOrders_44 (nI (5 ^ n)) (nI i)) (nI i, r37_2 - 1, g1)) fun e_3 => xb1 (E_X12_isOrder e_3) fun r70_4 => if r70_4 = 0 then _ else xb1 (xlim (S_X12_layOrders_82 (nI (5 ^ n)) (nI i)) (0, e_3)) fun e_6 => some (Sum.inl (nI i + 1, xWI e_6 113 34 ((xI e_6 113 34) + 1)))) = _
          rw [if_neg (nI_ge (by omega) (by omega)), r_tm hβ q30 q116, xb1_some, u1, xb1_some, io, xb1_some, if_neg (by decide), v1, xb1_some, v2.2 113 34 (by omega), e34, nI_1, nI_1]
        rw [xlim_go s1]
        refine ih (i + 1) _ (by omega) (((y.tr (u2.up fun o k z => by unfold dLo; omega)).tr (v2.up fun o k z => by unfold dLo; omega)).wi (by unfold dLo; omega)) (v3.trans (u3.trans hL)) ⟨?_, fun j hj t ht => ?_⟩
        · rw [yI_wi, if_pos ⟨rfl, rfl⟩, su, List.length_append, List.length_singleton]
        · rw [su, List.length_append, List.length_singleton] at hj
          rw [yI_wi, if_neg (by omega), su]
          by_cases z : j = (zOL 5 n w i).length
          · rw [z, zGd2, v4 t ht, u4 t ht, pd t ht]
          · rw [zGd1 (by omega), v2.2 134 _ (by omega), u2.2 134 _ (by omega)]
            exact Z.2 j (by omega) t ht
      · rw [if_neg d] at io
        have su : zOL 5 n w (i + 1) = zOL 5 n w i := by rw [zOL_succ, if_neg d, List.append_nil]
        have s1 : S_X12_layOrders_29 (nI (5 ^ n)) (nI i, g1) = some (.inl (nI (i + 1), g2)) := by
          unfold S_X12_layOrders_29
          show (if nI (5 ^ n) ≤ nI i then _ else xb1 (E_X12_thingMany g1) fun r37_2 => xb1 (xlim (S_X12_layOrders_44 (nI (5 ^ n)) (nI i)) (nI i, r37_2 - 1, g1)) fun e_3 => xb1 (E_X12_isOrder e_3) fun r70_4 => if r70_4 = 0 then some (Sum.inl (nI i + 1, e_3)) else _) = _
          rw [if_neg (nI_ge (by omega) (by omega)), r_tm hβ q30 q116, xb1_some, u1, xb1_some, io, xb1_some, if_pos rfl, nI_1]
        rw [xlim_go s1]
        refine ih (i + 1) g2 (by omega) (y.tr (u2.up fun o k z => by unfold dLo; omega)) (u3.trans hL) ?_
        unfold zOr2
        rw [su]
        exact ⟨(u2.2 113 34 (by omega)).trans Z.1, fun j hj t ht => (u2.2 134 _ (by omega)).trans (Z.2 j hj t ht)⟩
  obtain ⟨gB, c1, c2, c3, c4, c5⟩ := main (5 ^ n) 0 (xWI g 113 34 0) (by omega) ((yAg.refl _ _).wi (by unfold dLo; omega)) rfl ⟨by rw [yI_wi, if_pos ⟨rfl, rfl⟩]; rfl, fun j hj => absurd hj (Nat.not_lt_zero j)⟩
  rw [b5] at c4 c5
  refine ⟨gB, ?_, c2, c3, c4, c5⟩
  unfold E_X12_layOrders
  have first : xlim S_X12_layOrders_9 (1, 0, xWI g 113 34 0) = some (nI (5 ^ n), xWI g 113 34 0) := first
  rw [first, xb1_some]
  show (xb1 (xlim (S_X12_layOrders_29 (nI (5 ^ n))) (nI 0, xWI g 113 34 0)) fun e_2 => some e_2) = _
  rw [c1, xb1_some]
end LY2
