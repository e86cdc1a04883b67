/-! STREET: the orders laid anew, on both sides -/
section RF
variable {g g' g1 : xSt} {t n w m i k o c q β : Nat} {D : Nat → Nat} {v : Nat}
theorem zDt2_same {P : Nat} (h : ¬ P ∣ i + 1) : (i + 1) / P = i / P := Nat.succ_div_of_not_dvd h
/-- the class's tuple goes on -/
theorem c_step (h0 : xI g 69 0 = nI n) (hn : n ≤ 5) (hd : ∀ t, t < n → xI g 75 t = nI (zDt2 n n i t)) : ∃ g', E_X5_stepDigits g = some g' ∧ yAg (fun o _ => o = 75) g g' ∧ xL g' = xL g ∧ ∀ t, t < n → xI g' 75 t = nI (zDt2 n n (i + 1) t) := by
  have stop : ∀ (e : Nat) (g1 : xSt), S_X5_stepDigits_9 (0, nI e - 1, g1) = some (.inr g1) := fun e g1 => by
    unfold S_X5_stepDigits_9
    show (if nI e - 1 < 0 then some (Sum.inr g1) else if (0 : Int32) = 0 then some (Sum.inr g1) else _) = _
    by_cases d : nI e - 1 < 0
    · rw [if_pos d]
    · rw [if_neg d, if_pos rfl]
  have key : ∀ e g1, e ≤ n → yAg (fun o _ => o = 75) g g1 → xL g1 = xL g → n ^ (n - e) ∣ i + 1 → (∀ t, t < e → xI g1 75 t = nI (zDt2 n n i t)) → (∀ t, e ≤ t → t < n → xI g1 75 t = nI (zDt2 n n (i + 1) t)) → ∃ g', xlim S_X5_stepDigits_9 (1, nI e - 1, g1) = some g' ∧ yAg (fun o _ => o = 75) g g' ∧ xL g' = xL g ∧ ∀ t, t < n → xI g' 75 t = nI (zDt2 n n (i + 1) t) := by
    intro e
    induction e with
    | zero =>
      intro g1 he y hL dv h1 h2
      refine ⟨g1, xlim_end ?_, y, hL, fun t ht => h2 t (Nat.zero_le _) ht⟩
      unfold S_X5_stepDigits_9
      exact if_pos (show nI 0 - 1 < (0 : Int32) by decide)
    | succ e ih =>
      intro g1 he y hL dv h1 h2
      have n0 : 0 < n := by omega
      have P0 : 0 < n ^ (n - 1 - e) := Nat.pow_pos n0
      rw [show n - (e + 1) = n - 1 - e by omega] at dv
      have sd : (i + 1) / n ^ (n - 1 - e) = i / n ^ (n - 1 - e) + 1 := Nat.succ_div_of_dvd dv
      have old := h1 e (by omega)
      have dl : zDt2 n n i e < n := Nat.mod_lt _ n0
      have qe : i / n ^ (n - 1 - e) = n * (i / n ^ (n - 1 - e) / n) + zDt2 n n i e := (Nat.div_add_mod _ _).symm
      have nw : zDt2 n n (i + 1) e = (n * (i / n ^ (n - 1 - e) / n) + (zDt2 n n i e + 1)) % n := by
        show (i + 1) / n ^ (n - 1 - e) % n = _
        rw [sd]
        generalize zDt2 n n i e = d at qe
        rw [← Nat.add_assoc, ← qe]
      have at75 : xat (xI g1 75) 5 (nI e) = nI (zDt2 n n i e) := by rw [xat_nI (by omega) (by decide), old]
      have g0 : xI g1 69 0 = nI n := by rw [y.2 69 0 (by omega)]; exact h0
      by_cases c : zDt2 n n i e + 1 < n
      · rw [Nat.mul_add_mod, Nat.mod_eq_of_lt c] at nw
        have s1 : S_X5_stepDigits_9 (1, nI (e + 1) - 1, g1) = some (.inl (0, nI e - 1, xWI g1 75 e (nI (zDt2 n n i e + 1)))) := by
          unfold S_X5_stepDigits_9 K_X5_stepDigits_41
          rw [nI_pred]
          show (if nI e < 0 then _ else if (1 : Int32) = 0 then _ else some (Sum.inl ((if (xat (xI g1 75) 5 (nI e)) + 1 < xI g1 69 0 then (0 : Int32) else 1), nI e + (-1), xput g1 75 5 (nI e) (if (if (xat (xI g1 75) 5 (nI e)) + 1 < xI g1 69 0 then (0 : Int32) else 1) = 0 then (xat (xI g1 75) 5 (nI e)) + 1 else 0)))) = _
          rw [if_neg (nI_pos (by omega)), if_neg (by decide), at75, nI_1, g0, if_pos (show nI (zDt2 n n i e + 1) < nI n by rw [nI_ltI (by omega) (by omega)]; exact c), if_pos rfl, xput_nI (by omega) (by decide), ← Int32.sub_eq_add_neg]
        refine ⟨_, (xlim_go s1).trans (xlim_end (stop e _)), y.wi rfl, hL, fun t ht => ?_⟩
        rw [yI_wi]
        by_cases z : t = e
        · rw [if_pos ⟨rfl, z⟩, z, nw]
        · rw [if_neg (fun x => z x.2)]
          rcases Nat.lt_or_ge t e with q | q
          · rw [h1 t (by omega)]
            have nd : ¬ n ^ (n - 1 - t) ∣ i + 1 := fun dv2 => by
              have : n ^ (n - 1 - e) * n ∣ i + 1 := Nat.dvd_trans (by
                rw [← Nat.pow_succ]
                exact Nat.pow_dvd_pow n (by omega)) dv2
              obtain ⟨x, hx⟩ := this
              have z1 : zDt2 n n (i + 1) e = 0 := by
                show (i + 1) / n ^ (n - 1 - e) % n = 0
                rw [hx, Nat.mul_assoc, Nat.mul_div_cancel_left _ P0, Nat.mul_mod_right]
              omega
            show nI (i / n ^ (n - 1 - t) % n) = nI ((i + 1) / n ^ (n - 1 - t) % n)
            rw [zDt2_same nd]
          · exact h2 t (by omega) ht
      · have ce : zDt2 n n i e + 1 = n := by omega
        rw [ce, Nat.mul_add_mod, Nat.mod_self] at nw
        have s1 : S_X5_stepDigits_9 (1, nI (e + 1) - 1, g1) = some (.inl (1, nI e - 1, xWI g1 75 e 0)) := by
          unfold S_X5_stepDigits_9 K_X5_stepDigits_41
          rw [nI_pred]
          show (if nI e < 0 then _ else if (1 : Int32) = 0 then _ else some (Sum.inl ((if (xat (xI g1 75) 5 (nI e)) + 1 < xI g1 69 0 then (0 : Int32) else 1), nI e + (-1), xput g1 75 5 (nI e) (if (if (xat (xI g1 75) 5 (nI e)) + 1 < xI g1 69 0 then (0 : Int32) else 1) = 0 then (xat (xI g1 75) 5 (nI e)) + 1 else 0)))) = _
          rw [if_neg (nI_pos (by omega)), if_neg (by decide), at75, nI_1, g0, if_neg (show ¬ nI (zDt2 n n i e + 1) < nI n by rw [nI_ltI (by omega) (by omega)]; exact c), if_neg (by decide), xput_nI (by omega) (by decide), ← Int32.sub_eq_add_neg]
        have dv3 : n ^ (n - e) ∣ i + 1 := by
          obtain ⟨x, hx⟩ := dv
          have e1 : (i + 1) / n ^ (n - 1 - e) = x := by rw [hx, Nat.mul_div_cancel_left _ P0]
          have e2 : x = n * (i / n ^ (n - 1 - e) / n + 1) := by
            rw [← e1, sd, Nat.mul_add, Nat.mul_one]
            generalize i / n ^ (n - 1 - e) / n = y1 at qe
            generalize n * y1 = y2 at qe
            omega
          exact ⟨i / n ^ (n - 1 - e) / n + 1, by rw [hx, e2, show n - e = n - 1 - e + 1 by omega, Nat.pow_succ, Nat.mul_assoc]⟩
        obtain ⟨g', u1, u2⟩ := ih (xWI g1 75 e 0) (by omega) (y.wi rfl) hL dv3 (fun t ht => by rw [yI_wi, if_neg (by omega)]; exact h1 t (by omega)) (fun t ht1 ht2 => by
          rw [yI_wi]
          by_cases z : t = e
          · rw [if_pos ⟨rfl, z⟩, z, nw]; rfl
          · rw [if_neg (fun x => z x.2)]; exact h2 t (by omega) ht2)
        exact ⟨g', (xlim_go s1).trans u1, u2⟩
  obtain ⟨g', u1, u2⟩ := key n g (Nat.le_refl _) (yAg.refl _ _) rfl (by rw [Nat.sub_self, Nat.pow_zero]; exact Nat.one_dvd _) hd (fun t a b => by omega)
  refine ⟨g', ?_, u2⟩
  unfold E_X5_stepDigits
  rw [h0, u1, xb1_some]
theorem r_shl8 : ∀ d, d < 8 → ∀ i, i < 5 → nI d <<< (nI (3 * i) &&& 31) = nI (d * 8 ^ i) := by decide +kernel
theorem r_or8 {a d i : Nat} (ha : a < 8 ^ i) : a ||| d * 8 ^ i = a + d * 8 ^ i := by
  have e : (8 : Nat) ^ i = 2 ^ (3 * i) := by rw [Nat.pow_mul]
  rw [e] at ha ⊢
  rw [← Nat.shiftLeft_eq, Nat.or_comm, ← Nat.shiftLeft_add_eq_or_of_lt ha, Nat.add_comm]
theorem c_keep (h0 : xI g 69 0 = nI n) (hn : n ≤ 5) (h1 : xI g 69 1 = nI k) (hk : k < 541) (hd : ∀ t, t < n → xI g 75 t = nI (D t) ∧ D t < 8) : E_X5_keepOrder g = some (xWI (xWI (xWI g 70 k (nI (ySum (fun t => D t * 8 ^ t) n))) 71 k (nI (yMf n D))) 69 1 (nI (k + 1))) := by
  have e := xlim_of (step := S_X5_keepOrder_4) (fun i => (nI (ySum (fun t => D t * 8 ^ t) i), nI i, g)) n (e := (nI (ySum (fun t => D t * 8 ^ t) n), g)) (fun i hi => ?_) ?_
  · have e : xlim S_X5_keepOrder_4 (0, 0, g) = some (nI (ySum (fun t => D t * 8 ^ t) n), g) := e
    unfold E_X5_keepOrder
    rw [e, xb1_some]
    show (xb1 (E_X5_markOfDigits (xput g 70 541 (xI g 69 1) (nI (ySum (fun t => D t * 8 ^ t) n)))) fun r54_2 => some (xWI (xput (xput g 70 541 (xI g 69 1) (nI (ySum (fun t => D t * 8 ^ t) n))) 71 541 (xI (xput g 70 541 (xI g 69 1) (nI (ySum (fun t => D t * 8 ^ t) n))) 69 1) r54_2) 69 1 ((xI (xput (xput g 70 541 (xI g 69 1) (nI (ySum (fun t => D t * 8 ^ t) n))) 71 541 (xI (xput g 70 541 (xI g 69 1) (nI (ySum (fun t => D t * 8 ^ t) n))) 69 1) r54_2) 69 1) + 1))) = _
    rw [h1, xput_nI (by omega) (by decide)]
    have mk := r_markOfDigits (g := xWI g 70 k (nI (ySum (fun t => D t * 8 ^ t) n))) (n := n) (d := D) (by rw [yI_wi, if_neg (by omega)]; exact h0) hn (fun t ht => ⟨by rw [yI_wi, if_neg (by omega)]; exact (hd t ht).1, by have := (hd t ht).2; omega⟩)
    rw [mk, xb1_some]
    have e1 : xI (xWI g 70 k (nI (ySum (fun t => D t * 8 ^ t) n))) 69 1 = nI k := by rw [yI_wi, if_neg (by omega)]; exact h1
    rw [e1, xput_nI (by omega) (by decide), yI_wi, if_neg (by omega), e1, nI_1]
  · unfold S_X5_keepOrder_4
    show (if xI g 69 0 ≤ nI i then _ else some (Sum.inl (nI (ySum (fun t => D t * 8 ^ t) i) ||| ((xat (xI g 75) 5 (nI i)) <<< ((3 * nI i) &&& 31)), nI i + 1, g))) = _
    have lt := (yPk_dg D i fun t ht => (hd t (by omega)).2).1
    rw [h0, if_neg (nI_ge hi (by omega)), xat_nI (by omega) (by decide), (hd i hi).1, r_mul3, r_shl8 _ (hd i hi).2 _ (by omega), r_orG, r_or8 lt, nI_1]
    rfl
  · unfold S_X5_keepOrder_4
    show (if xI g 69 0 ≤ nI n then _ else _) = _
    rw [h0, if_pos (nI_le (Nat.le_refl _) (by omega))]
def dRf (o k : Nat) : Prop := (o = 69 ∧ k ≤ 1) ∨ o = 70 ∨ o = 71 ∨ o = 75
theorem nn_le (hn : n ≤ 5) : n ^ n ≤ 3125 := by
  have : ∀ n, n < 6 → n ^ n ≤ 3125 := by decide
  exact this n (by omega)
/-- the class's list so far -/
def zOc (g : xSt) (n w i : Nat) : Prop := xI g 69 1 = nI (zOL n n w i).length ∧ ∀ j, j < (zOL n n w i).length → xI g 70 j = nI ((zOL n n w i).getD j 0) ∧ xI g 71 j = nI (yMk n ((zOL n n w i).getD j 0))
theorem c_refill (ht : t = 2 ∨ t = 11) (h0 : xI g t 0 = nI n) (h3 : xI g t 3 = nI w) (hn : n ≤ 5) (hw : w ≤ 1) : ∃ g', E_X5_refill t g = some g' ∧ yAg dRf g g' ∧ xL g' = xL g ∧ xI g' 69 0 = nI n ∧ xI g' 69 1 = nI (yN n w) ∧ ∀ i, i < yN n w → xI g' 70 i = nI (yOr n w i) ∧ xI g' 71 i = nI (yMk n (yOr n w i)) := by
  have n5 := nn_le hn
  -- the tuple's places all 0
  have first : ∀ m i g1, m + i = n → yAg dRf g g1 → xL g1 = xL g → xI g1 69 0 = nI n → xI g1 69 1 = nI 0 → (∀ t, t < i → xI g1 75 t = nI 0) → ∃ g', xlim (S_X5_refill_17 t) (nI (n ^ i), nI i, g1) = some (nI (n ^ n), g') ∧ yAg dRf g g' ∧ xL g' = xL g ∧ xI g' 69 0 = nI n ∧ xI g' 69 1 = nI 0 ∧ ∀ t, t < n → xI g' 75 t = nI 0 := by
    intro m
    induction m with
    | zero =>
      intro i g1 hi y hL q0 q1 hz
      have e : i = n := by omega
      subst e
      refine ⟨g1, xlim_end ?_, y, hL, q0, q1, hz⟩
      unfold S_X5_refill_17
      show (if xI g1 69 0 ≤ nI i then _ else _) = _
      rw [q0, if_pos (nI_le (Nat.le_refl _) (by omega))]
    | succ m ih =>
      intro i g1 hi y hL q0 q1 hz
      have s1 : S_X5_refill_17 t (nI (n ^ i), nI i, g1) = some (.inl (nI (n ^ (i + 1)), nI (i + 1), xWI g1 75 i 0)) := by
        unfold S_X5_refill_17
        show (if xI g1 69 0 ≤ nI i then _ else some (Sum.inl (nI (n ^ i) * xI g1 69 0, nI i + 1, xput g1 75 5 (nI i) 0))) = _
        rw [q0, if_neg (nI_ge (by omega) (by omega)), nI_mul, xput_nI (by omega) (by decide), nI_1, ← Nat.pow_succ]
      rw [xlim_go s1]
      refine ih (i + 1) _ (by omega) (y.wi (by unfold dRf; omega)) hL (by rw [yI_wi, if_neg (by omega)]; exact q0) (by rw [yI_wi, if_neg (by omega)]; exact q1) fun t ht => ?_
      rw [yI_wi]
      by_cases z : t = i
      · rw [if_pos ⟨rfl, z⟩]; rfl
      · rw [if_neg (fun x => z x.2)]; exact hz t (by omega)
  obtain ⟨gA, a1, a2, a3, a4, a5, a6⟩ := first n 0 (xWI (xWI g 69 0 (nI n)) 69 1 0) (by omega) (((yAg.refl _ _).wi (by unfold dRf; omega)).wi (by unfold dRf; omega)) rfl (by rw [yI_wi, if_neg (by omega), yI_wi, if_pos ⟨rfl, rfl⟩]) (by rw [yI_wi, if_pos ⟨rfl, rfl⟩]; rfl) (fun t ht => by omega)
  have len := (yO_len n (by omega) w (by omega)).2
  have main : ∀ m i g1, m + i = n ^ n → yAg dRf g g1 → xL g1 = xL g → xI g1 69 0 = nI n → (∀ t, t < n → xI g1 75 t = nI (zDt2 n n i t)) → zOc g1 n w i → ∃ g', xlim (S_X5_refill_49 t (nI (n ^ n))) (nI i, g1) = some g' ∧ yAg dRf g g' ∧ xL g' = xL g ∧ xI g' 69 0 = nI n ∧ zOc g' n w (n ^ n) := by
    intro m
    induction m with
    | zero =>
      intro i g1 hi y hL q0 hd Z
      have e : i = n ^ n := by omega
      rw [e] at Z ⊢
      refine ⟨g1, xlim_end ?_, y, hL, q0, Z⟩
      unfold S_X5_refill_49
      exact if_pos (nI_le (Nat.le_refl _) (by omega))
    | succ m ih =>
      intro i g1 hi y hL q0 hd Z
      have n0 : 0 < n ∨ n = 0 := by omega
      have pd : ∀ t, t < n → yDg (yPk n n i) t = zDt2 n n i t := yPk_at hn n0
      have io := c_isOrder (g := g1) (w := w) (v := yPk n n i) q0 hn hw (fun t ht => ⟨by rw [pd t ht]; exact hd t ht, by rw [pd t ht]; have := zDt2_lt (i := i) hn n0 ht; omega⟩)
      have e3 : xI g1 t 3 = nI w := by rw [y.2 t 3 (by unfold dRf; omega)]; exact h3
      have le : (zOL n n w (i + 1)).length ≤ yN n w := by
        have := zOL_mono (c := n) (n := n) (w := w) (i := i + 1) m
        rw [show i + 1 + m = n ^ n by omega] at this
        exact this
      by_cases d : yIsO n w (yPk n n i) = true
      · rw [if_pos d] at io
        have su : zOL n n w (i + 1) = zOL n n w i ++ [yPk n n i] := by rw [zOL_succ, if_pos d]
        rw [su, List.length_append, List.length_singleton] at le
        have kp := c_keep (g := g1) (D := zDt2 n n i) q0 hn Z.1 (by omega) (fun t ht => ⟨hd t ht, by have := zDt2_lt (i := i) hn n0 ht; omega⟩)
        have q02 : xI (xWI (xWI (xWI g1 70 (zOL n n w i).length (nI (ySum (fun t => zDt2 n n i t * 8 ^ t) n))) 71 (zOL n n w i).length (nI (yMf n (zDt2 n n i)))) 69 1 (nI ((zOL n n w i).length + 1))) 69 0 = nI n := by rw [yI_wi, if_neg (by omega), yI_wi, if_neg (by omega), yI_wi, if_neg (by omega)]; exact q0
        obtain ⟨g2, u1, u2, u3, u4⟩ := c_step (i := i) q02 hn (fun t ht => by rw [yI_wi, if_neg (by omega), yI_wi, if_neg (by omega), yI_wi, if_neg (by omega)]; exact hd t ht)
        have s1 : S_X5_refill_49 t (nI (n ^ n)) (nI i, g1) = some (.inl (nI (i + 1), g2)) := by
          unfold S_X5_refill_49
          show (if nI (n ^ n) ≤ nI i then _ else xb1 (E_X5_isOrder (xI g1 t 3) g1) fun r59_2 => if r59_2 = 0 then _ else xb1 (E_X5_keepOrder g1) fun g66_5 => xb1 (E_X5_stepDigits g66_5) fun g70_6 => some (Sum.inl (nI i + 1, g70_6))) = _
          rw [if_neg (nI_ge (by omega) (by omega)), e3, io, xb1_some, if_neg (by decide), kp, xb1_some, u1, xb1_some, nI_1]
        rw [xlim_go s1]
        have mkE : yMf n (zDt2 n n i) = yMk n (yPk n n i) := by
          unfold yMk yMf
          refine yOf_congr fun a ha => yOf_congr fun b hb => ?_
          show (if a < b then 2 ^ yBit n a b (ySf (zDt2 n n i) a b) else 0) = if a < b then 2 ^ yBit n a b (ySf (yDg (yPk n n i)) a b) else 0
          have : ySf (zDt2 n n i) a b = ySf (yDg (yPk n n i)) a b := by unfold ySf; rw [pd a ha, pd b hb]
          rw [this]
        refine ih (i + 1) g2 (by omega) ((((y.wi (by unfold dRf; omega)).wi (by unfold dRf; omega)).wi (by unfold dRf; omega)).tr (u2.up fun o k z => by unfold dRf; omega)) (u3.trans hL) (by rw [u2.2 69 0 (by omega)]; exact q02) u4 ⟨?_, fun j hj => ?_⟩
        · rw [u2.2 69 1 (by omega), yI_wi, if_pos ⟨rfl, rfl⟩, su, List.length_append, List.length_singleton]
        · rw [su, List.length_append, List.length_singleton] at hj
          have e70 : xI g2 70 j = if j = (zOL n n w i).length then nI (ySum (fun t => zDt2 n n i t * 8 ^ t) n) else xI g1 70 j := by
            rw [u2.2 70 j (by omega), yI_wi, if_neg (by omega), yI_wi, if_neg (by omega), yI_wi]
            by_cases z : j = (zOL n n w i).length
            · rw [if_pos ⟨rfl, z⟩, if_pos z]
            · rw [if_neg (fun x => z x.2), if_neg z]
          have e71 : xI g2 71 j = if j = (zOL n n w i).length then nI (yMf n (zDt2 n n i)) else xI g1 71 j := by
            rw [u2.2 71 j (by omega), yI_wi, if_neg (by omega), yI_wi]
            by_cases z : j = (zOL n n w i).length
            · rw [if_pos ⟨rfl, z⟩, if_pos z]
            · rw [if_neg (fun x => z x.2), if_neg z, yI_wi, if_neg (by omega)]
          rw [e70, e71, su]
          by_cases z : j = (zOL n n w i).length
          · rw [if_pos z, if_pos z, z, zGd2, mkE]
            exact ⟨rfl, rfl⟩
          · rw [if_neg z, if_neg z, zGd1 (by omega)]
            exact Z.2 j (by omega)
      · rw [if_neg d] at io
        have su : zOL n n w (i + 1) = zOL n n w i := by rw [zOL_succ, if_neg d, List.append_nil]
        obtain ⟨g2, u1, u2, u3, u4⟩ := c_step (i := i) q0 hn hd
        have s1 : S_X5_refill_49 t (nI (n ^ n)) (nI i, g1) = some (.inl (nI (i + 1), g2)) := by
          unfold S_X5_refill_49
          show (if nI (n ^ n) ≤ nI i then _ else xb1 (E_X5_isOrder (xI g1 t 3) g1) fun r59_2 => if r59_2 = 0 then (xb1 (E_X5_stepDigits g1) fun g70_4 => some (Sum.inl (nI i + 1, g70_4))) else _) = _
          rw [if_neg (nI_ge (by omega) (by omega)), e3, io, xb1_some, if_pos rfl, u1, xb1_some, nI_1]
        rw [xlim_go s1]
        refine ih (i + 1) g2 (by omega) (y.tr (u2.up fun o k z => by unfold dRf; omega)) (u3.trans hL) (by rw [u2.2 69 0 (by omega)]; exact q0) u4 ?_
        unfold zOc
        rw [su]
        exact ⟨by rw [u2.2 69 1 (by omega)]; exact Z.1, fun j hj => by rw [u2.2 70 j (by omega), u2.2 71 j (by omega)]; exact Z.2 j hj⟩
  have z0 : ∀ t, t < n → zDt2 n n 0 t = 0 := fun t _ => by unfold zDt2; rw [Nat.zero_div, Nat.zero_mod]
  obtain ⟨gB, b1, b2, b3, b4, b5⟩ := main (n ^ n) 0 gA (by omega) a2 a3 a4 (fun t ht => by rw [z0 t ht]; exact a6 t ht) ⟨a5, fun j hj => absurd hj (Nat.not_lt_zero j)⟩
  refine ⟨gB, ?_, b2, b3, b4, b5.1, b5.2⟩
  unfold E_X5_refill
  rw [Nat.pow_zero] at a1
  rw [h0, show ((1 : Int32), (0 : Int32), xWI (xWI g 69 0 (nI n)) 69 1 0) = (nI 1, nI 0, xWI (xWI g 69 0 (nI n)) 69 1 0) from rfl, a1, xb1_some]
  show (xb1 (xlim (S_X5_refill_49 t (nI (n ^ n))) (nI 0, gA)) fun e_2 => some e_2) = _
  rw [b1, xb1_some]
end RF
