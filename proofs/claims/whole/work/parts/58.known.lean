/-! WEIGHTS that fit: what is known; all heaps asked -/
def dGu (o k : Nat) : Prop := 98 ≤ o ∧ o ≤ 110
theorem dLd_U : ∀ o k, dLd o k → dGu o k := fun o k h => by unfold dLd at h; unfold dGu; omega
theorem dGs_U : ∀ o k, dGs o k → dGu o k := fun o k h => by unfold dGs at h; unfold dGu; omega
/-- all pairs of heaps, the lesser first -/
def yPi (a : Nat) (l : List (Nat × Nat)) : Nat → List (Nat × Nat)
  | 0 => l
  | b + 1 => if a < b ∧ a &&& b = 0 then yPi a l b ++ [(a, b)] else yPi a l b
def yPo (n : Nat) : Nat → List (Nat × Nat)
  | 0 => []
  | a + 1 => if a = 0 then yPo n a else yPi a (yPo n a) (2 ^ n)
def yAp (n : Nat) : List (Nat × Nat) := yPo n (2 ^ n)
def yA1 (n i : Nat) : Nat := ((yAp n).getD i (0, 0)).1
def yA2 (n i : Nat) : Nat := ((yAp n).getD i (0, 0)).2
theorem yAp_ok : ∀ n, n < 6 → (yAp n).length ≤ 90 ∧ ∀ i, i < (yAp n).length → 0 < yA1 n i ∧ yA1 n i < yA2 n i ∧ yA2 n i < 2 ^ n ∧ yA1 n i &&& yA2 n i = 0 := by decide +kernel
theorem yAp_up : ∀ n, n < 6 → ∀ i, i < (yAp n).length → i + 1 < (yAp n).length → 32 * yA1 n i + yA2 n i < 32 * yA1 n (i + 1) + yA2 n (i + 1) := by decide +kernel
theorem yAp_in : ∀ n, n < 6 → ((List.range (2 ^ n)).all fun a => (List.range (2 ^ n)).all fun b => !(decide (0 < a) && decide (a < b) && a &&& b == 0) || (List.range (yAp n).length).any fun i => yA1 n i == a && yA2 n i == b) = true := by decide +kernel
theorem yAp_un : ∀ n, n < 6 → (yAp n).length ≤ 91 := fun n h => Nat.le_succ_of_le (yAp_ok n h).1
/-- what is known of the rows that fit -/
def yKn (g : xSt) (n st R : Nat) (rf rs rd : Nat → Nat) (P : List Nat) : Prop := ∃ Q qa qb, yQl n Q qa qb ∧ yGx g n st R rf rs rd Q qa qb ∧ yAc g n st P Q qa qb ∧ ((xI g 98 12 = 0 ∨ xI g 98 12 = 1) ∨ (xI g 98 12 = 2 ∧ Q = (yAp n).length ∧ ∀ i, i < Q → qa i = yA1 n i ∧ qb i = yA2 n i))
def I_guess (g : xSt) : Prop := xI g 102 0 = 0 ∧ (xI g 98 12 = -1 ∨ ∃ n st R rf rs rd, n ≤ 5 ∧ st ≤ 99 ∧ yRl n R rf rs rd ∧ yKn g n st R rf rs rd (yFa n st R rf rs rd))
section KN2
variable {g g' : xSt} {β n st R Q : Nat} {T B : yT} {rf rs rd qa qb : Nat → Nat} {k a1 a2 a3 a4 a5 : Int32}
theorem yKn.eq {P : List Nat} (h : ∀ o j, 98 ≤ o → o ≤ 110 → xI g' o j = xI g o j) (q : yKn g n st R rf rs rd P) : yKn g' n st R rf rs rd P := by
  obtain ⟨Q, qa, qb, q1, q2, q3, q4⟩ := q
  obtain ⟨x1, x2, x3, x4, x5, x6⟩ := q2
  obtain ⟨z1, z2, z3⟩ := q3
  have e := fun o j (h1 : 98 ≤ o) (h2 : o ≤ 110) => h o j h1 h2
  refine ⟨Q, qa, qb, q1, ⟨(e _ _ (by decide) (by decide)).trans x1, (e _ _ (by decide) (by decide)).trans x2, (e _ _ (by decide) (by decide)).trans x3, fun i hi => ⟨(e _ _ (by decide) (by decide)).trans (x4 i hi).1, (e _ _ (by decide) (by decide)).trans (x4 i hi).2.1, (e _ _ (by decide) (by decide)).trans (x4 i hi).2.2⟩, (e _ _ (by decide) (by decide)).trans x5, fun i hi => ⟨(e _ _ (by decide) (by decide)).trans (x6 i hi).1, (e _ _ (by decide) (by decide)).trans (x6 i hi).2⟩⟩, ⟨(e _ _ (by decide) (by decide)).trans z1, fun j hj => ⟨fun w => (e _ _ (by decide) (by decide)).trans ((z2 j hj).1 w), (e _ _ (by decide) (by decide)).trans (z2 j hj).2.1, (e _ _ (by decide) (by decide)).trans (z2 j hj).2.2⟩, fun i hi => ⟨(e _ _ (by decide) (by decide)).trans (z3 i hi).1, (e _ _ (by decide) (by decide)).trans (z3 i hi).2⟩⟩, ?_⟩
  rw [e 98 12 (by decide) (by decide)]
  exact q4
theorem I_guess.eq (h : ∀ o j, 98 ≤ o → o ≤ 110 → xI g' o j = xI g o j) (q : I_guess g) : I_guess g' := by
  obtain ⟨q1, q2⟩ := q
  refine ⟨(h _ _ (by decide) (by decide)).trans q1, ?_⟩
  rw [h 98 12 (by decide) (by decide)]
  exact q2.imp id fun ⟨n, st, R, rf, rs, rd, z1, z2, z3, z4⟩ => ⟨n, st, R, rf, rs, rd, z1, z2, z3, z4.eq h⟩
theorem I_guess.ag {D : Nat → Nat → Prop} (h : yAg D g g') (hD : ∀ o k, 98 ≤ o → o ≤ 110 → ¬ D o k) (q : I_guess g) : I_guess g' := q.eq fun o j h1 h2 => h.2 o j (hD o j h1 h2)
theorem yFa_congr {rf' rs' rd' : Nat → Nat} (h : ∀ i, i < R → rf i = rf' i ∧ rs i = rs' i ∧ rd i = rd' i) : yFa n st R rf rs rd = yFa n st R rf' rs' rd' := by
  unfold yFa
  refine List.filter_congr fun v _ => ?_
  rw [Bool.eq_iff_iff, yFr_i, yFr_i]
  exact ⟨fun z i hi => by have := z i hi; rw [(h i hi).1, (h i hi).2.1, (h i hi).2.2] at this; exact this, fun z i hi => by rw [(h i hi).1, (h i hi).2.1, (h i hi).2.2]; exact z i hi⟩
/-- loaded as town and book say -/
def yLo2 (g : xSt) (n st : Nat) (l : List (Nat × Nat × Nat)) : Prop := xI g 98 0 = nI n ∧ xI g 98 1 = nI st ∧ xI g 98 2 = nI l.length ∧ yRr g l
theorem yRr_gx {l : List (Nat × Nat × Nat)} (h : yLo2 g n st l) (hQ : xI g 98 13 = nI Q) (hq : ∀ i, i < Q → xI g 107 i = nI (qa i) ∧ xI g 108 i = nI (qb i)) : yGx g n st l.length (yF1 l) (yF2 l) (yF3 l) Q qa qb := ⟨h.1, h.2.1, h.2.2.1, h.2.2.2, hQ, hq⟩
/-- behind load: stale, or known of this very town and book -/
theorem r_fresh {l : List (Nat × Nat × Nat)} (hn : n ≤ 5) (hs : st ≤ 99) (hr : yRl n l.length (yF1 l) (yF2 l) (yF3 l)) (h : yLo2 g n st l) (q : I_guess g) : xI g 98 12 = -1 ∨ yKn g n st l.length (yF1 l) (yF2 l) (yF3 l) (yFa n st l.length (yF1 l) (yF2 l) (yF3 l)) := by
  rcases q.2 with z | ⟨n', st', R, rf, rs, rd, z1, z2, z3, Q, qa, qb, z4, z5, z6, z7⟩
  · exact Or.inl z
  · right
    obtain ⟨h1, h2, h3, h4⟩ := h
    obtain ⟨x1, x2, x3, x4, x5, x6⟩ := z5
    have e1 : n' = n := (nI_eq (by omega) (by omega)).mp (x1.symm.trans h1)
    have e2 : st' = st := (nI_eq (by omega) (by omega)).mp (x2.symm.trans h2)
    have hR := z3.1
    have hl := hr.1
    have e3 : R = l.length := (nI_eq (by omega) (by omega)).mp (x3.symm.trans h3)
    subst e1 e2 e3
    have hpw : 2 ^ n' ≤ 32 := Nat.pow_le_pow_right (n := 2) (by decide) hn
    have ee : ∀ i, i < l.length → rf i = yF1 l i ∧ rs i = yF2 l i ∧ rd i = yF3 l i := fun i hi => by
      obtain ⟨a1, a2, -, a4⟩ := z3.2 i hi
      obtain ⟨b1, b2, -, b4⟩ := hr.2 i hi
      refine ⟨(nI_eq (by omega) (by omega)).mp ((x4 i hi).1.symm.trans (h4 i hi).1), (nI_eq (by omega) (by omega)).mp ((x4 i hi).2.1.symm.trans (h4 i hi).2.1), (nI_eq (by omega) (by omega)).mp ((x4 i hi).2.2.symm.trans (h4 i hi).2.2)⟩
    refine ⟨Q, qa, qb, z4, ⟨x1, x2, x3, h4, x5, x6⟩, ?_, z7⟩
    rw [← yFa_congr ee]
    exact z6
theorem r_guess2 {l : List (Nat × Nat × Nat)} (hn : n ≤ 5) (hs : st ≤ 99) (hr : yRl n l.length (yF1 l) (yF2 l) (yF3 l)) (h : yLo2 g n st l) (h0 : xI g 102 0 = 0) (hQl : yQl n Q qa qb) (hQ : xI g 98 13 = nI Q) (hq : ∀ i, i < Q → xI g 107 i = nI (qa i) ∧ xI g 108 i = nI (qb i)) {kn : Int32} (hk : (kn = 0 ∨ kn = 1) ∨ (kn = 2 ∧ Q = (yAp n).length ∧ ∀ i, i < Q → qa i = yA1 n i ∧ qb i = yA2 n i)) : ∃ g', E_X1_guess g = some g' ∧ yAg dGs g g' ∧ yKn (xWI g' 98 12 kn) n st l.length (yF1 l) (yF2 l) (yF3 l) (yFa n st l.length (yF1 l) (yF2 l) (yF3 l)) ∧ I_guess (xWI g' 98 12 kn) ∧ yAc g' n st (yFa n st l.length (yF1 l) (yF2 l) (yF3 l)) Q qa qb ∧ yGx g' n st l.length (yF1 l) (yF2 l) (yF3 l) Q qa qb := by
  have hG := yRr_gx (qa := qa) (qb := qb) h hQ hq
  obtain ⟨g', r1, r2, r3, r4⟩ := r_guess hn hs hr hQl hG h0
  have G' := hG.ag r2
  have yk : yKn (xWI g' 98 12 kn) n st l.length (yF1 l) (yF2 l) (yF3 l) (yFa n st l.length (yF1 l) (yF2 l) (yF3 l)) := by
    obtain ⟨x1, x2, x3, x4, x5, x6⟩ := G'
    obtain ⟨z1, z2, z3⟩ := r4
    refine ⟨Q, qa, qb, hQl, ⟨?_, ?_, ?_, fun i hi => ?_, ?_, fun i hi => ?_⟩, ⟨?_, fun j hj => ?_, fun i hi => ?_⟩, ?_⟩
    · rw [yI_wi, if_neg (by omega)]; exact x1
    · rw [yI_wi, if_neg (by omega)]; exact x2
    · rw [yI_wi, if_neg (by omega)]; exact x3
    · rw [yI_wi, if_neg (by omega), yI_wi, if_neg (by omega), yI_wi, if_neg (by omega)]; exact x4 i hi
    · rw [yI_wi, if_neg (by omega)]; exact x5
    · rw [yI_wi, if_neg (by omega), yI_wi, if_neg (by omega)]; exact x6 i hi
    · rw [yI_wi, if_neg (by omega)]; exact z1
    · rw [yI_wi, if_neg (by omega), yI_wi, if_neg (by omega), yI_wi, if_neg (by omega)]; exact z2 j hj
    · rw [yI_wi, if_neg (by omega), yI_wi, if_neg (by omega)]; exact z3 i hi
    · rw [yI_wi, if_pos ⟨rfl, rfl⟩]; exact hk
  exact ⟨g', r1, r2, yk, ⟨by rw [yI_wi, if_neg (by decide)]; exact r3, Or.inr ⟨n, st, l.length, _, _, _, hn, hs, hr, yk⟩⟩, r4, G'⟩
theorem r_guessAll {l : List (Nat × Nat × Nat)} (hn : n ≤ 5) (hs : st ≤ 99) (hr : yRl n l.length (yF1 l) (yF2 l) (yF3 l)) (h : yLo2 g n st l) (q : I_guess g) : ∃ g' Q qa qb, E_X1_guessAll g = some g' ∧ yAg dGu g g' ∧ I_guess g' ∧ yAc g' n st (yFa n st l.length (yF1 l) (yF2 l) (yF3 l)) Q qa qb := by
  unfold E_X1_guessAll
  rcases r_fresh hn hs hr h q with z | ⟨Q, qa, qb, z1, z2, z3, z4⟩
  · rw [if_pos z]
    have h' : yLo2 (xWI g 98 13 0) n st l := by
      obtain ⟨h1, h2, h3, h4⟩ := h
      refine ⟨by rw [yI_wi, if_neg (by omega)]; exact h1, by rw [yI_wi, if_neg (by omega)]; exact h2, by rw [yI_wi, if_neg (by omega)]; exact h3, fun i hi => ?_⟩
      rw [yI_wi, if_neg (by omega), yI_wi, if_neg (by omega), yI_wi, if_neg (by omega)]; exact h4 i hi
    obtain ⟨g1, r1, r2, r3, r4, r5, r6⟩ := r_guess2 (Q := 0) (qa := fun _ => 0) (qb := fun _ => 0) (kn := 0) hn hs hr h' (by rw [yI_wi, if_neg (by decide)]; exact q.1) ⟨by decide, fun i hi => by omega⟩ (by rw [yI_wi, if_pos ⟨rfl, rfl⟩]; rfl) (fun i hi => by omega) (Or.inl (Or.inl rfl))
    refine ⟨xWI g1 98 12 0, 0, fun _ => 0, fun _ => 0, by rw [r1, xb1_some], ?_, r4, ?_⟩
    · exact (((yAg.refl dGu g).wi ⟨by decide, by decide⟩).tr (r2.up dGs_U)).wi ⟨by decide, by decide⟩
    · exact r5.ag (D := fun o k => o = 98 ∧ k = 12) ((yAg.refl _ g1).wi ⟨rfl, rfl⟩) (by omega) (fun o k h => by omega)
  · have hne : ¬ xI g 98 12 = -1 := by
      rcases z4 with (w | w) | ⟨w, -⟩ <;> rw [w] <;> decide
    rw [if_neg hne]
    exact ⟨g, Q, qa, qb, rfl, yAg.refl _ _, q, z3⟩
theorem r_askG {i : Nat} (h : xI g 98 13 = nI i) (hi : i < 90) (a b : Int32) : E_X1_ask a b g = some (xWI (xWI (xWI g 107 i a) 108 i b) 98 13 (nI (i + 1))) := by
  unfold E_X1_ask
  simp only [h, xput_nI hi (show (90 : Nat) < 2 ^ 31 by decide)]
  have e1 : xI (xWI g 107 i a) 98 13 = nI i := by rw [yI_wi, if_neg (by omega)]; exact h
  rw [e1, xput_nI hi (by decide)]
  have e2 : xI (xWI (xWI g 107 i a) 108 i b) 98 13 = nI i := by rw [yI_wi, if_neg (by omega)]; exact e1
  rw [e2, nI_1]
/-- the asks laid so far -/
def yAk (g : xSt) (l : List (Nat × Nat)) : Prop := xI g 98 13 = nI l.length ∧ ∀ i, i < l.length → xI g 107 i = nI (l.getD i (0, 0)).1 ∧ xI g 108 i = nI (l.getD i (0, 0)).2
theorem yA_push (l : List (Nat × Nat)) (x : Nat × Nat) {i : Nat} (h : i < l.length + 1) : (l ++ [x]).getD i (0, 0) = if i = l.length then x else l.getD i (0, 0) := by
  by_cases e : i = l.length
  · subst e; rw [if_pos rfl, List.getD_eq_getElem?_getD, List.getElem?_append_right (Nat.le_refl _)]; simp
  · rw [if_neg e, List.getD_eq_getElem?_getD, List.getElem?_append_left (by omega), List.getD_eq_getElem?_getD]
theorem yPi_mono (a : Nat) (l : List (Nat × Nat)) : ∀ b m, (yPi a l b).length ≤ (yPi a l (b + m)).length := by
  intro b m
  induction m with
  | zero => exact Nat.le_refl _
  | succ m ih =>
    refine Nat.le_trans ih ?_
    show _ ≤ (if a < b + m ∧ a &&& (b + m) = 0 then yPi a l (b + m) ++ [(a, b + m)] else yPi a l (b + m)).length
    split
    · rw [List.length_append]; omega
    · exact Nat.le_refl _
theorem yPo_mono (n : Nat) : ∀ a m, (yPo n a).length ≤ (yPo n (a + m)).length := by
  intro a m
  induction m with
  | zero => exact Nat.le_refl _
  | succ m ih =>
    refine Nat.le_trans ih ?_
    show _ ≤ (if a + m = 0 then yPo n (a + m) else yPi (a + m) (yPo n (a + m)) (2 ^ n)).length
    split
    · exact Nat.le_refl _
    · have := yPi_mono (a + m) (yPo n (a + m)) 0 (2 ^ n)
      rw [Nat.zero_add] at this
      exact this
def dAk (o k : Nat) : Prop := o = 107 ∨ o = 108 ∨ (o = 98 ∧ k = 13)
theorem yPi_lo (a : Nat) (l : List (Nat × Nat)) : ∀ b, b ≤ a + 1 → yPi a l b = l := by
  intro b
  induction b with
  | zero => intro _; rfl
  | succ b ih => intro h; show (if a < b ∧ a &&& b = 0 then _ else _) = l; rw [if_neg (by omega)]; exact ih (by omega)
theorem r_askAll (hn : n ≤ 5) (h : xI g 98 0 = nI n) : ∃ g', E_X1_askAll g = some g' ∧ yAg dAk g g' ∧ yAk g' (yAp n) := by
  have h32 : 2 ^ n ≤ 32 := Nat.pow_le_pow_right (n := 2) (by decide) hn
  have h90 := (yAp_ok n (by omega)).1
  have inner : ∀ a, 0 < a → a < 2 ^ n → ∀ m b g1, m + b = 2 ^ n → a + 1 ≤ b → yAg dAk g g1 → yAk g1 (yPi a (yPo n a) b) → ∃ g', xlim (S_X1_askAll_21 (nI a)) (nI b, g1) = some g' ∧ yAg dAk g g' ∧ yAk g' (yPi a (yPo n a) (2 ^ n)) := by
    intro a ha0 ha m
    induction m with
    | zero =>
      intro b g1 hb _ y s
      have : b = 2 ^ n := by omega
      subst this
      refine ⟨g1, xlim_end ?_, y, s⟩
      unfold S_X1_askAll_21
      simp only [show xI g1 98 0 = nI n from (y.2 _ _ (by unfold dAk; omega)).trans h, r_shl2 n (by omega)]
      exact if_pos (nI_le (Nat.le_refl _) (by omega))
    | succ m ih =>
      intro b g1 hb hab y s
      have hbn : b < 2 ^ n := by omega
      have e0 : xI g1 98 0 = nI n := (y.2 _ _ (by unfold dAk; omega)).trans h
      have hand : (nI a &&& nI b = (0 : Int32)) ↔ a &&& b = 0 := r_and a (by omega) b (by omega)
      by_cases c : a &&& b = 0
      · have pe : yPi a (yPo n a) (b + 1) = yPi a (yPo n a) b ++ [(a, b)] := if_pos ⟨by omega, c⟩
        have lb : (yPi a (yPo n a) (b + 1)).length ≤ 90 := by
          have l1 := yPi_mono a (yPo n a) (b + 1) (2 ^ n - (b + 1))
          rw [show b + 1 + (2 ^ n - (b + 1)) = 2 ^ n by omega] at l1
          have l2 : yPo n (a + 1) = yPi a (yPo n a) (2 ^ n) := if_neg (by omega)
          have l3 := yPo_mono n (a + 1) (2 ^ n - (a + 1))
          rw [show a + 1 + (2 ^ n - (a + 1)) = 2 ^ n by omega, l2] at l3
          exact Nat.le_trans l1 (Nat.le_trans l3 h90)
        rw [pe, List.length_append, List.length_singleton] at lb
        have st : S_X1_askAll_21 (nI a) (nI b, g1) = some (.inl (nI (b + 1), xWI (xWI (xWI g1 107 (yPi a (yPo n a) b).length (nI a)) 108 (yPi a (yPo n a) b).length (nI b)) 98 13 (nI ((yPi a (yPo n a) b).length + 1)))) := by
          unfold S_X1_askAll_21
          simp only [e0, r_shl2 n (show n < 6 by omega), if_neg (nI_ge hbn (show 2 ^ n < 2 ^ 31 by omega)), if_pos (hand.mpr c), r_askG s.1 (show (yPi a (yPo n a) b).length < 90 by omega), xb1_some, nI_1]
        obtain ⟨g', r1, r2⟩ := ih (b + 1) (xWI (xWI (xWI g1 107 (yPi a (yPo n a) b).length (nI a)) 108 (yPi a (yPo n a) b).length (nI b)) 98 13 (nI ((yPi a (yPo n a) b).length + 1))) (by omega) (by omega) (((y.wi (Or.inl rfl)).wi (Or.inr (Or.inl rfl))).wi (Or.inr (Or.inr ⟨rfl, rfl⟩))) (by
          rw [pe]
          refine ⟨by rw [yI_wi, if_pos ⟨rfl, rfl⟩, List.length_append, List.length_singleton], fun i hi => ?_⟩
          rw [List.length_append, List.length_singleton] at hi
          rw [yA_push _ _ hi]
          by_cases e : i = (yPi a (yPo n a) b).length
          · rw [if_pos e, e]
            refine ⟨?_, ?_⟩
            · rw [yI_wi, if_neg (by omega), yI_wi, if_neg (by omega), yI_wi, if_pos ⟨rfl, rfl⟩]
            · rw [yI_wi, if_neg (by omega), yI_wi, if_pos ⟨rfl, rfl⟩]
          · rw [if_neg e, yI_wi, if_neg (by omega), yI_wi, if_neg (by omega), yI_wi, if_neg (by omega), yI_wi, if_neg (by omega), yI_wi, if_neg (by omega), yI_wi, if_neg (by omega)]
            exact s.2 i (by omega))
        exact ⟨g', (xlim_go st).trans r1, r2⟩
      · have pe : yPi a (yPo n a) (b + 1) = yPi a (yPo n a) b := if_neg (fun z => c z.2)
        have st : S_X1_askAll_21 (nI a) (nI b, g1) = some (.inl (nI (b + 1), g1)) := by
          unfold S_X1_askAll_21
          simp only [e0, r_shl2 n (show n < 6 by omega), if_neg (nI_ge hbn (show 2 ^ n < 2 ^ 31 by omega)), if_neg (fun z => c (hand.mp z)), nI_1]
        obtain ⟨g', r1, r2⟩ := ih (b + 1) g1 (by omega) (by omega) y (by rw [pe]; exact s)
        exact ⟨g', (xlim_go st).trans r1, r2⟩
  have outer : ∀ m a g1, m + a = 2 ^ n → 0 < a → yAg dAk g g1 → yAk g1 (yPo n a) → ∃ g', xlim (S_X1_askAll_7) (nI a, g1) = some g' ∧ yAg dAk g g' ∧ yAk g' (yAp n) := by
    intro m
    induction m with
    | zero =>
      intro a g1 ha _ y s
      have : a = 2 ^ n := by omega
      subst this
      refine ⟨g1, xlim_end ?_, y, s⟩
      unfold S_X1_askAll_7
      simp only [show xI g1 98 0 = nI n from (y.2 _ _ (by unfold dAk; omega)).trans h, r_shl2 n (show n < 6 by omega)]
      exact if_pos (nI_le (Nat.le_refl _) (by omega))
    | succ m ih =>
      intro a g1 ha ha0 y s
      have han : a < 2 ^ n := by omega
      obtain ⟨g2, r1, r2, r3⟩ := inner a ha0 han (2 ^ n - (a + 1)) (a + 1) g1 (by omega) (Nat.le_refl _) y (by rw [yPi_lo _ _ _ (Nat.le_refl _)]; exact s)
      have st : S_X1_askAll_7 (nI a, g1) = some (.inl (nI (a + 1), g2)) := by
        unfold S_X1_askAll_7
        simp only [show xI g1 98 0 = nI n from (y.2 _ _ (by unfold dAk; omega)).trans h, r_shl2 n (show n < 6 by omega), if_neg (nI_ge han (show 2 ^ n < 2 ^ 31 by omega)), nI_1, r1, xb1_some]
      obtain ⟨g', r4, r5⟩ := ih (a + 1) g2 (by omega) (by omega) r2 (by
        have : yPo n (a + 1) = yPi a (yPo n a) (2 ^ n) := if_neg (by omega)
        rw [this]; exact r3)
      exact ⟨g', (xlim_go st).trans r4, r5⟩
  have p1 : yPo n 1 = [] := if_pos rfl
  have h1 : 1 ≤ 2 ^ n := Nat.two_pow_pos n
  obtain ⟨g', r1, r2⟩ := outer (2 ^ n - 1) 1 (xWI g 98 13 0) (by omega) (by decide) ((yAg.refl _ g).wi (Or.inr (Or.inr ⟨rfl, rfl⟩))) (by
    rw [p1]; exact ⟨by rw [yI_wi, if_pos ⟨rfl, rfl⟩]; rfl, fun i hi => absurd hi (Nat.not_lt_zero _)⟩)
  refine ⟨g', ?_, r2⟩
  unfold E_X1_askAll
  rw [show xlim (S_X1_askAll_7) (1, xWI g 98 13 0) = some g' from r1, xb1_some]
end KN2
