/-! with one lie: the class's need -/
section LN
variable {g g' : xSt} {n w c o M P N x y p : Nat} {mk : Nat → Nat} {γ : Nat → Int32} {tr : Nat → Nat → Nat} {al : Nat → Prop}
set_option maxRecDepth 100000 in
theorem r_off6 : ∀ x, x < 64 → ∀ t, t < 64 → nI x &&& (nI t ^^^ (-1)) = nI (x &&& (63 ^^^ t)) := by decide +kernel
theorem nI_max {a b : Nat} (ha : a < 2 ^ 31) (hb : b < 2 ^ 31) : imax (nI a) (nI b) = nI (max a b) := by
  unfold imax
  by_cases h : a < b
  · rw [if_pos (by rw [nI_ltI ha hb]; omega), Nat.max_eq_right (by omega)]
  · rw [if_neg (by rw [nI_ltI ha hb]; omega), Nat.max_eq_left (by omega)]
theorem nI_min {a b : Nat} (ha : a < 2 ^ 31) (hb : b < 2 ^ 31) : imin (nI a) (nI b) = nI (min a b) := by
  unfold imin
  by_cases h : b < a
  · rw [if_pos (by rw [nI_ltI hb ha]; omega), Nat.min_eq_right (by omega)]
  · rw [if_neg (by rw [nI_ltI hb ha]; omega), Nat.min_eq_left (by omega)]
/-- the table below (x, y) -/
def zDp (g : xSt) (tr : Nat → Nat → Nat) (al : Nat → Prop) (P M x y : Nat) : Prop := ∀ x' y', x' < M → y' < M → x' &&& y' = 0 → (x' < x ∨ (x' = x ∧ y' < y)) → ∃ v, xI g 91 (64 * x' + y') = nI v ∧ zNd tr al P 0 v x' y'
theorem zLy_lt {t : Nat} (hc : c ≤ 6) (hx : x < 2 ^ c) (hy : y < 2 ^ c) : zLy t x y < 2 ^ c := Nat.or_lt_two_pow (Nat.lt_of_le_of_lt Nat.and_le_left hy) (Nat.lt_of_le_of_lt Nat.and_le_left hx)
theorem r_63 : ∀ i, i < 6 → (63 : Nat).testBit i = true := by decide
theorem zLy_dj {t : Nat} (hx : x < 64) (h : x &&& y = 0) : (x &&& t) &&& zLy t x y = 0 := by
  apply Nat.eq_of_testBit_eq
  intro i
  have a : (x &&& y).testBit i = false := by rw [h]; exact Nat.zero_testBit i
  unfold zLy
  simp only [Nat.testBit_and, Nat.testBit_or, Nat.testBit_xor, Nat.zero_testBit] at a ⊢
  by_cases hi : (63 : Nat).testBit i = true
  · rw [hi]
    generalize x.testBit i = b1 at a ⊢
    generalize y.testBit i = b2 at a ⊢
    generalize t.testBit i = b3 at a ⊢
    revert a
    cases b1 <;> cases b2 <;> cases b3 <;> decide
  · have : x.testBit i = false := Bool.eq_false_iff.mpr fun z => hi (r_63 i (zLt_bit (P := 6) hx z))
    rw [this, Bool.false_and, Bool.false_and]
theorem zWs_pre (h : (x &&& tr p 0 = x ∧ zLy (tr p 0) x y = y) ∨ (x &&& tr p 1 = x ∧ zLy (tr p 1) x y = y) ∨ (x &&& tr p 2 = x ∧ zLy (tr p 2) x y = y)) : zWs tr al P 0 p 13 x y := by
  refine ⟨Nat.le_refl _, fun z => absurd z (by decide), fun k _ q => ?_⟩
  rcases h with ⟨a, b⟩ | ⟨a, b⟩ | ⟨a, b⟩
  · have := q 0 (by decide) (by decide); rw [a, b] at this; exact this
  · have := q 1 (by decide) (by decide); rw [a, b] at this; exact this
  · have := q 2 (by decide) (by decide); rw [a, b] at this; exact this
theorem zWs_max {v0 v1 v2 : Nat} (h0 : zNd tr al P 0 v0 (x &&& tr p 0) (zLy (tr p 0) x y)) (h1 : zNd tr al P 0 v1 (x &&& tr p 1) (zLy (tr p 1) x y)) (h2 : zNd tr al P 0 v2 (x &&& tr p 2) (zLy (tr p 2) x y)) : zWs tr al P 0 p (max (max (max 0 v0) v1) v2) x y := by
  obtain ⟨a1, a2, a3⟩ := h0
  obtain ⟨b1, b2, b3⟩ := h1
  obtain ⟨c1, c2, c3⟩ := h2
  have up : ∀ v W x y, v ≤ W → zG tr al P 0 v x y → zG tr al P 0 W x y := fun v W x y h q => by
    have := zG_le q (W - v)
    rw [show v + (W - v) = W by omega] at this
    exact this
  refine ⟨by omega, fun z s _ hs => ?_, fun k hk q => ?_⟩
  · rcases (by omega : s = 0 ∨ s = 1 ∨ s = 2) with rfl | rfl | rfl
    · exact up v0 _ _ _ (by omega) (a2 (by omega))
    · exact up v1 _ _ _ (by omega) (b2 (by omega))
    · exact up v2 _ _ _ (by omega) (c2 (by omega))
  · have e0 : v0 ≤ k := Classical.byContradiction fun z => a3 k (by omega) (q 0 (by decide) (by decide))
    have e1 : v1 ≤ k := Classical.byContradiction fun z => b3 k (by omega) (q 1 (by decide) (by decide))
    have e2 : v2 ≤ k := Classical.byContradiction fun z => c3 k (by omega) (q 2 (by decide) (by decide))
    omega
/-- a turn of the worst -/
theorem r_wstep (hc : c ≤ 6) (ht : ∀ p s, p < 10 → s < 3 → tr p s < 64 ∧ xI g 93 (10 * s + p) = nI (tr p s)) (hx : x < 2 ^ c) (hy : y < 2 ^ c) (hd : x &&& y = 0) (hD : zDp g tr al P (2 ^ c) x y) (hp : p < 10) {s W : Nat} (hs : s < 3) (hW : W ≤ 13) : (S_X3_worstBehind_6 (nI x) (nI y) g (nI W, nI (10 * s + p)) = some (.inr (.inl (nI 13))) ∧ x &&& tr p s = x ∧ zLy (tr p s) x y = y) ∨ ∃ v, S_X3_worstBehind_6 (nI x) (nI y) g (nI W, nI (10 * s + p)) = some (.inl (nI (max W v), nI (10 * (s + 1) + p))) ∧ zNd tr al P 0 v (x &&& tr p s) (zLy (tr p s) x y) := by
  have h6 : 2 ^ c ≤ 2 ^ 6 := Nat.pow_le_pow_right (by decide) hc
  obtain ⟨t1, t2⟩ := ht p s hp hs
  have h30 : ¬ (30 : Int32) ≤ nI (10 * s + p) := by rw [show (30 : Int32) = nI 30 from rfl]; exact nI_ge (by omega) (by omega)
  have nx : nI (10 * s + p) + 10 = nI (10 * (s + 1) + p) := by rw [show (10 : Int32) = nI 10 from rfl, nI_add, show 10 * s + p + 10 = 10 * (s + 1) + p by omega]
  have lx : x &&& tr p s < 2 ^ c := Nat.lt_of_le_of_lt Nat.and_le_left hx
  have ly : zLy (tr p s) x y < 2 ^ c := zLy_lt hc hx hy
  have e1 : nI x &&& nI (tr p s) = nI (x &&& tr p s) := r_andG _ _
  have e2 : (nI y &&& nI (tr p s)) ||| (nI x &&& (nI (tr p s) ^^^ (-1))) = nI (zLy (tr p s) x y) := by rw [r_off6 x (by omega) _ t1, r_andG, r_orG]; rfl
  have q1 : nI (x &&& tr p s) = nI x ↔ x &&& tr p s = x := nI_eq (by omega) (by omega)
  have q2 : nI (zLy (tr p s) x y) = nI y ↔ zLy (tr p s) x y = y := nI_eq (by omega) (by omega)
  have rd : ¬ (x &&& tr p s = x ∧ zLy (tr p s) x y = y) → ∃ v, xat (xI g 91) 4096 (nI (x &&& tr p s) * 64 + nI (zLy (tr p s) x y)) = nI v ∧ zNd tr al P 0 v (x &&& tr p s) (zLy (tr p s) x y) := fun h => by
    obtain ⟨v, v1, v2⟩ := hD _ _ lx ly (zLy_dj (by omega) hd) (by
      have l1 : x &&& tr p s ≤ x := Nat.and_le_left
      by_cases e : x &&& tr p s = x
      · refine Or.inr ⟨e, ?_⟩
        have : zLy (tr p s) x y ≤ y := by
          have z : x &&& (63 ^^^ tr p s) = 0 := by
            apply Nat.eq_of_testBit_eq
            intro i
            have a : (x &&& tr p s).testBit i = x.testBit i := by rw [e]
            rw [Nat.testBit_and] at a
            rw [Nat.testBit_and, Nat.testBit_xor, Nat.zero_testBit]
            by_cases b : x.testBit i = true
            · rw [b, Bool.true_and] at a
              rw [b, a, r_63 i (zLt_bit (P := 6) (by omega) b)]; rfl
            · rw [Bool.eq_false_iff.mpr b]; rfl
          unfold zLy
          rw [z, Nat.or_zero]
          exact Nat.and_le_left
        have ne : zLy (tr p s) x y ≠ y := fun z => h ⟨e, z⟩
        omega
      · exact Or.inl (by omega))
    refine ⟨v, ?_, v2⟩
    rw [show (64 : Int32) = nI 64 from rfl, nI_mul, nI_add, xat_nI (by omega) (by decide), Nat.mul_comm, v1]
  by_cases d1 : x &&& tr p s = x
  · by_cases d2 : zLy (tr p s) x y = y
    · refine Or.inl ⟨?_, d1, d2⟩
      unfold S_X3_worstBehind_6
      simp only [if_neg h30, xat_nI (show 10 * s + p < 30 by omega) (show 30 < 2 ^ 31 by decide), t2, e2, e1, if_pos (q1.mpr d1), if_pos (q2.mpr d2)]
      rfl
    · obtain ⟨v, v1, v2⟩ := rd (fun z => d2 z.2)
      refine Or.inr ⟨v, ?_, v2⟩
      have vl := v2.1
      unfold S_X3_worstBehind_6
      simp only [if_neg h30, xat_nI (show 10 * s + p < 30 by omega) (show 30 < 2 ^ 31 by decide), t2, e2, e1, if_pos (q1.mpr d1), if_neg (fun z => d2 (q2.mp z)), nx]
      rw [v1, nI_max (by omega) (by omega)]
  · obtain ⟨v, v1, v2⟩ := rd (fun z => d1 z.1)
    refine Or.inr ⟨v, ?_, v2⟩
    have vl := v2.1
    unfold S_X3_worstBehind_6
    simp only [if_neg h30, xat_nI (show 10 * s + p < 30 by omega) (show 30 < 2 ^ 31 by decide), t2, e2, e1, if_neg (fun z => d1 (q1.mp z)), nx]
    rw [v1, nI_max (by omega) (by omega)]
theorem r_worstL (hc : c ≤ 6) (ht : ∀ p s, p < 10 → s < 3 → tr p s < 64 ∧ xI g 93 (10 * s + p) = nI (tr p s)) (hx : x < 2 ^ c) (hy : y < 2 ^ c) (hd : x &&& y = 0) (hD : zDp g tr al P (2 ^ c) x y) (hp : p < 10) : ∃ W, E_X3_worstBehind (nI x) (nI y) (nI p) g = some (nI W) ∧ zWs tr al P 0 p W x y := by
  unfold E_X3_worstBehind
  have start : ((0 : Int32), nI p) = (nI 0, nI (10 * 0 + p)) := by rw [show 10 * 0 + p = p by omega]; rfl
  rw [start]
  rcases r_wstep hc ht hx hy hd hD hp (s := 0) (W := 0) (by decide) (by decide) with ⟨e, d⟩ | ⟨v0, e0, h0⟩
  · rw [xlim_end e]; exact ⟨13, rfl, zWs_pre (Or.inl d)⟩
  · rw [xlim_go e0]
    have b0 := h0.1
    rcases r_wstep hc ht hx hy hd hD hp (s := 1) (W := max 0 v0) (by decide) (by omega) with ⟨e, d⟩ | ⟨v1, e1, h1⟩
    · rw [xlim_end e]; exact ⟨13, rfl, zWs_pre (Or.inr (Or.inl d))⟩
    · rw [xlim_go e1]
      have b1 := h1.1
      rcases r_wstep hc ht hx hy hd hD hp (s := 2) (W := max (max 0 v0) v1) (by decide) (by omega) with ⟨e, d⟩ | ⟨v2, e2, h2⟩
      · rw [xlim_end e]; exact ⟨13, rfl, zWs_pre (Or.inr (Or.inr d))⟩
      · rw [xlim_go e2]
        have fin : S_X3_worstBehind_6 (nI x) (nI y) g (nI (max (max (max 0 v0) v1) v2), nI (10 * (2 + 1) + p)) = some (.inr (.inr (nI (max (max (max 0 v0) v1) v2)))) := by
          unfold S_X3_worstBehind_6
          exact if_pos (show (30 : Int32) ≤ nI (10 * (2 + 1) + p) by rw [show (30 : Int32) = nI 30 from rfl]; exact nI_le (by omega) (by omega))
        rw [xlim_end fin]
        exact ⟨_, rfl, zWs_max h0 h1 h2⟩
/-- what a state needs -/
theorem r_needOf (hc : c ≤ 6) (hP : P ≤ 10) (ht : ∀ p s, p < 10 → s < 3 → tr p s < 64 ∧ xI g 93 (10 * s + p) = nI (tr p s)) (hx : x < 2 ^ c) (hy : y < 2 ^ c) (hd : x &&& y = 0) (hD : zDp g tr al P (2 ^ c) x y) (hA : zB g 92 (2 ^ c) al) : ∃ v, E_X3_needOf (nI x) (nI y) (nI P) g = some (nI v) ∧ zNd tr al P 0 v x y := by
  have h6 : 2 ^ c ≤ 2 ^ 6 := Nat.pow_le_pow_right (by decide) hc
  have ho : x ||| y < 2 ^ c := Nat.or_lt_two_pow hx hy
  unfold E_X3_needOf
  rw [r_orG, xat_nI (by omega) (by decide)]
  by_cases a : al (x ||| y)
  · rw [if_neg (fun z => (hA.zero ho).mp z a)]
    exact ⟨0, rfl, by decide, fun _ => a, fun k h => absurd h (by omega)⟩
  · rw [if_pos ((hA.zero ho).mpr a)]
    have key : ∀ m p v, m + p = P → v ≤ 13 → (v ≤ 12 → ∃ p W, p < P ∧ v = 1 + W ∧ zWs tr al P 0 p W x y) → (∀ p', p' < p → ∃ W, v ≤ 1 + W ∧ zWs tr al P 0 p' W x y) → ∃ u, xlim (S_X3_needOf_22 (nI x) (nI y) (nI P) g) (nI v, nI p) = some (nI u) ∧ zNd tr al P 0 u x y := by
      intro m
      induction m with
      | zero =>
        intro p v hm hv h1 h2
        have : p = P := by omega
        subst this
        refine ⟨v, xlim_end ?_, zNd_of a hv h1 h2⟩
        unfold S_X3_needOf_22
        exact if_pos (nI_le (Nat.le_refl _) (by omega))
      | succ m ih =>
        intro p v hm hv h1 h2
        obtain ⟨W, w1, w2⟩ := r_worstL (p := p) hc ht hx hy hd hD (by omega)
        have wl := w2.1
        have st : S_X3_needOf_22 (nI x) (nI y) (nI P) g (nI v, nI p) = some (.inl (nI (min v (1 + W)), nI (p + 1))) := by
          unfold S_X3_needOf_22
          simp only [if_neg (nI_ge (show p < P by omega) (show P < 2 ^ 31 by omega)), w1, xb1_some]
          rw [show (1 : Int32) + nI W = nI (1 + W) from nI_add 1 W, nI_min (by omega) (by omega), nI_1]
        rw [xlim_go st]
        refine ih (p + 1) (min v (1 + W)) (by omega) (by omega) (fun z => ?_) (fun p' hp' => ?_)
        · by_cases e : v ≤ 1 + W
          · rw [Nat.min_eq_left e]; rw [Nat.min_eq_left e] at z; exact h1 z
          · rw [Nat.min_eq_right (by omega)]; exact ⟨p, W, by omega, rfl, w2⟩
        · by_cases e : p' = p
          · subst e; exact ⟨W, by omega, w2⟩
          · obtain ⟨W', q1, q2⟩ := h2 p' (by omega)
            exact ⟨W', by omega, q2⟩
    obtain ⟨u, u1, u2⟩ := key P 0 13 (by omega) (by decide) (fun z => absurd z (by decide)) (fun p' h => absurd h (by omega))
    exact ⟨u, by rw [show ((13 : Int32), (0 : Int32)) = (nI 13, nI 0) from rfl, u1, xb1_some], u2⟩
def d91 (o k : Nat) : Prop := o = 91
theorem r_fl63 (hc : c ≤ 6) (hP : P ≤ 10) (hF : ∀ g1, yAg d91 g g1 → F_X8_pairs g1 = nI P) (ht : ∀ p s, p < 10 → s < 3 → tr p s < 64 ∧ xI g 93 (10 * s + p) = nI (tr p s)) (hA : zB g 92 (2 ^ c) al) (hx : x < 2 ^ c) : ∀ m y g1, m + y = 2 ^ c → yAg d91 g g1 → zDp g1 tr al P (2 ^ c) x y → ∃ g', xlim (S_X3_fewestWithALie_63 (nI (2 ^ c - 1)) (nI x)) (nI y, g1) = some g' ∧ yAg d91 g g' ∧ zDp g' tr al P (2 ^ c) x (2 ^ c) := by
  have h6 : 2 ^ c ≤ 2 ^ 6 := Nat.pow_le_pow_right (by decide) hc
  have h1 : 0 < 2 ^ c := Nat.two_pow_pos c
  intro m
  induction m with
  | zero =>
    intro y g1 hm q z
    have : y = 2 ^ c := by omega
    refine ⟨g1, xlim_end ?_, q, this ▸ z⟩
    unfold S_X3_fewestWithALie_63
    exact if_pos (by rw [nI_ltI (by omega) (by omega)]; omega)
  | succ m ih =>
    intro y g1 hm q z
    have nlt : ¬ nI (2 ^ c - 1) < nI y := by rw [nI_ltI (by omega) (by omega)]; omega
    have ex : (nI x &&& nI y) = 0 ↔ x &&& y = 0 := by
      rw [r_andG, show (0 : Int32) = nI 0 from rfl]
      have : x &&& y ≤ x := Nat.and_le_left
      exact nI_eq (by omega) (by decide)
    by_cases d : x &&& y = 0
    · have hA1 : zB g1 92 (2 ^ c) al := fun s hs => by rw [q.2 92 s (by unfold d91; omega)]; exact hA s hs
      obtain ⟨v, v1, v2⟩ := r_needOf (g := g1) (tr := tr) hc hP (fun p s a b => ⟨(ht p s a b).1, (q.2 93 _ (by unfold d91; omega)).trans (ht p s a b).2⟩) hx (show y < 2 ^ c by omega) d z hA1
      have st : S_X3_fewestWithALie_63 (nI (2 ^ c - 1)) (nI x) (nI y, g1) = some (.inl (nI (y + 1), xWI g1 91 (64 * x + y) (nI v))) := by
        unfold S_X3_fewestWithALie_63
        simp only [if_neg nlt, if_pos (ex.mpr d), hF g1 q, v1, xb1_some]
        rw [show (64 : Int32) = nI 64 from rfl, nI_mul, nI_add, Nat.mul_comm, xput_nI (by omega) (by decide), nI_1]
      rw [xlim_go st]
      refine ih (y + 1) _ (by omega) (q.wi rfl) (fun x' y' hx' hy' hd' hl => ?_)
      by_cases e : x' = x ∧ y' = y
      · obtain ⟨rfl, rfl⟩ := e
        exact ⟨v, by rw [yI_wi, if_pos ⟨rfl, rfl⟩], v2⟩
      · obtain ⟨v', w1, w2⟩ := z x' y' hx' hy' hd' (by omega)
        exact ⟨v', by rw [yI_wi, if_neg (by omega)]; exact w1, w2⟩
    · have st : S_X3_fewestWithALie_63 (nI (2 ^ c - 1)) (nI x) (nI y, g1) = some (.inl (nI (y + 1), g1)) := by
        unfold S_X3_fewestWithALie_63
        simp only [if_neg nlt, if_neg (fun z => d (ex.mp z)), nI_1]
      rw [xlim_go st]
      refine ih (y + 1) g1 (by omega) q (fun x' y' hx' hy' hd' hl => ?_)
      by_cases e : x' = x ∧ y' = y
      · rw [e.1, e.2] at hd'; exact absurd hd' d
      · exact z x' y' hx' hy' hd' (by omega)
theorem r_fl55 (hc : c ≤ 6) (hP : P ≤ 10) (hF : ∀ g1, yAg d91 g g1 → F_X8_pairs g1 = nI P) (ht : ∀ p s, p < 10 → s < 3 → tr p s < 64 ∧ xI g 93 (10 * s + p) = nI (tr p s)) (hA : zB g 92 (2 ^ c) al) : ∀ m x g1, m + x = 2 ^ c → yAg d91 g g1 → zDp g1 tr al P (2 ^ c) x 0 → ∃ g', xlim (S_X3_fewestWithALie_55 (nI (2 ^ c - 1))) (nI x, g1) = some g' ∧ yAg d91 g g' ∧ zDp g' tr al P (2 ^ c) (2 ^ c) 0 := by
  have h6 : 2 ^ c ≤ 2 ^ 6 := Nat.pow_le_pow_right (by decide) hc
  have h1 : 0 < 2 ^ c := Nat.two_pow_pos c
  intro m
  induction m with
  | zero =>
    intro x g1 hm q z
    have : x = 2 ^ c := by omega
    refine ⟨g1, xlim_end ?_, q, this ▸ z⟩
    unfold S_X3_fewestWithALie_55
    exact if_pos (by rw [nI_ltI (by omega) (by omega)]; omega)
  | succ m ih =>
    intro x g1 hm q z
    have nlt : ¬ nI (2 ^ c - 1) < nI x := by rw [nI_ltI (by omega) (by omega)]; omega
    have hA1 : zB g1 92 (2 ^ c) al := fun s hs => by rw [q.2 92 s (by unfold d91; omega)]; exact hA s hs
    obtain ⟨g2, r1, r2, r3⟩ := r_fl63 (g := g1) (tr := tr) (x := x) hc hP (fun g2 y2 => hF g2 (q.tr y2)) (fun p s a b => ⟨(ht p s a b).1, (q.2 93 _ (by unfold d91; omega)).trans (ht p s a b).2⟩) hA1 (by omega) (2 ^ c) 0 g1 (by omega) (yAg.refl _ _) z
    have st : S_X3_fewestWithALie_55 (nI (2 ^ c - 1)) (nI x, g1) = some (.inl (nI (x + 1), g2)) := by
      unfold S_X3_fewestWithALie_55
      simp only [if_neg nlt, nI_1]
      rw [show ((0 : Int32), g1) = (nI 0, g1) from rfl, r1, xb1_some]
    rw [xlim_go st]
    exact ih (x + 1) g2 (by omega) (q.tr r2) (fun x' y' a b d h => r3 x' y' a b d (by omega))
theorem r_min6 : ∀ c, c < 7 → ((1 : Int32) <<< ((imin (nI c) 6) &&& 31)) - 1 = nI (2 ^ c - 1) := by decide +kernel
theorem r_fewestLie (hn : n ≤ 5) (hc : c ≤ 6) (h2 : xI g 76 2 = nI c) (h3 : xI g 76 3 = nI n) (hm : ∀ i, i < c → mk i < 2 ^ 30) (hr : ∀ i, i < c → xI g 77 i = nI (mk i) ∧ xI g 78 i = γ i) : ∃ g' v, E_X3_fewestWithALie g = some (nI v, g') ∧ yAg d93 g g' ∧ zNd (zTr mk c) (zAk γ c) (n * (n - 1) / 2) 0 v (2 ^ c - 1) 0 := by
  have hP := (yPs_3 n (by omega)).2.2
  have h6 : 2 ^ c ≤ 2 ^ 6 := Nat.pow_le_pow_right (by decide) hc
  have h1 : 0 < 2 ^ c := Nat.two_pow_pos c
  obtain ⟨g1, r1, r2, r3⟩ := r_loadTruths (g := g) (mk := mk) hc h2 hm (fun i hi => (hr i hi).1)
  obtain ⟨g2, s1, s2, s3⟩ := r_fl21 (g := g1) (γ := γ) hc ((r2.2 76 2 (by unfold d93; omega)).trans h2) (fun i hi => (r2.2 78 i (by unfold d93; omega)).trans (hr i hi).2) (2 ^ c) 0 g1 (by omega) (yAg.refl _ _) (fun x h => absurd h (by omega))
  have y2 : yAg d93 g g2 := r2.tr (s2.up (fun o k h => by unfold d92 at h; unfold d93; omega))
  have hF : ∀ g3, yAg d91 g2 g3 → F_X8_pairs g3 = nI (n * (n - 1) / 2) := fun g3 y => by
    unfold F_X8_pairs
    rw [y.2 76 3 (by unfold d91; omega), y2.2 76 3 (by unfold d93; omega), h3, r_pairs8 n (by omega)]
  obtain ⟨g3, t1, t2, t3⟩ := r_fl55 (g := g2) (tr := zTr mk c) (al := zAk γ c) hc hP hF (fun p s a b => ⟨zTr_lt hc, (s2.2 93 _ (by unfold d92; omega)).trans (r3 p s a b)⟩) s3 (2 ^ c) 0 g2 (by omega) (yAg.refl _ _) (fun x' y' _ _ _ h => absurd h (by omega))
  obtain ⟨v, v1, v2⟩ := t3 (2 ^ c - 1) 0 (by omega) (by omega) (Nat.and_zero _) (by omega)
  refine ⟨g3, v, ?_, y2.tr (t2.up (fun o k h => by unfold d91 at h; unfold d93; omega)), v2⟩
  unfold E_X3_fewestWithALie
  rw [r1, xb1_some, h2, r_min6 c (by omega), show ((0 : Int32), g1) = (nI 0, g1) from rfl, s1, xb1_some, show ((0 : Int32), g2) = (nI 0, g2) from rfl, t1, xb1_some, show (64 : Int32) = nI 64 from rfl, nI_mul, xat_nI (by omega) (by decide), Nat.mul_comm, show 64 * (2 ^ c - 1) = 64 * (2 ^ c - 1) + 0 from rfl, v1]
end LN
