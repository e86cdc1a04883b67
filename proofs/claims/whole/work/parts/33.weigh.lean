/-! CALL weigh: hidden weights on both sides -/
/-- what a heap weighs, its things below k -/
def yHs (B : yT) (a : Nat) : Nat → Nat
  | 0 => 0
  | t + 1 => yHs B a t + a / 2 ^ t % 2 * B 8 t
theorem r_xbit : ∀ a, a < 32 → ∀ t, t < 5 → xbit (nI a) (nI t) = nI (a / 2 ^ t % 2) := by decide +kernel
theorem r_sbit : ∀ a, a < 32 → ∀ t, t < 5 → (nI a >>> (nI t &&& 31)) &&& 1 = nI (a / 2 ^ t % 2) := by decide +kernel
theorem r_hibit : ∀ n, n < 6 → ∀ a, a < 2 ^ n → ∀ t, t < 5 → n ≤ t → a / 2 ^ t % 2 = 0 := by decide +kernel
theorem yHs_le {n : Nat} {B : yT} (hw : ∀ k, k < n → 1 ≤ B 8 k ∧ B 8 k ≤ 999) (a : Nat) : ∀ k, k ≤ n → yHs B a k ≤ 999 * k := by
  intro k
  induction k with
  | zero => intro _; exact Nat.le_refl _
  | succ k ih =>
    intro hk
    have h1 := ih (by omega)
    have h2 := (hw k (by omega)).2
    have h3 : a / 2 ^ k % 2 * B 8 k ≤ 1 * B 8 k := Nat.mul_le_mul_right _ (by omega)
    show yHs B a k + a / 2 ^ k % 2 * B 8 k ≤ _
    omega
section OPW
variable {g : xSt} {β n : Nat} {T B : yT} {a1 a2 a3 a4 a5 : Int32}
theorem yHs_top {a : Nat} (hn : n < 6) (ha : a < 2 ^ n) : yHs B a 5 = yHs B a n := by
  have : ∀ m k, k + m = 5 → n ≤ k → yHs B a 5 = yHs B a k := by
    intro m
    induction m with
    | zero => intro k hk _; rw [show k = 5 by omega]
    | succ m ih =>
      intro k hk hnk
      rw [ih (k + 1) (by omega) (by omega)]
      show yHs B a k + a / 2 ^ k % 2 * B 8 k = _
      rw [r_hibit n hn a ha k (by omega) hnk, Nat.zero_mul, Nat.add_zero]
  exact this (5 - n) n (by omega) (Nat.le_refl _)
theorem r_heapOf {c a : Nat} (h : bkC g c n B) (hn : n < 6) (ha : a < 2 ^ n) (h32 : a < 32) : E_X0_heapOf c (nI a) g = some (nI (yHs B a 5)) := by
  unfold E_X0_heapOf
  have e := xlim_of (step := S_X0_heapOf_4 c (nI a) g) (fun j => (nI (yHs B a j), nI j)) 5 (e := nI (yHs B a 5)) (fun j hj => ?_) ?_
  · rw [show ((0 : Int32), (0 : Int32)) = (nI (yHs B a 0), nI 0) from rfl, e, xb1_some]
  · unfold S_X0_heapOf_4
    have h5 : ¬ (5 : Int32) ≤ nI j := by rw [show (5 : Int32) = nI 5 from rfl]; exact nI_ge hj (by decide)
    simp only [if_neg h5, r_xbit a h32 j hj]
    by_cases q : a / 2 ^ j % 2 = 0
    · rw [q, if_pos (show nI 0 = 0 by decide)]
      show some (Sum.inl (nI (yHs B a j), nI j + 1)) = some (Sum.inl (nI (yHs B a j + a / 2 ^ j % 2 * B 8 j), nI (j + 1)))
      rw [q, Nat.zero_mul, Nat.add_zero, nI_1]
    · have q1 : a / 2 ^ j % 2 = 1 := by omega
      have hjn : j < n := by
        rcases Nat.lt_or_ge j n with z | z
        · exact z
        · exact absurd (r_hibit n hn a ha j hj z) q
      rw [q1, if_neg (by decide), xat_nI hj (by decide), h.2.2.2.2.2.2 j hjn]
      show some (Sum.inl (nI (yHs B a j) + nI (B 8 j), nI j + 1)) = some (Sum.inl (nI (yHs B a j + a / 2 ^ j % 2 * B 8 j), nI (j + 1)))
      rw [q1, Nat.one_mul, nI_add, nI_1]
  · unfold S_X0_heapOf_4
    exact if_pos (show (5 : Int32) ≤ nI 5 by decide)
theorem r_step (x y h p q : Nat) (hp : p = 0 ∨ p = 1) (hq : q = 0 ∨ q = 1) : nI x - nI y + (nI p - nI q) * nI h = nI (x + p * h) - nI (y + q * h) := by
  rw [← nI_add, ← nI_add, ← nI_mul, ← nI_mul]
  generalize nI x = X
  generalize nI y = Y
  generalize nI p = P
  generalize nI q = Q
  generalize nI h = H
  grind
theorem r_loopR {a b : Nat} (ht : I_town g β T) (h : bkR g (T 0 0) B) (ha : a < 32) (hb : b < 32) : xlim (S_X12_weigh_25 (nI a) (nI b)) (0, 0, g) = some (nI (yHs B a (T 0 0)) - nI (yHs B b (T 0 0)), g) := by
  have hn := ht.1.1
  have e := xlim_of (step := S_X12_weigh_25 (nI a) (nI b)) (fun j => (nI (yHs B a j) - nI (yHs B b j), nI j, g)) (T 0 0) (e := (nI (yHs B a (T 0 0)) - nI (yHs B b (T 0 0)), g)) (fun j hj => ?_) ?_
  · have z : ((0 : Int32), (0 : Int32), g) = (nI (yHs B a 0) - nI (yHs B b 0), nI 0, g) := by
      show _ = (nI 0 - nI 0, nI 0, g)
      rw [show nI 0 - nI 0 = (0 : Int32) by decide]
      rfl
    rw [z, e]
  · unfold S_X12_weigh_25
    simp only [r_thingMany ht, xb1_some, if_neg (nI_ge hj (show T 0 0 < 2 ^ 31 by omega)), xck_nI (show j < 5 by omega) (show (5 : Nat) < 2 ^ 31 by decide), nI_clamp (show j < 2 ^ 31 by omega), r_sbit a ha j (by omega), r_sbit b hb j (by omega), h.2.2.2.2.2.2 j hj]
    rw [r_step _ _ _ _ _ (by omega) (by omega), nI_1]
    rfl
  · unfold S_X12_weigh_25
    simp only [r_thingMany ht, xb1_some]
    rw [if_pos (nI_le (Nat.le_refl _) (by omega))]
theorem r_diff {x y : Nat} (hx : x < 10000) (hy : y < 10000) : (nI x - nI y).toInt = (x : Int) - y := by
  rw [Int32.toInt_sub, nI_toInt (by omega), nI_toInt (by omega)]
  rw [Int.bmod_eq_of_le] <;> omega
theorem r_says {x y st : Nat} (hx : x < 10000) (hy : y < 10000) (hs : st ≤ 99) : ∃ s, s ≤ 2 ∧ (if nI x - nI y ≤ nI st then (if -(nI x - nI y) ≤ nI st then (0 : Int32) else 2) else 1) = nI s ∧ (if nI x - nI y ≤ nI st then (if -nI st ≤ nI x - nI y then (0 : Int32) else 2) else 1) = nI s := by
  have e := r_diff hx hy
  have e1 : (-(nI x - nI y)).toInt = (y : Int) - x := by
    rw [Int32.toInt_neg, e]
    rw [Int.bmod_eq_of_le] <;> omega
  have e2 : (-nI st).toInt = -(st : Int) := by
    rw [Int32.toInt_neg, nI_toInt (by omega)]
    rw [Int.bmod_eq_of_le] <;> omega
  have k : (-(nI x - nI y) ≤ nI st) ↔ (-nI st ≤ nI x - nI y) := by
    rw [Int32.le_iff_toInt_le, Int32.le_iff_toInt_le, e, e1, e2, nI_toInt (by omega)]
    omega
  by_cases q : nI x - nI y ≤ nI st
  · rw [if_pos q, if_pos q]
    by_cases q1 : -(nI x - nI y) ≤ nI st
    · rw [if_pos q1, if_pos (k.mp q1)]; exact ⟨0, by decide, rfl, rfl⟩
    · rw [if_neg q1, if_neg (fun z => q1 (k.mpr z))]; exact ⟨2, by decide, rfl, rfl⟩
  · rw [if_neg q, if_neg q]; exact ⟨1, by decide, rfl, rfl⟩
theorem wC_ag {m : Nat} {x1 x2 x3 : Int32} : yAg (fun o k => (33 ≤ o ∧ o ≤ 38) ∨ (o = 32 ∧ k = 0)) g (wC g 32 m x1 x2 x3) := ⟨rfl, fun o k h => by rw [wC_out (by omega) (by omega)]⟩
theorem op_4 (W : xWf g) (ht : I_town g β T) (hb : I_book g (T 0 0) B) : ∃ g' B', O_4 a1 a2 a3 a4 a5 g = some (true, g') ∧ I_book g' (T 0 0) B' ∧ yAg (fun o k => (33 ≤ o ∧ o ≤ 38) ∨ (o = 32 ∧ k = 0) ∨ (136 ≤ o ∧ o ≤ 140) ∨ (o = 113 ∧ k = 44)) g g' := by
  have hm := hb.1.1
  have hc0 := hb.2.1.1
  have hr0 := hb.2.2.1
  have hn : T 0 0 < 6 := Nat.lt_succ_of_le ht.1.1
  have h32 : 2 ^ T 0 0 ≤ 32 := Nat.pow_le_pow_right (n := 2) (by decide) (show T 0 0 ≤ 5 from ht.1.1)
  unfold O_4 E_X11_weigh
  rcases r_heaps (a1 := a1) (a2 := a2) ht with ⟨p1, p2⟩ | ⟨a, b, rfl, rfl, ha, hbb, hab, p1, p2⟩
  · exact ⟨g, B, by rw [if_pos p1, xb2_some]; unfold E_X12_weigh; rw [p2, xb1_some, if_pos rfl, xb2_some]; simp, hb, yAg.refl _ _⟩
  · rw [p1, if_neg (by decide)]
    unfold F_X0_isFull
    rw [hc0]
    by_cases q2 : B 9 0 = 60
    · refine ⟨g, B, ?_, hb, yAg.refl _ _⟩
      rw [q2, if_neg (by decide), xb2_some]
      unfold E_X12_weigh
      rw [p2, xb1_some, if_neg (by decide), hr0, q2, if_pos (by decide), xb2_some]
      simp
    · have hm2 : B 9 0 < 60 := by omega
      have hlt : nI (B 9 0) < (60 : Int32) := by rw [show (60 : Int32) = nI 60 from rfl]; exact nI_lt hm2 (by decide)
      have hw := hb.1.2.2.2.2.2.2
      have ya := Nat.le_trans (yHs_le hw a (T 0 0) (Nat.le_refl _)) (Nat.mul_le_mul_left 999 ht.1.1)
      have yb := Nat.le_trans (yHs_le hw b (T 0 0) (Nat.le_refl _)) (Nat.mul_le_mul_left 999 ht.1.1)
      obtain ⟨s, hs2, s1, s2⟩ := r_says (x := yHs B a (T 0 0)) (y := yHs B b (T 0 0)) (st := T 0 2) (by omega) (by omega) ht.1.2.2.1
      have hbal : E_X0_balance 32 (tw g) (nI a) (nI b) g = some (nI s) := by
        unfold E_X0_balance
        rw [r_heapOf hb.2.1 hn ha.2 (by omega), xb1_some, r_heapOf hb.2.1 hn hbb.2 (by omega), xb1_some, yHs_top hn ha.2, yHs_top hn hbb.2, ht.2.1.2.2.1, ← s1]
        by_cases z1 : nI (yHs B a (T 0 0)) - nI (yHs B b (T 0 0)) ≤ nI (T 0 2)
        · rw [if_pos z1, if_pos z1]
          by_cases z2 : -(nI (yHs B a (T 0 0)) - nI (yHs B b (T 0 0))) ≤ nI (T 0 2)
          · rw [if_pos z2, if_pos z2]
          · rw [if_neg z2, if_neg z2]
        · rw [if_neg z1, if_neg z1]
      rw [if_pos hlt, if_pos rfl, hbal, xb1_some, r_writeC hc0 hm2, xb2_some, xb2_some]
      have htw := xtw_lt (xtw W)
      have ht2 : I_town (wC g 32 (B 9 0) (nI a) (nI b) (nI s)) β T := ht.ag W wC_ag (fun j k hj => by omega) (fun o k h => by simp only [List.mem_cons, List.not_mem_nil, or_false] at h; omega) (by omega)
      have hbr : bkR (wC g 32 (B 9 0) (nI a) (nI b) (nI s)) (T 0 0) B := hb.2.2.ag wC_ag (fun o k h => by simp only [List.mem_cons, List.not_mem_nil, or_false] at h; show ¬ ((33 ≤ o ∧ o ≤ 38) ∨ (o = 32 ∧ k = 0)); omega) (by omega) (by omega) (by omega) (by omega)
      have h60 : ¬ nI (B 9 0) = (60 : Int32) := by rw [show (60 : Int32) = nI 60 from rfl, nI_eq (by omega) (by decide)]; omega
      have hsb : E_X12_saysBy (nI (yHs B a (T 0 0)) - nI (yHs B b (T 0 0))) (wC g 32 (B 9 0) (nI a) (nI b) (nI s)) = some (nI s) := by
        unfold E_X12_saysBy
        have hβ := ht2.2.2.1
        rw [ht2.2.2.2.1, xck_nI (by omega) (by decide), nI_clamp (by omega), ht2.2.2.2.2.2.2.1, xck_nI (by omega) (by decide), ← s2]
        by_cases z1 : nI (yHs B a (T 0 0)) - nI (yHs B b (T 0 0)) ≤ nI (T 0 2)
        · rw [if_pos z1, if_pos z1]
          by_cases z2 : -nI (T 0 2) ≤ nI (yHs B a (T 0 0)) - nI (yHs B b (T 0 0))
          · rw [if_pos z2, if_pos z2]
          · rw [if_neg z2, if_neg z2]
        · rw [if_neg z1, if_neg z1]
      refine ⟨_, yApp B a b s, ?_, r_both hb hm2 ha hbb hab hs2, r_bothAg⟩
      unfold E_X12_weigh
      rw [r_heapsE ht ht2, p2, xb1_some, if_neg (by decide), hbr.1, if_neg h60, r_loopR ht2 hbr (by omega) (by omega), xb1_some, hsb, xb1_some, r_writeR hbr.1 hm2, xb1_some, xb2_some]
      simp
end OPW
