/-! CALLS on the book: untell, told -/
theorem xput_nI {g : xSt} {o n j : Nat} {v : Int32} (hj : j < n) (hn : n < 2 ^ 31) : xput g o n (nI j) v = xWI g o j v := by
  unfold xput
  rw [if_neg (nI_in hj hn), nI_clamp (by omega)]
theorem bkOK.unt {n : Nat} {B : yT} {j v : Nat} (h : bkOK n B) (h2 : v ≤ B 9 2 + 1) : bkOK n (ySet B 4 j v) := by
  obtain ⟨w1, w2, w3, w4, w5, w6, w7⟩ := h
  refine ⟨w1, w2, w3, w4, fun i hi => ?_, w6, w7⟩
  obtain ⟨c1, c2, c3, c4, c5, c6, c7⟩ := w5 i hi
  refine ⟨c1, c2, c3, c4, c5, ?_, c7⟩
  by_cases e : i = j
  · rw [e, ySet_eq]; exact h2
  · rw [ySet_ne B v (fun q => e q.2)]; exact c6
theorem bkC.unt {g g' : xSt} {b n : Nat} {B : yT} {j v : Nat} (h : bkC g b n B) (e : ∀ o k, b ≤ o → o ≤ b + 8 → ¬ (o = b + 5 ∧ k = j) → xI g' o k = xI g o k) (ht : xI g' (b + 5) j = nI v - 1) : bkC g' b n (ySet B 4 j v) := by
  obtain ⟨h0, h1, h2, h3, h4, h5, h6⟩ := h
  refine ⟨(e b 0 (by omega) (by omega) (by omega)).trans h0, (e b 1 (by omega) (by omega) (by omega)).trans h1, (e b 2 (by omega) (by omega) (by omega)).trans h2, (e b 3 (by omega) (by omega) (by omega)).trans h3, fun i hi => ?_, fun w hw => (e (b + 7) w (by omega) (by omega) (by omega)).trans (h5 w hw), fun k hk => (e (b + 8) k (by omega) (by omega) (by omega)).trans (h6 k hk)⟩
  obtain ⟨c1, c2, c3, c4, c5, c6⟩ := h4 i hi
  refine ⟨(e (b + 1) i (by omega) (by omega) (by omega)).trans c1, (e (b + 2) i (by omega) (by omega) (by omega)).trans c2, (e (b + 3) i (by omega) (by omega) (by omega)).trans c3, (e (b + 4) i (by omega) (by omega) (by omega)).trans c4, ?_, (e (b + 6) i (by omega) (by omega) (by omega)).trans c6⟩
  by_cases q : i = j
  · rw [q, ySet_eq]; exact ht
  · rw [ySet_ne B v (fun z => q z.2), e (b + 5) i (by omega) (by omega) (fun z => q z.2)]; exact c5
theorem bkR.unt {g g' : xSt} {n : Nat} {B : yT} {j v : Nat} (h : bkR g n B) (e : ∀ o k, ¬ (o = 140 ∧ k = j) → (o = 113 ∨ 136 ≤ o) → xI g' o k = xI g o k) (ht : xI g' 140 j = nI v - 1) : bkR g' n (ySet B 4 j v) := by
  obtain ⟨h0, h1, h2, h3, h4, h5, h6⟩ := h
  refine ⟨(e 113 44 (by omega) (by omega)).trans h0, (e 113 46 (by omega) (by omega)).trans h1, (e 113 45 (by omega) (by omega)).trans h2, (e 113 47 (by omega) (by omega)).trans h3, fun i hi => ?_, fun w hw => ⟨(e 141 w (by omega) (by omega)).trans (h5 w hw).1, (e 142 w (by omega) (by omega)).trans (h5 w hw).2⟩, fun k hk => (e 143 k (by omega) (by omega)).trans (h6 k hk)⟩
  obtain ⟨c1, c2, c3, c4, c5⟩ := h4 i hi
  refine ⟨(e 136 i (by omega) (by omega)).trans c1, (e 137 i (by omega) (by omega)).trans c2, (e 138 i (by omega) (by omega)).trans c3, (e 139 i (by omega) (by omega)).trans c4, ?_⟩
  by_cases q : i = j
  · rw [q, ySet_eq]; exact ht
  · rw [ySet_ne B v (fun z => q z.2), e 140 i (fun z => q z.2) (by omega)]; exact c5
/-- untold or not, on both sides -/
theorem r_unt {v : Nat} (hv : v < 2 ^ 31) : (nI v - 1 = -1 ↔ v = 0) ∧ (nI v - 1 < 0 ↔ v = 0) := by
  rcases Nat.eq_zero_or_pos v with h0 | h0
  · subst h0; decide
  · obtain ⟨z, rfl⟩ : ∃ z, v = z + 1 := ⟨v - 1, by omega⟩
    rw [nI_pred]
    exact ⟨⟨fun e => absurd (e ▸ nI_pos (n := z) (by omega)) (by decide), fun e => absurd e (by omega)⟩, ⟨fun e => absurd e (nI_pos (by omega)), fun e => absurd e (by omega)⟩⟩
section OPU
variable {g : xSt} {β n : Nat} {T B : yT} {X : Nat → yT} {a1 a2 a3 a4 a5 : Int32}
theorem op_8 (hb : I_book g n B) : ∃ g' B', O_8 a1 a2 a3 a4 a5 g = some (true, g') ∧ I_book g' n B' ∧ yAg (fun o _ => o = 37 ∨ o = 140) g g' := by
  obtain ⟨w, b1, b2⟩ := id hb
  have hm := w.1
  unfold O_8 E_X11_untell E_X0_strike F_X0_has
  rw [b1.1]
  by_cases q0 : a1 < 0
  · have : F_X12_isIn g a1 0 (nI (B 9 0) - 1) = 0 := if_pos q0
    exact ⟨g, B, by simp [q0, this, xb2_some, E_X12_untell, b2.1], hb, yAg.refl _ _⟩
  · by_cases q1 : nI (B 9 0) ≤ a1
    · have : F_X12_isIn g a1 0 (nI (B 9 0) - 1) = 0 := (r_isIn (by omega)).mpr (fun ⟨j, hj, e⟩ => by rw [e] at q1; exact nI_ge hj (by omega) q1)
      exact ⟨g, B, by simp [q0, q1, this, xb2_some, E_X12_untell, b2.1], hb, yAg.refl _ _⟩
    · obtain ⟨j, hj, rfl⟩ := r_lt (by omega) q0 q1
      obtain ⟨c1, c2, c3, c4, c5, c6⟩ := b1.2.2.2.2.1 j hj
      obtain ⟨d1, d2, d3, d4, d5⟩ := b2.2.2.2.2.1 j hj
      have hu := (w.2.2.2.2.1 j hj).2.2.2.2.2.1
      have htm := w.2.2.1
      obtain ⟨u1, u2⟩ := r_unt (v := B 4 j) (by omega)
      rw [if_neg q0, if_neg q1, if_neg (by decide)]
      unfold F_X0_isUntold
      rw [xat_nI (by omega) (by decide), c5]
      have hin : ∀ g : xSt, ¬ F_X12_isIn g (nI j) 0 (nI (B 9 0) - 1) = 0 := fun g => r_isIn1 (by omega) hj
      by_cases hz : B 4 j = 0
      · rw [if_pos (u1.mpr hz), if_pos rfl, xb2_some, xput_nI (by omega) (by decide), b1.2.2.1, xb2_some]
        have e1 : xI (xWI g 37 j (nI (B 9 2))) 113 44 = nI (B 9 0) := by rw [yI_wi, if_neg (by omega)]; exact b2.1
        have e2 : xI (xWI g 37 j (nI (B 9 2))) 113 45 = nI (B 9 2) := by rw [yI_wi, if_neg (by omega)]; exact b2.2.2.1
        have e3 : xI (xWI g 37 j (nI (B 9 2))) 140 j = nI (B 4 j) - 1 := by rw [yI_wi, if_neg (by omega)]; exact d5
        refine ⟨xWI (xWI g 37 j (nI (B 9 2))) 140 j (nI (B 9 2)), ySet B 4 j (B 9 2 + 1), ?_, ⟨w.unt (Nat.le_refl _), b1.unt (fun o k h1 h2 h3 => ?_) ?_, b2.unt (fun o k h1 h2 => ?_) ?_⟩, ((yAg.refl _ g).wi (Or.inl rfl)).wi (Or.inr rfl)⟩
        · unfold E_X12_untell
          rw [e1, if_neg (hin _), xck_nI (by omega) (by decide), nI_clamp (by omega), e3, if_pos (u2.mpr hz), xck_nI (by omega) (by decide), e2, xb2_some]
          simp
        · rw [yI_wi, if_neg (by omega), yI_wi, if_neg (by omega)]
        · rw [yI_wi, if_neg (by omega), yI_wi, if_pos ⟨rfl, rfl⟩, nI_pred]
        · rw [yI_wi, if_neg (by omega), yI_wi, if_neg (by omega)]
        · rw [yI_wi, if_pos ⟨rfl, rfl⟩, nI_pred]
      · refine ⟨g, B, ?_, hb, yAg.refl _ _⟩
        rw [if_neg (fun e => hz (u1.mp e)), if_neg (by decide), xb2_some, xb2_some]
        unfold E_X12_untell
        rw [b2.1, if_neg (hin _), xck_nI (by omega) (by decide), nI_clamp (by omega), d5, if_neg (fun e => hz (u2.mp e)), xb2_some]
        simp
end OPU
/-! heaps -/
theorem r_shl : ∀ n, n < 6 → (1 : Int32) <<< (nI n &&& 31) = nI (2 ^ n) := by decide
theorem r_and : ∀ a, a < 32 → ∀ b, b < 32 → (nI a &&& nI b = 0 ↔ a &&& b = 0) := by decide +kernel
theorem r_heap {g : xSt} {t n : Nat} {a1 : Int32} (hn : n < 6) (h : xI g t 0 = nI n) : (F_X10_isHeap g t a1 = 0 ∧ (a1 ≤ 0 ∨ nI (2 ^ n) ≤ a1)) ∨ ∃ a, a1 = nI a ∧ 0 < a ∧ a < 2 ^ n ∧ F_X10_isHeap g t a1 = 1 ∧ ¬ a1 ≤ 0 ∧ ¬ nI (2 ^ n) ≤ a1 := by
  unfold F_X10_isHeap
  rw [h, r_shl n hn]
  have h32 : 2 ^ n ≤ 32 := by
    match n, hn with
    | 0, _ => decide
    | 1, _ => decide
    | 2, _ => decide
    | 3, _ => decide
    | 4, _ => decide
    | 5, _ => decide
    | n + 6, hn => omega
  by_cases q : a1 ≤ 0
  · rw [if_pos q]; exact Or.inl ⟨rfl, Or.inl q⟩
  · rw [if_neg q]
    by_cases q1 : nI (2 ^ n) ≤ a1
    · rw [if_pos q1]; exact Or.inl ⟨rfl, Or.inr q1⟩
    · rw [if_neg q1]
      have q0 : ¬ a1 < 0 := fun e => q (Int32.le_of_lt e)
      obtain ⟨j, hj, rfl⟩ := r_lt (by omega) q0 q1
      refine Or.inr ⟨j, rfl, ?_, hj, rfl, q, q1⟩
      rcases Nat.eq_zero_or_pos j with e | e
      · subst e; exact absurd (by decide) q
      · exact e
section OPH
variable {g : xSt} {β : Nat} {T : yT} {a1 a2 : Int32}
theorem r_heaps (h : I_town g β T) : (F_X10_hasHeaps g (tw g) a1 a2 = 0 ∧ E_X12_areHeaps a1 a2 g = some 0) ∨ ∃ a b, a1 = nI a ∧ a2 = nI b ∧ (0 < a ∧ a < 2 ^ T 0 0) ∧ (0 < b ∧ b < 2 ^ T 0 0) ∧ a &&& b = 0 ∧ F_X10_hasHeaps g (tw g) a1 a2 = 1 ∧ E_X12_areHeaps a1 a2 g = some 1 := by
  have hn : T 0 0 < 6 := Nat.lt_succ_of_le h.1.1
  have h0 := h.2.1.1
  unfold F_X10_hasHeaps E_X12_areHeaps
  rw [r_thingMany h, xb1_some, r_shl _ hn]
  rcases r_heap (a1 := a1) hn h0 with ⟨p1, p2⟩ | ⟨a, rfl, a1', a2', p1, p2, p3⟩
  · left
    rw [if_pos p1]
    refine ⟨rfl, ?_⟩
    by_cases q : a1 ≤ 0
    · rw [if_pos q]
    · rw [if_neg q]
      by_cases q2 : a2 ≤ 0
      · rw [if_pos q2]
      · rw [if_neg q2, if_pos (p2.resolve_left q)]
  · rw [p1, if_neg (by decide), if_neg p2]
    rcases r_heap (a1 := a2) hn h0 with ⟨r1, r2⟩ | ⟨b, rfl, b1, b2, r1, r2, r3⟩
    · left
      rw [if_pos r1]
      refine ⟨rfl, ?_⟩
      by_cases q2 : a2 ≤ 0
      · rw [if_pos q2]
      · rw [if_neg q2, if_neg p3, if_pos (r2.resolve_left q2)]
    · rw [r1, if_neg (by decide), if_neg r2, if_neg p3, if_neg r3]
      have h32 : 2 ^ T 0 0 ≤ 32 := Nat.pow_le_pow_right (n := 2) (by decide) (show T 0 0 ≤ 5 from h.1.1)
      have key := r_and a (by omega) b (by omega)
      by_cases q : a &&& b = 0
      · rw [if_pos (key.mpr q)]
        exact Or.inr ⟨a, b, rfl, rfl, ⟨a1', a2'⟩, ⟨b1, b2⟩, q, rfl, xz01_in (Or.inr rfl)⟩
      · rw [if_neg (fun e => q (key.mp e))]
        exact Or.inl ⟨rfl, xz01_in (Or.inl rfl)⟩
end OPH
/-! a weighing more -/
def yApp (B : yT) (a b s : Nat) : yT := fun r i => if i = B 9 0 ∧ r ≤ 5 then (match r with
  | 0 => a
  | 1 => b
  | 2 => s
  | 3 => B 9 2
  | 4 => 0
  | _ => B 9 1) else if r = 9 ∧ i = 0 then B 9 0 + 1 else B r i
theorem yApp_lt (B : yT) (a b s : Nat) {r i : Nat} (hr : r ≤ 8) (hi : i < B 9 0) : yApp B a b s r i = B r i := by
  unfold yApp
  rw [if_neg (by omega), if_neg (by omega)]
theorem yApp_hi (B : yT) (a b s : Nat) {r i : Nat} (hr : 5 < r) (h : ¬ (r = 9 ∧ i = 0)) : yApp B a b s r i = B r i := by
  unfold yApp
  rw [if_neg (by omega), if_neg h]
theorem yApp_m (B : yT) (a b s : Nat) : yApp B a b s 9 0 = B 9 0 + 1 := by
  unfold yApp
  rw [if_neg (by omega), if_pos ⟨rfl, rfl⟩]
theorem yApp_new (B : yT) (a b s : Nat) : yApp B a b s 0 (B 9 0) = a ∧ yApp B a b s 1 (B 9 0) = b ∧ yApp B a b s 2 (B 9 0) = s ∧ yApp B a b s 3 (B 9 0) = B 9 2 ∧ yApp B a b s 4 (B 9 0) = 0 ∧ yApp B a b s 5 (B 9 0) = B 9 1 := by
  unfold yApp
  simp
theorem bkOK.app {n : Nat} {B : yT} {a b s : Nat} (h : bkOK n B) (hm : B 9 0 < 60) (ha : 0 < a ∧ a < 2 ^ n) (hb : 0 < b ∧ b < 2 ^ n) (hab : a &&& b = 0) (hs : s ≤ 2) : bkOK n (yApp B a b s) := by
  obtain ⟨w1, w2, w3, w4, w5, w6, w7⟩ := h
  have e1 : yApp B a b s 9 1 = B 9 1 := yApp_hi _ _ _ _ (by decide) (by decide)
  have e2 : yApp B a b s 9 2 = B 9 2 := yApp_hi _ _ _ _ (by decide) (by decide)
  have e3 : yApp B a b s 9 3 = B 9 3 := yApp_hi _ _ _ _ (by decide) (by decide)
  have e0 := yApp_m B a b s
  unfold bkOK
  rw [e0, e1, e2, e3]
  refine ⟨by omega, w2, w3, w4, fun i hi => ?_, fun w hw => ?_, fun k hk => ?_⟩
  · by_cases q : i = B 9 0
    · obtain ⟨n0, n1, n2, n3, n4, n5⟩ := yApp_new B a b s
      rw [q, n0, n1, n2, n3, n4, n5]
      exact ⟨ha, hb, hab, hs, Nat.le_refl _, Nat.zero_le _, Nat.le_refl _⟩
    · have hi2 : i < B 9 0 := by omega
      rw [yApp_lt _ _ _ _ (by decide) hi2, yApp_lt _ _ _ _ (by decide) hi2, yApp_lt _ _ _ _ (by decide) hi2, yApp_lt _ _ _ _ (by decide) hi2, yApp_lt _ _ _ _ (by decide) hi2, yApp_lt _ _ _ _ (by decide) hi2]
      exact w5 i hi2
  · obtain ⟨c1, c2, c3, c4⟩ := w6 w hw
    rw [yApp_hi B a b s (r := 6) (by decide) (by omega), yApp_hi B a b s (r := 7) (by decide) (by omega)]
    refine ⟨c1, fun v h1 h2 => ?_, by omega, fun i hi => ?_⟩
    · rw [yApp_hi B a b s (r := 6) (by decide) (by omega)]; exact c2 v h1 h2
    · by_cases q : i = B 9 0
      · rw [q, (yApp_new B a b s).2.2.2.2.2]
        omega
      · rw [yApp_lt _ _ _ _ (by decide) (show i < B 9 0 by omega)]
        exact c4 i (by omega)
  · rw [yApp_hi B a b s (r := 8) (by decide) (by omega)]; exact w7 k hk
theorem bkC.app {g g' : xSt} {c n : Nat} {B : yT} {a b s : Nat} (h : bkC g c n B) (e : ∀ o k, c ≤ o → o ≤ c + 8 → ¬ (c + 1 ≤ o ∧ o ≤ c + 6 ∧ k = B 9 0) → ¬ (o = c ∧ k = 0) → xI g' o k = xI g o k) (hm : xI g' c 0 = nI (B 9 0 + 1)) (h1 : xI g' (c + 1) (B 9 0) = nI a) (h2 : xI g' (c + 2) (B 9 0) = nI b) (h3 : xI g' (c + 3) (B 9 0) = nI s) (h4 : xI g' (c + 4) (B 9 0) = nI (B 9 2)) (h5 : xI g' (c + 5) (B 9 0) = -1) (h6 : xI g' (c + 6) (B 9 0) = nI (B 9 1)) : bkC g' c n (yApp B a b s) := by
  obtain ⟨q0, q1, q2, q3, q4, q5, q6⟩ := h
  have e1 : yApp B a b s 9 1 = B 9 1 := yApp_hi _ _ _ _ (by decide) (by decide)
  have e2 : yApp B a b s 9 2 = B 9 2 := yApp_hi _ _ _ _ (by decide) (by decide)
  have e3 : yApp B a b s 9 3 = B 9 3 := yApp_hi _ _ _ _ (by decide) (by decide)
  have e0 := yApp_m B a b s
  unfold bkC
  rw [e0, e1, e2, e3]
  refine ⟨hm, (e c 1 (by omega) (by omega) (by omega) (by omega)).trans q1, (e c 2 (by omega) (by omega) (by omega) (by omega)).trans q2, (e c 3 (by omega) (by omega) (by omega) (by omega)).trans q3, fun i hi => ?_, fun w hw => ?_, fun k hk => ?_⟩
  · by_cases q : i = B 9 0
    · obtain ⟨n0, n1, n2, n3, n4, n5⟩ := yApp_new B a b s
      rw [q, n0, n1, n2, n3, n4, n5]
      exact ⟨h1, h2, h3, h4, h5, h6⟩
    · have hi2 : i < B 9 0 := by omega
      rw [yApp_lt _ _ _ _ (by decide) hi2, yApp_lt _ _ _ _ (by decide) hi2, yApp_lt _ _ _ _ (by decide) hi2, yApp_lt _ _ _ _ (by decide) hi2, yApp_lt _ _ _ _ (by decide) hi2, yApp_lt _ _ _ _ (by decide) hi2]
      obtain ⟨c1, c2, c3, c4, c5, c6⟩ := q4 i hi2
      exact ⟨(e _ i (by omega) (by omega) (by omega) (by omega)).trans c1, (e _ i (by omega) (by omega) (by omega) (by omega)).trans c2, (e _ i (by omega) (by omega) (by omega) (by omega)).trans c3, (e _ i (by omega) (by omega) (by omega) (by omega)).trans c4, (e _ i (by omega) (by omega) (by omega) (by omega)).trans c5, (e _ i (by omega) (by omega) (by omega) (by omega)).trans c6⟩
  · rw [yApp_hi B a b s (r := 6) (by decide) (by omega)]; exact (e _ w (by omega) (by omega) (by omega) (by omega)).trans (q5 w hw)
  · rw [yApp_hi B a b s (r := 8) (by decide) (by omega)]; exact (e _ k (by omega) (by omega) (by omega) (by omega)).trans (q6 k hk)
theorem bkR.app {g g' : xSt} {n : Nat} {B : yT} {a b s : Nat} (h : bkR g n B) (e : ∀ o k, (o = 113 ∨ 136 ≤ o) → ¬ (136 ≤ o ∧ o ≤ 140 ∧ k = B 9 0) → ¬ (o = 113 ∧ k = 44) → xI g' o k = xI g o k) (hm : xI g' 113 44 = nI (B 9 0 + 1)) (h1 : xI g' 136 (B 9 0) = nI a) (h2 : xI g' 137 (B 9 0) = nI b) (h3 : xI g' 138 (B 9 0) = nI s) (h4 : xI g' 139 (B 9 0) = nI (B 9 2)) (h5 : xI g' 140 (B 9 0) = -1) : bkR g' n (yApp B a b s) := by
  obtain ⟨q0, q1, q2, q3, q4, q5, q6⟩ := h
  have e1 : yApp B a b s 9 1 = B 9 1 := yApp_hi _ _ _ _ (by decide) (by decide)
  have e2 : yApp B a b s 9 2 = B 9 2 := yApp_hi _ _ _ _ (by decide) (by decide)
  have e3 : yApp B a b s 9 3 = B 9 3 := yApp_hi _ _ _ _ (by decide) (by decide)
  have e0 := yApp_m B a b s
  unfold bkR
  rw [e0, e1, e2, e3]
  refine ⟨hm, (e 113 46 (by omega) (by omega) (by omega)).trans q1, (e 113 45 (by omega) (by omega) (by omega)).trans q2, (e 113 47 (by omega) (by omega) (by omega)).trans q3, fun i hi => ?_, fun w hw => ?_, fun k hk => ?_⟩
  · by_cases q : i = B 9 0
    · obtain ⟨n0, n1, n2, n3, n4, n5⟩ := yApp_new B a b s
      rw [q, n0, n1, n2, n3, n4]
      exact ⟨h1, h2, h3, h4, h5⟩
    · have hi2 : i < B 9 0 := by omega
      rw [yApp_lt _ _ _ _ (by decide) hi2, yApp_lt _ _ _ _ (by decide) hi2, yApp_lt _ _ _ _ (by decide) hi2, yApp_lt _ _ _ _ (by decide) hi2, yApp_lt _ _ _ _ (by decide) hi2]
      obtain ⟨c1, c2, c3, c4, c5⟩ := q4 i hi2
      exact ⟨(e _ i (by omega) (by omega) (by omega)).trans c1, (e _ i (by omega) (by omega) (by omega)).trans c2, (e _ i (by omega) (by omega) (by omega)).trans c3, (e _ i (by omega) (by omega) (by omega)).trans c4, (e _ i (by omega) (by omega) (by omega)).trans c5⟩
  · rw [yApp_hi B a b s (r := 6) (by decide) (by omega), yApp_hi B a b s (r := 7) (by decide) (by omega)]
    exact ⟨(e _ w (by omega) (by omega) (by omega)).trans (q5 w hw).1, (e _ w (by omega) (by omega) (by omega)).trans (q5 w hw).2⟩
  · rw [yApp_hi B a b s (r := 8) (by decide) (by omega)]; exact (e _ k (by omega) (by omega) (by omega)).trans (q6 k hk)
/-- what write leaves -/
def wC (g : xSt) (c m : Nat) (x1 x2 x3 : Int32) : xSt := xWI (xWI (xWI (xWI (xWI (xWI (xWI g (c + 1) m x1) (c + 2) m x2) (c + 3) m x3) (c + 4) m (xI g c 2)) (c + 5) m (-1)) (c + 6) m (xI g c 1)) c 0 (nI (m + 1))
def wR (g : xSt) (m : Nat) (x1 x2 x3 : Int32) : xSt := xWI (xWI (xWI (xWI (xWI (xWI g 136 m x1) 137 m x2) 138 m x3) 139 m (xI g 113 45)) 140 m (-1)) 113 44 (nI (m + 1))
section OPA
variable {g : xSt} {β n : Nat} {T B : yT} {a1 a2 a3 a4 a5 : Int32}
theorem r_writeC {c m : Nat} (h : xI g c 0 = nI m) (hm : m < 60) : E_X0_write c a1 a2 a3 g = some (nI m, wC g c m a1 a2 a3) := by
  unfold E_X0_write wC
  simp only [h, xput_nI hm (show (60 : Nat) < 2 ^ 31 by decide)]
  try simp only [yI_wi]
  simp [h, nI_1]
theorem r_writeR {m : Nat} (h : xI g 113 44 = nI m) (hm : m < 60) : E_X12_add a1 a2 a3 g = some (wR g m a1 a2 a3) := by
  unfold E_X12_add wR
  simp only [h, xck_nI hm (show (60 : Nat) < 2 ^ 31 by decide), nI_clamp (show m < 2 ^ 31 by omega)]
  try simp only [yI_wi]
  simp [h, nI_1]
theorem wC_out {c m o k : Nat} (h1 : ¬ (c + 1 ≤ o ∧ o ≤ c + 6 ∧ k = m)) (h2 : ¬ (o = c ∧ k = 0)) : xI (wC g c m a1 a2 a3) o k = xI g o k := by
  unfold wC
  rw [yI_wi, if_neg (by omega), yI_wi, if_neg (by omega), yI_wi, if_neg (by omega), yI_wi, if_neg (by omega), yI_wi, if_neg (by omega), yI_wi, if_neg (by omega), yI_wi, if_neg (by omega)]
theorem wR_out {m o k : Nat} (h1 : ¬ (136 ≤ o ∧ o ≤ 140 ∧ k = m)) (h2 : ¬ (o = 113 ∧ k = 44)) : xI (wR g m a1 a2 a3) o k = xI g o k := by
  unfold wR
  rw [yI_wi, if_neg (by omega), yI_wi, if_neg (by omega), yI_wi, if_neg (by omega), yI_wi, if_neg (by omega), yI_wi, if_neg (by omega), yI_wi, if_neg (by omega)]
/-- a weighing told on both sides -/
theorem r_both {a b s : Nat} (hb : I_book g n B) (hm : B 9 0 < 60) (ha : 0 < a ∧ a < 2 ^ n) (hbb : 0 < b ∧ b < 2 ^ n) (hab : a &&& b = 0) (hs : s ≤ 2) : I_book (wR (wC g 32 (B 9 0) (nI a) (nI b) (nI s)) (B 9 0) (nI a) (nI b) (nI s)) n (yApp B a b s) := by
  obtain ⟨w, b1, b2⟩ := hb
  have hc1 : xI g 32 1 = nI (B 9 1) := b1.2.1
  have hc2 : xI g 32 2 = nI (B 9 2) := b1.2.2.1
  have hr2 : xI (wC g 32 (B 9 0) (nI a) (nI b) (nI s)) 113 45 = nI (B 9 2) := (wC_out (by omega) (by omega)).trans b2.2.2.1
  refine ⟨w.app hm ha hbb hab hs, b1.app (fun o k h1 h2 h3 h4 => ?_) ?_ ?_ ?_ ?_ ?_ ?_ ?_, b2.app (fun o k h1 h2 h3 => ?_) ?_ ?_ ?_ ?_ ?_ ?_⟩
  · rw [wR_out (by omega) (by omega), wC_out (by omega) (by omega)]
  · rw [wR_out (by omega) (by omega)]; unfold wC; simp [yI_wi]
  · rw [wR_out (by omega) (by omega)]; unfold wC; simp [yI_wi]
  · rw [wR_out (by omega) (by omega)]; unfold wC; simp [yI_wi]
  · rw [wR_out (by omega) (by omega)]; unfold wC; simp [yI_wi]
  · rw [wR_out (by omega) (by omega)]; unfold wC; simp [yI_wi, hc2]
  · rw [wR_out (by omega) (by omega)]; unfold wC; simp [yI_wi]
  · rw [wR_out (by omega) (by omega)]; unfold wC; simp [yI_wi, hc1]
  · rw [wR_out (by omega) (by omega), wC_out (by omega) (by omega)]
  · unfold wR; simp [yI_wi]
  · unfold wR; simp [yI_wi]
  · unfold wR; simp [yI_wi]
  · unfold wR; simp [yI_wi]
  · unfold wR; simp [yI_wi, hr2]
  · unfold wR; simp [yI_wi]
theorem r_bothAg {m : Nat} {x1 x2 x3 y1 y2 y3 : Int32} : yAg (fun o k => (33 ≤ o ∧ o ≤ 38) ∨ (o = 32 ∧ k = 0) ∨ (136 ≤ o ∧ o ≤ 140) ∨ (o = 113 ∧ k = 44)) g (wR (wC g 32 m x1 x2 x3) m y1 y2 y3) :=
  ⟨rfl, fun o k h => by rw [wR_out (by omega) (by omega), wC_out (by omega) (by omega)]⟩
theorem r_heapsE {g1 : xSt} {β1 : Nat} (ht : I_town g β T) (ht2 : I_town g1 β1 T) : E_X12_areHeaps a1 a2 g1 = E_X12_areHeaps a1 a2 g := by
  unfold E_X12_areHeaps
  rw [r_thingMany ht, r_thingMany ht2]
theorem op_5 (W : xWf g) (ht : I_town g β T) (hb : I_book g (T 0 0) B) : ∃ g' B', O_5 a1 a2 a3 a4 a5 g = some (true, g') ∧ I_book g' (T 0 0) B' ∧ yAg (fun o k => (33 ≤ o ∧ o ≤ 38) ∨ (o = 32 ∧ k = 0) ∨ (136 ≤ o ∧ o ≤ 140) ∨ (o = 113 ∧ k = 44)) g g' := by
  have hm := hb.1.1
  have hc0 := hb.2.1.1
  have hr0 := hb.2.2.1
  unfold O_5 E_X11_told
  rcases r_heaps (a1 := a1) (a2 := a2) ht with ⟨p1, p2⟩ | ⟨a, b, rfl, rfl, ha, hbb, hab, p1, p2⟩
  · exact ⟨g, B, by rw [if_pos p1, xb2_some]; unfold E_X12_told; rw [p2, xb1_some, if_pos rfl, xb2_some]; simp, hb, yAg.refl _ _⟩
  · rw [p1, if_neg (by decide)]
    by_cases q0 : a3 < 0
    · refine ⟨g, B, ?_, hb, yAg.refl _ _⟩
      have : F_X12_isIn g a3 0 2 = 0 := if_pos q0
      rw [if_pos q0, xb2_some]; unfold E_X12_told; rw [p2, xb1_some, if_neg (by decide), if_pos this, xb2_some]; simp
    · by_cases q1 : 2 < a3
      · refine ⟨g, B, ?_, hb, yAg.refl _ _⟩
        have : F_X12_isIn g a3 0 2 = 0 := by unfold F_X12_isIn; rw [if_neg q0, if_pos q1]
        rw [if_neg q0, if_pos q1, xb2_some]; unfold E_X12_told; rw [p2, xb1_some, if_neg (by decide), if_pos this, xb2_some]; simp
      · obtain ⟨s, hs, rfl⟩ := nI_of q0
        have hs2 : s ≤ 2 := by
          rw [show (2 : Int32) = nI 2 from rfl, nI_ltI (by decide) hs] at q1
          omega
        have hin : ∀ g : xSt, ¬ F_X12_isIn g (nI s) 0 2 = 0 := fun g => by unfold F_X12_isIn; rw [if_neg q0, if_neg q1]; decide
        rw [if_neg q0, if_neg q1]
        unfold F_X0_isFull
        rw [hc0]
        by_cases q2 : B 9 0 = 60
        · refine ⟨g, B, ?_, hb, yAg.refl _ _⟩
          rw [q2, if_neg (by decide), xb2_some]
          unfold E_X12_told
          rw [p2, xb1_some, if_neg (by decide), if_neg (hin g), hr0, q2, if_pos (by decide), xb2_some]
          simp
        · have hm2 : B 9 0 < 60 := by omega
          have hlt : nI (B 9 0) < (60 : Int32) := by rw [show (60 : Int32) = nI 60 from rfl]; exact nI_lt hm2 (by decide)
          rw [if_pos hlt, if_pos rfl, r_writeC hc0 hm2, xb2_some, xb2_some]
          have htw := xtw_lt (xtw W)
          have ht2 : I_town (wC g 32 (B 9 0) (nI a) (nI b) (nI s)) β T := ht.ag (D := fun o k => (33 ≤ o ∧ o ≤ 38) ∨ (o = 32 ∧ k = 0)) W ⟨rfl, fun o k h => wC_out (by omega) (by omega)⟩ (fun j k hj => by omega) (fun o k h => by simp only [List.mem_cons, List.not_mem_nil, or_false] at h; omega) (by omega)
          have hr1 : xI (wC g 32 (B 9 0) (nI a) (nI b) (nI s)) 113 44 = nI (B 9 0) := (wC_out (by omega) (by omega)).trans hr0
          have h60 : ¬ nI (B 9 0) = (60 : Int32) := by rw [show (60 : Int32) = nI 60 from rfl, nI_eq (by omega) (by decide)]; omega
          refine ⟨_, yApp B a b s, ?_, r_both hb hm2 ha hbb hab hs2, r_bothAg⟩
          unfold E_X12_told
          rw [r_heapsE ht ht2, p2, xb1_some, if_neg (by decide), if_neg (hin _), hr1, if_neg h60, r_writeR hr1 hm2, xb1_some, xb2_some]
          have e : xI (wR (wC g 32 (B 9 0) (nI a) (nI b) (nI s)) (B 9 0) (nI a) (nI b) (nI s)) 113 44 = nI (B 9 0 + 1) := by unfold wR; simp [yI_wi]
          rw [e, nI_pred]
          simp
end OPA
