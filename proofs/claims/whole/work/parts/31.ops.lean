/-! CALLS that ask little: fault, end, later, weighing, clerk, lies, about -/
theorem yI_wi (g : xSt) (o k a b : Nat) (v : Int32) : xI (xWI g o k v) a b = if a = o ∧ b = k then v else xI g a b := by
  by_cases h : a = o ∧ b = k
  · rw [if_pos h]; obtain ⟨rfl, rfl⟩ := h; show x2 (xI g) a b v a b = v; simp [x2]
  · rw [if_neg h]; exact x2_out _ h
def ySet (B : yT) (r i v : Nat) : yT := fun a b => if a = r ∧ b = i then v else B a b
theorem ySet_eq (B : yT) (r i v : Nat) : ySet B r i v r i = v := if_pos ⟨rfl, rfl⟩
theorem ySet_ne (B : yT) {r i a b : Nat} (v : Nat) (h : ¬ (a = r ∧ b = i)) : ySet B r i v a b = B a b := if_neg h
theorem yAg.refl (D : Nat → Nat → Prop) (g : xSt) : yAg D g g := ⟨rfl, fun _ _ _ => rfl⟩
theorem yAg.wi {D : Nat → Nat → Prop} {g g' : xSt} (h : yAg D g g') {o k : Nat} {v : Int32} (hD : D o k) : yAg D g (xWI g' o k v) := by
  refine ⟨h.1, fun a b q => ?_⟩
  rw [yI_wi, if_neg (fun e => q (by rw [e.1, e.2]; exact hD))]
  exact h.2 a b q
section OPS
variable {g : xSt} {β n : Nat} {T B : yT} {X : Nat → yT} {a1 a2 a3 a4 a5 : Int32}
theorem nI_mul (a b : Nat) : nI a * nI b = nI (a * b) := (Int32.ofNat_mul a b).symm
theorem r_thingMany (h : I_town g β T) : E_X12_thingMany g = some (nI (T 0 0)) := by
  obtain ⟨-, -, h3, h4, h5, -⟩ := h
  unfold E_X12_thingMany
  rw [h4, xck_nI (by omega) (by decide), nI_clamp (by omega), h5]
theorem r_isIn {m : Nat} (hm : m < 2 ^ 31) : F_X12_isIn g a1 0 (nI m - 1) = 0 ↔ ¬ ∃ j, j < m ∧ a1 = nI j := by
  unfold F_X12_isIn
  have e : (nI m - 1).toInt = (m : Int) - 1 := by
    rw [Int32.toInt_sub, nI_toInt hm, show (1 : Int32).toInt = 1 from rfl]
    rw [Int.bmod_eq_of_le] <;> omega
  by_cases h0 : a1 < 0
  · rw [if_pos h0]
    refine ⟨fun _ ⟨j, hj, e⟩ => ?_, fun _ => rfl⟩
    subst e
    exact nI_pos (by omega) h0
  · rw [if_neg h0]
    obtain ⟨j, hj, rfl⟩ := nI_of h0
    by_cases h1 : nI m - 1 < nI j
    · rw [if_pos h1]
      refine ⟨fun _ ⟨i, hi, e1⟩ => ?_, fun _ => rfl⟩
      have := (nI_eq (by omega) (by omega)).mp e1
      subst this
      rw [Int32.lt_iff_toInt_lt, e, nI_toInt hj] at h1
      omega
    · rw [if_neg h1]
      rw [Int32.lt_iff_toInt_lt, e, nI_toInt hj] at h1
      exact ⟨fun q => absurd q (by decide), fun q => absurd ⟨j, by omega, rfl⟩ q⟩
theorem r_isIn1 {m j : Nat} (hm : m < 2 ^ 31) (hj : j < m) : ¬ F_X12_isIn g (nI j) 0 (nI m - 1) = 0 := fun q => (r_isIn hm).mp q ⟨j, hj, rfl⟩
theorem r_lt {m : Nat} (hm : m < 2 ^ 31) (h0 : ¬ a1 < 0) (h : ¬ nI m ≤ a1) : ∃ j, j < m ∧ a1 = nI j := by
  obtain ⟨j, hj, rfl⟩ := nI_of h0
  exact ⟨j, by rw [nI_leI hm hj] at h; omega, rfl⟩
theorem xat_nI {f : Nat → Int32} {m j : Nat} (hj : j < m) (hm : m < 2 ^ 31) : xat f m (nI j) = f j := by
  unfold xat
  rw [if_neg (nI_in hj hm), nI_clamp (by omega)]
theorem op_3 (h : I_fault g) : O_3 a1 a2 a3 a4 a5 g = some (true, g) := by
  unfold O_3 F_X11_fault F_X12_fault
  rw [h.1, h.2]
  simp
theorem op_38 (h : I_shelf g) : O_38 a1 a2 a3 a4 a5 g = some (true, g) := by
  obtain ⟨m, hm, h1, h2, h3⟩ := h
  unfold O_38 F_X11_lies E_X12_lies
  rw [h1, h2]
  by_cases q0 : a1 < 0
  · have : F_X12_isIn g a1 0 (nI m - 1) = 0 := if_pos q0
    simp [q0, this, xb1_some]
  · by_cases q1 : nI m ≤ a1
    · have : F_X12_isIn g a1 0 (nI m - 1) = 0 := (r_isIn (by omega)).mpr (fun ⟨j, hj, e⟩ => by rw [e] at q1; exact nI_ge hj (by omega) q1)
      simp [q0, q1, this, xb1_some]
    · obtain ⟨j, hj, rfl⟩ := r_lt (by omega) q0 q1
      rw [if_neg q0, if_neg q1, if_neg (r_isIn1 (by omega) hj), xck_nI (by omega) (by decide), xb1_some, nI_clamp (by omega), xat_nI (by omega) (by decide), h3 j hj]
      simp
theorem op_1 (h : I_tape g) : ∃ g', O_1 a1 a2 a3 a4 a5 g = some (true, g') ∧ I_tape g' ∧ yAg (fun o k => (o = 0 ∧ k = 1) ∨ (o = 113 ∧ k = 2)) g g' := by
  obtain ⟨m, hm, h1, h2, h3⟩ := h
  unfold O_1 E_X11_end
  by_cases q : a1 < 0
  · exact ⟨g, by simp [q, xb2_some, E_X12_end], ⟨m, hm, h1, h2, h3⟩, yAg.refl _ _⟩
  · obtain ⟨j, hj, rfl⟩ := nI_of q
    rw [h1]
    by_cases q2 : nI j ≤ nI m
    · have hjm : j ≤ m := (nI_leI hj (by omega)).mp q2
      refine ⟨xWI (xWI g 0 1 (nI j)) 113 2 (nI j), ?_, ⟨j, by omega, ?_, ?_, fun k hk => ?_⟩, ?_⟩
      · simp only [if_neg q, if_pos q2, xb2_some, E_X12_end, yI_wi]
        simp [h2, q2, xb2_some]
      · simp [yI_wi]
      · simp [yI_wi]
      · simp [yI_wi]; exact h3 k (by omega)
      · exact ((yAg.refl _ g).wi (Or.inl ⟨rfl, rfl⟩)).wi (Or.inr ⟨rfl, rfl⟩)
    · exact ⟨g, by simp [q, q2, xb2_some, E_X12_end, h2], ⟨m, hm, h1, h2, h3⟩, yAg.refl _ _⟩
theorem op_32 (h : I_town g β T) : O_32 a1 a2 a3 a4 a5 g = some (true, g) := by
  obtain ⟨k1, k2, k3, k4, k5⟩ := id h
  unfold O_32 F_X11_clerk E_X12_clerk F_X10_hasThing
  rw [r_thingMany h, xb1_some, k2.1]
  have hn := k1.1
  by_cases q0 : a1 < 0
  · have : F_X12_isIn g a1 0 (nI (T 0 0) - 1) = 0 := if_pos q0
    simp [q0, this, xb1_some]
  · by_cases q1 : nI (T 0 0) ≤ a1
    · have : F_X12_isIn g a1 0 (nI (T 0 0) - 1) = 0 := (r_isIn (by omega)).mpr (fun ⟨j, hj, e⟩ => by rw [e] at q1; exact nI_ge hj (by omega) q1)
      simp [q0, q1, this, xb1_some]
    · obtain ⟨j, hj, rfl⟩ := r_lt (by omega) q0 q1
      have e5 : (5 : Int32) * nI β + nI j = nI (5 * β + j) := by rw [show (5 : Int32) = nI 5 from rfl, nI_mul, nI_add]
      rw [if_neg q0, if_neg q1, if_neg (r_isIn1 (by omega) hj), if_neg (show ¬ (1 : Int32) = 0 by decide), k4, e5, xck_nI (by omega) (by decide), xb1_some, nI_clamp (by omega), xat_nI (by omega) (by decide), k2.2.2.2.2.2.2.1 j hj, k5.2.2.2.2.2.2.1 j hj]
      simp
theorem op_41 (ht : I_town g β T) (hb : I_book g n B) (hs : I_shelf g) (hp : I_tape g) : O_41 a1 a2 a3 a4 a5 g = some (true, g) := by
  obtain ⟨k1, k2, k3, k4, k5⟩ := id ht
  obtain ⟨m, -, s1, s2, -⟩ := hs
  obtain ⟨m', -, p1, p2, -⟩ := hp
  obtain ⟨-, b1, b2⟩ := hb
  unfold O_41 E_X11_about E_X12_about
  rw [r_thingMany ht, k4, s1, s2, p1, p2, k2.1, k2.2.1, k2.2.2.1, k2.2.2.2.1, k2.2.2.2.2.1, b1.1, b1.2.1, b1.2.2.1, b2.1, b2.2.1, b2.2.2.1]
  simp only [xck_nI (n := 2) (i := β) (by omega) (by decide), nI_clamp (show β < 2 ^ 31 by omega), k5.2.1, k5.2.2.1, k5.2.2.2.1, k5.2.2.2.2.1, xb1_some]
  repeat' split
  all_goals simp [xb1_some]
theorem op_6 (hb : I_book g n B) : O_6 a1 a2 a3 a4 a5 g = some (true, g) := by
  obtain ⟨⟨w1, w2, w3, w4, w5, w6, w7⟩, b1, b2⟩ := hb
  unfold O_6 E_X11_weighing E_X0_look E_X12_weighing F_X0_has
  rw [b1.1, b2.1]
  by_cases q0 : a1 < 0
  · have : F_X12_isIn g a1 0 (nI (B 9 0) - 1) = 0 := if_pos q0
    simp [q0, this, xb1_some]
  · by_cases q1 : nI (B 9 0) ≤ a1
    · have : F_X12_isIn g a1 0 (nI (B 9 0) - 1) = 0 := (r_isIn (by omega)).mpr (fun ⟨j, hj, e⟩ => by rw [e] at q1; exact nI_ge hj (by omega) q1)
      simp [q0, q1, this, xb1_some]
    · obtain ⟨j, hj, rfl⟩ := r_lt (by omega) q0 q1
      obtain ⟨c1, c2, c3, c4, c5, c6⟩ := b1.2.2.2.2.1 j hj
      obtain ⟨d1, d2, d3, d4, d5⟩ := b2.2.2.2.2.1 j hj
      rw [if_neg q0, if_neg q1, if_neg (by decide), if_neg (r_isIn1 (by omega) hj)]
      unfold F_X0_isUntold
      simp only [xck_nI (n := 60) (i := j) (by omega) (by decide), nI_clamp (show j < 2 ^ 31 by omega), xat_nI (show j < 60 by omega) (by decide), c1, c2, c3, c5, d1, d2, d3, d5]
      have hu := (w5 j hj).2.2.2.2.2.1
      have key : nI (B 4 j) - 1 = -1 ↔ nI (B 4 j) - 1 < 0 := by
        rcases Nat.eq_zero_or_pos (B 4 j) with h0 | h0
        · rw [h0]; decide
        · obtain ⟨z, hz⟩ : ∃ z, B 4 j = z + 1 := ⟨B 4 j - 1, by omega⟩
          rw [hz, nI_pred]
          exact ⟨fun e => absurd (e ▸ nI_pos (n := z) (by omega)) (by decide), fun e => absurd e (nI_pos (by omega))⟩
      by_cases hk : nI (B 4 j) - 1 < 0
      · have hk2 := key.mpr hk
        repeat' split
        all_goals simp_all [xb1_some]
      · have hk2 : ¬ nI (B 4 j) - 1 = -1 := fun e => hk (key.mp e)
        repeat' split
        all_goals simp_all [xb1_some]
end OPS
/-! the book: later, untell -/
theorem bkOK.time {n : Nat} {B : yT} {v : Nat} (h : bkOK n B) (h1 : B 9 2 ≤ v) (h2 : v ≤ 100000) : bkOK n (ySet B 9 2 v) := by
  obtain ⟨w1, w2, w3, w4, w5, w6, w7⟩ := h
  have e2 : ySet B 9 2 v 9 2 = v := ySet_eq _ _ _ _
  refine ⟨w1, w2, by rw [e2]; exact h2, w4, fun i hi => ?_, fun w hw => ?_, w7⟩
  · obtain ⟨c1, c2, c3, c4, c5, c6, c7⟩ := w5 i hi
    rw [e2]
    exact ⟨c1, c2, c3, c4, Nat.le_trans c5 h1, Nat.le_trans c6 (Nat.succ_le_succ h1), c7⟩
  · obtain ⟨c1, c2, c3, c4⟩ := w6 w hw
    rw [e2]
    exact ⟨Nat.le_trans c1 h1, c2, c3, c4⟩
theorem bkC.time {g g' : xSt} {b n : Nat} {B : yT} {v : Nat} (h : bkC g b n B) (e : ∀ o k, b ≤ o → o ≤ b + 8 → ¬ (o = b ∧ k = 2) → xI g' o k = xI g o k) (ht : xI g' b 2 = nI v) : bkC g' b n (ySet B 9 2 v) := by
  obtain ⟨h0, h1, h2, h3, h4, h5, h6⟩ := h
  refine ⟨(e b 0 (by omega) (by omega) (by omega)).trans h0, (e b 1 (by omega) (by omega) (by omega)).trans h1, ht.trans (congrArg nI (ySet_eq B 9 2 v).symm), (e b 3 (by omega) (by omega) (by omega)).trans h3, fun i hi => ?_, fun w hw => (e (b + 7) w (by omega) (by omega) (by omega)).trans (h5 w hw), fun k hk => (e (b + 8) k (by omega) (by omega) (by omega)).trans (h6 k hk)⟩
  obtain ⟨c1, c2, c3, c4, c5, c6⟩ := h4 i hi
  exact ⟨(e (b + 1) i (by omega) (by omega) (by omega)).trans c1, (e (b + 2) i (by omega) (by omega) (by omega)).trans c2, (e (b + 3) i (by omega) (by omega) (by omega)).trans c3, (e (b + 4) i (by omega) (by omega) (by omega)).trans c4, (e (b + 5) i (by omega) (by omega) (by omega)).trans c5, (e (b + 6) i (by omega) (by omega) (by omega)).trans c6⟩
theorem bkR.time {g g' : xSt} {n : Nat} {B : yT} {v : Nat} (h : bkR g n B) (e : ∀ o k, ¬ (o = 113 ∧ k = 45) → (o = 113 ∨ 136 ≤ o) → xI g' o k = xI g o k) (ht : xI g' 113 45 = nI v) : bkR g' n (ySet B 9 2 v) := by
  obtain ⟨h0, h1, h2, h3, h4, h5, h6⟩ := h
  refine ⟨(e 113 44 (by omega) (by omega)).trans h0, (e 113 46 (by omega) (by omega)).trans h1, ht.trans (congrArg nI (ySet_eq B 9 2 v).symm), (e 113 47 (by omega) (by omega)).trans h3, fun i hi => ?_, fun w hw => ⟨(e 141 w (by omega) (by omega)).trans (h5 w hw).1, (e 142 w (by omega) (by omega)).trans (h5 w hw).2⟩, fun k hk => (e 143 k (by omega) (by omega)).trans (h6 k hk)⟩
  obtain ⟨c1, c2, c3, c4, c5⟩ := h4 i hi
  exact ⟨(e 136 i (by omega) (by omega)).trans c1, (e 137 i (by omega) (by omega)).trans c2, (e 138 i (by omega) (by omega)).trans c3, (e 139 i (by omega) (by omega)).trans c4, (e 140 i (by omega) (by omega)).trans c5⟩
section OPB
variable {g : xSt} {β n : Nat} {T B : yT} {X : Nat → yT} {a1 a2 a3 a4 a5 : Int32}
theorem op_9 (hb : I_book g n B) : ∃ g' B', O_9 a1 a2 a3 a4 a5 g = some (true, g') ∧ I_book g' n B' ∧ yAg (fun o k => (o = 32 ∧ k = 2) ∨ (o = 113 ∧ k = 45)) g g' := by
  obtain ⟨w, b1, b2⟩ := id hb
  have hc := b1.2.2.1
  have hr := b2.2.2.1
  have htm := w.2.2.1
  unfold O_9 E_X11_later E_X0_pass
  by_cases q : a1 < 0
  · exact ⟨g, B, by simp [q, xb2_some, E_X12_later, F_X12_isIn], hb, yAg.refl _ _⟩
  · by_cases q1 : 1000 < a1
    · exact ⟨g, B, by simp [q, q1, xb2_some, E_X12_later, F_X12_isIn], hb, yAg.refl _ _⟩
    · obtain ⟨j, hj, rfl⟩ := nI_of q
      have hj2 : j ≤ 1000 := by
        rw [show (1000 : Int32) = nI 1000 from rfl, nI_ltI (by decide) hj] at q1
        omega
      have hin : ¬ F_X12_isIn g (nI j) 0 1000 = 0 := by unfold F_X12_isIn; rw [if_neg q, if_neg q1]; decide
      have key : (nI (B 9 2 + j) ≤ (100000 : Int32)) ↔ B 9 2 + j ≤ 100000 := by
        rw [show (100000 : Int32) = nI 100000 from rfl]
        exact nI_leI (by omega) (by decide)
      by_cases q2 : B 9 2 + j ≤ 100000
      · have q3 := key.mpr q2
        refine ⟨xWI (xWI g 32 2 (nI (B 9 2 + j))) 113 45 (nI (B 9 2 + j)), ySet B 9 2 (B 9 2 + j), ?_, ⟨w.time (by omega) q2, b1.time (fun o k h1 h2 h3 => ?_) ?_, b2.time (fun o k h1 h2 => ?_) ?_⟩, ((yAg.refl _ g).wi (Or.inl ⟨rfl, rfl⟩)).wi (Or.inr ⟨rfl, rfl⟩)⟩
        · rw [if_neg q, if_neg q1, hc, nI_add, if_pos q3, xb2_some, xb2_some]
          unfold E_X12_later
          have e : xI (xWI g 32 2 (nI (B 9 2 + j))) 113 45 = nI (B 9 2) := by rw [yI_wi, if_neg (by decide)]; exact hr
          have hin2 : ¬ F_X12_isIn (xWI g 32 2 (nI (B 9 2 + j))) (nI j) 0 1000 = 0 := hin
          rw [if_neg hin2, e, nI_add, if_pos q3, xb2_some, yI_wi]
          simp
        · rw [yI_wi, if_neg (by omega), yI_wi, if_neg (by omega)]
        · rw [yI_wi, if_neg (by decide), yI_wi, if_pos ⟨rfl, rfl⟩]
        · rw [yI_wi, if_neg (by omega), yI_wi, if_neg (by omega)]
        · rw [yI_wi, if_pos ⟨rfl, rfl⟩]
      · have q3 : ¬ nI (B 9 2 + j) ≤ (100000 : Int32) := fun e => q2 (key.mp e)
        refine ⟨g, B, ?_, hb, yAg.refl _ _⟩
        rw [if_neg q, if_neg q1, hc, nI_add, if_neg q3, xb2_some, xb2_some]
        unfold E_X12_later
        rw [if_neg hin, hr, nI_add, if_neg q3, xb2_some]
        simp
end OPB
