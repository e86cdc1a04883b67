/-! CALL street -/
section S2
variable {g g' g1 gR : xSt} {N m n t b β : Nat} {T B : yT} {X : Nat → yT} {a1 a2 a3 a4 a5 : Int32} {bt : Nat → Nat}
/-- what both sides hold after N calls -/
def zInv (N : Nat) (g : xSt) : Prop := ∃ β T B X, I_tape g ∧ I_fault g ∧ I_town g β T ∧ I_book g (T 0 0) B ∧ I_orders g (T 0 0) (T 0 1) ∧ I_shelf g ∧ I_guess g ∧ I_boxes g (T 0 0) X ∧ I_search N g ∧ ∀ j, j < 7 → xL g 21 j = zOwn j
/-- the bank in force through a reading of the other one -/
theorem twR_bank (hT : twOK T) (hβ : β ≤ 1) (e : ∀ o k, 116 ≤ o → o ≤ 131 → ¬ dRs (1 - β) o k → xI g' o k = xI g o k) (q : twR g β T) : twR g' β T := by
  obtain ⟨t1, t2, t3, t4, t5, -⟩ := hT
  obtain ⟨q1, q2, q3, q4, q5, q6, q7, q8, q9, q10⟩ := q
  have one : ∀ o, (o = 116 ∨ o = 121 ∨ o = 117 ∨ o = 126 ∨ o = 127) → xI g' o β = xI g o β := fun o ho => e o β (by omega) (by omega) (by unfold dRs dRb; omega)
  refine ⟨(one 116 (by omega)).trans q1, (one 121 (by omega)).trans q2, (one 117 (by omega)).trans q3, (one 126 (by omega)).trans q4, (one 127 (by omega)).trans q5, fun k hk => ?_, fun k hk => ?_, fun k hk => ?_, fun k hk => ⟨?_, ?_⟩, fun i s hi hs => ?_⟩
  · rw [e 120 _ (by omega) (by omega) (by unfold dRs dRb; omega)]
    exact q6 k hk
  · rw [e 119 _ (by omega) (by omega) (by unfold dRs dRb; omega)]
    exact q7 k hk
  · rw [e 128 _ (by omega) (by omega) (by unfold dRs dRb; omega)]
    exact q8 k hk
  · rw [e 129 _ (by omega) (by omega) (by unfold dRs dRb; omega)]
    exact (q9 k hk).1
  · rw [e 130 _ (by omega) (by omega) (by unfold dRs dRb; omega)]
    exact (q9 k hk).2
  · have ws : yway s ≤ 2 := by unfold yway; split <;> omega
    rw [e 131 _ (by omega) (by omega) (by unfold dRs dRb; omega)]
    exact q10 i s hi hs
/-- the book of a new street -/
def zBk (Z : yT) (tm : Nat) : yT := fun a i => if a = 8 then Z 1 i else if a = 9 ∧ i = 2 then tm else 0
theorem zBk_8 (Z : yT) (tm i : Nat) : zBk Z tm 8 i = Z 1 i := if_pos rfl
theorem zBk_9 (Z : yT) (tm : Nat) {i : Nat} (h : i ≠ 2) : zBk Z tm 9 i = 0 := (if_neg (by decide)).trans (if_neg fun z => h z.2)
theorem zBk_92 (Z : yT) (tm : Nat) : zBk Z tm 9 2 = tm := (if_neg (by decide)).trans (if_pos ⟨rfl, rfl⟩)
theorem I_book_new {Z : yT} {tm : Nat} (ht : tm ≤ 100000) (hw : ∀ k, k < n → 1 ≤ Z 1 k ∧ Z 1 k ≤ 999) (c0 : xI g 32 0 = 0) (c1 : xI g 32 1 = 0) (c2 : xI g 32 2 = nI tm) (c3 : xI g 32 3 = 0) (c8 : ∀ k, k < n → xI g 40 k = nI (Z 1 k)) (r0 : xI g 113 44 = 0) (r1 : xI g 113 46 = 0) (r2 : xI g 113 45 = nI tm) (r3 : xI g 113 47 = 0) (r8 : ∀ k, k < n → xI g 143 k = nI (Z 1 k)) : I_book g n (zBk Z tm) := by
  have e0 := zBk_9 Z tm (i := 0) (by decide)
  have e1 := zBk_9 Z tm (i := 1) (by decide)
  have e3 := zBk_9 Z tm (i := 3) (by decide)
  have e2 := zBk_92 Z tm
  have e8 := zBk_8 Z tm
  have z : (0 : Int32) = nI 0 := rfl
  unfold I_book bkOK bkC bkR
  rw [e0, e1, e2, e3, c0, c1, c2, c3, r0, r1, r2, r3, z]
  refine ⟨⟨by decide, by decide, ht, by decide, fun i hi => absurd hi (Nat.not_lt_zero i), fun i hi => absurd hi (Nat.not_lt_zero i), fun k hk => ?_⟩, ⟨rfl, rfl, rfl, rfl, fun i hi => absurd hi (Nat.not_lt_zero i), fun i hi => absurd hi (Nat.not_lt_zero i), fun k hk => ?_⟩, ⟨rfl, rfl, rfl, rfl, fun i hi => absurd hi (Nat.not_lt_zero i), fun i hi => absurd hi (Nat.not_lt_zero i), fun k hk => ?_⟩⟩
  · rw [e8]; exact hw k hk
  · rw [e8]; exact c8 k hk
  · rw [e8]; exact r8 k hk
theorem op_2 (W : xWf g) (I : zInv N g) : ∃ g', O_2 a1 a2 a3 a4 a5 g = some (true, g') ∧ zInv (N + 1) g' := by
  obtain ⟨β, T, B, X, hI, hf, hT, hB, hO, hS, hG, hX, hQ, own⟩ := I
  obtain ⟨m, hm, i1, i2, i3⟩ := hI
  have ht2 := xtw W
  have htt : tw g = 2 ∨ tw g = 11 := ht2
  have ht : 13 - tw g = 2 ∨ 13 - tw g = 11 := by omega
  generalize hbtd : (fun k => (xI g 1 k &&& 255).toNatClampNeg) = bt
  have hbt : ∀ k, k < m → bt k < 256 ∧ xI g 1 k &&& 255 = nI (bt k) := fun k _ => by
    obtain ⟨j, j1, j2⟩ := x_255 (xI g 1 k)
    have e : bt k = j := by
      rw [← hbtd]
      show (xI g 1 k &&& 255).toNatClampNeg = j
      rw [j2, nI_clamp (by omega)]
    rw [e]
    exact ⟨j1, j2⟩
  have hrt : ∀ k, k < m → xI g 114 k &&& 255 = nI (bt k) := fun k hk => by rw [← i3 k hk]; exact (hbt k hk).2
  obtain ⟨hT1, hT2, hβ, h30, hT5⟩ := hT
  obtain ⟨g1, E1, y1, l1⟩ := c_read (g := g) ht hβ hm own hbt i2 hrt h30
  have k1 : ∀ o k, ¬ dCb (13 - tw g) o k → ¬ (o = 20 ∧ k = 2) → xI g1 o k = xI g o k := fun o k h1 h2 => by rw [y1.2 o k h1, xI_rd, if_neg h2]
  have etw : tw g1 = tw g := by
    unfold tw
    rw [y1.1, xR_rd (by simp)]
  by_cases f0 : xI g1 20 10 = 0
  · -- a street without a fault
    have A1 : ∃ n w, n ≤ 5 ∧ w ≤ 1 ∧ xI g1 (13 - tw g) 0 = nI n ∧ xI g1 (13 - tw g) 3 = nI w := by
      obtain ⟨gR', -, -, -, -, -, en⟩ := j_read (gR := g) ht hβ hm own hbt E1 i2 hrt h30
      rcases en with ⟨-, -, -, -, n, p, k, gR2, -, -, -, T', -⟩ | ⟨f, pl, c1, c2, c3, -⟩
      · obtain ⟨w, u, s, w1, -, -, c3, -⟩ := T'.2.1
        exact ⟨n, w, T'.1.1, w1, T'.1.2.1, c3⟩
      · rw [f0] at c3
        exact absurd c3.symm (nI_nz c1 (by omega))
    obtain ⟨n, w, n5, w1, c0, c3⟩ := A1
    obtain ⟨g6, s1, s2, s3, s4, s5, s6, s7, s8, s9, s10, s11, s12, s13, s14, s15, s16, s17, s18⟩ := c_streetG ht rfl E1 i1 etw f0 n5 w1 c0 c3
    have k6 : ∀ o k, 113 ≤ o → xI g6 o k = xI g o k := fun o k ho => by rw [s3 o k (by unfold dSg dRf; omega), k1 o k (by unfold dCb; omega) (by omega)]
    obtain ⟨gR', e1, yR, lR, r2, r31, en⟩ := j_read (gR := g6) ht hβ hm own hbt E1 ((k6 113 2 (by omega)).trans i2) (fun k hk => by rw [k6 114 k (by omega)]; exact hrt k hk) ((k6 113 30 (by omega)).trans h30)
    rcases en with ⟨-, d4, d11, d5, n', p, k, gR2, u1, u2, u3, T', Wy⟩ | ⟨f, pl, c1, c2, c3', -⟩
    · have en : n' = n := (nI_eq (by have := T'.1.1; omega) (by omega)).mp (T'.1.2.1.symm.trans c0)
      subst en
      have hb1 : 1 - β ≤ 1 := by omega
      obtain ⟨w', s, w1', c3', r121, T1, T2, T3⟩ := j_town hb1 T' Wy
      have ew : w' = w := (nI_eq (by omega) (by omega)).mp (c3'.symm.trans c3)
      subst ew
      obtain ⟨g', v1, v2, v3, v4, v5, v6, v7, v8, v9, v10, v11, v12, v13, v14⟩ := r_streetG hb1 d4 r31 u1 u2 u3 n5 w1 T'.1.2.2.1 r121
      -- the class's cells at the end
      have kC : ∀ o k, o ≤ 112 → xI g' o k = xI g6 o k := fun o k ho => by rw [v2.2 o k (by omega), yR.2 o k (by unfold dRs dRb; omega)]
      have kR : ∀ o k, 113 ≤ o → ¬ dRs (1 - β) o k → xI gR' o k = xI g o k := fun o k ho h => by rw [yR.2 o k h, k6 o k ho]
      have etw' : tw g' = 13 - tw g := by
        have : tw g' = tw g6 := by unfold tw; rw [v2.1, yR.1]
        rw [this, s2]
      generalize hZ : zT g1 (13 - tw g) n' w' s p k = Z at T1 T2 T3
      have z0 : Z 0 0 = n' := by rw [← hZ]; rfl
      have z1 : Z 0 1 = w' := by rw [← hZ]; rfl
      refine ⟨g', ?_, 1 - β, Z, zBk Z (B 9 2), X, ⟨0, by omega, by rw [kC 0 1 (by omega), s5]; rfl, by rw [v6 2 (by omega), r2]; rfl, fun k hk => by omega⟩, ⟨?_, ?_⟩, ⟨T1, ?_, hb1, v5, twR_cg v4 T3⟩, I_book_new hB.1.2.2.1 T1.2.2.2.2.2.1 ?_ ?_ ?_ ?_ ?_ ?_ ?_ ?_ ?_ ?_, ⟨by rw [z0]; exact n5, by rw [z1]; exact w1, ?_, ?_, ?_, ?_⟩, ⟨0, by omega, by rw [kC 111 1 (by omega), s15]; rfl, by rw [v12]; rfl, fun k hk => by omega⟩, hG.eq fun o k h1 h2 => ?_, fun j hj => Or.inl ⟨?_, v14 j hj⟩, hQ.eq (Nat.le_succ N) fun o h1 h2 k => ⟨?_, ?_⟩, fun j hj => ?_⟩
      · unfold O_2
        rw [s1, xb2_some, e1, v1, xb2_some, decide_eq_true rfl]
      · rw [kC 0 2 (by omega), s6, v6 4 (by omega), d4]
      · rw [kC 0 3 (by omega), s7, v6 5 (by omega), d5, d11]
      · rw [etw']
        refine twC_cg (fun o k h1 h2 => ?_) T2
        rw [kC o k (by omega), s3 o k (by unfold dSg dRf; omega)]
      · rw [kC 32 0 (by omega), s11]
      · rw [kC 32 1 (by omega), s12]
      · rw [kC 32 2 (by omega), s3 32 2 (by unfold dSg dRf; omega), k1 32 2 (by unfold dCb; omega) (by omega)]; exact hB.2.1.2.2.1
      · rw [kC 32 3 (by omega), s13]
      · intro k hk
        rw [z0] at hk
        rw [kC 40 k (by omega), s14 k (by omega)]
        exact T2.2.2.2.2.2.1 k (by rw [z0]; exact hk)
      · exact v9
      · exact v10
      · rw [v6 45 (by omega), kR 113 45 (by omega) (by unfold dRs dRb; omega)]; exact hB.2.2.2.2.1
      · exact v11
      · intro k hk
        rw [z0] at hk
        rw [v13 k (by omega)]
        exact T3.2.2.2.2.2.1 k (by rw [z0]; exact hk)
      · rw [kC 69 0 (by omega), s8, z0]
      · rw [kC 69 1 (by omega), s9, z0, z1]
      · rw [v7, z0, z1]
      · rw [z0, z1]
        intro i hi
        exact ⟨by rw [kC 70 i (by omega)]; exact (s10 i hi).1, by rw [kC 71 i (by omega)]; exact (s10 i hi).2, fun t ht => v8 i hi t ht⟩
      · rw [kC o k (by omega), s3 o k (by unfold dSg dRf; omega), k1 o k (by unfold dCb; omega) (by omega)]
      · have : j = 0 ∨ j = 1 ∨ j = 2 := by omega
        rcases this with e | e | e <;> subst e
        · show xI g' 42 4 = 0; rw [kC 42 4 (by omega)]; exact s16
        · show xI g' 51 4 = 0; rw [kC 51 4 (by omega)]; exact s17
        · show xI g' 60 4 = 0; rw [kC 60 4 (by omega)]; exact s18
      · rw [kC o k (by omega), s3 o k (by unfold dSg dRf; omega), k1 o k (by unfold dCb; omega) (by omega)]
      · rw [v3, lR o k (by omega), s4, l1 o k (by omega)]
      · rw [v3, lR 21 j (by omega), s4, l1 21 j (by omega)]; exact own j hj
    · rw [f0] at c3'
      exact absurd c3'.symm (nI_nz c1 (by omega))
  · -- a fault: the street in force stays
    have S1 : E_X11_street g = some (-1, xWI (xWI (xWI g1 0 1 0) 0 2 (xI g1 20 10)) 0 3 (xI g1 20 11)) := by
      unfold E_X11_street
      rw [i1, E1, xb1_some, if_neg f0]
    have aA : ∀ o k, o ≠ 0 → xI (xWI (xWI (xWI g1 0 1 0) 0 2 (xI g1 20 10)) 0 3 (xI g1 20 11)) o k = xI g1 o k := fun o k ho => by
      rw [yI_wi, if_neg (by omega), yI_wi, if_neg (by omega), yI_wi, if_neg (by omega)]
    have a01 : xI (xWI (xWI (xWI g1 0 1 0) 0 2 (xI g1 20 10)) 0 3 (xI g1 20 11)) 0 1 = 0 := by rw [yI_wi, if_neg (by omega), yI_wi, if_neg (by omega), yI_wi, if_pos ⟨rfl, rfl⟩]
    have a02 : xI (xWI (xWI (xWI g1 0 1 0) 0 2 (xI g1 20 10)) 0 3 (xI g1 20 11)) 0 2 = xI g1 20 10 := by rw [yI_wi, if_neg (by omega), yI_wi, if_pos ⟨rfl, rfl⟩]
    have a03 : xI (xWI (xWI (xWI g1 0 1 0) 0 2 (xI g1 20 10)) 0 3 (xI g1 20 11)) 0 3 = xI g1 20 11 := by rw [yI_wi, if_pos ⟨rfl, rfl⟩]
    have aR : xR (xWI (xWI (xWI g1 0 1 0) 0 2 (xI g1 20 10)) 0 3 (xI g1 20 11)) = xR g1 := rfl
    have aL : xL (xWI (xWI (xWI g1 0 1 0) 0 2 (xI g1 20 10)) 0 3 (xI g1 20 11)) = xL g1 := rfl
    have a0k : ∀ k, ¬ (1 ≤ k ∧ k ≤ 3) → xI (xWI (xWI (xWI g1 0 1 0) 0 2 (xI g1 20 10)) 0 3 (xI g1 20 11)) 0 k = xI g1 0 k := fun k hk => by
      rw [yI_wi, if_neg (by omega), yI_wi, if_neg (by omega), yI_wi, if_neg (by omega)]
    generalize xWI (xWI (xWI g1 0 1 0) 0 2 (xI g1 20 10)) 0 3 (xI g1 20 11) = gA at S1 aA a01 a02 a03 aR aL a0k
    have kA : ∀ o k, 113 ≤ o → xI gA o k = xI g o k := fun o k ho => by rw [aA o k (by omega), k1 o k (by unfold dCb; omega) (by omega)]
    obtain ⟨gR', e1, yR, lR, r2, r31, en⟩ := j_read (gR := gA) ht hβ hm own hbt E1 ((kA 113 2 (by omega)).trans i2) (fun k hk => by rw [kA 114 k (by omega)]; exact hrt k hk) ((kA 113 30 (by omega)).trans h30)
    rcases en with ⟨z, -⟩ | ⟨f, pl, c1, c2, c3, c4, c5, c6⟩
    · exact absurd z f0
    · have K0 : K_X12_street_95 gR' = some (-1, gR') := by
        unfold K_X12_street_95 F_X12_isGood
        rw [c5, if_neg (nI_nz c1 (by omega)), if_pos rfl]
      have kF : ∀ o k, ¬ (o = 20 ∨ (13 - tw g ≤ o ∧ o ≤ 13 - tw g + 8) ∨ (o = 0 ∧ 1 ≤ k ∧ k ≤ 3) ∨ dRs (1 - β) o k) → xI gR' o k = xI g o k := fun o k h => by
        rw [yR.2 o k (fun z => h (Or.inr (Or.inr (Or.inr z))))]
        by_cases z : o = 0
        · subst z
          rw [a0k k (fun z => h (Or.inr (Or.inr (Or.inl ⟨rfl, z⟩)))), k1 0 k (by unfold dCb; omega) (by omega)]
        · rw [aA o k z, k1 o k (by unfold dCb; omega) (by omega)]
      have eR : xR gR' = xR (xWR (xWR g 20 1 (some 1)) 20 3 (some (13 - tw g))) := by
        rw [yR.1, aR, y1.1]
        rfl
      have Y : yAg (fun o k => o = 20 ∨ (13 - tw g ≤ o ∧ o ≤ 13 - tw g + 8) ∨ (o = 0 ∧ 1 ≤ k ∧ k ≤ 3) ∨ dRs (1 - β) o k) (xWR (xWR g 20 1 (some 1)) 20 3 (some (13 - tw g))) gR' := ⟨eR, kF⟩
      have etw' : tw gR' = tw g := by
        have : tw gR' = tw gA := by unfold tw; rw [yR.1]
        rw [this]
        have : tw gA = tw g1 := by unfold tw; rw [aR]
        rw [this, etw]
      have hB' : I_book (xWR (xWR g 20 1 (some 1)) 20 3 (some (13 - tw g))) (T 0 0) B := hB
      have hO' : I_orders (xWR (xWR g 20 1 (some 1)) 20 3 (some (13 - tw g))) (T 0 0) (T 0 1) := hO
      have hS' : I_shelf (xWR (xWR g 20 1 (some 1)) 20 3 (some (13 - tw g))) := hS
      have hX' : I_boxes (xWR (xWR g 20 1 (some 1)) 20 3 (some (13 - tw g))) (T 0 0) X := hX
      refine ⟨gR', ?_, β, T, B, X, ⟨0, by omega, by rw [yR.2 0 1 (by unfold dRs dRb; omega), a01]; rfl, by rw [r2]; rfl, fun k hk => by omega⟩, ⟨?_, ?_⟩, ⟨hT1, ?_, hβ, ?_, twR_bank hT1 hβ (fun o k h1 h2 h3 => kF o k (fun z => z.elim (fun a => by omega) fun z => z.elim (fun a => by omega) fun z => z.elim (fun a => by omega) h3)) hT5⟩, ?_, ?_, ?_, hG.eq fun o k h1 h2 => kF o k (by unfold dRs dRb; omega), ?_, hQ.eq (Nat.le_succ N) fun o h1 h2 k => ⟨kF o k (by unfold dRs dRb; omega), ?_⟩, fun j hj => ?_⟩
      · unfold O_2
        rw [S1, xb2_some, e1, K0, xb2_some, decide_eq_true rfl]
      · rw [yR.2 0 2 (by unfold dRs dRb; omega), a02, c3, c5]
      · rw [yR.2 0 3 (by unfold dRs dRb; omega), a03, c4, c6]
      · rw [etw']
        exact twC_cg (fun o k h1 h2 => kF o k (by unfold dRs dRb; omega)) hT2
      · rw [kF 113 30 (by unfold dRs dRb; omega)]; exact h30
      · exact hB'.ag Y (fun j k hj _ => by unfold dRs dRb; omega) (fun o k ho => by simp only [List.mem_cons, List.not_mem_nil, or_false] at ho; unfold dRs dRb; omega) (by unfold dRs dRb; omega) (by unfold dRs dRb; omega) (by unfold dRs dRb; omega) (by unfold dRs dRb; omega)
      · exact hO'.ag Y (by unfold dRs dRb; omega) (by unfold dRs dRb; omega) (by unfold dRs dRb; omega) (fun o k ho => by simp only [List.mem_cons, List.not_mem_nil, or_false] at ho; unfold dRs dRb; omega)
      · exact hS'.ag Y (fun o k ho => by simp only [List.mem_cons, List.not_mem_nil, or_false] at ho; unfold dRs dRb; omega) (by unfold dRs dRb; omega) (by unfold dRs dRb; omega)
      · exact hX'.ag Y (fun o k h1 h2 => by unfold dRs dRb; omega) (fun o k ho => by simp only [List.mem_cons, List.not_mem_nil, or_false] at ho; unfold dRs dRb; omega)
      · rw [lR o k (by omega), aL, l1 o k (by omega)]
      · rw [lR 21 j (by omega), aL, l1 21 j (by omega)]; exact own j hj
end S2
