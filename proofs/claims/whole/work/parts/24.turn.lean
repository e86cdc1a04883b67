/-! the law's turn and loop -/
theorem xeqn {n j : Nat} {x : Int32} (hn : n < 42) (hj : j < 42) (hx : x = nI n) (q : x = nI j) : n = j := (nI_eq (by omega) (by omega)).mp (hx.symm.trans q)
theorem x_turn {d : Nat} {g g' : xSt} {a3 : Int32} {S : Nat → Int32} {L : Nat} {r : Option Value × xSt} (W : xWf g) (hs : xH g 1000000 = .inl (.int, L)) (hv : xI g 1000000 = S) (hi : vp_in a3 L) (h1 : vp_in (a3 + 1) L) (h2 : vp_in (a3 + 2) L) (h3 : vp_in (a3 + 3) L) (h4 : vp_in (a3 + 4) L) (h5 : vp_in (a3 + 5) L) {n : Nat} (hn : n < 42) (hx : ((S a3.toNatClampNeg) &&& 63) = nI n) (h : xOp n (S (a3 + 1).toNatClampNeg) (S (a3 + 2).toNatClampNeg) (S (a3 + 3).toNatClampNeg) (S (a3 + 4).toNatClampNeg) (S (a3 + 5).toNatClampNeg) g = some (true, g')) (k : xKp g g' → xX (d + 60) mL_law 1732 [some (.ref 1000000), some (.ref 0), some (.ref 113), some (.int a3)] [] g' = some r) : xX (d + 60) mL_law 27 [some (.ref 1000000), some (.ref 0), some (.ref 113), some (.int a3)] [] g = some r :=
  bL_law_27 hi hs hv
    (fun q => o_0 W hs hv h1 h2 h3 h4 h5 (by have e := xeqn (j := 0) hn (by decide) hx q; subst e; exact h) k)
    (fun q => o_1 W hs hv h1 h2 h3 h4 h5 (by have e := xeqn (j := 1) hn (by decide) hx q; subst e; exact h) k)
    (fun q => o_2 W hs hv h1 h2 h3 h4 h5 (by have e := xeqn (j := 2) hn (by decide) hx q; subst e; exact h) k)
    (fun q => o_3 W hs hv h1 h2 h3 h4 h5 (by have e := xeqn (j := 3) hn (by decide) hx q; subst e; exact h) k)
    (fun q => o_4 W hs hv h1 h2 h3 h4 h5 (by have e := xeqn (j := 4) hn (by decide) hx q; subst e; exact h) k)
    (fun q => o_5 W hs hv h1 h2 h3 h4 h5 (by have e := xeqn (j := 5) hn (by decide) hx q; subst e; exact h) k)
    (fun q => o_6 W hs hv h1 h2 h3 h4 h5 (by have e := xeqn (j := 6) hn (by decide) hx q; subst e; exact h) k)
    (fun q => o_7 W hs hv h1 h2 h3 h4 h5 (by have e := xeqn (j := 7) hn (by decide) hx q; subst e; exact h) k)
    (fun q => o_8 W hs hv h1 h2 h3 h4 h5 (by have e := xeqn (j := 8) hn (by decide) hx q; subst e; exact h) k)
    (fun q => o_9 W hs hv h1 h2 h3 h4 h5 (by have e := xeqn (j := 9) hn (by decide) hx q; subst e; exact h) k)
    (fun q => o_10 W hs hv h1 h2 h3 h4 h5 (by have e := xeqn (j := 10) hn (by decide) hx q; subst e; exact h) k)
    (fun q => o_11 W hs hv h1 h2 h3 h4 h5 (by have e := xeqn (j := 11) hn (by decide) hx q; subst e; exact h) k)
    (fun q => o_12 W hs hv h1 h2 h3 h4 h5 (by have e := xeqn (j := 12) hn (by decide) hx q; subst e; exact h) k)
    (fun q => o_13 W hs hv h1 h2 h3 h4 h5 (by have e := xeqn (j := 13) hn (by decide) hx q; subst e; exact h) k)
    (fun q => o_14 W hs hv h1 h2 h3 h4 h5 (by have e := xeqn (j := 14) hn (by decide) hx q; subst e; exact h) k)
    (fun q => o_15 W hs hv h1 h2 h3 h4 h5 (by have e := xeqn (j := 15) hn (by decide) hx q; subst e; exact h) k)
    (fun q => o_16 W hs hv h1 h2 h3 h4 h5 (by have e := xeqn (j := 16) hn (by decide) hx q; subst e; exact h) k)
    (fun q => o_17 W hs hv h1 h2 h3 h4 h5 (by have e := xeqn (j := 17) hn (by decide) hx q; subst e; exact h) k)
    (fun q => o_18 W hs hv h1 h2 h3 h4 h5 (by have e := xeqn (j := 18) hn (by decide) hx q; subst e; exact h) k)
    (fun q => o_19 W hs hv h1 h2 h3 h4 h5 (by have e := xeqn (j := 19) hn (by decide) hx q; subst e; exact h) k)
    (fun q => o_20 W hs hv h1 h2 h3 h4 h5 (by have e := xeqn (j := 20) hn (by decide) hx q; subst e; exact h) k)
    (fun q => o_21 W hs hv h1 h2 h3 h4 h5 (by have e := xeqn (j := 21) hn (by decide) hx q; subst e; exact h) k)
    (fun q => o_22 W hs hv h1 h2 h3 h4 h5 (by have e := xeqn (j := 22) hn (by decide) hx q; subst e; exact h) k)
    (fun q => o_23 W hs hv h1 h2 h3 h4 h5 (by have e := xeqn (j := 23) hn (by decide) hx q; subst e; exact h) k)
    (fun q => o_24 W hs hv h1 h2 h3 h4 h5 (by have e := xeqn (j := 24) hn (by decide) hx q; subst e; exact h) k)
    (fun q => o_25 W hs hv h1 h2 h3 h4 h5 (by have e := xeqn (j := 25) hn (by decide) hx q; subst e; exact h) k)
    (fun q => o_26 W hs hv h1 h2 h3 h4 h5 (by have e := xeqn (j := 26) hn (by decide) hx q; subst e; exact h) k)
    (fun q => o_27 W hs hv h1 h2 h3 h4 h5 (by have e := xeqn (j := 27) hn (by decide) hx q; subst e; exact h) k)
    (fun q => o_28 W hs hv h1 h2 h3 h4 h5 (by have e := xeqn (j := 28) hn (by decide) hx q; subst e; exact h) k)
    (fun q => o_29 W hs hv h1 h2 h3 h4 h5 (by have e := xeqn (j := 29) hn (by decide) hx q; subst e; exact h) k)
    (fun q => o_30 W hs hv h1 h2 h3 h4 h5 (by have e := xeqn (j := 30) hn (by decide) hx q; subst e; exact h) k)
    (fun q => o_31 W hs hv h1 h2 h3 h4 h5 (by have e := xeqn (j := 31) hn (by decide) hx q; subst e; exact h) k)
    (fun q => o_32 W hs hv h1 h2 h3 h4 h5 (by have e := xeqn (j := 32) hn (by decide) hx q; subst e; exact h) k)
    (fun q => o_33 W hs hv h1 h2 h3 h4 h5 (by have e := xeqn (j := 33) hn (by decide) hx q; subst e; exact h) k)
    (fun q => o_34 W hs hv h1 h2 h3 h4 h5 (by have e := xeqn (j := 34) hn (by decide) hx q; subst e; exact h) k)
    (fun q => o_35 W hs hv h1 h2 h3 h4 h5 (by have e := xeqn (j := 35) hn (by decide) hx q; subst e; exact h) k)
    (fun q => o_36 W hs hv h1 h2 h3 h4 h5 (by have e := xeqn (j := 36) hn (by decide) hx q; subst e; exact h) k)
    (fun q => o_37 W hs hv h1 h2 h3 h4 h5 (by have e := xeqn (j := 37) hn (by decide) hx q; subst e; exact h) k)
    (fun q => o_38 W hs hv h1 h2 h3 h4 h5 (by have e := xeqn (j := 38) hn (by decide) hx q; subst e; exact h) k)
    (fun q => o_39 W hs hv h1 h2 h3 h4 h5 (by have e := xeqn (j := 39) hn (by decide) hx q; subst e; exact h) k)
    (fun q => o_40 W hs hv h1 h2 h3 h4 h5 (by have e := xeqn (j := 40) hn (by decide) hx q; subst e; exact h) k)
    (fun q => o_41 W hs hv h1 h2 h3 h4 h5 (by have e := xeqn (j := 41) hn (by decide) hx q; subst e; exact h) k)
    (fun q0 q1 q2 q3 q4 q5 q6 q7 q8 q9 q10 q11 q12 q13 q14 q15 q16 q17 q18 q19 q20 q21 q22 q23 q24 q25 q26 q27 q28 q29 q30 q31 q32 q33 q34 q35 q36 q37 q38 q39 q40 q41 => by
      exact absurd hx (by
        match n, hn with
        | 0, _ => exact q0
        | 1, _ => exact q1
        | 2, _ => exact q2
        | 3, _ => exact q3
        | 4, _ => exact q4
        | 5, _ => exact q5
        | 6, _ => exact q6
        | 7, _ => exact q7
        | 8, _ => exact q8
        | 9, _ => exact q9
        | 10, _ => exact q10
        | 11, _ => exact q11
        | 12, _ => exact q12
        | 13, _ => exact q13
        | 14, _ => exact q14
        | 15, _ => exact q15
        | 16, _ => exact q16
        | 17, _ => exact q17
        | 18, _ => exact q18
        | 19, _ => exact q19
        | 20, _ => exact q20
        | 21, _ => exact q21
        | 22, _ => exact q22
        | 23, _ => exact q23
        | 24, _ => exact q24
        | 25, _ => exact q25
        | 26, _ => exact q26
        | 27, _ => exact q27
        | 28, _ => exact q28
        | 29, _ => exact q29
        | 30, _ => exact q30
        | 31, _ => exact q31
        | 32, _ => exact q32
        | 33, _ => exact q33
        | 34, _ => exact q34
        | 35, _ => exact q35
        | 36, _ => exact q36
        | 37, _ => exact q37
        | 38, _ => exact q38
        | 39, _ => exact q39
        | 40, _ => exact q40
        | 41, _ => exact q41
        | i + 42, hn => exact absurd hn (by omega)))
theorem x_skip {d : Nat} {g : xSt} {a3 : Int32} {S : Nat → Int32} {L : Nat} {r : Option Value × xSt} (hs : xH g 1000000 = .inl (.int, L)) (hv : xI g 1000000 = S) (hi : vp_in a3 L) (hx : ∀ i, i < 42 → ¬ ((S a3.toNatClampNeg) &&& 63) = nI i) (k : xX (d + 60) mL_law 1732 [some (.ref 1000000), some (.ref 0), some (.ref 113), some (.int a3)] [] g = some r) : xX (d + 60) mL_law 27 [some (.ref 1000000), some (.ref 0), some (.ref 113), some (.int a3)] [] g = some r :=
  bL_law_27 hi hs hv
    (fun q => absurd q (hx 0 (by decide)))
    (fun q => absurd q (hx 1 (by decide)))
    (fun q => absurd q (hx 2 (by decide)))
    (fun q => absurd q (hx 3 (by decide)))
    (fun q => absurd q (hx 4 (by decide)))
    (fun q => absurd q (hx 5 (by decide)))
    (fun q => absurd q (hx 6 (by decide)))
    (fun q => absurd q (hx 7 (by decide)))
    (fun q => absurd q (hx 8 (by decide)))
    (fun q => absurd q (hx 9 (by decide)))
    (fun q => absurd q (hx 10 (by decide)))
    (fun q => absurd q (hx 11 (by decide)))
    (fun q => absurd q (hx 12 (by decide)))
    (fun q => absurd q (hx 13 (by decide)))
    (fun q => absurd q (hx 14 (by decide)))
    (fun q => absurd q (hx 15 (by decide)))
    (fun q => absurd q (hx 16 (by decide)))
    (fun q => absurd q (hx 17 (by decide)))
    (fun q => absurd q (hx 18 (by decide)))
    (fun q => absurd q (hx 19 (by decide)))
    (fun q => absurd q (hx 20 (by decide)))
    (fun q => absurd q (hx 21 (by decide)))
    (fun q => absurd q (hx 22 (by decide)))
    (fun q => absurd q (hx 23 (by decide)))
    (fun q => absurd q (hx 24 (by decide)))
    (fun q => absurd q (hx 25 (by decide)))
    (fun q => absurd q (hx 26 (by decide)))
    (fun q => absurd q (hx 27 (by decide)))
    (fun q => absurd q (hx 28 (by decide)))
    (fun q => absurd q (hx 29 (by decide)))
    (fun q => absurd q (hx 30 (by decide)))
    (fun q => absurd q (hx 31 (by decide)))
    (fun q => absurd q (hx 32 (by decide)))
    (fun q => absurd q (hx 33 (by decide)))
    (fun q => absurd q (hx 34 (by decide)))
    (fun q => absurd q (hx 35 (by decide)))
    (fun q => absurd q (hx 36 (by decide)))
    (fun q => absurd q (hx 37 (by decide)))
    (fun q => absurd q (hx 38 (by decide)))
    (fun q => absurd q (hx 39 (by decide)))
    (fun q => absurd q (hx 40 (by decide)))
    (fun q => absurd q (hx 41 (by decide)))
    (fun _ _ _ _ _ _ _ _ _ _ _ _ _ _ _ _ _ _ _ _ _ _ _ _ _ _ _ _ _ _ _ _ _ _ _ _ _ _ _ _ _ _ => k)
theorem xlaw_end {L j : Nat} (hL : L < 1000000) (hj : j < 1000000) : (Int32.ofNat L - 6 < nI j) ↔ L < j + 6 := by
  have h : (Int32.ofNat L - 6).toInt = (L : Int) - 6 := by
    rw [Int32.toInt_sub, show (Int32.ofNat L).toInt = (L : Int) from nI_toInt (by omega), show (6 : Int32).toInt = 6 from rfl]
    rw [Int.bmod_eq_of_le] <;> omega
  rw [Int32.lt_iff_toInt_lt, h, nI_toInt (by omega)]
  omega
/-- the loop: with an invariant that every call keeps, the law answers true -/
theorem x_loop {d L : Nat} {S : Nat → Int32} (hL : L < 900000) (Inv : xSt → Prop) (hop : ∀ (n : Nat) (a1 a2 a3 a4 a5 : Int32) (g : xSt), n < 42 → xWf g → Inv g → ∃ g', xOp n a1 a2 a3 a4 a5 g = some (true, g') ∧ Inv g') : ∀ (m j : Nat) (g : xSt), j < 990000 → L < j + 6 * m + 6 → xWf g → Inv g → xH g 1000000 = .inl (.int, L) → xI g 1000000 = S → ∃ g', xX (d + 60) mL_law 18 [some (.ref 1000000), some (.ref 0), some (.ref 113), some (.int (nI j))] [] g = some (some (.int 1), g') ∧ g'.1 = g.1 := by
  intro m
  induction m with
  | zero =>
    intro j g hj hm W I hs hv
    exact ⟨g, bL_law_18 hs (fun _ => bL_law_1738 rfl) (fun n => absurd ((xlaw_end (by omega) (by omega)).mpr (by omega)) n), rfl⟩
  | succ m ih =>
    intro j g hj hm W I hs hv
    by_cases he : L < j + 6
    · exact ⟨g, bL_law_18 hs (fun _ => bL_law_1738 rfl) (fun n => absurd ((xlaw_end (by omega) (by omega)).mpr he) n), rfl⟩
    · have nx : ∀ g', xWf g' → Inv g' → xH g' 1000000 = .inl (.int, L) → xI g' 1000000 = S → ∃ g2, xX (d + 60) mL_law 1732 [some (.ref 1000000), some (.ref 0), some (.ref 113), some (.int (nI j))] [] g' = some (some (.int 1), g2) ∧ g2.1 = g'.1 := by
        intro g' W' I' hs' hv'
        obtain ⟨g2, h2, hz⟩ := ih (j + 6) g' (by omega) (by omega) W' I' hs' hv'
        exact ⟨g2, bL_law_1732 (by rw [show (6 : Int32) = nI 6 from rfl, nI_add]; exact h2), hz⟩
      have hin : ∀ q, q < 6 → vp_in (nI (j + q)) L := fun q hq => vp_in_nI (by omega) (by omega)
      have hin' : ∀ q, q < 6 → vp_in (nI j + nI q) L := fun q hq => by rw [nI_add]; exact hin q hq
      have go : ∀ r, xX (d + 60) mL_law 27 [some (.ref 1000000), some (.ref 0), some (.ref 113), some (.int (nI j))] [] g = some r → xX (d + 60) mL_law 18 [some (.ref 1000000), some (.ref 0), some (.ref 113), some (.int (nI j))] [] g = some r := fun r h => bL_law_18 hs (fun q => absurd ((xlaw_end (by omega) (by omega)).mp q) he) (fun _ => h)
      by_cases hx : ∃ n, n < 42 ∧ (S (nI j).toNatClampNeg &&& 63) = nI n
      · obtain ⟨n, hn, hx⟩ := hx
        obtain ⟨g', e, I'⟩ := hop n (S (nI j + 1).toNatClampNeg) (S (nI j + 2).toNatClampNeg) (S (nI j + 3).toNatClampNeg) (S (nI j + 4).toNatClampNeg) (S (nI j + 5).toNatClampNeg) g hn W I
        by_cases kp : xKp g g'
        · obtain ⟨g2, h2, hz⟩ := nx g' kp.1 I' ((congrFun kp.2.1 1000000).trans hs) (kp.2.2.1.trans hv)
          exact ⟨g2, go _ (x_turn W hs hv (hin 0 (by decide)) (hin' 1 (by decide)) (hin' 2 (by decide)) (hin' 3 (by decide)) (hin' 4 (by decide)) (hin' 5 (by decide)) hn hx e (fun _ => h2)), hz.trans kp.2.2.2⟩
        · exact ⟨g, go _ (x_turn W hs hv (hin 0 (by decide)) (hin' 1 (by decide)) (hin' 2 (by decide)) (hin' 3 (by decide)) (hin' 4 (by decide)) (hin' 5 (by decide)) hn hx e (fun q => absurd q kp)), rfl⟩
      · obtain ⟨g2, h2, hz⟩ := nx g W I hs hv
        exact ⟨g2, go _ (x_skip hs hv (hin 0 (by decide)) (fun i hi q => hx ⟨i, hi, q⟩) h2), hz⟩
