/-! the run with an invariant that counts the calls -/
/-- the loop: with an invariant that every call keeps, the law answers true -/
theorem x_loopN {d L : Nat} {S : Nat → Int32} (hL : L ≤ 3072) (Inv : Nat → xSt → Prop) (hop : ∀ (i n : Nat) (a1 a2 a3 a4 a5 : Int32) (g : xSt), i < 4000 → n < 42 → xWf g → Inv i g → ∃ g', xOp n a1 a2 a3 a4 a5 g = some (true, g') ∧ Inv (i + 1) g') : ∀ (m j i : Nat) (g : xSt), i ≤ j → j < 990000 → L < j + 6 * m + 6 → xWf g → Inv i g → xH g 1000000 = .inl (.int, L) → xI g 1000000 = S → ∃ g', xX (d + 60) mL_law 18 [some (.ref 1000000), some (.ref 0), some (.ref 113), some (.int (nI j))] [] g = some (some (.int 1), g') ∧ g'.1 = g.1 := by
  intro m
  induction m with
  | zero =>
    intro j i g hij hj hm W I hs hv
    exact ⟨g, bL_law_18 hs (fun _ => bL_law_1738 rfl) (fun n => absurd ((xlaw_end (by omega) (by omega)).mpr (by omega)) n), rfl⟩
  | succ m ih =>
    intro j i g hij hj hm W I hs hv
    by_cases he : L < j + 6
    · exact ⟨g, bL_law_18 hs (fun _ => bL_law_1738 rfl) (fun n => absurd ((xlaw_end (by omega) (by omega)).mpr he) n), rfl⟩
    · have nx : ∀ i' g', i' ≤ i + 1 → xWf g' → Inv i' g' → xH g' 1000000 = .inl (.int, L) → xI g' 1000000 = S → ∃ g2, xX (d + 60) mL_law 1732 [some (.ref 1000000), some (.ref 0), some (.ref 113), some (.int (nI j))] [] g' = some (some (.int 1), g2) ∧ g2.1 = g'.1 := by
        intro i' g' hi' W' I' hs' hv'
        obtain ⟨g2, h2, hz⟩ := ih (j + 6) i' g' (by omega) (by omega) (by omega) W' I' hs' hv'
        exact ⟨g2, bL_law_1732 (by rw [show (6 : Int32) = nI 6 from rfl, nI_add]; exact h2), hz⟩
      have hin : ∀ q, q < 6 → vp_in (nI (j + q)) L := fun q hq => vp_in_nI (by omega) (by omega)
      have hin' : ∀ q, q < 6 → vp_in (nI j + nI q) L := fun q hq => by rw [nI_add]; exact hin q hq
      have go : ∀ r, xX (d + 60) mL_law 27 [some (.ref 1000000), some (.ref 0), some (.ref 113), some (.int (nI j))] [] g = some r → xX (d + 60) mL_law 18 [some (.ref 1000000), some (.ref 0), some (.ref 113), some (.int (nI j))] [] g = some r := fun r h => bL_law_18 hs (fun q => absurd ((xlaw_end (by omega) (by omega)).mp q) he) (fun _ => h)
      by_cases hx : ∃ n, n < 42 ∧ (S (nI j).toNatClampNeg &&& 63) = nI n
      · obtain ⟨n, hn, hx⟩ := hx
        obtain ⟨g', e, I'⟩ := hop i n (S (nI j + 1).toNatClampNeg) (S (nI j + 2).toNatClampNeg) (S (nI j + 3).toNatClampNeg) (S (nI j + 4).toNatClampNeg) (S (nI j + 5).toNatClampNeg) g (by omega) hn W I
        by_cases kp : xKp g g'
        · obtain ⟨g2, h2, hz⟩ := nx (i + 1) g' (Nat.le_refl _) kp.1 I' ((congrFun kp.2.1 1000000).trans hs) (kp.2.2.1.trans hv)
          exact ⟨g2, go _ (x_turn W hs hv (hin 0 (by decide)) (hin' 1 (by decide)) (hin' 2 (by decide)) (hin' 3 (by decide)) (hin' 4 (by decide)) (hin' 5 (by decide)) hn hx e (fun _ => h2)), hz.trans kp.2.2.2⟩
        · exact ⟨g, go _ (x_turn W hs hv (hin 0 (by decide)) (hin' 1 (by decide)) (hin' 2 (by decide)) (hin' 3 (by decide)) (hin' 4 (by decide)) (hin' 5 (by decide)) hn hx e (fun q => absurd q kp)), rfl⟩
      · obtain ⟨g2, h2, hz⟩ := nx i g (Nat.le_succ _) W I hs hv
        exact ⟨g2, go _ (x_skip hs hv (hin 0 (by decide)) (fun i' hi q => hx ⟨i', hi, q⟩) h2), hz⟩
/-- the law's run, if there is an invariant that holds at the start and that every call keeps -/
theorem x_run_allN (Inv : Nat → xSt → Prop) (h0 : ∀ (L : Nat) (S : Nat → Int32), Inv 0 (xEx L S xg2)) (hop : ∀ (i n : Nat) (a1 a2 a3 a4 a5 : Int32) (g : xSt), i < 4000 → n < 42 → xWf g → Inv i g → ∃ g', xOp n a1 a2 a3 a4 a5 g = some (true, g') ∧ Inv (i + 1) g') {L : Nat} (hL : L ≤ 3072) (S : Nat → Int32) : ∃ (n : Nat) (g' : xSt), xRun n 200 mL_law 0 [some (.ref 1000000), none, none, none] [] (xEx L S x0) = some (some (.int 1), g') ∧ xN g' ≤ 600000 ∧ xU g' ≤ 7302250 := by
  obtain ⟨c1, n1⟩ := xCall_1 (d := 199) (L := L) (S := S) (by decide)
  obtain ⟨c2, n2⟩ := xCall_2 (d := 199) (L := L) (S := S) (by decide) n1
  obtain ⟨-, hN, hU, -, -⟩ := xg2_run
  have hN1 : xN (xEx L S xg1) = 113 := (xEx_N L S xg1).trans xg1_run.2
  obtain ⟨g', hx, hz⟩ := x_loopN (d := 140) (L := L) (S := S) hL Inv hop (L + 1) 0 0 (xEx L S xg2) (Nat.le_refl _) (by decide) (by omega) (xWf_ex xWf_2) (h0 L S) (xEx_H0 L S xg2) (xEx_I0 L S xg2)
  have hrun : xX 200 mL_law 0 [some (.ref 1000000), none, none, none] [] (xEx L S x0) = some (some (.int 1), g') := by
    refine Y_new dL_law_0 (c := 10) rfl rfl ?_
    refine Y_dup dL_law_3 rfl ?_
    refine Y_callI (y' := mX11_init) (as := []) (rest := [.ref 0]) dL_law_4 cl_16_9 rfl rfl (by rfl) (Nat.zero_le _) (by decide) (show 1 ≤ mX11_init.2.2.1 by decide) c1 ?_
    refine Y_astore_n dL_law_7 rfl rfl ?_
    refine Y_new dL_law_8 (c := 11) rfl (by simp [xMay, hN1]) ?_
    rw [hN1]
    refine Y_dup dL_law_11 rfl ?_
    refine Y_callI (y' := mX12_init) (as := []) (rest := [.ref 113]) dL_law_12 cl_16_12 rfl rfl ?_ (Nat.zero_le _) (by decide) (show 1 ≤ mX12_init.2.2.1 by decide) c2 ?_
    · have e1 : xN (xNew (xEx L S xg1) (.inr 11) (xNf 11)) = 114 := by rw [xN_New, hN1]
      have e2 : xH (xNew (xEx L S xg1) (.inr 11) (xNf 11)) 113 = .inr 11 := by rw [← hN1]; exact xH_New _ _ _
      show (decide (113 < xN _) && decide (xH _ 113 = .inr 11)) = true
      rw [e1, e2]
      rfl
    refine Y_astore_n dL_law_15 rfl rfl ?_
    refine Y_iconst 0 dL_law_16 rfl ?_
    refine Y_istore_n dL_law_17 rfl rfl ?_
    exact hx
  obtain ⟨n, hn⟩ := xX_iff.mp hrun
  refine ⟨n, g', hn, ?_, ?_⟩
  · show xN g' ≤ _
    rw [xN_of (hz.trans (xEx_1 L S xg2)), hN]
    decide
  · show xU g' ≤ _
    rw [xU_of (hz.trans (xEx_1 L S xg2))]
    omega
