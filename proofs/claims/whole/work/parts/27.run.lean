/-! THE WHOLE RUN of the abstract machine: the two constructors, then the loop -/
section YN
variable {d : Nat} {y : xMI} {pc : Nat} {al : xAL} {st : List Value} {g : xSt} {r : Option Value × xSt}
theorem Y_new {idx c : Nat} (hd : decode y.2.1 pc = .ok (.new idx, 3)) (hw : xNw y.2.2.2.2 idx = some c) (hm : xMay g = true) (k : xX d y (pc + 3) al (.ref (xN g) :: st) (xNew g (.inr c) (xNf c)) = some r) : xX d y pc al st g = some r :=
  (X_hp hd rfl rfl rfl rfl rfl (by unfold xOp2; simp only [xBI, xBL, xBS]; split <;> rfl) (by simp only [xHp, hw]; rw [if_pos hm])).trans k
theorem Y_callI {idx n o : Nat} {y' : xMI} {as rest : List Value} {v : Option Value} {g' : xSt} (hd : decode y.2.1 pc = .ok (.invokespecial idx, 3)) (hcl : xCl y.2.2.2.2 idx = some (1, y', n)) (has : (st.take n).reverse = as) (hr : st.drop n = .ref o :: rest) (ho : xIs g o y'.2.2.2.2 = true) (hn : n ≤ st.length) (hs : (rest.map fun v => v.category).sum ≤ 8) (he : (xEnt (.ref o :: as)).length ≤ y'.2.2.1) (hm : xCallM d y' (.ref o :: as) g = some (v, g')) (k : xX (d + 1) y (pc + 3) al (v.toList ++ rest) g' = some r) : xX (d + 1) y pc al st g = some r := by
  subst has
  refine (X_called hd rfl ?_ hm).trans k
  simp only [xCall, hcl, hr]
  rw [if_pos ⟨Or.inl trivial, trivial, hn, ho, hs, he⟩]
end YN
theorem xIsV_some {r : xRes} (h : xIsV r = true) : ∃ g, r = some (none, g) := by
  unfold xIsV at h
  split at h
  · rename_i g; exact ⟨g, rfl⟩
  · cases h
theorem xg1_run : xi1 = some (none, xg1) ∧ xN xg1 = 113 := by
  have h := xi1_ok
  simp only [Bool.and_eq_true, decide_eq_true_eq] at h
  obtain ⟨g, hg⟩ := xIsV_some h.1
  refine ⟨?_, h.2⟩
  rw [hg, show xg1 = g by unfold xg1; rw [hg]]
theorem xg2_run : xi2 = some (none, xg2) ∧ xN xg2 = 181 ∧ xU xg2 < 1000000 ∧ (∀ o, o < 181 → xH xg2 o = xShp o) ∧ xH xg2 1000000 = .inr 99 := by
  have h := xi2_ok
  simp only [Bool.and_eq_true, decide_eq_true_eq, List.all_eq_true] at h
  obtain ⟨g, hg⟩ := xIsV_some h.1
  refine ⟨?_, h.2.1, h.2.2.1, fun o ho => h.2.2.2.1 o (List.mem_range.mpr ho), h.2.2.2.2⟩
  rw [hg, show xg2 = g by unfold xg2; rw [hg]]
theorem xNo_0 : xNo x0 := ⟨Nat.zero_le _, rfl⟩
theorem xNo_1 : xNo (xNew x0 (.inr 10) (xNf 10)) := xNo_new xNo_0 rfl
theorem xCall_1 {d L : Nat} {S : Nat → Int32} (hd : 20 ≤ d) : xCallM d mX11_init [.ref 0] (xNew (xEx L S x0) (.inr 10) (xNf 10)) = some (none, xEx L S xg1) ∧ xNo xg1 := by
  obtain ⟨a1, a2⟩ := xEx_run (L := L) (S := S) 3000 20 mX11_init 0 (xEntry [.ref 0] mX11_init.2.2.1) [] (xNew x0 (.inr 10) (xNf 10)) none xg1 xNo_1 xg1_run.1
  refine ⟨?_, a2⟩
  rw [xEx_new (by decide)]
  exact xX_deep hd (xX_iff.mpr ⟨3000, a1⟩)
theorem xCall_2 {d L : Nat} {S : Nat → Int32} (hd : 20 ≤ d) (hn : xNo xg1) : xCallM d mX12_init [.ref 113] (xNew (xEx L S xg1) (.inr 11) (xNf 11)) = some (none, xEx L S xg2) ∧ xNo xg2 := by
  have hN := xg1_run.2
  obtain ⟨a1, a2⟩ := xEx_run (L := L) (S := S) 3000 20 mX12_init 0 (xEntry [.ref 113] mX12_init.2.2.1) [] (xNew xg1 (.inr 11) (xNf 11)) none xg2 (xNo_new hn (by simp [xMay, hN])) xg2_run.1
  refine ⟨?_, a2⟩
  rw [xEx_new (by rw [hN]; decide)]
  exact xX_deep hd (xX_iff.mpr ⟨3000, a1⟩)
theorem xPtr_in {o k t : Nat} (h : xPtr o k = some t) : o ∈ xPo ∧ k < 90 := by
  have len : ∀ (l : List (Option Nat)), l.getD k none = some t → k < l.length := by
    intro l hl
    rcases Nat.lt_or_ge k l.length with q | q
    · exact q
    · rw [List.getD_eq_getElem?_getD, List.getElem?_eq_none q] at hl; cases hl
  unfold xPtr at h
  split at h <;> first | (cases h; done) | exact ⟨by decide, Nat.lt_of_lt_of_le (len _ h) (by decide)⟩
theorem xWf_2 : xWf xg2 := by
  obtain ⟨-, h1, -, h2, -⟩ := xg2_run
  have h := xi2_ptr
  simp only [Bool.and_eq_true, decide_eq_true_eq, List.all_eq_true] at h
  have ht : tw xg2 = 2 := by unfold tw; rw [h.1]
  refine ⟨h1, h2, ?_, ?_, ?_, ?_⟩
  · intro o k t q
    obtain ⟨q1, q2⟩ := xPtr_in q
    have := h.2.2 o q1 k (List.mem_range.mpr q2)
    rw [q] at this
    exact of_decide_eq_true this
  · rw [ht]; exact h.1
  · rw [ht]; exact Or.inl rfl
  · rw [ht]; exact h.2.1
theorem xEx_R (L : Nat) (S : Nat → Int32) (g : xSt) : xR (xEx L S g) = xR g := rfl
theorem xWf_ex {L : Nat} {S : Nat → Int32} {g : xSt} (W : xWf g) : xWf (xEx L S g) := by
  obtain ⟨w1, w2, w3, w4, w5, w6⟩ := W
  exact ⟨w1, fun o ho => (xEx_H (by omega)).trans (w2 o ho), w3, w4, w5, w6⟩
theorem xEx_1 (L : Nat) (S : Nat → Int32) (g : xSt) : (xEx L S g).1 = g.1 := rfl
theorem xEx_N (L : Nat) (S : Nat → Int32) (g : xSt) : xN (xEx L S g) = xN g := rfl
theorem xEx_U (L : Nat) (S : Nat → Int32) (g : xSt) : xU (xEx L S g) = xU g := rfl
theorem xEx_H0 (L : Nat) (S : Nat → Int32) (g : xSt) : xH (xEx L S g) 1000000 = .inl (.int, L) := (if_pos rfl : (if (1000000 : Nat) = 1000000 then (.inl (.int, L) : xSh) else g.2.1 1000000) = .inl (.int, L))
theorem xEx_I0 (L : Nat) (S : Nat → Int32) (g : xSt) : xI (xEx L S g) 1000000 = S := by funext k; exact (if_pos rfl : (if (1000000 : Nat) = 1000000 then S k else g.2.2.1 1000000 k) = S k)
theorem xN_of {g g' : xSt} (h : g'.1 = g.1) : xN g' = xN g := congrArg Prod.fst h
theorem xU_of {g g' : xSt} (h : g'.1 = g.1) : xU g' = xU g := congrArg Prod.snd h
/-- the law's run, if there is an invariant that holds at the start and that every call keeps -/
theorem x_run_all (Inv : xSt → Prop) (h0 : ∀ (L : Nat) (S : Nat → Int32), Inv (xEx L S xg2)) (hop : ∀ (n : Nat) (a1 a2 a3 a4 a5 : Int32) (g : xSt), n < 42 → xWf g → Inv g → ∃ g', xOp n a1 a2 a3 a4 a5 g = some (true, g') ∧ Inv g') {L : Nat} (hL : L ≤ 3072) (S : Nat → Int32) : ∃ (n : Nat) (g' : xSt), xRun n 200 mL_law 0 [some (.ref 1000000), none, none, none] [] (xEx L S x0) = some (some (.int 1), g') ∧ xN g' ≤ 600000 ∧ xU g' ≤ 7302250 := by
  obtain ⟨c1, n1⟩ := xCall_1 (d := 199) (L := L) (S := S) (by decide)
  obtain ⟨c2, n2⟩ := xCall_2 (d := 199) (L := L) (S := S) (by decide) n1
  obtain ⟨-, hN, hU, -, -⟩ := xg2_run
  have hN1 : xN (xEx L S xg1) = 113 := (xEx_N L S xg1).trans xg1_run.2
  obtain ⟨g', hx, hz⟩ := x_loop (d := 140) (L := L) (S := S) (by omega) Inv hop (L + 1) 0 (xEx L S xg2) (by decide) (by omega) (xWf_ex xWf_2) (h0 L S) (xEx_H0 L S xg2) (xEx_I0 L S xg2)
  have hrun : xX 200 mL_law 0 [some (.ref 1000000), none, none, none] [] (xEx L S x0) = some (some (.int 1), g') := by
    refine Y_new dL_law_0 (c := 10) rfl rfl ?_
    refine Y_dup dL_law_3 rfl ?_
    refine Y_callI (y' := mX11_init) (as := []) (rest := [.ref 0]) dL_law_4 cl_16_9 rfl rfl (by rfl) (Nat.zero_le _) (by decide) (show 1 ≤ mX11_init.2.2.1 by decide) c1 ?_
    refine Y_astore_n dL_law_7 rfl rfl ?_
    refine Y_new dL_law_8 (c := 11) rfl (by simp [xMay, hN1]) ?_
    rw [hN1]
    refine Y_dup dL_law_11 rfl ?_
    refine Y_callI (y' := mX12_init) (as := []) (rest := [.ref 113]) dL_law_12 cl_16_12 rfl rfl ?_ (Nat.zero_le _) (by decide) (show 1 ≤ mX12_init.2.2.1 by decide) c2 ?_
    · have e1 : xN (xNew (xEx L S xg1) (.inr 11) (xNf 11)) = 114 := by rw [xN_New, hN1]
      have e2 : xH (xNew (xEx L S xg1) (.inr 11) (xNf 11)) 113 = .inr 11 := by rw [← hN1]; exact xH_New _ _ _
      show (decide (113 < xN _) && decide (xH _ 113 = .inr 11)) = true
      rw [e1, e2]
      rfl
    refine Y_astore_n dL_law_15 rfl rfl ?_
    refine Y_iconst 0 dL_law_16 rfl ?_
    refine Y_istore_n dL_law_17 rfl rfl ?_
    exact hx
  obtain ⟨n, hn⟩ := xX_iff.mp hrun
  refine ⟨n, g', hn, ?_, ?_⟩
  · show xN g' ≤ _
    rw [xN_of (hz.trans (xEx_1 L S xg2)), hN]
    decide
  · show xU g' ≤ _
    rw [xU_of (hz.trans (xEx_1 L S xg2))]
    omega
