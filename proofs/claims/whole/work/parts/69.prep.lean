/-! THE SEARCH: prepare -/
section PR
variable {g g' : xSt} {β n w c N : Nat} {T B : yT} {L : List Nat} {J U : Int32} {mk : Nat → Nat} {γ : Nat → Int32} {k a1 a2 a3 : Int32}
def dSS (o k : Nat) : Prop := dA o k ∨ (76 ≤ o ∧ o ≤ 87)
theorem dSS_no {o k : Nat} (h : (o ≤ 68 ∨ o = 70 ∨ o = 71 ∨ (o = 69 ∧ k < 5) ∨ (98 ≤ o ∧ o ≤ 110) ∨ (114 ≤ o ∧ o ≤ 134) ∨ (136 ≤ o ∧ o ≤ 143) ∨ 174 ≤ o ∨ (o = 113 ∧ (k ≤ 52 ∨ (55 ≤ k ∧ k ≤ 58) ∨ (60 ≤ k ∧ k ≤ 69) ∨ 73 ≤ k)))) : ¬ dSS o k := by unfold dSS dA; omega
theorem Cx.ss (C : Cx g β T B) (h : yAg dSS g g') : Cx g' β T B := by
  obtain ⟨c1, ⟨q1, q2, q3, q4, q5⟩, c3, c4⟩ := C
  have htw := xtw_lt c1
  have et : tw g' = tw g := by unfold tw; rw [h.1]
  refine ⟨by rw [et]; exact c1, ⟨q1, ?_, q3, (h.2 _ _ (dSS_no (by omega))).trans q4, q5.ag h (fun o k m => dSS_no (by simp only [List.mem_cons, List.not_mem_nil, or_false] at m; omega))⟩, c3.ag h (fun j k hj _ => dSS_no (by omega)) (fun o k m => dSS_no (by simp only [List.mem_cons, List.not_mem_nil, or_false] at m; omega)) (dSS_no (by omega)) (dSS_no (by omega)) (dSS_no (by omega)) (dSS_no (by omega)), c4.ag h (dSS_no (by omega)) (dSS_no (by omega)) (dSS_no (by omega)) (fun o k m => dSS_no (by simp only [List.mem_cons, List.not_mem_nil, or_false] at m; omega))⟩
  rw [et]
  exact q2.ag h (fun j k hj => dSS_no (by omega))
theorem yAg.ss (h : yAg dA g g') : yAg dSS g g' := h.up (fun _ _ q => Or.inl q)
theorem I_shelf.ss (q : I_shelf g) (h : yAg dSS g g') : I_shelf g' := q.ag h (fun o k m => by simp only [List.mem_cons, List.not_mem_nil, or_false] at m; unfold dSS dA; omega) (by unfold dSS dA; omega) (by unfold dSS dA; omega)
theorem yLC.ss (h : yAg (fun o _ => 76 ≤ o ∧ o ≤ 87) g g') (q : yLC g n w L) : yLC g' n w L := ⟨(h.2 69 5 (by omega)).trans q.1, (h.2 69 6 (by omega)).trans q.2.1, fun j hj => (h.2 72 j (by omega)).trans (q.2.2 j hj)⟩
/-- whether a set of places, or a thing's place, is looked for -/
def zJ (w : Nat) (a1 : Int32) : Int32 := if a1 = 2 then 1 else if a1 = 1 then (if w = 0 then 1 else 0) else 0
def zU (a1 a2 : Int32) : Int32 := if a1 = 2 then 1 <<< (a2 &&& 31) else 0
/-- begin, the orders, finish -/
theorem r_loadS (hJ : J = 0 ∨ J = 1) (o : I_orders g n w) (hL : yLC g n w L) (hi : yIn n w L) (hc : L.length ≤ 120) (hg : yGd n a1 a2) (q : I_search N g) : ∃ g', K_X11_prepare_82 a1 a2 (nI n) J U g = some (0, g') ∧ yAg (fun o _ => 76 ≤ o ∧ o ≤ 87) g g' ∧ ∃ mk γ, (∀ i, i < L.length → mk i = yMk n (yPv n w L i) ∧ γ i = nI (yGc n a1 a2 (yPv n w L i))) ∧ zR (N + 1) g' n J U L.length mk γ := by
  have hn := o.1
  have hw := o.2.1
  obtain ⟨r, n0, J0, U0, c0, mk0, γ0, q1, q2, q3, q4, q5, ⟨l1, l2, l3, l4, l5⟩, qC, q6, q7, q8⟩ := id q
  obtain ⟨g1, ch, b1, b2, b3, b4, b5, b6, b7, b8, b9, b10, b11⟩ := r_begin (U' := U) hn hJ q
  have bS : yAg (fun o _ => 76 ≤ o ∧ o ≤ 87) g g1 := b2.up (fun o k h => by unfold dBg at h; omega)
  let mk : Nat → Nat := fun i => yMk n (yPv n w L i)
  let γ : Nat → Int32 := fun i => nI (yGc n a1 a2 (yPv n w L i))
  have mlt : ∀ i, i < L.length → mk i < 2 ^ 30 := fun i h => (yOr_chk hn hw (hi.2 i h)).1
  have key : ∀ m j g2, m + j = L.length → zAd g1 g2 mk γ j → ∃ g3, xlim (S_X11_prepare_88 a1 a2) (nI j, g2) = some g3 ∧ zAd g1 g3 mk γ L.length := by
    intro m
    induction m with
    | zero =>
      intro j g2 hj z
      have : j = L.length := by omega
      subst this
      refine ⟨g2, xlim_end ?_, z⟩
      unfold S_X11_prepare_88
      have e5 : xI g2 69 5 = nI L.length := (z.1.2 69 5 (by unfold dAd; omega)).trans ((b2.2 69 5 (by unfold dBg; omega)).trans hL.1)
      simp only [e5]
      exact if_pos (nI_le (Nat.le_refl _) (by omega))
    | succ m ih =>
      intro j g2 hj z
      have hj' : j < L.length := by omega
      have yy : yAg (fun o _ => 76 ≤ o ∧ o ≤ 87) g g2 := bS.tr (z.1.up (fun o k h => by unfold dAd at h; omega))
      have o2 : I_orders g2 n w := o.ag yy (by omega) (by omega) (by omega) (fun o k m => by simp only [List.mem_cons, List.not_mem_nil, or_false] at m; omega)
      have L2 := hL.ss yy
      obtain ⟨g3, r1, r2⟩ := r_add (show j < 120 by omega) z
      have st : S_X11_prepare_88 a1 a2 (nI j, g2) = some (.inl (nI (j + 1), g3)) := by
        unfold S_X11_prepare_88
        simp only [L2.1, if_neg (nI_ge hj' (show L.length < 2 ^ 31 by omega)), r_leftAt L2 hi hj', r_goalOf o2 (hi.2 j hj') hg, r_markOf o2 (hi.2 j hj'), xb1_some, nI_1]
        rw [show E_X8_add (nI (yMk n (yOr n w (L.getD j 0)))) (nI (yGc n a1 a2 (yOr n w (L.getD j 0)))) g2 = some g3 from r1, xb1_some]
      obtain ⟨g4, s1, s2⟩ := ih (j + 1) g3 (by omega) r2
      exact ⟨g4, (xlim_go st).trans s1, s2⟩
  obtain ⟨g2, r1, z1, z2, z3, z4, z5⟩ := key L.length 0 g1 (by omega) ⟨yAg.refl _ _, rfl, b4, fun i hi => absurd hi (by omega), Or.inr ⟨rfl, fun _ _ _ => rfl⟩⟩
  have e7 : xI g1 76 7 = ch := b5
  have f3 : xI g2 76 3 = nI n := (z1.2 76 3 (by unfold dAd; omega)).trans b7
  have f4 : xI g2 76 4 = J := (z1.2 76 4 (by unfold dAd; omega)).trans b8
  have f5 : xI g2 76 5 = U := (z1.2 76 5 (by unfold dAd; omega)).trans b9
  have fC : zCo g2 n := ⟨fun a b ha hb => (z1.2 82 _ (by unfold dAd; omega)).trans (b10.1 a b ha hb), fun x hx => by rw [z1.2 83 x (by unfold dAd; omega)]; exact b10.2 x hx⟩
  have f15 : xI g2 76 15 = nI r := (z1.2 76 15 (by unfold dAd; omega)).trans ((b2.2 76 15 (by unfold dBg; omega)).trans q6)
  have fM : ∀ s, s < 4096 → ∃ ρ, ρ ≤ r ∧ xI g2 84 s = nI ρ := fun s hs => by
    obtain ⟨ρ, m1, m2, -⟩ := q8 s hs
    exact ⟨ρ, m1, (z1.2 84 s (by unfold dAd; omega)).trans ((b2.2 84 s (by unfold dBg; omega)).trans m2)⟩
  have y2 : yAg (fun o _ => 76 ≤ o ∧ o ≤ 87) g g2 := bS.tr (z1.up (fun o k h => by unfold dAd at h; omega))
  obtain ⟨g4, p1, p2, p3⟩ := r_fin19 (N := N) hc z3 mlt z4 f3 f4 f5 fC f15 q1 fM
  have body : ∀ g5, E_X8_finish g2 = some g5 → K_X11_prepare_82 a1 a2 (nI n) J U g = some (0, g5) := fun g5 h => by
    unfold K_X11_prepare_82
    rw [b1, xb1_some, show ((0 : Int32), g1) = (nI 0, g1) from rfl, r1, xb1_some, h, xb1_some]
  have other : E_X8_finish g2 = K_X8_finish_19 g2 → ∃ g', K_X11_prepare_82 a1 a2 (nI n) J U g = some (0, g') ∧ yAg (fun o _ => 76 ≤ o ∧ o ≤ 87) g g' ∧ ∃ mk γ, (∀ i, i < L.length → mk i = yMk n (yPv n w L i) ∧ γ i = nI (yGc n a1 a2 (yPv n w L i))) ∧ zR (N + 1) g' n J U L.length mk γ := fun h => ⟨g4, body g4 (h.trans p1), y2.tr (p2.up (fun o k h => by unfold dFn at h; omega)), mk, γ, fun _ _ => ⟨rfl, rfl⟩, p3⟩
  by_cases d : xI g2 76 7 = 0
  · by_cases e : xI g2 76 6 = xI g2 76 2
    · rcases z5 with z | ⟨z6, z7⟩
      · rw [z] at d; exact absurd d (by decide)
      · have c0' : ch = 0 := by rw [← e7, ← z6]; exact d
        obtain ⟨v1, v2, v3, v4, v5⟩ := b11 c0'
        have hn0 : n0 = n := (nI_eq (by omega) (by omega)).mp (l1.symm.trans v1)
        have hJ0 : J0 = J := l2.symm.trans v2
        have hU0 : U0 = U := l3.symm.trans v3
        have i2 : xI g2 76 2 = nI c0 := (z1.2 76 2 (by unfold dAd; omega)).trans ((b2.2 76 2 (by unfold dBg; omega)).trans l4)
        have hcc : c0 = L.length := (nI_eq (by omega) (by omega)).mp (i2.symm.trans (e.symm.trans z3))
        have hr0 : 0 < r := by
          rcases Nat.eq_zero_or_pos r with x | x
          · rw [x] at q6; exact absurd q6 v4
          · exact x
        subst hn0 hJ0 hU0 hcc
        have k77 : ∀ o k, o = 77 ∨ o = 78 → xI g2 o k = xI g o k := fun o k ho => (z7 o k ho).trans (b2.2 o k (by unfold dBg; omega))
        have same : ∀ i, i < L.length → mk0 i = mk i ∧ γ0 i = γ i := fun i hi => by
          obtain ⟨s1, s2⟩ := l5 i hi
          obtain ⟨t1, t2⟩ := z4 i hi
          rw [k77 77 i (Or.inl rfl)] at t1
          rw [k77 78 i (Or.inr rfl)] at t2
          have := mlt i hi
          have := q5 i hi
          exact ⟨(nI_eq (by omega) (by omega)).mp (s1.symm.trans t1), s2.symm.trans t2⟩
        have hsame : ∀ o k, o = 79 ∨ o = 80 ∨ o = 81 ∨ (84 ≤ o ∧ o ≤ 87) ∨ (o = 76 ∧ 8 ≤ k) → xI g2 o k = xI g o k := fun o k ho => (z1.2 o k (by unfold dAd; omega)).trans (b2.2 o k (by unfold dBg; omega))
        have hl : xL g2 = xL g := z2.trans b3
        refine ⟨g2, body g2 (by unfold E_X8_finish; rw [if_pos d, if_pos e]), y2, mk0, γ0, fun i hi => same i hi, r, hr0, by omega, ⟨f3, f4, f5, i2, fun i hi => by rw [(same i hi).1, (same i hi).2]; exact z4 i hi⟩, fC, f15, ?_, fun s hs => ?_⟩
        · obtain ⟨x1, x2, κ, K, x3, x4, x5, x6, x7⟩ := q7 hr0
          exact ⟨fun b hb => by rw [hl]; exact x1 b hb, (hsame 76 8 (by omega)).trans x2, κ, K, x3, (hsame 76 9 (by omega)).trans x4, fun i hi => ⟨(x5 i hi).1, (hsame 79 i (by omega)).trans (x5 i hi).2⟩, x6, fun k hk => by rw [hl]; exact x7 k hk⟩
        · obtain ⟨ρ, m1, m2, m3⟩ := q8 s hs
          refine ⟨ρ, m1, (hsame 84 s (by omega)).trans m2, fun h1 h2 => ?_⟩
          obtain ⟨lo, hi, w1, w2, w3, w4, w5, w6⟩ := m3 h1 h2
          exact ⟨lo, hi, w1, w2, by rw [hl]; exact w3, by rw [hl]; exact w4, by rw [hsame 86 s (by omega)]; exact w5, by rw [hsame 87 s (by omega)]; exact w6⟩
    · exact other (by unfold E_X8_finish; rw [if_pos d, if_neg e])
  · exact other (by unfold E_X8_finish; rw [if_neg d])
theorem zSame_fr {A : List Nat} {Bb : List (Nat × Nat)} (h : xFr A Bb g g') (hA : ∀ o, 76 ≤ o → o ≤ 87 → o ∉ A) (hB : ∀ o k, 76 ≤ o → o ≤ 87 → (o, k) ∉ Bb) : zSame g g' := fun o h1 h2 k => h.2.2.2 o (hA o h1 h2) k (hB o k h1 h2)
theorem r_prepare (W : xWf g) (C : Cx g β T B) (q : I_search N g) : (E_X11_prepare a1 a2 a3 g = some (-1, g) ∧ E_X12_isGoal a1 a2 g = some 0) ∨ (yGd (T 0 0) a1 a2 ∧ ∃ g', yAg dSS g g' ∧ Cx g' β T B ∧ yLC g' (T 0 0) (T 0 1) (yLs B a3 (T 0 0) (T 0 1) 0) ∧ ((120 < (yLs B a3 (T 0 0) (T 0 1) 0).length ∧ E_X11_prepare a1 a2 a3 g = some (-2, g') ∧ zSame g g') ∨ ((yLs B a3 (T 0 0) (T 0 1) 0).length ≤ 120 ∧ E_X11_prepare a1 a2 a3 g = some (0, g') ∧ ∃ mk γ, (∀ i, i < (yLs B a3 (T 0 0) (T 0 1) 0).length → mk i = yMk (T 0 0) (yPv (T 0 0) (T 0 1) (yLs B a3 (T 0 0) (T 0 1) 0) i) ∧ γ i = nI (yGc (T 0 0) a1 a2 (yPv (T 0 0) (T 0 1) (yLs B a3 (T 0 0) (T 0 1) 0) i))) ∧ zR (N + 1) g' (T 0 0) (zJ (T 0 1) a1) (zU a1 a2) (yLs B a3 (T 0 0) (T 0 1) 0).length mk γ))) := by
  rcases r_hasGoal0 (a1 := a1) (a2 := a2) C with ⟨h1, h2⟩ | h1
  · exact Or.inl ⟨by unfold E_X11_prepare; rw [if_pos h1], h2⟩
  · refine Or.inr ⟨h1, ?_⟩
    obtain ⟨g2, k1, k2, k3⟩ := r_know (k := a3) C
    obtain ⟨-, fr⟩ := e_X5_know (d := 0) W k1
    have sm : zSame g g2 := zSame_fr fr (fun o x y => by simp only [List.mem_cons, List.not_mem_nil, or_false]; omega) (fun o k x y => by simp only [List.mem_cons, List.not_mem_nil, or_false, Prod.mk.injEq]; omega)
    have C2 := C.as k2.A
    have hin : yIn (T 0 0) (T 0 1) (yLs B a3 (T 0 0) (T 0 1) 0) := yLs_in C.2.2.2.1 C.2.2.2.2.1
    have hlen := hin.1
    have one : ¬ F_X10_hasGoal g (tw g) a1 a2 = 0 := by rw [(r_hasGoal1 C h1).1]; decide
    by_cases c : (yLs B a3 (T 0 0) (T 0 1) 0).length ≤ 120
    · have hJ : zJ (T 0 1) a1 = 0 ∨ zJ (T 0 1) a1 = 1 := by
        unfold zJ
        split
        · exact Or.inr rfl
        · split
          · split
            · exact Or.inr rfl
            · exact Or.inl rfl
          · exact Or.inl rfl
      obtain ⟨g3, s1, s2, s3⟩ := r_loadS (J := zJ (T 0 1) a1) (U := zU a1 a2) (a1 := a1) (a2 := a2) hJ C2.2.2.2 k3 hin c h1 (q.eq (Nat.le_refl _) sm)
      have y3 : yAg dSS g g3 := (k2.ss).tr (s2.up (fun o k h => Or.inr h))
      refine ⟨g3, y3, C.ss y3, k3.ss s2, Or.inr ⟨c, ?_, s3⟩⟩
      have t0 : xI g2 (tw g2) 0 = nI (T 0 0) := C2.2.1.2.1.1
      have t3 : xI g2 (tw g2) 3 = nI (T 0 1) := C2.2.1.2.1.2.1
      unfold E_X11_prepare
      rw [if_neg one, k1, xb2_some, if_pos (show nI (yLs B a3 (T 0 0) (T 0 1) 0).length ≤ (120 : Int32) by rw [show (120 : Int32) = nI 120 from rfl]; exact nI_le (by omega) (by omega)), t0, t3]
      by_cases e2 : a1 = 2
      · rw [if_pos e2]
        unfold K_X11_prepare_65 K_X11_prepare_70
        rw [if_pos e2]
        have : zJ (T 0 1) a1 = 1 := if_pos e2
        have e3 : zU a1 a2 = 1 <<< (a2 &&& 31) := if_pos e2
        rw [this, e3] at s1; exact s1
      · rw [if_neg e2]
        have e3 : zU a1 a2 = 0 := if_neg e2
        by_cases e1 : a1 = 1
        · rw [if_pos e1]
          unfold K_X11_prepare_70
          rw [if_neg e2]
          have : zJ (T 0 1) a1 = if nI (T 0 1) = 0 then 1 else 0 := by
            unfold zJ
            rw [if_neg e2, if_pos e1]
            have hw := C.2.2.2.2.1
            by_cases z : T 0 1 = 0
            · rw [if_pos z, z, if_pos (by decide)]
            · rw [if_neg z, if_neg (show ¬ nI (T 0 1) = 0 from fun y => z ((nI_eq (by omega) (by decide)).mp (show nI (T 0 1) = nI 0 from y)))]
          rw [this, e3] at s1; exact s1
        · rw [if_neg e1]
          unfold K_X11_prepare_69 K_X11_prepare_70
          rw [if_neg e2]
          have : zJ (T 0 1) a1 = 0 := by unfold zJ; rw [if_neg e2, if_neg e1]
          rw [this, e3] at s1; exact s1
    · refine ⟨g2, k2.ss, C2, k3, Or.inl ⟨by omega, ?_, sm⟩⟩
      unfold E_X11_prepare
      rw [if_neg one, k1, xb2_some, if_neg (show ¬ nI (yLs B a3 (T 0 0) (T 0 1) 0).length ≤ (120 : Int32) by rw [show (120 : Int32) = nI 120 from rfl]; exact nI_ge (by omega) (by omega))]
end PR
