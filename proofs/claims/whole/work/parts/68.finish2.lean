/-! THE SEARCH: sortIn, finish -/
section FT
variable {g g' : xSt} {n c r N j : Nat} {J U : Int32} {mk : Nat → Nat} {γ : Nat → Int32}
def dFn (o k : Nat) : Prop := (o = 76 ∧ (k = 2 ∨ k = 8 ∨ k = 9 ∨ k = 15)) ∨ o = 79
def dSo (o k : Nat) : Prop := (o = 76 ∧ (k = 8 ∨ k = 9)) ∨ o = 79
def zMasks (g : xSt) (mk : Nat → Nat) (j : Nat) : Prop := ∀ b, b < 30 → zM g 81 b (zLo (fun i => (mk i).testBit b) j) (zHi (fun i => (mk i).testBit b) j)
def zBase (mk : Nat → Nat) (j : Nat) : Int32 := if (List.range j).any (fun i => decide (mk i % 1024 ≠ 0)) then 3 else 2
def zFp (g : xSt) (mk : Nat → Nat) (γ : Nat → Int32) (j : Nat) : Prop := zMasks g mk j ∧ xI g 76 8 = zBase mk j ∧ ∃ κ K, zKn g γ j κ K
theorem zBase_succ (mk : Nat → Nat) (j : Nat) : zBase mk (j + 1) = if mk j % 1024 = 0 then zBase mk j else 3 := by
  unfold zBase
  rw [List.range_succ, List.any_append]
  by_cases c : mk j % 1024 = 0
  · simp [c]
  · simp [c]
theorem r_1023 {x : Nat} : (nI x &&& 1023 = 0) ↔ x % 1024 = 0 := by
  rw [show (1023 : Int32) = nI 1023 from rfl, r_andG, show (1023 : Nat) = 2 ^ 10 - 1 from rfl, Nat.and_two_pow_sub_one_eq_mod, show (0 : Int32) = nI 0 from rfl]
  exact nI_eq (by omega) (by omega)
theorem r_sortIn2 (hj : j < 120) (hm : mk j < 2 ^ 30) (hγ : ∀ i, i < j + 1 → xI g 78 i = γ i) (hM : zMasks g mk j) {κ : Nat → Nat} {K : Nat} (hK : zKn g γ j κ K) : ∃ g', K_X8_sortIn_22 (nI j) (nI (mk j)) g = some g' ∧ yAg (fun o k => (o = 76 ∧ k = 9) ∨ o = 79) g g' ∧ zMasks g' mk (j + 1) ∧ ∃ κ K, zKn g' γ (j + 1) κ K := by
  obtain ⟨g1, m1, m2, m3, m4, m5⟩ := r_marks hj hm hM
  have hK1 : zKn g1 γ j κ K := by
    obtain ⟨k1, k2, k3, k4, k5⟩ := hK
    exact ⟨k1, by rw [m3]; exact k2, fun i hi => ⟨(k3 i hi).1, by rw [m3]; exact (k3 i hi).2⟩, k4, fun k hk => ⟨(k5 k hk).1, (k5 k hk).2.eq fun x _ => m4 80 x (by decide)⟩⟩
  obtain ⟨k, g2, e1, e2, e3, e4, e5⟩ := r_kindLike hj (fun i hi => by rw [m3]; exact hγ i hi) hK1
  have hU : ∃ K', k < K' ∧ K' ≤ j + 1 ∧ xI g2 76 9 = nI K' ∧ (∀ i, i < j → κ i < K') ∧ (∀ i, i < j → (κ i = k ↔ γ i = γ j)) ∧ ∀ k', k' < K' → (k' = k ∨ ∃ i, i < j ∧ κ i = k') ∧ zM g2 80 k' (zLo (fun i => κ i == k') j) (zHi (fun i => κ i == k') j) := by
    obtain ⟨k1, k2, k3, k4, k5⟩ := hK1
    rcases e5 with ⟨f1, f2, i0, f3, f4, f5⟩ | ⟨f1, f2, f3, f4, f5⟩
    · subst f2
      exact ⟨K, f1, by omega, k2, fun i hi => (k3 i hi).1, fun i hi => by rw [← f4, k4 i i0 hi f3, f5], fun k' hk' => ⟨Or.inr (k5 k' hk').1, (k5 k' hk').2⟩⟩
    · subst f1
      refine ⟨k + 1, by omega, by omega, f3, fun i hi => by have := (k3 i hi).1; omega, fun i hi => ⟨fun z => absurd z (by have := (k3 i hi).1; omega), fun z => absurd z (f2 i hi)⟩, fun k' hk' => ?_⟩
      by_cases d : k' = k
      · refine ⟨Or.inl d, ?_⟩
        have no : ∀ i, i < j → (κ i == k') = false := fun i hi => by
          have := (k3 i hi).1
          exact beq_false_of_ne (by omega)
        rw [show zLo (fun i => κ i == k') j = 0 from yBs_no fun i hi => no i (by omega), show zHi (fun i => κ i == k') j = 0 from yBs_no fun i hi => no _ (by omega), d]
        exact f4
      · exact ⟨Or.inr (k5 k' (by omega)).1, (k5 k' (by omega)).2.eq fun x hx => f5 x (by omega) (by omega)⟩
  obtain ⟨K', u1, u2, u3, u4, u5, u6⟩ := hU
  let κ' : Nat → Nat := fun i => if i = j then k else κ i
  have kj : κ' j = k := if_pos rfl
  have ki : ∀ i, i < j → κ' i = κ i := fun i hi => if_neg (by omega)
  have lo : ∀ k', zLo (fun i => κ' i == k') j = zLo (fun i => κ i == k') j := fun k' => zLo_congr fun i hi => by rw [ki i hi]
  have hi' : ∀ k', zHi (fun i => κ' i == k') j = zHi (fun i => κ i == k') j := fun k' => zHi_congr fun i hi => by rw [ki i hi]
  have mM : ∀ k', k' < K' → zM (xWI g2 79 j (nI k)) 80 k' (zLo (fun i => κ' i == k') j) (zHi (fun i => κ' i == k') j) := fun k' hk' => by rw [lo, hi']; exact (u6 k' hk').2
  obtain ⟨g3, p1, p2, p3, p4, p5⟩ := r_putM (g := xWI g2 79 j (nI k)) (n := 240) (p := fun i => κ' i == k) (a := k) (by omega) (by decide) hj (by show (κ' j == k) = true; rw [kj]; exact beq_self_eq_true k) (mM k u1)
  refine ⟨g3, ?_, ⟨?_, fun o b q => ?_⟩, fun b hb => (m5 b hb).eq fun x hx => ?_, κ', K', u2, ?_, fun i hi => ?_, fun i i' hi hi2 => ?_, fun k' hk' => ⟨?_, ?_⟩⟩
  · unfold K_X8_sortIn_22
    rw [m1, xb1_some, e1, xb2_some, xput_nI hj (by decide), p1, xb1_some]
  · exact p2.trans (e2.trans m2)
  · rw [p3, yI_wi, if_neg (by omega), e3 o b (by omega), m3]
  · rw [p4 81 x (Or.inl (by decide)), xL_WI, e4 81 x (by decide)]
  · rw [p3, yI_wi, if_neg (by omega)]; exact u3
  · by_cases d : i = j
    · subst d
      rw [kj]
      exact ⟨u1, by rw [p3, yI_wi, if_pos ⟨rfl, rfl⟩]⟩
    · rw [ki i (by omega)]
      exact ⟨u4 i (by omega), by rw [p3, yI_wi, if_neg (by omega), e3 79 i (by omega)]; exact (hK1.2.2.1 i (by omega)).2⟩
  · by_cases d : i = j
    · subst d
      by_cases d2 : i' = i
      · subst d2; exact ⟨fun _ => rfl, fun _ => rfl⟩
      · rw [kj, ki i' (by omega)]
        exact ⟨fun z => ((u5 i' (by omega)).mp z.symm).symm, fun z => ((u5 i' (by omega)).mpr z.symm).symm⟩
    · by_cases d2 : i' = j
      · subst d2
        rw [kj, ki i (by omega)]
        exact u5 i (by omega)
      · rw [ki i (by omega), ki i' (by omega)]
        exact hK1.2.2.2.1 i i' (by omega) (by omega)
  · rcases (u6 k' hk').1 with d | ⟨i, i1, i2⟩
    · exact ⟨j, by omega, by rw [kj, d]⟩
    · exact ⟨i, by omega, by rw [ki i i1, i2]⟩
  · by_cases d : k' = k
    · rw [d]; exact p5
    · exact zM_skip (p := fun i => κ' i == k') (by show (κ' j == k') = false; rw [kj]; exact beq_false_of_ne (fun z => d z.symm)) ((mM k' hk').eq fun x hx => p4 80 x (Or.inr (by omega)))
theorem zMasks.eq (h : zMasks g mk j) (e : xL g' = xL g) : zMasks g' mk j := fun b hb => (h b hb).eq fun k _ => by rw [e]
theorem r_sortIn (hj : j < 120) (hm : mk j < 2 ^ 30) (h77 : xI g 77 j = nI (mk j)) (hγ : ∀ i, i < j + 1 → xI g 78 i = γ i) (h : zFp g mk γ j) : ∃ g', E_X8_sortIn (nI j) g = some g' ∧ yAg dSo g g' ∧ zFp g' mk γ (j + 1) := by
  obtain ⟨h1, h2, κ, K, h3⟩ := h
  have up : ∀ o k, ((o = 76 ∧ k = 9) ∨ o = 79) → dSo o k := fun o k q => by unfold dSo; omega
  unfold E_X8_sortIn
  rw [xat_nI hj (by decide), h77]
  by_cases c : mk j % 1024 = 0
  · rw [if_pos (r_1023.mpr c)]
    obtain ⟨g', r1, r2, r3, r4⟩ := r_sortIn2 hj hm hγ h1 h3
    exact ⟨g', r1, r2.up up, r3, by rw [zBase_succ, if_pos c, r2.2 76 8 (by omega)]; exact h2, r4⟩
  · rw [if_neg (fun z => c (r_1023.mp z))]
    have hK : zKn (xWI g 76 8 3) γ j κ K := by
      obtain ⟨k1, k2, k3, k4, k5⟩ := h3
      exact ⟨k1, by rw [yI_wi, if_neg (by decide)]; exact k2, fun i hi => ⟨(k3 i hi).1, by rw [yI_wi, if_neg (by omega)]; exact (k3 i hi).2⟩, k4, k5⟩
    obtain ⟨g', r1, r2, r3, r4⟩ := r_sortIn2 (g := xWI g 76 8 3) hj hm (fun i hi => by rw [yI_wi, if_neg (by omega)]; exact hγ i hi) h1 hK
    exact ⟨g', r1, ((yAg.refl _ g).wi (by unfold dSo; omega)).tr (r2.up up), r3, by rw [zBase_succ, if_neg c, r2.2 76 8 (by omega), yI_wi, if_pos ⟨rfl, rfl⟩], r4⟩
/-- loaded, with a round of its own -/
def zR (N : Nat) (g : xSt) (n : Nat) (J U : Int32) (c : Nat) (mk : Nat → Nat) (γ : Nat → Int32) : Prop := ∃ r, 0 < r ∧ r ≤ N ∧ zLd g n J U c mk γ ∧ zCo g n ∧ xI g 76 15 = nI r ∧ zFn g c mk γ ∧ zMe g r n c mk γ
theorem zR.inv (hn : n ≤ 5) (hJ : J = 0 ∨ J = 1) (hc : c ≤ 120) (hm : ∀ i, i < c → mk i < 2 ^ 30) (h : zR N g n J U c mk γ) : I_search N g := by
  obtain ⟨r, h1, h2, h3, h4, h5, h6, h7⟩ := h
  exact ⟨r, n, J, U, c, mk, γ, h2, hn, hJ, hc, hm, h3, h4, h5, fun _ => h6, h7⟩
theorem zFp.fn (h : zFp g mk γ c) : zFn g c mk γ := by
  obtain ⟨h1, h2, κ, K, k1, k2, k3, k4, k5⟩ := h
  exact ⟨fun b hb => h1 b hb, h2, κ, K, k1, k2, k3, k4, fun k hk => ⟨(k5 k hk).1, (k5 k hk).2.1, (k5 k hk).2.2⟩⟩
theorem r_zero : ∀ m j g1, m + j = 60 → (∀ x, x < j → xL g1 81 x = 0) → ∃ g', xlim S_X8_finish_49 (nI j, g1) = some g' ∧ xR g' = xR g1 ∧ xI g' = xI g1 ∧ ∀ x, x < 60 → xL g' 81 x = 0 := by
  intro m
  induction m with
  | zero =>
    intro j g1 hj h
    refine ⟨g1, xlim_end ?_, rfl, rfl, fun x hx => h x (by omega)⟩
    unfold S_X8_finish_49
    exact if_pos (show (60 : Int32) ≤ nI j by rw [show (60 : Int32) = nI 60 from rfl]; exact nI_le (by omega) (by omega))
  | succ m ih =>
    intro j g1 hj h
    have st : S_X8_finish_49 (nI j, g1) = some (.inl (nI (j + 1), xWL g1 81 j 0)) := by
      unfold S_X8_finish_49
      have : ¬ (60 : Int32) ≤ nI j := by rw [show (60 : Int32) = nI 60 from rfl]; exact nI_ge (by omega) (by omega)
      simp only [if_neg this, xputL_nI (show j < 60 by omega) (show 60 < 2 ^ 31 by decide), nI_1]
    obtain ⟨g', r1, r2, r3, r4⟩ := ih (j + 1) (xWL g1 81 j 0) (by omega) (fun x hx => by
      rw [yL_wl]
      by_cases d : x = j
      · rw [if_pos ⟨rfl, d⟩]
      · rw [if_neg (by omega)]; exact h x (by omega))
    exact ⟨g', (xlim_go st).trans r1, r2, r3, r4⟩
theorem r_fin19 (hc : c ≤ 120) (h6 : xI g 76 6 = nI c) (hm : ∀ i, i < c → mk i < 2 ^ 30) (hr : ∀ i, i < c → xI g 77 i = nI (mk i) ∧ xI g 78 i = γ i) (h3 : xI g 76 3 = nI n) (h4 : xI g 76 4 = J) (h5 : xI g 76 5 = U) (hC : zCo g n) (h15 : xI g 76 15 = nI r) (hN : r ≤ N) (hM : ∀ s, s < 4096 → ∃ ρ, ρ ≤ r ∧ xI g 84 s = nI ρ) : ∃ g', K_X8_finish_19 g = some g' ∧ yAg dFn g g' ∧ zR (N + 1) g' n J U c mk γ := by
  have a1 : xI (xWI g 76 2 (nI c)) 76 15 = nI r := by rw [yI_wi, if_neg (by decide)]; exact h15
  have y1 : yAg dFn g (xWI (xWI (xWI (xWI g 76 2 (nI c)) 76 15 (nI (r + 1))) 76 9 0) 76 8 2) := ((((yAg.refl _ g).wi (by unfold dFn; omega)).wi (by unfold dFn; omega)).wi (by unfold dFn; omega)).wi (by unfold dFn; omega)
  obtain ⟨g1, r1, r2, r3, r4⟩ := r_zero 60 0 (xWI (xWI (xWI (xWI g 76 2 (nI c)) 76 15 (nI (r + 1))) 76 9 0) 76 8 2) (by omega) (fun x hx => by omega)
  have y2 : yAg dFn g g1 := y1.tr ⟨r2, fun o k _ => by rw [r3]⟩
  have i2 : xI g1 76 2 = nI c := by rw [r3]; simp [yI_wi]
  have i15 : xI g1 76 15 = nI (r + 1) := by rw [r3]; simp [yI_wi]
  have i9 : xI g1 76 9 = nI 0 := by rw [r3]; simp [yI_wi]; rfl
  have i8 : xI g1 76 8 = 2 := by rw [r3]; simp [yI_wi]
  have F0 : zFp g1 mk γ 0 := by
    refine ⟨fun b hb => ⟨r4 _ (by omega), r4 _ (by omega)⟩, i8, fun _ => 0, 0, Nat.le_refl _, i9, fun i hi => absurd hi (by omega), fun i i' hi => absurd hi (by omega), fun k hk => absurd hk (by omega)⟩
  have key : ∀ m j g1, m + j = c → yAg dFn g g1 → xI g1 76 2 = nI c → xI g1 76 15 = nI (r + 1) → zFp g1 mk γ j → ∃ g', xlim S_X8_finish_75 (nI j, g1) = some g' ∧ yAg dFn g g' ∧ xI g' 76 2 = nI c ∧ xI g' 76 15 = nI (r + 1) ∧ zFp g' mk γ c := by
    intro m
    induction m with
    | zero =>
      intro j g1 hj y e2 e15 F
      have : j = c := by omega
      subst this
      refine ⟨g1, xlim_end ?_, y, e2, e15, F⟩
      unfold S_X8_finish_75
      simp only [e2]
      exact if_pos (nI_le (Nat.le_refl _) (by omega))
    | succ m ih =>
      intro j g1 hj y e2 e15 F
      obtain ⟨g2, s1, s2', s3⟩ := r_sortIn (show j < 120 by omega) (hm j (by omega)) ((y.2 77 j (by unfold dFn; omega)).trans (hr j (by omega)).1) (fun i hi => (y.2 78 i (by unfold dFn; omega)).trans (hr i (by omega)).2) F
      have s2 : yAg dFn g1 g2 := s2'.up (fun o k q => by unfold dSo at q; unfold dFn; omega)
      have s4 := (s2'.2 76 2 (by unfold dSo; omega)).trans e2
      have s5 := (s2'.2 76 15 (by unfold dSo; omega)).trans e15
      have st : S_X8_finish_75 (nI j, g1) = some (.inl (nI (j + 1), g2)) := by
        unfold S_X8_finish_75
        simp only [e2, if_neg (nI_ge (show j < c by omega) (show c < 2 ^ 31 by omega)), s1, xb1_some, nI_1]
      obtain ⟨g', q1, q2⟩ := ih (j + 1) g2 (by omega) (y.tr s2) s4 s5 s3
      exact ⟨g', (xlim_go st).trans q1, q2⟩
  obtain ⟨g', q1, q2, q3, q4, q5⟩ := key c 0 g1 (by omega) y2 i2 i15 F0
  refine ⟨g', ?_, q2, r + 1, by omega, by omega, ⟨(q2.2 76 3 (by unfold dFn; omega)).trans h3, (q2.2 76 4 (by unfold dFn; omega)).trans h4, (q2.2 76 5 (by unfold dFn; omega)).trans h5, q3, fun i hi => ⟨(q2.2 77 i (by unfold dFn; omega)).trans (hr i hi).1, (q2.2 78 i (by unfold dFn; omega)).trans (hr i hi).2⟩⟩, ⟨fun a b ha hb => (q2.2 82 _ (by unfold dFn; omega)).trans (hC.1 a b ha hb), fun x hx => by rw [q2.2 83 x (by unfold dFn; omega)]; exact hC.2 x hx⟩, q4, q5.fn, fun s hs => ?_⟩
  · unfold K_X8_finish_19
    rw [h6, h15, nI_1, show ((0 : Int32), xWI (xWI (xWI (xWI g 76 2 (nI c)) 76 15 (nI (r + 1))) 76 9 0) 76 8 2) = (nI 0, xWI (xWI (xWI (xWI g 76 2 (nI c)) 76 15 (nI (r + 1))) 76 9 0) 76 8 2) from rfl, r1, xb1_some, show ((0 : Int32), g1) = (nI 0, g1) from rfl, q1, xb1_some]
  · obtain ⟨ρ, o1, o2⟩ := hM s hs
    exact ⟨ρ, by omega, (q2.2 84 s (by unfold dFn; omega)).trans o2, fun _ z => absurd z (by omega)⟩
end FT
