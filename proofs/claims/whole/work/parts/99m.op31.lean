/-! CALL 31, swapped -/
section SX
variable {g g' g1 g2 : xSt} {β n w c p s m N : Nat} {mk V ρ : Nat → Nat} {γ : Nat → Int32} {T B : yT} {L : List Nat} {J U a1 a2 a3 a4 a5 ch : Int32}
def dAe (o k : Nat) : Prop := dAd o k ∨ o = 75
def d31 (o k : Nat) : Prop := (76 ≤ o ∧ o ≤ 87) ∨ o = 75
theorem d31_ss : ∀ o k, d31 o k → dSS o k := fun o k h => by unfold d31 at h; unfold dSS dA; omega
def zAe (g0 g : xSt) (mk : Nat → Nat) (γ : Nat → Int32) (j : Nat) : Prop := yAg dAe g0 g ∧ xL g = xL g0 ∧ xI g 76 6 = nI j ∧ (∀ i, i < j → xI g 77 i = nI (mk i) ∧ xI g 78 i = γ i) ∧ (xI g 76 7 = 1 ∨ (xI g 76 7 = xI g0 76 7 ∧ ∀ o k, o = 77 ∨ o = 78 → xI g o k = xI g0 o k))
theorem r_addE {g0 : xSt} {j : Nat} (hj : j < 120) (h : zAe g0 g mk γ j) : ∃ g', E_X8_add (nI (mk j)) (γ j) g = some g' ∧ zAe g0 g' mk γ (j + 1) := by
  obtain ⟨y, hL, h6, hr, hc⟩ := h
  have h120 : nI j < (120 : Int32) := nI_lt hj (by decide)
  have ch : ∃ g', K_X8_add_43 (nI (mk j)) (γ j) g = some g' ∧ zAe g0 g' mk γ (j + 1) := by
    unfold K_X8_add_43
    simp only [h6, xck_nI hj (show (120 : Nat) < 2 ^ 31 by decide), nI_clamp (show j < 2 ^ 31 by omega)]
    have e6 : xI (xWI (xWI (xWI g 76 7 1) 77 j (nI (mk j))) 78 j (γ j)) 76 6 = nI j := by
      rw [yI_wi, if_neg (by omega), yI_wi, if_neg (by omega), yI_wi, if_neg (by omega)]; exact h6
    rw [e6, nI_1]
    refine ⟨_, rfl, (((y.wi (by unfold dAe dAd; omega)).wi (by unfold dAe dAd; omega)).wi (by unfold dAe dAd; omega)).wi (by unfold dAe dAd; omega), hL, by rw [yI_wi, if_pos ⟨rfl, rfl⟩], fun i hi => ?_, Or.inl ?_⟩
    · by_cases e : i = j
      · subst e
        refine ⟨?_, ?_⟩
        · rw [yI_wi, if_neg (by omega), yI_wi, if_neg (by omega), yI_wi, if_pos ⟨rfl, rfl⟩]
        · rw [yI_wi, if_neg (by omega), yI_wi, if_pos ⟨rfl, rfl⟩]
      · obtain ⟨z1, z2⟩ := hr i (by omega)
        refine ⟨?_, ?_⟩
        · rw [yI_wi, if_neg (by omega), yI_wi, if_neg (by omega), yI_wi, if_neg (by omega), yI_wi, if_neg (by omega)]; exact z1
        · rw [yI_wi, if_neg (by omega), yI_wi, if_neg (by omega), yI_wi, if_neg (by omega), yI_wi, if_neg (by omega)]; exact z2
    · rw [yI_wi, if_neg (by omega), yI_wi, if_neg (by omega), yI_wi, if_neg (by omega), yI_wi, if_pos ⟨rfl, rfl⟩]
  unfold E_X8_add
  rw [h6, if_neg (nI_pos (by omega)), if_pos h120, xck_nI hj (by decide), xck_nI hj (by decide), nI_clamp (by omega)]
  by_cases c1 : xI g 77 j = nI (mk j)
  · rw [if_pos c1]
    by_cases c2 : xI g 78 j = γ j
    · rw [if_pos c2, nI_1]
      refine ⟨_, rfl, y.wi (by unfold dAe dAd; omega), hL, by rw [yI_wi, if_pos ⟨rfl, rfl⟩], fun i hi => ?_, ?_⟩
      · rw [yI_wi, if_neg (by omega), yI_wi, if_neg (by omega)]
        by_cases e : i = j
        · subst e; exact ⟨c1, c2⟩
        · exact hr i (by omega)
      · rw [yI_wi, if_neg (by omega)]
        exact hc.imp id fun ⟨z1, z2⟩ => ⟨z1, fun o k ho => by rw [yI_wi, if_neg (by omega)]; exact z2 o k ho⟩
    · rw [if_neg c2]; exact ch
  · rw [if_neg c1]; exact ch
theorem r_finL (hn : n ≤ 5) (hc : c ≤ 120) (q : I_search N g) (b2 : yAg dBg g g1) (b3 : xL g1 = xL g) (b5 : xI g1 76 7 = ch) (b7 : xI g1 76 3 = nI n) (b8 : xI g1 76 4 = J) (b9 : xI g1 76 5 = U) (b10 : zCo g1 n) (b11 : ch = 0 → xI g 76 3 = nI n ∧ xI g 76 4 = J ∧ xI g 76 5 = U ∧ ¬ xI g 76 15 = 0 ∧ ∀ o k, o = 82 ∨ o = 83 → xI g1 o k = xI g o k) (z : zAe g1 g2 mk γ c) (mlt : ∀ i, i < c → mk i < 2 ^ 30) : ∃ g' mk' γ', E_X8_finish g2 = some g' ∧ yAg d31 g g' ∧ (∀ i, i < c → mk' i = mk i ∧ γ' i = γ i) ∧ zR (N + 1) g' n J U c mk' γ' := by
  obtain ⟨r, n0, J0, U0, c0, mk0, γ0, q1, q2, q3, q4, q5, ⟨l1, l2, l3, l4, l5⟩, qC, q6, q7, q8⟩ := id q
  obtain ⟨z1, z2, z3, z4, z5⟩ := z
  have e7 : xI g1 76 7 = ch := b5
  have f3 : xI g2 76 3 = nI n := (z1.2 76 3 (by unfold dAe dAd; omega)).trans b7
  have f4 : xI g2 76 4 = J := (z1.2 76 4 (by unfold dAe dAd; omega)).trans b8
  have f5 : xI g2 76 5 = U := (z1.2 76 5 (by unfold dAe dAd; omega)).trans b9
  have fC : zCo g2 n := ⟨fun a b ha hb => (z1.2 82 _ (by unfold dAe dAd; omega)).trans (b10.1 a b ha hb), fun x hx => by rw [z1.2 83 x (by unfold dAe dAd; omega)]; exact b10.2 x hx⟩
  have f15 : xI g2 76 15 = nI r := (z1.2 76 15 (by unfold dAe dAd; omega)).trans ((b2.2 76 15 (by unfold dBg; omega)).trans q6)
  have fM : ∀ s, s < 4096 → ∃ ρ, ρ ≤ r ∧ xI g2 84 s = nI ρ := fun s hs => by
    obtain ⟨ρ, m1, m2, -⟩ := q8 s hs
    exact ⟨ρ, m1, (z1.2 84 s (by unfold dAe dAd; omega)).trans ((b2.2 84 s (by unfold dBg; omega)).trans m2)⟩
  have y2 : yAg d31 g g2 := (b2.up (fun o k h => by unfold dBg at h; unfold d31; omega)).tr (z1.up (fun o k h => by unfold dAe dAd at h; unfold d31; omega))
  obtain ⟨g4, p1, p2, p3⟩ := r_fin19 (N := N) hc z3 mlt z4 f3 f4 f5 fC f15 q1 fM
  have other : E_X8_finish g2 = K_X8_finish_19 g2 → ∃ g' mk' γ', E_X8_finish g2 = some g' ∧ yAg d31 g g' ∧ (∀ i, i < c → mk' i = mk i ∧ γ' i = γ i) ∧ zR (N + 1) g' n J U c mk' γ' := fun h => ⟨g4, mk, γ, h.trans p1, y2.tr (p2.up (fun o k h => by unfold dFn at h; unfold d31; omega)), fun _ _ => ⟨rfl, rfl⟩, p3⟩
  by_cases d : xI g2 76 7 = 0
  · by_cases e : xI g2 76 6 = xI g2 76 2
    · rcases z5 with z | ⟨z6, z7⟩
      · rw [z] at d; exact absurd d (by decide)
      · have c0' : ch = 0 := by rw [← e7, ← z6]; exact d
        obtain ⟨v1, v2, v3, v4, v5⟩ := b11 c0'
        have hn0 : n0 = n := (nI_eq (by omega) (by omega)).mp (l1.symm.trans v1)
        have hJ0 : J0 = J := l2.symm.trans v2
        have hU0 : U0 = U := l3.symm.trans v3
        have i2 : xI g2 76 2 = nI c0 := (z1.2 76 2 (by unfold dAe dAd; omega)).trans ((b2.2 76 2 (by unfold dBg; omega)).trans l4)
        have hcc : c0 = c := (nI_eq (by omega) (by omega)).mp (i2.symm.trans (e.symm.trans z3))
        have hr0 : 0 < r := by
          rcases Nat.eq_zero_or_pos r with x | x
          · rw [x] at q6; exact absurd q6 v4
          · exact x
        subst hn0 hJ0 hU0
        have hcc' := hcc.symm
        subst hcc'
        have k77 : ∀ o k, o = 77 ∨ o = 78 → xI g2 o k = xI g o k := fun o k ho => (z7 o k ho).trans (b2.2 o k (by unfold dBg; omega))
        have same : ∀ i, i < c → mk0 i = mk i ∧ γ0 i = γ i := fun i hi => by
          obtain ⟨s1, s2⟩ := l5 i hi
          obtain ⟨t1, t2⟩ := z4 i hi
          rw [k77 77 i (Or.inl rfl)] at t1
          rw [k77 78 i (Or.inr rfl)] at t2
          have := mlt i hi
          have := q5 i hi
          exact ⟨(nI_eq (by omega) (by omega)).mp (s1.symm.trans t1), s2.symm.trans t2⟩
        have hsame : ∀ o k, o = 79 ∨ o = 80 ∨ o = 81 ∨ (84 ≤ o ∧ o ≤ 87) ∨ (o = 76 ∧ 8 ≤ k) → xI g2 o k = xI g o k := fun o k ho => (z1.2 o k (by unfold dAe dAd; omega)).trans (b2.2 o k (by unfold dBg; omega))
        have hl : xL g2 = xL g := z2.trans b3
        refine ⟨g2, mk0, γ0, (by unfold E_X8_finish; rw [if_pos d, if_pos e]), y2, fun i hi => same i hi, r, hr0, by omega, ⟨f3, f4, f5, i2, fun i hi => by rw [(same i hi).1, (same i hi).2]; exact z4 i hi⟩, fC, f15, ?_, fun s hs => ?_⟩
        · obtain ⟨x1, x2, κ, K, x3, x4, x5, x6, x7⟩ := q7 hr0
          exact ⟨fun b hb => by rw [hl]; exact x1 b hb, (hsame 76 8 (by omega)).trans x2, κ, K, x3, (hsame 76 9 (by omega)).trans x4, fun i hi => ⟨(x5 i hi).1, (hsame 79 i (by omega)).trans (x5 i hi).2⟩, x6, fun k hk => by rw [hl]; exact x7 k hk⟩
        · obtain ⟨ρ, m1, m2, m3⟩ := q8 s hs
          refine ⟨ρ, m1, (hsame 84 s (by omega)).trans m2, fun h1 h2 => ?_⟩
          obtain ⟨lo, hi, w1, w2, w3, w4, w5, w6⟩ := m3 h1 h2
          exact ⟨lo, hi, w1, w2, by rw [hl]; exact w3, by rw [hl]; exact w4, by rw [hsame 86 s (by omega)]; exact w5, by rw [hsame 87 s (by omega)]; exact w6⟩
    · exact other (by unfold E_X8_finish; rw [if_pos d, if_neg e])
  · exact other (by unfold E_X8_finish; rw [if_neg d])
theorem yMf_cg {d d' : Nat → Nat} (h : ∀ t, t < n → d t = d' t) : yMf n d = yMf n d' := yOf_congr fun a ha => yOf_congr fun b hb => by
  by_cases e : a < b
  · rw [if_pos e, if_pos e, ySf_cg (h a ha) (h b hb)]
  · rw [if_neg e, if_neg e]
theorem r_digits (C : Cx g β T B) (hs : s < 32) : ∃ g', xlim (S_X5_addSwapped_42 (tw g + 3) a3 (nI s)) (0, g) = some g' ∧ yAg (fun o _ => o = 75) g g' ∧ xL g' = xL g ∧ ∀ t, t < T 0 0 → xI g' 75 t = nI (zDs (T 0 0) T s t) := by
  have hn := C.2.2.2.1
  have ht := C.2.1.1
  have htw := xtw_lt C.1
  have key : ∀ m p g1, m + p = T 0 0 → yAg (fun o _ => o = 75) g g1 → xL g1 = xL g → (∀ q, q < p → xI g1 75 (T 2 q) = nI (zStd s q)) → ∃ g', xlim (S_X5_addSwapped_42 (tw g + 3) a3 (nI s)) (nI p, g1) = some g' ∧ yAg (fun o _ => o = 75) g g' ∧ xL g' = xL g ∧ ∀ q, q < T 0 0 → xI g' 75 (T 2 q) = nI (zStd s q) := by
    intro m
    induction m with
    | zero =>
      intro p g1 hp y hL q
      have : p = T 0 0 := by omega
      have C1 := C.as ((y.up fun o k h => dDg_A o k h).A)
      refine ⟨g1, xlim_end ?_, y, hL, this ▸ q⟩
      unfold S_X5_addSwapped_42
      simp only [C1.2.2.2.2.2.1]
      exact if_pos (nI_le (by omega) (by omega))
    | succ m ih =>
      intro p g1 hp y hL q
      have hpn : p < T 0 0 := by omega
      have C1 := C.as ((y.up fun o k h => dDg_A o k h).A)
      have row : xI g1 (tw g + 3) p = nI (T 2 p) := by
        have e := C1.2.1.2.1.2.2.2.2.2.2.1 p hpn
        have et : tw g1 = tw g := by unfold tw; rw [y.1]
        rw [et] at e
        exact e
      have rl := ht.2.2.2.2.2.2.1 p hpn
      have st : S_X5_addSwapped_42 (tw g + 3) a3 (nI s) (nI p, g1) = some (.inl (nI (p + 1), xWI g1 75 (T 2 p) (nI (zStd s p)))) := by
        unfold S_X5_addSwapped_42
        simp only [C1.2.2.2.2.2.1, if_neg (nI_ge hpn (show T 0 0 < 2 ^ 31 by omega)), r_xbG (show s < 2 ^ 31 by omega) (show p < 31 by omega), xat_nI (show p < 5 by omega) (show 5 < 2 ^ 31 by decide), row, xput_nI (show T 2 p < 5 by omega) (show 5 < 2 ^ 31 by decide), nI_1]
        unfold zStd
        by_cases d : s.testBit p = true
        · rw [if_pos d, if_neg (show ¬ (1 : Int32) = 0 by decide), if_pos d]
        · rw [if_neg d, if_pos rfl, if_neg d]
          by_cases p0 : p = 0
          · subst p0
            have e1 : xbit (nI s) (nI 0 - 1) = 0 := by unfold xbit; rw [if_pos (by decide)]
            rw [if_pos e1, if_neg (fun z => absurd z.1 (by decide))]
          · have e1 : nI p - 1 = nI (p - 1) := by
              have : nI p = nI (p - 1) + 1 := by rw [nI_1]; congr 1; omega
              rw [this]
              exact Int32.add_sub_cancel _ _
            rw [e1, r_xbG (by omega) (by omega)]
            by_cases f : s.testBit (p - 1) = true
            · rw [if_pos f, if_neg (show ¬ (1 : Int32) = 0 by decide), if_pos ⟨by omega, f⟩]
            · rw [if_neg f, if_pos rfl, if_neg (fun z => f z.2)]
      rw [xlim_go st]
      refine ih (p + 1) _ (by omega) (y.wi rfl) hL fun u hu => ?_
      rw [yI_wi]
      by_cases e : u = p
      · rw [if_pos ⟨rfl, by rw [e]⟩, e]
      · rw [if_neg (fun z => e (ht.2.2.2.2.2.2.2.1 u p (by omega) hpn z.2))]
        exact q u (by omega)
  obtain ⟨g', h1, h2, h3, h4⟩ := key (T 0 0) 0 g (by omega) (yAg.refl _ _) rfl (fun q hq => absurd hq (by omega))
  refine ⟨g', h1, h2, h3, fun t htn => ?_⟩
  obtain ⟨p1, p2⟩ := yPos_i ht htn
  have := h4 _ p1
  rw [p2] at this
  exact this
def zM31 (n : Nat) (T : yT) (m i : Nat) : Nat := yMf n (zDs n T ((zFs m (2 ^ (n - 1))).getD i 0))
def zG31 (n m i : Nat) : Int32 := nI ((zFs m (2 ^ (n - 1))).getD i 0)
theorem r_addSwapped {o : Nat} (C : Cx g β T B) (ho : o = tw g + 3) (hm : m < 3) (h6 : xI g 76 6 = nI 0) : ∃ g', E_X5_addSwapped o (nI m) g = some g' ∧ zAe g g' (zM31 (T 0 0) T m) (zG31 (T 0 0) m) (zFs m (2 ^ (T 0 0 - 1))).length := by
  subst ho
  have hn := C.2.2.2.1
  have ht := C.2.1.1
  obtain ⟨-, sh, h16⟩ := r_sh1 (T 0 0) (by omega)
  have key : ∀ k s g1, k + s = 2 ^ (T 0 0 - 1) → zAe g g1 (zM31 (T 0 0) T m) (zG31 (T 0 0) m) (zFs m s).length → ∃ g', xlim (S_X5_addSwapped_3 (tw g + 3) (nI m)) (nI s, g1) = some g' ∧ zAe g g' (zM31 (T 0 0) T m) (zG31 (T 0 0) m) (zFs m (2 ^ (T 0 0 - 1))).length := by
    intro k
    induction k with
    | zero =>
      intro s g1 hk z
      have : s = 2 ^ (T 0 0 - 1) := by omega
      have C1 := C.ss (z.1.up fun o k h => by unfold dAe dAd at h; unfold dSS dA; omega)
      refine ⟨g1, xlim_end ?_, this ▸ z⟩
      unfold S_X5_addSwapped_3
      simp only [C1.2.2.2.2.2.1, sh]
      exact if_pos (nI_le (by omega) (by omega))
    | succ k ih =>
      intro s g1 hk z
      have hs : s < 2 ^ (T 0 0 - 1) := by omega
      have y1 : yAg dSS g g1 := z.1.up fun o k h => by unfold dAe dAd at h; unfold dSS dA; omega
      have C1 := C.ss y1
      have et : tw g1 = tw g := by unfold tw; rw [y1.1]
      have pl := yPop_le5 s (by omega)
      have ge := nI_ge hs (show 2 ^ (T 0 0 - 1) < 2 ^ 31 by omega)
      have skip : S_X5_addSwapped_3 (tw g + 3) (nI m) (nI s, g1) = some (.inl (nI (s + 1), g1)) → zOks m s = false → ∃ g', xlim (S_X5_addSwapped_3 (tw g + 3) (nI m)) (nI s, g1) = some g' ∧ zAe g g' (zM31 (T 0 0) T m) (zG31 (T 0 0) m) (zFs m (2 ^ (T 0 0 - 1))).length := fun st e => by
        rw [xlim_go st]
        refine ih (s + 1) g1 (by omega) ?_
        rw [show zFs m (s + 1) = zFs m s ++ (if zOks m s then [s] else []) from yFil_succ _ _, e, if_neg (by decide), List.append_nil]
        exact z
      by_cases c1 : m < yPop s
      · refine skip ?_ ?_
        · unfold S_X5_addSwapped_3
          simp only [C1.2.2.2.2.2.1, sh, if_neg ge]
          rw [if_pos ((r_popS m hm s (by omega)).mpr c1), nI_1]
        · unfold zOks
          rw [decide_eq_false (by omega), Bool.false_and]
      · by_cases c2 : s &&& (2 * s) = 0
        · have ok : zOks m s = true := by
            unfold zOks
            rw [decide_eq_true (by omega), c2]; rfl
          obtain ⟨f1, f2⟩ := zFs_get (m := m) _ hs ok
          have l16 := zFs_len (m := m) (N := s)
          obtain ⟨g2, d1, d2, d3, d4⟩ := r_digits (a3 := nI m) C1 (show s < 32 by omega)
          rw [et] at d1
          have C2 := C1.as ((d2.up fun o k h => dDg_A o k h).A)
          have od := zOd_ds (w := T 0 1) ht hs c2
          have mk := r_markOfDigits C2.2.2.2.2.2.1 hn (d := zDs (T 0 0) T s) fun t h => ⟨d4 t h, by have := zOd_lt od h; omega⟩
          have ze : zAe g g2 (zM31 (T 0 0) T m) (zG31 (T 0 0) m) (zFs m s).length := by
            obtain ⟨z1, z2, z3, z4, z5⟩ := z
            refine ⟨z1.tr (d2.up fun o k h => by unfold dAe; omega), d3.trans z2, (d2.2 76 6 (by omega)).trans z3, fun i hi => ⟨(d2.2 77 i (by omega)).trans (z4 i hi).1, (d2.2 78 i (by omega)).trans (z4 i hi).2⟩, ?_⟩
            rw [d2.2 76 7 (by omega)]
            exact z5.imp id fun ⟨u1, u2⟩ => ⟨u1, fun o k ho => (d2.2 o k (by omega)).trans (u2 o k ho)⟩
          obtain ⟨g3, a1, a2⟩ := r_addE (show (zFs m s).length < 120 by omega) ze
          have em : zM31 (T 0 0) T m (zFs m s).length = yMf (T 0 0) (zDs (T 0 0) T s) := by unfold zM31; rw [f2]
          have eg : zG31 (T 0 0) m (zFs m s).length = nI s := by unfold zG31; rw [f2]
          rw [em, eg] at a1
          have st : S_X5_addSwapped_3 (tw g + 3) (nI m) (nI s, g1) = some (.inl (nI (s + 1), g3)) := by
            unfold S_X5_addSwapped_3
            simp only [C1.2.2.2.2.2.1, sh, if_neg ge]
            rw [if_neg (fun u => c1 ((r_popS m hm s (by omega)).mp u)), if_pos ((r_sh2 s (by omega)).mpr c2), d1, xb1_some, mk, xb1_some, a1, xb1_some, nI_1]
          rw [xlim_go st]
          refine ih (s + 1) g3 (by omega) ?_
          rw [show zFs m (s + 1) = zFs m s ++ (if zOks m s then [s] else []) from yFil_succ _ _, ok, if_pos rfl, List.length_append, List.length_singleton]
          exact a2
        · refine skip ?_ ?_
          · unfold S_X5_addSwapped_3
            simp only [C1.2.2.2.2.2.1, sh, if_neg ge]
            rw [if_neg (fun u => c1 ((r_popS m hm s (by omega)).mp u)), if_neg (fun u => c2 ((r_sh2 s (by omega)).mp u)), nI_1]
          · unfold zOks
            rw [show (s &&& (2 * s) == 0) = false from beq_false_of_ne c2, Bool.and_false]
  obtain ⟨g', k1, k2⟩ := key (2 ^ (T 0 0 - 1)) 0 g (by omega) ⟨yAg.refl _ _, rfl, h6, fun i hi => absurd hi (by have := zFs_len (m := m) (N := 0); omega), Or.inr ⟨rfl, fun _ _ _ => rfl⟩⟩
  refine ⟨g', ?_, k2⟩
  unfold E_X5_addSwapped
  rw [show ((0 : Int32), g) = (nI 0, g) from rfl, k1, xb1_some]
/-! the rows as orders loaded -/
theorem zIn31 (C : Cx g β T B) (hm : m < 3) : yIn (T 0 0) (T 0 1) (zLo31 (T 0 0) (T 0 1) T m (2 ^ (T 0 0 - 1))) ∧ (zLo31 (T 0 0) (T 0 1) T m (2 ^ (T 0 0 - 1))).length ≤ 16 := by
  have hn := C.2.2.2.1
  have h16 := (r_sh1 (T 0 0) (by omega)).2.2
  have l := zFs_len (m := m) (N := 2 ^ (T 0 0 - 1))
  refine ⟨⟨by rw [zLo31_len]; omega, fun j hj => ?_⟩, by rw [zLo31_len]; omega⟩
  rw [zLo31_len] at hj
  obtain ⟨f1, f2⟩ := zFs_mem hj
  rw [zLo31_get hj]
  exact (zOi_ok hn (zOd_ds C.2.1.1 f1 (zOks_0 f2).2)).1
theorem zVo31 (C : Cx g β T B) (hm : m < 3) (hmk : ∀ i, i < (zFs m (2 ^ (T 0 0 - 1))).length → mk i = zM31 (T 0 0) T m i) : zVo (T 0 0) (T 0 1) (zFs m (2 ^ (T 0 0 - 1))).length mk (yPv (T 0 0) (T 0 1) (zLo31 (T 0 0) (T 0 1) T m (2 ^ (T 0 0 - 1)))) ∧ ∀ i, i < (zFs m (2 ^ (T 0 0 - 1))).length → mk i = yMk (T 0 0) (yPv (T 0 0) (T 0 1) (zLo31 (T 0 0) (T 0 1) T m (2 ^ (T 0 0 - 1))) i) := by
  have hn := C.2.2.2.1
  have ht := C.2.1.1
  have dg : ∀ i, i < (zFs m (2 ^ (T 0 0 - 1))).length → ∀ t, t < T 0 0 → yDg (yPv (T 0 0) (T 0 1) (zLo31 (T 0 0) (T 0 1) T m (2 ^ (T 0 0 - 1))) i) t = zDs (T 0 0) T ((zFs m (2 ^ (T 0 0 - 1))).getD i 0) t := fun i hi t h => by
    obtain ⟨f1, f2⟩ := zFs_mem hi
    unfold yPv
    rw [zLo31_get hi]
    exact (zOi_ok hn (zOd_ds ht f1 (zOks_0 f2).2)).2 t h
  have mkE : ∀ i, i < (zFs m (2 ^ (T 0 0 - 1))).length → mk i = yMk (T 0 0) (yPv (T 0 0) (T 0 1) (zLo31 (T 0 0) (T 0 1) T m (2 ^ (T 0 0 - 1))) i) := fun i hi => by
    rw [hmk i hi]
    exact (yMf_cg fun t h => dg i hi t h).symm
  refine ⟨⟨fun i hi => ?_, mkE, fun i j hi hj e => ?_⟩, mkE⟩
  · exact ⟨_, (zIn31 C hm).1.2 i (by rw [zLo31_len]; exact hi), rfl⟩
  · obtain ⟨f1, f2⟩ := zFs_mem hi
    obtain ⟨f3, f4⟩ := zFs_mem hj
    have un := zStd_un hn f1 (zOks_0 f2).2 f3 (zOks_0 f4).2 fun p hp => by
      have := e (T 2 p) (ht.2.2.2.2.2.2.1 p hp)
      rw [dg i hi _ (ht.2.2.2.2.2.2.1 p hp), dg j hj _ (ht.2.2.2.2.2.2.1 p hp)] at this
      unfold zDs at this
      rw [yPos_u ht hp] at this
      exact this
    rcases Nat.lt_trichotomy i j with y | y | y
    · have := zFs_lt y hj; omega
    · exact y
    · have := zFs_lt y hi; omega
theorem zU_m : ∀ n, n < 6 → (((1 : Int32) <<< (nI n &&& 31)) - 1) &&& ((-1 : Int32) ^^^ (-1)) = nI 0 := by decide +kernel
theorem zH31 (C : Cx g β T B) (hm : m < 3) (hmk : ∀ i, i < (zFs m (2 ^ (T 0 0 - 1))).length → mk i = zM31 (T 0 0) T m i) : zH (T 0 0) (zFs m (2 ^ (T 0 0 - 1))).length mk γ 0 (-1) 0 (zSu mk (zFs m (2 ^ (T 0 0 - 1))).length (T 0 0 * (T 0 0 - 1) / 2)) := by
  have hn := C.2.2.2.1
  have hw := C.2.2.2.2.1
  obtain ⟨hV, mkE⟩ := zVo31 C hm hmk
  obtain ⟨i1, i2⟩ := zIn31 C hm
  rw [zLo31_len] at i2
  refine ⟨hn, by omega, fun i hi => ?_, zVo_one hn hw hV, zVo_dif hn hw hV, Nat.two_pow_pos _, Or.inl rfl, zU_m _ (by omega), fun x S _ p hp => ⟨p, hp, ?_, zSm_refl⟩, fun z => absurd z (by decide)⟩
  · rw [mkE i hi]; exact (yOr_chk hn hw (i1.2 i (by rw [zLo31_len]; exact hi))).1
  · have z : zFm (T 0 0) 0 x = 0 := by
      unfold zFm
      exact yBs_no fun t _ => by rw [Nat.zero_testBit, Bool.false_and]
    unfold zFi
    rw [z, Nat.zero_testBit, Nat.zero_testBit]
    rfl
theorem op_31 (hN : N < 2 ^ 30) (W : xWf g) (C : Cx g β T B) (q : I_search N g) : ∃ g', O_31 a1 a2 a3 a4 a5 g = some (true, g') ∧ yAg dSS g g' ∧ I_search (N + 1) g' := by
  have hn := C.2.2.2.1
  have hw := C.2.2.2.2.1
  have fin : ∀ (g1 g2 : xSt) (v : Int32), E_X11_swapped a1 a2 g = some (v, g1) → E_X12_swapped a1 a2 g1 = some (v, g2) → I_search (N + 1) g1 → ∃ g', O_31 a1 a2 a3 a4 a5 g = some (true, g') ∧ yAg dSS g g' ∧ I_search (N + 1) g' := fun g1 g2 v h1 h2 hI => by
    have f1 := (e_X11_swapped (d := 0) W h1).2
    have f2 := (e_X12_swapped (d := 0) (f1.wf W) h2).2
    refine ⟨g2, ?_, zFrames f1 f2 (fun o k m => ?_) (fun o k m => ?_) (fun o k m => ?_) (fun o k m => ?_), hI.eq (Nat.le_refl _) (zSame_fr f2 (fun o x y => by simp only [List.mem_cons, List.not_mem_nil, or_false]; omega) (fun o k x y => by simp only [List.mem_cons, List.not_mem_nil, or_false, Prod.mk.injEq]; omega))⟩
    · unfold O_31
      rw [h1, xb2_some, h2, xb2_some, decide_eq_true rfl]
    · simp only [List.mem_cons, List.not_mem_nil, or_false] at m; unfold dSS dA; omega
    · simp only [List.mem_cons, List.not_mem_nil, or_false, Prod.mk.injEq] at m; unfold dSS dA; omega
    · simp only [List.mem_cons, List.not_mem_nil, or_false] at m; unfold dA; omega
    · simp only [List.mem_cons, List.not_mem_nil, or_false, Prod.mk.injEq] at m; unfold dA; omega
  rcases r_inN (g := g) (a1 := a1) (m := 2) (by decide) with ⟨i1, i2⟩ | ⟨m, hm, rfl, i1, i2, i3⟩
  · refine fin g g (-1) ?_ ?_ (q.eq (Nat.le_succ _) (zSame.refl g))
    · unfold E_X11_swapped
      rcases i2 with z | z
      · rw [if_pos z]
      · by_cases y : a1 < 0
        · rw [if_pos y]
        · rw [if_neg y, if_pos (show (2 : Int32) < a1 from Int32.not_le.mp z)]
    · unfold E_X12_swapped
      rw [if_pos (show F_X12_isIn g a1 0 2 = 0 from i1)]
  · rcases r_inN (g := g) (a1 := a2) (m := 2) (by decide) with ⟨j1, j2⟩ | ⟨e, he, rfl, j1, j2, j3⟩
    · refine fin g g (-1) ?_ ?_ (q.eq (Nat.le_succ _) (zSame.refl g))
      · unfold E_X11_swapped
        rw [if_neg i2, if_neg (show ¬ (2 : Int32) < nI m from Int32.not_lt.mpr i3)]
        rcases j2 with z | z
        · rw [if_pos z]
        · by_cases y : a2 < 0
          · rw [if_pos y]
          · rw [if_neg y, if_neg (show ¬ a2 ≤ (2 : Int32) from z)]
      · unfold E_X12_swapped
        rw [if_neg (show ¬ F_X12_isIn g (nI m) 0 2 = 0 by rw [show F_X12_isIn g (nI m) 0 2 = 1 from i1]; decide), if_pos (show F_X12_isIn g a2 0 2 = 0 from j1)]
    · have m3 : m < 3 := by omega
      have t0 : xI g (tw g) 0 = nI (T 0 0) := C.2.1.2.1.1
      obtain ⟨g1, ch, b1, b2, b3, b4, b5, b6, b7, b8, b9, b10, b11⟩ := r_begin (n := T 0 0) (J' := 0) (U' := -1) hn (Or.inl rfl) q
      have y1 : yAg dSS g g1 := b2.up fun o k h => by unfold dBg at h; unfold dSS; omega
      have C1 := C.ss y1
      obtain ⟨g2, s1, s2⟩ := r_addSwapped (m := m) C1 rfl m3 b4
      have l16 := (zIn31 C m3).2
      rw [zLo31_len] at l16
      have mlt : ∀ i, i < (zFs m (2 ^ (T 0 0 - 1))).length → zM31 (T 0 0) T m i < 2 ^ 30 := fun i _ => yMf_lt hn _
      obtain ⟨g3, mk, γ, f1, f2, f3, r, hr0, hrN, Q⟩ := r_finL hn (by omega) q b2 b3 b5 b7 b8 b9 b10 b11 s2 mlt
      have H := zH31 (γ := γ) C m3 fun i hi => (f3 i hi).1
      have top : E_X11_swapped (nI m) (nI e) g = if nI e = 0 then (xb2 (E_X8_fewestOfAll g3) fun r70_9 g70_9 => some (r70_9, g70_9)) else if nI e = 1 then (xb2 (E_X8_nextOfFewest g3) fun r85_11 g85_11 => some (r85_11, g85_11)) else some (xI g3 76 2, g3) := by
        unfold E_X11_swapped
        rw [if_neg i2, if_neg (show ¬ (2 : Int32) < nI m from Int32.not_lt.mpr i3), if_neg j2, if_pos (show nI e ≤ (2 : Int32) from j3), t0, b1, xb1_some, s1, xb1_some, f1, xb1_some]
      have C3 := C.ss (f2.up d31_ss)
      -- the reference
      have ref : ∀ g4, xWf g4 → Cx g4 β T B → ∃ g5 g6 g7 v a, E_X12_laySwapped (nI m) g4 = some g5 ∧ xI g5 113 53 = nI (zFs m (2 ^ (T 0 0 - 1))).length ∧ E_X12_layPairs g5 = some g6 ∧ (∃ g65, E_X12_layGoals 0 0 g6 = some g65 ∧ E_X12_solves 0 g65 = some (nI v, g7)) ∧ (∃ ρ, zRb g7 (T 0 0) (zFs m (2 ^ (T 0 0 - 1))).length mk ρ) ∧ xI g7 113 71 = a ∧ zAn2 0 (T 0 0) (zFs m (2 ^ (T 0 0 - 1))).length mk γ v a := fun g4 W4 C4 => by
        obtain ⟨hV, mkE⟩ := zVo31 C4 m3 fun i hi => (f3 i hi).1
        obtain ⟨hin, hl⟩ := zIn31 C4 m3
        obtain ⟨g5, u1, u2, u3⟩ := r_laySwapped C4 m3
        have C5 := C4.as (u2.up dLs_A).A
        obtain ⟨g6, v1, v2, v3, v4⟩ := r_layPairs C5 u3 hin (by omega)
        have q6 : yLR g6 (zLo31 (T 0 0) (T 0 1) T m (2 ^ (T 0 0 - 1))) := ⟨(v2.2 113 53 (by unfold dPa; omega)).trans u3.1, fun j hj => (v2.2 145 j (by unfold dPa; omega)).trans (u3.2 j hj)⟩
        have C6 := C5.as (v2.up dPa_A).A
        obtain ⟨g65, w1, w2, w3⟩ := r_layGoals (a1 := 0) (a2 := 0) C6 q6 hin (Or.inl rfl)
        have W5 := (e_X12_laySwapped (d := 0) W4 u1).2.wf W4
        have W6 := (e_X12_layPairs (d := 0) W5 v1).2.wf W5
        have fr := (e_X12_layGoals (d := 0) W6 w1).2
        have il : ∀ o k, o ≠ 146 → xI g65 o k = xI g6 o k ∧ xL g65 o k = xL g6 o k := fun o k ho => fr.2.2.2 o (by simp only [List.mem_cons, List.not_mem_nil, or_false]; exact ho) k (by simp only [List.not_mem_nil]; exact not_false)
        have q65 : yLR g65 (zLo31 (T 0 0) (T 0 1) T m (2 ^ (T 0 0 - 1))) := ⟨(il 113 53 (by decide)).1.trans q6.1, fun j hj => (il 145 j (by decide)).1.trans (q6.2 j hj)⟩
        have z65 : zPL g65 (T 0 0) (T 0 1) (zLo31 (T 0 0) (T 0 1) T m (2 ^ (T 0 0 - 1))) := ⟨⟨(il 113 59 (by decide)).1.trans v4.1.1, fun x y a b c => ⟨(il 150 _ (by decide)).1.trans (v4.1.2 x y a b c).1, (il 151 _ (by decide)).1.trans (v4.1.2 x y a b c).2⟩⟩, fun a b hab hb s hs => ⟨(il 152 _ (by decide)).2.trans (v4.2 a b hab hb s hs).1, (il 153 _ (by decide)).2.trans (v4.2 a b hab hb s hs).2⟩⟩
        have b65 := zRb_of (ρ := fun i => i) hn hw hin (fun i hi => mkE i (by rw [zLo31_len] at hi; exact hi)) q65 z65 (fun i hi => ⟨w3 i hi, by omega⟩)
        rw [zLo31_len] at b65
        have K : zK (T 0 0) (T 0 1) 0 (zFs m (2 ^ (T 0 0 - 1))).length mk (yPv (T 0 0) (T 0 1) (zLo31 (T 0 0) (T 0 1) T m (2 ^ (T 0 0 - 1)))) (fun i => i) γ := ⟨hn, hw, by omega, by omega, hV, fun i j hi hj => by
          rw [(f3 i hi).2, (f3 j hj).2]
          show i = j ↔ nI ((zFs m (2 ^ (T 0 0 - 1))).getD i 0) = nI ((zFs m (2 ^ (T 0 0 - 1))).getD j 0)
          have h16 := (r_sh1 (T 0 0) (by omega)).2.2
          have x1 := (zFs_mem hi).1
          have x2 := (zFs_mem hj).1
          rw [nI_eq (by omega) (by omega)]
          refine ⟨fun z => by rw [z], fun z => ?_⟩
          rcases Nat.lt_trichotomy i j with y | y | y
          · have := zFs_lt y hj; omega
          · exact y
          · have := zFs_lt y hi; omega⟩
        obtain ⟨v, a, g7, x1, x2, x3, x4⟩ := r_solves K b65
        exact ⟨g5, g6, g7, v, a, u1, by rw [u3.1, zLo31_len], v1, ⟨g65, w1, x1⟩, ⟨_, x2⟩, x3, x4⟩
      have i0 : ∀ h : xSt, ¬ F_X12_isIn h (nI m) 0 2 = 0 := fun h => by rw [r_isInG (g := g), show F_X12_isIn g (nI m) 0 2 = 1 from i1]; decide
      have j0 : ∀ h : xSt, ¬ F_X12_isIn h (nI e) 0 2 = 0 := fun h => by rw [r_isInG (g := g), show F_X12_isIn g (nI e) 0 2 = 1 from j1]; decide
      have : e = 0 ∨ e = 1 ∨ e = 2 := by omega
      rcases this with e0 | e0 | e0 <;> subst e0
      · rw [if_pos (show nI 0 = 0 from rfl)] at top
        obtain ⟨v, g4, k1, k2, k3, -, k5⟩ := r_fewestOfAll hr0 (by omega) H Q
        rw [k1, xb2_some] at top
        have W4 := (e_X11_swapped (d := 0) W top).2.wf W
        obtain ⟨g5, g6, g7, v', a, x1, -, x3, ⟨g65, x4, x5⟩, -, -, x8⟩ := ref g4 W4 (C3.ss (zFr_ss k3 k3.1.1))
        refine fin g4 g7 (nI v) top ?_ (zQ_inv hn (Or.inl rfl) (by omega) H.2.2.1 hr0 hrN k2)
        unfold E_X12_swapped
        rw [if_neg (i0 _), if_neg (j0 _), x1, xb1_some, if_neg (show ¬ nI 0 = (2 : Int32) by decide), x3, xb1_some, x4, xb1_some, x5, xb2_some, if_pos (show nI 0 = 0 from rfl), zLW_eq k5 x8]
      · rw [if_neg (show ¬ nI 1 = 0 by decide), if_pos (show nI 1 = 1 from rfl)] at top
        obtain ⟨v, x, g4, k1, k2, k3, k5, k6⟩ := r_nextOfFewest hr0 (by omega) H Q
        rw [k1, xb2_some] at top
        have W4 := (e_X11_swapped (d := 0) W top).2.wf W
        obtain ⟨g5, g6, g7, v', a, x1, -, x3, ⟨g65, x4, x5⟩, ⟨ρ, x6⟩, x7, x8⟩ := ref g4 W4 (C3.ss (zFr_ss k3 k3.1.1))
        refine fin g4 g7 x top ?_ (zQ_inv hn (Or.inl rfl) (by omega) H.2.2.1 hr0 hrN k2)
        unfold E_X12_swapped
        rw [if_neg (i0 _), if_neg (j0 _), x1, xb1_some, if_neg (show ¬ nI 1 = (2 : Int32) by decide), x3, xb1_some, x4, xb1_some, x5, xb2_some, if_neg (show ¬ nI 1 = 0 by decide), zPn_W hn H.2.1 H.2.2.2.2.1 H.2.2.2.1 k5 k6 x8 x6 x7, xb1_some]
      · rw [if_neg (show ¬ nI 2 = 0 by decide), if_neg (show ¬ nI 2 = 1 by decide), Q.1.2.2.2.1] at top
        have W4 := (e_X11_swapped (d := 0) W top).2.wf W
        obtain ⟨g5, g6, g7, v', a, x1, x2, -⟩ := ref g3 W4 C3
        refine fin g3 g5 _ top ?_ (zQ_inv hn (Or.inl rfl) (by omega) H.2.2.1 hr0 hrN Q)
        unfold E_X12_swapped
        rw [if_neg (i0 _), if_neg (j0 _), x1, xb1_some, if_pos (show nI 2 = (2 : Int32) from rfl), x2]
end SX
