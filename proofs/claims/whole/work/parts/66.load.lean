/-! THE SEARCH is loaded: begin, add, finish -/
section SL
variable {g g' : xSt} {β n r c N : Nat} {T B : yT} {L : List Nat} {J U J' U' : Int32} {mk : Nat → Nat} {γ : Nat → Int32} {k a1 a2 a3 a4 a5 : Int32}
def dBg (o k : Nat) : Prop := (o = 76 ∧ 3 ≤ k ∧ k ≤ 7) ∨ o = 82 ∨ o = 83
/-- begin leaves: changed or not -/
theorem r_pairsIn (hn : n ≤ 5) {a : Nat} (ha : a < n) : ∀ m b g1, m + b = n → a < b → xI g1 76 3 = nI n → (∀ x y, x < y → y < n → (x < a ∨ (x = a ∧ y < b)) → xI g1 82 (yPr n x y) = nI (10 * x + y)) → ∃ g', xlim (S_X8_numberPairs_27 (nI a)) (nI b, g1) = some g' ∧ yAg (fun o _ => o = 82) g1 g' ∧ xL g' = xL g1 ∧ ∀ x y, x < y → y < n → (x < a + 1) → xI g' 82 (yPr n x y) = nI (10 * x + y) := by
  intro m
  induction m with
  | zero =>
    intro b g1 hb hab h3 l
    have : b = n := by omega
    subst this
    refine ⟨g1, xlim_end ?_, yAg.refl _ _, rfl, fun x y h1 h2 h3 => l x y h1 h2 (by omega)⟩
    unfold S_X8_numberPairs_27
    simp only [h3]
    exact if_pos (nI_le (Nat.le_refl _) (by omega))
  | succ m ih =>
    intro b g1 hb hab h3 l
    have hbn : b < n := by omega
    have pl := yPr_lt n (by omega) a ha b hbn hab
    have st : S_X8_numberPairs_27 (nI a) (nI b, g1) = some (.inl (nI (b + 1), xWI g1 82 (yPr n a b) (nI (10 * a + b)))) := by
      unfold S_X8_numberPairs_27
      simp only [h3, if_neg (nI_ge hbn (show n < 2 ^ 31 by omega)), r_pairOf n (show n < 6 by omega) a ha b hbn (by omega), show (10 : Int32) = nI 10 from rfl, nI_mul, nI_add, nI_1]
      rw [xput_nI pl (by decide)]
    obtain ⟨g', r1, r2, r3, r4⟩ := ih (b + 1) (xWI g1 82 (yPr n a b) (nI (10 * a + b))) (by omega) (by omega) (by rw [yI_wi, if_neg (by omega)]; exact h3) (fun x y h1 h2 h4 => by
      rw [yI_wi]
      by_cases e : x = a ∧ y = b
      · rw [if_pos ⟨rfl, by rw [e.1, e.2]⟩, e.1, e.2]
      · rw [if_neg (fun z => e (yPr_inj n (by omega) x (by omega) y h2 a ha b hbn h1 hab z.2))]
        exact l x y h1 h2 (by omega))
    exact ⟨g', (xlim_go st).trans r1, ((yAg.refl (fun o _ => o = 82) g1).wi rfl).tr r2, r3, r4⟩
theorem r_number (hn : n ≤ 5) : ∃ g', E_X8_numberPairs (nI n) g = some g' ∧ yAg (fun o k => (o = 76 ∧ k = 3) ∨ o = 82 ∨ o = 83) g g' ∧ xL g' = xL g ∧ xI g' 76 3 = nI n ∧ zCo g' n := by
  have y0 : yAg (fun o k => (o = 76 ∧ k = 3) ∨ o = 82 ∨ o = 83) g (xWI g 76 3 (nI n)) := (yAg.refl _ g).wi (Or.inl ⟨rfl, rfl⟩)
  generalize hA : xWI g 76 3 (nI n) = A at y0
  have yB : yAg (fun o k => (o = 76 ∧ k = 3) ∨ o = 82 ∨ o = 83) A (xRowI A 83 (fun j => if j < 1024 then 0 else xI A 83 j)) := ⟨rfl, fun o k hk => congrFun (xI_RowI_ne A _ (fun e => hk (Or.inr (Or.inr e)))) k⟩
  have fB : ∀ x, x < 1024 → xI (xRowI A 83 (fun j => if j < 1024 then 0 else xI A 83 j)) 83 x = 0 := fun x hx => by rw [xI_RowI, if_pos rfl, if_pos hx]
  have lB : xL (xRowI A 83 (fun j => if j < 1024 then 0 else xI A 83 j)) = xL g := by rw [← hA]; rfl
  have b3 : xI (xRowI A 83 (fun j => if j < 1024 then 0 else xI A 83 j)) 76 3 = nI n := by rw [xI_RowI, if_neg (by decide), ← hA, yI_wi, if_pos ⟨rfl, rfl⟩]
  generalize hB : xRowI A 83 (fun j => if j < 1024 then 0 else xI A 83 j) = B at yB fB lB b3
  have key : ∀ m a g1, m + a = n → yAg (fun o _ => o = 82) B g1 → xL g1 = xL g → (∀ x y, x < y → y < n → x < a → xI g1 82 (yPr n x y) = nI (10 * x + y)) → ∃ g', xlim (S_X8_numberPairs_15) (nI a, g1) = some g' ∧ yAg (fun o _ => o = 82) B g' ∧ xL g' = xL g ∧ ∀ x y, x < y → y < n → xI g' 82 (yPr n x y) = nI (10 * x + y) := by
    intro m
    induction m with
    | zero =>
      intro a g1 ha y hL l
      have : a = n := by omega
      subst this
      refine ⟨g1, xlim_end ?_, y, hL, fun x y h1 h2 => l x y h1 h2 (by omega)⟩
      unfold S_X8_numberPairs_15
      simp only [y.2 76 3 (by omega), b3]
      exact if_pos (nI_le (Nat.le_refl _) (by omega))
    | succ m ih =>
      intro a g1 ha y hL l
      have han : a < n := by omega
      have e3 : xI g1 76 3 = nI n := (y.2 76 3 (by omega)).trans b3
      obtain ⟨g2, r1, r2, r3, r4⟩ := r_pairsIn hn han (n - (a + 1)) (a + 1) g1 (by omega) (by omega) e3 (fun x y h1 h2 h3 => l x y h1 h2 (by omega))
      have st : S_X8_numberPairs_15 (nI a, g1) = some (.inl (nI (a + 1), g2)) := by
        unfold S_X8_numberPairs_15
        simp only [e3, if_neg (nI_ge han (show n < 2 ^ 31 by omega)), nI_1, r1, xb1_some]
      obtain ⟨g', s1, s2⟩ := ih (a + 1) g2 (by omega) (y.tr r2) (r3.trans hL) r4
      exact ⟨g', (xlim_go st).trans s1, s2⟩
  obtain ⟨g', r1, r2, r3, r4⟩ := key n 0 B (by omega) (yAg.refl _ _) lB (fun x y _ _ h => by omega)
  refine ⟨g', ?_, (y0.tr yB).tr (r2.up (fun o k h => Or.inr (Or.inl h))), r3, (r2.2 76 3 (by omega)).trans b3, r4, fun x hx => Or.inl ((r2.2 83 x (by omega)).trans (fB x hx))⟩
  unfold E_X8_numberPairs E_X7_fill
  rw [hA, xb1_some, hB, show xlim (S_X8_numberPairs_15) (0, B) = some g' from r1, xb1_some]
theorem r_begin (hn : n ≤ 5) (hJ : J' = 0 ∨ J' = 1) (q : I_search N g) : ∃ g' ch, E_X8_begin (nI n) J' U' g = some g' ∧ yAg dBg g g' ∧ xL g' = xL g ∧ xI g' 76 6 = nI 0 ∧ xI g' 76 7 = ch ∧ (ch = 0 ∨ ch = 1) ∧ xI g' 76 3 = nI n ∧ xI g' 76 4 = J' ∧ xI g' 76 5 = U' ∧ zCo g' n ∧ (ch = 0 → xI g 76 3 = nI n ∧ xI g 76 4 = J' ∧ xI g 76 5 = U' ∧ ¬ xI g 76 15 = 0 ∧ ∀ o k, o = 82 ∨ o = 83 → xI g' o k = xI g o k) := by
  obtain ⟨r, n0, J, U, c, mk, γ, h1, h2, h3, h4, h5, ⟨l1, l2, l3, l4, l5⟩, hC, h6, h7, h8⟩ := q
  have g4 : xI (xWI g 76 6 0) 76 4 = J := by rw [yI_wi, if_neg (by decide)]; exact l2
  have g5 : xI (xWI g 76 6 0) 76 5 = U := by rw [yI_wi, if_neg (by decide)]; exact l3
  have g15 : xI (xWI g 76 6 0) 76 15 = xI g 76 15 := by rw [yI_wi, if_neg (by decide)]
  have hK : ∀ s : Int32, (s = 0 ∨ s = 1) → ∃ g', K_X8_begin_42 (nI n) J' U' s (xWI g 76 6 0) = some g' ∧ yAg dBg g g' ∧ xL g' = xL g ∧ xI g' 76 6 = nI 0 ∧ xI g' 76 7 = s ∧ xI g' 76 3 = nI n ∧ xI g' 76 4 = J' ∧ xI g' 76 5 = U' ∧ zCo g' n ∧ (n = n0 → ∀ o k, o = 82 ∨ o = 83 → xI g' o k = xI g o k) := by
    intro s hs
    unfold K_X8_begin_42
    rw [xz01_in hs, xz01_in hJ]
    have e3 : xI (xWI g 76 6 0) 76 3 = nI n0 := by rw [yI_wi, if_neg (by decide)]; exact l1
    rw [e3]
    by_cases c1 : n = n0
    · rw [if_pos (by rw [c1])]
      refine ⟨_, rfl, ((((yAg.refl _ g).wi (by unfold dBg; omega)).wi (by unfold dBg; omega)).wi (by unfold dBg; omega)).wi (by unfold dBg; omega), rfl, ?_, ?_, ?_, ?_, ?_, ⟨fun a b ha hb => ?_, fun x hx => ?_⟩, fun _ o k ho => ?_⟩
      · simp [yI_wi]; rfl
      · simp [yI_wi]
      · simp [yI_wi, l1, c1]
      · simp [yI_wi]
      · simp [yI_wi]
      · rw [yI_wi, if_neg (by omega), yI_wi, if_neg (by omega), yI_wi, if_neg (by omega), yI_wi, if_neg (by omega), c1]
        exact hC.1 a b ha (by omega)
      · rw [yI_wi, if_neg (by omega), yI_wi, if_neg (by omega), yI_wi, if_neg (by omega), yI_wi, if_neg (by omega), c1]
        exact hC.2 x hx
      · rw [yI_wi, if_neg (by omega), yI_wi, if_neg (by omega), yI_wi, if_neg (by omega), yI_wi, if_neg (by omega)]
    · rw [if_neg (fun z => c1 ((nI_eq (by omega) (by omega)).mp z))]
      obtain ⟨g1, r1, r2, r3, r4, r5, r6⟩ := r_number (g := xWI (xWI g 76 6 0) 76 7 s) hn
      rw [r1, xb1_some, xz01_in hJ]
      have y1 : yAg dBg g g1 := (((yAg.refl _ g).wi (by unfold dBg; omega)).wi (by unfold dBg; omega)).tr (r2.up (fun o k h => by unfold dBg; omega))
      refine ⟨_, rfl, (y1.wi (by unfold dBg; omega)).wi (by unfold dBg; omega), r3, ?_, ?_, ?_, ?_, ?_, ⟨fun a b ha hb => ?_, fun x hx => ?_⟩, fun z => absurd z c1⟩
      · rw [yI_wi, if_neg (by omega), yI_wi, if_neg (by omega), r2.2 76 6 (by omega)]; simp [yI_wi]; rfl
      · rw [yI_wi, if_neg (by omega), yI_wi, if_neg (by omega), r2.2 76 7 (by omega)]; simp [yI_wi]
      · rw [yI_wi, if_neg (by omega), yI_wi, if_neg (by omega)]; exact r4
      · simp [yI_wi]
      · simp [yI_wi]
      · rw [yI_wi, if_neg (by omega), yI_wi, if_neg (by omega)]; exact r5 a b ha hb
      · rw [yI_wi, if_neg (by omega), yI_wi, if_neg (by omega)]; exact r6 x hx
  have one : ∃ g' ch, K_X8_begin_37 (nI n) J' U' (xWI g 76 6 0) = some g' ∧ yAg dBg g g' ∧ xL g' = xL g ∧ xI g' 76 6 = nI 0 ∧ xI g' 76 7 = ch ∧ (ch = 0 ∨ ch = 1) ∧ xI g' 76 3 = nI n ∧ xI g' 76 4 = J' ∧ xI g' 76 5 = U' ∧ zCo g' n ∧ (ch = 0 → xI g 76 3 = nI n ∧ xI g 76 4 = J' ∧ xI g 76 5 = U' ∧ ¬ xI g 76 15 = 0 ∧ ∀ o k, o = 82 ∨ o = 83 → xI g' o k = xI g o k) := by
    obtain ⟨g', x1, x2, x3, x4, x5, x6, x7, x8, x9, -⟩ := hK 1 (Or.inr rfl)
    exact ⟨g', 1, x1, x2, x3, x4, x5, Or.inr rfl, x6, x7, x8, x9, fun z => absurd z (by decide)⟩
  by_cases c1 : nI n = nI n0 ∧ J' = J ∧ U' = U ∧ ¬ xI g 76 15 = 0
  · obtain ⟨c1, c2, c3, c4⟩ := c1
    have hn0 : n = n0 := (nI_eq (by omega) (by omega)).mp c1
    obtain ⟨g', x1, x2, x3, x4, x5, x6, x7, x8, x9, x10⟩ := hK 0 (Or.inl rfl)
    refine ⟨g', 0, ?_, x2, x3, x4, x5, Or.inl rfl, x6, x7, x8, x9, fun _ => ⟨l1.trans c1.symm, l2.trans c2.symm, l3.trans c3.symm, c4, x10 hn0⟩⟩
    have hu : E_X8_begin (nI n) J' U' g = K_X8_begin_42 (nI n) J' U' 0 (xWI g 76 6 0) := by
      unfold E_X8_begin
      rw [l1, g4, g5, g15, if_pos c1, if_pos c2, if_pos c3, if_neg c4]
    rw [hu]; exact x1
  · obtain ⟨g', ch, x1, x2⟩ := one
    refine ⟨g', ch, ?_, x2⟩
    have hu : E_X8_begin (nI n) J' U' g = K_X8_begin_37 (nI n) J' U' (xWI g 76 6 0) := by
      unfold E_X8_begin
      rw [l1, g4, g5, g15]
      by_cases d1 : nI n = nI n0
      · rw [if_pos d1]
        by_cases d2 : J' = J
        · rw [if_pos d2]
          by_cases d3 : U' = U
          · rw [if_pos d3]
            by_cases d4 : xI g 76 15 = 0
            · rw [if_pos d4]; rfl
            · exact absurd ⟨d1, d2, d3, d4⟩ c1
          · rw [if_neg d3]
        · rw [if_neg d2]
      · rw [if_neg d1]
    rw [hu]; exact x1
def dAd (o k : Nat) : Prop := (o = 76 ∧ (k = 6 ∨ k = 7)) ∨ o = 77 ∨ o = 78
/-- j orders added: what is held -/
def zAd (g0 g : xSt) (mk : Nat → Nat) (γ : Nat → Int32) (j : Nat) : Prop := yAg dAd g0 g ∧ xL g = xL g0 ∧ xI g 76 6 = nI j ∧ (∀ i, i < j → xI g 77 i = nI (mk i) ∧ xI g 78 i = γ i) ∧ (xI g 76 7 = 1 ∨ (xI g 76 7 = xI g0 76 7 ∧ ∀ o k, o = 77 ∨ o = 78 → xI g o k = xI g0 o k))
theorem r_add {g0 : xSt} {j : Nat} (hj : j < 120) (h : zAd g0 g mk γ j) : ∃ g', E_X8_add (nI (mk j)) (γ j) g = some g' ∧ zAd g0 g' mk γ (j + 1) := by
  obtain ⟨y, hL, h6, hr, hc⟩ := h
  have h120 : nI j < (120 : Int32) := nI_lt hj (by decide)
  have ch : ∃ g', K_X8_add_43 (nI (mk j)) (γ j) g = some g' ∧ zAd g0 g' mk γ (j + 1) := by
    unfold K_X8_add_43
    simp only [h6, xck_nI hj (show (120 : Nat) < 2 ^ 31 by decide), nI_clamp (show j < 2 ^ 31 by omega)]
    have e6 : xI (xWI (xWI (xWI g 76 7 1) 77 j (nI (mk j))) 78 j (γ j)) 76 6 = nI j := by
      rw [yI_wi, if_neg (by omega), yI_wi, if_neg (by omega), yI_wi, if_neg (by omega)]; exact h6
    rw [e6, nI_1]
    refine ⟨_, rfl, (((y.wi (by unfold dAd; omega)).wi (by unfold dAd; omega)).wi (by unfold dAd; omega)).wi (by unfold dAd; omega), hL, by rw [yI_wi, if_pos ⟨rfl, rfl⟩], fun i hi => ?_, Or.inl ?_⟩
    · by_cases e : i = j
      · subst e
        refine ⟨?_, ?_⟩
        · rw [yI_wi, if_neg (by omega), yI_wi, if_neg (by omega), yI_wi, if_pos ⟨rfl, rfl⟩]
        · rw [yI_wi, if_neg (by omega), yI_wi, if_pos ⟨rfl, rfl⟩]
      · obtain ⟨z1, z2⟩ := hr i (by omega)
        refine ⟨?_, ?_⟩
        · rw [yI_wi, if_neg (by omega), yI_wi, if_neg (by omega), yI_wi, if_neg (by omega), yI_wi, if_neg (by omega)]; exact z1
        · rw [yI_wi, if_neg (by omega), yI_wi, if_neg (by omega), yI_wi, if_neg (by omega), yI_wi, if_neg (by omega)]; exact z2
    · rw [yI_wi, if_neg (by omega), yI_wi, if_neg (by omega), yI_wi, if_neg (by omega), yI_wi, if_pos ⟨rfl, rfl⟩]
  unfold E_X8_add
  rw [h6, if_neg (nI_pos (by omega)), if_pos h120, xck_nI hj (by decide), xck_nI hj (by decide), nI_clamp (by omega)]
  by_cases c1 : xI g 77 j = nI (mk j)
  · rw [if_pos c1]
    by_cases c2 : xI g 78 j = γ j
    · rw [if_pos c2, nI_1]
      refine ⟨_, rfl, y.wi (by unfold dAd; omega), hL, by rw [yI_wi, if_pos ⟨rfl, rfl⟩], fun i hi => ?_, ?_⟩
      · rw [yI_wi, if_neg (by omega), yI_wi, if_neg (by omega)]
        by_cases e : i = j
        · subst e; exact ⟨c1, c2⟩
        · exact hr i (by omega)
      · rw [yI_wi, if_neg (by omega)]
        exact hc.imp id fun ⟨z1, z2⟩ => ⟨z1, fun o k ho => by rw [yI_wi, if_neg (by omega)]; exact z2 o k ho⟩
    · rw [if_neg c2]; exact ch
  · rw [if_neg c1]; exact ch
end SL
