/-! CALL stones: the search, the class's row, both together -/
section ST2
variable {g g' : xSt} {β w n : Nat} {T B : yT} {L : List Nat} {both : Bool} {a1 a2 a3 a4 a5 m : Int32}
/-- the stones laid, the last one first -/
def yRv (g : xSt) (l : List Nat) : Prop := yLd2 g l.reverse
theorem yRv_push {s : Nat} {l : List Nat} (h : yRv g l) {d : Nat} (hd : d = l.length) : yRv (xWI g 171 d (nI s)) (s :: l) := by
  intro i hi
  rw [List.reverse_cons] at hi ⊢
  rw [yI_wi, yGet_push _ _ _ hi]
  rw [List.length_append, List.length_singleton, List.length_reverse] at hi
  rw [List.length_reverse]
  by_cases e : i = l.length
  · rw [if_pos ⟨rfl, e.trans hd.symm⟩, if_pos e]
  · rw [if_neg (fun z => e (z.2.trans hd)), if_neg e]
    exact h i (by rw [List.length_reverse]; omega)
theorem yRv_pop {s : Nat} {l : List Nat} (h : yRv g (s :: l)) : yRv g l := by
  intro i hi
  have := h i (by rw [List.reverse_cons, List.length_append]; omega)
  rw [List.reverse_cons, yGet_push _ _ _ (by rw [List.length_append]; omega), if_neg (by omega)] at this
  exact this
theorem yRv_top {s : Nat} {l : List Nat} (h : yRv g (s :: l)) : xI g 171 l.length = nI s := by
  have := h l.length (by rw [List.reverse_cons, List.length_append, List.length_reverse, List.length_singleton]; omega)
  rw [List.reverse_cons, yGet_push _ _ _ (by rw [List.length_append, List.length_reverse, List.length_singleton]; omega), List.length_reverse, if_pos rfl] at this
  exact this
theorem r_most {l : List Nat} (hl : l.length ≤ 6) (hx : ∀ x, x ∈ l → x ≤ 81) (hw : w ≤ 40) (hm : m = 0 ↔ both = false) (h : yRv g l) : E_X12_mostStone (nI l.length) (nI w) m g = some (nI (yMs w both l)) := by
  have hA := ySl_le l hx
  have hA : ySl l ≤ 486 := by
    have : 81 * l.length ≤ 81 * 6 := Nat.mul_le_mul_left 81 hl
    omega
  have e := xlim_of (step := S_X12_mostStone_6 (nI l.length) (nI w) m g) (fun j => (nI (1 + ySl (l.reverse.take j)), nI j)) l.length (e := nI (1 + ySl l)) (fun j hj => ?_) ?_
  · unfold E_X12_mostStone
    rw [show ((1 : Int32), (0 : Int32)) = (nI (1 + ySl (l.reverse.take 0)), nI 0) from rfl, e, xb1_some, show (2 : Int32) = nI 2 from rfl, nI_mul]
    unfold yMs
    cases hb : both with
    | false =>
      rw [if_pos (hm.mpr hb), Bool.false_or]
      by_cases c : 1 + ySl l ≤ 2 * w
      · rw [if_pos (nI_le c (by omega)), decide_eq_false (by omega), if_neg (by decide)]
      · rw [if_neg (fun z => c ((nI_leI (by omega) (by omega)).mp z)), decide_eq_true (by omega), if_pos rfl]
    | true =>
      rw [if_neg (fun z => by have := hm.mp z; rw [hb] at this; cases this), Bool.true_or, if_pos rfl]
  · have hj' : j < l.reverse.length := by rw [List.length_reverse]; exact hj
    unfold S_X12_mostStone_6
    simp only [if_neg (nI_ge hj (show l.length < 2 ^ 31 by omega)), xck_nI (show j < 8 by omega) (show (8 : Nat) < 2 ^ 31 by decide), nI_clamp (show j < 2 ^ 31 by omega), h j hj', nI_add, nI_1, ySl_take hj', Nat.add_assoc]
  · unfold S_X12_mostStone_6
    simp only []
    rw [if_pos (nI_le (Nat.le_refl _) (by omega))]
    have : l.reverse.take l.length = l.reverse := by rw [← List.length_reverse (as := l), List.take_length]
    rw [this, ySl_rev]
theorem yMs_le (l : List Nat) : yMs w both l ≤ 2 * w := by
  unfold yMs
  by_cases c : (both || decide (2 * w < 1 + ySl l)) = true
  · rw [if_pos c]; exact Nat.le_refl _
  · rw [if_neg c]
    simp only [Bool.or_eq_true, decide_eq_true_eq, not_or] at c
    omega
theorem r_find (hw : w ≤ 40) (hn1 : 1 ≤ n) (hn6 : n ≤ 6) (hm : m = 0 ↔ both = false) : ∀ k l g, yRn n w both k l = some (some L) → yRv g l → l.length ≤ n → (∀ x, x ∈ l → x ≤ 80) → (∀ x, x ∈ l.tail → 1 ≤ x) → ∃ g', xlim (S_X12_findStones_10 (nI n) (nI w) m) (nI l.length - 1, g) = some (.inl (1, g')) ∧ yAg dSt g g' ∧ yLd2 g' L := by
  intro k
  induction k with
  | zero => intro l g h; cases h
  | succ k ih =>
    intro l g h hr hl hx h1
    cases l with
    | nil => cases h
    | cons s l =>
      have h : (match ySp n w both (s :: l) with | .inl l' => yRn n w both k l' | .inr r => some r) = some (some L) := h
      have hl' : l.length + 1 ≤ n := hl
      have s80 := hx s (List.mem_cons_self ..)
      have xl : ∀ x, x ∈ l → x ≤ 80 := fun x hx' => hx x (List.mem_cons_of_mem _ hx')
      have l1 : ∀ x, x ∈ l → 1 ≤ x := h1
      have top := yRv_top hr
      have mle := yMs_le (w := w) (both := both) l
      generalize hY : xWI g 171 l.length (nI (s + 1)) = Y
      have yY : yAg dSt g Y := by rw [← hY]; exact (yAg.refl _ g).wi (Or.inl rfl)
      have rY : yRv Y ((s + 1) :: l) := by rw [← hY]; exact yRv_push (yRv_pop hr) rfl
      have tY : xI Y 171 l.length = nI (s + 1) := yRv_top rY
      have ms := r_most (w := w) (both := both) (m := m) (show l.length ≤ 6 by omega) (fun x hx' => Nat.le_trans (xl x hx') (by decide)) hw hm (yRv_pop rY)
      have dI : nI (s :: l).length - 1 = nI l.length := nI_pred l.length
      have base : S_X12_findStones_10 (nI n) (nI w) m (nI l.length, g) = if nI (s + 1) ≤ nI (yMs w both l) then (if nI n ≤ nI (l.length + 1) then (xb2 (E_X12_doReach (nI n) (nI w) m Y) fun r86_8 g86_8 => if r86_8 = 0 then some (.inl (nI l.length, g86_8)) else some (.inr (.inl (1, g86_8)))) else xck 8 (nI l.length) (xck 8 (nI (l.length + 1)) (some (.inl (nI (l.length + 1), xWI Y 171 (l.length + 1) (nI s)))))) else some (.inl (nI l.length + (-1), Y)) := by
        unfold S_X12_findStones_10
        simp only [if_neg (nI_pos (n := l.length) (by omega)), xck_nI (show l.length < 8 by omega) (show (8 : Nat) < 2 ^ 31 by decide), nI_clamp (show l.length < 2 ^ 31 by omega), top, nI_1, hY, ms, xb1_some, tY, nI_clamp (show l.length + 1 < 2 ^ 31 by omega), nI_pred]
      rw [dI]
      by_cases c1 : yMs w both l < s + 1
      · have e : ySp n w both (s :: l) = .inl l := if_pos c1
        rw [e] at h
        have st : S_X12_findStones_10 (nI n) (nI w) m (nI l.length, g) = some (.inl (nI l.length - 1, Y)) := by
          rw [base, if_neg (fun z => by rw [nI_leI (by omega) (by omega)] at z; omega), ← Int32.sub_eq_add_neg]
        obtain ⟨g', r1, r2, r3⟩ := ih l Y h (yRv_pop rY) (by omega) xl (fun x hx' => l1 x (List.mem_of_mem_tail hx'))
        exact ⟨g', (xlim_go st).trans r1, yY.tr r2, r3⟩
      · have le1 : nI (s + 1) ≤ nI (yMs w both l) := nI_le (by omega) (by omega)
        rw [if_pos le1] at base
        by_cases c2 : l.length + 1 < n
        · have e : ySp n w both (s :: l) = .inl (s :: (s + 1) :: l) := (if_neg c1).trans (if_pos c2)
          rw [e] at h
          rw [if_neg (nI_ge c2 (by omega)), xck_nI (show l.length < 8 by omega) (by decide), xck_nI (show l.length + 1 < 8 by omega) (by decide)] at base
          obtain ⟨g', r1, r2, r3⟩ := ih (s :: (s + 1) :: l) (xWI Y 171 (l.length + 1) (nI s)) h (yRv_push rY rfl) (by show l.length + 1 + 1 ≤ n; omega) (fun x hx' => by
            rcases List.mem_cons.mp hx' with z | z
            · omega
            · rcases List.mem_cons.mp z with z | z
              · omega
              · exact xl x z) (fun x hx' => by
            rcases List.mem_cons.mp hx' with z | z
            · omega
            · exact l1 x z)
          refine ⟨g', (xlim_go base).trans ?_, (yY.wi (Or.inl rfl)).tr r2, r3⟩
          have : nI (s :: (s + 1) :: l).length - 1 = nI (l.length + 1) := nI_pred (l.length + 1)
          rw [this] at r1
          exact r1
        · have hen : n = l.length + 1 := by omega
          have e0 : ySp n w both (s :: l) = if yRc w both ((s + 1) :: l).reverse then .inr (some ((s + 1) :: l).reverse) else .inl ((s + 1) :: l) := (if_neg c1).trans (if_neg c2)
          have rlen : ((s + 1) :: l).reverse.length = n := by rw [List.length_reverse]; exact hen.symm
          have sk : ySk ((s + 1) :: l).reverse := ⟨by omega, fun x hx' => by
            rw [List.mem_reverse] at hx'
            rcases List.mem_cons.mp hx' with z | z
            · omega
            · exact ⟨l1 x z, Nat.le_trans (xl x z) (by decide)⟩⟩
          obtain ⟨G, q1, q2⟩ := r_reach (w := w) (m := m) sk hw hm rY
          rw [rlen] at q1
          rw [if_pos (nI_le (by omega) (by omega)), q1, xb2_some] at base
          have rG : yRv G ((s + 1) :: l) := yLd2.md q2 rY
          by_cases c3 : yRc w both ((s + 1) :: l).reverse = true
          · rw [e0, if_pos c3] at h
            have hL : ((s + 1) :: l).reverse = L := by
              have := Option.some.inj (Option.some.inj h)
              exact this
            rw [if_pos c3, if_neg (by decide)] at base
            refine ⟨G, xlim_end base, yY.tr (q2.up dMd_St), ?_⟩
            rw [← hL]; exact rG
          · rw [e0, if_neg c3] at h
            rw [if_neg c3, if_pos rfl] at base
            obtain ⟨g', r1, r2, r3⟩ := ih ((s + 1) :: l) G h rG (by show l.length + 1 ≤ n; omega) (fun x hx' => by
              rcases List.mem_cons.mp hx' with z | z
              · omega
              · exact xl x z) l1
            refine ⟨g', (xlim_go base).trans ?_, (yY.tr (q2.up dMd_St)).tr r2, r3⟩
            have : nI ((s + 1) :: l).length - 1 = nI l.length := nI_pred l.length
            rw [this] at r1
            exact r1
theorem yStAll {w : Nat} (h1 : 1 ≤ w) (h2 : w ≤ 40) (both : Bool) : yRn (yN0 w both 10 0 0) w both 8000 [0] = some (some (yCl w both)) ∧ (yCl w both).length = yN0 w both 10 0 0 ∧ yN0 w both 10 0 0 ≤ 6 ∧ 1 ≤ yN0 w both 10 0 0 ∧ ∀ s, s ∈ yCl w both → s ≤ 80 := by
  have key : ∀ a b, yStOk both a b = true → a ≤ w → w < a + b → yRn (yN0 w both 10 0 0) w both 8000 [0] = some (some (yCl w both)) ∧ (yCl w both).length = yN0 w both 10 0 0 ∧ yN0 w both 10 0 0 ≤ 6 ∧ 1 ≤ yN0 w both 10 0 0 ∧ ∀ s, s ∈ yCl w both → s ≤ 80 := by
    intro a b h ha hb
    unfold yStOk at h
    have := List.all_eq_true.mp h w (List.mem_range'_1.mpr ⟨ha, hb⟩)
    simp only [Bool.and_eq_true, decide_eq_true_eq, List.all_eq_true] at this
    obtain ⟨⟨⟨⟨x1, x2⟩, x3⟩, x4⟩, x5⟩ := this
    exact ⟨x1, x2, x3, x4, x5⟩
  cases both with
  | false => exact key 1 40 yStA h1 (by omega)
  | true =>
    by_cases c1 : w < 29
    · exact key 1 28 yStB h1 (by omega)
    · by_cases c2 : w < 36
      · exact key 29 7 yStC (by omega) (by omega)
      · exact key 36 5 yStD (by omega) (by omega)
theorem r_n0 (hm : m = 0 ↔ both = false) (hw : w ≤ 40) : ∀ k n r, r ≤ 121 → (∃ j, j ≤ k ∧ yN0 w both k n r = n + j ∧ (yN0 w both k n r = yN0 w both (k + 1) n r)) → xlim (S_X12_stones_22 (nI w) m) (nI n, nI r, g) = some (nI (yN0 w both k n r), g) := by
  intro k
  induction k with
  | zero =>
    intro n r hr ⟨j, hj, e1, e2⟩
    refine xlim_end ?_
    unfold S_X12_stones_22
    by_cases c : r < w
    · have : yN0 w both (0 + 1) n r = n + 1 := by show (if r < w then _ else n) = _; rw [if_pos c]; rfl
      rw [this] at e2
      have : yN0 w both 0 n r = n := rfl
      omega
    · simp only []
      rw [if_pos (nI_le (by omega) (by omega))]; rfl
  | succ k ih =>
    intro n r hr ⟨j, hj, e1, e2⟩
    have d1 : yN0 w both (k + 1) n r = if r < w then yN0 w both k (n + 1) (if both then 3 * r + 1 else 2 * r + 1) else n := rfl
    have d2 : yN0 w both (k + 1 + 1) n r = if r < w then yN0 w both (k + 1) (n + 1) (if both then 3 * r + 1 else 2 * r + 1) else n := rfl
    by_cases c : r < w
    · rw [if_pos c] at d1 d2
      have st : S_X12_stones_22 (nI w) m (nI n, nI r, g) = some (.inl (nI (n + 1), nI (if both then 3 * r + 1 else 2 * r + 1), g)) := by
        unfold S_X12_stones_22
        simp only [if_neg (nI_ge c (show w < 2 ^ 31 by omega)), nI_1]
        cases hb : both with
        | false => rw [if_pos (hm.mpr hb), if_neg (by decide), show (2 : Int32) = nI 2 from rfl, nI_mul, nI_1]
        | true => rw [if_neg (fun z => by have := hm.mp z; rw [hb] at this; cases this), if_pos rfl, show (3 : Int32) = nI 3 from rfl, nI_mul, nI_1]
      rw [d1]
      refine (xlim_go st).trans (ih (n + 1) _ (by split <;> omega) ?_)
      rw [d1, d2] at e2
      -- how far it counts
      have far : ∀ k n r, ∃ j, j ≤ k ∧ yN0 w both k n r = n + j := by
        intro k
        induction k with
        | zero => intro n r; exact ⟨0, Nat.le_refl _, rfl⟩
        | succ k ih =>
          intro n r
          show ∃ j, j ≤ k + 1 ∧ (if r < w then yN0 w both k (n + 1) _ else n) = n + j
          by_cases c : r < w
          · rw [if_pos c]
            obtain ⟨j, j1, j2⟩ := ih (n + 1) (if both then 3 * r + 1 else 2 * r + 1)
            exact ⟨j + 1, by omega, by omega⟩
          · rw [if_neg c]; exact ⟨0, Nat.zero_le _, rfl⟩
      obtain ⟨j', j1, j2⟩ := far k (n + 1) (if both then 3 * r + 1 else 2 * r + 1)
      exact ⟨j', j1, j2, e2⟩
    · rw [d1, if_neg c]
      refine xlim_end ?_
      unfold S_X12_stones_22
      exact if_pos (nI_le (by omega) (by omega))
theorem yN0_st : ∀ w, w < 41 → ∀ b : Bool, yN0 w b 10 0 0 = yN0 w b 11 0 0 := by
  intro w hw b
  have : ((List.range 41).all fun w => decide (yN0 w true 10 0 0 = yN0 w true 11 0 0 ∧ yN0 w false 10 0 0 = yN0 w false 11 0 0)) = true := by decide +kernel
  simp only [List.all_eq_true, List.mem_range, decide_eq_true_eq] at this
  cases b with
  | true => exact (this w hw).1
  | false => exact (this w hw).2
theorem r_stR (C : Cx g β T B) (h1 : 1 ≤ w) (h2 : w ≤ 40) (hm : m = 0 ↔ both = false) : ∃ g', E_X12_stones (nI w) m g = some (nI (yCl w both).length, g') ∧ yAg dAS g g' ∧ xI g' 113 54 = nI (yCl w both).length ∧ (∀ i, i < (yCl w both).length → xI g' 149 i = nI ((yCl w both).getD i 0)) ∧ ∀ o, 111 ≤ o → o ≤ 112 → ∀ k, xI g' o k = xI g o k := by
  obtain ⟨s1, s2, s3, s4, s5⟩ := yStAll h1 h2 both
  have y0 : yAg dAS g (xWI g 113 54 0) := (yAg.refl _ g).wi (by unfold dAS; omega)
  have far : ∃ j, j ≤ 10 ∧ yN0 w both 10 0 0 = 0 + j ∧ yN0 w both 10 0 0 = yN0 w both (10 + 1) 0 0 := ⟨yN0 w both 10 0 0, by omega, by omega, yN0_st w (by omega) both⟩
  have n0 := r_n0 (g := xWI g 113 54 0) hm h2 10 0 0 (by decide) far
  generalize hn : yN0 w both 10 0 0 = n at *
  generalize hL : yCl w both = L at *
  generalize hG : xWI g 113 54 0 = G at *
  obtain ⟨G1, f1, f2, f3⟩ := r_find (m := m) h2 s4 s3 hm 8000 [0] (xWI G 171 0 0) s1 (fun i hi => by
    have : i = 0 := by
      have : ([0] : List Nat).reverse.length = 1 := rfl
      omega
    subst this
    rw [yI_wi, if_pos ⟨rfl, rfl⟩]; rfl) s4 (fun x hx => by rw [List.mem_singleton] at hx; omega) (fun x hx => absurd hx List.not_mem_nil)
  have fs : E_X12_findStones (nI n) (nI w) m G = some (1, G1) := by
    unfold E_X12_findStones
    rw [show xlim (S_X12_findStones_10 (nI n) (nI w) m) (0, xWI G 171 (0 : Int32).toNatClampNeg 0) = some (.inl (1, G1)) from f1, xbs_inl]
  have yG1 : yAg dAS G G1 := (((yAg.refl _ G).wi (Or.inl rfl)).tr f2 |>.up dSt_A).A
  have l55 : xlim (S_X12_stones_55 (nI w) m) (nI n, G) = some (nI n, G1) := xlim_end (by
    unfold S_X12_stones_55
    simp only [fs, xb2_some]
    rfl)
  have key : ∀ d j X, d + j = n → yAg dSR G1 X → (∀ i, i < j → xI X 149 i = nI (L.getD i 0)) → ∃ g', xlim (S_X12_stones_74 (nI n)) (nI j, X) = some g' ∧ yAg dSR G1 g' ∧ ∀ i, i < n → xI g' 149 i = nI (L.getD i 0) := by
    intro d
    induction d with
    | zero =>
      intro j X hj y s
      have : j = n := by omega
      subst this
      exact ⟨X, xlim_end (if_pos (nI_le (Nat.le_refl _) (by omega))), y, s⟩
    | succ d ih =>
      intro j X hj y s
      have e : xI X 171 j = nI (L.getD j 0) := (y.2 _ _ (by unfold dSR; omega)).trans (f3 j (by omega))
      have st : S_X12_stones_74 (nI n) (nI j, X) = some (.inl (nI (j + 1), xWI X 149 j (nI (L.getD j 0)))) := by
        unfold S_X12_stones_74
        simp only [if_neg (nI_ge (show j < n by omega) (show n < 2 ^ 31 by omega)), xck_nI (show j < 8 by omega) (show (8 : Nat) < 2 ^ 31 by decide), xck_nI (show j < 25 by omega) (show (25 : Nat) < 2 ^ 31 by decide), nI_clamp (show j < 2 ^ 31 by omega), e, nI_1]
      obtain ⟨g', r1, r2⟩ := ih (j + 1) (xWI X 149 j (nI (L.getD j 0))) (by omega) (y.wi (Or.inl rfl)) (fun i hi => by
        rw [yI_wi]
        by_cases z : i = j
        · rw [if_pos ⟨rfl, z⟩, z]
        · rw [if_neg (fun q => z q.2)]; exact s i (by omega))
      exact ⟨g', (xlim_go st).trans r1, r2⟩
  obtain ⟨G2, k1, k2, k3⟩ := key n 0 G1 (by omega) (yAg.refl _ _) (fun i hi => by omega)
  have in1 : F_X12_isIn G (nI w) 1 40 = 1 := by
    unfold F_X12_isIn
    rw [if_neg (fun z => by rw [show (1 : Int32) = nI 1 from rfl, nI_ltI (by omega) (by decide)] at z; omega), if_neg (fun z => by rw [show (40 : Int32) = nI 40 from rfl, nI_ltI (by decide) (by omega)] at z; omega)]
  refine ⟨xWI G2 113 54 (nI n), ?_, ((y0.tr yG1).tr (k2.up dSR_S)).wi (by unfold dAS; omega), by rw [yI_wi, if_pos ⟨rfl, rfl⟩, s2], fun i hi => by rw [yI_wi, if_neg (by omega)]; exact k3 i (by omega), fun o h1 h2 k => ?_⟩
  · unfold E_X12_stones
    rw [hG, in1, if_neg (by decide), show xlim (S_X12_stones_22 (nI w) m) (0, 0, G) = some (nI n, G) from n0, xb1_some, l55, xb1_some, show xlim (S_X12_stones_74 (nI n)) (0, G1) = some G2 from k1, xb1_some, s2]
  · rw [yI_wi, if_neg (by omega), k2.2 o k (by unfold dSR; omega)]
    have : xI G1 o k = xI G o k := by
      rw [f2.2 o k (by unfold dSt; omega), yI_wi, if_neg (by omega)]
    rw [this, ← hG, yI_wi, if_neg (by omega)]
/-! the class's row -/
theorem r_power {b k : Nat} (hb : b < 4) (hk : k ≤ 10) : E_X9_powerOf (nI b) (nI k) g = some (nI (b ^ k)) := by
  have e := xlim_of (step := S_X9_powerOf_4 (nI b) (nI k) g) (fun j => (nI (b ^ j), nI j)) k (e := nI (b ^ k)) (fun j hj => ?_) ?_
  · unfold E_X9_powerOf
    rw [show ((1 : Int32), (0 : Int32)) = (nI (b ^ 0), nI 0) from rfl, e, xb1_some]
  · unfold S_X9_powerOf_4
    have h10 : ¬ (10 : Int32) ≤ nI j := by rw [show (10 : Int32) = nI 10 from rfl]; exact nI_ge (by omega) (by decide)
    simp only [if_neg (nI_ge hj (show k < 2 ^ 31 by omega)), if_neg h10, nI_mul, nI_1]
    rfl
  · unfold S_X9_powerOf_4
    exact if_pos (nI_le (Nat.le_refl _) (by omega))
theorem yIn2_i (w wanted reached step times : Nat) : ∀ k s, s ≤ 2 * w → 2 * w ≤ s + k → s ≤ yIn2 w wanted reached step times k s ∧ yIn2 w wanted reached step times k s ≤ 2 * w ∧ (∀ x, s ≤ x → x < yIn2 w wanted reached step times k s → (reached + step * x) * times < wanted) ∧ ¬ (yIn2 w wanted reached step times k s < 2 * w ∧ (reached + step * yIn2 w wanted reached step times k s) * times < wanted) := by
  intro k
  induction k with
  | zero =>
    intro s h1 h2
    exact ⟨Nat.le_refl _, h1, fun x a b => absurd b (Nat.not_lt.mpr a), fun z => by have : yIn2 w wanted reached step times 0 s = s := rfl; rw [this] at z; omega⟩
  | succ k ih =>
    intro s h1 h2
    have hd : yIn2 w wanted reached step times (k + 1) s = if s < 2 * w ∧ (reached + step * s) * times < wanted then yIn2 w wanted reached step times k (s + 1) else s := rfl
    rw [hd]
    by_cases c : s < 2 * w ∧ (reached + step * s) * times < wanted
    · rw [if_pos c]
      obtain ⟨i1, i2, i3, i4⟩ := ih (s + 1) (by omega) (by omega)
      refine ⟨by omega, i2, fun x a b => ?_, i4⟩
      by_cases e : x = s
      · subst e; exact c.2
      · exact i3 x (by omega) b
    · rw [if_neg c]
      exact ⟨Nat.le_refl _, h1, fun x a b => absurd b (Nat.not_lt.mpr a), c⟩
theorem r_inc {wanted reached step times s : Nat} (hw : w ≤ 40) (hs : s ≤ 2 * w) (hst : step ≤ 2) (hre : reached ≤ 2000) (hti : times ≤ 60000) (hwa : wanted ≤ 1000) {x3 x9 : Int32} : xlim (S_X9_layStones_71 (nI w) x3 (nI step) (nI wanted) (nI reached) x9 (nI times)) (nI s, g) = some (nI (yIn2 w wanted reached step times 80 s), g) := by
  obtain ⟨i1, i2, i3, i4⟩ := yIn2_i w wanted reached step times 80 s hs (by omega)
  have bnd : ∀ x, x ≤ 80 → (reached + step * x) * times < 2 ^ 31 := fun x hx => by
    have h1 : step * x ≤ 2 * 80 := Nat.mul_le_mul hst hx
    have h2 : (reached + step * x) * times ≤ 2160 * 60000 := Nat.mul_le_mul (by omega) hti
    have : 2160 * 60000 < 2 ^ 31 := by decide
    omega
  have a2w : (2 : Int32) * nI w = nI (2 * w) := by rw [show (2 : Int32) = nI 2 from rfl, nI_mul]
  have e := xlim_from (step := S_X9_layStones_71 (nI w) x3 (nI step) (nI wanted) (nI reached) x9 (nI times)) (fun x => (nI x, g)) s (yIn2 w wanted reached step times 80 s) i1 (e := (nI (yIn2 w wanted reached step times 80 s), g)) (fun x hx1 hx2 => ?_) ?_
  · exact e
  · unfold S_X9_layStones_71
    simp only [a2w, if_neg (nI_ge (show x < 2 * w by omega) (show 2 * w < 2 ^ 31 by omega)), nI_mul, nI_add, if_neg (nI_ge (i3 x hx1 hx2) (show wanted < 2 ^ 31 by omega)), nI_1]
  · unfold S_X9_layStones_71
    simp only [a2w, nI_mul, nI_add]
    by_cases c : yIn2 w wanted reached step times 80 s < 2 * w
    · rw [if_neg (nI_ge c (by omega)), if_pos (nI_le (Nat.not_lt.mp fun z => i4 ⟨c, z⟩) (bnd _ (by omega)))]
    · rw [if_pos (nI_le (by omega) (by omega))]
theorem r_layRow {base step wanted : Nat} (hw : w ≤ 40) (hb : base ≤ 3) (hst : step ≤ 2) (hwa : wanted ≤ 1000) : ∀ r reached s l g, r + l.length ≤ 6 → reached ≤ 200 * l.length + 1 → s ≤ 2 * w → ySC g l → ∃ g', xlim (S_X9_layStones_58 (nI w) (nI base) (nI step) (nI wanted)) (nI reached, nI s, nI r - 1, g) = some g' ∧ yAg dSC g g' ∧ ySC g' (l ++ yCs w base step wanted r reached s) := by
  intro r
  induction r with
  | zero =>
    intro reached s l g h1 h2 h3 h4
    refine ⟨g, xlim_end (if_pos (show nI 0 - 1 < (0 : Int32) by decide)), yAg.refl _ _, ?_⟩
    show ySC g (l ++ [])
    rw [List.append_nil]; exact h4
  | succ r ih =>
    intro reached s l g h1 h2 h3 h4
    have hp : base ^ r ≤ 60000 := by
      have a : base ^ r ≤ 3 ^ r := Nat.pow_le_pow_left hb r
      have b : 3 ^ r ≤ 3 ^ 6 := Nat.pow_le_pow_right (by decide) (by omega)
      have c : 3 ^ 6 ≤ 60000 := by decide
      omega
    obtain ⟨i1, i2, -, -⟩ := yIn2_i w wanted reached step (base ^ r) 80 s h3 (by omega)
    have inc := r_inc (g := g) (x3 := nI base) (x9 := nI r) hw h3 hst (show reached ≤ 2000 by omega) hp hwa
    have hd : yCs w base step wanted (r + 1) reached s = yIn2 w wanted reached step (base ^ r) 80 s :: yCs w base step wanted r (reached + step * yIn2 w wanted reached step (base ^ r) 80 s) (yIn2 w wanted reached step (base ^ r) 80 s) := rfl
    generalize yIn2 w wanted reached step (base ^ r) 80 s = s' at *
    have hm : step * s' ≤ 2 * 80 := Nat.mul_le_mul hst (by omega)
    have st : S_X9_layStones_58 (nI w) (nI base) (nI step) (nI wanted) (nI reached, nI s, nI (r + 1) - 1, g) = some (.inl (nI (reached + step * s'), nI s', nI r - 1, xWI (xWI g 112 l.length (nI s')) 111 1 (nI (l.length + 1)))) := by
      unfold S_X9_layStones_58
      rw [nI_pred]
      simp only [if_neg (nI_pos (n := r) (by omega)), r_power (g := g) (show base < 4 by omega) (show r ≤ 10 by omega), xb1_some, inc, r_lay h4.1 (show l.length < 24 by omega), nI_mul, nI_add]
      rw [Int32.sub_eq_add_neg]
    obtain ⟨g', r1, r2, r3⟩ := ih (reached + step * s') s' (l ++ [s']) (xWI (xWI g 112 l.length (nI s')) 111 1 (nI (l.length + 1))) (by rw [List.length_append, List.length_singleton]; omega) (by rw [List.length_append, List.length_singleton]; omega) i2 (ySC_push h4)
    refine ⟨g', (xlim_go st).trans r1, (((yAg.refl dSC g).wi (Or.inl rfl)).wi (Or.inr ⟨rfl, rfl⟩)).tr r2, ?_⟩
    rw [hd]
    rw [List.append_assoc] at r3
    exact r3
theorem yDp_i {base x : Nat} : ∀ k d, (∃ N, d ≤ N ∧ N ≤ d + k ∧ x ≤ base ^ N) → (∀ j, j < d → base ^ j < x) → x ≤ base ^ yDp base x k d ∧ (∀ j, j < yDp base x k d → base ^ j < x) ∧ yDp base x k d ≤ d + k := by
  intro k
  induction k with
  | zero =>
    intro d ⟨N, h1, h2, h3⟩ h
    have : N = d := by omega
    subst this
    exact ⟨h3, h, Nat.le_refl _⟩
  | succ k ih =>
    intro d ⟨N, h1, h2, h3⟩ h
    have hd : yDp base x (k + 1) d = if x ≤ base ^ d then d else yDp base x k (d + 1) := rfl
    rw [hd]
    by_cases c : x ≤ base ^ d
    · rw [if_pos c]; exact ⟨c, h, by omega⟩
    · rw [if_neg c]
      obtain ⟨i1, i2, i3⟩ := ih (d + 1) ⟨N, by
        by_cases e : N = d
        · subst e; exact absurd h3 c
        · omega, by omega, h3⟩ (fun j hj => by
        by_cases e : j = d
        · subst e; omega
        · exact h j (by omega))
      exact ⟨i1, i2, by omega⟩
theorem yCs_len (w base step wanted : Nat) : ∀ r reached s, (yCs w base step wanted r reached s).length = r := by
  intro r
  induction r with
  | zero => intro _ _; rfl
  | succ r ih => intro a b; show (yCs w base step wanted r _ _).length + 1 = r + 1; rw [ih]
theorem r_stC (h1 : 1 ≤ w) (h2 : w ≤ 40) (hm : m = 0 ↔ both = false) (hs : ySC g []) : ∃ g', E_X9_layStones (nI w) m g = some g' ∧ yAg dSC g g' ∧ ySC g' (yCl w both) := by
  obtain ⟨-, s2, s3, -, -⟩ := yStAll h1 h2 both
  have hun : E_X9_layStones (nI w) m g = xb1 (E_X8_depthOf (nI (if both then 2 * w + 1 else w + 1)) (nI (if both then 3 else 2)) g) fun r41_1 => xb1 (xlim (S_X9_layStones_58 (nI w) (nI (if both then 3 else 2)) (nI (if both then 2 else 1)) (nI (if both then 2 * w + 1 else w + 1))) (1, 1, r41_1 - 1, g)) fun e_2 => some e_2 := by
    unfold E_X9_layStones K_X9_layStones_9 K_X9_layStones_19 K_X9_layStones_36
    cases hb : both with
    | false =>
      have z := hm.mpr hb
      rw [if_pos z, if_pos z, if_pos z, nI_1]; rfl
    | true =>
      have z : ¬ m = 0 := fun z => by have := hm.mp z; rw [hb] at this; cases this
      rw [if_neg z, if_neg z, if_neg z, show (2 : Int32) = nI 2 from rfl, nI_mul, nI_1]; rfl
  have hb3 : (if both then 3 else 2) ≤ 3 := by split <;> decide
  have hb2 : 2 ≤ (if both then 3 else 2) := by split <;> decide
  have hst : (if both then 2 else 1) ≤ 2 := by split <;> decide
  have hwa : (if both then 2 * w + 1 else w + 1) ≤ 81 := by split <;> omega
  have hcl : yCl w both = yCs w (if both then 3 else 2) (if both then 2 else 1) (if both then 2 * w + 1 else w + 1) (yDp (if both then 3 else 2) (if both then 2 * w + 1 else w + 1) 10 0) 1 1 := rfl
  generalize (if both then 3 else 2) = base at *
  generalize (if both then 2 else 1) = step at *
  generalize (if both then 2 * w + 1 else w + 1) = wanted at *
  obtain ⟨N, n1, n2, -⟩ := r_dep base (by omega) hb2 wanted (by omega)
  obtain ⟨d1, d2, d3⟩ := yDp_i (base := base) (x := wanted) 10 0 ⟨N, Nat.zero_le _, by omega, n2⟩ (fun j hj => by omega)
  have dl : yDp base wanted 10 0 ≤ 6 := by
    have := yCs_len w base step wanted (yDp base wanted 10 0) 1 1
    rw [← hcl, s2] at this
    omega
  have dep := r_depthOf (g := g) (c := base) (x := wanted) (N := yDp base wanted 10 0) (by omega) (by omega) (by omega) d1 d2
  obtain ⟨g', r1, r2, r3⟩ := r_layRow (base := base) (step := step) (wanted := wanted) h2 hb3 hst (by omega) (yDp base wanted 10 0) 1 1 [] g (by rw [List.length_nil]; omega) (by decide) (by omega) hs
  refine ⟨g', ?_, r2, by rw [List.nil_append] at r3; rw [hcl]; exact r3⟩
  rw [hun, dep, xb1_some, show xlim (S_X9_layStones_58 (nI w) (nI base) (nI step) (nI wanted)) (1, 1, nI (yDp base wanted 10 0) - 1, g) = some g' from r1, xb1_some]
theorem op_36 (C : Cx g β T B) : ∃ g', O_36 a1 a2 a3 a4 a5 g = some (true, g') ∧ yAg dAS g g' ∧ I_shelf g' := by
  unfold O_36
  have hm01 : xb01 a2 = 0 ∨ ¬ xb01 a2 = 0 := Classical.em _
  obtain ⟨both, hm⟩ : ∃ both : Bool, (xb01 a2 = 0 ↔ both = false) := by
    rcases hm01 with z | z
    · exact ⟨false, fun _ => rfl, fun _ => z⟩
    · exact ⟨true, fun y => absurd y z, fun y => by cases y⟩
  generalize xb01 a2 = m at *
  have y0 : yAg dSC g (xWI g 111 1 0) := (yAg.refl dSC g).wi (Or.inr ⟨rfl, rfl⟩)
  have C0 := C.as (y0.up dSC_S)
  have s0 : xI (xWI g 111 1 0) 111 1 = nI 0 := by rw [yI_wi, if_pos ⟨rfl, rfl⟩]; rfl
  have bad : (a1 < 1 ∨ ¬ a1 ≤ 40) → F_X12_isIn (xWI (xWI g 111 1 0) 113 54 0) a1 1 40 = 0 → ∃ g', (xb2 (E_X11_stones a1 m g) fun v1 g1 => xb2 (E_X12_stones a1 m g1) fun v2 g2 => some (decide (v1 = v2), g2)) = some (true, g') ∧ yAg dAS g g' ∧ I_shelf g' := fun h hin => by
    refine ⟨xWI (xWI g 111 1 0) 113 54 0, r_O (v := -1) (g1 := xWI g 111 1 0) ?_ ?_, (y0.up dSC_S).wi (by unfold dAS; omega), ⟨0, by decide, by rw [yI_wi, if_neg (by omega)]; exact s0, by rw [yI_wi, if_pos ⟨rfl, rfl⟩]; rfl, fun k hk => by omega⟩⟩
    · unfold E_X11_stones E_X9_empty
      rw [xb1_some]
      by_cases c : a1 < 1
      · rw [if_pos c]
      · rw [if_neg c, if_neg (h.resolve_left c)]
    · unfold E_X12_stones
      rw [if_pos hin]
  by_cases c1 : a1 < 1
  · exact bad (Or.inl c1) (by unfold F_X12_isIn; rw [if_pos c1])
  · by_cases c2 : a1 ≤ 40
    · obtain ⟨w, hw, rfl⟩ := nI_of (x := a1) (fun z => c1 (by
        rw [Int32.lt_iff_toInt_lt] at z ⊢
        rw [show (0 : Int32).toInt = 0 from rfl] at z
        rw [show (1 : Int32).toInt = 1 from rfl]
        omega))
      have w1 : 1 ≤ w := by
        rw [show (1 : Int32) = nI 1 from rfl, nI_ltI hw (by decide)] at c1; omega
      have w40 : w ≤ 40 := by
        rw [show (40 : Int32) = nI 40 from rfl, nI_leI hw (by decide)] at c2; exact c2
      obtain ⟨-, s2, s3, -, -⟩ := yStAll w1 w40 both
      obtain ⟨g1, r1, r2, r3⟩ := r_stC (m := m) w1 w40 hm (g := xWI g 111 1 0) ⟨s0, fun j hj => absurd hj (Nat.not_lt_zero _)⟩
      have C1 := C0.as (r2.up dSC_S)
      obtain ⟨g2, t1, t2, t3, t4, t5⟩ := r_stR (m := m) (both := both) C1 w1 w40 hm
      refine ⟨g2, r_O (v := nI (yCl w both).length) (g1 := g1) ?_ t1, ((y0.up dSC_S).tr (r2.up dSC_S)).tr t2, ⟨(yCl w both).length, by omega, (t5 111 (by decide) (by decide) 1).trans r3.1, t3, fun k hk => ?_⟩⟩
      · unfold E_X11_stones E_X9_empty
        rw [xb1_some, if_neg c1, if_pos c2, r1, xb1_some, r3.1]
      · rw [t5 112 (by decide) (by decide), r3.2 k hk, t4 k hk]
    · refine bad (Or.inr c2) ?_
      unfold F_X12_isIn
      rw [if_neg c1, if_pos]
      rw [Int32.lt_iff_toInt_lt]
      rw [Int32.le_iff_toInt_le] at c2
      omega
end ST2
