/-! WEIGHTS that fit: the recursion, all of the guessing -/
section FM
variable {g g' : xSt} {t b x n st R Q : Nat} {rf rs rd qa qb : Nat → Nat} {P : List Nat} {a1 a2 a3 : Int32}
theorem r_one (k : Nat) : R_X1_layFrom (k + 1) = E_X1_layFrom (R_X1_layFrom k) := rfl
theorem yFb_len : (yFb n st R rf rs rd t b).length ≤ 6 ^ (n - t) := by
  unfold yFb
  have := List.length_filter_le (yFr n st R rf rs rd) (List.range' (b * 6 ^ (n - t)) (6 ^ (n - t)))
  rw [List.length_range'] at this
  exact this
/-- the first j parts of a block -/
def yFp (n st R : Nat) (rf rs rd : Nat → Nat) (t b : Nat) : Nat → List Nat
  | 0 => []
  | j + 1 => yFp n st R rf rs rd t b j ++ yFb n st R rf rs rd (t + 1) (6 * b + j)
theorem yFp_6 (ht : t < n) : yFp n st R rf rs rd t b 6 = yFb n st R rf rs rd t b := by
  rw [yFb_split ht]
  show (((((([] ++ _) ++ _) ++ _) ++ _) ++ _) ++ _) = _
  simp only [List.nil_append, List.append_assoc, Nat.add_zero]
theorem yFp_len : ∀ j, (yFp n st R rf rs rd t b j).length ≤ j * 6 ^ (n - (t + 1)) := by
  intro j
  induction j with
  | zero => exact Nat.zero_le _
  | succ j ih =>
    show (yFp n st R rf rs rd t b j ++ _).length ≤ _
    rw [List.length_append, Nat.succ_mul j]
    have := yFb_len (n := n) (st := st) (R := R) (rf := rf) (rs := rs) (rd := rd) (t := t + 1) (b := 6 * b + j)
    omega
theorem r_from (hn : n ≤ 5) (hs : st ≤ 99) (hr : yRl n R rf rs rd) (hQ : yQl n Q qa qb) : ∀ d t b g P, t + d + 1 = n → yGx g n st R rf rs rd Q qa qb → yPx g t b → yOk st R rf rs rd t b → P.length + 6 ^ (n - t) < 9000 → yAc g n st P Q qa qb → ∀ e, ∃ g', R_X1_layFrom (d + 1 + e) (nI t) g = some g' ∧ yAg dGs g g' ∧ yPx g' t b ∧ yAc g' n st (P ++ yFb n st R rf rs rd t b) Q qa qb := by
  intro d
  induction d with
  | zero =>
    intro t b g P hd hG hp ok hP ha e
    have e1 : n = t + 1 := by omega
    subst e1
    obtain ⟨g', r1, r2⟩ := r_last (by omega) hs hr hQ hG hp ok (Nat.lt_of_le_of_lt (Nat.le_add_right _ _) hP) ha
    refine ⟨g', ?_, r2⟩
    rw [show 0 + 1 + e = e + 1 by omega, r_one]
    unfold E_X1_layFrom
    have h5 : nI t < (5 : Int32) := nI_lt (show t < 5 by omega) (by decide)
    rw [if_neg (nI_pos (by omega)), hG.1, if_neg (nI_ge (Nat.lt_succ_self t) (by omega)), if_pos h5, nI_pred, if_pos rfl, r1, xb1_some]
  | succ d ih =>
    intro t b g P hd hG hp ok hP ha e
    have htn : t < n := by omega
    have e6 : 6 ^ (n - t) = 6 * 6 ^ (n - (t + 1)) := by rw [← Nat.pow_succ', show (n - (t + 1)).succ = n - t by omega]
    have key : ∀ m j g1, m + j = 6 → yAg dGs g g1 → yPx g1 t b → yAc g1 n st (P ++ yFp n st R rf rs rd t b j) Q qa qb → ∃ g', xlim (S_X1_layFrom_36 (R_X1_layFrom (d + 1 + e)) (nI t)) (nI (j + 1), g1) = some g' ∧ yAg dGs g g' ∧ yPx g' t b ∧ yAc g' n st (P ++ yFp n st R rf rs rd t b 6) Q qa qb := by
      intro m
      induction m with
      | zero =>
        intro j g1 hj y p1 a1
        have : j = 6 := by omega
        subst this
        exact ⟨g1, xlim_end (if_pos (show (6 : Int32) < nI (6 + 1) by decide)), y, p1, a1⟩
      | succ m ihm =>
        intro j g1 hj y p1 a1
        have hj6 : j < 6 := by omega
        have G1 := hG.ag y
        obtain ⟨g2, l1, l2, l3⟩ := r_layT (x := j) (show t < 5 by omega) hj6 p1
        have y2 : yAg dGs g1 g2 := l2.up dLy_G
        have G2 := G1.ag y2
        have a2 : yAc g2 n st (P ++ yFp n st R rf rs rd t b j) Q qa qb := a1.ag l2 (by unfold dLy; omega) (fun o k h => by unfold dLy; omega)
        have hld := r_holds (show t < 5 by omega) hn hs hr G2 l3
        have c0 : ¬ (6 : Int32) < nI (j + 1) := by rw [show (6 : Int32) = nI 6 from rfl, nI_ltI (by decide) (by omega)]; omega
        have app : P ++ yFp n st R rf rs rd t b (j + 1) = (P ++ yFp n st R rf rs rd t b j) ++ yFb n st R rf rs rd (t + 1) (6 * b + j) := (List.append_assoc ..).symm
        by_cases c : yHt st R rf rs rd (yWt (t + 1) (6 * b + j)) (t + 1) t = true
        · have okk : yOk st R rf rs rd (t + 1) (6 * b + j) := (yOk_kid hr hj6).mpr ⟨ok, c⟩
          have fl := yFp_len (n := n) (st := st) (R := R) (rf := rf) (rs := rs) (rd := rd) (t := t) (b := b) j
          have mul : j * 6 ^ (n - (t + 1)) + 6 ^ (n - (t + 1)) ≤ 6 * 6 ^ (n - (t + 1)) := by
            have := Nat.mul_le_mul_right (6 ^ (n - (t + 1))) (show j + 1 ≤ 6 by omega)
            rw [Nat.succ_mul] at this; exact this
          obtain ⟨g3, r1, r2, r3, r4⟩ := ih (t + 1) (6 * b + j) g2 (P ++ yFp n st R rf rs rd t b j) (by omega) G2 l3 okk (by rw [List.length_append]; omega) a2 e
          have stp : S_X1_layFrom_36 (R_X1_layFrom (d + 1 + e)) (nI t) (nI (j + 1), g1) = some (.inl (nI (j + 1 + 1), g3)) := by
            unfold S_X1_layFrom_36
            simp only [if_neg c0, l1, xb1_some, hld, if_pos c, if_neg (show ¬ (1 : Int32) = 0 by decide), nI_1, r1]
          obtain ⟨g', s1, s2⟩ := ihm (j + 1) g3 (by omega) (y.tr (y2.tr r2)) (yPx_down hj6 r3) (by rw [app]; exact r4)
          exact ⟨g', (xlim_go stp).trans s1, s2⟩
        · have none := yFb_none (st := st) hn hr htn c
          have stp : S_X1_layFrom_36 (R_X1_layFrom (d + 1 + e)) (nI t) (nI (j + 1), g1) = some (.inl (nI (j + 1 + 1), g2)) := by
            unfold S_X1_layFrom_36
            simp only [if_neg c0, l1, xb1_some, hld, if_neg c, if_true, nI_1]
          obtain ⟨g', s1, s2⟩ := ihm (j + 1) g2 (by omega) (y.tr y2) (yPx_down hj6 l3) (by rw [app, none, List.append_nil]; exact a2)
          exact ⟨g', (xlim_go stp).trans s1, s2⟩
    obtain ⟨g', r1, r2, r3, r4⟩ := key 6 0 g (by omega) (yAg.refl _ _) hp (by
      show yAc g n st (P ++ []) Q qa qb
      rw [List.append_nil]; exact ha)
    refine ⟨g', ?_, r2, r3, by rw [← yFp_6 htn]; exact r4⟩
    rw [show d + 1 + 1 + e = (d + 1 + e) + 1 by omega, r_one]
    unfold E_X1_layFrom
    have h5 : nI t < (5 : Int32) := nI_lt (show t < 5 by omega) (by decide)
    have hne : ¬ nI t = nI n - 1 := by
      obtain ⟨k, rfl⟩ : ∃ k, n = k + 1 := ⟨n - 1, by omega⟩
      rw [nI_pred]
      intro z
      have := (nI_eq (by omega) (by omega)).mp z
      omega
    rw [if_neg (nI_pos (by omega)), hG.1, if_neg (nI_ge htn (by omega)), if_pos h5, if_neg hne, show xlim (S_X1_layFrom_36 (R_X1_layFrom (d + 1 + e)) (nI t)) (1, g) = some g' from r1, xb1_some]
/-- all rows that fit -/
def yFa (n st R : Nat) (rf rs rd : Nat → Nat) : List Nat := (List.range (6 ^ n)).filter (yFr n st R rf rs rd)
theorem r_guess (hn : n ≤ 5) (hs : st ≤ 99) (hr : yRl n R rf rs rd) (hQ : yQl n Q qa qb) (hG : yGx g n st R rf rs rd Q qa qb) (h0 : xI g 102 0 = 0) : ∃ g', E_X1_guess g = some g' ∧ yAg dGs g g' ∧ xI g' 102 0 = 0 ∧ yAc g' n st (yFa n st R rf rs rd) Q qa qb := by
  generalize hA : xWI g 98 11 0 = A
  have yA : yAg dGs g A := by rw [← hA]; exact (yAg.refl _ g).wi (by unfold dGs; omega)
  have rowY : ∀ (X : xSt) (o : Nat) (f : Nat → Int32), o = 109 ∨ o = 110 ∨ o = 105 ∨ o = 106 → yAg dGs X (xRowI X o f) := fun X o f h => ⟨rfl, fun a k hk => congrFun (xI_RowI_ne X f (fun e => hk (by unfold dGs; omega))) k⟩
  generalize hB : xRowI A 109 (fun j => if j < 90 then 0 else xI A 109 j) = B
  have yB : yAg dGs A B := by rw [← hB]; exact rowY A 109 _ (by omega)
  generalize hC : xRowI B 110 (fun j => if j < 90 then 0 else xI B 110 j) = C
  have yC : yAg dGs B C := by rw [← hC]; exact rowY B 110 _ (by omega)
  generalize hD : xRowI C 105 (fun j => if j < 5 then 7 else xI C 105 j) = D
  have yD : yAg dGs C D := by rw [← hD]; exact rowY C 105 _ (by omega)
  generalize hE : xRowI D 106 (fun j => if j < 5 then 0 else xI D 106 j) = E
  have yE : yAg dGs D E := by rw [← hE]; exact rowY D 106 _ (by omega)
  have yAll : yAg dGs g E := yA.tr (yB.tr (yC.tr (yD.tr yE)))
  have GE := hG.ag yAll
  have e11 : xI E 98 11 = 0 := by rw [← hE, xI_RowI, if_neg (by decide), ← hD, xI_RowI, if_neg (by decide), ← hC, xI_RowI, if_neg (by decide), ← hB, xI_RowI, if_neg (by decide), ← hA, yI_wi, if_pos ⟨rfl, rfl⟩]
  have e102 : xI E 102 0 = 0 := by rw [← hE, xI_RowI, if_neg (by decide), ← hD, xI_RowI, if_neg (by decide), ← hC, xI_RowI, if_neg (by decide), ← hB, xI_RowI, if_neg (by decide), ← hA, yI_wi, if_neg (by decide)]; exact h0
  have e105 : ∀ j, j < 5 → xI E 105 j = 7 := fun j hj => by rw [← hE, xI_RowI, if_neg (by decide), ← hD, xI_RowI, if_pos rfl, if_pos hj]
  have e106 : ∀ j, j < 5 → xI E 106 j = 0 := fun j hj => by rw [← hE, xI_RowI, if_pos rfl, if_pos hj]
  have e109 : ∀ j, j < 90 → xI E 109 j = 0 := fun j hj => by rw [← hE, xI_RowI, if_neg (by decide), ← hD, xI_RowI, if_neg (by decide), ← hC, xI_RowI, if_neg (by decide), ← hB, xI_RowI, if_pos rfl, if_pos hj]
  have e110 : ∀ j, j < 90 → xI E 110 j = 0 := fun j hj => by rw [← hE, xI_RowI, if_neg (by decide), ← hD, xI_RowI, if_neg (by decide), ← hC, xI_RowI, if_pos rfl, if_pos hj]
  have hun : E_X1_guess g = if (xI E 98 0) = 0 then (xb1 (R_X1_layFrom 6 0 (xWI E 98 11 1)) fun g52_6 => some g52_6) else xb1 (R_X1_layFrom 6 0 E) fun g52_7 => some g52_7 := by
    unfold E_X1_guess E_X7_fill
    rw [hA, xb1_some, hB, xb1_some, hC, xb1_some, hD, xb1_some, hE]
  have hQ90 := hQ.1
  have acE : yAc E n st [] Q qa qb := ⟨e11, fun j hj => ⟨fun z => absurd rfl z, e105 j (by omega), e106 j (by omega)⟩, fun i hi => ⟨e109 i (by omega), e110 i (by omega)⟩⟩
  by_cases c : n = 0
  · subst c
    have R0 : R = 0 := by
      refine Classical.byContradiction fun z => ?_
      have := (hr.2 0 (by omega)).1
      omega
    subst R0
    refine ⟨xWI E 98 11 1, ?_, yAll.wi (by unfold dGs; omega), by rw [yI_wi, if_neg (by decide)]; exact e102, ⟨by rw [yI_wi, if_pos ⟨rfl, rfl⟩]; rfl, fun j hj => by omega, fun i hi => ?_⟩⟩
    · rw [hun, GE.1, if_pos (show nI 0 = (0 : Int32) from rfl), r_one 5]
      unfold E_X1_layFrom
      rw [if_neg (by decide), show xI (xWI E 98 11 1) 98 0 = nI 0 by rw [yI_wi, if_neg (by decide)]; exact GE.1, if_pos (by decide), xb1_some]
    · have q := hQ.2 i hi
      have z1 : yCo 0 st (qa i) (qb i) 1 (yFa 0 st 0 rf rs rd) = 0 := by
        show (List.filter _ [0]).length = 0
        have : (ySo 0 st 0 (qa i) (qb i) == 1) = false := by unfold ySo yBl yHw; simp
        rw [List.filter_cons, this]; rfl
      have z2 : yCo 0 st (qa i) (qb i) 2 (yFa 0 st 0 rf rs rd) = 0 := by
        show (List.filter _ [0]).length = 0
        have : (ySo 0 st 0 (qa i) (qb i) == 2) = false := by unfold ySo yBl yHw; simp
        rw [List.filter_cons, this]; rfl
      rw [yI_wi, if_neg (by omega), yI_wi, if_neg (by omega), z1, z2]
      exact ⟨e109 i (by omega), e110 i (by omega)⟩
  · have pE : yPx E 0 0 := ⟨fun j hj => by omega, fun a ha => by
      have : a = 0 := by rw [Nat.pow_zero] at ha; omega
      subst this; exact e102⟩
    have ok0 : yOk st R rf rs rd 0 0 := fun i hi h => by
      have := (hr.2 i hi).1.1
      have := Nat.lt_of_lt_of_le this (Nat.left_le_or (m := rs i))
      rw [Nat.pow_zero] at h; omega
    have p5 : 6 ^ (n - 0) < 9000 := by
      have : 6 ^ (n - 0) ≤ 6 ^ 5 := Nat.pow_le_pow_right (by decide) (by omega)
      have : 6 ^ 5 < 9000 := by decide
      omega
    obtain ⟨g', r1, r2, r3, r4⟩ := r_from hn hs hr hQ (n - 1) 0 0 E [] (by omega) GE pE ok0 (by rw [List.length_nil]; omega) acE (6 - n)
    refine ⟨g', ?_, yAll.tr r2, r3.2 0 (by decide), ?_⟩
    · rw [hun, GE.1, if_neg (show ¬ nI n = (0 : Int32) from fun z => c ((nI_eq (by omega) (by decide)).mp (show _ = nI 0 from z)))]
      rw [show n - 1 + 1 + (6 - n) = 6 by omega] at r1
      rw [show R_X1_layFrom 6 0 E = some g' from r1, xb1_some]
    · rw [List.nil_append] at r4
      have : yFb n st R rf rs rd 0 0 = yFa n st R rf rs rd := by
        unfold yFb yFa
        rw [Nat.zero_mul, List.range_eq_range', show n - 0 = n by omega]
      rw [← this]; exact r4
end FM
