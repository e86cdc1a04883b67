/-! STREET: the orders laid, on both sides -/
section OY
variable {g g' g1 : xSt} {t n w m i k o c q β : Nat} {D : Nat → Nat} {v : Nat}
theorem yPk_dg (f : Nat → Nat) : ∀ m, (∀ t, t < m → f t < 8) → ySum (fun t => f t * 8 ^ t) m < 8 ^ m ∧ ∀ t, t < m → yDg (ySum (fun t => f t * 8 ^ t) m) t = f t := by
  intro m
  induction m with
  | zero => intro _; exact ⟨Nat.one_pos, fun t ht => by omega⟩
  | succ m ih =>
    intro h
    obtain ⟨h1, h2⟩ := ih fun t ht => h t (by omega)
    have f8 := h m (by omega)
    show ySum (fun t => f t * 8 ^ t) m + f m * 8 ^ m < 8 ^ (m + 1) ∧ ∀ t, t < m + 1 → yDg (ySum (fun t => f t * 8 ^ t) m + f m * 8 ^ m) t = f t
    generalize ySum (fun t => f t * 8 ^ t) m = S at h1 h2
    refine ⟨?_, fun t ht => ?_⟩
    · have : f m * 8 ^ m ≤ 7 * 8 ^ m := Nat.mul_le_mul_right _ (by omega)
      rw [Nat.pow_succ]
      omega
    · unfold yDg
      by_cases e : t = m
      · rw [e, Nat.add_mul_div_right _ _ (Nat.pow_pos (by decide)), Nat.div_eq_of_lt h1, Nat.zero_add, Nat.mod_eq_of_lt f8]
      · have e2 : f m * 8 ^ m = 8 ^ t * (8 * (f m * 8 ^ (m - t - 1))) := by
          rw [show m = t + 1 + (m - t - 1) by omega, Nat.pow_add, Nat.pow_succ, show t + 1 + (m - t - 1) - t - 1 = m - t - 1 by omega, Nat.mul_left_comm, Nat.mul_assoc]
        rw [e2, Nat.add_mul_div_left _ _ (Nat.pow_pos (by decide)), Nat.add_mul_mod_self_left]
        exact h2 t (by omega)
/-- the place told by tuple i -/
def zDt2 (c n i t : Nat) : Nat := i / c ^ (n - 1 - t) % c
theorem yPk_at (hc : c ≤ 5) (h0 : 0 < c ∨ n = 0) : ∀ t, t < n → yDg (yPk c n i) t = zDt2 c n i t := fun t ht => by
  have c0 : 0 < c := h0.resolve_right (by omega)
  exact (yPk_dg (fun t => i / c ^ (n - 1 - t) % c) n fun t _ => Nat.lt_of_lt_of_le (Nat.mod_lt _ c0) (by omega)).2 t ht
theorem zDt2_lt (hc : c ≤ 5) (h0 : 0 < c ∨ n = 0) (ht : t < n) : zDt2 c n i t < 5 := Nat.lt_of_lt_of_le (Nat.mod_lt _ (h0.resolve_right (by omega))) hc
/-- the orders among the first i tuples -/
def zOL (c n w i : Nat) : List Nat := ((List.range i).map (yPk c n)).filter (yIsO n w)
theorem zOL_succ : zOL c n w (i + 1) = zOL c n w i ++ (if yIsO n w (yPk c n i) = true then [yPk c n i] else []) := by
  unfold zOL
  rw [List.range_succ, List.map_append, List.filter_append]
  by_cases h : yIsO n w (yPk c n i) = true
  · rw [if_pos h]; simp [h]
  · rw [if_neg h]; simp [h]
theorem zOL_mono : ∀ d, (zOL c n w i).length ≤ (zOL c n w (i + d)).length := by
  intro d
  induction d with
  | zero => exact Nat.le_refl _
  | succ d ih =>
    rw [← Nat.add_assoc, zOL_succ, List.length_append]
    omega
theorem zGd1 {l : List Nat} {x j : Nat} (h : j < l.length) : (l ++ [x]).getD j 0 = l.getD j 0 := by
  rw [List.getD_eq_getElem?_getD, List.getD_eq_getElem?_getD, List.getElem?_append_left h]
theorem zGd2 {l : List Nat} {x : Nat} : (l ++ [x]).getD l.length 0 = x := by
  rw [List.getD_eq_getElem?_getD, List.getElem?_append_right (Nat.le_refl _), Nat.sub_self]
  rfl
theorem ySum_z0 (f : Nat → Nat) : ∀ m, ySum f m = 0 ↔ ∀ o, o < m → f o = 0 := by
  intro m
  induction m with
  | zero => exact ⟨fun _ o ho => by omega, fun _ => rfl⟩
  | succ m ih =>
    show ySum f m + f m = 0 ↔ _
    refine ⟨fun h o ho => ?_, fun h => ?_⟩
    · by_cases e : o = m
      · rw [e]; omega
      · exact ih.mp (by omega) o (by omega)
    · have := ih.mpr fun o ho => h o (by omega)
      have := h m (by omega)
      omega
theorem ySum_le1 (f : Nat → Nat) (t : Nat) (h1 : f t = 1) : ∀ m, t < m → (ySum f m ≤ 1 ↔ ∀ o, o < m → o = t ∨ f o = 0) := by
  intro m
  induction m with
  | zero => intro h; omega
  | succ m ih =>
    intro h
    show ySum f m + f m ≤ 1 ↔ _
    by_cases e : m = t
    · rw [e, h1]
      refine ⟨fun z o ho => ?_, fun z => ?_⟩
      · by_cases e2 : o = t
        · exact Or.inl e2
        · exact Or.inr ((ySum_z0 f t).mp (by omega) o (by omega))
      · have := (ySum_z0 f t).mpr fun o ho => (z o (by omega)).resolve_left (by omega)
        omega
    · have ih := ih (by omega)
      have p1 : 1 ≤ ySum f m := by
        rcases Nat.eq_zero_or_pos (ySum f m) with z | z
        · have := (ySum_z0 f m).mp z t (by omega); omega
        · exact z
      refine ⟨fun z o ho => ?_, fun z => ?_⟩
      · by_cases e2 : o = m
        · rw [e2]; right; omega
        · exact ih.mp (by omega) o (by omega)
      · have a := ih.mpr fun o ho => z o (by omega)
        have b := (z m (by omega)).resolve_left e
        omega
/-- what an order must be like at thing t -/
def zOk (n w : Nat) (D : Nat → Nat) (t : Nat) : Prop := ySum (fun o => if D o < D t then 1 else 0) n = D t ∧ (w = 1 ∨ ∀ o, o < n → o = t ∨ ¬ D o = D t)
theorem yIsO_iff : yIsO n w v = true ↔ ∀ t, t < n → zOk n w (yDg v) t := by
  unfold yIsO zOk
  simp only [List.all_eq_true, List.mem_range, Bool.and_eq_true, beq_iff_eq, Bool.or_eq_true, Bool.not_eq_true', beq_eq_false_iff_ne, ne_eq]
theorem nI_if {p q : Prop} [Decidable p] [Decidable q] (a : Nat) (h : p ↔ q) : nI a + (if p then (1 : Int32) else 0) = nI (a + if q then 1 else 0) := by
  by_cases d : q
  · rw [if_pos d, if_pos (h.mpr d), nI_1]
  · rw [if_neg d, if_neg (fun z => d (h.mp z)), Int32.add_zero]; rfl
theorem nI_ifn {p q : Prop} [Decidable p] [Decidable q] (a : Nat) (h : p ↔ ¬ q) : nI a + (if p then (0 : Int32) else 1) = nI (a + if q then 1 else 0) := by
  by_cases d : q
  · rw [if_pos d, if_neg (fun z => h.mp z d), nI_1]
  · rw [if_neg d, if_pos (h.mpr d), Int32.add_zero]; rfl
theorem r_dif0 {x y : Nat} (hx : x < 10000) (hy : y < 10000) : nI x - nI y = 0 ↔ x = y := by
  obtain ⟨h1, h2⟩ := r_dif2 hx hy
  refine ⟨fun z => ?_, fun z => ?_⟩
  · have a := h1.mp (by rw [z]; decide)
    have b := h2.mp (by rw [z]; decide)
    omega
  · rw [z]; exact Int32.sub_self _
theorem c_isOrder (h0 : xI g 69 0 = nI n) (hn : n ≤ 5) (hw : w ≤ 1) (hd : ∀ t, t < n → xI g 75 t = nI (yDg v t) ∧ yDg v t < 10000) : E_X5_isOrder (nI w) g = some (if yIsO n w v = true then 1 else 0) := by
  have at75 : ∀ t, t < n → xat (xI g 75) 5 (nI t) = nI (yDg v t) := fun t ht => by rw [xat_nI (by omega) (by decide), (hd t ht).1]
  have inner : ∀ t, t < n → xlim (S_X5_isOrder_18 (nI w) (nI t) g) (0, 0, 0) = some (nI (ySum (fun o => if yDg v o < yDg v t then 1 else 0) n), nI (ySum (fun o => if yDg v o = yDg v t then 1 else 0) n)) := fun t ht => by
    have e := xlim_of (step := S_X5_isOrder_18 (nI w) (nI t) g) (fun i => (nI (ySum (fun o => if yDg v o < yDg v t then 1 else 0) i), nI (ySum (fun o => if yDg v o = yDg v t then 1 else 0) i), nI i)) n (e := (nI (ySum (fun o => if yDg v o < yDg v t then 1 else 0) n), nI (ySum (fun o => if yDg v o = yDg v t then 1 else 0) n))) (fun i hi => ?_) ?_
    · exact e
    · unfold S_X5_isOrder_18 K_X5_isOrder_58
      have d2 := r_dif2 (hd t ht).2 (hd i hi).2
      have d0 := r_dif0 (hd t ht).2 (hd i hi).2
      show (if xI g 69 0 ≤ nI i then _ else some (Sum.inl (nI (ySum (fun o => if yDg v o < yDg v t then 1 else 0) i) + (if (xat (xI g 75) 5 (nI t)) - (xat (xI g 75) 5 (nI i)) ≤ 0 then (0 : Int32) else 1), nI (ySum (fun o => if yDg v o = yDg v t then 1 else 0) i) + (if (xat (xI g 75) 5 (nI t)) - (xat (xI g 75) 5 (nI i)) = 0 then (1 : Int32) else 0), nI i + 1))) = _
      rw [h0, if_neg (nI_ge hi (by omega)), at75 t ht, at75 i hi, nI_ifn (q := yDg v i < yDg v t) _ (d2.2.trans Nat.not_lt.symm), nI_if (q := yDg v i = yDg v t) _ (d0.trans eq_comm), nI_1]
      rfl
    · unfold S_X5_isOrder_18
      show (if xI g 69 0 ≤ nI n then _ else _) = _
      rw [h0, if_pos (nI_le (Nat.le_refl _) (by omega))]
  have lt6 : ∀ f : Nat → Nat, (∀ o, f o ≤ 1) → ∀ m, ySum f m ≤ m := fun f hf m => by
    induction m with
    | zero => exact Nat.le_refl _
    | succ m ih =>
      have := hf m
      show ySum f m + f m ≤ m + 1
      omega
  have one : ∀ t, t < n → (nI (ySum (fun o => if yDg v o = yDg v t then 1 else 0) n) ≤ 1 ↔ ∀ o, o < n → o = t ∨ ¬ yDg v o = yDg v t) := fun t ht => by
    have b := lt6 (fun o => if yDg v o = yDg v t then 1 else 0) (fun o => by show (if yDg v o = yDg v t then 1 else 0) ≤ 1; split <;> omega) n
    rw [show (1 : Int32) = nI 1 from rfl, nI_leI (by omega) (by omega), ySum_le1 (fun o => if yDg v o = yDg v t then 1 else 0) t (if_pos rfl) n ht]
    refine ⟨fun z o ho => (z o ho).imp id fun z y => ?_, fun z o ho => (z o ho).imp id fun z => if_neg z⟩
    have z : (if yDg v o = yDg v t then 1 else 0) = 0 := z
    rw [if_pos y] at z
    omega
  have eqn : ∀ t, t < n → (nI (ySum (fun o => if yDg v o < yDg v t then 1 else 0) n) = nI (yDg v t) ↔ ySum (fun o => if yDg v o < yDg v t then 1 else 0) n = yDg v t) := fun t ht => by
    have b := lt6 (fun o => if yDg v o < yDg v t then 1 else 0) (fun o => by show (if yDg v o < yDg v t then 1 else 0) ≤ 1; split <;> omega) n
    have := (hd t ht).2
    exact nI_eq (by omega) (by omega)
  have all := xlim_all (step := S_X5_isOrder_2 (nI w) g) (p := fun t => zOk n w (yDg v) t) (v := (0 : Int32)) (N := n) (fun t ht z => ?_) (fun t ht z => ?_) ?_ n 0 (by omega)
  · unfold E_X5_isOrder
    by_cases d : yIsO n w v = true
    · rw [if_pos d, show (0 : Int32) = nI 0 from rfl, all.1 fun t _ ht => yIsO_iff.mp d t ht, xbs_inr]
    · rw [if_neg d]
      have := all.2 fun z => d (yIsO_iff.mpr fun t ht => z t (Nat.zero_le _) ht)
      rw [show xlim (S_X5_isOrder_2 (nI w) g) 0 = some (.inl 0) from this, xbs_inl]
  · unfold S_X5_isOrder_2
    rw [h0, if_neg (nI_ge ht (by omega)), inner t ht, xb1_some]
    show (if nI (ySum (fun o => if yDg v o < yDg v t then 1 else 0) n) = xat (xI g 75) 5 (nI t) then (if nI (ySum (fun o => if yDg v o = yDg v t then 1 else 0) n) ≤ 1 then some (Sum.inl (nI t + 1)) else if nI w = 0 then _ else some (Sum.inl (nI t + 1))) else _) = _
    rw [at75 t ht, if_pos ((eqn t ht).mpr z.1), nI_1]
    by_cases d : nI (ySum (fun o => if yDg v o = yDg v t then 1 else 0) n) ≤ 1
    · rw [if_pos d]
    · rw [if_neg d]
      have w1 : w = 1 := z.2.resolve_right fun y => d ((one t ht).mpr y)
      rw [w1, if_neg (by decide)]
  · unfold S_X5_isOrder_2
    rw [h0, if_neg (nI_ge ht (by omega)), inner t ht, xb1_some]
    show (if nI (ySum (fun o => if yDg v o < yDg v t then 1 else 0) n) = xat (xI g 75) 5 (nI t) then (if nI (ySum (fun o => if yDg v o = yDg v t then 1 else 0) n) ≤ 1 then some (Sum.inl (nI t + 1)) else if nI w = 0 then some (Sum.inr (Sum.inl 0)) else _) else some (Sum.inr (Sum.inl 0))) = _
    rw [at75 t ht]
    by_cases d : nI (ySum (fun o => if yDg v o < yDg v t then 1 else 0) n) = nI (yDg v t)
    · have z2 : ¬ (w = 1 ∨ ∀ o, o < n → o = t ∨ ¬ yDg v o = yDg v t) := fun y => z ⟨(eqn t ht).mp d, y⟩
      have w0 : w = 0 := by
        have : ¬ w = 1 := fun y => z2 (Or.inl y)
        omega
      rw [if_pos d, if_neg (fun y => z2 (Or.inr ((one t ht).mp y))), w0, if_pos (show nI 0 = 0 from rfl)]
    · rw [if_neg d]
  · unfold S_X5_isOrder_2
    rw [h0, if_pos (nI_le (Nat.le_refl _) (by omega))]
theorem r_isOrder (hβ : β ≤ 1) (h30 : xI g 113 30 = nI β) (h116 : xI g 116 β = nI n) (h121 : xI g 121 β = nI w) (hn : n ≤ 5) (hw : w ≤ 1) (hd : ∀ t, t < n → xI g 135 t = nI (yDg v t) ∧ yDg v t < 10000) : E_X12_isOrder g = some (if yIsO n w v = true then 1 else 0) := by
  have tm : E_X12_thingMany g = some (nI n) := by
    unfold E_X12_thingMany
    rw [h30, xck_nI (by omega) (by decide), nI_clamp (by omega), h116]
  have step : ∀ t, t < n → ∀ i, i < n → S_X12_isOrder_14 (nI t) g (nI (ySum (fun o => if yDg v o < yDg v t then 1 else 0) i), nI i) = if i = t ∨ ¬ yDg v i = yDg v t ∨ w = 1 then some (.inl (nI (ySum (fun o => if yDg v o < yDg v t then 1 else 0) (i + 1)), nI (i + 1))) else some (.inr (.inl 0)) := fun t ht i hi => by
    unfold S_X12_isOrder_14
    rw [tm, xb1_some]
    show (if nI n ≤ nI i then _ else xck 5 (nI i) (xck 5 (nI t) (K_X12_isOrder_43 (nI t) (nI i) (nI (ySum (fun o => if yDg v o < yDg v t then 1 else 0) i)) (if xI g 135 (nI t).toNatClampNeg ≤ xI g 135 (nI i).toNatClampNeg then (0 : Int32) else 1) g))) = _
    rw [if_neg (nI_ge hi (by omega)), xck_nI (by omega) (by decide), xck_nI (by omega) (by decide)]
    unfold K_X12_isOrder_43
    rw [nI_clamp (show t < 2 ^ 31 by omega), nI_clamp (show i < 2 ^ 31 by omega), (hd t ht).1, (hd i hi).1, xck_nI (by omega) (by decide), xck_nI (by omega) (by decide), h30, xck_nI (by omega) (by decide), nI_clamp (by omega), h121]
    have ad := nI_ifn (p := nI (yDg v t) ≤ nI (yDg v i)) (q := yDg v i < yDg v t) (ySum (fun o => if yDg v o < yDg v t then 1 else 0) i) ((nI_leI (by have := (hd t ht).2; omega) (by have := (hd i hi).2; omega)).trans Nat.not_lt.symm)
    rw [ad, nI_1]
    have q1 : nI i = nI t ↔ i = t := nI_eq (by omega) (by omega)
    have q2 : nI (yDg v i) = nI (yDg v t) ↔ yDg v i = yDg v t := nI_eq (by have := (hd i hi).2; omega) (by have := (hd t ht).2; omega)
    by_cases d1 : i = t
    · rw [if_pos (q1.mpr d1), if_pos (Or.inl d1)]; rfl
    · rw [if_neg (fun z => d1 (q1.mp z))]
      by_cases d2 : yDg v i = yDg v t
      · rw [if_pos (q2.mpr d2)]
        by_cases d3 : w = 1
        · rw [if_pos (Or.inr (Or.inr d3)), d3, if_neg (by decide)]; rfl
        · have w0 : w = 0 := by omega
          rw [if_neg (show ¬ (i = t ∨ ¬ yDg v i = yDg v t ∨ w = 1) from fun z => z.elim d1 fun z => z.elim (fun y => y d2) d3), if_pos (show nI w = 0 by rw [w0]; rfl)]
      · rw [if_neg (fun z => d2 (q2.mp z)), if_pos (Or.inr (Or.inl d2))]; rfl
  have inner : ∀ t, t < n → ∀ m i, m + i = n → ((∀ o, i ≤ o → o < n → o = t ∨ ¬ yDg v o = yDg v t ∨ w = 1) → xlim (S_X12_isOrder_14 (nI t) g) (nI (ySum (fun o => if yDg v o < yDg v t then 1 else 0) i), nI i) = some (.inr (nI (ySum (fun o => if yDg v o < yDg v t then 1 else 0) n)))) ∧ ((¬ ∀ o, i ≤ o → o < n → o = t ∨ ¬ yDg v o = yDg v t ∨ w = 1) → xlim (S_X12_isOrder_14 (nI t) g) (nI (ySum (fun o => if yDg v o < yDg v t then 1 else 0) i), nI i) = some (.inl 0)) := by
    intro t ht m
    induction m with
    | zero =>
      intro i hi
      have e : i = n := by omega
      subst e
      refine ⟨fun _ => xlim_end ?_, fun z => absurd (fun o h1 h2 => by omega) z⟩
      unfold S_X12_isOrder_14
      rw [tm, xb1_some]
      exact if_pos (nI_le (Nat.le_refl _) (by omega))
    | succ m ih =>
      intro i hi
      have s := step t ht i (by omega)
      obtain ⟨i1, i2⟩ := ih (i + 1) (by omega)
      by_cases d : i = t ∨ ¬ yDg v i = yDg v t ∨ w = 1
      · rw [if_pos d] at s
        refine ⟨fun z => (xlim_go s).trans (i1 fun o h1 h2 => z o (by omega) h2), fun z => (xlim_go s).trans (i2 fun y => z fun o h1 h2 => ?_)⟩
        by_cases e : o = i
        · rw [e]; exact d
        · exact y o (by omega) h2
      · rw [if_neg d] at s
        exact ⟨fun z => absurd (z i (Nat.le_refl _) (by omega)) d, fun _ => xlim_end s⟩
  have lt6 : ∀ f : Nat → Nat, (∀ o, f o ≤ 1) → ∀ m, ySum f m ≤ m := fun f hf m => by
    induction m with
    | zero => exact Nat.le_refl _
    | succ m ih =>
      have := hf m
      show ySum f m + f m ≤ m + 1
      omega
  have eqn : ∀ t, t < n → (nI (ySum (fun o => if yDg v o < yDg v t then 1 else 0) n) = nI (yDg v t) ↔ ySum (fun o => if yDg v o < yDg v t then 1 else 0) n = yDg v t) := fun t ht => by
    have b := lt6 (fun o => if yDg v o < yDg v t then 1 else 0) (fun o => by show (if yDg v o < yDg v t then 1 else 0) ≤ 1; split <;> omega) n
    have := (hd t ht).2
    exact nI_eq (by omega) (by omega)
  have qq : ∀ t, ((∀ o, 0 ≤ o → o < n → o = t ∨ ¬ yDg v o = yDg v t ∨ w = 1) ↔ (w = 1 ∨ ∀ o, o < n → o = t ∨ ¬ yDg v o = yDg v t)) := fun t => by
    refine ⟨fun z => ?_, fun z o _ ho => ?_⟩
    · by_cases d : w = 1
      · exact Or.inl d
      · exact Or.inr fun o ho => (z o (Nat.zero_le _) ho).imp id fun y => y.resolve_right d
    · rcases z with z | z
      · exact Or.inr (Or.inr z)
      · exact (z o ho).imp id Or.inl
  have all := xlim_all (step := S_X12_isOrder_2 g) (p := fun t => zOk n w (yDg v) t) (v := (0 : Int32)) (N := n) (fun t ht z => ?_) (fun t ht z => ?_) ?_ n 0 (by omega)
  · unfold E_X12_isOrder
    by_cases d : yIsO n w v = true
    · rw [if_pos d, show (0 : Int32) = nI 0 from rfl, all.1 fun t _ ht => yIsO_iff.mp d t ht, xbs_inr]
    · rw [if_neg d]
      have := all.2 fun z => d (yIsO_iff.mpr fun t ht => z t (Nat.zero_le _) ht)
      rw [show xlim (S_X12_isOrder_2 g) 0 = some (.inl 0) from this, xbs_inl]
  · unfold S_X12_isOrder_2
    rw [tm, xb1_some, if_neg (nI_ge ht (by omega)), show ((0 : Int32), (0 : Int32)) = (nI (ySum (fun o => if yDg v o < yDg v t then 1 else 0) 0), nI 0) from rfl, (inner t ht n 0 (by omega)).1 ((qq t).mpr z.2), xbs_inr, xck_nI (by omega) (by decide), nI_clamp (by omega), (hd t ht).1, if_pos ((eqn t ht).mpr z.1), nI_1]
  · unfold S_X12_isOrder_2
    rw [tm, xb1_some, if_neg (nI_ge ht (by omega)), show ((0 : Int32), (0 : Int32)) = (nI (ySum (fun o => if yDg v o < yDg v t then 1 else 0) 0), nI 0) from rfl]
    by_cases d : w = 1 ∨ ∀ o, o < n → o = t ∨ ¬ yDg v o = yDg v t
    · rw [(inner t ht n 0 (by omega)).1 ((qq t).mpr d), xbs_inr, xck_nI (by omega) (by decide), nI_clamp (by omega), (hd t ht).1, if_neg (fun y => z ⟨(eqn t ht).mp y, d⟩)]
    · rw [(inner t ht n 0 (by omega)).2 (fun y => d ((qq t).mp y)), xbs_inl]
  · unfold S_X12_isOrder_2
    rw [tm, xb1_some, if_pos (nI_le (Nat.le_refl _) (by omega))]
end OY
