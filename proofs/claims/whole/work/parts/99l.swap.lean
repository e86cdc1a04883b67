/-! CALL 31, swapped: the rows laid on both sides -/
section SW
variable {g g' g0 g1 : xSt} {β n w c p s m N : Nat} {mk V ρ : Nat → Nat} {γ : Nat → Int32} {T B : yT} {L : List Nat} {D : Nat → Nat}
def zOks (m s : Nat) : Bool := decide (yPop s ≤ m) && (s &&& (2 * s) == 0)
def zFs (m N : Nat) : List Nat := (List.range N).filter (zOks m)
/-- where the thing at place p stands then -/
def zStd (s p : Nat) : Nat := if s.testBit p then p + 1 else if 0 < p ∧ s.testBit (p - 1) = true then p - 1 else p
def zDs (n : Nat) (T : yT) (s t : Nat) : Nat := zStd s (yPos n T t)
theorem zFs_get : ∀ N, s < N → zOks m s = true → (zFs m s).length < (zFs m N).length ∧ (zFs m N).getD (zFs m s).length 0 = s := by
  intro N
  induction N with
  | zero => intro h; omega
  | succ N ih =>
    intro hs ok
    have e : zFs m (N + 1) = zFs m N ++ (if zOks m N then [N] else []) := yFil_succ _ _
    by_cases d : s = N
    · subst d
      rw [e, if_pos ok, List.length_append, List.length_singleton, yGet_push _ _ _ (by rw [List.length_append, List.length_singleton]; omega), if_pos rfl]
      exact ⟨by omega, rfl⟩
    · obtain ⟨i1, i2⟩ := ih (by omega) ok
      rw [e]
      by_cases f : zOks m N = true
      · rw [if_pos f, List.length_append, List.length_singleton, yGet_push _ _ _ (by rw [List.length_append, List.length_singleton]; omega), if_neg (by omega)]
        exact ⟨by omega, i2⟩
      · rw [if_neg f, List.append_nil]
        exact ⟨i1, i2⟩
theorem zFs_mem {i : Nat} (h : i < (zFs m N).length) : (zFs m N).getD i 0 < N ∧ zOks m ((zFs m N).getD i 0) = true := by
  rw [yGet h]
  have := List.getElem_mem h
  unfold zFs at this
  rw [List.mem_filter, List.mem_range] at this
  exact this
theorem zFs_lt {i j : Nat} (hij : i < j) (hj : j < (zFs m N).length) : (zFs m N).getD i 0 < (zFs m N).getD j 0 := by
  have q : List.Pairwise (· < ·) (zFs m N) := (List.pairwise_lt_range (n := N)).filter _
  rw [yGet hj, yGet (Nat.lt_trans hij hj)]
  exact List.pairwise_iff_getElem.mp q i j (Nat.lt_trans hij hj) hj hij
theorem zFs_len : (zFs m N).length ≤ N := yFil_len _ _
/-! such a row is an order -/
theorem yCn_lts : ∀ n k, k ≤ n → yCn (fun x => decide (x < k)) n = k := by
  intro n
  induction n with
  | zero => intro k hk; have : k = 0 := by omega
            subst this; rfl
  | succ n ih =>
    intro k hk
    rw [yCn_succ]
    by_cases d : k ≤ n
    · rw [ih k d, if_neg (show ¬ decide (n < k) = true by rw [decide_eq_true_eq]; omega), Nat.add_zero]
    · have : k = n + 1 := by omega
      subst this
      rw [if_pos (decide_eq_true (Nat.lt_succ_self n)), yCn_all.mpr (fun i hi => decide_eq_true (by omega))]
theorem zOd_perm (h1 : ∀ t, t < n → D t < n) (h2 : ∀ t u, t < n → u < n → D t = D u → t = u) : zOd n w D := fun t ht => by
  refine ⟨?_, Or.inr fun o ho hne e => hne (h2 o t ho ht e)⟩
  have a := yCn_inj (c' := n) D n (fun o => decide (D o < D t)) (fun x => decide (x < D t)) (fun i hi pi => ⟨h1 i hi, pi⟩) (fun i j hi hj _ _ e => h2 i j hi hj e)
  have b := yCn_inj (c' := n) D n (fun o => !(decide (D o < D t))) (fun x => !(decide (x < D t))) (fun i hi pi => ⟨h1 i hi, pi⟩) (fun i j hi hj _ _ e => h2 i j hi hj e)
  have e1 : yCn (fun _ => true) n = yCn (fun o => decide (D o < D t)) n + yCn (fun o => !(decide (D o < D t))) n := yCn_add fun o _ => by
    by_cases y : D o < D t
    · simp [y]
    · simp [y]
  have e2 : yCn (fun _ => true) n = yCn (fun o => decide (o < D t)) n + yCn (fun o => !(decide (o < D t))) n := yCn_add fun o _ => by
    by_cases y : o < D t
    · simp [y]
    · simp [y]
  rw [yCn_lts n (D t) (by have := h1 t ht; omega)] at a e2
  omega
theorem zStd_1 : ∀ n, n < 6 → (List.range (2 ^ (n - 1))).all (fun s => !(s &&& (2 * s) == 0) || (List.range n).all fun p => decide (zStd s p < n) && (List.range n).all fun q => !(zStd s p == zStd s q) || p == q) = true := by decide +kernel
theorem zStd_2 : ∀ n, n < 6 → (List.range (2 ^ (n - 1))).all (fun s => (List.range (2 ^ (n - 1))).all fun u => !(s &&& (2 * s) == 0) || (!(u &&& (2 * u) == 0) || (!((List.range n).all fun p => zStd s p == zStd u p) || s == u))) = true := by decide +kernel
theorem zStd_in (hn : n ≤ 5) (hs : s < 2 ^ (n - 1)) (h0 : s &&& (2 * s) = 0) (hp : p < n) : zStd s p < n ∧ ∀ q, q < n → zStd s p = zStd s q → p = q := by
  have z := List.all_eq_true.mp (zStd_1 n (by omega)) s (List.mem_range.mpr hs)
  rw [h0, beq_self_eq_true, Bool.not_true, Bool.false_or] at z
  have z := List.all_eq_true.mp z p (List.mem_range.mpr hp)
  rw [Bool.and_eq_true, decide_eq_true_eq] at z
  refine ⟨z.1, fun q hq e => ?_⟩
  have y := List.all_eq_true.mp z.2 q (List.mem_range.mpr hq)
  rw [e, beq_self_eq_true, Bool.not_true, Bool.false_or] at y
  exact beq_iff_eq.mp y
theorem zStd_un {u : Nat} (hn : n ≤ 5) (hs : s < 2 ^ (n - 1)) (h0 : s &&& (2 * s) = 0) (hu : u < 2 ^ (n - 1)) (h1 : u &&& (2 * u) = 0) (e : ∀ p, p < n → zStd s p = zStd u p) : s = u := by
  have z := List.all_eq_true.mp (List.all_eq_true.mp (zStd_2 n (by omega)) s (List.mem_range.mpr hs)) u (List.mem_range.mpr hu)
  rw [h0, h1, beq_self_eq_true, Bool.not_true, Bool.false_or, Bool.false_or, List.all_eq_true.mpr (fun p hp => beq_iff_eq.mpr (e p (List.mem_range.mp hp))), Bool.not_true, Bool.false_or] at z
  exact beq_iff_eq.mp z
theorem zOks_0 (h : zOks m s = true) : yPop s ≤ m ∧ s &&& (2 * s) = 0 := by
  unfold zOks at h
  rw [Bool.and_eq_true, decide_eq_true_eq, beq_iff_eq] at h
  exact h
theorem zOd_ds (ht : twOK T) (hs : s < 2 ^ (T 0 0 - 1)) (h0 : s &&& (2 * s) = 0) : zOd (T 0 0) w (zDs (T 0 0) T s) := by
  have hn := ht.1
  refine zOd_perm (fun t h => (zStd_in hn hs h0 (yPos_i ht h).1).1) fun t u h1 h2 e => ?_
  have := (zStd_in hn hs h0 (yPos_i ht h1).1).2 _ (yPos_i ht h2).1 e
  rw [← (yPos_i ht h1).2, ← (yPos_i ht h2).2, this]
/-! an order's number -/
noncomputable def zOi (n w : Nat) (D : Nat → Nat) : Nat := @dite _ (∃ i, i < yN n w ∧ ∀ t, t < n → yDg (yOr n w i) t = D t) (Classical.propDecidable _) (fun h => Classical.choose h) (fun _ => 0)
theorem zOi_ok (hn : n ≤ 5) (h : zOd n w D) : zOi n w D < yN n w ∧ ∀ t, t < n → yDg (yOr n w (zOi n w D)) t = D t := by
  have e := zOd_mem hn h
  unfold zOi
  rw [dif_pos e]
  exact Classical.choose_spec e
theorem yOr_un {i j : Nat} (hn : n ≤ 5) (hw : w ≤ 1) (hi : i < yN n w) (hj : j < yN n w) (e : ∀ t, t < n → yDg (yOr n w i) t = yDg (yOr n w j) t) : i = j := by
  have ed := yDec_cg n e
  rcases Nat.lt_trichotomy i j with z | z | z
  · have := yOr_lt hn hw z hj; omega
  · exact z
  · have := yOr_lt hn hw z hi; omega
theorem r_orderOf (ht : I_town g β T) (o : I_orders g (T 0 0) w) (hD : zOd (T 0 0) w D) (hd : ∀ t, t < T 0 0 → xI g 135 t = nI (D t)) : E_X12_orderOf g = some (nI (zOi (T 0 0) w D)) := by
  have hn := o.1
  have hw := o.2.1
  have hN := (yO_len (T 0 0) (by omega) w (by omega)).2
  obtain ⟨k1, k2⟩ := zOi_ok (w := w) hn hD
  have inner : ∀ i, i < yN (T 0 0) w → ∀ m t (b : Bool), m + t = T 0 0 → xlim (S_X12_orderOf_14 (nI i) g) (if b then 1 else 0, nI t) = some (if b && decide (∀ u, u < T 0 0 → t ≤ u → yDg (yOr (T 0 0) w i) u = D u) then 1 else 0) := by
    intro i hi m
    induction m with
    | zero =>
      intro t b hm
      have : t = T 0 0 := by omega
      subst this
      rw [decide_eq_true (fun u h1 h2 => absurd h2 (by omega)), Bool.and_true]
      refine xlim_end ?_
      unfold S_X12_orderOf_14
      rw [r_thingMany ht, xb1_some, if_pos (nI_le (Nat.le_refl _) (by omega))]
    | succ m ih =>
      intro t b hm
      have htn : t < T 0 0 := by omega
      cases b with
      | false =>
        have st : S_X12_orderOf_14 (nI i) g ((if false = true then 1 else 0), nI t) = some (.inl ((if false = true then 1 else 0), nI (t + 1))) := by
          unfold S_X12_orderOf_14
          rw [r_thingMany ht, xb1_some, if_neg (nI_ge htn (by omega)), nI_1]
          rfl
        rw [xlim_go st, ih (t + 1) false (by omega)]
        rfl
      | true =>
        have q := (o.2.2.2.2.2 i hi).2.2 t htn
        have d1 := (yOr_chk hn hw hi).2.2.1 t htn
        have d2 := zOd_lt hD htn
        have st : S_X12_orderOf_14 (nI i) g ((if true = true then 1 else 0), nI t) = some (.inl ((if decide (yDg (yOr (T 0 0) w i) t = D t) = true then 1 else 0), nI (t + 1))) := by
          unfold S_X12_orderOf_14
          rw [r_thingMany ht, xb1_some, if_neg (nI_ge htn (by omega))]
          simp only [if_pos, show (5 : Int32) = nI 5 from rfl, nI_mul, nI_add]
          rw [if_neg (show ¬ (1 : Int32) = 0 by decide), xck_nI (by omega) (by decide), xck_nI (by omega) (by decide), nI_clamp (by omega), nI_clamp (by omega), q, hd t htn, nI_1]
          by_cases e : yDg (yOr (T 0 0) w i) t = D t
          · rw [if_pos (by rw [e]), if_pos (decide_eq_true e)]
          · rw [if_neg (fun z => e ((nI_eq (by omega) (by omega)).mp z)), if_neg (show ¬ decide (yDg (yOr (T 0 0) w i) t = D t) = true by rw [decide_eq_true_eq]; exact e)]
        rw [xlim_go st, ih (t + 1) (decide (yDg (yOr (T 0 0) w i) t = D t)) (by omega), Bool.true_and, ← Bool.decide_and]
        have : (yDg (yOr (T 0 0) w i) t = D t ∧ ∀ u, u < T 0 0 → t + 1 ≤ u → yDg (yOr (T 0 0) w i) u = D u) ↔ ∀ u, u < T 0 0 → t ≤ u → yDg (yOr (T 0 0) w i) u = D u := ⟨fun z u h1 h2 => by
          by_cases y : u = t
          · rw [y]; exact z.1
          · exact z.2 u h1 (by omega), fun z => ⟨z t htn (Nat.le_refl _), fun u h1 h2 => z u h1 (by omega)⟩⟩
        simp only [this]
  have one : ∀ i, i < yN (T 0 0) w → S_X12_orderOf_2 g (nI i) = if i = zOi (T 0 0) w D then some (.inr (.inl (nI i))) else some (.inl (nI (i + 1))) := fun i hi => by
    unfold S_X12_orderOf_2
    have e := inner i hi (T 0 0) 0 true (by omega)
    rw [o.2.2.2.2.1, if_neg (nI_ge hi (by omega))]
    rw [show ((1 : Int32), (0 : Int32)) = ((if true = true then 1 else 0), nI 0) from rfl, e, xb1_some, Bool.true_and]
    by_cases y : i = zOi (T 0 0) w D
    · rw [if_pos y, if_pos (decide_eq_true (fun u h1 _ => by rw [y]; exact k2 u h1)), if_neg (show ¬ (1 : Int32) = 0 by decide)]
    · rw [if_neg y, if_neg (show ¬ decide (∀ u, u < T 0 0 → 0 ≤ u → yDg (yOr (T 0 0) w i) u = D u) = true from fun z => y (yOr_un hn hw hi k1 fun t h => ((of_decide_eq_true z) t h (Nat.zero_le _)).trans (k2 t h).symm)), if_pos rfl, nI_1]
  have key : ∀ m i, m + i = zOi (T 0 0) w D → xlim (S_X12_orderOf_2 g) (nI i) = some (.inl (nI (zOi (T 0 0) w D))) := by
    intro m
    induction m with
    | zero =>
      intro i hi
      have : i = zOi (T 0 0) w D := by omega
      refine xlim_end ?_
      rw [one i (by omega), if_pos this, this]
    | succ m ih =>
      intro i hi
      have st := one i (by omega)
      rw [if_neg (by omega)] at st
      rw [xlim_go st]
      exact ih (i + 1) (by omega)
  unfold E_X12_orderOf
  rw [show (0 : Int32) = nI 0 from rfl, key (zOi (T 0 0) w D) 0 (by omega)]
  rfl
/-! the reference's list -/
theorem r_sh1 : ∀ n, n < 6 → (1 : Int32) <<< ((if nI n ≤ 0 then (0 : Int32) else nI n - 1) &&& 31) = nI (2 ^ (n - 1)) ∧ (1 : Int32) <<< ((imax (nI n - 1) 0) &&& 31) = nI (2 ^ (n - 1)) ∧ 2 ^ (n - 1) ≤ 16 := by decide +kernel
theorem r_sh2 : ∀ s, s < 32 → ((nI s &&& (nI s <<< ((1 : Int32) &&& 31))) = 0 ↔ s &&& (2 * s) = 0) := by decide +kernel
theorem r_popS : ∀ m, m < 3 → ∀ s, s < 32 → (nI m < xbci (nI s) ↔ m < yPop s) := by decide +kernel
theorem yPop_le5 : ∀ s, s < 32 → yPop s ≤ 5 := by decide +kernel
def dLs (o k : Nat) : Prop := o = 135 ∨ o = 145 ∨ (o = 113 ∧ k = 53)
theorem dLs_A : ∀ o k, dLs o k → dA o k := fun o k h => by unfold dLs at h; unfold dA; omega
theorem r_tried (C : Cx g β T B) {a1 : Int32} (hs : s < 32) : ∃ g', xlim (S_X12_laySwapped_57 a1 (nI s)) (0, g) = some g' ∧ yAg (fun o _ => o = 135) g g' ∧ ∀ t, t < T 0 0 → xI g' 135 t = nI (zDs (T 0 0) T s t) := by
  have hn := C.2.2.2.1
  have ht := C.2.1.1
  have key : ∀ m p g1, m + p = T 0 0 → yAg (fun o _ => o = 135) g g1 → (∀ q, q < p → xI g1 135 (T 2 q) = nI (zStd s q)) → ∃ g', xlim (S_X12_laySwapped_57 a1 (nI s)) (nI p, g1) = some g' ∧ yAg (fun o _ => o = 135) g g' ∧ ∀ q, q < T 0 0 → xI g' 135 (T 2 q) = nI (zStd s q) := by
    intro m
    induction m with
    | zero =>
      intro p g1 hp y q
      have : p = T 0 0 := by omega
      have C1 := C.as ((y.up fun o k h => dLs_A o k (Or.inl h)).A)
      refine ⟨g1, xlim_end ?_, y, this ▸ q⟩
      unfold S_X12_laySwapped_57
      rw [r_thingMany C1.2.1, xb1_some]
      exact if_pos (nI_le (by omega) (by omega))
    | succ m ih =>
      intro p g1 hp y q
      have hpn : p < T 0 0 := by omega
      have C1 := C.as ((y.up fun o k h => dLs_A o k (Or.inl h)).A)
      obtain ⟨-, -, hβ, h30, hR⟩ := C1.2.1
      have row := hR.2.2.2.2.2.2.1 p hpn
      have rl := ht.2.2.2.2.2.2.1 p hpn
      have ix : (5 * nI β) + nI p = nI (5 * β + p) := by rw [show (5 : Int32) = nI 5 from rfl, nI_mul, nI_add]
      have st : S_X12_laySwapped_57 a1 (nI s) (nI p, g1) = some (.inl (nI (p + 1), xWI g1 135 (T 2 p) (nI (zStd s p)))) := by
        unfold S_X12_laySwapped_57 K_X12_laySwapped_118
        simp only [r_thingMany C1.2.1, xb1_some]
        rw [if_neg (nI_ge hpn (by omega)), h30, ix, xck_nI (by omega) (by decide), nI_clamp (by omega), row, r_bitG (by omega) (by omega), nI_clamp (by omega), xck_nI (by omega) (by decide), xck_nI (by omega) (by decide), xck_nI (by omega) (by decide), nI_1]
        unfold zStd
        by_cases d : s.testBit p = true
        · rw [if_pos d, if_pos rfl, if_pos d]
        · rw [if_neg d, if_neg (show ¬ (0 : Int32) = 1 by decide), if_neg d]
          by_cases p0 : p = 0
          · subst p0
            rw [if_pos (show nI 0 ≤ (0 : Int32) by decide), if_neg (fun z => absurd z.1 (by decide))]
          · have e1 : nI p - 1 = nI (p - 1) := by
              have : nI p = nI (p - 1) + 1 := by rw [nI_1]; congr 1; omega
              rw [this]
              exact Int32.add_sub_cancel _ _
            rw [if_neg (show ¬ nI p ≤ (0 : Int32) from fun z => absurd (show nI p ≤ nI 0 from z) (nI_ge (by omega) (by omega))), e1, r_bitG (by omega) (by omega)]
            by_cases f : s.testBit (p - 1) = true
            · rw [if_pos f, if_pos rfl, if_pos ⟨by omega, f⟩]
            · rw [if_neg f, if_neg (show ¬ (0 : Int32) = 1 by decide), if_neg (fun z => f z.2)]
      rw [xlim_go st]
      refine ih (p + 1) _ (by omega) (y.wi rfl) fun u hu => ?_
      rw [yI_wi]
      by_cases e : u = p
      · rw [if_pos ⟨rfl, by rw [e]⟩, e]
      · rw [if_neg (fun z => e (ht.2.2.2.2.2.2.2.1 u p (by omega) hpn z.2))]
        exact q u (by omega)
  obtain ⟨g', h1, h2, h3⟩ := key (T 0 0) 0 g (by omega) (yAg.refl _ _) (fun q hq => absurd hq (by omega))
  refine ⟨g', h1, h2, fun t htn => ?_⟩
  obtain ⟨p1, p2⟩ := yPos_i ht htn
  have := h3 _ p1
  rw [p2] at this
  exact this
/-- the rows as orders' numbers -/
noncomputable def zLo31 (n w : Nat) (T : yT) (m N : Nat) : List Nat := (zFs m N).map fun s => zOi n w (zDs n T s)
theorem zLo31_len : (zLo31 n w T m N).length = (zFs m N).length := List.length_map _
theorem zLo31_get {i : Nat} (h : i < (zFs m N).length) : (zLo31 n w T m N).getD i 0 = zOi n w (zDs n T ((zFs m N).getD i 0)) := by
  rw [yGet (by rw [zLo31_len]; exact h), yGet h]
  unfold zLo31
  rw [List.getElem_map]
theorem r_laySwapped (C : Cx g β T B) (hm : m < 3) : ∃ g', E_X12_laySwapped (nI m) g = some g' ∧ yAg dLs g g' ∧ yLR g' (zLo31 (T 0 0) (T 0 1) T m (2 ^ (T 0 0 - 1))) := by
  have hn := C.2.2.2.1
  have hw := C.2.2.2.2.1
  have ht := C.2.1.1
  obtain ⟨-, -, h16⟩ := r_sh1 (T 0 0) (by omega)
  have hN := (yO_len (T 0 0) (by omega) (T 0 1) (by omega)).2
  have key : ∀ k s g1, k + s = 32 → yAg dLs g g1 → yLR g1 (zLo31 (T 0 0) (T 0 1) T m (min s (2 ^ (T 0 0 - 1)))) → ∃ g', xlim (S_X12_laySwapped_7 (nI m)) (nI s, g1) = some g' ∧ yAg dLs g g' ∧ yLR g' (zLo31 (T 0 0) (T 0 1) T m (2 ^ (T 0 0 - 1))) := by
    intro k
    induction k with
    | zero =>
      intro s g1 hk y q
      have : s = 32 := by omega
      subst this
      rw [Nat.min_eq_right (by omega)] at q
      refine ⟨g1, xlim_end ?_, y, q⟩
      unfold S_X12_laySwapped_7
      exact if_pos (show (32 : Int32) ≤ nI 32 by decide)
    | succ k ih =>
      intro s g1 hk y q
      have hs : s < 32 := by omega
      have n32 : ¬ (32 : Int32) ≤ nI s := by rw [show (32 : Int32) = nI 32 from rfl]; exact nI_ge hs (by decide)
      have C1 := C.as (y.up dLs_A).A
      have pl := yPop_le5 s hs
      have skip : S_X12_laySwapped_7 (nI m) (nI s, g1) = some (.inl (nI (s + 1), g1)) → zLo31 (T 0 0) (T 0 1) T m (min (s + 1) (2 ^ (T 0 0 - 1))) = zLo31 (T 0 0) (T 0 1) T m (min s (2 ^ (T 0 0 - 1))) → ∃ g', xlim (S_X12_laySwapped_7 (nI m)) (nI s, g1) = some g' ∧ yAg dLs g g' ∧ yLR g' (zLo31 (T 0 0) (T 0 1) T m (2 ^ (T 0 0 - 1))) := fun st e => by
        rw [xlim_go st]
        exact ih (s + 1) g1 (by omega) y (by rw [e]; exact q)
      have no : zOks m s = false → zLo31 (T 0 0) (T 0 1) T m (min (s + 1) (2 ^ (T 0 0 - 1))) = zLo31 (T 0 0) (T 0 1) T m (min s (2 ^ (T 0 0 - 1))) := fun z => by
        by_cases d : s < 2 ^ (T 0 0 - 1)
        · rw [Nat.min_eq_left (by omega), Nat.min_eq_left (by omega)]
          unfold zLo31
          rw [show zFs m (s + 1) = zFs m s ++ (if zOks m s then [s] else []) from yFil_succ _ _, z, if_neg (by decide), List.append_nil]
        · rw [Nat.min_eq_right (by omega), Nat.min_eq_right (by omega)]
      by_cases c1 : m < yPop s
      · refine skip ?_ (no ?_)
        · unfold S_X12_laySwapped_7
          simp only [if_neg n32, r_bitsOf hs, xb1_some]
          rw [if_pos (by rw [nI_ltI (by omega) (by omega)]; exact c1), nI_1]
        · unfold zOks
          rw [decide_eq_false (by omega), Bool.false_and]
      · by_cases c2 : s &&& (2 * s) = 0
        · have ok : zOks m s = true := by
            unfold zOks
            rw [decide_eq_true (by omega), c2]; rfl
          have body : S_X12_laySwapped_7 (nI m) (nI s, g1) = if nI s < nI (2 ^ (T 0 0 - 1)) then (xb1 (xlim (S_X12_laySwapped_57 (nI m) (nI s)) (0, g1)) fun e_2 => xb1 (E_X12_orderOf e_2) fun r135_3 => xck 541 (xI e_2 113 53) (some (.inl (nI s + 1, xWI (xWI e_2 145 (xI e_2 113 53).toNatClampNeg r135_3) 113 53 ((xI e_2 113 53) + 1))))) else some (.inl (nI s + 1, g1)) := by
            unfold S_X12_laySwapped_7 K_X12_laySwapped_48
            simp only [if_neg n32, r_bitsOf hs, xb1_some, r_thingMany C1.2.1]
            rw [if_neg (by rw [nI_ltI (by omega) (by omega)]; omega), if_pos ((r_sh2 s hs).mpr c2), ← (r_sh1 (T 0 0) (by omega)).1]
            by_cases e : nI (T 0 0) ≤ (0 : Int32)
            · rw [if_pos e, if_pos e]
            · rw [if_neg e, if_neg e]
          by_cases d : s < 2 ^ (T 0 0 - 1)
          · rw [if_pos (by rw [nI_ltI (by omega) (by omega)]; exact d)] at body
            obtain ⟨g2, t1, t2, t3⟩ := r_tried (a1 := nI m) C1 hs
            have C2 := C1.as ((t2.up fun o k h => dLs_A o k (Or.inl h)).A)
            have od := zOd_ds (w := T 0 1) ht d c2
            have oi := zOi_ok (w := T 0 1) hn od
            rw [Nat.min_eq_left (by omega)] at q
            have l145 : (zLo31 (T 0 0) (T 0 1) T m s).length ≤ 32 := by rw [zLo31_len]; have := zFs_len (m := m) (N := s); omega
            have e53 : xI g2 113 53 = nI (zLo31 (T 0 0) (T 0 1) T m s).length := (t2.2 113 53 (by omega)).trans q.1
            have st : S_X12_laySwapped_7 (nI m) (nI s, g1) = some (.inl (nI (s + 1), xWI (xWI g2 145 (zLo31 (T 0 0) (T 0 1) T m s).length (nI (zOi (T 0 0) (T 0 1) (zDs (T 0 0) T s)))) 113 53 (nI ((zLo31 (T 0 0) (T 0 1) T m s).length + 1)))) := by
              rw [body, t1, xb1_some, r_orderOf C2.2.1 C2.2.2.2 od t3, xb1_some, e53, xck_nI (by omega) (by decide), nI_clamp (by omega), nI_1, nI_1]
            rw [xlim_go st]
            refine ih (s + 1) _ (by omega) (((y.tr (t2.up fun o k h => Or.inl h)).wi (Or.inr (Or.inl rfl))).wi (Or.inr (Or.inr ⟨rfl, rfl⟩))) ?_
            rw [Nat.min_eq_left (by omega)]
            have el : zLo31 (T 0 0) (T 0 1) T m (s + 1) = zLo31 (T 0 0) (T 0 1) T m s ++ [zOi (T 0 0) (T 0 1) (zDs (T 0 0) T s)] := by
              unfold zLo31
              rw [show zFs m (s + 1) = zFs m s ++ (if zOks m s then [s] else []) from yFil_succ _ _, ok, if_pos rfl, List.map_append]
              rfl
            rw [el]
            refine ⟨?_, fun i hi => ?_⟩
            · rw [yI_wi, if_pos ⟨rfl, rfl⟩, List.length_append, List.length_singleton]
            · rw [yI_wi, if_neg (by omega), yI_wi, yGet_push _ _ _ hi]
              rw [List.length_append, List.length_singleton] at hi
              by_cases e : i = (zLo31 (T 0 0) (T 0 1) T m s).length
              · rw [if_pos ⟨rfl, e⟩, if_pos e]
              · rw [if_neg (fun z => e z.2), if_neg e, t2.2 145 i (by omega)]
                exact q.2 i (by omega)
          · rw [if_neg (by rw [nI_ltI (by omega) (by omega)]; exact d), nI_1] at body
            exact skip body (by rw [Nat.min_eq_right (by omega), Nat.min_eq_right (by omega)])
        · refine skip ?_ (no ?_)
          · unfold S_X12_laySwapped_7
            simp only [if_neg n32, r_bitsOf hs, xb1_some]
            rw [if_neg (by rw [nI_ltI (by omega) (by omega)]; omega), if_neg (fun z => c2 ((r_sh2 s hs).mp z)), nI_1]
          · unfold zOks
            rw [show (s &&& (2 * s) == 0) = false from beq_false_of_ne c2, Bool.and_false]
  obtain ⟨g', h1, h2, h3⟩ := key 32 0 (xWI g 113 53 0) (by omega) ((yAg.refl _ g).wi (Or.inr (Or.inr ⟨rfl, rfl⟩))) ⟨by rw [yI_wi, if_pos ⟨rfl, rfl⟩, zLo31_len]; have := zFs_len (m := m) (N := min 0 (2 ^ (T 0 0 - 1))); rw [show (zFs m (min 0 (2 ^ (T 0 0 - 1)))).length = 0 by omega]; rfl, fun j hj => by rw [zLo31_len] at hj; have := zFs_len (m := m) (N := min 0 (2 ^ (T 0 0 - 1))); omega⟩
  refine ⟨g', ?_, h2, h3⟩
  unfold E_X12_laySwapped
  rw [show ((0 : Int32), xWI g 113 53 0) = (nI 0, xWI g 113 53 0) from rfl, h1, xb1_some]
end SW
