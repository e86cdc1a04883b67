/-! WEIGHTS that fit: the reference's rows -/
section RW
variable {g g' : xSt} {β n st R Q v : Nat} {T B : yT} {P : List Nat} {k a1 a2 a3 a4 a5 : Int32}
theorem r_wRows (C : Cx g β T B) : E_X12_weightRows g = some (nI (6 ^ T 0 0)) := by
  have hn := C.2.2.2.1
  have e := xlim_of (step := S_X12_weightRows_4 g) (fun j => (nI (6 ^ j), nI j)) (T 0 0) (e := nI (6 ^ T 0 0)) (fun j hj => ?_) ?_
  · unfold E_X12_weightRows
    rw [show ((1 : Int32), (0 : Int32)) = (nI (6 ^ 0), nI 0) from rfl, e, xb1_some]
  · unfold S_X12_weightRows_4
    simp only [r_thingMany C.2.1, xb1_some, if_neg (nI_ge hj (show T 0 0 < 2 ^ 31 by omega)), show (6 : Int32) = nI 6 from rfl, nI_mul, nI_1]
    rfl
  · unfold S_X12_weightRows_4
    simp only [r_thingMany C.2.1, xb1_some]
    exact if_pos (nI_le (Nat.le_refl _) (by omega))
/-- the row laid -/
def yRw (g : xSt) (n v : Nat) : Prop := ∀ t, t < n → xI g 166 t = nI (yWt n v t)
def dWt (o k : Nat) : Prop := o = 166
theorem dWt_A : ∀ o k, dWt o k → dA o k := fun o k h => by unfold dWt at h; unfold dA; omega
theorem r_layW (C : Cx g β T B) (hv : v < 10000) : ∃ g', E_X12_layWeights (nI v) g = some g' ∧ yAg dWt g g' ∧ yRw g' (T 0 0) v := by
  have hn := C.2.2.2.1
  have key : ∀ m j g1, m + j = T 0 0 → yAg dWt g g1 → (∀ t, T 0 0 - j ≤ t → t < T 0 0 → xI g1 166 t = nI (yWt (T 0 0) v t)) → ∃ g', xlim (S_X12_layWeights_9) (nI (v / 6 ^ j), nI (T 0 0 - j) - 1, g1) = some g' ∧ yAg dWt g g' ∧ yRw g' (T 0 0) v := by
    intro m
    induction m with
    | zero =>
      intro j g1 hj y s
      have : j = T 0 0 := by omega
      subst this
      rw [Nat.sub_self] at s ⊢
      refine ⟨g1, xlim_end (if_pos (show nI 0 - 1 < (0 : Int32) by decide)), y, fun t ht => s t (Nat.zero_le _) ht⟩
    | succ m ih =>
      intro j g1 hj y s
      have hjn : j < T 0 0 := by omega
      have ev : T 0 0 - j = (T 0 0 - 1 - j) + 1 := by omega
      have hvj : v / 6 ^ j ≤ v := Nat.div_le_self _ _
      have wt : yWt (T 0 0) v (T 0 0 - 1 - j) = 1 + v / 6 ^ j % 6 := by
        unfold yWt
        rw [show T 0 0 - 1 - (T 0 0 - 1 - j) = j by omega]
      have st : S_X12_layWeights_9 (nI (v / 6 ^ j), nI (T 0 0 - j) - 1, g1) = some (.inl (nI (v / 6 ^ (j + 1)), nI (T 0 0 - (j + 1)) - 1, xWI g1 166 (T 0 0 - 1 - j) (nI (yWt (T 0 0) v (T 0 0 - 1 - j))))) := by
        unfold S_X12_layWeights_9
        rw [ev, nI_pred]
        simp only [if_neg (nI_pos (n := T 0 0 - 1 - j) (by omega)), xck_nI (show T 0 0 - 1 - j < 5 by omega) (show (5 : Nat) < 2 ^ 31 by decide), nI_clamp (show T 0 0 - 1 - j < 2 ^ 31 by omega), show (6 : Int32) = nI 6 from rfl, pk_div (show v / 6 ^ j < 2 ^ 31 by omega) (show 0 < 6 by decide) (show 6 < 2 ^ 31 by decide), pk_rem (show v / 6 ^ j < 2 ^ 31 by omega) (show 0 < 6 by decide) (show 6 < 2 ^ 31 by decide)]
        have e6 : nI (v / 6 ^ j) - nI (v / 6 ^ j / 6) * nI 6 = nI (v / 6 ^ j % 6) := by
          have := pk_rem (show v / 6 ^ j < 2 ^ 31 by omega) (show 0 < 6 by decide) (show 6 < 2 ^ 31 by decide)
          rw [pk_div (show v / 6 ^ j < 2 ^ 31 by omega) (show 0 < 6 by decide) (show 6 < 2 ^ 31 by decide)] at this
          exact this
        rw [wt, show (1 : Int32) = nI 1 from rfl, e6, nI_add, Nat.div_div_eq_div_mul, ← Nat.pow_succ]
        rw [show nI (T 0 0 - 1 - j) + (-nI 1) = nI (T 0 0 - (j + 1)) - nI 1 by rw [show T 0 0 - (j + 1) = T 0 0 - 1 - j by omega]; exact (Int32.sub_eq_add_neg _ _).symm]
      obtain ⟨g', r1, r2⟩ := ih (j + 1) (xWI g1 166 (T 0 0 - 1 - j) (nI (yWt (T 0 0) v (T 0 0 - 1 - j)))) (by omega) (y.wi rfl) (fun t h1 h2 => by
        rw [yI_wi]
        by_cases e : t = T 0 0 - 1 - j
        · rw [if_pos ⟨rfl, e⟩, e]
        · rw [if_neg (fun z => e z.2)]; exact s t (by omega) h2)
      exact ⟨g', (xlim_go st).trans r1, r2⟩
  obtain ⟨g', r1, r2⟩ := key (T 0 0) 0 g (by omega) (yAg.refl _ _) (fun t h1 h2 => by omega)
  refine ⟨g', ?_, r2⟩
  unfold E_X12_layWeights
  rw [r_thingMany C.2.1, xb1_some]
  rw [Nat.pow_zero, Nat.div_one, Nat.sub_zero] at r1
  rw [r1, xb1_some]
theorem r_saysOf (C : Cx g β T B) (hw : yRw g (T 0 0) v) {a b : Nat} (ha : a < 32) (hb : b < 32) : E_X12_saysOf (nI a) (nI b) g = some (nI (ySo (T 0 0) (T 0 2) v a b)) := by
  have hn := C.2.2.2.1
  have hβ := C.2.1.2.2.1
  have hs := C.2.1.1.2.2.1
  have X := yHw_le (w := yWt (T 0 0) v) (c := 6) a (T 0 0) (fun j _ => (yWt_i _ _ _).2)
  have Y := yHw_le (w := yWt (T 0 0) v) (c := 6) b (T 0 0) (fun j _ => (yWt_i _ _ _).2)
  have e := xlim_of (step := S_X12_saysOf_5 (nI a) (nI b) g) (fun j => (nI (yHw (yWt (T 0 0) v) a j) - nI (yHw (yWt (T 0 0) v) b j), nI j)) (T 0 0) (e := nI (yHw (yWt (T 0 0) v) a (T 0 0)) - nI (yHw (yWt (T 0 0) v) b (T 0 0))) (fun j hj => ?_) ?_
  · unfold E_X12_saysOf
    have z : ((0 : Int32), (0 : Int32)) = (nI (yHw (yWt (T 0 0) v) a 0) - nI (yHw (yWt (T 0 0) v) b 0), nI 0) := by
      show _ = (nI 0 - nI 0, nI 0)
      rw [show nI 0 - nI 0 = (0 : Int32) by decide]; rfl
    rw [z, e, xb1_some]
    unfold E_X12_saysBy
    rw [C.2.1.2.2.2.1, xck_nI (by omega) (by decide), nI_clamp (by omega), C.2.1.2.2.2.2.2.2.1, xck_nI (by omega) (by decide)]
    have bl := (r_bl (x := yHw (yWt (T 0 0) v) a (T 0 0)) (y := yHw (yWt (T 0 0) v) b (T 0 0)) (by omega) (by omega) hs).2
    unfold ySo
    rw [← bl]
    by_cases z1 : nI (yHw (yWt (T 0 0) v) a (T 0 0)) - nI (yHw (yWt (T 0 0) v) b (T 0 0)) ≤ nI (T 0 2)
    · rw [if_pos z1, if_pos z1]
      by_cases z2 : -nI (T 0 2) ≤ nI (yHw (yWt (T 0 0) v) a (T 0 0)) - nI (yHw (yWt (T 0 0) v) b (T 0 0))
      · rw [if_pos z2, if_pos z2, xb1_some]
      · rw [if_neg z2, if_neg z2, xb1_some]
    · rw [if_neg z1, if_neg z1, xb1_some]
  · unfold S_X12_saysOf_5
    simp only [r_thingMany C.2.1, xb1_some, if_neg (nI_ge hj (show T 0 0 < 2 ^ 31 by omega)), xck_nI (show j < 5 by omega) (show (5 : Nat) < 2 ^ 31 by decide), nI_clamp (show j < 2 ^ 31 by omega), r_sbit a ha j (by omega), r_sbit b hb j (by omega), hw j hj]
    rw [r_step _ _ _ _ _ (by omega) (by omega), nI_1]
    rfl
  · unfold S_X12_saysOf_5
    simp only [r_thingMany C.2.1, xb1_some]
    exact if_pos (nI_le (Nat.le_refl _) (by omega))
/-- a row fits, by town and book -/
def yFv (T B : yT) (k : Int32) (v : Nat) : Bool := yFr (T 0 0) (T 0 2) (yRu B k (B 9 0)).length (yF1 (yRu B k (B 9 0))) (yF2 (yRu B k (B 9 0))) (yF3 (yRu B k (B 9 0))) v
theorem r_doFit (C : Cx g β T B) (hw : yRw g (T 0 0) v) : E_X12_doFit k g = some (if yFv T B k v = true then 1 else 0) := by
  have hn := C.2.2.2.1
  obtain ⟨w, -, hr⟩ := C.2.2.1
  have h60 := w.1
  have hpw : 2 ^ T 0 0 ≤ 32 := Nat.pow_le_pow_right (n := 2) (by decide) hn
  have step : ∀ i, i < B 9 0 → ((yCt B i k → ySo (T 0 0) (T 0 2) v (B 0 i) (B 1 i) = B 2 i) → S_X12_doFit_2 k g (nI i) = some (.inl (nI (i + 1)))) ∧ (¬ (yCt B i k → ySo (T 0 0) (T 0 2) v (B 0 i) (B 1 i) = B 2 i) → S_X12_doFit_2 k g (nI i) = some (.inr (.inl 0))) := by
    intro i hi
    obtain ⟨k1, k2⟩ := r_ctR (k := k) w hr hi
    obtain ⟨d1, d2, d3, -⟩ := hr.2.2.2.2.1 i hi
    obtain ⟨c1, c2, c3, c4, -⟩ := w.2.2.2.2.1 i hi
    have c0 : ¬ xI g 113 44 ≤ nI i := by rw [hr.1]; exact nI_ge hi (by omega)
    have hs := yBl_le (T 0 2) (yHw (yWt (T 0 0) v) (B 0 i) (T 0 0)) (yHw (yWt (T 0 0) v) (B 1 i) (T 0 0))
    have hs : ySo (T 0 0) (T 0 2) v (B 0 i) (B 1 i) ≤ 2 := hs
    unfold S_X12_doFit_2
    rw [if_neg c0, nI_1]
    by_cases q : yCt B i k
    · rw [k1 q, xb1_some, if_neg (by decide), xck_nI (by omega) (by decide), xck_nI (by omega) (by decide), nI_clamp (by omega), d1, d2, d3, r_saysOf C hw (by omega) (by omega), xb1_some, xck_nI (by omega) (by decide)]
      by_cases c : ySo (T 0 0) (T 0 2) v (B 0 i) (B 1 i) = B 2 i
      · rw [if_pos (show nI _ = nI _ by rw [c])]; exact ⟨fun _ => rfl, fun z => absurd (fun _ => c) z⟩
      · rw [if_neg (show ¬ nI _ = nI _ from fun z => c ((nI_eq (by omega) (by omega)).mp z))]; exact ⟨fun z => absurd (z q) c, fun _ => rfl⟩
    · rw [k2 q, xb1_some, if_pos rfl]; exact ⟨fun _ => rfl, fun z => absurd (fun y => absurd y q) z⟩
  obtain ⟨o1, o2⟩ := xlim_all (step := S_X12_doFit_2 k g) (p := fun i => yCt B i k → ySo (T 0 0) (T 0 2) v (B 0 i) (B 1 i) = B 2 i) (v := (0 : Int32)) (N := B 9 0) (fun i hi c => (step i hi).1 c) (fun i hi c => (step i hi).2 c) (by
    unfold S_X12_doFit_2
    rw [hr.1]
    exact if_pos (nI_le (Nat.le_refl _) (by omega))) (B 9 0) 0 (by omega)
  unfold E_X12_doFit
  by_cases c : yFv T B k v = true
  · have c' := yFr_ru.mp c
    rw [if_pos c, show xlim (S_X12_doFit_2 k g) 0 = some (.inr ()) from o1 (fun i _ hi => c' i hi), xbs_inr]
  · rw [if_neg c, show xlim (S_X12_doFit_2 k g) 0 = some (.inl 0) from o2 (fun z => c (yFr_ru.mpr fun i hi => z i (Nat.zero_le _) hi)), xbs_inl]
/-- the rows below v that fit -/
def yFw (T B : yT) (k : Int32) (v : Nat) : List Nat := (List.range v).filter (yFv T B k)
theorem yFw_succ : yFw T B k (v + 1) = yFw T B k v ++ (if yFv T B k v then [v] else []) := yFil_succ _ _
theorem yFw_len : (yFw T B k v).length ≤ v := yFil_len _ _
theorem yFw_all : yFw T B k (6 ^ T 0 0) = yFa (T 0 0) (T 0 2) (yRu B k (B 9 0)).length (yF1 (yRu B k (B 9 0))) (yF2 (yRu B k (B 9 0))) (yF3 (yRu B k (B 9 0))) := rfl
theorem r_6n (C : Cx g β T B) : 6 ^ T 0 0 ≤ 7776 := by
  have : 6 ^ T 0 0 ≤ 6 ^ 5 := Nat.pow_le_pow_right (by decide) C.2.2.2.1
  have : 6 ^ 5 = 7776 := by decide
  omega
def yRe (g : xSt) (n : Nat) (P : List Nat) : Prop := P ≠ [] → ∀ t, t < n → xI g 167 t = nI (yMn n P t) ∧ xI g 168 t = nI (yMa n P t) ∧ xI g 169 t = nI (yWt n (P.getD 0 0) t)
def dRe (o k : Nat) : Prop := 166 ≤ o ∧ o ≤ 169
theorem dRe_A : ∀ o k, dRe o k → dA o k := fun o k h => by unfold dRe at h; unfold dA; omega
theorem yMn_push (n : Nat) (P : List Nat) (v t : Nat) : yMn n (P ++ [v]) t = min (yMn n P t) (yWt n v t) ∧ yMa n (P ++ [v]) t = max (yMa n P t) (yWt n v t) := by
  unfold yMn yMa
  rw [List.foldl_append, List.foldl_append]
  exact ⟨rfl, rfl⟩
theorem yHd0 (P : List Nat) (v : Nat) : (P ++ [v]).getD 0 0 = if P = [] then v else P.getD 0 0 := by
  cases P with
  | nil => rw [if_pos rfl]; rfl
  | cons y l => rw [if_neg (by simp)]; rfl
theorem r_cw31 (C : Cx g β T B) (hw : yRw g (T 0 0) v) (hP : P.length < 10000) {x : Int32} (he : yRe g (T 0 0) P) : ∃ g', xlim (S_X12_countWeights_31 a1 (nI P.length) x) (0, g) = some g' ∧ yAg (fun o _ => 167 ≤ o ∧ o ≤ 169) g g' ∧ yRe g' (T 0 0) (P ++ [v]) := by
  have hn := C.2.2.2.1
  have h0 : nI P.length = (0 : Int32) ↔ P = [] := by
    rw [show (0 : Int32) = nI 0 from rfl, nI_eq (by omega) (by decide)]
    exact ⟨List.eq_nil_of_length_eq_zero, fun z => by rw [z]; rfl⟩
  have hd := yHd0 P v
  have key : ∀ m j g1, m + j = T 0 0 → yAg (fun o _ => 167 ≤ o ∧ o ≤ 169) g g1 → (∀ t, t < j → xI g1 167 t = nI (yMn (T 0 0) (P ++ [v]) t) ∧ xI g1 168 t = nI (yMa (T 0 0) (P ++ [v]) t) ∧ xI g1 169 t = nI (yWt (T 0 0) ((P ++ [v]).getD 0 0) t)) → (∀ t, j ≤ t → xI g1 167 t = xI g 167 t ∧ xI g1 168 t = xI g 168 t ∧ xI g1 169 t = xI g 169 t) → ∃ g', xlim (S_X12_countWeights_31 a1 (nI P.length) x) (nI j, g1) = some g' ∧ yAg (fun o _ => 167 ≤ o ∧ o ≤ 169) g g' ∧ ∀ t, t < T 0 0 → xI g' 167 t = nI (yMn (T 0 0) (P ++ [v]) t) ∧ xI g' 168 t = nI (yMa (T 0 0) (P ++ [v]) t) ∧ xI g' 169 t = nI (yWt (T 0 0) ((P ++ [v]).getD 0 0) t) := by
    intro m
    induction m with
    | zero =>
      intro j g1 hj y l1 l2
      have : j = T 0 0 := by omega
      have C1 := C.as (y.up (fun o k h => by unfold dAS dA; omega))
      refine ⟨g1, xlim_end ?_, y, this ▸ l1⟩
      unfold S_X12_countWeights_31
      simp only [r_thingMany C1.2.1, xb1_some]
      exact if_pos (nI_le (by omega) (by omega))
    | succ m ih =>
      intro j g1 hj y l1 l2
      have hjn : j < T 0 0 := by omega
      have C1 := C.as (y.up (fun o k h => by unfold dAS dA; omega))
      have ew : xI g1 166 j = nI (yWt (T 0 0) v j) := (y.2 _ _ (by omega)).trans (hw j hjn)
      obtain ⟨b1, b2⟩ := yWt_i (T 0 0) v j
      obtain ⟨p1, p2⟩ := yMn_push (T 0 0) P v j
      have m1 := yMn_le (n := T 0 0) P j
      have m2 := yMa_le (n := T 0 0) P j
      -- the store of a turn
      have stp : ∃ G, S_X12_countWeights_31 a1 (nI P.length) x (nI j, g1) = some (.inl (nI (j + 1), G)) ∧ yAg (fun o k => (167 ≤ o ∧ o ≤ 169) ∧ k = j) g1 G ∧ xI G 167 j = nI (yMn (T 0 0) (P ++ [v]) j) ∧ xI G 168 j = nI (yMa (T 0 0) (P ++ [v]) j) ∧ xI G 169 j = nI (yWt (T 0 0) ((P ++ [v]).getD 0 0) j) := by
        unfold S_X12_countWeights_31
        simp only [r_thingMany C1.2.1, xb1_some, if_neg (nI_ge hjn (show T 0 0 < 2 ^ 31 by omega)), xck_nI (show j < 5 by omega) (show (5 : Nat) < 2 ^ 31 by decide), nI_clamp (show j < 2 ^ 31 by omega), ew]
        rw [hd, p1, p2]
        by_cases c : P = []
        · rw [if_pos (h0.mpr c), if_pos c]
          unfold K_X12_countWeights_62 K_X12_countWeights_78 K_X12_countWeights_87 K_X12_countWeights_103
          rw [if_pos (h0.mpr c), xck_nI (show j < 5 by omega) (by decide), if_pos (h0.mpr c), xck_nI (show j < 5 by omega) (by decide), nI_clamp (by omega), nI_1]
          refine ⟨_, rfl, (((yAg.refl _ g1).wi ⟨by decide, rfl⟩).wi ⟨by decide, rfl⟩).wi ⟨by decide, rfl⟩, ?_, ?_, ?_⟩
          · rw [yI_wi, if_neg (by omega), yI_wi, if_pos ⟨rfl, rfl⟩, c]
            show _ = nI (min 7 _)
            rw [Nat.min_eq_right (by omega)]
          · rw [yI_wi, if_pos ⟨rfl, rfl⟩, c]
            show _ = nI (max 0 _)
            rw [Nat.max_eq_right (Nat.zero_le _)]
          · rw [yI_wi, if_neg (by omega), yI_wi, if_neg (by omega), yI_wi, if_pos ⟨rfl, rfl⟩]
        · rw [if_neg (fun z => c (h0.mp z)), if_neg c]
          obtain ⟨q1, q2, q3⟩ := he c j hjn
          obtain ⟨z1, z2, z3⟩ := l2 j (Nat.le_refl _)
          have e7 := z1.trans q1
          have e8 := z2.trans q2
          have e9 := z3.trans q3
          have k87 : ∀ G, xI G 168 j = nI (yMa (T 0 0) P j) → ∃ G', K_X12_countWeights_87 a1 (nI P.length) x (nI j) (nI (yWt (T 0 0) v j)) G = some (.inl (nI (j + 1), G')) ∧ yAg (fun o k => o = 168 ∧ k = j) G G' ∧ xI G' 168 j = nI (max (yMa (T 0 0) P j) (yWt (T 0 0) v j)) := by
            intro G hG
            unfold K_X12_countWeights_87 K_X12_countWeights_103
            rw [if_neg (fun z => c (h0.mp z)), xck_nI (show j < 5 by omega) (by decide), nI_clamp (by omega), hG, xck_nI (show j < 5 by omega) (by decide), nI_1]
            by_cases d : yWt (T 0 0) v j ≤ yMa (T 0 0) P j
            · rw [if_pos (nI_le d (by omega)), Nat.max_eq_left d]
              exact ⟨G, rfl, yAg.refl _ _, hG⟩
            · rw [if_neg (fun z => d ((nI_leI (by omega) (by omega)).mp z)), Nat.max_eq_right (by omega)]
              exact ⟨_, rfl, (yAg.refl _ G).wi ⟨rfl, rfl⟩, by rw [yI_wi, if_pos ⟨rfl, rfl⟩]⟩
          unfold K_X12_countWeights_62 K_X12_countWeights_78
          rw [if_neg (fun z => c (h0.mp z)), xck_nI (show j < 5 by omega) (by decide), nI_clamp (by omega), e7, xck_nI (show j < 5 by omega) (by decide)]
          by_cases d : yMn (T 0 0) P j ≤ yWt (T 0 0) v j
          · rw [if_pos (nI_le d (by omega)), Nat.min_eq_left d]
            obtain ⟨G, k1, k2, k3⟩ := k87 g1 e8
            exact ⟨G, k1, k2.up (fun o k h => by omega), (k2.2 _ _ (by omega)).trans e7, k3, (k2.2 _ _ (by omega)).trans e9⟩
          · rw [if_neg (fun z => d ((nI_leI (by omega) (by omega)).mp z)), Nat.min_eq_right (by omega)]
            obtain ⟨G, k1, k2, k3⟩ := k87 (xWI g1 167 j (nI (yWt (T 0 0) v j))) (by rw [yI_wi, if_neg (by omega)]; exact e8)
            have y7 : yAg (fun o k => (167 ≤ o ∧ o ≤ 169) ∧ k = j) g1 (xWI g1 167 j (nI (yWt (T 0 0) v j))) := (yAg.refl _ g1).wi ⟨by decide, rfl⟩
            exact ⟨G, k1, y7.tr (k2.up (fun o k h => by omega)), (k2.2 _ _ (by omega)).trans (by rw [yI_wi, if_pos ⟨rfl, rfl⟩]), k3, (k2.2 _ _ (by omega)).trans (by rw [yI_wi, if_neg (by omega)]; exact e9)⟩
      obtain ⟨G, s1, s2, s3, s4, s5⟩ := stp
      obtain ⟨g', r1, r2⟩ := ih (j + 1) G (by omega) (y.tr (s2.up (fun o k h => h.1))) (fun t ht => by
        by_cases e : t = j
        · subst e; exact ⟨s3, s4, s5⟩
        · obtain ⟨z1, z2, z3⟩ := l1 t (by omega)
          exact ⟨(s2.2 _ _ (by omega)).trans z1, (s2.2 _ _ (by omega)).trans z2, (s2.2 _ _ (by omega)).trans z3⟩) (fun t ht => by
        obtain ⟨z1, z2, z3⟩ := l2 t (by omega)
        exact ⟨(s2.2 _ _ (by omega)).trans z1, (s2.2 _ _ (by omega)).trans z2, (s2.2 _ _ (by omega)).trans z3⟩)
      exact ⟨g', (xlim_go s1).trans r1, r2⟩
  obtain ⟨g', r1, r2, r3⟩ := key (T 0 0) 0 g (by omega) (yAg.refl _ _) (fun t ht => by omega) (fun t _ => ⟨rfl, rfl, rfl⟩)
  exact ⟨g', r1, r2, fun _ t ht => r3 t ht⟩
theorem r_countW (C : Cx g β T B) : ∃ g', E_X12_countWeights k g = some (nI (yFw T B k (6 ^ T 0 0)).length, g') ∧ yAg dRe g g' ∧ yRe g' (T 0 0) (yFw T B k (6 ^ T 0 0)) := by
  have h6 := r_6n C
  have key : ∀ m v g1, m + v = 6 ^ T 0 0 → yAg dRe g g1 → yRe g1 (T 0 0) (yFw T B k v) → ∃ g', xlim (S_X12_countWeights_4 k) (nI (yFw T B k v).length, nI v, g1) = some (nI (yFw T B k (6 ^ T 0 0)).length, g') ∧ yAg dRe g g' ∧ yRe g' (T 0 0) (yFw T B k (6 ^ T 0 0)) := by
    intro m
    induction m with
    | zero =>
      intro v g1 hv y s
      have : v = 6 ^ T 0 0 := by omega
      subst this
      have C1 := C.as (y.up dRe_A).A
      refine ⟨g1, xlim_end ?_, y, s⟩
      unfold S_X12_countWeights_4
      simp only [r_wRows C1, xb1_some]
      exact if_pos (nI_le (Nat.le_refl _) (by omega))
    | succ m ih =>
      intro v g1 hv y s
      have hv6 : v < 6 ^ T 0 0 := by omega
      have C1 := C.as (y.up dRe_A).A
      obtain ⟨g2, w1, w2, w3⟩ := r_layW (v := v) C1 (by omega)
      have C2 := C1.as (w2.up dWt_A).A
      have y2 : yAg dRe g g2 := y.tr (w2.up (fun o k h => by unfold dWt at h; unfold dRe; omega))
      have s2 : yRe g2 (T 0 0) (yFw T B k v) := fun z t ht => by
        obtain ⟨z1, z2, z3⟩ := s z t ht
        exact ⟨(w2.2 _ _ (by unfold dWt; omega)).trans z1, (w2.2 _ _ (by unfold dWt; omega)).trans z2, (w2.2 _ _ (by unfold dWt; omega)).trans z3⟩
      have fit := r_doFit (k := k) C2 w3
      have hlen := yFw_len (T := T) (B := B) (k := k) (v := v)
      by_cases c : yFv T B k v = true
      · have e : yFw T B k (v + 1) = yFw T B k v ++ [v] := by rw [yFw_succ, if_pos c]
        obtain ⟨g3, x1, x2, x3⟩ := r_cw31 (a1 := k) (x := nI v) C2 w3 (show (yFw T B k v).length < 10000 by omega) s2
        have st : S_X12_countWeights_4 k (nI (yFw T B k v).length, nI v, g1) = some (.inl (nI (yFw T B k (v + 1)).length, nI (v + 1), g3)) := by
          unfold S_X12_countWeights_4
          simp only [r_wRows C1, xb1_some, if_neg (nI_ge hv6 (show 6 ^ T 0 0 < 2 ^ 31 by omega)), w1, fit, if_pos c, if_neg (show ¬ (1 : Int32) = 0 by decide), x1, nI_1, e, List.length_append, List.length_singleton]
        obtain ⟨g', r1, r2⟩ := ih (v + 1) g3 (by omega) (y2.tr (x2.up (fun o k h => by unfold dRe; omega))) (by rw [e]; exact x3)
        exact ⟨g', (xlim_go st).trans r1, r2⟩
      · have e : yFw T B k (v + 1) = yFw T B k v := by rw [yFw_succ, if_neg c, List.append_nil]
        have st : S_X12_countWeights_4 k (nI (yFw T B k v).length, nI v, g1) = some (.inl (nI (yFw T B k (v + 1)).length, nI (v + 1), g2)) := by
          unfold S_X12_countWeights_4
          simp only [r_wRows C1, xb1_some, if_neg (nI_ge hv6 (show 6 ^ T 0 0 < 2 ^ 31 by omega)), w1, fit, if_neg c, if_true, nI_1, e]
        obtain ⟨g', r1, r2⟩ := ih (v + 1) g2 (by omega) y2 (by rw [e]; exact s2)
        exact ⟨g', (xlim_go st).trans r1, r2⟩
  obtain ⟨g', r1, r2⟩ := key (6 ^ T 0 0) 0 g (by omega) (yAg.refl _ _) (fun z => absurd rfl z)
  refine ⟨g', ?_, r2⟩
  unfold E_X12_countWeights
  rw [show xlim (S_X12_countWeights_4 k) (0, 0, g) = _ from r1, xb1_some]
end RW
