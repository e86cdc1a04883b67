/-! WHO IS LEFT, on both sides; calls left, struck, place -/
/-- what only one call long is held: the reference's lists, the orders' lists, once, liar, judge -/
def dA (o k : Nat) : Prop := (72 ≤ o ∧ o ≤ 75) ∨ (o = 69 ∧ 5 ≤ k ∧ k ≤ 8) ∨ (88 ≤ o ∧ o ≤ 97) ∨ o = 135 ∨ o = 144 ∨ (145 ≤ o ∧ o ≤ 148) ∨ (150 ≤ o ∧ o ≤ 173) ∨ (o = 113 ∧ (k = 53 ∨ k = 59 ∨ k = 70 ∨ k = 71 ∨ k = 72))
def dAS (o k : Nat) : Prop := dA o k ∨ o = 111 ∨ o = 112 ∨ o = 149 ∨ (o = 113 ∧ k = 54)
/-- what the calls on orders stand on -/
def Cx (g : xSt) (β : Nat) (T B : yT) : Prop := xTw (tw g) ∧ I_town g β T ∧ I_book g (T 0 0) B ∧ I_orders g (T 0 0) (T 0 1)
theorem yAg.tr {D : Nat → Nat → Prop} {g g1 g2 : xSt} (h : yAg D g g1) (h2 : yAg D g1 g2) : yAg D g g2 := ⟨h2.1.trans h.1, fun o k q => (h2.2 o k q).trans (h.2 o k q)⟩
theorem yAg.up {D E : Nat → Nat → Prop} {g g1 : xSt} (h : yAg D g g1) (hs : ∀ o k, D o k → E o k) : yAg E g g1 := ⟨h.1, fun o k q => h.2 o k (fun z => q (hs o k z))⟩
theorem dAS_no {o k : Nat} (h : (o ≤ 68 ∨ o = 70 ∨ o = 71 ∨ (o = 69 ∧ k < 5) ∨ (76 ≤ o ∧ o ≤ 87) ∨ (98 ≤ o ∧ o ≤ 110) ∨ (114 ≤ o ∧ o ≤ 134) ∨ (136 ≤ o ∧ o ≤ 143) ∨ 174 ≤ o ∨ (o = 113 ∧ (k ≤ 52 ∨ (55 ≤ k ∧ k ≤ 58) ∨ (60 ≤ k ∧ k ≤ 69) ∨ 73 ≤ k)))) : ¬ dAS o k := by unfold dAS dA; omega
section CXS
variable {g g' : xSt} {β : Nat} {T B : yT}
theorem Cx.as (C : Cx g β T B) (h : yAg dAS g g') : Cx g' β T B := by
  obtain ⟨c1, ⟨q1, q2, q3, q4, q5⟩, c3, c4⟩ := C
  have htw := xtw_lt c1
  have et : tw g' = tw g := by unfold tw; rw [h.1]
  refine ⟨by rw [et]; exact c1, ⟨q1, ?_, q3, (h.2 _ _ (dAS_no (by omega))).trans q4, q5.ag h (fun o k m => dAS_no (by simp only [List.mem_cons, List.not_mem_nil, or_false] at m; omega))⟩, c3.ag h (fun j k hj _ => dAS_no (by omega)) (fun o k m => dAS_no (by simp only [List.mem_cons, List.not_mem_nil, or_false] at m; omega)) (dAS_no (by omega)) (dAS_no (by omega)) (dAS_no (by omega)) (dAS_no (by omega)), c4.ag h (dAS_no (by omega)) (dAS_no (by omega)) (dAS_no (by omega)) (fun o k m => dAS_no (by simp only [List.mem_cons, List.not_mem_nil, or_false] at m; omega))⟩
  rw [et]
  exact q2.ag h (fun j k hj => dAS_no (by omega))
theorem I_shelf.aA (q : I_shelf g) (h : yAg dA g g') : I_shelf g' := q.ag h (fun o k m => by simp only [List.mem_cons, List.not_mem_nil, or_false] at m; unfold dA; omega) (by unfold dA; omega) (by unfold dA; omega)
theorem yAg.A (h : yAg dA g g') : yAg dAS g g' := h.up (fun _ _ q => Or.inl q)
end CXS
/-- who is left with so many lies -/
def yLs (B : yT) (k : Int32) (n w lies : Nat) : List Nat := (List.range (yN n w)).filter fun o => decide (yWr B k (yOr n w o) (B 9 0) ≤ lies)
def yAnd (n w : Nat) : List Nat → Nat
  | [] => 2 ^ 32 - 1
  | o :: L => yMk n (yOr n w o) &&& yAnd n w L
def yLC (g : xSt) (n w : Nat) (L : List Nat) : Prop := xI g 69 5 = nI L.length ∧ xI g 69 6 = nI (yAnd n w L) ∧ ∀ j, j < L.length → xI g 72 j = nI (L.getD j 0)
def yLR (g : xSt) (L : List Nat) : Prop := xI g 113 53 = nI L.length ∧ ∀ j, j < L.length → xI g 145 j = nI (L.getD j 0)
theorem yAnd_push (n w o : Nat) : ∀ L, yAnd n w (L ++ [o]) = yAnd n w L &&& yMk n (yOr n w o) := by
  intro L
  induction L with
  | nil => show yMk n (yOr n w o) &&& (2 ^ 32 - 1) = (2 ^ 32 - 1) &&& yMk n (yOr n w o); exact Nat.and_comm _ _
  | cons a L ih => show yMk n (yOr n w a) &&& yAnd n w (L ++ [o]) = (yMk n (yOr n w a) &&& yAnd n w L) &&& _; rw [ih, Nat.and_assoc]
theorem yGet_push (L : List Nat) (o j : Nat) (h : j < (L ++ [o]).length) : (L ++ [o]).getD j 0 = if j = L.length then o else L.getD j 0 := by
  rw [List.length_append, List.length_singleton] at h
  by_cases e : j = L.length
  · subst e; rw [if_pos rfl, List.getD_eq_getElem?_getD, List.getElem?_append_right (Nat.le_refl _)]; simp
  · rw [if_neg e, List.getD_eq_getElem?_getD, List.getElem?_append_left (by omega), List.getD_eq_getElem?_getD]
theorem yFil_succ (p : Nat → Bool) (j : Nat) : (List.range (j + 1)).filter p = (List.range j).filter p ++ (if p j then [j] else []) := by
  rw [List.range_succ, List.filter_append]
  congr 1
  by_cases h : p j = true
  · rw [if_pos h]; simp [h]
  · rw [if_neg h]; simp [h]
theorem yFil_len (p : Nat → Bool) (j : Nat) : ((List.range j).filter p).length ≤ j := by
  have := List.length_filter_le p (List.range j)
  rw [List.length_range] at this
  exact this
theorem yCn_zero {p : Nat → Bool} {m : Nat} : yCn p m = 0 ↔ ∀ i, i < m → ¬ p i = true := by
  induction m with
  | zero => exact ⟨fun _ i hi => by omega, fun _ => rfl⟩
  | succ m ih =>
    rw [yCn_succ]
    refine ⟨fun h i hi => ?_, fun h => ?_⟩
    · by_cases e : i = m
      · subst e; intro q; rw [if_pos q] at h; omega
      · exact ih.mp (by omega) i (by omega)
    · rw [if_neg (h m (by omega)), ih.mpr (fun i hi => h i (by omega))]
section LF
variable {g g' : xSt} {β n w : Nat} {T B : yT} {k a1 a2 a3 a4 a5 : Int32}
theorem yLs_mem {lies i : Nat} (h : i ∈ yLs B k n w lies) : i < yN n w ∧ yWr B k (yOr n w i) (B 9 0) ≤ lies := by
  unfold yLs at h
  rw [List.mem_filter, List.mem_range, decide_eq_true_iff] at h
  exact h
theorem yLs_get {lies j : Nat} (h : j < (yLs B k n w lies).length) : (yLs B k n w lies).getD j 0 < yN n w := by
  rw [yGet h]
  exact (yLs_mem (List.getElem_mem h)).1
theorem yLs_len {lies : Nat} (hn : n ≤ 5) (hw : w ≤ 1) : (yLs B k n w lies).length ≤ 541 := Nat.le_trans (yFil_len _ _) (yO_len n (by omega) w (by omega)).2
/-- nothing is missed: the mark has all that was asked -/
theorem r_ask (hn : n ≤ 5) (hb : bkOK n B) {o : Nat} (hw : w ≤ 1) (ho : o < yN n w) : (nI (yMk n (yOr n w o)) &&& nI (yAsk B k n (B 9 0)) = nI (yAsk B k n (B 9 0))) ↔ yWr B k (yOr n w o) (B 9 0) = 0 := by
  have c := yOr_chk hn hw ho
  have ha := yAsk_lt (k := k) hn hb (B 9 0) (Nat.le_refl _)
  rw [r_andG, nI_eq (Nat.lt_of_le_of_lt Nat.and_le_right (by omega)) (by omega)]
  unfold yWr
  rw [yCn_zero]
  refine ⟨fun h i hi q => ?_, fun h => Nat.eq_of_testBit_eq fun b => ?_⟩
  · simp only [Bool.and_eq_true, Bool.not_eq_true', beq_eq_false_iff_ne, ne_eq] at q
    obtain ⟨a1, a2, a3, a4, -⟩ := r_td hn hb hi (r_tdS q.1).2
    refine q.2 ((c.2.2.2 _ _ _ a1 a2 a3 a4).mp ?_)
    have hq : (yAsk B k n (B 9 0)).testBit (yBt B n i) = true := (yAsk_bit _ _).mpr ⟨i, hi, q.1, rfl⟩
    rw [← h, Nat.testBit_and, Bool.and_eq_true] at hq
    exact hq.1
  · rw [Nat.testBit_and]
    by_cases q : (yAsk B k n (B 9 0)).testBit b = true
    · obtain ⟨i, hi, q1, q2⟩ := (yAsk_bit _ _).mp q
      obtain ⟨a1, a2, a3, a4, -⟩ := r_td hn hb hi (r_tdS q1).2
      have e : ySd (yOr n w o) (yA B i) (yC B i) = B 2 i := by
        refine Decidable.byContradiction fun z => h i hi ?_
        simp [q1, z]
      have := (c.2.2.2 _ _ _ a1 a2 a3 a4).mpr e
      rw [q, ← q2, show yBt B n i = yBit n (yA B i) (yC B i) (B 2 i) from rfl, this]; rfl
    · rw [Bool.not_eq_true] at q
      rw [q, Bool.and_false]
def dLC (o k : Nat) : Prop := o = 72 ∨ (o = 69 ∧ (k = 5 ∨ k = 6))
theorem yHd.ag (h : yAg dLC g g') (q : yHd B k n (B 9 0) g) : yHd B k n (B 9 0) g' := by
  obtain ⟨q1, q2, q3⟩ := q
  exact ⟨fun b hb => (h.2 _ _ (by unfold dLC; omega)).trans (q1 b hb), (h.2 _ _ (by unfold dLC; omega)).trans q2, (h.2 _ _ (by unfold dLC; omega)).trans q3⟩
theorem r_sift {lies : Nat} (hl : lies ≤ 60) (hb : bkOK n B) (ho : I_orders g n w) (hh : yHd B k n (B 9 0) g) : ∃ g', E_X5_sift (nI lies) g = some g' ∧ yAg dLC g g' ∧ yLC g' n w (yLs B k n w lies) := by
  have hn := ho.1
  have hw := ho.2.1
  have hlen := (yO_len n (by omega) w (by omega)).2
  have key : ∀ m j g1, m + j = yN n w → yAg dLC g g1 → yLC g1 n w ((List.range j).filter fun o => decide (yWr B k (yOr n w o) (B 9 0) ≤ lies)) → ∃ g', xlim (S_X5_sift_12 (nI lies)) (nI j, g1) = some g' ∧ yAg dLC g g' ∧ yLC g' n w (yLs B k n w lies) := by
    intro m
    induction m with
    | zero =>
      intro j g1 hj a q
      have : j = yN n w := by omega
      subst this
      refine ⟨g1, xlim_end ?_, a, q⟩
      unfold S_X5_sift_12
      simp only [a.2 69 1 (by unfold dLC; omega), ho.2.2.2.1]
      exact if_pos (nI_le (Nat.le_refl _) (by omega))
    | succ m ih =>
      intro j g1 hj a q
      have hjm : j < yN n w := by omega
      have c := yOr_chk hn hw hjm
      have hh1 := hh.ag a
      have o1 : I_orders g1 n w := ho.ag a (by unfold dLC; omega) (by unfold dLC; omega) (by unfold dLC; omega) (fun o k m => by simp only [List.mem_cons, List.not_mem_nil, or_false] at m; unfold dLC; omega)
      have c0 : ¬ xI g1 69 1 ≤ nI j := by rw [o1.2.2.2.1]; exact nI_ge hjm (by omega)
      have hL := yFil_len (fun o => decide (yWr B k (yOr n w o) (B 9 0) ≤ lies)) j
      obtain ⟨p1, p2, p3⟩ := q
      have mk1 : xat (xI g1 71) 541 (nI j) = nI (yMk n (yOr n w j)) := by rw [xat_nI (by omega) (by decide), (o1.2.2.2.2.2 j hjm).2.1]
      have hmis := r_missesBy (show yMk n (yOr n w j) < 2 ^ 31 by omega) hh1
      rw [yWr_mk hn hb hw hjm] at hmis
      have hcn := yCn_le (fun i => yTd B k i && !(ySd (yOr n w j) (yA B i) (yC B i) == B 2 i)) (B 9 0)
      have hcn : yWr B k (yOr n w j) (B 9 0) ≤ B 9 0 := hcn
      have h60 := hb.1
      by_cases d : yWr B k (yOr n w j) (B 9 0) ≤ lies
      · have st : S_X5_sift_12 (nI lies) (nI j, g1) = K_X5_sift_55 (nI lies) (nI j) (nI (yMk n (yOr n w j))) g1 := by
          unfold S_X5_sift_12
          simp only [if_neg c0, mk1, hh1.2.1]
          by_cases e : yWr B k (yOr n w j) (B 9 0) = 0
          · rw [if_pos ((r_ask hn hb hw hjm).mpr e)]
          · rw [if_neg (fun z => e ((r_ask hn hb hw hjm).mp z)), if_neg (fun z => by rw [show (0 : Int32) = nI 0 from rfl, nI_leI (by omega) (by decide)] at z; omega), hmis, xb1_some, if_neg (fun z => by rw [nI_ltI (by omega) (by omega)] at z; omega)]
        have hK : K_X5_sift_55 (nI lies) (nI j) (nI (yMk n (yOr n w j))) g1 = some (.inl (nI (j + 1), xWI (xWI (xWI g1 72 ((List.range j).filter fun o => decide (yWr B k (yOr n w o) (B 9 0) ≤ lies)).length (nI j)) 69 5 (nI (((List.range j).filter fun o => decide (yWr B k (yOr n w o) (B 9 0) ≤ lies)).length + 1))) 69 6 (nI (yAnd n w ((List.range j).filter fun o => decide (yWr B k (yOr n w o) (B 9 0) ≤ lies)) &&& yMk n (yOr n w j))))) := by
          unfold K_X5_sift_55
          simp only [p1, xput_nI (show ((List.range j).filter fun o => decide (yWr B k (yOr n w o) (B 9 0) ≤ lies)).length < 541 by omega) (show (541 : Nat) < 2 ^ 31 by decide)]
          simp [yI_wi, p1, p2, r_andG, nI_1]
        obtain ⟨g', r1, r2⟩ := ih (j + 1) (xWI (xWI (xWI g1 72 ((List.range j).filter fun o => decide (yWr B k (yOr n w o) (B 9 0) ≤ lies)).length (nI j)) 69 5 (nI (((List.range j).filter fun o => decide (yWr B k (yOr n w o) (B 9 0) ≤ lies)).length + 1))) 69 6 (nI (yAnd n w ((List.range j).filter fun o => decide (yWr B k (yOr n w o) (B 9 0) ≤ lies)) &&& yMk n (yOr n w j)))) (by omega) (((a.wi (Or.inl rfl)).wi (Or.inr ⟨rfl, Or.inl rfl⟩)).wi (Or.inr ⟨rfl, Or.inr rfl⟩)) (by
          rw [yFil_succ, if_pos (by simpa using d)]
          refine ⟨?_, ?_, fun i hi => ?_⟩
          · rw [yI_wi, if_neg (by omega), yI_wi, if_pos ⟨rfl, rfl⟩, List.length_append, List.length_singleton]
          · rw [yI_wi, if_pos ⟨rfl, rfl⟩, yAnd_push]
          · rw [yI_wi, if_neg (by omega), yI_wi, if_neg (by omega), yI_wi, yGet_push _ _ _ hi]
            rw [List.length_append, List.length_singleton] at hi
            by_cases e : i = ((List.range j).filter fun o => decide (yWr B k (yOr n w o) (B 9 0) ≤ lies)).length
            · rw [if_pos ⟨rfl, e⟩, if_pos e]
            · rw [if_neg (fun z => e z.2), if_neg e]; exact p3 i (by omega))
        exact ⟨g', (xlim_go (st.trans hK)).trans r1, r2⟩
      · have st : S_X5_sift_12 (nI lies) (nI j, g1) = some (.inl (nI (j + 1), g1)) := by
          unfold S_X5_sift_12
          simp only [if_neg c0, mk1, hh1.2.1]
          rw [if_neg (fun z => d (by have := (r_ask hn hb hw hjm).mp z; omega))]
          by_cases e : nI lies ≤ (0 : Int32)
          · rw [if_pos e, nI_1]
          · rw [if_neg e, hmis, xb1_some, if_pos ((nI_ltI (by omega) (by omega)).mpr (by omega)), nI_1]
        obtain ⟨g', r1, r2⟩ := ih (j + 1) g1 (by omega) a (by
          rw [yFil_succ, if_neg (by simpa using d), List.append_nil]; exact ⟨p1, p2, p3⟩)
        exact ⟨g', (xlim_go st).trans r1, r2⟩
  obtain ⟨g', r1, r2⟩ := key (yN n w) 0 (xWI (xWI g 69 5 0) 69 6 (-1)) (by omega) (((yAg.refl dLC g).wi (Or.inr ⟨rfl, Or.inl rfl⟩)).wi (Or.inr ⟨rfl, Or.inr rfl⟩)) ⟨by rw [yI_wi, if_neg (by omega), yI_wi, if_pos ⟨rfl, rfl⟩]; rfl, by rw [yI_wi, if_pos ⟨rfl, rfl⟩]; rfl, fun j hj => absurd hj (Nat.not_lt_zero _)⟩
  refine ⟨g', ?_, r2⟩
  unfold E_X5_sift
  rw [show ((0 : Int32), xWI (xWI g 69 5 0) 69 6 (-1)) = (nI 0, xWI (xWI g 69 5 0) 69 6 (-1)) from rfl, r1, xb1_some]
def dLR (o k : Nat) : Prop := o = 145 ∨ (o = 113 ∧ k = 53)
theorem r_layLeft {lies : Nat} (hl : lies ≤ 60) (hb : bkOK n B) (ho : I_orders g n w) (hr : bkR g n B) : ∃ g', E_X12_layLeft (nI lies) k g = some g' ∧ yAg dLR g g' ∧ yLR g' (yLs B k n w lies) := by
  have hn := ho.1
  have hw := ho.2.1
  have hlen := (yO_len n (by omega) w (by omega)).2
  have key : ∀ m j g1, m + j = yN n w → yAg dLR g g1 → yLR g1 ((List.range j).filter fun o => decide (yWr B k (yOr n w o) (B 9 0) ≤ lies)) → ∃ g', xlim (S_X12_layLeft_7 (nI lies) k) (nI j, g1) = some g' ∧ yAg dLR g g' ∧ yLR g' (yLs B k n w lies) := by
    intro m
    induction m with
    | zero =>
      intro j g1 hj a q
      have : j = yN n w := by omega
      subst this
      refine ⟨g1, xlim_end ?_, a, q⟩
      unfold S_X12_layLeft_7
      simp only [a.2 113 34 (by unfold dLR; omega), ho.2.2.2.2.1]
      exact if_pos (nI_le (Nat.le_refl _) (by omega))
    | succ m ih =>
      intro j g1 hj a q
      have hjm : j < yN n w := by omega
      have o1 : I_orders g1 n w := ho.ag a (by unfold dLR; omega) (by unfold dLR; omega) (by unfold dLR; omega) (fun o k m => by simp only [List.mem_cons, List.not_mem_nil, or_false] at m; unfold dLR; omega)
      have b1 : bkR g1 n B := hr.ag a (fun o k m => by simp only [List.mem_cons, List.not_mem_nil, or_false] at m; unfold dLR; omega) (by unfold dLR; omega) (by unfold dLR; omega) (by unfold dLR; omega) (by unfold dLR; omega)
      have c0 : ¬ xI g1 113 34 ≤ nI j := by rw [o1.2.2.2.2.1]; exact nI_ge hjm (by omega)
      have hL := yFil_len (fun o => decide (yWr B k (yOr n w o) (B 9 0) ≤ lies)) j
      obtain ⟨p1, p3⟩ := q
      have hcn := yCn_le (fun i => yTd B k i && !(ySd (yOr n w j) (yA B i) (yC B i) == B 2 i)) (B 9 0)
      have hcn : yWr B k (yOr n w j) (B 9 0) ≤ B 9 0 := hcn
      have h60 := hb.1
      by_cases d : yWr B k (yOr n w j) (B 9 0) ≤ lies
      · have st : S_X12_layLeft_7 (nI lies) k (nI j, g1) = some (.inl (nI (j + 1), xWI (xWI g1 145 ((List.range j).filter fun o => decide (yWr B k (yOr n w o) (B 9 0) ≤ lies)).length (nI j)) 113 53 (nI (((List.range j).filter fun o => decide (yWr B k (yOr n w o) (B 9 0) ≤ lies)).length + 1)))) := by
          unfold S_X12_layLeft_7
          simp only [if_neg c0, r_wrongBy hb b1 o1 hjm, xb1_some]
          rw [if_pos ((nI_leI (by omega) (by omega)).mpr d), p1, xck_nI (by omega) (by decide), nI_clamp (by omega), nI_1]
          try simp only [yI_wi]
          simp [p1, nI_1]
        obtain ⟨g', r1, r2⟩ := ih (j + 1) (xWI (xWI g1 145 ((List.range j).filter fun o => decide (yWr B k (yOr n w o) (B 9 0) ≤ lies)).length (nI j)) 113 53 (nI (((List.range j).filter fun o => decide (yWr B k (yOr n w o) (B 9 0) ≤ lies)).length + 1))) (by omega) ((a.wi (Or.inl rfl)).wi (Or.inr ⟨rfl, rfl⟩)) (by
          rw [yFil_succ, if_pos (by simpa using d)]
          refine ⟨?_, fun i hi => ?_⟩
          · rw [yI_wi, if_pos ⟨rfl, rfl⟩, List.length_append, List.length_singleton]
          · rw [yI_wi, if_neg (by omega), yI_wi, yGet_push _ _ _ hi]
            rw [List.length_append, List.length_singleton] at hi
            by_cases e : i = ((List.range j).filter fun o => decide (yWr B k (yOr n w o) (B 9 0) ≤ lies)).length
            · rw [if_pos ⟨rfl, e⟩, if_pos e]
            · rw [if_neg (fun z => e z.2), if_neg e]; exact p3 i (by omega))
        exact ⟨g', (xlim_go st).trans r1, r2⟩
      · have st : S_X12_layLeft_7 (nI lies) k (nI j, g1) = some (.inl (nI (j + 1), g1)) := by
          unfold S_X12_layLeft_7
          simp only [if_neg c0, r_wrongBy hb b1 o1 hjm, xb1_some]
          rw [if_neg (fun z => d ((nI_leI (by omega) (by omega)).mp z)), nI_1]
        obtain ⟨g', r1, r2⟩ := ih (j + 1) g1 (by omega) a (by
          rw [yFil_succ, if_neg (by simpa using d), List.append_nil]; exact ⟨p1, p3⟩)
        exact ⟨g', (xlim_go st).trans r1, r2⟩
  obtain ⟨g', r1, r2⟩ := key (yN n w) 0 (xWI g 113 53 0) (by omega) ((yAg.refl dLR g).wi (Or.inr ⟨rfl, rfl⟩)) ⟨by rw [yI_wi, if_pos ⟨rfl, rfl⟩]; rfl, fun j hj => absurd hj (Nat.not_lt_zero _)⟩
  refine ⟨g', ?_, r2⟩
  unfold E_X12_layLeft
  rw [show ((0 : Int32), xWI g 113 53 0) = (nI 0, xWI g 113 53 0) from rfl, r1, xb1_some]
end LF
