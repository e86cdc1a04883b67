/-! CALL heaps -/
section HP
variable {g g' : xSt} {β n st R Q v : Nat} {T B : yT} {P : List Nat} {k a1 a2 a3 a4 a5 : Int32}
/-- how many at the worst are left by a pair of heaps -/
def yWf (n st : Nat) (P : List Nat) (a b : Nat) : Nat := max (max (yCo n st a b 1 P) (yCo n st a b 2 P)) (yCo n st a b 0 P)
theorem yBl_sym (st x y : Nat) : (yBl st x y = 1 ↔ yBl st y x = 2) ∧ (yBl st x y = 0 ↔ yBl st y x = 0) := by
  unfold yBl
  constructor
  · constructor
    · intro h; split at h
      · rw [if_neg (by omega), if_pos (by omega)]
      · split at h <;> cases h
    · intro h; split at h
      · cases h
      · split at h
        · rw [if_pos (by omega)]
        · cases h
  · constructor
    · intro h; split at h
      · cases h
      · split at h
        · cases h
        · rw [if_neg (by omega), if_neg (by omega)]
    · intro h; split at h
      · cases h
      · split at h
        · cases h
        · rw [if_neg (by omega), if_neg (by omega)]
theorem yWf_sym (n st : Nat) (P : List Nat) (a b : Nat) : yWf n st P a b = yWf n st P b a := by
  have e1 : yCo n st a b 1 P = yCo n st b a 2 P := by
    unfold yCo
    congr 1
    refine List.filter_congr fun v _ => ?_
    rw [Bool.eq_iff_iff, beq_iff_eq, beq_iff_eq]; exact (yBl_sym _ _ _).1
  have e2 : yCo n st b a 1 P = yCo n st a b 2 P := by
    unfold yCo
    congr 1
    refine List.filter_congr fun v _ => ?_
    rw [Bool.eq_iff_iff, beq_iff_eq, beq_iff_eq]; exact (yBl_sym _ _ _).1
  have e0 : yCo n st a b 0 P = yCo n st b a 0 P := by
    unfold yCo
    congr 1
    refine List.filter_congr fun v _ => ?_
    rw [Bool.eq_iff_iff, beq_iff_eq, beq_iff_eq]; exact (yBl_sym _ _ _).2
  unfold yWf
  rw [e1, e2, e0, Nat.max_comm (yCo n st b a 2 P)]
theorem yWf_le (n st : Nat) (P : List Nat) (a b : Nat) : yWf n st P a b ≤ P.length := by
  have := yCo_sum n st a b P
  unfold yWf; omega
/-- the class picks the first best one -/
def yBi (f : Nat → Nat) (m b : Nat) : Prop := b < m ∧ ∀ j, j < m → f b ≤ f j ∧ (j < b → f b < f j)
theorem r_pick {f : Nat → Nat} (hQ : Q ≤ 90) (hQ0 : Q ≠ 0) (hP : P.length < 10000) (hP0 : P ≠ []) (h13 : xI g 98 13 = nI Q) (h11 : xI g 98 11 = nI P.length) (hf : ∀ i, i < Q → imax (imax (xat (xI g 109) 90 (nI i)) (xat (xI g 110) 90 (nI i))) ((nI P.length - xat (xI g 109) 90 (nI i)) - xat (xI g 110) 90 (nI i)) = nI (f i) ∧ f i < 10000) : ∃ b, yBi f Q b ∧ xlim (S_X1_bestHeaps_28 a1) (-1, 0, 0, g) = some (nI b, nI (f b), g) := by
  have hpos : ¬ nI P.length ≤ (0 : Int32) := fun z => hP0 (List.eq_nil_of_length_eq_zero ((r_le0 (by omega)).mp z))
  have step : ∀ i b, i < Q → b < 90 → S_X1_bestHeaps_28 a1 (nI b, nI (f b), nI i, g) = if nI (f b) ≤ nI (f i) then some (.inl (nI b, nI (f b), nI (i + 1), g)) else some (.inl (nI i, nI (f i), nI (i + 1), g)) := by
    intro i b hi hb
    unfold S_X1_bestHeaps_28
    simp only [h13, h11, if_neg (nI_ge hi (show Q < 2 ^ 31 by omega)), if_neg hpos, (hf i hi).1, nI_1]
    rw [if_neg (show ¬ nI b = (-1 : Int32) from fun z => absurd (z ▸ nI_pos (n := b) (by omega)) (by decide))]
  have step0 : S_X1_bestHeaps_28 a1 (-1, 0, nI 0, g) = some (.inl (nI 0, nI (f 0), nI 1, g)) := by
    unfold S_X1_bestHeaps_28
    simp only [h13, h11, if_neg (nI_ge (show 0 < Q by omega) (show Q < 2 ^ 31 by omega)), if_neg hpos, (hf 0 (by omega)).1, if_true]
    rfl
  have key : ∀ m i b, m + i = Q → 0 < i → yBi f i b → ∃ b', yBi f Q b' ∧ xlim (S_X1_bestHeaps_28 a1) (nI b, nI (f b), nI i, g) = some (nI b', nI (f b'), g) := by
    intro m
    induction m with
    | zero =>
      intro i b hi _ hb
      have : i = Q := by omega
      subst this
      refine ⟨b, hb, xlim_end ?_⟩
      unfold S_X1_bestHeaps_28
      simp only [h13]
      exact if_pos (nI_le (Nat.le_refl _) (by omega))
    | succ m ih =>
      intro i b hi h0 hb
      have hiQ : i < Q := by omega
      have st := step i b hiQ (by have := hb.1; omega)
      have f1 := (hf i hiQ).2
      have f2 := (hf b (by have := hb.1; omega)).2
      by_cases c : f b ≤ f i
      · rw [if_pos (nI_le c (by omega))] at st
        obtain ⟨b', r1, r2⟩ := ih (i + 1) b (by omega) (by omega) ⟨by have := hb.1; omega, fun j hj => by
          by_cases e : j = i
          · subst e; exact ⟨c, fun z => by have := hb.1; omega⟩
          · exact hb.2 j (by omega)⟩
        exact ⟨b', r1, (xlim_go st).trans r2⟩
      · rw [if_neg (fun z => c ((nI_leI (by omega) (by omega)).mp z))] at st
        obtain ⟨b', r1, r2⟩ := ih (i + 1) i (by omega) (by omega) ⟨Nat.lt_succ_self i, fun j hj => by
          by_cases e : j = i
          · subst e; exact ⟨Nat.le_refl _, fun z => by omega⟩
          · have := (hb.2 j (by omega)).1
            exact ⟨by omega, fun _ => by omega⟩⟩
        exact ⟨b', r1, (xlim_go st).trans r2⟩
  obtain ⟨b, r1, r2⟩ := key (Q - 1) 1 0 (by omega) (by decide) ⟨by decide, fun j hj => by
    have : j = 0 := by omega
    subst this; exact ⟨Nat.le_refl _, fun z => by omega⟩⟩
  exact ⟨b, r1, (xlim_go step0).trans r2⟩
/-! the reference -/
def dWo (o k : Nat) : Prop := o = 166 ∨ o = 170
theorem dWo_A : ∀ o k, dWo o k → dA o k := fun o k h => by unfold dWo at h; unfold dA; omega
def dHe (o k : Nat) : Prop := o = 166 ∨ o = 170 ∨ o = 173
theorem dHe_A : ∀ o k, dHe o k → dA o k := fun o k h => by unfold dHe at h; unfold dA; omega
theorem r_worst (C : Cx g β T B) (hP : P.length ≤ 7776) (hb7 : ∀ i, i < P.length → P.getD i 0 < 7776) (hr : ∀ i, i < P.length → xI g 173 i = nI (P.getD i 0)) {a b : Nat} (ha : a < 32) (hb : b < 32) : ∃ g', E_X12_worstOf (nI a) (nI b) (nI P.length) g = some (nI (yWf (T 0 0) (T 0 2) P a b), g') ∧ yAg dWo g g' := by
  have z3 : xlim (S_X12_worstOf_3 (nI a) (nI b) (nI P.length)) (0, g) = some (xWI (xWI (xWI g 170 0 0) 170 1 0) 170 2 0) := by
    have e := xlim_of (step := S_X12_worstOf_3 (nI a) (nI b) (nI P.length)) (fun j => (nI j, if j = 0 then g else if j = 1 then xWI g 170 0 0 else if j = 2 then xWI (xWI g 170 0 0) 170 1 0 else xWI (xWI (xWI g 170 0 0) 170 1 0) 170 2 0)) 3 (e := xWI (xWI (xWI g 170 0 0) 170 1 0) 170 2 0) (fun j hj => ?_) ?_
    · exact e
    · unfold S_X12_worstOf_3
      have h3 : ¬ (3 : Int32) ≤ nI j := by rw [show (3 : Int32) = nI 3 from rfl]; exact nI_ge hj (by decide)
      simp only [if_neg h3, xck_nI hj (show (3 : Nat) < 2 ^ 31 by decide), nI_clamp (show j < 2 ^ 31 by omega), nI_1]
      have : j = 0 ∨ j = 1 ∨ j = 2 := by omega
      rcases this with rfl | rfl | rfl <;> rfl
    · unfold S_X12_worstOf_3
      exact if_pos (show (3 : Int32) ≤ nI 3 by decide)
  generalize hG : xWI (xWI (xWI g 170 0 0) 170 1 0) 170 2 0 = G at z3
  have yG : yAg dWo g G := by rw [← hG]; exact (((yAg.refl _ g).wi (Or.inr rfl)).wi (Or.inr rfl)).wi (Or.inr rfl)
  have fG : ∀ s, s < 3 → xI G 170 s = nI (yCo (T 0 0) (T 0 2) a b s (P.take 0)) := fun s hs => by
    rw [← hG]
    have : s = 0 ∨ s = 1 ∨ s = 2 := by omega
    rcases this with rfl | rfl | rfl
    · rw [yI_wi, if_neg (by decide), yI_wi, if_neg (by decide), yI_wi, if_pos ⟨rfl, rfl⟩]; rfl
    · rw [yI_wi, if_neg (by decide), yI_wi, if_pos ⟨rfl, rfl⟩]; rfl
    · rw [yI_wi, if_pos ⟨rfl, rfl⟩]; rfl
  have key : ∀ m i g1, m + i = P.length → yAg dWo g g1 → (∀ s, s < 3 → xI g1 170 s = nI (yCo (T 0 0) (T 0 2) a b s (P.take i))) → ∃ g', xlim (S_X12_worstOf_26 (nI a) (nI b) (nI P.length)) (nI i, g1) = some g' ∧ yAg dWo g g' ∧ ∀ s, s < 3 → xI g' 170 s = nI (yCo (T 0 0) (T 0 2) a b s P) := by
    intro m
    induction m with
    | zero =>
      intro i g1 hi y s
      have : i = P.length := by omega
      subst this
      rw [List.take_length] at s
      exact ⟨g1, xlim_end (if_pos (nI_le (Nat.le_refl _) (by omega))), y, s⟩
    | succ m ih =>
      intro i g1 hi y s
      have hip : i < P.length := by omega
      have C1 := C.as (y.up dWo_A).A
      obtain ⟨g2, w1, w2, w3⟩ := r_layW (v := P.getD i 0) C1 (by have := hb7 i hip; omega)
      have C2 := C1.as (w2.up dWt_A).A
      have so := r_saysOf C2 w3 ha hb
      have hle : ySo (T 0 0) (T 0 2) (P.getD i 0) a b ≤ 2 := yBl_le _ _ _
      have s2 : ∀ s, s < 3 → xI g2 170 s = nI (yCo (T 0 0) (T 0 2) a b s (P.take i)) := fun x hx => (w2.2 _ _ (by unfold dWt; omega)).trans (s x hx)
      have tk : P.take (i + 1) = P.take i ++ [P.getD i 0] := by
        rw [List.take_succ_eq_append_getElem hip, yGet hip]
      have st : S_X12_worstOf_26 (nI a) (nI b) (nI P.length) (nI i, g1) = some (.inl (nI (i + 1), xWI g2 170 (ySo (T 0 0) (T 0 2) (P.getD i 0) a b) (nI (yCo (T 0 0) (T 0 2) a b (ySo (T 0 0) (T 0 2) (P.getD i 0) a b) (P.take i) + 1)))) := by
        unfold S_X12_worstOf_26
        simp only [if_neg (nI_ge hip (show P.length < 2 ^ 31 by omega)), xck_nI (show i < 7776 by omega) (show (7776 : Nat) < 2 ^ 31 by decide), nI_clamp (show i < 2 ^ 31 by omega), y.2 173 i (by unfold dWo; omega), hr i hip, w1, xb1_some, so, xck_nI (show ySo (T 0 0) (T 0 2) (P.getD i 0) a b < 3 by omega) (show (3 : Nat) < 2 ^ 31 by decide), nI_clamp (show ySo (T 0 0) (T 0 2) (P.getD i 0) a b < 2 ^ 31 by omega), s2 _ (show ySo (T 0 0) (T 0 2) (P.getD i 0) a b < 3 by omega), nI_1]
      obtain ⟨g', r1, r2⟩ := ih (i + 1) (xWI g2 170 (ySo (T 0 0) (T 0 2) (P.getD i 0) a b) (nI (yCo (T 0 0) (T 0 2) a b (ySo (T 0 0) (T 0 2) (P.getD i 0) a b) (P.take i) + 1))) (by omega) ((y.tr (w2.up (fun o k h => Or.inl h))).wi (Or.inr rfl)) (fun x hx => by
        rw [yI_wi, tk, yCo_push]
        by_cases e : x = ySo (T 0 0) (T 0 2) (P.getD i 0) a b
        · rw [if_pos ⟨rfl, e⟩, if_pos e.symm, e]
        · rw [if_neg (fun z => e z.2), if_neg (fun z => e z.symm)]; exact s2 x hx)
      exact ⟨g', (xlim_go st).trans r1, r2⟩
  obtain ⟨g1, r1, r2, r3⟩ := key P.length 0 G (by omega) yG fG
  have sum := yCo_sum (T 0 0) (T 0 2) a b P
  have e := xlim_of (step := S_X12_worstOf_70) (fun j => (nI (yMax (fun s => yCo (T 0 0) (T 0 2) a b s P) j), nI j, g1)) 3 (e := (nI (yMax (fun s => yCo (T 0 0) (T 0 2) a b s P) 3), g1)) (fun j hj => ?_) ?_
  · refine ⟨g1, ?_, r2⟩
    unfold E_X12_worstOf
    rw [z3, xb1_some, show xlim (S_X12_worstOf_26 (nI a) (nI b) (nI P.length)) (0, G) = some g1 from r1, xb1_some, show xlim (S_X12_worstOf_70) (0, 0, g1) = _ from e, xb1_some]
    refine congrArg (fun z => some (nI z, g1)) ?_
    show max (max (max 0 (yCo (T 0 0) (T 0 2) a b 0 P)) (yCo (T 0 0) (T 0 2) a b 1 P)) (yCo (T 0 0) (T 0 2) a b 2 P) = _
    unfold yWf; omega
  · unfold S_X12_worstOf_70
    have h3 : ¬ (3 : Int32) ≤ nI j := by rw [show (3 : Int32) = nI 3 from rfl]; exact nI_ge hj (by decide)
    have cb : ∀ s, s < 3 → yCo (T 0 0) (T 0 2) a b s P ≤ P.length := fun s hs => by
      have : s = 0 ∨ s = 1 ∨ s = 2 := by omega
      rcases this with rfl | rfl | rfl <;> omega
    have mx := yMax_le (s := fun s => yCo (T 0 0) (T 0 2) a b s P) (c := P.length) j (fun s hs => cb s (by omega))
    have cj := cb j hj
    simp only [if_neg h3, xck_nI hj (show (3 : Nat) < 2 ^ 31 by decide), nI_clamp (show j < 2 ^ 31 by omega), r3 j hj, nI_1]
    show _ = some (Sum.inl (nI (max (yMax (fun s => yCo (T 0 0) (T 0 2) a b s P) j) (yCo (T 0 0) (T 0 2) a b j P)), _))
    by_cases c : yCo (T 0 0) (T 0 2) a b j P ≤ yMax (fun s => yCo (T 0 0) (T 0 2) a b s P) j
    · rw [if_pos (nI_le c (by omega)), Nat.max_eq_left c]
    · rw [if_neg (fun z => c ((nI_leI (by omega) (by omega)).mp z)), Nat.max_eq_right (by omega)]
  · unfold S_X12_worstOf_70
    exact if_pos (show (3 : Int32) ≤ nI 3 by decide)
theorem yFw_get {i : Nat} (hi : i < (yFw T B k v).length) : (yFw T B k v).getD i 0 < v := by
  rw [yGet hi]
  have m : (yFw T B k v)[i] ∈ yFw T B k v := List.getElem_mem hi
  exact List.mem_range.mp (List.mem_filter.mp m).1
theorem r_fits (C : Cx g β T B) : ∃ g', xlim (S_X12_heaps_24 a1 k) (0, 0, g) = some (nI (yFw T B k (6 ^ T 0 0)).length, g') ∧ yAg dHe g g' ∧ ∀ i, i < (yFw T B k (6 ^ T 0 0)).length → xI g' 173 i = nI ((yFw T B k (6 ^ T 0 0)).getD i 0) := by
  have h6 := r_6n C
  have key : ∀ m v g1, m + v = 6 ^ T 0 0 → yAg dHe g g1 → (∀ i, i < (yFw T B k v).length → xI g1 173 i = nI ((yFw T B k v).getD i 0)) → ∃ g', xlim (S_X12_heaps_24 a1 k) (nI (yFw T B k v).length, nI v, g1) = some (nI (yFw T B k (6 ^ T 0 0)).length, g') ∧ yAg dHe g g' ∧ ∀ i, i < (yFw T B k (6 ^ T 0 0)).length → xI g' 173 i = nI ((yFw T B k (6 ^ T 0 0)).getD i 0) := by
    intro m
    induction m with
    | zero =>
      intro v g1 hv y s
      have : v = 6 ^ T 0 0 := by omega
      subst this
      have C1 := C.as (y.up dHe_A).A
      refine ⟨g1, xlim_end ?_, y, s⟩
      unfold S_X12_heaps_24
      simp only [r_wRows C1, xb1_some]
      exact if_pos (nI_le (Nat.le_refl _) (by omega))
    | succ m ih =>
      intro v g1 hv y s
      have hv6 : v < 6 ^ T 0 0 := by omega
      have C1 := C.as (y.up dHe_A).A
      obtain ⟨g2, w1, w2, w3⟩ := r_layW (v := v) C1 (by omega)
      have C2 := C1.as (w2.up dWt_A).A
      have fit := r_doFit (k := k) C2 w3
      have hlen := yFw_len (T := T) (B := B) (k := k) (v := v)
      have s2 : ∀ i, i < (yFw T B k v).length → xI g2 173 i = nI ((yFw T B k v).getD i 0) := fun i hi => (w2.2 _ _ (by unfold dWt; omega)).trans (s i hi)
      have y2 : yAg dHe g g2 := y.tr (w2.up (fun o k h => Or.inl h))
      by_cases c : yFv T B k v = true
      · have e : yFw T B k (v + 1) = yFw T B k v ++ [v] := by rw [yFw_succ, if_pos c]
        have st : S_X12_heaps_24 a1 k (nI (yFw T B k v).length, nI v, g1) = some (.inl (nI (yFw T B k (v + 1)).length, nI (v + 1), xWI g2 173 (yFw T B k v).length (nI v))) := by
          unfold S_X12_heaps_24
          simp only [r_wRows C1, xb1_some, if_neg (nI_ge hv6 (show 6 ^ T 0 0 < 2 ^ 31 by omega)), w1, fit, if_pos c, if_neg (show ¬ (1 : Int32) = 0 by decide), xck_nI (show (yFw T B k v).length < 7776 by omega) (show (7776 : Nat) < 2 ^ 31 by decide), nI_clamp (show (yFw T B k v).length < 2 ^ 31 by omega), nI_1, e, List.length_append, List.length_singleton]
        obtain ⟨g', r1, r2⟩ := ih (v + 1) (xWI g2 173 (yFw T B k v).length (nI v)) (by omega) (y2.wi (Or.inr (Or.inr rfl))) (fun i hi => by
          rw [e] at hi ⊢
          rw [yI_wi, yGet_push _ _ _ hi]
          rw [List.length_append, List.length_singleton] at hi
          by_cases z : i = (yFw T B k v).length
          · rw [if_pos ⟨rfl, z⟩, if_pos z]
          · rw [if_neg (fun w => z w.2), if_neg z]; exact s2 i (by omega))
        exact ⟨g', (xlim_go st).trans r1, r2⟩
      · have e : yFw T B k (v + 1) = yFw T B k v := by rw [yFw_succ, if_neg c, List.append_nil]
        have st : S_X12_heaps_24 a1 k (nI (yFw T B k v).length, nI v, g1) = some (.inl (nI (yFw T B k (v + 1)).length, nI (v + 1), g2)) := by
          unfold S_X12_heaps_24
          simp only [r_wRows C1, xb1_some, if_neg (nI_ge hv6 (show 6 ^ T 0 0 < 2 ^ 31 by omega)), w1, fit, if_neg c, if_true, nI_1, e]
        obtain ⟨g', r1, r2⟩ := ih (v + 1) g2 (by omega) y2 (by rw [e]; exact s2)
        exact ⟨g', (xlim_go st).trans r1, r2⟩
  obtain ⟨g', r1, r2⟩ := key (6 ^ T 0 0) 0 g (by omega) (yAg.refl _ _) (fun i hi => absurd hi (Nat.not_lt_zero _))
  exact ⟨g', r1, r2⟩
/-- a pair of heaps by its number -/
def yVa (n x : Nat) : Prop := 0 < x / 32 ∧ x / 32 < 2 ^ n ∧ 0 < x % 32 ∧ x % 32 < 2 ^ n ∧ x / 32 &&& x % 32 = 0
/-- the best one below c -/
def yBb (n : Nat) (f : Nat → Nat) (c : Nat) (bs ls : Int32) : Prop := (bs = -1 ∧ ls = 0 ∧ ∀ y, y < c → ¬ yVa n y) ∨ ∃ x, x < c ∧ yVa n x ∧ bs = nI x ∧ ls = nI (f x) ∧ ∀ y, y < c → yVa n y → f x ≤ f y ∧ (y < x → f x < f y)
theorem yBb_skip {f : Nat → Nat} {c d : Nat} {bs ls : Int32} (hcd : c ≤ d) (h : ∀ y, c ≤ y → y < d → ¬ yVa n y) (q : yBb n f c bs ls) : yBb n f d bs ls := by
  have lo : ∀ y, y < d → yVa n y → y < c := fun y hy hv => by
    by_cases e : y < c
    · exact e
    · exact absurd hv (h y (by omega) hy)
  rcases q with ⟨h1, h2, h3⟩ | ⟨x, h1, h2, h3, h4, h5⟩
  · exact Or.inl ⟨h1, h2, fun y hy hv => h3 y (lo y hy hv) hv⟩
  · exact Or.inr ⟨x, by omega, h2, h3, h4, fun y hy hv => h5 y (lo y hy hv) hv⟩
theorem r_heapsR (C : Cx g β T B) (hP : P.length ≤ 7776) (hb7 : ∀ i, i < P.length → P.getD i 0 < 7776) (hr : ∀ i, i < P.length → xI g 173 i = nI (P.getD i 0)) : ∃ g' bs ls, xlim (S_X12_heaps_82 a1 (nI P.length)) (-1, 0, 1, g) = some (bs, ls, g') ∧ yAg dWo g g' ∧ yBb (T 0 0) (fun x => yWf (T 0 0) (T 0 2) P (x / 32) (x % 32)) 1024 bs ls := by
  have hn := C.2.2.2.1
  have hpw : 2 ^ T 0 0 ≤ 32 := Nat.pow_le_pow_right (n := 2) (by decide) hn
  have h1p : 1 ≤ 2 ^ T 0 0 := Nat.two_pow_pos _
  have fle : ∀ x, yWf (T 0 0) (T 0 2) P (x / 32) (x % 32) ≤ 7776 := fun x => Nat.le_trans (yWf_le _ _ _ _ _) hP
  have inner : ∀ a, 0 < a → a < 2 ^ T 0 0 → ∀ m b g1 bs ls, m + b = 2 ^ T 0 0 → 0 < b → yAg dWo g g1 → yBb (T 0 0) (fun x => yWf (T 0 0) (T 0 2) P (x / 32) (x % 32)) (32 * a + b) bs ls → ∃ g' bs' ls', xlim (S_X12_heaps_96 a1 (nI P.length) (nI a)) (bs, ls, nI b, g1) = some (bs', ls', g') ∧ yAg dWo g g' ∧ yBb (T 0 0) (fun x => yWf (T 0 0) (T 0 2) P (x / 32) (x % 32)) (32 * a + 2 ^ T 0 0) bs' ls' := by
    intro a ha0 ha m
    induction m with
    | zero =>
      intro b g1 bs ls hb _ y q
      have : b = 2 ^ T 0 0 := by omega
      subst this
      have C1 := C.as (y.up dWo_A).A
      refine ⟨g1, bs, ls, xlim_end ?_, y, q⟩
      unfold S_X12_heaps_96
      simp only [r_thingMany C1.2.1, xb1_some, r_shl2 _ (show T 0 0 < 6 by omega)]
      exact if_pos (nI_le (Nat.le_refl _) (by omega))
    | succ m ih =>
      intro b g1 bs ls hb hb0 y q
      have hbn : b < 2 ^ T 0 0 := by omega
      have C1 := C.as (y.up dWo_A).A
      have hand : (nI a &&& nI b = (0 : Int32)) ↔ a &&& b = 0 := r_and a (by omega) b (by omega)
      have e1 : (32 * a + b) / 32 = a := by omega
      have e2 : (32 * a + b) % 32 = b := by omega
      by_cases c : a &&& b = 0
      · have va : yVa (T 0 0) (32 * a + b) := ⟨by omega, by omega, by omega, by omega, by rw [e1, e2]; exact c⟩
        obtain ⟨g2, w1, w2⟩ := r_worst C1 hP hb7 (fun i hi => (y.2 173 i (by unfold dWo; omega)).trans (hr i hi)) (show a < 32 by omega) (show b < 32 by omega)
        have fv := fle (32 * a + b)
        rw [e1, e2] at fv
        have st : S_X12_heaps_96 a1 (nI P.length) (nI a) (bs, ls, nI b, g1) = if bs < 0 then some (.inl (nI (32 * a + b), nI (yWf (T 0 0) (T 0 2) P a b), nI (b + 1), g2)) else if nI (yWf (T 0 0) (T 0 2) P a b) < ls then some (.inl (nI (32 * a + b), nI (yWf (T 0 0) (T 0 2) P a b), nI (b + 1), g2)) else some (.inl (bs, ls, nI (b + 1), g2)) := by
          unfold S_X12_heaps_96
          simp only [r_thingMany C1.2.1, xb1_some, r_shl2 _ (show T 0 0 < 6 by omega), if_neg (nI_ge hbn (show 2 ^ T 0 0 < 2 ^ 31 by omega)), if_pos (hand.mpr c), w1, xb2_some, show (32 : Int32) = nI 32 from rfl, nI_mul, nI_add, nI_1]
        rcases q with ⟨h1, h2, h3⟩ | ⟨x, h1, h2, h3, h4, h5⟩
        · rw [h1, if_pos (by decide)] at st
          obtain ⟨g', bs', ls', r1, r2⟩ := ih (b + 1) g2 (nI (32 * a + b)) (nI (yWf (T 0 0) (T 0 2) P a b)) (by omega) (by omega) (y.tr w2) (Or.inr ⟨32 * a + b, by omega, va, rfl, by dsimp only; rw [e1, e2], fun y hy hv => by
            by_cases e : y = 32 * a + b
            · subst e; exact ⟨Nat.le_refl _, fun z => by omega⟩
            · exact absurd hv (h3 y (by omega))⟩)
          rw [h1]
          exact ⟨g', bs', ls', (xlim_go st).trans r1, r2⟩
        · have fx := fle x
          rw [h3, h4, if_neg (nI_pos (by omega))] at st
          by_cases d : yWf (T 0 0) (T 0 2) P a b < yWf (T 0 0) (T 0 2) P (x / 32) (x % 32)
          · rw [if_pos (nI_lt d (by omega))] at st
            obtain ⟨g', bs', ls', r1, r2⟩ := ih (b + 1) g2 (nI (32 * a + b)) (nI (yWf (T 0 0) (T 0 2) P a b)) (by omega) (by omega) (y.tr w2) (Or.inr ⟨32 * a + b, by omega, va, rfl, by dsimp only; rw [e1, e2], fun y hy hv => by
              dsimp only
              rw [e1, e2]
              by_cases e : y = 32 * a + b
              · rw [e, e1, e2]; exact ⟨Nat.le_refl _, fun z => by omega⟩
              · have := (h5 y (by omega) hv).1
                dsimp only at this
                exact ⟨by omega, fun _ => by omega⟩⟩)
            rw [h3, h4]
            exact ⟨g', bs', ls', (xlim_go st).trans r1, r2⟩
          · rw [if_neg (fun z => d ((nI_ltI (by omega) (by omega)).mp z))] at st
            obtain ⟨g', bs', ls', r1, r2⟩ := ih (b + 1) g2 (nI x) (nI (yWf (T 0 0) (T 0 2) P (x / 32) (x % 32))) (by omega) (by omega) (y.tr w2) (Or.inr ⟨x, by omega, h2, rfl, rfl, fun y hy hv => by
              by_cases e : y = 32 * a + b
              · rw [e]; dsimp only; rw [e1, e2]; exact ⟨by omega, fun z => by omega⟩
              · exact h5 y (by omega) hv⟩)
            rw [h3, h4]
            exact ⟨g', bs', ls', (xlim_go st).trans r1, r2⟩
      · have st : S_X12_heaps_96 a1 (nI P.length) (nI a) (bs, ls, nI b, g1) = some (.inl (bs, ls, nI (b + 1), g1)) := by
          unfold S_X12_heaps_96
          simp only [r_thingMany C1.2.1, xb1_some, r_shl2 _ (show T 0 0 < 6 by omega), if_neg (nI_ge hbn (show 2 ^ T 0 0 < 2 ^ 31 by omega)), if_neg (fun z => c (hand.mp z)), nI_1]
        obtain ⟨g', bs', ls', r1, r2⟩ := ih (b + 1) g1 bs ls (by omega) (by omega) y (yBb_skip (by omega) (fun y h1 h2 hv => by
          have : y = 32 * a + b := by omega
          subst this
          have := hv.2.2.2.2
          rw [e1, e2] at this
          exact c this) q)
        exact ⟨g', bs', ls', (xlim_go st).trans r1, r2⟩
  have outer : ∀ m a g1 bs ls, m + a = 2 ^ T 0 0 → 0 < a → yAg dWo g g1 → yBb (T 0 0) (fun x => yWf (T 0 0) (T 0 2) P (x / 32) (x % 32)) (32 * a) bs ls → ∃ g' bs' ls', xlim (S_X12_heaps_82 a1 (nI P.length)) (bs, ls, nI a, g1) = some (bs', ls', g') ∧ yAg dWo g g' ∧ yBb (T 0 0) (fun x => yWf (T 0 0) (T 0 2) P (x / 32) (x % 32)) 1024 bs' ls' := by
    intro m
    induction m with
    | zero =>
      intro a g1 bs ls ha _ y q
      have : a = 2 ^ T 0 0 := by omega
      subst this
      have C1 := C.as (y.up dWo_A).A
      refine ⟨g1, bs, ls, xlim_end ?_, y, yBb_skip (by omega) (fun y h1 h2 hv => by have := hv.2.1; omega) q⟩
      unfold S_X12_heaps_82
      simp only [r_thingMany C1.2.1, xb1_some, r_shl2 _ (show T 0 0 < 6 by omega)]
      exact if_pos (nI_le (Nat.le_refl _) (by omega))
    | succ m ih =>
      intro a g1 bs ls ha ha0 y q
      have han : a < 2 ^ T 0 0 := by omega
      have C1 := C.as (y.up dWo_A).A
      obtain ⟨g2, bs2, ls2, r1, r2, r3⟩ := inner a ha0 han (2 ^ T 0 0 - 1) 1 g1 bs ls (by omega) (by decide) y (yBb_skip (by omega) (fun y h1 h2 hv => by
        have := hv.2.2.1
        omega) q)
      have st : S_X12_heaps_82 a1 (nI P.length) (bs, ls, nI a, g1) = some (.inl (bs2, ls2, nI (a + 1), g2)) := by
        unfold S_X12_heaps_82
        simp only [r_thingMany C1.2.1, xb1_some, r_shl2 _ (show T 0 0 < 6 by omega), if_neg (nI_ge han (show 2 ^ T 0 0 < 2 ^ 31 by omega)), nI_1]
        rw [show xlim (S_X12_heaps_96 a1 (nI P.length) (nI a)) (bs, ls, 1, g1) = _ from r1, xb1_some]
      obtain ⟨g', bs', ls', r4, r5⟩ := ih (a + 1) g2 bs2 ls2 (by omega) (by omega) r2 (yBb_skip (by omega) (fun y h1 h2 hv => by
        have := hv.2.2.2.1
        omega) r3)
      exact ⟨g', bs', ls', (xlim_go st).trans r4, r5⟩
  exact outer (2 ^ T 0 0 - 1) 1 g (-1) 0 (by omega) (by decide) (yAg.refl _ _) (Or.inl ⟨rfl, rfl, fun y hy hv => by have := hv.1; omega⟩)
theorem yAp_mono (hn : n ≤ 5) {i j : Nat} (hij : i < j) (hj : j < (yAp n).length) : 32 * yA1 n i + yA2 n i < 32 * yA1 n j + yA2 n j := by
  have key : ∀ m, i + 1 + m < (yAp n).length → 32 * yA1 n i + yA2 n i < 32 * yA1 n (i + 1 + m) + yA2 n (i + 1 + m) := by
    intro m
    induction m with
    | zero => intro h; exact yAp_up n (by omega) i (by omega) h
    | succ m ih => intro h; exact Nat.lt_trans (ih (by omega)) (yAp_up n (by omega) (i + 1 + m) (by omega) h)
  have := key (j - (i + 1)) (by omega)
  rw [show i + 1 + (j - (i + 1)) = j by omega] at this
  exact this
theorem yAp_has (hn : n ≤ 5) {a b : Nat} (ha : 0 < a) (hab : a < b) (hb : b < 2 ^ n) (h0 : a &&& b = 0) : ∃ i, i < (yAp n).length ∧ yA1 n i = a ∧ yA2 n i = b := by
  have h := yAp_in n (by omega)
  simp only [List.all_eq_true, List.mem_range] at h
  have := h a (by omega) b hb
  simp only [ha, hab, h0, decide_true, Bool.and_self, beq_self_eq_true, Bool.not_true, Bool.false_or, List.any_eq_true, List.mem_range, Bool.and_eq_true, beq_iff_eq] at this
  obtain ⟨i, h1, h2, h3⟩ := this
  exact ⟨i, h1, h2, h3⟩
/-- the class's rows behind asking all -/
theorem r_allAsked (C : Cx g β T B) (q : I_guess g) : ∃ g1 g2, E_X1_load (tw g) k g = some g1 ∧ E_X1_bestHeaps a1 g1 = K_X1_bestHeaps_21 a1 g2 ∧ yAg dGu g g2 ∧ I_guess g2 ∧ yAc g2 (T 0 0) (T 0 2) (yFw T B k (6 ^ T 0 0)) (yAp (T 0 0)).length (yA1 (T 0 0)) (yA2 (T 0 0)) ∧ yAk g2 (yAp (T 0 0)) := by
  have hn := C.2.2.2.1
  have ok := yAp_ok (T 0 0) (by omega)
  obtain ⟨g1, r1, r2, r3, r4⟩ := r_loadG (k := k) C q
  rcases r_fresh hn C.2.1.1.2.2.1 (yRu_rl C.2.2.1.1) r3 r4 with z | ⟨Q, qa, qb, z1, z2, z3, z4⟩
  · obtain ⟨g2, s1, s2, s3⟩ := r_askAll hn r3.1
    have s2' : yAg dGu g1 g2 := s2.up (fun o k h => by unfold dAk at h; unfold dGu; omega)
    have lo2 : yLo2 g2 (T 0 0) (T 0 2) (yRu B k (B 9 0)) := by
      obtain ⟨h1, h2, h3, h4⟩ := r3
      exact ⟨(s2.2 _ _ (by unfold dAk; omega)).trans h1, (s2.2 _ _ (by unfold dAk; omega)).trans h2, (s2.2 _ _ (by unfold dAk; omega)).trans h3, fun i hi => ⟨(s2.2 _ _ (by unfold dAk; omega)).trans (h4 i hi).1, (s2.2 _ _ (by unfold dAk; omega)).trans (h4 i hi).2.1, (s2.2 _ _ (by unfold dAk; omega)).trans (h4 i hi).2.2⟩⟩
    obtain ⟨g3, t1, t2, t3, t4, t5, t6⟩ := r_guess2 (Q := (yAp (T 0 0)).length) (qa := yA1 (T 0 0)) (qb := yA2 (T 0 0)) (kn := 2) hn C.2.1.1.2.2.1 (yRu_rl C.2.2.1.1) lo2 ((s2.2 _ _ (by unfold dAk; omega)).trans r4.1) ⟨ok.1, fun i hi => by
      obtain ⟨x1, x2, x3, x4⟩ := ok.2 i hi
      exact ⟨by omega, x3, x4⟩⟩ s3.1 s3.2 (Or.inr ⟨rfl, rfl, fun i _ => ⟨rfl, rfl⟩⟩)
    have y3 : yAg (fun o k => o = 98 ∧ k = 12) g3 (xWI g3 98 12 2) := (yAg.refl _ g3).wi ⟨rfl, rfl⟩
    refine ⟨g1, xWI g3 98 12 2, r1, ?_, ((r2.tr s2').tr (t2.up dGs_U)).tr (y3.up (fun o k h => by unfold dGu; omega)), t4, t5.ag y3 (by omega) (fun o k h => by omega), ⟨?_, fun i hi => ⟨?_, ?_⟩⟩⟩
    · unfold E_X1_bestHeaps
      rw [z, if_neg (by decide), s1, xb1_some, t1, xb1_some]
    · rw [yI_wi, if_neg (by omega)]; exact t6.2.2.2.2.1
    · rw [yI_wi, if_neg (by omega)]; exact (t6.2.2.2.2.2 i hi).1
    · rw [yI_wi, if_neg (by omega)]; exact (t6.2.2.2.2.2 i hi).2
  · rcases z4 with w | ⟨w1, w2, w3⟩
    · have hne : ¬ xI g1 98 12 = 2 := by rcases w with w | w <;> rw [w] <;> decide
      obtain ⟨g2, s1, s2, s3⟩ := r_askAll hn r3.1
      have s2' : yAg dGu g1 g2 := s2.up (fun o k h => by unfold dAk at h; unfold dGu; omega)
      have lo2 : yLo2 g2 (T 0 0) (T 0 2) (yRu B k (B 9 0)) := by
        obtain ⟨h1, h2, h3, h4⟩ := r3
        exact ⟨(s2.2 _ _ (by unfold dAk; omega)).trans h1, (s2.2 _ _ (by unfold dAk; omega)).trans h2, (s2.2 _ _ (by unfold dAk; omega)).trans h3, fun i hi => ⟨(s2.2 _ _ (by unfold dAk; omega)).trans (h4 i hi).1, (s2.2 _ _ (by unfold dAk; omega)).trans (h4 i hi).2.1, (s2.2 _ _ (by unfold dAk; omega)).trans (h4 i hi).2.2⟩⟩
      obtain ⟨g3, t1, t2, t3, t4, t5, t6⟩ := r_guess2 (Q := (yAp (T 0 0)).length) (qa := yA1 (T 0 0)) (qb := yA2 (T 0 0)) (kn := 2) hn C.2.1.1.2.2.1 (yRu_rl C.2.2.1.1) lo2 ((s2.2 _ _ (by unfold dAk; omega)).trans r4.1) ⟨ok.1, fun i hi => by
        obtain ⟨x1, x2, x3, x4⟩ := ok.2 i hi
        exact ⟨by omega, x3, x4⟩⟩ s3.1 s3.2 (Or.inr ⟨rfl, rfl, fun i _ => ⟨rfl, rfl⟩⟩)
      have y3 : yAg (fun o k => o = 98 ∧ k = 12) g3 (xWI g3 98 12 2) := (yAg.refl _ g3).wi ⟨rfl, rfl⟩
      refine ⟨g1, xWI g3 98 12 2, r1, ?_, ((r2.tr s2').tr (t2.up dGs_U)).tr (y3.up (fun o k h => by unfold dGu; omega)), t4, t5.ag y3 (by omega) (fun o k h => by omega), ⟨?_, fun i hi => ⟨?_, ?_⟩⟩⟩
      · unfold E_X1_bestHeaps
        rw [if_neg hne, s1, xb1_some, t1, xb1_some]
      · rw [yI_wi, if_neg (by omega)]; exact t6.2.2.2.2.1
      · rw [yI_wi, if_neg (by omega)]; exact (t6.2.2.2.2.2 i hi).1
      · rw [yI_wi, if_neg (by omega)]; exact (t6.2.2.2.2.2 i hi).2
    · subst w2
      refine ⟨g1, g1, r1, ?_, r2, r4, ?_, ⟨z2.2.2.2.2.1, fun i hi => ?_⟩⟩
      · unfold E_X1_bestHeaps
        rw [if_pos w1]
      · obtain ⟨x1, x2, x3⟩ := z3
        refine ⟨x1, x2, fun i hi => ?_⟩
        have := x3 i hi
        rw [(w3 i hi).1, (w3 i hi).2] at this
        exact this
      · have := z2.2.2.2.2.2 i hi
        rw [(w3 i hi).1, (w3 i hi).2] at this
        exact this
theorem op_37 (C : Cx g β T B) (hs : I_shelf g) (q : I_guess g) : ∃ g', O_37 a1 a2 a3 a4 a5 g = some (true, g') ∧ yAg dASG g g' ∧ I_shelf g' ∧ I_guess g' := by
  have hn := C.2.2.2.1
  have h6 := r_6n C
  have t0 : xI g (tw g) 0 = nI (T 0 0) := C.2.1.2.1.1
  have hpw : 2 ^ T 0 0 ≤ 32 := Nat.pow_le_pow_right (n := 2) (by decide) hn
  rcases r_ans02 (g := g) (a3 := a1) with ⟨i1, i2⟩ | ⟨i1, i2, i3⟩
  · refine ⟨g, r_O (v := -1) ?_ (by unfold E_X12_heaps; rw [if_pos i1]), yAg.refl _ _, hs, q⟩
    unfold E_X11_heaps
    by_cases z1 : a1 < 0
    · rw [if_pos z1]
    · rw [if_neg z1, if_pos (i2.resolve_left z1)]
  · by_cases n2 : 2 ≤ T 0 0
    · have n2' : (2 : Int32) ≤ nI (T 0 0) := nI_le n2 (by omega)
      obtain ⟨g1, g2, r1, r2, r3, r4, r5, r6⟩ := r_allAsked (k := a2) (a1 := a1) C q
      have C2 := C.asg (r3.up dGu_G)
      obtain ⟨g3, s1, s2, s3⟩ := r_fits (a1 := a1) (k := a2) C2
      have C3 := C2.as (s2.up dHe_A).A
      have hlen := yFw_len (T := T) (B := B) (k := a2) (v := 6 ^ T 0 0)
      have hget : ∀ i, i < (yFw T B a2 (6 ^ T 0 0)).length → (yFw T B a2 (6 ^ T 0 0)).getD i 0 < 7776 := fun i hi => Nat.lt_of_lt_of_le (yFw_get hi) h6
      have in1 : F_X12_isIn g2 a1 0 2 = 1 := i1
      have headC : ∀ X v, K_X1_bestHeaps_21 a1 g2 = some (v, X) → E_X11_heaps a1 a2 g = some (v, X) := fun X v h => by
        unfold E_X11_heaps
        rw [if_neg i2, if_neg i3, t0, if_pos n2', r1, xb1_some, r2, h, xb2_some]
      generalize yFw T B a2 (6 ^ T 0 0) = P at *
      obtain ⟨z1, z2, z3⟩ := r5
      by_cases c : P = []
      · refine ⟨g3, r_O (v := -1) (g1 := g2) (headC g2 (-1) ?_) ?_, (r3.up dGu_G).tr (s2.up dHe_A).A.S, (hs.gu r3).aA (s2.up dHe_A), r4.aS (s2.up dHe_A).A⟩
        · unfold K_X1_bestHeaps_21
          have e : xlim (S_X1_bestHeaps_28 a1) (-1, 0, 0, g2) = some (-1, 0, g2) := xlim_end (by
            unfold S_X1_bestHeaps_28
            simp only [z1, r6.1, c]
            by_cases w : nI (yAp (T 0 0)).length ≤ (0 : Int32)
            · rw [if_pos w]
            · rw [if_neg w, if_pos (by decide)])
          rw [e, xb1_some]
          exact if_pos rfl
        · unfold E_X12_heaps
          rw [in1, if_neg (by decide), r_thingMany C2.2.1, xb1_some, if_pos n2', s1, xb1_some, c, if_pos (show nI ([] : List Nat).length = (0 : Int32) from rfl)]
      · have hpos : ¬ P.length = 0 := fun z => c (List.eq_nil_of_length_eq_zero z)
        have hne : ¬ nI P.length = (0 : Int32) := fun z => hpos ((nI_eq (by omega) (by decide)).mp (show _ = nI 0 from z))
        have ok := yAp_ok (T 0 0) (by omega)
        have fle : ∀ i, yWf (T 0 0) (T 0 2) P (yA1 (T 0 0) i) (yA2 (T 0 0) i) ≤ P.length := fun i => yWf_le _ _ _ _ _
        have hQ0 : (yAp (T 0 0)).length ≠ 0 := fun z => by
          have h4 : 4 ≤ 2 ^ T 0 0 := Nat.pow_le_pow_right (n := 2) (by decide) (show 2 ≤ T 0 0 from n2)
          obtain ⟨i, hi, -⟩ := yAp_has (n := T 0 0) hn (a := 1) (b := 2) (by decide) (by decide) (by omega) (by decide)
          omega
        obtain ⟨b, b1, b2⟩ := r_pick (a1 := a1) (f := fun i => yWf (T 0 0) (T 0 2) P (yA1 (T 0 0) i) (yA2 (T 0 0) i)) ok.1 hQ0 (by omega) c r6.1 z1 (fun i hi => by
          obtain ⟨d1, d2⟩ := z3 i hi
          have sum := yCo_sum (T 0 0) (T 0 2) (yA1 (T 0 0) i) (yA2 (T 0 0) i) P
          have hi90 : i < 90 := by have := ok.1; omega
          rw [xat_nI hi90 (by decide), xat_nI hi90 (by decide), d1, d2]
          have e0 : (nI P.length - nI (yCo (T 0 0) (T 0 2) (yA1 (T 0 0) i) (yA2 (T 0 0) i) 1 P)) - nI (yCo (T 0 0) (T 0 2) (yA1 (T 0 0) i) (yA2 (T 0 0) i) 2 P) = nI (yCo (T 0 0) (T 0 2) (yA1 (T 0 0) i) (yA2 (T 0 0) i) 0 P) := by
            rw [sum, ← nI_add, ← nI_add]
            generalize nI (yCo (T 0 0) (T 0 2) (yA1 (T 0 0) i) (yA2 (T 0 0) i) 0 P) = x
            generalize nI (yCo (T 0 0) (T 0 2) (yA1 (T 0 0) i) (yA2 (T 0 0) i) 1 P) = y
            generalize nI (yCo (T 0 0) (T 0 2) (yA1 (T 0 0) i) (yA2 (T 0 0) i) 2 P) = z
            grind
          rw [e0, r_imax (by omega) (by omega), r_imax (by omega) (by omega)]
          exact ⟨rfl, by have := fle i; omega⟩)
        obtain ⟨g4, bs, ls, x1, x2, x3⟩ := r_heapsR (a1 := a1) C3 (by omega) hget s3
        have ob := ok.2 b b1.1
        have bm := fle b
        -- the reference's best is the class's
        have key : bs = nI (32 * yA1 (T 0 0) b + yA2 (T 0 0) b) ∧ ls = nI (yWf (T 0 0) (T 0 2) P (yA1 (T 0 0) b) (yA2 (T 0 0) b)) := by
          have code : ∀ j, j < (yAp (T 0 0)).length → (32 * yA1 (T 0 0) j + yA2 (T 0 0) j) / 32 = yA1 (T 0 0) j ∧ (32 * yA1 (T 0 0) j + yA2 (T 0 0) j) % 32 = yA2 (T 0 0) j := fun j hj => by
            obtain ⟨o1, o2, o3, o4⟩ := ok.2 j hj
            omega
          have cv : ∀ j, j < (yAp (T 0 0)).length → yVa (T 0 0) (32 * yA1 (T 0 0) j + yA2 (T 0 0) j) ∧ 32 * yA1 (T 0 0) j + yA2 (T 0 0) j < 1024 := fun j hj => by
            obtain ⟨o1, o2, o3, o4⟩ := ok.2 j hj
            obtain ⟨e1, e2⟩ := code j hj
            refine ⟨⟨by omega, by omega, by omega, by omega, by rw [e1, e2]; exact o4⟩, by omega⟩
          rcases x3 with ⟨-, -, w⟩ | ⟨x, w1, w2, w3, w4, w5⟩
          · exact absurd (cv b b1.1).1 (w _ (cv b b1.1).2)
          · obtain ⟨v1, v2, v3, v4, v5⟩ := w2
            have lt : x / 32 < x % 32 := by
              refine Classical.byContradiction fun z => ?_
              have ne : x / 32 ≠ x % 32 := fun e => by
                rw [← e, Nat.and_self] at v5; omega
              have val : yVa (T 0 0) (32 * (x % 32) + x / 32) := by
                have e1 : (32 * (x % 32) + x / 32) / 32 = x % 32 := by omega
                have e2 : (32 * (x % 32) + x / 32) % 32 = x / 32 := by omega
                exact ⟨by omega, by omega, by omega, by omega, by rw [e1, e2, Nat.and_comm]; exact v5⟩
              have := (w5 (32 * (x % 32) + x / 32) (by omega) val).2 (by omega)
              dsimp only at this
              rw [show (32 * (x % 32) + x / 32) / 32 = x % 32 by omega, show (32 * (x % 32) + x / 32) % 32 = x / 32 by omega, yWf_sym _ _ _ (x % 32)] at this
              omega
            obtain ⟨j, j1, j2, j3⟩ := yAp_has hn v1 lt v4 v5
            have xe : x = 32 * yA1 (T 0 0) j + yA2 (T 0 0) j := by rw [j2, j3]; omega
            have fx : yWf (T 0 0) (T 0 2) P (x / 32) (x % 32) = yWf (T 0 0) (T 0 2) P (yA1 (T 0 0) j) (yA2 (T 0 0) j) := by rw [j2, j3]
            have h1 := b1.2 j j1
            have h2 := w5 _ (cv b b1.1).2 (cv b b1.1).1
            dsimp only at h1 h2
            rw [(code b b1.1).1, (code b b1.1).2, fx] at h2
            have bj : b = j := by
              rcases Nat.lt_trichotomy b j with z | z | z
              · have := h2.2 (by rw [xe]; exact yAp_mono hn z j1)
                omega
              · exact z
              · have := h1.2 z
                omega
            rw [w3, w4]
            dsimp only
            rw [fx, xe, bj]
            exact ⟨rfl, rfl⟩
        refine ⟨g4, r_O (v := if a1 = 0 then nI (yA1 (T 0 0) b) else if a1 = 1 then nI (yA2 (T 0 0) b) else nI (yWf (T 0 0) (T 0 2) P (yA1 (T 0 0) b) (yA2 (T 0 0) b))) (g1 := g2) (headC g2 _ ?_) ?_, (r3.up dGu_G).tr ((s2.up dHe_A).A.S.tr (x2.up dWo_A).A.S), ((hs.gu r3).aA (s2.up dHe_A)).aA (x2.up dWo_A), (r4.aS (s2.up dHe_A).A).aS (x2.up dWo_A).A⟩
        · unfold K_X1_bestHeaps_21
          have b90 : b < 90 := by have := ok.1; have := b1.1; omega
          rw [b2, xb1_some]
          unfold K_X1_bestHeaps_111
          rw [if_neg (show ¬ nI b = (-1 : Int32) from fun z => absurd (z ▸ nI_pos (n := b) (by omega)) (by decide)), xat_nI b90 (by decide), xat_nI b90 (by decide), (r6.2 b b1.1).1, (r6.2 b b1.1).2]
          by_cases w0 : a1 = 0
          · rw [if_pos w0, if_pos w0]; rfl
          · rw [if_neg w0, if_neg w0]
            by_cases w1 : a1 = 1
            · rw [if_pos w1, if_pos w1]; rfl
            · rw [if_neg w1, if_neg w1]
        · unfold E_X12_heaps
          rw [in1, if_neg (by decide), r_thingMany C2.2.1, xb1_some, if_pos n2', s1, xb1_some, if_neg hne, x1, xb1_some, key.1, key.2]
          have d1 : nI (32 * yA1 (T 0 0) b + yA2 (T 0 0) b) / 32 = nI (yA1 (T 0 0) b) := by
            rw [show (32 : Int32) = nI 32 from rfl, pk_div (by omega) (by decide) (by decide)]
            congr 1; omega
          have d2 : nI (32 * yA1 (T 0 0) b + yA2 (T 0 0) b) - nI (32 * yA1 (T 0 0) b + yA2 (T 0 0) b) / 32 * 32 = nI (yA2 (T 0 0) b) := by
            rw [show (32 : Int32) = nI 32 from rfl, pk_rem (by omega) (by decide) (by decide)]
            congr 1; omega
          rw [d1] at d2
          rw [d1, d2]
          by_cases w0 : a1 = 0
          · rw [if_pos w0, if_pos w0]
          · rw [if_neg w0, if_neg w0]
            by_cases w1 : a1 = 1
            · rw [if_pos w1, if_pos w1]
            · rw [if_neg w1, if_neg w1]
    · have n2' : ¬ (2 : Int32) ≤ nI (T 0 0) := fun z => n2 ((nI_leI (by decide) (by omega)).mp z)
      refine ⟨g, r_O (v := -1) (g1 := g) ?_ ?_, yAg.refl _ _, hs, q⟩
      · unfold E_X11_heaps
        rw [if_neg i2, if_neg i3, t0, if_neg n2']
      · unfold E_X12_heaps
        rw [i1, if_neg (by decide), r_thingMany C.2.1, xb1_some, if_neg n2']
end HP
