/-! GOALS on both sides -/
def ySrt (n : Nat) : List Nat → Bool
  | [] => true
  | [_] => true
  | a :: b :: l => decide (yDec a n < yDec b n) && ySrt n (b :: l)
set_option maxRecDepth 100000 in
theorem yO_srt : ∀ n, n < 6 → ∀ w, w < 2 → ySrt n (yO n w) = true := by decide +kernel
theorem ySrt_i {n : Nat} : ∀ (l : List Nat), ySrt n l = true → ∀ i, i + 1 < l.length → yDec (l.getD i 0) n < yDec (l.getD (i + 1) 0) n := by
  intro l
  induction l with
  | nil => intro _ i hi; exact absurd hi (Nat.not_lt_zero _)
  | cons a l ih =>
    cases l with
    | nil => intro _ i hi; exact absurd hi (by simp)
    | cons b l =>
      intro h i hi
      have h : (decide (yDec a n < yDec b n) && ySrt n (b :: l)) = true := h
      rw [Bool.and_eq_true, decide_eq_true_iff] at h
      cases i with
      | zero => exact h.1
      | succ i => exact ih h.2 i (by simpa using hi)
theorem yOr_lt {n w i j : Nat} (hn : n ≤ 5) (hw : w ≤ 1) (hij : i < j) (hj : j < yN n w) : yDec (yOr n w i) n < yDec (yOr n w j) n := by
  have base := ySrt_i (yO n w) (yO_srt n (by omega) w (by omega))
  have key : ∀ m, i + 1 + m < yN n w → yDec (yOr n w i) n < yDec (yOr n w (i + 1 + m)) n := by
    intro m
    induction m with
    | zero => intro h; exact base i h
    | succ m ih => intro h; exact Nat.lt_trans (ih (by omega)) (base (i + 1 + m) h)
  have := key (j - (i + 1)) (by omega)
  rw [show i + 1 + (j - (i + 1)) = j by omega] at this
  exact this
section GL
variable {g g' : xSt} {β n w : Nat} {T B : yT} {L : List Nat} {k a1 a2 a3 a4 a5 : Int32}
theorem yLs_lt {lies i j : Nat} (hij : i < j) (hj : j < (yLs B k n w lies).length) : (yLs B k n w lies).getD i 0 < (yLs B k n w lies).getD j 0 := by
  have p : List.Pairwise (· < ·) (yLs B k n w lies) := (List.pairwise_lt_range (n := yN n w)).filter _
  rw [yGet hj, yGet (Nat.lt_trans hij hj)]
  exact List.pairwise_iff_getElem.mp p i j (Nat.lt_trans hij hj) hj hij
/-- those left in the order of their numbers -/
def yUp (L : List Nat) : Prop := ∀ i j, i < j → j < L.length → L.getD i 0 < L.getD j 0
theorem yPv_lt (hn : n ≤ 5) (hw : w ≤ 1) (hi : yIn n w L) (hu : yUp L) {i j : Nat} (hij : i < j) (hj : j < L.length) : yDec (yPv n w L i) n < yDec (yPv n w L j) n := yOr_lt hn hw (hu i j hij hj) (hi.2 j hj)
/-- a goal that can be -/
def yGd (n : Nat) (a1 a2 : Int32) : Prop := a1 = 0 ∨ (a1 = 1 ∧ ∃ p, p < 5 ∧ a2 = nI p) ∨ (a1 = 2 ∧ ∃ p, p < n ∧ a2 = nI p)
theorem r_hasGoal1 (C : Cx g β T B) (h : yGd (T 0 0) a1 a2) : F_X10_hasGoal g (tw g) a1 a2 = 1 ∧ E_X12_isGoal a1 a2 g = some 1 := by
  unfold F_X10_hasGoal E_X12_isGoal
  rcases h with rfl | ⟨rfl, p, hp, rfl⟩ | ⟨rfl, p, hp, rfl⟩
  · exact ⟨if_pos rfl, if_pos rfl⟩
  · have h5 : nI p < (5 : Int32) := nI_lt hp (by decide)
    have h4 : ¬ (4 : Int32) < nI p := by rw [show (4 : Int32) = nI 4 from rfl, nI_ltI (by decide) (by omega)]; omega
    rw [if_neg (by decide), if_pos rfl, if_neg (nI_pos (by omega)), if_pos h5, if_neg (by decide), if_pos rfl]
    refine ⟨rfl, ?_⟩
    unfold F_X12_isIn
    rw [if_neg (nI_pos (by omega)), if_neg h4, if_neg (by decide)]
  · obtain ⟨e1, e2⟩ := r_th1 C hp
    unfold K_X12_isGoal_18
    simp [e1, e2, xb1_some, xz01]
theorem r_hasGoal0 (C : Cx g β T B) : (F_X10_hasGoal g (tw g) a1 a2 = 0 ∧ E_X12_isGoal a1 a2 g = some 0) ∨ yGd (T 0 0) a1 a2 := by
  by_cases c0 : a1 = 0
  · exact Or.inr (Or.inl c0)
  · by_cases c1 : a1 = 1
    · subst c1
      rcases r_inN (g := g) (a1 := a2) (m := 4) (by decide) with ⟨i1, i2⟩ | ⟨p, hp, rfl, -⟩
      · left
        unfold F_X10_hasGoal E_X12_isGoal K_X12_isGoal_18
        have i3 : F_X12_isIn g a2 0 4 = 0 := i1
        by_cases q : a2 < 0
        · simp [i3, q]
        · have q5 : ¬ a2 < 5 := by
            have := i2.resolve_left q
            intro z
            rw [Int32.le_iff_toInt_le] at this
            rw [Int32.lt_iff_toInt_lt] at z
            rw [nI_toInt (by decide)] at this
            rw [show (5 : Int32).toInt = 5 from rfl] at z
            omega
          simp only [i3, q, q5]
          simp
      · exact Or.inr (Or.inr (Or.inl ⟨rfl, p, by omega, rfl⟩))
    · by_cases c2 : a1 = 2
      · subst c2
        rcases r_thing (a1 := a2) C with ⟨p1, p2⟩ | ⟨t, ht, rfl⟩
        · left
          unfold F_X10_hasGoal E_X12_isGoal K_X12_isGoal_18
          simp [p1, p2, xb1_some, xz01]
        · exact Or.inr (Or.inr (Or.inr ⟨rfl, t, ht, rfl⟩))
      · left
        unfold F_X10_hasGoal E_X12_isGoal K_X12_isGoal_18
        rw [if_neg c0, if_neg c1, if_neg c2, if_neg c0, if_neg c1, if_neg c2]
        exact ⟨rfl, rfl⟩
/-- the value of an order for a goal 1 or 2 -/
def yGv (n : Nat) (a1 a2 : Int32) (v : Nat) : Nat := if a1 = 1 then yAt n v a2.toNatClampNeg else yDg v a2.toNatClampNeg
/-- the class's goals, the reference's goals -/
def yGc (n : Nat) (a1 a2 : Int32) (v : Nat) : Nat := if a1 = 0 then yDec v n else yGv n a1 a2 v
def yGr (n : Nat) (a1 a2 : Int32) (j v : Nat) : Nat := if a1 = 0 then j else yGv n a1 a2 v
theorem yGv_lt (hn : n ≤ 5) (hw : w ≤ 1) {i : Nat} (hi : i < yN n w) (h : yGd n a1 a2) (h0 : ¬ a1 = 0) : yGv n a1 a2 (yOr n w i) < 32 := by
  have h32 : 2 ^ n ≤ 32 := Nat.pow_le_pow_right (n := 2) (by decide) hn
  unfold yGv
  rcases h with rfl | ⟨rfl, p, hp, rfl⟩ | ⟨rfl, p, hp, rfl⟩
  · exact absurd rfl h0
  · rw [if_pos rfl]
    exact Nat.lt_of_lt_of_le yBs_lt h32
  · rw [if_neg (by decide), nI_clamp (by omega)]
    have := yDg_lt hn hw hi hp
    omega
theorem yGc_lt (hn : n ≤ 5) (hw : w ≤ 1) {i : Nat} (hi : i < yN n w) (h : yGd n a1 a2) : yGc n a1 a2 (yOr n w i) < 100000 := by
  unfold yGc
  by_cases c : a1 = 0
  · rw [if_pos c]
    have := yDec_lt (n := n) (v := yOr n w i) (fun t ht => by have := yDg_lt hn hw hi ht; omega) n (Nat.le_refl _)
    have h2 : 10 ^ n ≤ 10 ^ 5 := Nat.pow_le_pow_right (by decide) hn
    omega
  · rw [if_neg c]
    have := yGv_lt hn hw hi h c
    omega
theorem yGr_lt (hn : n ≤ 5) (hw : w ≤ 1) (hi : yIn n w L) {j : Nat} (hj : j < L.length) (h : yGd n a1 a2) : yGr n a1 a2 j (yPv n w L j) < 600 := by
  have hl := hi.1
  unfold yGr
  by_cases c : a1 = 0
  · rw [if_pos c]; omega
  · rw [if_neg c]
    have := yGv_lt hn hw (hi.2 j hj) h c
    unfold yPv; omega
/-- alike for the one side as for the other -/
theorem yG_iff (hn : n ≤ 5) (hw : w ≤ 1) (hi : yIn n w L) (hu : yUp L) {i j : Nat} (hI : i < L.length) (hj : j < L.length) : yGc n a1 a2 (yPv n w L i) = yGc n a1 a2 (yPv n w L j) ↔ yGr n a1 a2 i (yPv n w L i) = yGr n a1 a2 j (yPv n w L j) := by
  unfold yGc yGr
  by_cases c : a1 = 0
  · rw [if_pos c, if_pos c, if_pos c, if_pos c]
    refine ⟨fun h => ?_, fun h => by rw [h]⟩
    rcases Nat.lt_trichotomy i j with x | x | x
    · have := yPv_lt hn hw hi hu x hj; omega
    · exact x
    · have := yPv_lt hn hw hi hu x hI; omega
  · rw [if_neg c, if_neg c, if_neg c, if_neg c]
theorem r_goalOf (o : I_orders g n w) {i : Nat} (hi : i < yN n w) (h : yGd n a1 a2) : E_X5_goalOf (nI i) a1 a2 g = some (nI (yGc n a1 a2 (yOr n w i))) := by
  have hn := o.1
  unfold yGc yGv
  rcases h with rfl | ⟨rfl, p, hp, rfl⟩ | ⟨rfl, p, hp, rfl⟩
  · rw [if_pos rfl]; exact r_goal0 o hi
  · rw [if_neg (by decide), if_pos rfl, nI_clamp (by omega)]; exact r_goal1 o hi hp
  · rw [if_neg (by decide), if_neg (by decide), nI_clamp (by omega)]; exact r_goal2 o hi hp
def dGl (o k : Nat) : Prop := o = 146
theorem dGl_A : ∀ o k, dGl o k → dA o k := fun o k h => by unfold dGl at h; unfold dA; omega
theorem yLR.gl {D : Nat → Nat → Prop} (h : yAg D g g') (h1 : ¬ D 113 53) (h2 : ∀ k, ¬ D 145 k) (q : yLR g L) : yLR g' L := ⟨(h.2 _ _ h1).trans q.1, fun j hj => (h.2 _ _ (h2 _)).trans (q.2 j hj)⟩
theorem r_layGoals (C : Cx g β T B) (q : yLR g L) (hi : yIn (T 0 0) (T 0 1) L) (h : yGd (T 0 0) a1 a2) : ∃ g', E_X12_layGoals a1 a2 g = some g' ∧ yAg dGl g g' ∧ ∀ j, j < L.length → xI g' 146 j = nI (yGr (T 0 0) a1 a2 j (yPv (T 0 0) (T 0 1) L j)) := by
  have hn := C.2.2.2.1
  have hl := hi.1
  have key : ∀ m j g1, m + j = L.length → yAg dGl g g1 → (∀ i, i < j → xI g1 146 i = nI (yGr (T 0 0) a1 a2 i (yPv (T 0 0) (T 0 1) L i))) → ∃ g', xlim (S_X12_layGoals_2 a1 a2) (nI j, g1) = some g' ∧ yAg dGl g g' ∧ ∀ j, j < L.length → xI g' 146 j = nI (yGr (T 0 0) a1 a2 j (yPv (T 0 0) (T 0 1) L j)) := by
    intro m
    induction m with
    | zero =>
      intro j g1 hj y s
      have : j = L.length := by omega
      have q1 : yLR g1 L := q.gl y (by unfold dGl; omega) (fun k => by unfold dGl; omega)
      refine ⟨g1, xlim_end ?_, y, this ▸ s⟩
      unfold S_X12_layGoals_2
      simp only [q1.1]
      exact if_pos (nI_le (by omega) (by omega))
    | succ m ih =>
      intro j g1 hj y s
      have hjl : j < L.length := by omega
      have q1 : yLR g1 L := q.gl y (by unfold dGl; omega) (fun k => by unfold dGl; omega)
      have C1 := C.as (y.up dGl_A).A
      have st : S_X12_layGoals_2 a1 a2 (nI j, g1) = some (.inl (nI (j + 1), xWI g1 146 j (nI (yGr (T 0 0) a1 a2 j (yPv (T 0 0) (T 0 1) L j))))) := by
        unfold S_X12_layGoals_2 yGr yGv
        simp only [q1.1, if_neg (nI_ge hjl (show L.length < 2 ^ 31 by omega))]
        rcases h with rfl | ⟨rfl, p, hp, rfl⟩ | ⟨rfl, p, hp, rfl⟩
        · rw [if_neg (by decide), if_pos rfl]
          unfold K_X12_layGoals_26
          rw [if_neg (by decide), xck_nI (by omega) (by decide), nI_clamp (by omega), nI_1]
        · rw [if_neg (by decide), if_neg (by decide), if_pos rfl, nI_clamp (show p < 2 ^ 31 by omega)]
          unfold K_X12_layGoals_26
          rw [if_pos rfl]
          have e := xlim_of (step := S_X12_layGoals_37 1 (nI p) (nI j)) (fun t => (nI (yBs (fun t => yDg (yPv (T 0 0) (T 0 1) L j) t == p) t), nI t, g1)) (T 0 0) (e := (nI (yAt (T 0 0) (yPv (T 0 0) (T 0 1) L j) p), g1)) (fun t ht => ?_) ?_
          · rw [show ((0 : Int32), (0 : Int32), g1) = (nI (yBs (fun t => yDg (yPv (T 0 0) (T 0 1) L j) t == p) 0), nI 0, g1) from rfl, e, xb1_some, xck_nI (by omega) (by decide), nI_clamp (by omega), nI_1]
          · unfold S_X12_layGoals_37
            have hd := yDg_lt hn C.2.2.2.2.1 (hi.2 j hjl) ht
            simp only [r_thingMany C1.2.1, xb1_some, if_neg (nI_ge ht (show T 0 0 < 2 ^ 31 by omega)), r_placeLeft C1.2.2.2 q1 hi hjl ht, nI_1, r_1shl t (by omega), yBs_succ]
            by_cases c : yDg (yPv (T 0 0) (T 0 1) L j) t = p
            · rw [if_pos (show nI _ = nI _ by rw [c]), if_pos (beq_iff_eq.mpr c), r_orG]
            · rw [if_neg (show ¬ nI _ = nI _ from fun z => c ((nI_eq (by unfold yPv; omega) (by omega)).mp z)), if_neg (fun z => c (beq_iff_eq.mp z)), Nat.or_zero, Int32.or_zero]
          · unfold S_X12_layGoals_37
            simp only [r_thingMany C1.2.1, xb1_some]
            exact if_pos (nI_le (Nat.le_refl _) (by omega))
        · rw [if_pos rfl, if_neg (by decide), if_neg (by decide), r_placeLeft C1.2.2.2 q1 hi hjl hp, xb1_some, nI_clamp (show p < 2 ^ 31 by omega)]
          unfold K_X12_layGoals_26
          rw [if_neg (by decide), xck_nI (by omega) (by decide), nI_clamp (by omega), nI_1]
      obtain ⟨g', r1, r2⟩ := ih (j + 1) (xWI g1 146 j (nI (yGr (T 0 0) a1 a2 j (yPv (T 0 0) (T 0 1) L j)))) (by omega) (y.wi rfl) (fun i hi => by
        rw [yI_wi]
        by_cases e : i = j
        · rw [if_pos ⟨rfl, e⟩, e]
        · rw [if_neg (fun z => e z.2)]; exact s i (by omega))
      exact ⟨g', (xlim_go st).trans r1, r2⟩
  obtain ⟨g', r1, r2⟩ := key L.length 0 g (by omega) (yAg.refl _ _) (fun i hi => by omega)
  refine ⟨g', ?_, r2⟩
  unfold E_X12_layGoals
  rw [show xlim (S_X12_layGoals_2 a1 a2) (0, g) = some g' from r1, xb1_some]
end GL
