/-! CALL answers -/
section AN
variable {g g' : xSt} {β n w : Nat} {T B : yT} {L : List Nat} {k a1 a2 a3 a4 a5 : Int32}
theorem r_pairUp2 (C : Cx g β T B) (k : Int32) {c : Int32 → xSt → Option (Int32 × xSt)} {d : xSt → Option (Int32 × xSt)} (V : Int32) (hc : ∀ g1, Cx g1 β T B → yLC g1 (T 0 0) (T 0 1) (yLs B k (T 0 0) (T 0 1) 0) → yIn (T 0 0) (T 0 1) (yLs B k (T 0 0) (T 0 1) 0) → (yLs B k (T 0 0) (T 0 1) 0).length ≠ 0 → ∃ g', c (nI (yLs B k (T 0 0) (T 0 1) 0).length) g1 = some (V, g') ∧ yAg dA g1 g') (hd : ∀ g2, Cx g2 β T B → yLR g2 (yLs B k (T 0 0) (T 0 1) 0) → yIn (T 0 0) (T 0 1) (yLs B k (T 0 0) (T 0 1) 0) → (yLs B k (T 0 0) (T 0 1) 0).length ≠ 0 → ∃ g', d g2 = some (V, g') ∧ yAg dA g2 g') : ∃ v g1 g2, (xb2 (E_X5_know k g) fun r g1 => if r = 0 then some (-1, g1) else c r g1) = some (v, g1) ∧ (xb2 (E_X12_hasLeft k g1) fun r g2 => if r = 0 then some (-1, g2) else d g2) = some (v, g2) ∧ yAg dA g g1 ∧ yAg dA g1 g2 := by
  obtain ⟨g1, r1, r2, r3⟩ := r_know (k := k) C
  have C1 := C.as r2.A
  have hi := yLs_in (B := B) (k := k) (lies := 0) C.2.2.2.1 C.2.2.2.2.1
  have hl := hi.1
  rw [r1]
  by_cases h0 : (yLs B k (T 0 0) (T 0 1) 0).length = 0
  · obtain ⟨g2, s1, s2, s3⟩ := r_hasLeft (k := k) C1
    exact ⟨-1, g1, g2, by rw [xb2_some, h0]; exact if_pos rfl, by rw [s1, xb2_some, if_pos h0]; exact if_pos rfl, r2, s2⟩
  · obtain ⟨g1', c1, c2⟩ := hc g1 C1 r3 hi h0
    have C1' := C1.as c2.A
    obtain ⟨g2, s1, s2, s3⟩ := r_hasLeft (k := k) C1'
    obtain ⟨g2', d1, d2⟩ := hd g2 (C1'.as s2.A) s3 hi h0
    refine ⟨V, g1', g2', ?_, ?_, r2.tr c2, s2.tr d2⟩
    · rw [xb2_some, if_neg (show ¬ nI _ = (0 : Int32) from fun z => h0 ((nI_eq (by omega) (by decide)).mp (show _ = nI 0 from z)))]
      exact c1
    · rw [s1, xb2_some, if_neg h0]
      exact (if_neg (by decide)).trans d1
/-- how many are alike; the first of them -/
def yAl (G : Nat → Nat) (N j : Nat) : Nat := yCn (fun i => G i == G j) N
def yFi (G : Nat → Nat) (j : Nat) : Bool := yCn (fun i => G i == G j) j == 0
/-- the best of the first m -/
def yQ (G val : Nat → Nat) (N m b : Nat) : Prop := b < m ∧ yFi G b = true ∧ ∀ j, j < m → yFi G j = true → yAl G N j < yAl G N b ∨ (yAl G N j = yAl G N b ∧ val b ≤ val j)
theorem yQ_succ {G val : Nat → Nat} {N m b : Nat} (h : yQ G val N m b) : (yFi G m = true → (yAl G N b < yAl G N m ∨ (yAl G N m = yAl G N b ∧ val m < val b)) → yQ G val N (m + 1) m) ∧ (¬ (yFi G m = true ∧ (yAl G N b < yAl G N m ∨ (yAl G N m = yAl G N b ∧ val m < val b))) → yQ G val N (m + 1) b) := by
  obtain ⟨h1, h2, h3⟩ := h
  refine ⟨fun f z => ⟨Nat.lt_succ_self m, f, fun j hj fj => ?_⟩, fun z => ⟨by omega, h2, fun j hj fj => ?_⟩⟩
  · by_cases e : j = m
    · subst e; exact Or.inr ⟨rfl, Nat.le_refl _⟩
    · have := h3 j (by omega) fj
      omega
  · by_cases e : j = m
    · subst e
      have : ¬ (yAl G N b < yAl G N j ∨ (yAl G N j = yAl G N b ∧ val j < val b)) := fun y => z ⟨fj, y⟩
      omega
    · exact h3 j (by omega) fj
theorem yFi_0 (G : Nat → Nat) : yFi G 0 = true := rfl
theorem yQ_1 (G val : Nat → Nat) (N : Nat) : yQ G val N 1 0 := ⟨by decide, rfl, fun j hj _ => by
  have : j = 0 := by omega
  subst this; exact Or.inr ⟨rfl, Nat.le_refl _⟩⟩
theorem yQ_ex (G val : Nat → Nat) (N : Nat) : ∀ m, ∃ b, yQ G val N (m + 1) b := by
  intro m
  induction m with
  | zero => exact ⟨0, yQ_1 _ _ _⟩
  | succ m ih =>
    obtain ⟨b, hb⟩ := ih
    obtain ⟨s1, s2⟩ := yQ_succ hb
    by_cases c : yFi G (m + 1) = true ∧ (yAl G N b < yAl G N (m + 1) ∨ (yAl G N (m + 1) = yAl G N b ∧ val (m + 1) < val b))
    · exact ⟨m + 1, s1 c.1 c.2⟩
    · exact ⟨b, s2 c⟩
theorem yQ_un {G val : Nat → Nat} {N m b c : Nat} (h : yQ G val N m b) (h2 : yQ G val N m c) : yAl G N b = yAl G N c ∧ val b = val c := by
  have x := h.2.2 c h2.1 h2.2.1
  have y := h2.2.2 b h.1 h.2.1
  omega
theorem yAl_pos {G : Nat → Nat} {N j : Nat} (h : j < N) : 0 < yAl G N j := yCn_pos.mpr ⟨j, h, beq_iff_eq.mpr rfl⟩
/-! the reference's loops -/
theorem r_anIn (q : yLR g L) (hl : L.length ≤ 541) {G : Nat → Nat} (hG : ∀ j, j < L.length → xI g 146 j = nI (G j) ∧ G j < 600) {x3 x5 x6 x7 : Int32} {i : Nat} (hi : i < L.length) : xlim (S_X12_answers_65 a1 x3 x5 x6 x7 (nI i)) (0, 1, 0, g) = some (nI (yAl G L.length i), if yFi G i = true then 1 else 0, g) := by
  have e := xlim_of (step := S_X12_answers_65 a1 x3 x5 x6 x7 (nI i)) (fun j => (nI (yCn (fun j => G j == G i) j), if yCn (fun j => G j == G i) (min j i) = 0 then (1 : Int32) else 0, nI j, g)) L.length (e := (nI (yAl G L.length i), if yFi G i = true then 1 else 0, g)) (fun j hj => ?_) ?_
  · rw [show ((0 : Int32), (1 : Int32), (0 : Int32), g) = (nI (yCn (fun j => G j == G i) 0), if yCn (fun j => G j == G i) (min 0 i) = 0 then (1 : Int32) else 0, nI 0, g) by rw [Nat.zero_min]; rfl]
    exact e
  · unfold S_X12_answers_65
    obtain ⟨e1, b1⟩ := hG j hj
    obtain ⟨e2, b2⟩ := hG i hi
    simp only [q.1, if_neg (nI_ge hj (show L.length < 2 ^ 31 by omega)), xck_nI (show j < 541 by omega) (show (541 : Nat) < 2 ^ 31 by decide), xck_nI (show i < 541 by omega) (show (541 : Nat) < 2 ^ 31 by decide), nI_clamp (show j < 2 ^ 31 by omega), nI_clamp (show i < 2 ^ 31 by omega), e1, e2, nI_1]
    rw [yCn_succ]
    by_cases c : G j = G i
    · rw [if_pos (show nI _ = nI _ by rw [c]), if_pos (beq_iff_eq.mpr c)]
      unfold K_X12_answers_113
      by_cases f : yCn (fun j => G j == G i) (min j i) = 0
      · rw [if_pos f, if_neg (by decide)]
        by_cases d : j < i
        · rw [if_pos (nI_lt d (by omega)), if_neg]
          rw [show min (j + 1) i = j + 1 by omega, yCn_succ, if_pos (beq_iff_eq.mpr c)]; omega
        · rw [if_neg (fun z => by rw [nI_ltI (by omega) (by omega)] at z; omega), if_pos]
          rw [show min (j + 1) i = min j i by omega]; exact f
      · have f2 : ¬ yCn (fun j => G j == G i) (min (j + 1) i) = 0 := fun z => f (yCn_zero.mpr fun x hx => yCn_zero.mp z x (by omega))
        rw [if_neg f, if_neg f2, if_pos rfl] <;> simp [nI_1]
    · rw [if_neg (show ¬ nI _ = nI _ from fun z => c ((nI_eq (by omega) (by omega)).mp z)), if_neg (fun z => c (beq_iff_eq.mp z))]
      have : yCn (fun j => G j == G i) (min (j + 1) i) = yCn (fun j => G j == G i) (min j i) := by
        by_cases d : j < i
        · rw [show min (j + 1) i = j + 1 by omega, show min j i = j by omega, yCn_succ, if_neg (fun z => c (beq_iff_eq.mp z))] <;> rfl
        · rw [show min (j + 1) i = i by omega, show min j i = i by omega]
      rw [this] <;> rfl
  · unfold S_X12_answers_65
    simp only [q.1]
    rw [if_pos (nI_le (Nat.le_refl _) (by omega)), show min L.length i = i by omega]
    unfold yFi yAl
    by_cases c : yCn (fun j => G j == G i) i = 0
    · rw [if_pos c, if_pos (beq_iff_eq.mpr c)]
    · rw [if_neg c, if_neg (fun z => c (beq_iff_eq.mp z))]
theorem r_anOut (q : yLR g L) (hl : L.length ≤ 541) (h0 : L.length ≠ 0) {G val : Nat → Nat} (hG : ∀ j, j < L.length → xI g 146 j = nI (G j) ∧ G j < 600) (hv : ∀ j, j < L.length → E_X12_answerOf (nI j) a1 g = some (nI (val j)) ∧ val j < 100000) : ∃ b, yQ G val L.length L.length b ∧ xlim (S_X12_answers_47 a1 a3) (0, -1, 0, 0, g) = some (nI (yCn (yFi G) L.length), nI (val b), nI (yAl G L.length b), g) := by
  have hA : ∀ j, yAl G L.length j ≤ L.length := fun j => yCn_le _ _
  have step : ∀ i x y z, i < L.length → S_X12_answers_47 a1 a3 (x, y, z, nI i, g) = if yFi G i = true then (if nI (yAl G L.length i) < z then some (.inl (x + 1, y, z, nI (i + 1), g)) else if nI (yAl G L.length i) = z then (if nI (val i) < y then some (.inl (x + 1, nI (val i), nI (yAl G L.length i), nI (i + 1), g)) else some (.inl (x + 1, y, z, nI (i + 1), g))) else some (.inl (x + 1, nI (val i), nI (yAl G L.length i), nI (i + 1), g))) else some (.inl (x, y, z, nI (i + 1), g)) := by
    intro i x y z hi
    unfold S_X12_answers_47
    simp only [q.1, if_neg (nI_ge hi (show L.length < 2 ^ 31 by omega)), r_anIn q hl hG hi, xb1_some, nI_1]
    by_cases f : yFi G i = true
    · rw [if_pos f, if_neg (by decide), (hv i hi).1, xb1_some, if_pos f]
    · rw [if_neg f, if_pos rfl, if_neg f]
  have key : ∀ m i b, m + (i + 1) = L.length → yQ G val L.length (i + 1) b → ∃ b', yQ G val L.length L.length b' ∧ xlim (S_X12_answers_47 a1 a3) (nI (yCn (yFi G) (i + 1)), nI (val b), nI (yAl G L.length b), nI (i + 1), g) = some (nI (yCn (yFi G) L.length), nI (val b'), nI (yAl G L.length b'), g) := by
    intro m
    induction m with
    | zero =>
      intro i b hm hb
      have e : i + 1 = L.length := by omega
      rw [e] at hb ⊢
      refine ⟨b, hb, xlim_end ?_⟩
      unfold S_X12_answers_47
      simp only [q.1]
      exact if_pos (nI_le (Nat.le_refl _) (by omega))
    | succ m ih =>
      intro i b hm hb
      have hi : i + 1 < L.length := by omega
      have st := step (i + 1) (nI (yCn (yFi G) (i + 1))) (nI (val b)) (nI (yAl G L.length b)) hi
      obtain ⟨s1, s2⟩ := yQ_succ hb
      have hbl : b < L.length := by have := hb.1; omega
      have v1 := (hv (i + 1) hi).2
      have v2 := (hv b hbl).2
      have x1 := hA (i + 1)
      have x2 := hA b
      by_cases f : yFi G (i + 1) = true
      · rw [if_pos f, nI_1] at st
        have cn : yCn (yFi G) (i + 1 + 1) = yCn (yFi G) (i + 1) + 1 := by rw [yCn_succ, if_pos f]
        by_cases c1 : yAl G L.length (i + 1) < yAl G L.length b
        · rw [if_pos (nI_lt c1 (by omega)), ← cn] at st
          obtain ⟨b', r1, r2⟩ := ih (i + 1) b (by omega) (s2 (fun z => by omega))
          exact ⟨b', r1, (xlim_go st).trans r2⟩
        · rw [if_neg (fun z => c1 ((nI_ltI (by omega) (by omega)).mp z))] at st
          by_cases c2 : yAl G L.length (i + 1) = yAl G L.length b
          · rw [if_pos (by rw [c2])] at st
            by_cases c3 : val (i + 1) < val b
            · rw [if_pos (nI_lt c3 (by omega)), ← cn] at st
              obtain ⟨b', r1, r2⟩ := ih (i + 1) (i + 1) (by omega) (s1 f (Or.inr ⟨c2, c3⟩))
              exact ⟨b', r1, (xlim_go st).trans r2⟩
            · rw [if_neg (fun z => c3 ((nI_ltI (by omega) (by omega)).mp z)), ← cn] at st
              obtain ⟨b', r1, r2⟩ := ih (i + 1) b (by omega) (s2 (fun z => by omega))
              exact ⟨b', r1, (xlim_go st).trans r2⟩
          · rw [if_neg (fun z => c2 ((nI_eq (by omega) (by omega)).mp z)), ← cn] at st
            obtain ⟨b', r1, r2⟩ := ih (i + 1) (i + 1) (by omega) (s1 f (Or.inl (by omega)))
            exact ⟨b', r1, (xlim_go st).trans r2⟩
      · rw [if_neg f] at st
        have cn : yCn (yFi G) (i + 1 + 1) = yCn (yFi G) (i + 1) := by rw [yCn_succ, if_neg f] <;> rfl
        obtain ⟨b', r1, r2⟩ := ih (i + 1) b (by omega) (s2 (fun z => f z.1))
        rw [cn] at r2
        exact ⟨b', r1, (xlim_go st).trans r2⟩
  obtain ⟨b, r1, r2⟩ := key (L.length - 1) 0 0 (by omega) (yQ_1 G val L.length)
  refine ⟨b, r1, ?_⟩
  have st := step 0 0 (-1) 0 (by omega)
  have p0 := yAl_pos (G := G) (N := L.length) (j := 0) (by omega)
  have x0 := hA 0
  rw [if_pos (yFi_0 G), if_neg (fun z => nI_pos (by omega) (show nI (yAl G L.length 0) < 0 from z)), if_neg (show ¬ nI (yAl G L.length 0) = (0 : Int32) from fun z => by have := (nI_eq (by omega) (by decide)).mp (show nI _ = nI 0 from z); omega)] at st
  exact (xlim_go st).trans r2
/-! the class's polls -/
def yWn (f : Nat → Nat) : Nat → Nat
  | 0 => 0
  | v + 1 => if f v ≤ f (yWn f v) then yWn f v else v
theorem yWn_i (f : Nat → Nat) : ∀ v, yWn f v ≤ v ∧ (∀ u, u < v → f u ≤ f (yWn f v)) ∧ ∀ u, u < yWn f v → f u < f (yWn f v) := by
  intro v
  induction v with
  | zero => exact ⟨Nat.le_refl _, fun u hu => by omega, fun u hu => absurd hu (Nat.not_lt_zero _)⟩
  | succ v ih =>
    obtain ⟨h1, h2, h3⟩ := ih
    have hd : yWn f (v + 1) = if f v ≤ f (yWn f v) then yWn f v else v := rfl
    rw [hd]
    by_cases c : f v ≤ f (yWn f v)
    · rw [if_pos c]
      refine ⟨by omega, fun u hu => ?_, h3⟩
      by_cases e : u = v
      · subst e; exact c
      · exact h2 u (by omega)
    · rw [if_neg c]
      refine ⟨by omega, fun u hu => ?_, fun u hu => ?_⟩
      · by_cases e : u = v
        · subst e; exact Nat.le_refl _
        · have := h2 u (by omega); omega
      · have := h2 u (by omega); omega
theorem yWn_lt (f : Nat → Nat) {v : Nat} (h : 0 < v) : yWn f v < v := by
  obtain ⟨m, rfl⟩ : ∃ m, v = m + 1 := ⟨v - 1, by omega⟩
  have := (yWn_i f m).1
  have hd : yWn f (m + 1) = if f m ≤ f (yWn f m) then yWn f m else m := rfl
  rw [hd]
  split <;> omega
theorem yCn_one {x N : Nat} (hx : x < N) (c : Bool) : yCn (fun v => v == x && c) N = if c then 1 else 0 := by
  induction N with
  | zero => omega
  | succ N ih =>
    rw [yCn_succ]
    by_cases e : x = N
    · subst e
      have : yCn (fun v => v == x && c) x = 0 := yCn_zero.mpr fun i hi => by
        have : ¬ i = x := by omega
        simp [this]
      rw [this]; simp
    · rw [ih (by omega)]
      have : ¬ N = x := fun z => e z.symm
      simp [this]
theorem yCn_distinct {G : Nat → Nat} {M : Nat} : ∀ m, (∀ j, j < m → G j < M) → yCn (fun v => decide (0 < yCn (fun j => G j == v) m)) M = yCn (yFi G) m := by
  intro m
  induction m with
  | zero => intro _; exact yCn_zero.mpr fun i _ => by simp [yCn]
  | succ m ih =>
    intro h
    rw [yCn_succ, ← ih (fun j hj => h j (by omega)), ← yCn_one (h m (by omega)) (yFi G m)]
    refine yCn_add fun v hv => ?_
    rw [yCn_succ]
    unfold yFi
    by_cases c : G m = v
    · subst c
      by_cases d : yCn (fun j => G j == G m) m = 0
      · simp [d]
      · have : 0 < yCn (fun j => G j == G m) m := Nat.pos_of_ne_zero d
        simp [d, this]
    · have c' : ¬ v = G m := fun z => c z.symm
      simp [c, c']
theorem r_polls (o : I_orders g n w) (q : yLC g n w L) (hi : yIn n w L) (h : yGd n a1 a2) (h0 : ¬ a1 = 0) : ∃ g', (xb1 (E_X7_fill 74 32 0 g) fun g41_5 => xb1 (xlim (S_X5_answer_47 a1 a2 a3) (0, g41_5)) fun e_6 => some e_6) = some g' ∧ yAg (fun o _ => o = 74) g g' ∧ ∀ v, v < 32 → xI g' 74 v = nI (yCn (fun j => yGv n a1 a2 (yPv n w L j) == v) L.length) := by
  have hn := o.1
  have hw := o.2.1
  have hl := hi.1
  have key : ∀ m j g1, m + j = L.length → yAg (fun o _ => o = 74) g g1 → (∀ v, v < 32 → xI g1 74 v = nI (yCn (fun j => yGv n a1 a2 (yPv n w L j) == v) j)) → ∃ g', xlim (S_X5_answer_47 a1 a2 a3) (nI j, g1) = some g' ∧ yAg (fun o _ => o = 74) g g' ∧ ∀ v, v < 32 → xI g' 74 v = nI (yCn (fun j => yGv n a1 a2 (yPv n w L j) == v) L.length) := by
    intro m
    induction m with
    | zero =>
      intro j g1 hj y s
      have : j = L.length := by omega
      refine ⟨g1, xlim_end ?_, y, this ▸ s⟩
      unfold S_X5_answer_47
      simp only [y.2 69 5 (show ¬ 69 = 74 by decide), q.1]
      exact if_pos (nI_le (by omega) (by omega))
    | succ m ih =>
      intro j g1 hj y s
      have hjl : j < L.length := by omega
      have o1 : I_orders g1 n w := o.ag y (show ¬ 69 = 74 by decide) (show ¬ 69 = 74 by decide) (show ¬ 113 = 74 by decide) (fun o k m => by simp only [List.mem_cons, List.not_mem_nil, or_false] at m; show ¬ o = 74; omega)
      have q1 : yLC g1 n w L := ⟨(y.2 _ _ (show ¬ 69 = 74 by decide)).trans q.1, (y.2 _ _ (show ¬ 69 = 74 by decide)).trans q.2.1, fun j hj => (y.2 _ _ (show ¬ 72 = 74 by decide)).trans (q.2.2 j hj)⟩
      have gv := yGv_lt hn hw (hi.2 j hjl) h h0
      have e1 := r_goalOf o1 (hi.2 j hjl) h
      have gc : yGc n a1 a2 (yOr n w (L.getD j 0)) = yGv n a1 a2 (yPv n w L j) := if_neg h0
      rw [gc] at e1
      have gv : yGv n a1 a2 (yPv n w L j) < 32 := gv
      have cn := yCn_le (fun j' => yGv n a1 a2 (yPv n w L j') == yGv n a1 a2 (yPv n w L j)) j
      have st : S_X5_answer_47 a1 a2 a3 (nI j, g1) = some (.inl (nI (j + 1), xWI g1 74 (yGv n a1 a2 (yPv n w L j)) (nI (yCn (fun j' => yGv n a1 a2 (yPv n w L j') == yGv n a1 a2 (yPv n w L j)) j + 1)))) := by
        unfold S_X5_answer_47
        simp only [q1.1, if_neg (nI_ge hjl (show L.length < 2 ^ 31 by omega)), r_leftAt q1 hi hjl, e1, xb1_some]
        unfold xadd
        rw [if_neg (nI_in gv (by decide)), nI_clamp (by omega), s _ gv, nI_1, nI_1]
      obtain ⟨g', r1, r2⟩ := ih (j + 1) (xWI g1 74 (yGv n a1 a2 (yPv n w L j)) (nI (yCn (fun j' => yGv n a1 a2 (yPv n w L j') == yGv n a1 a2 (yPv n w L j)) j + 1))) (by omega) (y.wi rfl) (fun v hv => by
        rw [yI_wi, yCn_succ]
        by_cases e : v = yGv n a1 a2 (yPv n w L j)
        · rw [if_pos ⟨rfl, e⟩, if_pos (beq_iff_eq.mpr e.symm), e]
        · rw [if_neg (fun z => e z.2), if_neg (fun z => e (beq_iff_eq.mp z).symm)]; exact s v hv)
      exact ⟨g', (xlim_go st).trans r1, r2⟩
  have a : yAg (fun o _ => o = 74) g (xRowI g 74 (fun j => if j < 32 then 0 else xI g 74 j)) := ⟨rfl, fun o k hk => congrFun (xI_RowI_ne g _ (fun e => hk e)) k⟩
  obtain ⟨g', r1, r2⟩ := key L.length 0 (xRowI g 74 (fun j => if j < 32 then 0 else xI g 74 j)) (by omega) a (fun v hv => by
    rw [show xI (xRowI g 74 (fun j => if j < 32 then 0 else xI g 74 j)) 74 v = _ from xI_RowI _ _ _ _ _, if_pos rfl, if_pos hv]; rfl)
  refine ⟨g', ?_, r2⟩
  unfold E_X7_fill
  rw [xb1_some, show xlim (S_X5_answer_47 a1 a2 a3) (0, _) = some g' from r1, xb1_some]
theorem r_poll2 {cnt : Nat → Nat} (hs : ∀ v, v < 32 → xI g 74 v = nI (cnt v) ∧ cnt v < 600) : xlim (S_X5_answer_91 a3) (0, 0, 0, g) = some (nI (yCn (fun v => decide (0 < cnt v)) 32), nI (yWn cnt 32), g) := by
  have e := xlim_of (step := S_X5_answer_91 a3) (fun v => (nI (yCn (fun v => decide (0 < cnt v)) v), nI (yWn cnt v), nI v, g)) 32 (e := (nI (yCn (fun v => decide (0 < cnt v)) 32), nI (yWn cnt 32), g)) (fun v hv => ?_) ?_
  · exact e
  · unfold S_X5_answer_91
    have h32 : ¬ (32 : Int32) ≤ nI v := by rw [show (32 : Int32) = nI 32 from rfl]; exact nI_ge hv (by decide)
    have hW := (yWn_i cnt v).1
    obtain ⟨e1, b1⟩ := hs v hv
    obtain ⟨e2, b2⟩ := hs (yWn cnt v) (by omega)
    simp only [if_neg h32, xck_nI hv (show (32 : Nat) < 2 ^ 31 by decide), nI_clamp (show v < 2 ^ 31 by omega), e1]
    unfold K_X5_answer_118
    rw [xck_nI hv (by decide), nI_clamp (by omega), e1, xat_nI (by omega) (by decide), e2, nI_1, yCn_succ]
    have hd : yWn cnt (v + 1) = if cnt v ≤ cnt (yWn cnt v) then yWn cnt v else v := rfl
    have p1 : nI (yCn (fun v => decide (0 < cnt v)) v) + (if nI (cnt v) ≤ (0 : Int32) then (0 : Int32) else 1) = nI (yCn (fun v => decide (0 < cnt v)) v + if decide (0 < cnt v) = true then 1 else 0) := by
      by_cases c : cnt v = 0
      · rw [if_pos ((r_le0 (by omega)).mpr c), if_neg (by simp [c]), Int32.add_zero] <;> rfl
      · rw [if_neg (fun z => c ((r_le0 (by omega)).mp z)), if_pos (by simp; omega), nI_1]
    rw [p1, hd]
    by_cases c : cnt v ≤ cnt (yWn cnt v)
    · rw [if_pos (nI_le c (by omega)), if_pos c]
    · rw [if_neg (fun z => c ((nI_leI (by omega) (by omega)).mp z)), if_neg c]
  · unfold S_X5_answer_91
    exact if_pos (show (32 : Int32) ≤ nI 32 by decide)
theorem r_ansOf (C : Cx g β T B) (q : yLR g L) (hi : yIn (T 0 0) (T 0 1) L) (h : yGd (T 0 0) a1 a2) (hr : ∀ j, j < L.length → xI g 146 j = nI (yGr (T 0 0) a1 a2 j (yPv (T 0 0) (T 0 1) L j))) {j : Nat} (hj : j < L.length) : E_X12_answerOf (nI j) a1 g = some (nI (yGc (T 0 0) a1 a2 (yPv (T 0 0) (T 0 1) L j))) := by
  have hn := C.2.2.2.1
  have hl := hi.1
  unfold E_X12_answerOf yGc
  by_cases c : a1 = 0
  · rw [if_pos c, c, if_pos (by decide)]
    have e := xlim_of (step := S_X12_answerOf_16 (nI j) g) (fun t => (nI (yDec (yPv (T 0 0) (T 0 1) L j) t), nI t)) (T 0 0) (e := nI (yDec (yPv (T 0 0) (T 0 1) L j) (T 0 0))) (fun t ht => ?_) ?_
    · rw [show ((0 : Int32), (0 : Int32)) = (nI (yDec (yPv (T 0 0) (T 0 1) L j) 0), nI 0) from rfl, e, xb1_some]
    · unfold S_X12_answerOf_16
      simp only [r_thingMany C.2.1, xb1_some, if_neg (nI_ge ht (show T 0 0 < 2 ^ 31 by omega)), r_placeLeft C.2.2.2 q hi hj ht, show (10 : Int32) = nI 10 from rfl, nI_mul, nI_add, nI_1]
      rfl
    · unfold S_X12_answerOf_16
      simp only [r_thingMany C.2.1, xb1_some]
      exact if_pos (nI_le (Nat.le_refl _) (by omega))
  · have hne : ¬ a1 ≤ 0 := by
      rcases h with h | ⟨h, -⟩ | ⟨h, -⟩
      · exact absurd h c
      · rw [h]; decide
      · rw [h]; decide
    rw [if_neg c, if_neg hne, xck_nI (by omega) (by decide), nI_clamp (by omega), hr j hj]
    unfold yGr
    rw [if_neg c]
theorem r_ans02 {g : xSt} : (F_X12_isIn g a3 0 2 = 0 ∧ (a3 < 0 ∨ 2 < a3)) ∨ (F_X12_isIn g a3 0 2 = 1 ∧ ¬ a3 < 0 ∧ ¬ 2 < a3) := by
  unfold F_X12_isIn
  by_cases q : a3 < 0
  · exact Or.inl ⟨if_pos q, Or.inl q⟩
  · rw [if_neg q]
    by_cases q1 : 2 < a3
    · exact Or.inl ⟨if_pos q1, Or.inr q1⟩
    · exact Or.inr ⟨if_neg q1, q, q1⟩
theorem yUp_ls {k : Int32} {lies : Nat} : yUp (yLs B k n w lies) := fun _ _ h1 h2 => yLs_lt h1 h2
theorem op_19 (C : Cx g β T B) (hs : I_shelf g) : ∃ g', O_19 a1 a2 a3 a4 a5 g = some (true, g') ∧ yAg dAS g g' ∧ I_shelf g' := by
  have hn := C.2.2.2.1
  have hw := C.2.2.2.2.1
  rcases r_hasGoal0 (a1 := a1) (a2 := a2) C with ⟨p1, p2⟩ | hG
  · refine ⟨g, r_O (v := -1) ?_ (by unfold E_X12_answers; rw [p2, xb1_some, if_pos rfl]), yAg.refl _ _, hs⟩
    unfold E_X11_answers
    by_cases q1 : a3 < 0
    · rw [if_pos q1]
    · rw [if_neg q1]
      by_cases q2 : 2 < a3
      · rw [if_pos q2]
      · rw [if_neg q2, if_pos p1]
  · obtain ⟨p1, p2⟩ := r_hasGoal1 C hG
    rcases r_ans02 (g := g) (a3 := a3) with ⟨i1, i2⟩ | ⟨i1, i2, i3⟩
    · refine ⟨g, r_O (v := -1) ?_ (by unfold E_X12_answers; rw [p2, xb1_some, if_neg (by decide), if_pos i1]), yAg.refl _ _, hs⟩
      unfold E_X11_answers
      by_cases q1 : a3 < 0
      · rw [if_pos q1]
      · rw [if_neg q1, if_pos (i2.resolve_left q1)]
    · have hu : yUp (yLs B a4 (T 0 0) (T 0 1) 0) := yUp_ls
      have hi := yLs_in (B := B) (k := a4) (lies := 0) hn hw
      obtain ⟨b, hb⟩ : ∃ b, (yLs B a4 (T 0 0) (T 0 1) 0).length ≠ 0 → yQ (fun j => yGr (T 0 0) a1 a2 j (yPv (T 0 0) (T 0 1) (yLs B a4 (T 0 0) (T 0 1) 0) j)) (fun j => yGc (T 0 0) a1 a2 (yPv (T 0 0) (T 0 1) (yLs B a4 (T 0 0) (T 0 1) 0) j)) (yLs B a4 (T 0 0) (T 0 1) 0).length (yLs B a4 (T 0 0) (T 0 1) 0).length b := by
        by_cases e : (yLs B a4 (T 0 0) (T 0 1) 0).length = 0
        · exact ⟨0, fun z => absurd e z⟩
        · obtain ⟨b, h⟩ := yQ_ex (fun j => yGr (T 0 0) a1 a2 j (yPv (T 0 0) (T 0 1) (yLs B a4 (T 0 0) (T 0 1) 0) j)) (fun j => yGc (T 0 0) a1 a2 (yPv (T 0 0) (T 0 1) (yLs B a4 (T 0 0) (T 0 1) 0) j)) (yLs B a4 (T 0 0) (T 0 1) 0).length ((yLs B a4 (T 0 0) (T 0 1) 0).length - 1)
          rw [show (yLs B a4 (T 0 0) (T 0 1) 0).length - 1 + 1 = (yLs B a4 (T 0 0) (T 0 1) 0).length by omega] at h
          exact ⟨b, fun _ => h⟩
      have hX := r_pairUp2 (c := fun r g31_4 => xb2 (E_X5_answer a1 a2 a3 g31_4) fun r46_6 g46_6 => some (r46_6, g46_6)) (d := fun g21_4 => xb1 (E_X12_layGoals a1 a2 g21_4) fun g32_6 => xb1 (xlim (S_X12_answers_47 a1 a3) (0, -1, 0, 0, g32_6)) fun e_7 => if a3 = 0 then some (e_7.1, e_7.2.2.2) else if a3 = 1 then some (e_7.2.2.1, e_7.2.2.2) else some (e_7.2.1, e_7.2.2.2)) C a4 (if a3 = 0 then nI (yCn (yFi (fun j => yGr (T 0 0) a1 a2 j (yPv (T 0 0) (T 0 1) (yLs B a4 (T 0 0) (T 0 1) 0) j))) (yLs B a4 (T 0 0) (T 0 1) 0).length) else if a3 = 1 then nI (yAl (fun j => yGr (T 0 0) a1 a2 j (yPv (T 0 0) (T 0 1) (yLs B a4 (T 0 0) (T 0 1) 0) j)) (yLs B a4 (T 0 0) (T 0 1) 0).length b) else nI (yGc (T 0 0) a1 a2 (yPv (T 0 0) (T 0 1) (yLs B a4 (T 0 0) (T 0 1) 0) b))) (fun g1 C1 q hi h0 => ?_) (fun g2 C2 q hi h0 => ?_)
      · obtain ⟨v, g1, g2, e1, e2, y1, y2⟩ := hX
        exact ⟨g2, r_O (by unfold E_X11_answers; rw [if_neg i2, if_neg i3, p1, if_neg (by decide)]; exact e1) (by unfold E_X12_answers; rw [(r_hasGoal1 (C.as y1.A) hG).2, xb1_some, if_neg (by decide), r_isInG (g := g), i1, if_neg (by decide)]; exact e2), (y1.tr y2).A, hs.aA (y1.tr y2)⟩
      · have hb := hb h0
        generalize yLs B a4 (T 0 0) (T 0 1) 0 = L at *
        have hl := hi.1
        show ∃ g', (xb2 (E_X5_answer a1 a2 a3 g1) fun r46_6 g46_6 => some (r46_6, g46_6)) = some (_, g') ∧ _
        unfold E_X5_answer
        by_cases c0 : a1 = 0
        · rw [if_pos c0]
          have al : ∀ j, j < L.length → yFi (fun j => yGr (T 0 0) a1 a2 j (yPv (T 0 0) (T 0 1) L j)) j = true ∧ yAl (fun j => yGr (T 0 0) a1 a2 j (yPv (T 0 0) (T 0 1) L j)) L.length j = 1 := by
            intro j hj
            have gr : ∀ i, yGr (T 0 0) a1 a2 i (yPv (T 0 0) (T 0 1) L i) = i := fun i => if_pos c0
            unfold yFi yAl
            simp only [gr]
            refine ⟨beq_iff_eq.mpr (yCn_zero.mpr fun i hi => by simp; omega), ?_⟩
            have := yCn_one hj true
            simp only [Bool.and_true, if_true] at this
            exact this
          have b0 : b = 0 := by
            by_cases z : b = 0
            · exact z
            · have := hb.2.2 0 (by omega) (al 0 (by omega)).1
              rw [(al 0 (by omega)).2, (al b hb.1).2] at this
              have lt := yPv_lt hn hw hi hu (show 0 < b by omega) hb.1
              have gc : ∀ i, yGc (T 0 0) a1 a2 (yPv (T 0 0) (T 0 1) L i) = yDec (yPv (T 0 0) (T 0 1) L i) (T 0 0) := fun i => if_pos c0
              dsimp only at this
              rw [gc, gc] at this
              omega
          subst b0
          rw [(al 0 (by omega)).2, yCn_all.mpr (fun j hj => (al j hj).1)]
          refine ⟨g1, ?_, yAg.refl _ _⟩
          by_cases z0 : a3 = 0
          · rw [if_pos z0, if_pos z0, xb2_some, q.1]
          · rw [if_neg z0, if_neg z0]
            by_cases z1 : a3 = 1
            · rw [if_pos z1, if_pos z1, xb2_some]; rfl
            · rw [if_neg z1, if_neg z1, show F_X5_leftAt g1 0 = nI (L.getD 0 0) from r_leftAt q hi (show 0 < L.length by omega), r_goal0 C1.2.2.2 (hi.2 0 (by omega)), xb1_some, xb2_some]
              unfold yGc
              rw [if_pos c0]; rfl
        · rw [if_neg c0]
          obtain ⟨g2, r1, r2, r3⟩ := r_polls (a3 := a3) C1.2.2.2 q hi hG c0
          have r1' := r1
          unfold E_X7_fill at r1' ⊢
          rw [xb1_some] at r1' ⊢
          have e47 : xlim (S_X5_answer_47 a1 a2 a3) (0, xRowI g1 74 (fun j => if j < 32 then 0 else xI g1 74 j)) = some g2 := by
            cases hx : xlim (S_X5_answer_47 a1 a2 a3) (0, xRowI g1 74 (fun j => if j < 32 then 0 else xI g1 74 j)) with
            | none => rw [hx] at r1'; cases r1'
            | some e => rw [hx, xb1_some] at r1'; exact r1'
          have cb : ∀ v, yCn (fun j => yGv (T 0 0) a1 a2 (yPv (T 0 0) (T 0 1) L j) == v) L.length ≤ L.length := fun v => yCn_le _ _
          rw [e47, xb1_some, r_poll2 (fun v hv => ⟨r3 v hv, by have := cb v; omega⟩), xb1_some]
          have gr : ∀ i, yGr (T 0 0) a1 a2 i (yPv (T 0 0) (T 0 1) L i) = yGv (T 0 0) a1 a2 (yPv (T 0 0) (T 0 1) L i) := fun i => if_neg c0
          have gc : ∀ i, yGc (T 0 0) a1 a2 (yPv (T 0 0) (T 0 1) L i) = yGv (T 0 0) a1 a2 (yPv (T 0 0) (T 0 1) L i) := fun i => if_neg c0
          simp only [gr, gc] at hb ⊢
          have g32 : ∀ j, j < L.length → yGv (T 0 0) a1 a2 (yPv (T 0 0) (T 0 1) L j) < 32 := fun j hj => yGv_lt hn hw (hi.2 j hj) hG c0
          have W := yWn_i (fun v => yCn (fun j => yGv (T 0 0) a1 a2 (yPv (T 0 0) (T 0 1) L j) == v) L.length) 32
          have Wl := yWn_lt (fun v => yCn (fun j => yGv (T 0 0) a1 a2 (yPv (T 0 0) (T 0 1) L j) == v) L.length) (show 0 < 32 by decide)
          have dis := yCn_distinct (G := fun j => yGv (T 0 0) a1 a2 (yPv (T 0 0) (T 0 1) L j)) (M := 32) L.length g32
          have wb : yWn (fun v => yCn (fun j => yGv (T 0 0) a1 a2 (yPv (T 0 0) (T 0 1) L j) == v) L.length) 32 = yGv (T 0 0) a1 a2 (yPv (T 0 0) (T 0 1) L b) := by
            generalize hWd : yWn (fun v => yCn (fun j => yGv (T 0 0) a1 a2 (yPv (T 0 0) (T 0 1) L j) == v) L.length) 32 = Wv at W Wl
            obtain ⟨w1, w2, w3⟩ := W
            have m1 := w2 _ (g32 b hb.1)
            have pb : 0 < yAl (fun j => yGv (T 0 0) a1 a2 (yPv (T 0 0) (T 0 1) L j)) L.length b := yAl_pos hb.1
            have m1 : yAl (fun j => yGv (T 0 0) a1 a2 (yPv (T 0 0) (T 0 1) L j)) L.length b ≤ yCn (fun j => yGv (T 0 0) a1 a2 (yPv (T 0 0) (T 0 1) L j) == Wv) L.length := m1
            -- the first one of value Wv
            have ex : ∀ m, 0 < yCn (fun j => yGv (T 0 0) a1 a2 (yPv (T 0 0) (T 0 1) L j) == Wv) m → ∃ j, j < m ∧ yGv (T 0 0) a1 a2 (yPv (T 0 0) (T 0 1) L j) = Wv ∧ yFi (fun j => yGv (T 0 0) a1 a2 (yPv (T 0 0) (T 0 1) L j)) j = true := by
              intro m
              induction m with
              | zero => intro h; exact absurd h (Nat.lt_irrefl _)
              | succ m ih =>
                intro h
                by_cases c : 0 < yCn (fun j => yGv (T 0 0) a1 a2 (yPv (T 0 0) (T 0 1) L j) == Wv) m
                · obtain ⟨j, j1, j2⟩ := ih c
                  exact ⟨j, by omega, j2⟩
                · rw [yCn_succ] at h
                  by_cases d : (yGv (T 0 0) a1 a2 (yPv (T 0 0) (T 0 1) L m) == Wv) = true
                  · have d' := beq_iff_eq.mp d
                    refine ⟨m, Nat.lt_succ_self m, d', ?_⟩
                    unfold yFi
                    dsimp only
                    rw [d', beq_iff_eq]
                    omega
                  · rw [if_neg d] at h; omega
            obtain ⟨j, j1, j2, j3⟩ := ex L.length (by omega)
            have Q := hb.2.2 j j1 j3
            have aj : yAl (fun j => yGv (T 0 0) a1 a2 (yPv (T 0 0) (T 0 1) L j)) L.length j = yCn (fun j => yGv (T 0 0) a1 a2 (yPv (T 0 0) (T 0 1) L j) == Wv) L.length := by unfold yAl; dsimp only; rw [j2]
            dsimp only at Q
            rw [j2] at Q
            by_cases lt : yGv (T 0 0) a1 a2 (yPv (T 0 0) (T 0 1) L b) < Wv
            · have := w3 _ lt
              have : yAl (fun j => yGv (T 0 0) a1 a2 (yPv (T 0 0) (T 0 1) L j)) L.length b < yCn (fun j => yGv (T 0 0) a1 a2 (yPv (T 0 0) (T 0 1) L j) == Wv) L.length := this
              omega
            · omega
          refine ⟨g2, ?_, r2.up (fun o k h => by unfold dA; omega)⟩
          by_cases z0 : a3 = 0
          · rw [if_pos z0, if_pos z0, xb2_some, dis]
          · rw [if_neg z0, if_neg z0]
            by_cases z1 : a3 = 1
            · rw [if_pos z1, if_pos z1, xb2_some, xat_nI Wl (by decide), r3 _ Wl, wb]; rfl
            · rw [if_neg z1, if_neg z1, xb2_some, wb]
      · have hb := hb h0
        generalize yLs B a4 (T 0 0) (T 0 1) 0 = L at *
        have hl := hi.1
        show ∃ g', (xb1 (E_X12_layGoals a1 a2 g2) _) = some (_, g') ∧ _
        obtain ⟨g3, r1, r2, r3⟩ := r_layGoals C2 q hi hG
        have C3 := C2.as (r2.up dGl_A).A
        have q3 : yLR g3 L := q.gl r2 (by unfold dGl; omega) (fun k => by unfold dGl; omega)
        obtain ⟨b', x1, x2⟩ := r_anOut (a1 := a1) (a3 := a3) (G := fun j => yGr (T 0 0) a1 a2 j (yPv (T 0 0) (T 0 1) L j)) (val := fun j => yGc (T 0 0) a1 a2 (yPv (T 0 0) (T 0 1) L j)) q3 hl h0 (fun j hj => ⟨r3 j hj, yGr_lt hn hw hi hj hG⟩) (fun j hj => ⟨r_ansOf C3 q3 hi hG r3 hj, yGc_lt hn hw (hi.2 j hj) hG⟩)
        obtain ⟨u1, u2⟩ := yQ_un x1 hb
        refine ⟨g3, ?_, r2.up dGl_A⟩
        rw [r1, xb1_some, x2, xb1_some]
        dsimp only at u1 u2 ⊢
        rw [u1, u2]
        by_cases z0 : a3 = 0
        · rw [if_pos z0, if_pos z0]
        · rw [if_neg z0, if_neg z0]
          by_cases z1 : a3 = 1
          · rw [if_pos z1, if_pos z1]
          · rw [if_neg z1, if_neg z1]
end AN
