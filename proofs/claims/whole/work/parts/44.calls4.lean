/-! CALLS on who is left: evenest, ladder -/
section EV
variable {g g' : xSt} {β n w : Nat} {T B : yT} {L : List Nat} {k a1 a2 a3 a4 a5 : Int32}
def yEs (f : Nat → Nat → Nat) (a b : Nat) (t : Int32 × Int32) : Int32 × Int32 := if nI (min (f a b) (f b a)) ≤ t.1 then t else (nI (min (f a b) (f b a)), nI (10 * a + b))
def yEi (f : Nat → Nat → Nat) (a : Nat) (s : Int32 × Int32) : Nat → Int32 × Int32
  | 0 => s
  | b + 1 => if b ≤ a then yEi f a s b else yEs f a b (yEi f a s b)
def yEo (f : Nat → Nat → Nat) (n : Nat) : Nat → Int32 × Int32
  | 0 => (-1, -1)
  | a + 1 => yEi f a (yEo f n a) n
theorem yEi_lo (f : Nat → Nat → Nat) (a : Nat) (s : Int32 × Int32) : ∀ b, b ≤ a + 1 → yEi f a s b = s := by
  intro b
  induction b with
  | zero => intro _; rfl
  | succ b ih => intro h; show (if b ≤ a then _ else _) = s; rw [if_pos (by omega)]; exact ih (by omega)
theorem yEi_hi (f : Nat → Nat → Nat) (a : Nat) (s : Int32 × Int32) {b : Nat} (h : a < b) : yEi f a s (b + 1) = yEs f a b (yEi f a s b) := if_neg (by omega)
theorem r_evC (o : I_orders g n w) (q : yLC g n w L) (hi : yIn n w L) : E_X5_evenestTwo g = some (yEo (fun a b => yHm n w L a b 1) n n).2 := by
  have hn := o.1
  have hl := hi.1
  have e := xlim_of (step := S_X5_evenestTwo_6 g) (fun a => ((yEo (fun a b => yHm n w L a b 1) n a).1, (yEo (fun a b => yHm n w L a b 1) n a).2, nI a)) n (e := (yEo (fun a b => yHm n w L a b 1) n n).2) (fun a ha => ?_) ?_
  · unfold E_X5_evenestTwo
    exact congrArg (fun o => xb1 o fun e_1 => some e_1) e
  · show _ = some (Sum.inl ((yEi (fun a b => yHm n w L a b 1) a (yEo (fun a b => yHm n w L a b 1) n a) n).1, (yEi (fun a b => yHm n w L a b 1) a (yEo (fun a b => yHm n w L a b 1) n a) n).2, nI (a + 1)))
    generalize yEo (fun a b => yHm n w L a b 1) n a = s
    have e2 := xlim_from (step := S_X5_evenestTwo_19 (nI a) g) (fun b => ((yEi (fun a b => yHm n w L a b 1) a s b).1, (yEi (fun a b => yHm n w L a b 1) a s b).2, nI b)) (a + 1) n (by omega) (e := ((yEi (fun a b => yHm n w L a b 1) a s n).1, (yEi (fun a b => yHm n w L a b 1) a s n).2)) (fun b hb1 hb => ?_) ?_
    · rw [yEi_lo _ _ _ (a + 1) (Nat.le_refl _)] at e2
      unfold S_X5_evenestTwo_6
      simp only [o.2.2.1, if_neg (nI_ge ha (show n < 2 ^ 31 by omega)), nI_1]
      rw [e2, xb1_some]
    · unfold S_X5_evenestTwo_19
      have h1 := yHm_le n w L a b 1
      have h2 := yHm_le n w L b a 1
      rw [yEi_hi _ _ _ (show a < b by omega)]
      generalize yEi (fun a b => yHm n w L a b 1) a s b = t
      simp only [o.2.2.1, if_neg (nI_ge hb (show n < 2 ^ 31 by omega)), r_heavierIn o q hi ha hb (show a ≠ b by omega), r_heavierIn o q hi hb ha (show b ≠ a by omega), xb1_some, nI_1, r_imin (show yHm n w L a b 1 < 2 ^ 31 by omega) (show yHm n w L b a 1 < 2 ^ 31 by omega), show (10 : Int32) = nI 10 from rfl, nI_mul, nI_add]
      unfold yEs
      by_cases c : nI (min (yHm n w L a b 1) (yHm n w L b a 1)) ≤ t.1
      · rw [if_pos c, if_pos c]
      · rw [if_neg c, if_neg c]
    · unfold S_X5_evenestTwo_19
      simp only [o.2.2.1]
      exact if_pos (nI_le (Nat.le_refl _) (by omega))
  · unfold S_X5_evenestTwo_6
    simp only [o.2.2.1]
    exact if_pos (nI_le (Nat.le_refl _) (by omega))
theorem r_evR (C : Cx g β T B) (q : yLR g L) (hi : yIn (T 0 0) (T 0 1) L) : (xb1 (xlim (S_X12_evenest_17) (-1, -1, 0, g)) fun e_3 => some (e_3.1, e_3.2)) = some ((yEo (fun a b => yHm (T 0 0) (T 0 1) L a b 1) (T 0 0) (T 0 0)).2, g) := by
  have hn := C.2.2.2.1
  have o := C.2.2.2
  have hl := hi.1
  have e := xlim_of (step := S_X12_evenest_17) (fun a => ((yEo (fun a b => yHm (T 0 0) (T 0 1) L a b 1) (T 0 0) a).2, (yEo (fun a b => yHm (T 0 0) (T 0 1) L a b 1) (T 0 0) a).1, nI a, g)) (T 0 0) (e := ((yEo (fun a b => yHm (T 0 0) (T 0 1) L a b 1) (T 0 0) (T 0 0)).2, g)) (fun a ha => ?_) ?_
  · exact congrArg (fun o => xb1 o fun e_3 : Int32 × xSt => some (e_3.1, e_3.2)) e
  · show _ = some (Sum.inl ((yEi (fun a b => yHm (T 0 0) (T 0 1) L a b 1) a (yEo (fun a b => yHm (T 0 0) (T 0 1) L a b 1) (T 0 0) a) (T 0 0)).2, (yEi (fun a b => yHm (T 0 0) (T 0 1) L a b 1) a (yEo (fun a b => yHm (T 0 0) (T 0 1) L a b 1) (T 0 0) a) (T 0 0)).1, nI (a + 1), g))
    generalize yEo (fun a b => yHm (T 0 0) (T 0 1) L a b 1) (T 0 0) a = s
    have e2 := xlim_from (step := S_X12_evenest_32 (nI a)) (fun b => ((yEi (fun a b => yHm (T 0 0) (T 0 1) L a b 1) a s b).2, (yEi (fun a b => yHm (T 0 0) (T 0 1) L a b 1) a s b).1, nI b, g)) (a + 1) (T 0 0) (by omega) (e := ((yEi (fun a b => yHm (T 0 0) (T 0 1) L a b 1) a s (T 0 0)).2, (yEi (fun a b => yHm (T 0 0) (T 0 1) L a b 1) a s (T 0 0)).1, g)) (fun b hb1 hb => ?_) ?_
    · rw [yEi_lo _ _ _ (a + 1) (Nat.le_refl _)] at e2
      unfold S_X12_evenest_17
      simp only [r_thingMany C.2.1, xb1_some, if_neg (nI_ge ha (show T 0 0 < 2 ^ 31 by omega)), nI_1]
      rw [e2, xb1_some]
    · unfold S_X12_evenest_32
      have h1 := yHm_le (T 0 0) (T 0 1) L a b 1
      have h2 := yHm_le (T 0 0) (T 0 1) L b a 1
      rw [yEi_hi _ _ _ (show a < b by omega)]
      generalize yEi (fun a b => yHm (T 0 0) (T 0 1) L a b 1) a s b = t
      have x1 : E_X12_howMany (nI a) (nI b) 1 g = some (nI (yHm (T 0 0) (T 0 1) L a b 1)) := r_howMany o q hi ha hb (by decide)
      have x2 : E_X12_howMany (nI a) (nI b) 2 g = some (nI (yHm (T 0 0) (T 0 1) L b a 1)) := by rw [← yHm_12]; exact r_howMany o q hi ha hb (by decide)
      simp only [r_thingMany C.2.1, xb1_some, if_neg (nI_ge hb (show T 0 0 < 2 ^ 31 by omega)), x1, x2]
      unfold K_X12_evenest_77 yEs
      have mn : (if nI (yHm (T 0 0) (T 0 1) L b a 1) ≤ nI (yHm (T 0 0) (T 0 1) L a b 1) then nI (yHm (T 0 0) (T 0 1) L b a 1) else nI (yHm (T 0 0) (T 0 1) L a b 1)) = nI (min (yHm (T 0 0) (T 0 1) L a b 1) (yHm (T 0 0) (T 0 1) L b a 1)) := by
        by_cases c : yHm (T 0 0) (T 0 1) L b a 1 ≤ yHm (T 0 0) (T 0 1) L a b 1
        · rw [if_pos (nI_le c (by omega)), Nat.min_eq_right c]
        · rw [if_neg (fun z => c ((nI_leI (by omega) (by omega)).mp z)), Nat.min_eq_left (by omega)]
      simp only [mn, nI_1, show (10 : Int32) = nI 10 from rfl, nI_mul, nI_add]
      by_cases c : nI (min (yHm (T 0 0) (T 0 1) L a b 1) (yHm (T 0 0) (T 0 1) L b a 1)) ≤ t.1
      · have c2 : ¬ t.1 < nI (min (yHm (T 0 0) (T 0 1) L a b 1) (yHm (T 0 0) (T 0 1) L b a 1)) := Int32.not_lt.mpr c
        rw [if_pos c, if_neg c2, if_neg c2]
      · have c2 : t.1 < nI (min (yHm (T 0 0) (T 0 1) L a b 1) (yHm (T 0 0) (T 0 1) L b a 1)) := Int32.not_le.mp c
        rw [if_neg c, if_pos c2, if_pos c2]
    · unfold S_X12_evenest_32
      simp only [r_thingMany C.2.1, xb1_some]
      exact if_pos (nI_le (Nat.le_refl _) (by omega))
  · unfold S_X12_evenest_17
    simp only [r_thingMany C.2.1, xb1_some]
    exact if_pos (nI_le (Nat.le_refl _) (by omega))
theorem yEo_1 (f : Nat → Nat → Nat) {n : Nat} (h : n < 2) : (yEo f n n).2 = -1 := by
  have : n = 0 ∨ n = 1 := by omega
  rcases this with rfl | rfl
  · rfl
  · rfl
theorem op_23 (C : Cx g β T B) (hs : I_shelf g) : ∃ g', O_23 a1 a2 a3 a4 a5 g = some (true, g') ∧ yAg dAS g g' ∧ I_shelf g' := by
  have hn := C.2.2.2.1
  have t0 := C.2.1.2.1.1
  by_cases h2 : T 0 0 < 2
  · obtain ⟨g2, s1, s2, s3⟩ := r_hasLeft (k := a1) C
    have hi := yLs_in (B := B) (k := a1) (lies := 0) C.2.2.2.1 C.2.2.2.2.1
    refine ⟨g2, r_O (v := -1) (g1 := g) ?_ ?_, s2.A, hs.aA s2⟩
    · unfold E_X11_evenest
      rw [t0, if_pos (show nI (T 0 0) < (2 : Int32) from nI_lt h2 (by decide))]
    · unfold E_X12_evenest
      rw [s1, xb2_some]
      by_cases e : (yLs B a1 (T 0 0) (T 0 1) 0).length = 0
      · rw [if_pos e, if_pos rfl]
      · rw [if_neg e, if_neg (by decide), r_evR (C.as s2.A) s3 hi, yEo_1 _ h2]
  · have h3 : ¬ nI (T 0 0) < (2 : Int32) := by rw [show (2 : Int32) = nI 2 from rfl, nI_ltI (by omega) (by decide)]; exact h2
    have hX := r_pairUp (c := fun r g20_2 => xb1 (E_X5_evenestTwo g20_2) fun r32_4 => some (r32_4, g20_2)) (d := fun g2_1 => xb1 (xlim (S_X12_evenest_17) (-1, -1, 0, g2_1)) fun e_3 => some (e_3.1, e_3.2)) C a1 (fun L => (yEo (fun a b => yHm (T 0 0) (T 0 1) L a b 1) (T 0 0) (T 0 0)).2) (fun g1 C1 q hi h0 => ?_) (fun g2 C2 q hi h0 => ?_)
    · obtain ⟨v, g1, g2, e1, e2, y1, y2⟩ := hX
      exact ⟨g2, r_O (by unfold E_X11_evenest; rw [t0, if_neg h3]; exact e1) e2, (y1.tr y2).A, hs.aA (y1.tr y2)⟩
    · show xb1 (E_X5_evenestTwo g1) _ = _
      rw [r_evC C1.2.2.2 q hi, xb1_some]
    · exact r_evR C2 q hi
/-! ladders -/
def yRg (n w : Nat) (L : List Nat) (loose : Prop) [Decidable loose] (a b : Nat) : Bool := if loose then !(ySe n w L a b 1) && !(ySe n w L a b 2) && !(ySe n w L a b 0) else ySe n w L a b 1 || ySe n w L a b 2
def yLd (n w : Nat) (L : List Nat) (loose : Prop) [Decidable loose] (x : Nat) : Bool := (List.range n).all fun a => (List.range n).all fun b => !(decide (a < b) && x.testBit a && x.testBit b) || yRg n w L loose a b
theorem yLd_i {loose : Prop} [Decidable loose] {x : Nat} : yLd n w L loose x = true ↔ ∀ a b, a < n → b < n → a < b → x.testBit a = true → x.testBit b = true → yRg n w L loose a b = true := by
  unfold yLd
  simp only [List.all_eq_true, List.mem_range, Bool.or_eq_true, Bool.not_eq_true', Bool.and_eq_false_iff, decide_eq_false_iff_not]
  constructor
  · intro h a b ha hb hab h1 h2
    rcases h a ha b hb with (z | z) | z
    · rcases z with z | z
      · exact absurd hab z
      · rw [h1] at z; cases z
    · rw [h2] at z; cases z
    · exact z
  · intro h a ha b hb
    by_cases c1 : a < b
    · by_cases c2 : x.testBit a = true
      · by_cases c3 : x.testBit b = true
        · exact Or.inr (h a b ha hb c1 c2 c3)
        · exact Or.inl (Or.inr (Bool.eq_false_iff.mpr c3))
      · exact Or.inl (Or.inl (Or.inr (Bool.eq_false_iff.mpr c2)))
    · exact Or.inl (Or.inl (Or.inl c1))
theorem r_isSet (o : I_orders g n w) (q : yLC g n w L) (hi : yIn n w L) (h0 : L.length ≠ 0) {m : Int32} {x : Nat} (hx : x < 32) : E_X5_isSet (nI x) m g = some (if yLd n w L (¬ m = 0) x = true then 1 else 0) := by
  have hn := o.1
  have hK : ∀ a b, a < n → b < n → a < b → S_X5_isSet_15 (nI x) m (nI a) g (nI b) = if x.testBit a = true → x.testBit b = true → yRg n w L (¬ m = 0) a b = true then some (.inl (nI (b + 1))) else some (.inr (.inl 0)) := by
    intro a b ha hb hab
    have e1 : F_X5_isSure g (nI a) (nI b) 1 = if a ≠ b ∧ ySe n w L a b 1 = true then 1 else 0 := r_sure o q hi h0 ha hb (by decide)
    have e2 : F_X5_isSure g (nI a) (nI b) 2 = if a ≠ b ∧ ySe n w L a b 2 = true then 1 else 0 := r_sure o q hi h0 ha hb (by decide)
    have e3 : F_X5_isSure g (nI a) (nI b) 0 = if a ≠ b ∧ ySe n w L a b 0 = true then 1 else 0 := r_sure o q hi h0 ha hb (by decide)
    have ne : a ≠ b := by omega
    have k83 : ∀ s0 : Int32, K_X5_isSet_83 (nI x) m (nI a) (nI b) s0 g = if x.testBit a = true → x.testBit b = true → ¬ s0 = 0 then some (.inl (nI (b + 1))) else some (.inr (.inl 0)) := by
      intro s0
      unfold K_X5_isSet_83
      rw [r_xbG (by omega) (by omega), r_xbG (by omega) (by omega), nI_1]
      by_cases c1 : x.testBit a = true
      · by_cases c2 : x.testBit b = true
        · by_cases c3 : s0 = 0
          · simp [c1, c2, c3]
          · simp [c1, c2, c3]
        · simp [c1, c2]
      · simp [c1]
    unfold S_X5_isSet_15
    rw [o.2.2.1, if_neg (nI_ge hb (show n < 2 ^ 31 by omega)), e1, e2]
    unfold K_X5_isSet_46 K_X5_isSet_51 K_X5_isSet_77
    rw [e3]
    simp only [k83]
    unfold yRg
    by_cases z : m = 0
    · by_cases c1 : ySe n w L a b 1 = true <;> by_cases c2 : ySe n w L a b 2 = true <;> simp [z, ne, c1, c2]
    · by_cases c1 : ySe n w L a b 1 = true <;> by_cases c2 : ySe n w L a b 2 = true <;> by_cases c3 : ySe n w L a b 0 = true <;> simp [z, ne, c1, c2, c3]
  have hin : ∀ a, a < n → ((∀ b, a + 1 ≤ b → b < n → x.testBit a = true → x.testBit b = true → yRg n w L (¬ m = 0) a b = true) → xlim (S_X5_isSet_15 (nI x) m (nI a) g) (nI (a + 1)) = some (.inr ())) ∧ ((¬ ∀ b, a + 1 ≤ b → b < n → x.testBit a = true → x.testBit b = true → yRg n w L (¬ m = 0) a b = true) → xlim (S_X5_isSet_15 (nI x) m (nI a) g) (nI (a + 1)) = some (.inl 0)) := by
    intro a ha
    have key : ∀ m' j, m' + j = n → a + 1 ≤ j → ((∀ b, j ≤ b → b < n → x.testBit a = true → x.testBit b = true → yRg n w L (¬ m = 0) a b = true) → xlim (S_X5_isSet_15 (nI x) m (nI a) g) (nI j) = some (.inr ())) ∧ ((¬ ∀ b, j ≤ b → b < n → x.testBit a = true → x.testBit b = true → yRg n w L (¬ m = 0) a b = true) → xlim (S_X5_isSet_15 (nI x) m (nI a) g) (nI j) = some (.inl 0)) := by
      intro m'
      induction m' with
      | zero =>
        intro j hj _
        refine ⟨fun _ => xlim_end ?_, fun z => absurd (fun b h1 h2 => by omega) z⟩
        unfold S_X5_isSet_15
        rw [o.2.2.1]
        exact if_pos (nI_le (by omega) (by omega))
      | succ m' ih =>
        intro j hj hj1
        obtain ⟨i1, i2⟩ := ih (j + 1) (by omega) (by omega)
        have st := hK a j ha (by omega) (by omega)
        by_cases c : x.testBit a = true → x.testBit j = true → yRg n w L (¬ m = 0) a j = true
        · rw [if_pos c] at st
          have e := xlim_go st
          refine ⟨fun z => e.trans (i1 fun b h1 h2 => z b (by omega) h2), fun z => e.trans (i2 fun y => z fun b h1 h2 => ?_)⟩
          by_cases c2 : b = j
          · subst c2; exact c
          · exact y b (by omega) h2
        · rw [if_neg c] at st
          exact ⟨fun z => absurd (z j (Nat.le_refl _) (by omega)) c, fun _ => xlim_end st⟩
    by_cases c : a + 1 ≤ n
    · exact key (n - (a + 1)) (a + 1) (by omega) (Nat.le_refl _)
    · omega
  have hX := xlim_all (step := S_X5_isSet_2 (nI x) m g) (p := fun a => ∀ b, a + 1 ≤ b → b < n → x.testBit a = true → x.testBit b = true → yRg n w L (¬ m = 0) a b = true) (v := (0 : Int32)) (N := n) (fun a ha c => ?_) (fun a ha c => ?_) ?_ n 0 (by omega)
  · obtain ⟨o1, o2⟩ := hX
    unfold E_X5_isSet
    by_cases c : yLd n w L (¬ m = 0) x = true
    · have c' := yLd_i.mp c
      rw [if_pos c, show (0 : Int32) = nI 0 from rfl, o1 (fun a _ ha b hb1 hb h1 h2 => c' a b ha hb (by omega) h1 h2), xbs_inr]
    · rw [if_neg c, show xlim (S_X5_isSet_2 (nI x) m g) 0 = _ from o2 (fun z => c (yLd_i.mpr fun a b ha hb hab h1 h2 => z a (Nat.zero_le _) ha b (by omega) hb h1 h2)), xbs_inl]
  · unfold S_X5_isSet_2
    rw [o.2.2.1, if_neg (nI_ge ha (show n < 2 ^ 31 by omega)), nI_1, (hin a ha).1 c, xbs_inr]
  · unfold S_X5_isSet_2
    rw [o.2.2.1, if_neg (nI_ge ha (show n < 2 ^ 31 by omega)), nI_1, (hin a ha).2 c, xbs_inl]
  · unfold S_X5_isSet_2
    rw [o.2.2.1]
    exact if_pos (nI_le (Nat.le_refl _) (by omega))
/-- only one can be sure -/
theorem ySe_one (h0 : L.length ≠ 0) {a b s t : Nat} (h1 : ySe n w L a b s = true) (h2 : ySe n w L a b t = true) : s = t := (ySe_i.mp h1 0 (by omega)).symm.trans (ySe_i.mp h2 0 (by omega))
theorem yRg_v (h0 : L.length ≠ 0) {m : Int32} {a b : Nat} : (if m = 0 then 1 ≤ ySv n w L b a else ySv n w L b a < 0) ↔ yRg n w L (¬ m = 0) a b = true := by
  unfold yRg ySv
  rw [ySe_0 n w L b a, ← ySe_12 n w L a b, ySe_12 n w L b a]
  by_cases c0 : ySe n w L a b 0 = true
  · have c1 : ¬ ySe n w L a b 1 = true := fun z => absurd (ySe_one h0 c0 z) (by decide)
    have c2 : ¬ ySe n w L a b 2 = true := fun z => absurd (ySe_one h0 c0 z) (by decide)
    by_cases z : m = 0
    · simp [z, c0, c1, c2]
    · simp [z, c0, c1, c2]
  · by_cases c1 : ySe n w L a b 1 = true
    · have c2 : ¬ ySe n w L a b 2 = true := fun z => absurd (ySe_one h0 c1 z) (by decide)
      by_cases z : m = 0
      · simp [z, c0, c1, c2]
      · simp [z, c0, c1, c2]
    · by_cases c2 : ySe n w L a b 2 = true
      · by_cases z : m = 0
        · simp [z, c0, c1, c2]
        · simp [z, c0, c1, c2]
      · by_cases z : m = 0
        · simp [z, c0, c1, c2]
        · simp [z, c0, c1, c2]
theorem r_isLadder (C : Cx g β T B) (q : yLR g L) (hi : yIn (T 0 0) (T 0 1) L) (h0 : L.length ≠ 0) {m : Int32} {x : Nat} (hx : x < 32) : E_X12_isLadder (nI x) m g = some (if yLd (T 0 0) (T 0 1) L (¬ m = 0) x = true then 1 else 0) := by
  have hn := C.2.2.2.1
  have o := C.2.2.2
  have hin : ∀ a, a < T 0 0 → _ := fun a ha => xlim_all (step := S_X12_isLadder_13 (nI x) m (nI a) g) (p := fun b => x.testBit b = true → x.testBit a = true → yRg (T 0 0) (T 0 1) L (¬ m = 0) b a = true) (v := (0 : Int32)) (N := a) (fun b hb c => by
      unfold S_X12_isLadder_13
      rw [if_neg (nI_ge hb (by omega)), r_bitG (by omega) (by omega), r_bitG (by omega) (by omega), r_sureOf o q hi ha (by omega), xb1_some, nI_1]
      by_cases c1 : x.testBit a = true
      · by_cases c2 : x.testBit b = true
        · have c3 := (yRg_v (n := T 0 0) (w := T 0 1) h0 (m := m)).mpr (c c2 c1)
          rw [if_pos c1, if_neg (by decide), if_pos c2, if_neg (by decide)]
          by_cases z : m = 0
          · rw [if_pos z] at c3 ⊢; rw [if_pos c3]
          · rw [if_neg z] at c3 ⊢; rw [if_pos c3]
        · simp [c1, c2]
      · simp [c1]) (fun b hb c => by
      unfold S_X12_isLadder_13
      have c1 : x.testBit a = true := Decidable.byContradiction fun z => c fun _ y => absurd y z
      have c2 : x.testBit b = true := Decidable.byContradiction fun z => c fun y _ => absurd y z
      have c3 : ¬ (if m = 0 then 1 ≤ ySv (T 0 0) (T 0 1) L a b else ySv (T 0 0) (T 0 1) L a b < 0) := fun z => c fun _ _ => (yRg_v h0).mp z
      rw [if_neg (nI_ge hb (by omega)), r_bitG (by omega) (by omega), r_bitG (by omega) (by omega), r_sureOf o q hi ha (by omega), xb1_some, nI_1, if_pos c1, if_neg (by decide), if_pos c2, if_neg (by decide)]
      by_cases z : m = 0
      · rw [if_pos z] at c3 ⊢; rw [if_neg c3]
      · rw [if_neg z] at c3 ⊢; rw [if_neg c3]) (by
      unfold S_X12_isLadder_13
      exact if_pos (nI_le (Nat.le_refl _) (by omega))) a 0 (by omega)
  have hX := xlim_all (step := S_X12_isLadder_2 (nI x) m g) (p := fun a => ∀ b, 0 ≤ b → b < a → x.testBit b = true → x.testBit a = true → yRg (T 0 0) (T 0 1) L (¬ m = 0) b a = true) (v := (0 : Int32)) (N := T 0 0) (fun a ha c => ?_) (fun a ha c => ?_) ?_ (T 0 0) 0 (by omega)
  · obtain ⟨o1, o2⟩ := hX
    unfold E_X12_isLadder
    by_cases c : yLd (T 0 0) (T 0 1) L (¬ m = 0) x = true
    · have c' := yLd_i.mp c
      rw [if_pos c, show (0 : Int32) = nI 0 from rfl, o1 (fun a _ ha b _ hb h1 h2 => c' b a (by omega) ha hb h1 h2), xbs_inr]
    · rw [if_neg c, show xlim (S_X12_isLadder_2 (nI x) m g) 0 = _ from o2 (fun z => c (yLd_i.mpr fun a b ha hb hab h1 h2 => z b (Nat.zero_le _) hb a (Nat.zero_le _) hab h1 h2)), xbs_inl]
  · unfold S_X12_isLadder_2
    rw [r_thingMany C.2.1, xb1_some, if_neg (nI_ge ha (show T 0 0 < 2 ^ 31 by omega)), show (0 : Int32) = nI 0 from rfl, (hin a ha).1 c, xbs_inr, nI_1]
  · unfold S_X12_isLadder_2
    rw [r_thingMany C.2.1, xb1_some, if_neg (nI_ge ha (show T 0 0 < 2 ^ 31 by omega)), show xlim (S_X12_isLadder_13 (nI x) m (nI a) g) 0 = _ from (hin a ha).2 c, xbs_inl]
  · unfold S_X12_isLadder_2
    rw [r_thingMany C.2.1, xb1_some]
    exact if_pos (nI_le (Nat.le_refl _) (by omega))
/-- the first largest set that is so -/
def yLg (p : Nat → Bool) : Nat → Nat
  | 0 => 0
  | j + 1 => if yPop j ≤ yPop (yLg p j) then yLg p j else if p j then j else yLg p j
theorem yLg_le (p : Nat → Bool) : ∀ j, yLg p j ≤ j := by
  intro j
  induction j with
  | zero => exact Nat.le_refl _
  | succ j ih => show (if _ then _ else if _ then _ else _) ≤ _; split <;> (try split) <;> omega
theorem yLg_1 (p : Nat → Bool) : yLg p 1 = 0 := by show (if yPop 0 ≤ yPop 0 then 0 else _) = 0; rw [if_pos (Nat.le_refl _)]
theorem r_popC : ∀ x, x < 32 → ∀ y, y < 32 → (xbci (nI x) ≤ xbci (nI y) ↔ yPop x ≤ yPop y) := by decide +kernel
theorem yPop_le : ∀ x, x < 32 → yPop x < 32 := by decide +kernel
theorem r_shl2 : ∀ n, n < 6 → (1 : Int32) <<< (nI n &&& 31) = nI (2 ^ n) := fun n hn => r_1shl n (by omega)
theorem op_29 (C : Cx g β T B) (hs : I_shelf g) : ∃ g', O_29 a1 a2 a3 a4 a5 g = some (true, g') ∧ yAg dAS g g' ∧ I_shelf g' := by
  have hn := C.2.2.2.1
  have h32 : 2 ^ T 0 0 ≤ 32 := Nat.pow_le_pow_right (n := 2) (by decide) (show T 0 0 ≤ 5 from hn)
  have h1 : 1 ≤ 2 ^ T 0 0 := Nat.two_pow_pos _
  unfold O_29
  generalize xb01 a1 = m
  have hX := r_pairUp (c := fun r g9_1 => xb1 (E_X5_largestSet m g9_1) fun r22_3 => some (r22_3, g9_1)) (d := fun g2_1 => xb1 (xlim (S_X12_ladder_15 m) (0, 1, g2_1)) fun e_3 => some (e_3.1, e_3.2)) C a2 (fun L => nI (yLg (yLd (T 0 0) (T 0 1) L (¬ m = 0)) (2 ^ T 0 0))) (fun g1 C1 q hi h0 => ?_) (fun g2 C2 q hi h0 => ?_)
  · obtain ⟨v, g1, g2, e1, e2, y1, y2⟩ := hX
    exact ⟨g2, r_O e1 e2, (y1.tr y2).A, hs.aA (y1.tr y2)⟩
  · generalize yLs B a2 (T 0 0) (T 0 1) 0 = L at *
    have e := xlim_from (step := S_X5_largestSet_4 m g1) (fun j => (nI (yLg (yLd (T 0 0) (T 0 1) L (¬ m = 0)) j), nI j)) 1 (2 ^ T 0 0) h1 (e := nI (yLg (yLd (T 0 0) (T 0 1) L (¬ m = 0)) (2 ^ T 0 0))) (fun j hj1 hj => ?_) ?_
    · rw [yLg_1] at e
      show xb1 (E_X5_largestSet m g1) _ = _
      unfold E_X5_largestSet
      rw [show ((0 : Int32), (1 : Int32)) = (nI 0, nI 1) from rfl, e, xb1_some, xb1_some]
    · have hb := yLg_le (yLd (T 0 0) (T 0 1) L (¬ m = 0)) j
      unfold S_X5_largestSet_4
      simp only [C1.2.2.2.2.2.1, r_shl2 _ (show T 0 0 < 6 by omega), if_neg (nI_ge hj (show 2 ^ T 0 0 < 2 ^ 31 by omega)), r_isSet C1.2.2.2 q hi h0 (show j < 32 by omega), xb1_some, nI_1]
      show _ = some (Sum.inl (nI (if yPop j ≤ yPop _ then _ else if _ then j else _), _))
      have hp := r_popC j (by omega) _ (show yLg (yLd (T 0 0) (T 0 1) L (¬ m = 0)) j < 32 by omega)
      by_cases c : yPop j ≤ yPop (yLg (yLd (T 0 0) (T 0 1) L (¬ m = 0)) j)
      · rw [if_pos (hp.mpr c), if_pos c]
      · rw [if_neg (fun z => c (hp.mp z)), if_neg c]
        by_cases d : yLd (T 0 0) (T 0 1) L (¬ m = 0) j = true
        · rw [if_pos d, if_neg (by decide), if_pos d]
        · rw [if_neg d, if_pos rfl, if_neg d]
    · unfold S_X5_largestSet_4
      simp only [C1.2.2.2.2.2.1, r_shl2 _ (show T 0 0 < 6 by omega)]
      exact if_pos (nI_le (Nat.le_refl _) (by omega))
  · generalize yLs B a2 (T 0 0) (T 0 1) 0 = L at *
    have e := xlim_from (step := S_X12_ladder_15 m) (fun j => (nI (yLg (yLd (T 0 0) (T 0 1) L (¬ m = 0)) j), nI j, g2)) 1 (2 ^ T 0 0) h1 (e := (nI (yLg (yLd (T 0 0) (T 0 1) L (¬ m = 0)) (2 ^ T 0 0)), g2)) (fun j hj1 hj => ?_) ?_
    · rw [yLg_1] at e
      show xb1 (xlim (S_X12_ladder_15 m) (nI 0, nI 1, g2)) _ = _
      exact congrArg (fun o => xb1 o fun e_6 : Int32 × xSt => some (e_6.1, e_6.2)) e
    · have hb := yLg_le (yLd (T 0 0) (T 0 1) L (¬ m = 0)) j
      unfold S_X12_ladder_15
      simp only [r_thingMany C2.2.1, xb1_some, r_shl2 _ (show T 0 0 < 6 by omega), if_neg (nI_ge hj (show 2 ^ T 0 0 < 2 ^ 31 by omega)), r_bitsOf (show j < 32 by omega), r_bitsOf (show yLg (yLd (T 0 0) (T 0 1) L (¬ m = 0)) j < 32 by omega), r_isLadder C2 q hi h0 (show j < 32 by omega), nI_1]
      show _ = some (Sum.inl (nI (if yPop j ≤ yPop _ then _ else if _ then j else _), _))
      have p1 := yPop_le j (by omega)
      have p2 := yPop_le (yLg (yLd (T 0 0) (T 0 1) L (¬ m = 0)) j) (by omega)
      by_cases c : yPop j ≤ yPop (yLg (yLd (T 0 0) (T 0 1) L (¬ m = 0)) j)
      · rw [if_pos (nI_le c (by omega)), if_pos c]
      · rw [if_neg (fun z => c ((nI_leI (by omega) (by omega)).mp z)), if_neg c]
        by_cases d : yLd (T 0 0) (T 0 1) L (¬ m = 0) j = true
        · rw [if_pos d, if_neg (by decide), if_pos d]
        · rw [if_neg d, if_pos rfl, if_neg d]
    · unfold S_X12_ladder_15
      simp only [r_thingMany C2.2.1, xb1_some, r_shl2 _ (show T 0 0 < 6 by omega)]
      exact if_pos (nI_le (Nat.le_refl _) (by omega))
end EV
