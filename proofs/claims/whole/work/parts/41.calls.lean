/-! CALLS on who is left: surely, odds, sits, twins, bound -/
section CL
variable {g g' : xSt} {β n w : Nat} {T B : yT} {L : List Nat} {k a1 a2 a3 a4 a5 : Int32}
/-- what is surely said of two -/
def ySv (n w : Nat) (L : List Nat) (a b : Nat) : Int32 := if ySe n w L a b 0 then 0 else if ySe n w L a b 1 then 1 else if ySe n w L a b 2 then 2 else -2
theorem r_3steps {α β : Type} {step : α → Option (α ⊕ β)} {st : Nat → α} {p : Nat → Bool} {e : Nat → β} {f : β} (h : ∀ s, s < 3 → step (st s) = if p s then some (.inr (e s)) else some (.inl (st (s + 1)))) (h3 : step (st 3) = some (.inr f)) : xlim step (st 0) = some (if p 0 then e 0 else if p 1 then e 1 else if p 2 then e 2 else f) := by
  have h0 := h 0 (by decide)
  have h1 := h 1 (by decide)
  have h2 := h 2 (by decide)
  by_cases q0 : p 0 = true
  · rw [if_pos q0] at h0 ⊢; exact xlim_end h0
  · rw [if_neg q0] at h0 ⊢
    rw [xlim_go h0]
    by_cases q1 : p 1 = true
    · rw [if_pos q1] at h1 ⊢; exact xlim_end h1
    · rw [if_neg q1] at h1 ⊢
      rw [xlim_go h1]
      by_cases q2 : p 2 = true
      · rw [if_pos q2] at h2 ⊢; exact xlim_end h2
      · rw [if_neg q2] at h2 ⊢
        rw [xlim_go h2]; exact xlim_end h3
theorem r_sureOf (o : I_orders g n w) (q : yLR g L) (hi : yIn n w L) {a b : Nat} (ha : a < n) (hb : b < n) : E_X12_sureOf (nI a) (nI b) g = some (ySv n w L a b) := by
  have hl := hi.1
  have e := r_3steps (step := S_X12_sureOf_2 (nI a) (nI b) g) (st := fun s => nI s) (p := fun s => ySe n w L a b s) (e := fun s => .inl (nI s)) (f := .inr ()) (fun s hs => ?_) ?_
  · unfold E_X12_sureOf ySv
    rw [show (0 : Int32) = nI 0 from rfl, e]
    by_cases q0 : ySe n w L a b 0 = true
    · simp only [q0, if_true, xbs_inl]
    · by_cases q1 : ySe n w L a b 1 = true
      · simp only [if_neg q0, q1, if_true, xbs_inl]; rfl
      · by_cases q2 : ySe n w L a b 2 = true
        · simp only [if_neg q0, if_neg q1, q2, if_true, xbs_inl]; rfl
        · simp only [if_neg q0, if_neg q1, if_neg q2, xbs_inr]
  · unfold S_X12_sureOf_2
    have h3 : ¬ (3 : Int32) ≤ nI s := by rw [show (3 : Int32) = nI 3 from rfl]; exact nI_ge hs (by decide)
    have hh := yHm_le n w L a b s
    rw [if_neg h3, r_howMany o q hi ha hb hs, xb1_some, q.1, nI_1]
    by_cases c : ySe n w L a b s = true
    · rw [if_pos c, if_pos (by rw [beq_iff_eq.mp c])]
    · rw [if_neg c, if_neg (fun z => c (beq_iff_eq.mpr ((nI_eq (by omega) (by omega)).mp z)))]
  · unfold S_X12_sureOf_2
    exact if_pos (show (3 : Int32) ≤ nI 3 by decide)
theorem op_14 (C : Cx g β T B) (hs : I_shelf g) : ∃ g', O_14 a1 a2 a3 a4 a5 g = some (true, g') ∧ yAg dAS g g' ∧ I_shelf g' := by
  have hn := C.2.2.2.1
  rcases r_two (a1 := a1) (a2 := a2) C with ⟨p1, p2⟩ | ⟨a, b, ha, hb, hab, rfl, rfl⟩
  · exact ⟨g, r_O (v := -1) (by unfold E_X11_surely; rw [if_pos p1]) (by unfold E_X12_surely; rw [p2, xb1_some, if_pos rfl]), yAg.refl _ _, hs⟩
  · have hX := r_pairUp (c := fun r g21_2 => xbs (xlim (S_X11_surely_32 (nI a) (nI b)) (0, g21_2)) (fun v_ => some v_) fun e_4 => some ((-2), e_4)) (d := fun g11_3 => xb1 (E_X12_sureOf (nI a) (nI b) g11_3) fun r20_5 => some (r20_5, g11_3)) C a3 (fun L => ySv (T 0 0) (T 0 1) L a b) (fun g1 C1 q hi h0 => ?_) (fun g2 C2 q hi h0 => ?_)
    · obtain ⟨v, g1, g2, e1, e2, y1, y2⟩ := hX
      exact ⟨g2, r_O (by unfold E_X11_surely; rw [(r_tw1 C ha hb hab).1, if_neg (by decide)]; exact e1) (by unfold E_X12_surely; rw [(r_tw1 (C.as y1.A) ha hb hab).2, xb1_some, if_neg (by decide)]; exact e2), (y1.tr y2).A, hs.aA (y1.tr y2)⟩
    · generalize yLs B a3 (T 0 0) (T 0 1) 0 = L at *
      have e := r_3steps (step := S_X11_surely_32 (nI a) (nI b)) (st := fun s => (nI s, g1)) (p := fun s => ySe (T 0 0) (T 0 1) L a b s) (e := fun s => .inl (nI s, g1)) (f := .inr g1) (fun s hs => ?_) ?_
      · show xbs (xlim (S_X11_surely_32 (nI a) (nI b)) (nI 0, g1)) _ _ = _
        unfold ySv
        rw [e]
        by_cases q0 : ySe (T 0 0) (T 0 1) L a b 0 = true
        · simp only [q0, if_true, xbs_inl]; rfl
        · by_cases q1 : ySe (T 0 0) (T 0 1) L a b 1 = true
          · simp only [if_neg q0, q1, if_true, xbs_inl]; rfl
          · by_cases q2 : ySe (T 0 0) (T 0 1) L a b 2 = true
            · simp only [if_neg q0, if_neg q1, q2, if_true, xbs_inl]; rfl
            · simp only [if_neg q0, if_neg q1, if_neg q2, xbs_inr]
      · unfold S_X11_surely_32
        have h3 : ¬ (2 : Int32) < nI s := by rw [show (2 : Int32) = nI 2 from rfl, nI_ltI (by decide) (by omega)]; omega
        simp only [if_neg h3, r_sure C1.2.2.2 q hi h0 ha hb hs, nI_1]
        by_cases c : ySe (T 0 0) (T 0 1) L a b s = true
        · rw [if_pos (show a ≠ b ∧ ySe (T 0 0) (T 0 1) L a b s = true from ⟨hab, c⟩), if_neg (by decide), if_pos c]
        · rw [if_neg (show ¬ (a ≠ b ∧ ySe (T 0 0) (T 0 1) L a b s = true) from fun z => c z.2), if_pos rfl, if_neg c]
      · unfold S_X11_surely_32
        exact if_pos (show (2 : Int32) < nI 3 by decide)
    · show xb1 (E_X12_sureOf (nI a) (nI b) g2) _ = _
      rw [r_sureOf C2.2.2.2 q hi ha hb, xb1_some]
theorem r_in01 {g : xSt} : (F_X12_isIn g a1 0 1 = 0 ∧ (a1 < 0 ∨ 1 < a1)) ∨ (F_X12_isIn g a1 0 1 = 1 ∧ ¬ a1 < 0 ∧ ¬ 1 < a1) := by
  unfold F_X12_isIn
  by_cases q : a1 < 0
  · exact Or.inl ⟨if_pos q, Or.inl q⟩
  · rw [if_neg q]
    by_cases q1 : 1 < a1
    · exact Or.inl ⟨if_pos q1, Or.inr q1⟩
    · exact Or.inr ⟨if_neg q1, q, q1⟩
theorem r_isInG {g g' : xSt} {x y z : Int32} : F_X12_isIn g' x y z = F_X12_isIn g x y z := rfl
theorem op_22 (C : Cx g β T B) (hs : I_shelf g) : ∃ g', O_22 a1 a2 a3 a4 a5 g = some (true, g') ∧ yAg dAS g g' ∧ I_shelf g' := by
  have hn := C.2.2.2.1
  rcases r_two (a1 := a1) (a2 := a2) C with ⟨p1, p2⟩ | ⟨a, b, ha, hb, hab, rfl, rfl⟩
  · exact ⟨g, r_O (v := -1) (by unfold E_X11_odds; rw [if_pos p1]) (by unfold E_X12_odds; rw [p2, xb1_some, if_pos rfl]), yAg.refl _ _, hs⟩
  · rcases r_in01 (g := g) (a1 := a3) with ⟨i1, i2⟩ | ⟨i1, i2, i3⟩
    · refine ⟨g, r_O (v := -1) ?_ (by unfold E_X12_odds; rw [(r_tw1 C ha hb hab).2, xb1_some, if_neg (by decide), if_pos i1]), yAg.refl _ _, hs⟩
      unfold E_X11_odds
      rw [(r_tw1 C ha hb hab).1, if_neg (by decide)]
      by_cases q : a3 < 0
      · rw [if_pos q]
      · rw [if_neg q, if_neg]
        intro z
        have := i2.resolve_left q
        rw [Int32.lt_iff_toInt_lt] at this
        rw [Int32.le_iff_toInt_le] at z
        omega
    · obtain ⟨g1, r1, r2, r3⟩ := r_know (k := a4) C
      have C1 := C.as r2.A
      obtain ⟨g2, s1, s2, s3⟩ := r_layLeft (k := a4) (lies := 0) (by decide) C1.2.2.1.1 C1.2.2.2 C1.2.2.1.2.2
      have C2 := C1.as (s2.up dLR_A).A
      have hi := yLs_in (B := B) (k := a4) (lies := 0) C.2.2.2.1 C.2.2.2.2.1
      have i4 : a3 ≤ 1 := by rw [Int32.le_iff_toInt_le]; rw [Int32.lt_iff_toInt_lt] at i3; omega
      have y := r2.tr (s2.up dLR_A)
      generalize yLs B a4 (T 0 0) (T 0 1) 0 = L at *
      by_cases q : a3 = 0
      · refine ⟨g2, r_O (g1 := g1) (v := nI (yHm (T 0 0) (T 0 1) L a b 1)) ?_ ?_, y.A, hs.aA y⟩
        · unfold E_X11_odds
          rw [(r_tw1 C ha hb hab).1, if_neg (by decide), if_neg i2, if_pos i4, r1, xb2_some, if_pos q, r_heavierIn C1.2.2.2 r3 hi ha hb hab, xb1_some]
        · unfold E_X12_odds
          rw [(r_tw1 C1 ha hb hab).2, xb1_some, if_neg (by decide), r_isInG (g := g), i1, if_neg (by decide), show E_X12_layLeft 0 a4 g1 = some g2 from s1, xb1_some, if_pos q, show (1 : Int32) = nI 1 from rfl, r_howMany C2.2.2.2 s3 hi ha hb (by decide), xb1_some]
      · refine ⟨g2, r_O (g1 := g1) (v := nI L.length) ?_ ?_, y.A, hs.aA y⟩
        · unfold E_X11_odds
          rw [(r_tw1 C ha hb hab).1, if_neg (by decide), if_neg i2, if_pos i4, r1, xb2_some, if_neg q]
        · unfold E_X12_odds
          rw [(r_tw1 C1 ha hb hab).2, xb1_some, if_neg (by decide), r_isInG (g := g), i1, if_neg (by decide), show E_X12_layLeft 0 a4 g1 = some g2 from s1, xb1_some, if_neg q, s3.1]
theorem yBs_succ (p : Nat → Bool) (m : Nat) : yBs p (m + 1) = yBs p m ||| (if p m then 2 ^ m else 0) := rfl
theorem r_surelySaying (o : I_orders g n w) (q : yLC g n w L) (hi : yIn n w L) (h0 : L.length ≠ 0) {t s : Nat} (ht : t < n) (hs : s < 3) : E_X5_surelySaying (nI t) (nI s) g = some (nI (yBs (fun j => decide (t ≠ j) && ySe n w L t j s) n)) := by
  have hn := o.1
  have e := xlim_of (step := S_X5_surelySaying_5 (nI t) (nI s) g) (fun j => (nI (yBs (fun j => decide (t ≠ j) && ySe n w L t j s) j), nI j)) n (e := nI (yBs (fun j => decide (t ≠ j) && ySe n w L t j s) n)) (fun j hj => ?_) ?_
  · unfold E_X5_surelySaying
    rw [show ((0 : Int32), (0 : Int32)) = (nI (yBs (fun j => decide (t ≠ j) && ySe n w L t j s) 0), nI 0) from rfl, e, xb1_some]
  · unfold S_X5_surelySaying_5
    simp only [o.2.2.1, if_neg (nI_ge hj (show n < 2 ^ 31 by omega)), r_sure o q hi h0 ht hj hs, nI_1, r_1shl j (by omega), r_orG, yBs_succ]
    by_cases c : t ≠ j ∧ ySe n w L t j s = true
    · rw [if_pos c, if_neg (by decide), if_pos (by simp [c])]
    · rw [if_neg c, if_pos rfl, if_neg (by simpa using c), Nat.or_zero]
  · unfold S_X5_surelySaying_5
    simp only [o.2.2.1]
    exact if_pos (nI_le (Nat.le_refl _) (by omega))
theorem op_25 (C : Cx g β T B) (hs : I_shelf g) : ∃ g', O_25 a1 a2 a3 a4 a5 g = some (true, g') ∧ yAg dAS g g' ∧ I_shelf g' := by
  have hn := C.2.2.2.1
  rcases r_thing (a1 := a1) C with ⟨p1, p2⟩ | ⟨t, ht, rfl⟩
  · exact ⟨g, r_O (v := -1) (by unfold E_X11_sits; rw [if_pos p1]) (by unfold E_X12_sits; rw [p2, xb1_some, if_pos rfl]), yAg.refl _ _, hs⟩
  · rcases r_in01 (g := g) (a1 := a2) with ⟨i1, i2⟩ | ⟨i1, i2, i3⟩
    · refine ⟨g, r_O (v := -1) ?_ (by unfold E_X12_sits; rw [(r_th1 C ht).2, xb1_some, if_neg (by decide), if_pos i1]), yAg.refl _ _, hs⟩
      unfold E_X11_sits
      rw [(r_th1 C ht).1, if_neg (by decide)]
      by_cases q : a2 < 0
      · rw [if_pos q]
      · rw [if_neg q, if_pos (i2.resolve_left q)]
    · have hX := r_pairUp (c := fun r g29_4 => K_X11_sits_51 (nI t) (if a2 = 0 then (1 : Int32) else (2 : Int32)) g29_4) (d := fun g19_4 => xb1 (xlim (S_X12_sits_33 (nI t) a2) (0, 0, g19_4)) fun e_6 => some (e_6.1, e_6.2)) C a3 (fun L => nI (yBs (fun j => decide (t ≠ j) && ySe (T 0 0) (T 0 1) L t j (if a2 = 0 then 1 else 2)) (T 0 0))) (fun g1 C1 q hi h0 => ?_) (fun g2 C2 q hi h0 => ?_)
      · obtain ⟨v, g1, g2, e1, e2, y1, y2⟩ := hX
        exact ⟨g2, r_O (by unfold E_X11_sits; rw [(r_th1 C ht).1, if_neg (by decide), if_neg i2, if_neg i3]; exact e1) (by unfold E_X12_sits; rw [(r_th1 (C.as y1.A) ht).2, xb1_some, if_neg (by decide), r_isInG (g := g), i1, if_neg (by decide)]; exact e2), (y1.tr y2).A, hs.aA (y1.tr y2)⟩
      · generalize yLs B a3 (T 0 0) (T 0 1) 0 = L at *
        show K_X11_sits_51 _ _ g1 = _
        unfold K_X11_sits_51
        rw [show (if a2 = 0 then (1 : Int32) else 2) = nI (if a2 = 0 then 1 else 2) by split <;> rfl, r_surelySaying C1.2.2.2 q hi h0 ht (by split <;> decide), xb1_some]
      · generalize yLs B a3 (T 0 0) (T 0 1) 0 = L at *
        have e := xlim_of (step := S_X12_sits_33 (nI t) a2) (fun j => (nI (yBs (fun j => decide (t ≠ j) && ySe (T 0 0) (T 0 1) L t j (if a2 = 0 then 1 else 2)) j), nI j, g2)) (T 0 0) (e := (nI (yBs (fun j => decide (t ≠ j) && ySe (T 0 0) (T 0 1) L t j (if a2 = 0 then 1 else 2)) (T 0 0)), g2)) (fun j hj => ?_) ?_
        · show xb1 (xlim (S_X12_sits_33 (nI t) a2) (nI 0, nI 0, g2)) _ = _
          exact congrArg (fun o => xb1 o fun e_6 : Int32 × xSt => some (e_6.1, e_6.2)) e
        · unfold S_X12_sits_33
          simp only [r_thingMany C2.2.1, xb1_some, if_neg (nI_ge hj (show T 0 0 < 2 ^ 31 by omega)), r_isHeavier C2.2.2.2 q hi ht hj, r_isHeavier C2.2.2.2 q hi hj ht, nI_1, r_1shl j (by omega), yBs_succ]
          by_cases z : a2 = 0
          · rw [if_pos z, if_pos z]
            by_cases c : t ≠ j ∧ ySe (T 0 0) (T 0 1) L t j 1 = true
            · rw [if_pos c, if_neg (by decide), if_pos (by simp [c]), r_orG]
            · rw [if_neg c, if_pos rfl, if_neg (by simpa using c), Nat.or_zero, Int32.or_zero]
          · rw [if_neg z, if_neg z, ySe_12]
            by_cases c : j ≠ t ∧ ySe (T 0 0) (T 0 1) L j t 1 = true
            · rw [if_pos c, if_neg (by decide), if_pos (by simp [c.2]; exact fun y => c.1 y.symm), r_orG]
            · rw [if_neg c, if_pos rfl, if_neg (by simp; intro y; exact Bool.eq_false_iff.mpr fun x => c ⟨fun h => y h.symm, x⟩), Nat.or_zero, Int32.or_zero]
        · unfold S_X12_sits_33
          simp only [r_thingMany C2.2.1, xb1_some]
          exact if_pos (nI_le (Nat.le_refl _) (by omega))
theorem op_28 (C : Cx g β T B) (hs : I_shelf g) : ∃ g', O_28 a1 a2 a3 a4 a5 g = some (true, g') ∧ yAg dAS g g' ∧ I_shelf g' := by
  have hn := C.2.2.2.1
  rcases r_thing (a1 := a1) C with ⟨p1, p2⟩ | ⟨t, ht, rfl⟩
  · exact ⟨g, r_O (v := -1) (by unfold E_X11_twins; rw [if_pos p1]) (by unfold E_X12_twins; rw [p2, xb1_some, if_pos rfl]), yAg.refl _ _, hs⟩
  · have hX := r_pairUp (c := fun r g20_2 => xb1 (E_X5_surelySaying (nI t) 0 g20_2) fun r34_4 => some (r34_4, g20_2)) (d := fun g10_3 => xb1 (xlim (S_X12_twins_23 (nI t)) (0, 0, g10_3)) fun e_5 => some (e_5.1, e_5.2)) C a2 (fun L => nI (yBs (fun j => decide (t ≠ j) && ySe (T 0 0) (T 0 1) L t j 0) (T 0 0))) (fun g1 C1 q hi h0 => ?_) (fun g2 C2 q hi h0 => ?_)
    · obtain ⟨v, g1, g2, e1, e2, y1, y2⟩ := hX
      exact ⟨g2, r_O (by unfold E_X11_twins; rw [(r_th1 C ht).1, if_neg (by decide)]; exact e1) (by unfold E_X12_twins; rw [(r_th1 (C.as y1.A) ht).2, xb1_some, if_neg (by decide)]; exact e2), (y1.tr y2).A, hs.aA (y1.tr y2)⟩
    · generalize yLs B a2 (T 0 0) (T 0 1) 0 = L at *
      show xb1 (E_X5_surelySaying (nI t) (nI 0) g1) _ = _
      rw [r_surelySaying C1.2.2.2 q hi h0 ht (by decide), xb1_some]
    · generalize yLs B a2 (T 0 0) (T 0 1) 0 = L at *
      have hl := hi.1
      have e := xlim_of (step := S_X12_twins_23 (nI t)) (fun j => (nI (yBs (fun j => decide (t ≠ j) && ySe (T 0 0) (T 0 1) L t j 0) j), nI j, g2)) (T 0 0) (e := (nI (yBs (fun j => decide (t ≠ j) && ySe (T 0 0) (T 0 1) L t j 0) (T 0 0)), g2)) (fun j hj => ?_) ?_
      · show xb1 (xlim (S_X12_twins_23 (nI t)) (nI 0, nI 0, g2)) _ = _
        exact congrArg (fun o => xb1 o fun e_6 : Int32 × xSt => some (e_6.1, e_6.2)) e
      · unfold S_X12_twins_23
        have hh := yHm_le (T 0 0) (T 0 1) L t j 0
        simp only [r_thingMany C2.2.1, xb1_some, if_neg (nI_ge hj (show T 0 0 < 2 ^ 31 by omega)), show E_X12_howMany (nI t) (nI j) 0 g2 = some (nI (yHm (T 0 0) (T 0 1) L t j 0)) from r_howMany C2.2.2.2 q hi ht hj (by decide), nI_1, r_1shl j (by omega), yBs_succ, q.1]
        by_cases z : t = j
        · rw [if_pos (by rw [z]), if_neg (by simp [z]), Nat.or_zero, Int32.or_zero]
        · rw [if_neg (fun y => z ((nI_eq (by omega) (by omega)).mp y).symm)]
          by_cases c : ySe (T 0 0) (T 0 1) L t j 0 = true
          · rw [if_pos (by rw [beq_iff_eq.mp c]), if_pos (by simp [z, c]), r_orG]
          · rw [if_neg (fun y => c (beq_iff_eq.mpr ((nI_eq (by omega) (by omega)).mp y))), if_neg (by simp [c]), Nat.or_zero, Int32.or_zero]
      · unfold S_X12_twins_23
        simp only [r_thingMany C2.2.1, xb1_some]
        exact if_pos (nI_le (Nat.le_refl _) (by omega))
theorem r_dep : ∀ c, c < 4 → 2 ≤ c → ∀ x, x < 542 → ∃ N, N < 11 ∧ x ≤ c ^ N ∧ ∀ j, j < N → c ^ j < x := by
  intro c hc h2 x hx
  have key : ∀ m N, N + m = 10 → (∀ j, j < N → c ^ j < x) → ∃ N, N < 11 ∧ x ≤ c ^ N ∧ ∀ j, j < N → c ^ j < x := by
    intro m
    induction m with
    | zero =>
      intro N hN h
      refine ⟨N, by omega, ?_, h⟩
      have : N = 10 := by omega
      subst this
      have : 2 ^ 10 ≤ c ^ 10 := Nat.pow_le_pow_left h2 10
      omega
    | succ m ih =>
      intro N hN h
      by_cases q : x ≤ c ^ N
      · exact ⟨N, by omega, q, h⟩
      · exact ih (N + 1) (by omega) fun j hj => by
          by_cases e : j = N
          · subst e; omega
          · exact h j (by omega)
  exact key 10 0 (by omega) fun j hj => by omega
theorem r_powlt {c N : Nat} (hc : c < 4) (hN : N < 11) : c ^ N < 2 ^ 31 := by
  have h1 : c ^ N ≤ 3 ^ N := Nat.pow_le_pow_left (by omega) N
  have h2 : 3 ^ N ≤ 3 ^ 10 := Nat.pow_le_pow_right (by decide) (by omega)
  have h3 : 3 ^ 10 < 2 ^ 31 := by decide
  omega
theorem r_depthOf {c x N : Nat} (hc : c < 4) (hx : x < 542) (hN : N < 11) (h1 : x ≤ c ^ N) (h2 : ∀ j, j < N → c ^ j < x) : E_X8_depthOf (nI x) (nI c) g = some (nI N) := by
  have e := xlim_of (step := S_X8_depthOf_4 (nI x) (nI c) g) (fun j => (nI j, nI (c ^ j))) N (e := nI N) (fun j hj => ?_) ?_
  · unfold E_X8_depthOf
    rw [show ((0 : Int32), (1 : Int32)) = (nI 0, nI (c ^ 0)) from rfl, e, xb1_some]
  · unfold S_X8_depthOf_4
    have hj2 := h2 j hj
    have h20 : ¬ (20 : Int32) ≤ nI j := by rw [show (20 : Int32) = nI 20 from rfl]; exact nI_ge (by omega) (by decide)
    simp only [if_neg (nI_ge hj2 (show x < 2 ^ 31 by omega)), if_neg h20, nI_1, nI_mul]
    rfl
  · unfold S_X8_depthOf_4
    exact if_pos (nI_le h1 (r_powlt hc hN))
theorem op_30 (C : Cx g β T B) (hs : I_shelf g) : ∃ g', O_30 a1 a2 a3 a4 a5 g = some (true, g') ∧ yAg dAS g g' ∧ I_shelf g' := by
  have hn := C.2.2.2.1
  have hw := C.2.2.2.2.1
  have hi := yLs_in (B := B) (k := a1) (lies := 0) hn hw
  obtain ⟨N, n1, n2, n3⟩ := r_dep (if T 0 1 = 0 then 2 else 3) (by split <;> decide) (by split <;> decide) (yLs B a1 (T 0 0) (T 0 1) 0).length (by have := hi.1; omega)
  have hc4 : (if T 0 1 = 0 then 2 else 3) < 4 := by split <;> decide
  have hcI : ∀ x : Int32, x = nI (T 0 1) → (if x = 0 then (2 : Int32) else 3) = nI (if T 0 1 = 0 then 2 else 3) := fun x e => by
    rw [e]
    by_cases z : T 0 1 = 0
    · rw [z]; rfl
    · have : T 0 1 = 1 := by omega
      rw [this]; rfl
  have hX := r_pairUp (c := fun r9_1 g9_1 => K_X11_bound_37 r9_1 (if (xI g9_1 (tw g9_1) 3) = 0 then (2 : Int32) else (3 : Int32)) g9_1) (d := fun g2_1 => xb1 (xlim (S_X12_bound_14) (0, 1, g2_1)) fun e_3 => some (e_3.1, e_3.2)) C a1 (fun _ => nI N) (fun g1 C1 q hi h0 => ?_) (fun g2 C2 q hi h0 => ?_)
  · obtain ⟨v, g1, g2, e1, e2, y1, y2⟩ := hX
    exact ⟨g2, r_O e1 e2, (y1.tr y2).A, hs.aA (y1.tr y2)⟩
  · generalize yLs B a1 (T 0 0) (T 0 1) 0 = L at *
    have hl := hi.1
    show K_X11_bound_37 _ _ g1 = _
    unfold K_X11_bound_37
    rw [hcI _ C1.2.1.2.1.2.1, r_depthOf hc4 (by omega) n1 n2 n3, xb1_some]
  · generalize yLs B a1 (T 0 0) (T 0 1) 0 = L at *
    have hl := hi.1
    have t2 := C2.2.1.2.2.1
    have e := xlim_of (step := S_X12_bound_14) (fun j => (nI j, nI ((if T 0 1 = 0 then 2 else 3) ^ j), g2)) N (e := (nI N, g2)) (fun j hj => ?_) ?_
    · show xb1 (xlim (S_X12_bound_14) (nI 0, nI ((if T 0 1 = 0 then 2 else 3) ^ 0), g2)) _ = _
      exact congrArg (fun o => xb1 o fun e_6 : Int32 × xSt => some (e_6.1, e_6.2)) e
    · unfold S_X12_bound_14
      have hj2 := n3 j hj
      simp only [q.1, if_neg (nI_ge hj2 (show L.length < 2 ^ 31 by omega)), C2.2.1.2.2.2.1, xck_nI (show β < 2 by omega) (show (2 : Nat) < 2 ^ 31 by decide), nI_clamp (show β < 2 ^ 31 by omega), hcI _ C2.2.1.2.2.2.2.2.1, nI_mul, nI_1]
      rfl
    · unfold S_X12_bound_14
      simp only [q.1]
      exact if_pos (nI_le n2 (r_powlt hc4 n1))
end CL
