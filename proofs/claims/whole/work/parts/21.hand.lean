/-! EXTRACTION by hand: street, image, back; the law's turn -/
/-- what a call keeps beside its own cells: the shape, the script -/
def xKp (g g' : xSt) : Prop := xWf g' ∧ xH g' = xH g ∧ xI g' 1000000 = xI g 1000000 ∧ g'.1 = g.1
theorem xFr.kp {A : List Nat} {B : List (Nat × Nat)} {g g' : xSt} (h : xFr A B g g') (W : xWf g) (hA : (A.all fun o => decide (o < 1000000)) = true) (hB : (B.all fun q => decide (q.1 < 1000000)) = true) : xKp g g' := by
  refine ⟨h.wf W, h.2.1, ?_, h.1⟩
  funext k
  refine h.i (fun q => ?_) (fun q => ?_)
  · have := List.all_eq_true.mp hA _ q
    exact absurd (of_decide_eq_true this) (by omega)
  · have := List.all_eq_true.mp hB _ q
    exact absurd (of_decide_eq_true this) (by simp)
theorem xKp.refl {g : xSt} (W : xWf g) : xKp g g := ⟨W, rfl, rfl, rfl⟩
theorem xKp.tr {g g1 g2 : xSt} (h : xKp g g1) (h1 : xKp g1 g2) : xKp g g2 := ⟨h1.1, h1.2.1.trans h.2.1, h1.2.2.1.trans h.2.2.1, h1.2.2.2.trans h.2.2.2⟩
theorem xKp.wi {g g1 : xSt} (h : xKp g g1) {o k : Nat} {v : Int32} (ho : o < 1000000) : xKp g (xWI g1 o k v) := by
  refine ⟨h.1, h.2.1, ?_, h.2.2.2⟩
  rw [xI_WI, x2_row _ _ _ (by omega)]
  exact h.2.2.1
/-- the boxes' cells -/
def xbx (a : Int32) : Nat := if a = 0 then 42 else if a = 1 then 51 else 60
theorem xbx_ok {a : Int32} (h0 : ¬ a < 0) (h3 : a < 3) : xBk (xbx a) ∧ xbx a ≠ 32 ∧ vp_in a 3 ∧ ∀ g : xSt, xWf g → xR g 41 a.toNatClampNeg = some (xbx a) := by
  obtain ⟨j, hj, rfl⟩ := nI_of h0
  have hj3 : j < 3 := (nI_ltI hj (by decide)).mp h3
  refine ⟨?_, ?_, vp_in_nI hj3 (by decide), fun g W => ?_⟩
  · match j, hj3 with
    | 0, _ => exact Or.inr (Or.inl rfl)
    | 1, _ => exact Or.inr (Or.inr (Or.inl rfl))
    | 2, _ => exact Or.inr (Or.inr (Or.inr rfl))
    | j + 3, h => omega
  · match j, hj3 with
    | 0, _ => decide
    | 1, _ => decide
    | 2, _ => decide
    | j + 3, h => omega
  · rw [nI_clamp hj]
    match j, hj3 with
    | 0, _ => exact xptr W 41 0 rfl
    | 1, _ => exact xptr W 41 1 rfl
    | 2, _ => exact xptr W 41 2 rfl
    | j + 3, h => omega
noncomputable def E_X11_image (a1 : Int32) (g : xSt) : Option (Int32 × xSt) := if a1 < 0 then some (-1, g) else if a1 < 3 then xb1 (E_X0_copyFrom (xbx a1) 32 g) fun g25 => some (xI (xWI g25 (xbx a1) 4 1) 32 0, xWI g25 (xbx a1) 4 1) else some (-1, g)
theorem xbk_lt {b : Nat} (h : xBk b) : b < 1000 := by rcases h with rfl | rfl | rfl | rfl <;> decide
theorem e_X11_image {d : Nat} {g : xSt} {a1 : Int32} {o_ : Int32 × xSt} (W : xWf g) (h : E_X11_image a1 g = some o_) : xCallM (d + 2) mX11_image [.ref 0, .int a1] g = some (some (.int o_.1), o_.2) ∧ xKp g o_.2 := by
  unfold E_X11_image at h
  by_cases q1 : a1 < 0
  · rw [if_pos q1] at h
    cases h
    exact ⟨bX11_image_0 (fun _ => bX11_image_13 rfl) (fun n => absurd q1 n), xKp.refl W⟩
  · rw [if_neg q1] at h
    by_cases q2 : a1 < 3
    · rw [if_pos q2] at h
      obtain ⟨b1, b2, b3, b4⟩ := xbx_ok q1 q2
      refine xbE1 h fun g25 h1 h => ?_
      have y := e_X0_copyFrom (d := d) W b1 xb32 b2 h1
      have k := y.2.kp W (by
        simp only [List.all_cons, List.all_nil, Bool.and_true, Bool.and_eq_true, decide_eq_true_eq]
        have := xbk_lt b1
        refine ⟨?_, ?_, ?_, ?_, ?_, ?_, ?_, ?_⟩ <;> omega) (by
        simp only [List.all_cons, List.all_nil, Bool.and_true, Bool.and_eq_true, decide_eq_true_eq]
        have := xbk_lt b1
        refine ⟨?_, ?_, ?_, ?_⟩ <;> omega)
      cases h
      refine ⟨bX11_image_0 (fun n => absurd n q1) (fun _ => bX11_image_4 W (fun _ => bX11_image_15 W b1 b3 (b4 g W) y.1 k.1 b3 (b4 g25 k.1) rfl) (fun n => absurd q2 n)), k.wi (by have := xbk_lt b1; omega)⟩
    · rw [if_neg q2] at h
      cases h
      exact ⟨bX11_image_0 (fun n => absurd n q1) (fun _ => bX11_image_4 W (fun n => absurd n q2) (fun _ => bX11_image_13 rfl)), xKp.refl W⟩
noncomputable def E_X11_back (a1 : Int32) (g : xSt) : Option (Int32 × xSt) := if a1 < 0 then some (-1, g) else if 3 ≤ a1 then some (-1, g) else if xI g (xbx a1) 4 = 0 then some (-1, g) else xb1 (E_X0_copyFrom 32 (xbx a1) g) fun g37 => some (xI g37 32 0, g37)
theorem e_X11_back {d : Nat} {g : xSt} {a1 : Int32} {o_ : Int32 × xSt} (W : xWf g) (h : E_X11_back a1 g = some o_) : xCallM (d + 2) mX11_back [.ref 0, .int a1] g = some (some (.int o_.1), o_.2) ∧ xKp g o_.2 := by
  unfold E_X11_back at h
  by_cases q1 : a1 < 0
  · rw [if_pos q1] at h
    cases h
    exact ⟨bX11_back_0 (fun _ => bX11_back_25 rfl) (fun n => absurd q1 n), xKp.refl W⟩
  · rw [if_neg q1] at h
    by_cases q2 : 3 ≤ a1
    · rw [if_pos q2] at h
      cases h
      exact ⟨bX11_back_0 (fun n => absurd n q1) (fun _ => bX11_back_4 W (fun _ => bX11_back_25 rfl) (fun n => absurd q2 n)), xKp.refl W⟩
    · rw [if_neg q2] at h
      have q3 : a1 < 3 := Int32.not_le.mp q2
      obtain ⟨b1, b2, b3, b4⟩ := xbx_ok q1 q3
      by_cases q4 : xI g (xbx a1) 4 = 0
      · rw [if_pos q4] at h
        cases h
        exact ⟨bX11_back_0 (fun n => absurd n q1) (fun _ => bX11_back_4 W (fun n => absurd n q2) (fun _ => bX11_back_13 W b1 b3 (b4 g W) (fun _ => bX11_back_25 rfl) (fun n => absurd q4 n))), xKp.refl W⟩
      · rw [if_neg q4] at h
        refine xbE1 h fun g37 h1 h => ?_
        have y := e_X0_copyFrom (d := d) W xb32 b1 (Ne.symm b2) h1
        have k := y.2.kp W (by decide) (by decide)
        cases h
        exact ⟨bX11_back_0 (fun n => absurd n q1) (fun _ => bX11_back_4 W (fun n => absurd n q2) (fun _ => bX11_back_13 W b1 b3 (b4 g W) (fun n => absurd n q4) (fun _ => bX11_back_27 W b1 b3 (b4 g W) y.1 k.1 rfl))), k⟩
/-- the two streets change places -/
def xSw (g : xSt) : xSt := xWR (xWR g 0 4 (some (13 - tw g))) 0 5 (some (tw g))
theorem xR_sw {g : xSt} {o k : Nat} (h : ¬ (o = 0 ∧ (k = 4 ∨ k = 5))) : xR (xSw g) o k = xR g o k := by
  show x2 (x2 (xR g) 0 4 _) 0 5 _ o k = _
  rw [x2_out _ (fun q => h ⟨q.1, Or.inr q.2⟩), x2_out _ (fun q => h ⟨q.1, Or.inl q.2⟩)]
theorem tw_sw (g : xSt) : tw (xSw g) = 13 - tw g := rfl
theorem xWf_sw {g : xSt} (W : xWf g) : xWf (xSw g) := by
  have ht := xtw W
  obtain ⟨w1, w2, w3, w4, w5, w6⟩ := W
  refine ⟨w1, w2, ?_, rfl, ?_, ?_⟩
  · intro o k t q
    rw [xR_sw (fun e => ?_)]
    · exact w3 o k t q
    · obtain ⟨rfl, rfl | rfl⟩ := e
      · cases (show (none : Option Nat) = some t from q)
      · cases (show (none : Option Nat) = some t from q)
  · rw [tw_sw]; rcases ht with e | e <;> rw [e] <;> simp [xTw]
  · rw [tw_sw]
    show some (tw g) = _
    rcases ht with e | e <;> rw [e]
noncomputable def E_X11_street (g : xSt) : Option (Int32 × xSt) := xb1 (E_X6_read (13 - tw g) (xI g 0 1) g) fun g1 =>
  if xI g1 20 10 = 0 then
    xb1 (E_X5_refill (13 - tw g1) (xSw (xWI (xWI (xWI g1 0 1 0) 0 2 (xI g1 20 10)) 0 3 (xI g1 20 11)))) fun g2 =>
    xb1 (E_X0_begin 32 (tw g2) g2) fun g3 =>
    xb1 (E_X9_empty g3) fun g4 =>
    some (xI (xWI (xWI (xWI g4 42 4 0) 51 4 0) 60 4 0) (tw g4) 0, xWI (xWI (xWI g4 42 4 0) 51 4 0) 60 4 0)
  else some (-1, xWI (xWI (xWI g1 0 1 0) 0 2 (xI g1 20 10)) 0 3 (xI g1 20 11))
theorem xtw_lt {t : Nat} (h : xTw t) : t < 12 := by rcases h with rfl | rfl <;> decide
theorem e_X11_street {d : Nat} {g : xSt} {o_ : Int32 × xSt} (W : xWf g) (h : E_X11_street g = some o_) : xCallM (d + 20) mX11_street [.ref 0] g = some (some (.int o_.1), o_.2) ∧ xKp g o_.2 := by
  unfold E_X11_street at h
  refine xbE1 h fun g1 h1 h => ?_
  have y1 := e_X6_read (d := d) W (xtw2 W) h1
  have Wr := xWf_rd (a2 := xI g 0 1) W (xtw2 W)
  have ht2 := xtw_lt (xtw2 W)
  have k1 : xKp g g1 := by
    have k := y1.2.kp Wr (by
      simp only [List.all_cons, List.all_nil, Bool.and_true, Bool.and_eq_true, decide_eq_true_eq]
      refine ⟨?_, ?_, ?_, ?_, ?_, ?_, ?_, ?_⟩ <;> omega) (by
      simp only [List.all_cons, List.all_nil, Bool.and_true, Bool.and_eq_true, decide_eq_true_eq]
      refine ⟨?_, ?_, ?_, ?_, ?_, ?_, ?_, ?_, ?_, ?_, ?_, ?_, ?_, ?_, ?_⟩ <;> omega)
    refine ⟨k.1, k.2.1, k.2.2.1.trans ?_, k.2.2.2⟩
    show x2 (xI g) 20 2 (xI g 0 1) 1000000 = _
    exact x2_row _ _ _ (by decide)
  have k2 : xKp g (xWI (xWI (xWI g1 0 1 0) 0 2 (xI g1 20 10)) 0 3 (xI g1 20 11)) := ((k1.wi (by decide)).wi (by decide)).wi (by decide)
  by_cases q : xI g1 20 10 = 0
  · rw [if_pos q] at h
    refine xbE1 h fun g2 h2 h => xbE1 h fun g3 h3 h => xbE1 h fun g4 h4 h => ?_
    have W2 := xWf_sw k2.1
    have y2 := e_X5_refill (d := d + 15) W2 (xtw2 k1.1) h2
    have k3 := y2.2.kp W2 (by decide) (by decide)
    have y3 := e_X0_begin (d := d + 18) k3.1 xb32 (xtw k3.1) h3
    have k4 := y3.2.kp k3.1 (by decide) (by decide)
    have y4 := e_X9_empty (d := d + 19) k4.1 h4
    have k5 := y4.2.kp k4.1 (by decide) (by decide)
    have kk : xKp (xSw (xWI (xWI (xWI g1 0 1 0) 0 2 (xI g1 20 10)) 0 3 (xI g1 20 11))) (xWI (xWI (xWI g4 42 4 0) 51 4 0) 60 4 0) := ((((k3.tr k4).tr k5).wi (by decide)).wi (by decide)).wi (by decide)
    cases h
    refine ⟨bX11_street_0 W y1.1 k1.1 (fun _ => bX11_street_55 (g81 := g2) k2.1 y2.1 k3.1 y3.1 k4.1 y4.1 k5.1 ?_) (fun n => absurd q n), kk.1, kk.2.1.trans k2.2.1, kk.2.2.1.trans k2.2.2.1, kk.2.2.2.trans k2.2.2.2⟩
    refine bX11_street_104 k5.1 (fun n => absurd n (by decide)) (fun _ => bX11_street_113 k5.1 (c := 42) (Or.inr (Or.inl rfl)) (by unfold vp_in; decide) (xptr k5.1 41 0 rfl) ?_)
    refine bX11_street_104 (g := xWI g4 42 4 0) k5.1 (fun n => absurd n (by decide)) (fun _ => bX11_street_113 (g := xWI g4 42 4 0) k5.1 (c := 51) (Or.inr (Or.inr (Or.inl rfl))) (by unfold vp_in; decide) (xptr k5.1 41 1 rfl) ?_)
    refine bX11_street_104 (g := xWI (xWI g4 42 4 0) 51 4 0) k5.1 (fun n => absurd n (by decide)) (fun _ => bX11_street_113 (g := xWI (xWI g4 42 4 0) 51 4 0) k5.1 (c := 60) (Or.inr (Or.inr (Or.inr rfl))) (by unfold vp_in; decide) (xptr k5.1 41 2 rfl) ?_)
    exact bX11_street_104 (g := xWI (xWI (xWI g4 42 4 0) 51 4 0) 60 4 0) k5.1 (fun _ => bX11_street_129 (g := xWI (xWI (xWI g4 42 4 0) 51 4 0) 60 4 0) k5.1 rfl) (fun n => absurd (by decide) n)
  · rw [if_neg q] at h
    cases h
    exact ⟨bX11_street_0 W y1.1 k1.1 (fun n => absurd n q) (fun _ => bX11_street_53 rfl), k2⟩
