/-! THE LAW as a function of the store: each call on both sides, by program (wip/whole/genlaw.py) -/
def xb01 (a : Int32) : Int32 := if a = 0 then 0 else 1
noncomputable def O_0 (a1 a2 a3 a4 a5 : Int32) (g : xSt) : Option (Bool × xSt) := xb2 (E_X11_feed a1 a2 a3 a4 a5 g) fun v1 g1 => xb2 (E_X12_feed a1 a2 a3 a4 a5 g1) fun v2 g2 => some (decide (v1 = v2), g2)
noncomputable def O_1 (a1 a2 a3 a4 a5 : Int32) (g : xSt) : Option (Bool × xSt) := xb2 (E_X11_end a1 g) fun v1 g1 => xb2 (E_X12_end a1 g1) fun v2 g2 => some (decide (v1 = v2), g2)
noncomputable def O_2 (a1 a2 a3 a4 a5 : Int32) (g : xSt) : Option (Bool × xSt) := xb2 (E_X11_street g) fun v1 g1 => xb2 (E_X12_street g1) fun v2 g2 => some (decide (v1 = v2), g2)
noncomputable def O_3 (a1 a2 a3 a4 a5 : Int32) (g : xSt) : Option (Bool × xSt) := some (decide (F_X11_fault g a1 = F_X12_fault g a1), g)
noncomputable def O_4 (a1 a2 a3 a4 a5 : Int32) (g : xSt) : Option (Bool × xSt) := xb2 (E_X11_weigh a1 a2 g) fun v1 g1 => xb2 (E_X12_weigh a1 a2 g1) fun v2 g2 => some (decide (v1 = v2), g2)
noncomputable def O_5 (a1 a2 a3 a4 a5 : Int32) (g : xSt) : Option (Bool × xSt) := xb2 (E_X11_told a1 a2 a3 g) fun v1 g1 => xb2 (E_X12_told a1 a2 a3 g1) fun v2 g2 => some (decide (v1 = v2), g2)
noncomputable def O_6 (a1 a2 a3 a4 a5 : Int32) (g : xSt) : Option (Bool × xSt) := xb1 (E_X11_weighing a1 a2 g) fun v1 => xb1 (E_X12_weighing a1 a2 g) fun v2 => some (decide (v1 = v2), g)
noncomputable def O_7 (a1 a2 a3 a4 a5 : Int32) (g : xSt) : Option (Bool × xSt) := xb2 (E_X11_wet g) fun v1 g1 => xb2 (E_X12_wet g1) fun v2 g2 => some (decide (v1 = v2), g2)
noncomputable def O_8 (a1 a2 a3 a4 a5 : Int32) (g : xSt) : Option (Bool × xSt) := xb2 (E_X11_untell a1 g) fun v1 g1 => xb2 (E_X12_untell a1 g1) fun v2 g2 => some (decide (v1 = v2), g2)
noncomputable def O_9 (a1 a2 a3 a4 a5 : Int32) (g : xSt) : Option (Bool × xSt) := xb2 (E_X11_later a1 g) fun v1 g1 => xb2 (E_X12_later a1 g1) fun v2 g2 => some (decide (v1 = v2), g2)
noncomputable def O_10 (a1 a2 a3 a4 a5 : Int32) (g : xSt) : Option (Bool × xSt) := xb2 (E_X11_left a1 a2 g) fun v1 g1 => xb2 (E_X12_left a1 a2 g1) fun v2 g2 => some (decide (v1 = v2), g2)
noncomputable def O_11 (a1 a2 a3 a4 a5 : Int32) (g : xSt) : Option (Bool × xSt) := xb2 (E_X11_struck a1 g) fun v1 g1 => xb2 (E_X12_struck a1 g1) fun v2 g2 => some (decide (v1 = v2), g2)
noncomputable def O_12 (a1 a2 a3 a4 a5 : Int32) (g : xSt) : Option (Bool × xSt) := xb2 (E_X11_place a1 (xb01 a2) a3 g) fun v1 g1 => xb2 (E_X12_place a1 (xb01 a2) a3 g1) fun v2 g2 => some (decide (v1 = v2), g2)
noncomputable def O_13 (a1 a2 a3 a4 a5 : Int32) (g : xSt) : Option (Bool × xSt) := xb2 (E_X11_stand a1 (xb01 a2) a3 g) fun v1 g1 => xb2 (E_X12_stand a1 (xb01 a2) a3 g1) fun v2 g2 => some (decide (v1 = v2), g2)
noncomputable def O_14 (a1 a2 a3 a4 a5 : Int32) (g : xSt) : Option (Bool × xSt) := xb2 (E_X11_surely a1 a2 a3 g) fun v1 g1 => xb2 (E_X12_surely a1 a2 a3 g1) fun v2 g2 => some (decide (v1 = v2), g2)
noncomputable def O_15 (a1 a2 a3 a4 a5 : Int32) (g : xSt) : Option (Bool × xSt) := xb2 (E_X11_fewest a1 a2 a3 g) fun v1 g1 => xb2 (E_X12_fewest a1 a2 a3 g1) fun v2 g2 => some (decide (v1 = v2), g2)
noncomputable def O_16 (a1 a2 a3 a4 a5 : Int32) (g : xSt) : Option (Bool × xSt) := xb2 (E_X11_next a1 a2 a3 g) fun v1 g1 => xb2 (E_X12_next a1 a2 a3 g1) fun v2 g2 => some (decide (v1 = v2), g2)
noncomputable def O_17 (a1 a2 a3 a4 a5 : Int32) (g : xSt) : Option (Bool × xSt) := xb2 (E_X11_total a1 a2 a3 a4 g) fun v1 g1 => xb2 (E_X12_total a1 a2 a3 a4 g1) fun v2 g2 => some (decide (v1 = v2), g2)
noncomputable def O_18 (a1 a2 a3 a4 a5 : Int32) (g : xSt) : Option (Bool × xSt) := xb2 (E_X11_atOnce a1 a2 a3 g) fun v1 g1 => xb2 (E_X12_atOnce a1 a2 a3 g1) fun v2 g2 => some (decide (v1 = v2), g2)
noncomputable def O_19 (a1 a2 a3 a4 a5 : Int32) (g : xSt) : Option (Bool × xSt) := xb2 (E_X11_answers a1 a2 a3 a4 g) fun v1 g1 => xb2 (E_X12_answers a1 a2 a3 a4 g1) fun v2 g2 => some (decide (v1 = v2), g2)
noncomputable def O_20 (a1 a2 a3 a4 a5 : Int32) (g : xSt) : Option (Bool × xSt) := xb2 (E_X11_judged a1 a2 a3 a4 a5 g) fun v1 g1 => xb2 (E_X12_judged a1 a2 a3 a4 a5 g1) fun v2 g2 => some (decide (v1 = v2), g2)
noncomputable def O_21 (a1 a2 a3 a4 a5 : Int32) (g : xSt) : Option (Bool × xSt) := xb2 (E_X11_trusty a1 a2 a3 g) fun v1 g1 => xb2 (E_X12_trusty a1 a2 a3 g1) fun v2 g2 => some (decide (v1 = v2), g2)
noncomputable def O_22 (a1 a2 a3 a4 a5 : Int32) (g : xSt) : Option (Bool × xSt) := xb2 (E_X11_odds a1 a2 a3 a4 g) fun v1 g1 => xb2 (E_X12_odds a1 a2 a3 a4 g1) fun v2 g2 => some (decide (v1 = v2), g2)
noncomputable def O_23 (a1 a2 a3 a4 a5 : Int32) (g : xSt) : Option (Bool × xSt) := xb2 (E_X11_evenest a1 g) fun v1 g1 => xb2 (E_X12_evenest a1 g1) fun v2 g2 => some (decide (v1 = v2), g2)
noncomputable def O_24 (a1 a2 a3 a4 a5 : Int32) (g : xSt) : Option (Bool × xSt) := xb2 (E_X11_covers a1 g) fun v1 g1 => xb2 (E_X12_covers a1 g1) fun v2 g2 => some (decide (v1 = v2), g2)
noncomputable def O_25 (a1 a2 a3 a4 a5 : Int32) (g : xSt) : Option (Bool × xSt) := xb2 (E_X11_sits a1 a2 a3 g) fun v1 g1 => xb2 (E_X12_sits a1 a2 a3 g1) fun v2 g2 => some (decide (v1 = v2), g2)
noncomputable def O_26 (a1 a2 a3 a4 a5 : Int32) (g : xSt) : Option (Bool × xSt) := xb2 (E_X11_led a1 a2 a3 g) fun v1 g1 => xb1 (E_X12_led a1 a2 a3 g1) fun v2 => some (decide (v1 = v2), g1)
noncomputable def O_27 (a1 a2 a3 a4 a5 : Int32) (g : xSt) : Option (Bool × xSt) := xb2 (E_X11_doubts a1 g) fun v1 g1 => xb1 (E_X12_doubts a1 g1) fun v2 => some (decide (v1 = v2), g1)
noncomputable def O_28 (a1 a2 a3 a4 a5 : Int32) (g : xSt) : Option (Bool × xSt) := xb2 (E_X11_twins a1 a2 g) fun v1 g1 => xb2 (E_X12_twins a1 a2 g1) fun v2 g2 => some (decide (v1 = v2), g2)
noncomputable def O_29 (a1 a2 a3 a4 a5 : Int32) (g : xSt) : Option (Bool × xSt) := xb2 (E_X11_ladder (xb01 a1) a2 g) fun v1 g1 => xb2 (E_X12_ladder (xb01 a1) a2 g1) fun v2 g2 => some (decide (v1 = v2), g2)
noncomputable def O_30 (a1 a2 a3 a4 a5 : Int32) (g : xSt) : Option (Bool × xSt) := xb2 (E_X11_bound a1 g) fun v1 g1 => xb2 (E_X12_bound a1 g1) fun v2 g2 => some (decide (v1 = v2), g2)
noncomputable def O_31 (a1 a2 a3 a4 a5 : Int32) (g : xSt) : Option (Bool × xSt) := xb2 (E_X11_swapped a1 a2 g) fun v1 g1 => xb2 (E_X12_swapped a1 a2 g1) fun v2 g2 => some (decide (v1 = v2), g2)
noncomputable def O_32 (a1 a2 a3 a4 a5 : Int32) (g : xSt) : Option (Bool × xSt) := xb1 (E_X12_clerk a1 g) fun v2 => some (decide (F_X11_clerk g a1 = v2), g)
noncomputable def O_33 (a1 a2 a3 a4 a5 : Int32) (g : xSt) : Option (Bool × xSt) := xb2 (E_X11_weights a1 g) fun v1 g1 => xb2 (E_X12_weights a1 g1) fun v2 g2 => some (decide (v1 = v2), g2)
noncomputable def O_34 (a1 a2 a3 a4 a5 : Int32) (g : xSt) : Option (Bool × xSt) := xb2 (E_X11_weight a1 (xb01 a2) a3 g) fun v1 g1 => xb2 (E_X12_weight a1 (xb01 a2) a3 g1) fun v2 g2 => some (decide (v1 = v2), g2)
noncomputable def O_35 (a1 a2 a3 a4 a5 : Int32) (g : xSt) : Option (Bool × xSt) := xb2 (E_X11_could a1 a2 a3 g) fun v1 g1 => xb2 (E_X12_could a1 a2 a3 g1) fun v2 g2 => some (decide (v1 = v2), g2)
noncomputable def O_36 (a1 a2 a3 a4 a5 : Int32) (g : xSt) : Option (Bool × xSt) := xb2 (E_X11_stones a1 (xb01 a2) g) fun v1 g1 => xb2 (E_X12_stones a1 (xb01 a2) g1) fun v2 g2 => some (decide (v1 = v2), g2)
noncomputable def O_37 (a1 a2 a3 a4 a5 : Int32) (g : xSt) : Option (Bool × xSt) := xb2 (E_X11_heaps a1 a2 g) fun v1 g1 => xb2 (E_X12_heaps a1 a2 g1) fun v2 g2 => some (decide (v1 = v2), g2)
noncomputable def O_38 (a1 a2 a3 a4 a5 : Int32) (g : xSt) : Option (Bool × xSt) := xb1 (E_X12_lies a1 g) fun v2 => some (decide (F_X11_lies g a1 = v2), g)
noncomputable def O_39 (a1 a2 a3 a4 a5 : Int32) (g : xSt) : Option (Bool × xSt) := xb2 (E_X11_image a1 g) fun v1 g1 => xb2 (E_X12_image a1 g1) fun v2 g2 => some (decide (v1 = v2), g2)
noncomputable def O_40 (a1 a2 a3 a4 a5 : Int32) (g : xSt) : Option (Bool × xSt) := xb2 (E_X11_back a1 g) fun v1 g1 => xb2 (E_X12_back a1 g1) fun v2 g2 => some (decide (v1 = v2), g2)
noncomputable def O_41 (a1 a2 a3 a4 a5 : Int32) (g : xSt) : Option (Bool × xSt) := xb1 (E_X11_about a1 g) fun v1 => xb1 (E_X12_about a1 g) fun v2 => some (decide (v1 = v2), g)
noncomputable def xOp (n : Nat) (a1 a2 a3 a4 a5 : Int32) (g : xSt) : Option (Bool × xSt) := match n with
  | 0 => O_0 a1 a2 a3 a4 a5 g
  | 1 => O_1 a1 a2 a3 a4 a5 g
  | 2 => O_2 a1 a2 a3 a4 a5 g
  | 3 => O_3 a1 a2 a3 a4 a5 g
  | 4 => O_4 a1 a2 a3 a4 a5 g
  | 5 => O_5 a1 a2 a3 a4 a5 g
  | 6 => O_6 a1 a2 a3 a4 a5 g
  | 7 => O_7 a1 a2 a3 a4 a5 g
  | 8 => O_8 a1 a2 a3 a4 a5 g
  | 9 => O_9 a1 a2 a3 a4 a5 g
  | 10 => O_10 a1 a2 a3 a4 a5 g
  | 11 => O_11 a1 a2 a3 a4 a5 g
  | 12 => O_12 a1 a2 a3 a4 a5 g
  | 13 => O_13 a1 a2 a3 a4 a5 g
  | 14 => O_14 a1 a2 a3 a4 a5 g
  | 15 => O_15 a1 a2 a3 a4 a5 g
  | 16 => O_16 a1 a2 a3 a4 a5 g
  | 17 => O_17 a1 a2 a3 a4 a5 g
  | 18 => O_18 a1 a2 a3 a4 a5 g
  | 19 => O_19 a1 a2 a3 a4 a5 g
  | 20 => O_20 a1 a2 a3 a4 a5 g
  | 21 => O_21 a1 a2 a3 a4 a5 g
  | 22 => O_22 a1 a2 a3 a4 a5 g
  | 23 => O_23 a1 a2 a3 a4 a5 g
  | 24 => O_24 a1 a2 a3 a4 a5 g
  | 25 => O_25 a1 a2 a3 a4 a5 g
  | 26 => O_26 a1 a2 a3 a4 a5 g
  | 27 => O_27 a1 a2 a3 a4 a5 g
  | 28 => O_28 a1 a2 a3 a4 a5 g
  | 29 => O_29 a1 a2 a3 a4 a5 g
  | 30 => O_30 a1 a2 a3 a4 a5 g
  | 31 => O_31 a1 a2 a3 a4 a5 g
  | 32 => O_32 a1 a2 a3 a4 a5 g
  | 33 => O_33 a1 a2 a3 a4 a5 g
  | 34 => O_34 a1 a2 a3 a4 a5 g
  | 35 => O_35 a1 a2 a3 a4 a5 g
  | 36 => O_36 a1 a2 a3 a4 a5 g
  | 37 => O_37 a1 a2 a3 a4 a5 g
  | 38 => O_38 a1 a2 a3 a4 a5 g
  | 39 => O_39 a1 a2 a3 a4 a5 g
  | 40 => O_40 a1 a2 a3 a4 a5 g
  | 41 => O_41 a1 a2 a3 a4 a5 g
  | _ => some (true, g)
theorem o_0 {d : Nat} {g g' : xSt} {a3 : Int32} {S : Nat → Int32} {L : Nat} {r : Option Value × xSt} (W : xWf g) (hs : xH g 1000000 = .inl (.int, L)) (hv : xI g 1000000 = S) (h1 : vp_in (a3 + 1) L) (h2 : vp_in (a3 + 2) L) (h3 : vp_in (a3 + 3) L) (h4 : vp_in (a3 + 4) L) (h5 : vp_in (a3 + 5) L) (h : O_0 (S (a3 + 1).toNatClampNeg) (S (a3 + 2).toNatClampNeg) (S (a3 + 3).toNatClampNeg) (S (a3 + 4).toNatClampNeg) (S (a3 + 5).toNatClampNeg) g = some (true, g')) (k : xKp g g' → xX (d + 60) mL_law 1732 [some (.ref 1000000), some (.ref 0), some (.ref 113), some (.int a3)] [] g' = some r) : xX (d + 60) mL_law 216 [some (.ref 1000000), some (.ref 0), some (.ref 113), some (.int a3)] [] g = some r := by
  unfold O_0 at h
  have k0 := xKp.refl W
  refine xbE2 h fun v1 g1 e1 h => ?_
  have y1 := e_X11_feed (d := d + 58) k0.1 e1
  have k1 := y1.2.kp k0.1 (by decide) (by decide)
  have hs1 := (congrFun k1.2.1 1000000).trans hs
  have hv1 := k1.2.2.1.trans hv
  refine xbE2 h fun v2 g2 e2 h => ?_
  have y2 := e_X12_feed (d := d + 59) k1.1 e2
  have k2 := y2.2.kp k1.1 (by decide) (by decide)
  obtain ⟨hq, rfl⟩ := Prod.mk.inj (Option.some.inj h)
  have hq := of_decide_eq_true hq
  exact bL_law_216 W h1 hs hv h2 h3 h4 h5 y1.1 k1.1 h1 hs1 hv1 h2 h3 h4 h5 y2.1 k2.1 (fun _ => k (k1.tr k2)) (fun n => absurd hq n)
theorem o_1 {d : Nat} {g g' : xSt} {a3 : Int32} {S : Nat → Int32} {L : Nat} {r : Option Value × xSt} (W : xWf g) (hs : xH g 1000000 = .inl (.int, L)) (hv : xI g 1000000 = S) (h1 : vp_in (a3 + 1) L) (h2 : vp_in (a3 + 2) L) (h3 : vp_in (a3 + 3) L) (h4 : vp_in (a3 + 4) L) (h5 : vp_in (a3 + 5) L) (h : O_1 (S (a3 + 1).toNatClampNeg) (S (a3 + 2).toNatClampNeg) (S (a3 + 3).toNatClampNeg) (S (a3 + 4).toNatClampNeg) (S (a3 + 5).toNatClampNeg) g = some (true, g')) (k : xKp g g' → xX (d + 60) mL_law 1732 [some (.ref 1000000), some (.ref 0), some (.ref 113), some (.int a3)] [] g' = some r) : xX (d + 60) mL_law 279 [some (.ref 1000000), some (.ref 0), some (.ref 113), some (.int a3)] [] g = some r := by
  unfold O_1 at h
  have k0 := xKp.refl W
  refine xbE2 h fun v1 g1 e1 h => ?_
  have y1 := e_X11_end (d := d + 59) k0.1 e1
  have k1 := y1.2.kp k0.1 (by decide) (by decide)
  have hs1 := (congrFun k1.2.1 1000000).trans hs
  have hv1 := k1.2.2.1.trans hv
  refine xbE2 h fun v2 g2 e2 h => ?_
  have y2 := e_X12_end (d := d + 59) k1.1 e2
  have k2 := y2.2.kp k1.1 (by decide) (by decide)
  obtain ⟨hq, rfl⟩ := Prod.mk.inj (Option.some.inj h)
  have hq := of_decide_eq_true hq
  exact bL_law_279 W h1 hs hv y1.1 k1.1 h1 hs1 hv1 y2.1 k2.1 (fun _ => k (k1.tr k2)) (fun n => absurd hq n)
theorem o_2 {d : Nat} {g g' : xSt} {a3 : Int32} {S : Nat → Int32} {L : Nat} {r : Option Value × xSt} (W : xWf g) (hs : xH g 1000000 = .inl (.int, L)) (hv : xI g 1000000 = S) (h1 : vp_in (a3 + 1) L) (h2 : vp_in (a3 + 2) L) (h3 : vp_in (a3 + 3) L) (h4 : vp_in (a3 + 4) L) (h5 : vp_in (a3 + 5) L) (h : O_2 (S (a3 + 1).toNatClampNeg) (S (a3 + 2).toNatClampNeg) (S (a3 + 3).toNatClampNeg) (S (a3 + 4).toNatClampNeg) (S (a3 + 5).toNatClampNeg) g = some (true, g')) (k : xKp g g' → xX (d + 60) mL_law 1732 [some (.ref 1000000), some (.ref 0), some (.ref 113), some (.int a3)] [] g' = some r) : xX (d + 60) mL_law 302 [some (.ref 1000000), some (.ref 0), some (.ref 113), some (.int a3)] [] g = some r := by
  unfold O_2 at h
  have k0 := xKp.refl W
  refine xbE2 h fun v1 g1 e1 h => ?_
  have y1 := e_X11_street (d := d + 39) k0.1 e1
  have k1 := y1.2
  have hs1 := (congrFun k1.2.1 1000000).trans hs
  have hv1 := k1.2.2.1.trans hv
  refine xbE2 h fun v2 g2 e2 h => ?_
  have y2 := e_X12_street (d := d + 51) k1.1 e2
  have k2 := y2.2.kp k1.1 (by decide) (by decide)
  obtain ⟨hq, rfl⟩ := Prod.mk.inj (Option.some.inj h)
  have hq := of_decide_eq_true hq
  exact bL_law_302 W y1.1 k1.1 y2.1 k2.1 (fun _ => k (k1.tr k2)) (fun n => absurd hq n)
theorem o_3 {d : Nat} {g g' : xSt} {a3 : Int32} {S : Nat → Int32} {L : Nat} {r : Option Value × xSt} (W : xWf g) (hs : xH g 1000000 = .inl (.int, L)) (hv : xI g 1000000 = S) (h1 : vp_in (a3 + 1) L) (h2 : vp_in (a3 + 2) L) (h3 : vp_in (a3 + 3) L) (h4 : vp_in (a3 + 4) L) (h5 : vp_in (a3 + 5) L) (h : O_3 (S (a3 + 1).toNatClampNeg) (S (a3 + 2).toNatClampNeg) (S (a3 + 3).toNatClampNeg) (S (a3 + 4).toNatClampNeg) (S (a3 + 5).toNatClampNeg) g = some (true, g')) (k : xKp g g' → xX (d + 60) mL_law 1732 [some (.ref 1000000), some (.ref 0), some (.ref 113), some (.int a3)] [] g' = some r) : xX (d + 60) mL_law 315 [some (.ref 1000000), some (.ref 0), some (.ref 113), some (.int a3)] [] g = some r := by
  unfold O_3 at h
  have k0 := xKp.refl W
  have k1 := xKp.refl k0.1
  have hs1 := (congrFun k1.2.1 1000000).trans hs
  have hv1 := k1.2.2.1.trans hv
  have k2 := xKp.refl k1.1
  obtain ⟨hq, rfl⟩ := Prod.mk.inj (Option.some.inj h)
  have hq := of_decide_eq_true hq
  exact bL_law_315 W h1 hs hv (c_X11_fault k0.1) k1.1 h1 hs1 hv1 (c_X12_fault k1.1) k2.1 (fun _ => k (k1.tr k2)) (fun n => absurd hq n)
theorem o_4 {d : Nat} {g g' : xSt} {a3 : Int32} {S : Nat → Int32} {L : Nat} {r : Option Value × xSt} (W : xWf g) (hs : xH g 1000000 = .inl (.int, L)) (hv : xI g 1000000 = S) (h1 : vp_in (a3 + 1) L) (h2 : vp_in (a3 + 2) L) (h3 : vp_in (a3 + 3) L) (h4 : vp_in (a3 + 4) L) (h5 : vp_in (a3 + 5) L) (h : O_4 (S (a3 + 1).toNatClampNeg) (S (a3 + 2).toNatClampNeg) (S (a3 + 3).toNatClampNeg) (S (a3 + 4).toNatClampNeg) (S (a3 + 5).toNatClampNeg) g = some (true, g')) (k : xKp g g' → xX (d + 60) mL_law 1732 [some (.ref 1000000), some (.ref 0), some (.ref 113), some (.int a3)] [] g' = some r) : xX (d + 60) mL_law 338 [some (.ref 1000000), some (.ref 0), some (.ref 113), some (.int a3)] [] g = some r := by
  unfold O_4 at h
  have k0 := xKp.refl W
  refine xbE2 h fun v1 g1 e1 h => ?_
  have y1 := e_X11_weigh (d := d + 56) k0.1 e1
  have k1 := y1.2.kp k0.1 (by decide) (by decide)
  have hs1 := (congrFun k1.2.1 1000000).trans hs
  have hv1 := k1.2.2.1.trans hv
  refine xbE2 h fun v2 g2 e2 h => ?_
  have y2 := e_X12_weigh (d := d + 57) k1.1 e2
  have k2 := y2.2.kp k1.1 (by decide) (by decide)
  obtain ⟨hq, rfl⟩ := Prod.mk.inj (Option.some.inj h)
  have hq := of_decide_eq_true hq
  exact bL_law_338 W h1 hs hv h2 y1.1 k1.1 h1 hs1 hv1 h2 y2.1 k2.1 (fun _ => k (k1.tr k2)) (fun n => absurd hq n)
theorem o_5 {d : Nat} {g g' : xSt} {a3 : Int32} {S : Nat → Int32} {L : Nat} {r : Option Value × xSt} (W : xWf g) (hs : xH g 1000000 = .inl (.int, L)) (hv : xI g 1000000 = S) (h1 : vp_in (a3 + 1) L) (h2 : vp_in (a3 + 2) L) (h3 : vp_in (a3 + 3) L) (h4 : vp_in (a3 + 4) L) (h5 : vp_in (a3 + 5) L) (h : O_5 (S (a3 + 1).toNatClampNeg) (S (a3 + 2).toNatClampNeg) (S (a3 + 3).toNatClampNeg) (S (a3 + 4).toNatClampNeg) (S (a3 + 5).toNatClampNeg) g = some (true, g')) (k : xKp g g' → xX (d + 60) mL_law 1732 [some (.ref 1000000), some (.ref 0), some (.ref 113), some (.int a3)] [] g' = some r) : xX (d + 60) mL_law 371 [some (.ref 1000000), some (.ref 0), some (.ref 113), some (.int a3)] [] g = some r := by
  unfold O_5 at h
  have k0 := xKp.refl W
  refine xbE2 h fun v1 g1 e1 h => ?_
  have y1 := e_X11_told (d := d + 57) k0.1 e1
  have k1 := y1.2.kp k0.1 (by decide) (by decide)
  have hs1 := (congrFun k1.2.1 1000000).trans hs
  have hv1 := k1.2.2.1.trans hv
  refine xbE2 h fun v2 g2 e2 h => ?_
  have y2 := e_X12_told (d := d + 57) k1.1 e2
  have k2 := y2.2.kp k1.1 (by decide) (by decide)
  obtain ⟨hq, rfl⟩ := Prod.mk.inj (Option.some.inj h)
  have hq := of_decide_eq_true hq
  exact bL_law_371 W h1 hs hv h2 h3 y1.1 k1.1 h1 hs1 hv1 h2 h3 y2.1 k2.1 (fun _ => k (k1.tr k2)) (fun n => absurd hq n)
theorem o_6 {d : Nat} {g g' : xSt} {a3 : Int32} {S : Nat → Int32} {L : Nat} {r : Option Value × xSt} (W : xWf g) (hs : xH g 1000000 = .inl (.int, L)) (hv : xI g 1000000 = S) (h1 : vp_in (a3 + 1) L) (h2 : vp_in (a3 + 2) L) (h3 : vp_in (a3 + 3) L) (h4 : vp_in (a3 + 4) L) (h5 : vp_in (a3 + 5) L) (h : O_6 (S (a3 + 1).toNatClampNeg) (S (a3 + 2).toNatClampNeg) (S (a3 + 3).toNatClampNeg) (S (a3 + 4).toNatClampNeg) (S (a3 + 5).toNatClampNeg) g = some (true, g')) (k : xKp g g' → xX (d + 60) mL_law 1732 [some (.ref 1000000), some (.ref 0), some (.ref 113), some (.int a3)] [] g' = some r) : xX (d + 60) mL_law 414 [some (.ref 1000000), some (.ref 0), some (.ref 113), some (.int a3)] [] g = some r := by
  unfold O_6 at h
  have k0 := xKp.refl W
  refine xbE1 h fun v1 e1 h => ?_
  have y1 := e_X11_weighing (d := d + 56) k0.1 e1
  have k1 := xKp.refl k0.1
  have hs1 := (congrFun k1.2.1 1000000).trans hs
  have hv1 := k1.2.2.1.trans hv
  refine xbE1 h fun v2 e2 h => ?_
  have y2 := e_X12_weighing (d := d + 58) k1.1 e2
  have k2 := xKp.refl k1.1
  obtain ⟨hq, rfl⟩ := Prod.mk.inj (Option.some.inj h)
  have hq := of_decide_eq_true hq
  exact bL_law_414 W h1 hs hv h2 y1 k1.1 h1 hs1 hv1 h2 y2 k2.1 (fun _ => k (k1.tr k2)) (fun n => absurd hq n)
theorem o_7 {d : Nat} {g g' : xSt} {a3 : Int32} {S : Nat → Int32} {L : Nat} {r : Option Value × xSt} (W : xWf g) (hs : xH g 1000000 = .inl (.int, L)) (hv : xI g 1000000 = S) (h1 : vp_in (a3 + 1) L) (h2 : vp_in (a3 + 2) L) (h3 : vp_in (a3 + 3) L) (h4 : vp_in (a3 + 4) L) (h5 : vp_in (a3 + 5) L) (h : O_7 (S (a3 + 1).toNatClampNeg) (S (a3 + 2).toNatClampNeg) (S (a3 + 3).toNatClampNeg) (S (a3 + 4).toNatClampNeg) (S (a3 + 5).toNatClampNeg) g = some (true, g')) (k : xKp g g' → xX (d + 60) mL_law 1732 [some (.ref 1000000), some (.ref 0), some (.ref 113), some (.int a3)] [] g' = some r) : xX (d + 60) mL_law 447 [some (.ref 1000000), some (.ref 0), some (.ref 113), some (.int a3)] [] g = some r := by
  unfold O_7 at h
  have k0 := xKp.refl W
  refine xbE2 h fun v1 g1 e1 h => ?_
  have y1 := e_X11_wet (d := d + 56) k0.1 e1
  have k1 := y1.2.kp k0.1 (by decide) (by decide)
  have hs1 := (congrFun k1.2.1 1000000).trans hs
  have hv1 := k1.2.2.1.trans hv
  refine xbE2 h fun v2 g2 e2 h => ?_
  have y2 := e_X12_wet (d := d + 58) k1.1 e2
  have k2 := y2.2.kp k1.1 (by decide) (by decide)
  obtain ⟨hq, rfl⟩ := Prod.mk.inj (Option.some.inj h)
  have hq := of_decide_eq_true hq
  exact bL_law_447 W y1.1 k1.1 y2.1 k2.1 (fun _ => k (k1.tr k2)) (fun n => absurd hq n)
theorem o_8 {d : Nat} {g g' : xSt} {a3 : Int32} {S : Nat → Int32} {L : Nat} {r : Option Value × xSt} (W : xWf g) (hs : xH g 1000000 = .inl (.int, L)) (hv : xI g 1000000 = S) (h1 : vp_in (a3 + 1) L) (h2 : vp_in (a3 + 2) L) (h3 : vp_in (a3 + 3) L) (h4 : vp_in (a3 + 4) L) (h5 : vp_in (a3 + 5) L) (h : O_8 (S (a3 + 1).toNatClampNeg) (S (a3 + 2).toNatClampNeg) (S (a3 + 3).toNatClampNeg) (S (a3 + 4).toNatClampNeg) (S (a3 + 5).toNatClampNeg) g = some (true, g')) (k : xKp g g' → xX (d + 60) mL_law 1732 [some (.ref 1000000), some (.ref 0), some (.ref 113), some (.int a3)] [] g' = some r) : xX (d + 60) mL_law 460 [some (.ref 1000000), some (.ref 0), some (.ref 113), some (.int a3)] [] g = some r := by
  unfold O_8 at h
  have k0 := xKp.refl W
  refine xbE2 h fun v1 g1 e1 h => ?_
  have y1 := e_X11_untell (d := d + 56) k0.1 e1
  have k1 := y1.2.kp k0.1 (by decide) (by decide)
  have hs1 := (congrFun k1.2.1 1000000).trans hs
  have hv1 := k1.2.2.1.trans hv
  refine xbE2 h fun v2 g2 e2 h => ?_
  have y2 := e_X12_untell (d := d + 58) k1.1 e2
  have k2 := y2.2.kp k1.1 (by decide) (by decide)
  obtain ⟨hq, rfl⟩ := Prod.mk.inj (Option.some.inj h)
  have hq := of_decide_eq_true hq
  exact bL_law_460 W h1 hs hv y1.1 k1.1 h1 hs1 hv1 y2.1 k2.1 (fun _ => k (k1.tr k2)) (fun n => absurd hq n)
theorem o_9 {d : Nat} {g g' : xSt} {a3 : Int32} {S : Nat → Int32} {L : Nat} {r : Option Value × xSt} (W : xWf g) (hs : xH g 1000000 = .inl (.int, L)) (hv : xI g 1000000 = S) (h1 : vp_in (a3 + 1) L) (h2 : vp_in (a3 + 2) L) (h3 : vp_in (a3 + 3) L) (h4 : vp_in (a3 + 4) L) (h5 : vp_in (a3 + 5) L) (h : O_9 (S (a3 + 1).toNatClampNeg) (S (a3 + 2).toNatClampNeg) (S (a3 + 3).toNatClampNeg) (S (a3 + 4).toNatClampNeg) (S (a3 + 5).toNatClampNeg) g = some (true, g')) (k : xKp g g' → xX (d + 60) mL_law 1732 [some (.ref 1000000), some (.ref 0), some (.ref 113), some (.int a3)] [] g' = some r) : xX (d + 60) mL_law 483 [some (.ref 1000000), some (.ref 0), some (.ref 113), some (.int a3)] [] g = some r := by
  unfold O_9 at h
  have k0 := xKp.refl W
  refine xbE2 h fun v1 g1 e1 h => ?_
  have y1 := e_X11_later (d := d + 58) k0.1 e1
  have k1 := y1.2.kp k0.1 (by decide) (by decide)
  have hs1 := (congrFun k1.2.1 1000000).trans hs
  have hv1 := k1.2.2.1.trans hv
  refine xbE2 h fun v2 g2 e2 h => ?_
  have y2 := e_X12_later (d := d + 58) k1.1 e2
  have k2 := y2.2.kp k1.1 (by decide) (by decide)
  obtain ⟨hq, rfl⟩ := Prod.mk.inj (Option.some.inj h)
  have hq := of_decide_eq_true hq
  exact bL_law_483 W h1 hs hv y1.1 k1.1 h1 hs1 hv1 y2.1 k2.1 (fun _ => k (k1.tr k2)) (fun n => absurd hq n)
theorem o_10 {d : Nat} {g g' : xSt} {a3 : Int32} {S : Nat → Int32} {L : Nat} {r : Option Value × xSt} (W : xWf g) (hs : xH g 1000000 = .inl (.int, L)) (hv : xI g 1000000 = S) (h1 : vp_in (a3 + 1) L) (h2 : vp_in (a3 + 2) L) (h3 : vp_in (a3 + 3) L) (h4 : vp_in (a3 + 4) L) (h5 : vp_in (a3 + 5) L) (h : O_10 (S (a3 + 1).toNatClampNeg) (S (a3 + 2).toNatClampNeg) (S (a3 + 3).toNatClampNeg) (S (a3 + 4).toNatClampNeg) (S (a3 + 5).toNatClampNeg) g = some (true, g')) (k : xKp g g' → xX (d + 60) mL_law 1732 [some (.ref 1000000), some (.ref 0), some (.ref 113), some (.int a3)] [] g' = some r) : xX (d + 60) mL_law 506 [some (.ref 1000000), some (.ref 0), some (.ref 113), some (.int a3)] [] g = some r := by
  unfold O_10 at h
  have k0 := xKp.refl W
  refine xbE2 h fun v1 g1 e1 h => ?_
  have y1 := e_X11_left (d := d + 55) k0.1 e1
  have k1 := y1.2.kp k0.1 (by decide) (by decide)
  have hs1 := (congrFun k1.2.1 1000000).trans hs
  have hv1 := k1.2.2.1.trans hv
  refine xbE2 h fun v2 g2 e2 h => ?_
  have y2 := e_X12_left (d := d + 55) k1.1 e2
  have k2 := y2.2.kp k1.1 (by decide) (by decide)
  obtain ⟨hq, rfl⟩ := Prod.mk.inj (Option.some.inj h)
  have hq := of_decide_eq_true hq
  exact bL_law_506 W h1 hs hv h2 y1.1 k1.1 h1 hs1 hv1 h2 y2.1 k2.1 (fun _ => k (k1.tr k2)) (fun n => absurd hq n)
theorem o_11 {d : Nat} {g g' : xSt} {a3 : Int32} {S : Nat → Int32} {L : Nat} {r : Option Value × xSt} (W : xWf g) (hs : xH g 1000000 = .inl (.int, L)) (hv : xI g 1000000 = S) (h1 : vp_in (a3 + 1) L) (h2 : vp_in (a3 + 2) L) (h3 : vp_in (a3 + 3) L) (h4 : vp_in (a3 + 4) L) (h5 : vp_in (a3 + 5) L) (h : O_11 (S (a3 + 1).toNatClampNeg) (S (a3 + 2).toNatClampNeg) (S (a3 + 3).toNatClampNeg) (S (a3 + 4).toNatClampNeg) (S (a3 + 5).toNatClampNeg) g = some (true, g')) (k : xKp g g' → xX (d + 60) mL_law 1732 [some (.ref 1000000), some (.ref 0), some (.ref 113), some (.int a3)] [] g' = some r) : xX (d + 60) mL_law 539 [some (.ref 1000000), some (.ref 0), some (.ref 113), some (.int a3)] [] g = some r := by
  unfold O_11 at h
  have k0 := xKp.refl W
  refine xbE2 h fun v1 g1 e1 h => ?_
  have y1 := e_X11_struck (d := d + 55) k0.1 e1
  have k1 := y1.2.kp k0.1 (by decide) (by decide)
  have hs1 := (congrFun k1.2.1 1000000).trans hs
  have hv1 := k1.2.2.1.trans hv
  refine xbE2 h fun v2 g2 e2 h => ?_
  have y2 := e_X12_struck (d := d + 56) k1.1 e2
  have k2 := y2.2.kp k1.1 (by decide) (by decide)
  obtain ⟨hq, rfl⟩ := Prod.mk.inj (Option.some.inj h)
  have hq := of_decide_eq_true hq
  exact bL_law_539 W h1 hs hv y1.1 k1.1 h1 hs1 hv1 y2.1 k2.1 (fun _ => k (k1.tr k2)) (fun n => absurd hq n)
theorem o_12 {d : Nat} {g g' : xSt} {a3 : Int32} {S : Nat → Int32} {L : Nat} {r : Option Value × xSt} (W : xWf g) (hs : xH g 1000000 = .inl (.int, L)) (hv : xI g 1000000 = S) (h1 : vp_in (a3 + 1) L) (h2 : vp_in (a3 + 2) L) (h3 : vp_in (a3 + 3) L) (h4 : vp_in (a3 + 4) L) (h5 : vp_in (a3 + 5) L) (h : O_12 (S (a3 + 1).toNatClampNeg) (S (a3 + 2).toNatClampNeg) (S (a3 + 3).toNatClampNeg) (S (a3 + 4).toNatClampNeg) (S (a3 + 5).toNatClampNeg) g = some (true, g')) (k : xKp g g' → xX (d + 60) mL_law 1732 [some (.ref 1000000), some (.ref 0), some (.ref 113), some (.int a3)] [] g' = some r) : xX (d + 60) mL_law 562 [some (.ref 1000000), some (.ref 0), some (.ref 113), some (.int a3)] [] g = some r := by
  unfold O_12 at h
  by_cases q : (S (a3 + 2).toNatClampNeg) = 0
  · rw [show xb01 (S (a3 + 2).toNatClampNeg) = 0 from if_pos q] at h
    have k0 := xKp.refl W
    refine xbE2 h fun v1 g1 e1 h => ?_
    have y1 := e_X11_place (d := d + 54) k0.1 e1
    have k1 := y1.2.kp k0.1 (by decide) (by decide)
    have hs1 := (congrFun k1.2.1 1000000).trans hs
    have hv1 := k1.2.2.1.trans hv
    refine xbE2 h fun v2 g2 e2 h => ?_
    have y2 := e_X12_place (d := d + 54) k1.1 e2
    have k2 := y2.2.kp k1.1 (by decide) (by decide)
    obtain ⟨hq, rfl⟩ := Prod.mk.inj (Option.some.inj h)
    have hq := of_decide_eq_true hq
    exact bL_law_562 h1 hs hv h2 (fun _ => bL_law_580 (bL_law_581 W h3 hs hv y1.1 k1.1 h1 hs1 hv1 h2 (fun _ => bL_law_607 (bL_law_608 k1.1 h3 hs1 hv1 y2.1 k2.1 (fun _ => k (k1.tr k2)) (fun n => absurd hq n))) (fun n => absurd q n))) (fun n => absurd q n)
  · rw [show xb01 (S (a3 + 2).toNatClampNeg) = 1 from if_neg q] at h
    have k0 := xKp.refl W
    refine xbE2 h fun v1 g1 e1 h => ?_
    have y1 := e_X11_place (d := d + 54) k0.1 e1
    have k1 := y1.2.kp k0.1 (by decide) (by decide)
    have hs1 := (congrFun k1.2.1 1000000).trans hs
    have hv1 := k1.2.2.1.trans hv
    refine xbE2 h fun v2 g2 e2 h => ?_
    have y2 := e_X12_place (d := d + 54) k1.1 e2
    have k2 := y2.2.kp k1.1 (by decide) (by decide)
    obtain ⟨hq, rfl⟩ := Prod.mk.inj (Option.some.inj h)
    have hq := of_decide_eq_true hq
    exact bL_law_562 h1 hs hv h2 (fun n => absurd n q) (fun _ => bL_law_576 (bL_law_581 W h3 hs hv y1.1 k1.1 h1 hs1 hv1 h2 (fun n => absurd n q) (fun _ => bL_law_603 (bL_law_608 k1.1 h3 hs1 hv1 y2.1 k2.1 (fun _ => k (k1.tr k2)) (fun n => absurd hq n)))))
theorem o_13 {d : Nat} {g g' : xSt} {a3 : Int32} {S : Nat → Int32} {L : Nat} {r : Option Value × xSt} (W : xWf g) (hs : xH g 1000000 = .inl (.int, L)) (hv : xI g 1000000 = S) (h1 : vp_in (a3 + 1) L) (h2 : vp_in (a3 + 2) L) (h3 : vp_in (a3 + 3) L) (h4 : vp_in (a3 + 4) L) (h5 : vp_in (a3 + 5) L) (h : O_13 (S (a3 + 1).toNatClampNeg) (S (a3 + 2).toNatClampNeg) (S (a3 + 3).toNatClampNeg) (S (a3 + 4).toNatClampNeg) (S (a3 + 5).toNatClampNeg) g = some (true, g')) (k : xKp g g' → xX (d + 60) mL_law 1732 [some (.ref 1000000), some (.ref 0), some (.ref 113), some (.int a3)] [] g' = some r) : xX (d + 60) mL_law 621 [some (.ref 1000000), some (.ref 0), some (.ref 113), some (.int a3)] [] g = some r := by
  unfold O_13 at h
  by_cases q : (S (a3 + 2).toNatClampNeg) = 0
  · rw [show xb01 (S (a3 + 2).toNatClampNeg) = 0 from if_pos q] at h
    have k0 := xKp.refl W
    refine xbE2 h fun v1 g1 e1 h => ?_
    have y1 := e_X11_stand (d := d + 54) k0.1 e1
    have k1 := y1.2.kp k0.1 (by decide) (by decide)
    have hs1 := (congrFun k1.2.1 1000000).trans hs
    have hv1 := k1.2.2.1.trans hv
    refine xbE2 h fun v2 g2 e2 h => ?_
    have y2 := e_X12_stand (d := d + 54) k1.1 e2
    have k2 := y2.2.kp k1.1 (by decide) (by decide)
    obtain ⟨hq, rfl⟩ := Prod.mk.inj (Option.some.inj h)
    have hq := of_decide_eq_true hq
    exact bL_law_621 h1 hs hv h2 (fun _ => bL_law_639 (bL_law_640 W h3 hs hv y1.1 k1.1 h1 hs1 hv1 h2 (fun _ => bL_law_666 (bL_law_667 k1.1 h3 hs1 hv1 y2.1 k2.1 (fun _ => k (k1.tr k2)) (fun n => absurd hq n))) (fun n => absurd q n))) (fun n => absurd q n)
  · rw [show xb01 (S (a3 + 2).toNatClampNeg) = 1 from if_neg q] at h
    have k0 := xKp.refl W
    refine xbE2 h fun v1 g1 e1 h => ?_
    have y1 := e_X11_stand (d := d + 54) k0.1 e1
    have k1 := y1.2.kp k0.1 (by decide) (by decide)
    have hs1 := (congrFun k1.2.1 1000000).trans hs
    have hv1 := k1.2.2.1.trans hv
    refine xbE2 h fun v2 g2 e2 h => ?_
    have y2 := e_X12_stand (d := d + 54) k1.1 e2
    have k2 := y2.2.kp k1.1 (by decide) (by decide)
    obtain ⟨hq, rfl⟩ := Prod.mk.inj (Option.some.inj h)
    have hq := of_decide_eq_true hq
    exact bL_law_621 h1 hs hv h2 (fun n => absurd n q) (fun _ => bL_law_635 (bL_law_640 W h3 hs hv y1.1 k1.1 h1 hs1 hv1 h2 (fun n => absurd n q) (fun _ => bL_law_662 (bL_law_667 k1.1 h3 hs1 hv1 y2.1 k2.1 (fun _ => k (k1.tr k2)) (fun n => absurd hq n)))))
theorem o_14 {d : Nat} {g g' : xSt} {a3 : Int32} {S : Nat → Int32} {L : Nat} {r : Option Value × xSt} (W : xWf g) (hs : xH g 1000000 = .inl (.int, L)) (hv : xI g 1000000 = S) (h1 : vp_in (a3 + 1) L) (h2 : vp_in (a3 + 2) L) (h3 : vp_in (a3 + 3) L) (h4 : vp_in (a3 + 4) L) (h5 : vp_in (a3 + 5) L) (h : O_14 (S (a3 + 1).toNatClampNeg) (S (a3 + 2).toNatClampNeg) (S (a3 + 3).toNatClampNeg) (S (a3 + 4).toNatClampNeg) (S (a3 + 5).toNatClampNeg) g = some (true, g')) (k : xKp g g' → xX (d + 60) mL_law 1732 [some (.ref 1000000), some (.ref 0), some (.ref 113), some (.int a3)] [] g' = some r) : xX (d + 60) mL_law 680 [some (.ref 1000000), some (.ref 0), some (.ref 113), some (.int a3)] [] g = some r := by
  unfold O_14 at h
  have k0 := xKp.refl W
  refine xbE2 h fun v1 g1 e1 h => ?_
  have y1 := e_X11_surely (d := d + 54) k0.1 e1
  have k1 := y1.2.kp k0.1 (by decide) (by decide)
  have hs1 := (congrFun k1.2.1 1000000).trans hs
  have hv1 := k1.2.2.1.trans hv
  refine xbE2 h fun v2 g2 e2 h => ?_
  have y2 := e_X12_surely (d := d + 54) k1.1 e2
  have k2 := y2.2.kp k1.1 (by decide) (by decide)
  obtain ⟨hq, rfl⟩ := Prod.mk.inj (Option.some.inj h)
  have hq := of_decide_eq_true hq
  exact bL_law_680 W h1 hs hv h2 h3 y1.1 k1.1 h1 hs1 hv1 h2 h3 y2.1 k2.1 (fun _ => k (k1.tr k2)) (fun n => absurd hq n)
theorem o_15 {d : Nat} {g g' : xSt} {a3 : Int32} {S : Nat → Int32} {L : Nat} {r : Option Value × xSt} (W : xWf g) (hs : xH g 1000000 = .inl (.int, L)) (hv : xI g 1000000 = S) (h1 : vp_in (a3 + 1) L) (h2 : vp_in (a3 + 2) L) (h3 : vp_in (a3 + 3) L) (h4 : vp_in (a3 + 4) L) (h5 : vp_in (a3 + 5) L) (h : O_15 (S (a3 + 1).toNatClampNeg) (S (a3 + 2).toNatClampNeg) (S (a3 + 3).toNatClampNeg) (S (a3 + 4).toNatClampNeg) (S (a3 + 5).toNatClampNeg) g = some (true, g')) (k : xKp g g' → xX (d + 60) mL_law 1732 [some (.ref 1000000), some (.ref 0), some (.ref 113), some (.int a3)] [] g' = some r) : xX (d + 60) mL_law 723 [some (.ref 1000000), some (.ref 0), some (.ref 113), some (.int a3)] [] g = some r := by
  unfold O_15 at h
  have k0 := xKp.refl W
  refine xbE2 h fun v1 g1 e1 h => ?_
  have y1 := e_X11_fewest (d := d + 25) k0.1 e1
  have k1 := y1.2.kp k0.1 (by decide) (by decide)
  have hs1 := (congrFun k1.2.1 1000000).trans hs
  have hv1 := k1.2.2.1.trans hv
  refine xbE2 h fun v2 g2 e2 h => ?_
  have y2 := e_X12_fewest (d := d + 54) k1.1 e2
  have k2 := y2.2.kp k1.1 (by decide) (by decide)
  obtain ⟨hq, rfl⟩ := Prod.mk.inj (Option.some.inj h)
  have hq := of_decide_eq_true hq
  exact bL_law_723 W h1 hs hv h2 h3 y1.1 k1.1 h1 hs1 hv1 h2 h3 y2.1 k2.1 (fun _ => k (k1.tr k2)) (fun n => absurd hq n)
theorem o_16 {d : Nat} {g g' : xSt} {a3 : Int32} {S : Nat → Int32} {L : Nat} {r : Option Value × xSt} (W : xWf g) (hs : xH g 1000000 = .inl (.int, L)) (hv : xI g 1000000 = S) (h1 : vp_in (a3 + 1) L) (h2 : vp_in (a3 + 2) L) (h3 : vp_in (a3 + 3) L) (h4 : vp_in (a3 + 4) L) (h5 : vp_in (a3 + 5) L) (h : O_16 (S (a3 + 1).toNatClampNeg) (S (a3 + 2).toNatClampNeg) (S (a3 + 3).toNatClampNeg) (S (a3 + 4).toNatClampNeg) (S (a3 + 5).toNatClampNeg) g = some (true, g')) (k : xKp g g' → xX (d + 60) mL_law 1732 [some (.ref 1000000), some (.ref 0), some (.ref 113), some (.int a3)] [] g' = some r) : xX (d + 60) mL_law 766 [some (.ref 1000000), some (.ref 0), some (.ref 113), some (.int a3)] [] g = some r := by
  unfold O_16 at h
  have k0 := xKp.refl W
  refine xbE2 h fun v1 g1 e1 h => ?_
  have y1 := e_X11_next (d := d + 24) k0.1 e1
  have k1 := y1.2.kp k0.1 (by decide) (by decide)
  have hs1 := (congrFun k1.2.1 1000000).trans hs
  have hv1 := k1.2.2.1.trans hv
  refine xbE2 h fun v2 g2 e2 h => ?_
  have y2 := e_X12_next (d := d + 54) k1.1 e2
  have k2 := y2.2.kp k1.1 (by decide) (by decide)
  obtain ⟨hq, rfl⟩ := Prod.mk.inj (Option.some.inj h)
  have hq := of_decide_eq_true hq
  exact bL_law_766 W h1 hs hv h2 h3 y1.1 k1.1 h1 hs1 hv1 h2 h3 y2.1 k2.1 (fun _ => k (k1.tr k2)) (fun n => absurd hq n)
theorem o_17 {d : Nat} {g g' : xSt} {a3 : Int32} {S : Nat → Int32} {L : Nat} {r : Option Value × xSt} (W : xWf g) (hs : xH g 1000000 = .inl (.int, L)) (hv : xI g 1000000 = S) (h1 : vp_in (a3 + 1) L) (h2 : vp_in (a3 + 2) L) (h3 : vp_in (a3 + 3) L) (h4 : vp_in (a3 + 4) L) (h5 : vp_in (a3 + 5) L) (h : O_17 (S (a3 + 1).toNatClampNeg) (S (a3 + 2).toNatClampNeg) (S (a3 + 3).toNatClampNeg) (S (a3 + 4).toNatClampNeg) (S (a3 + 5).toNatClampNeg) g = some (true, g')) (k : xKp g g' → xX (d + 60) mL_law 1732 [some (.ref 1000000), some (.ref 0), some (.ref 113), some (.int a3)] [] g' = some r) : xX (d + 60) mL_law 809 [some (.ref 1000000), some (.ref 0), some (.ref 113), some (.int a3)] [] g = some r := by
  unfold O_17 at h
  have k0 := xKp.refl W
  refine xbE2 h fun v1 g1 e1 h => ?_
  have y1 := e_X11_total (d := d + 24) k0.1 e1
  have k1 := y1.2.kp k0.1 (by decide) (by decide)
  have hs1 := (congrFun k1.2.1 1000000).trans hs
  have hv1 := k1.2.2.1.trans hv
  refine xbE2 h fun v2 g2 e2 h => ?_
  have y2 := e_X12_total (d := d + 54) k1.1 e2
  have k2 := y2.2.kp k1.1 (by decide) (by decide)
  obtain ⟨hq, rfl⟩ := Prod.mk.inj (Option.some.inj h)
  have hq := of_decide_eq_true hq
  exact bL_law_809 W h1 hs hv h2 h3 h4 y1.1 k1.1 h1 hs1 hv1 h2 h3 h4 y2.1 k2.1 (fun _ => k (k1.tr k2)) (fun n => absurd hq n)
theorem o_18 {d : Nat} {g g' : xSt} {a3 : Int32} {S : Nat → Int32} {L : Nat} {r : Option Value × xSt} (W : xWf g) (hs : xH g 1000000 = .inl (.int, L)) (hv : xI g 1000000 = S) (h1 : vp_in (a3 + 1) L) (h2 : vp_in (a3 + 2) L) (h3 : vp_in (a3 + 3) L) (h4 : vp_in (a3 + 4) L) (h5 : vp_in (a3 + 5) L) (h : O_18 (S (a3 + 1).toNatClampNeg) (S (a3 + 2).toNatClampNeg) (S (a3 + 3).toNatClampNeg) (S (a3 + 4).toNatClampNeg) (S (a3 + 5).toNatClampNeg) g = some (true, g')) (k : xKp g g' → xX (d + 60) mL_law 1732 [some (.ref 1000000), some (.ref 0), some (.ref 113), some (.int a3)] [] g' = some r) : xX (d + 60) mL_law 862 [some (.ref 1000000), some (.ref 0), some (.ref 113), some (.int a3)] [] g = some r := by
  unfold O_18 at h
  have k0 := xKp.refl W
  refine xbE2 h fun v1 g1 e1 h => ?_
  have y1 := e_X11_atOnce (d := d + 53) k0.1 e1
  have k1 := y1.2.kp k0.1 (by decide) (by decide)
  have hs1 := (congrFun k1.2.1 1000000).trans hs
  have hv1 := k1.2.2.1.trans hv
  refine xbE2 h fun v2 g2 e2 h => ?_
  have y2 := e_X12_atOnce (d := d + 54) k1.1 e2
  have k2 := y2.2.kp k1.1 (by decide) (by decide)
  obtain ⟨hq, rfl⟩ := Prod.mk.inj (Option.some.inj h)
  have hq := of_decide_eq_true hq
  exact bL_law_862 W h1 hs hv h2 h3 y1.1 k1.1 h1 hs1 hv1 h2 h3 y2.1 k2.1 (fun _ => k (k1.tr k2)) (fun n => absurd hq n)
theorem o_19 {d : Nat} {g g' : xSt} {a3 : Int32} {S : Nat → Int32} {L : Nat} {r : Option Value × xSt} (W : xWf g) (hs : xH g 1000000 = .inl (.int, L)) (hv : xI g 1000000 = S) (h1 : vp_in (a3 + 1) L) (h2 : vp_in (a3 + 2) L) (h3 : vp_in (a3 + 3) L) (h4 : vp_in (a3 + 4) L) (h5 : vp_in (a3 + 5) L) (h : O_19 (S (a3 + 1).toNatClampNeg) (S (a3 + 2).toNatClampNeg) (S (a3 + 3).toNatClampNeg) (S (a3 + 4).toNatClampNeg) (S (a3 + 5).toNatClampNeg) g = some (true, g')) (k : xKp g g' → xX (d + 60) mL_law 1732 [some (.ref 1000000), some (.ref 0), some (.ref 113), some (.int a3)] [] g' = some r) : xX (d + 60) mL_law 905 [some (.ref 1000000), some (.ref 0), some (.ref 113), some (.int a3)] [] g = some r := by
  unfold O_19 at h
  have k0 := xKp.refl W
  refine xbE2 h fun v1 g1 e1 h => ?_
  have y1 := e_X11_answers (d := d + 54) k0.1 e1
  have k1 := y1.2.kp k0.1 (by decide) (by decide)
  have hs1 := (congrFun k1.2.1 1000000).trans hs
  have hv1 := k1.2.2.1.trans hv
  refine xbE2 h fun v2 g2 e2 h => ?_
  have y2 := e_X12_answers (d := d + 54) k1.1 e2
  have k2 := y2.2.kp k1.1 (by decide) (by decide)
  obtain ⟨hq, rfl⟩ := Prod.mk.inj (Option.some.inj h)
  have hq := of_decide_eq_true hq
  exact bL_law_905 W h1 hs hv h2 h3 h4 y1.1 k1.1 h1 hs1 hv1 h2 h3 h4 y2.1 k2.1 (fun _ => k (k1.tr k2)) (fun n => absurd hq n)
theorem o_20 {d : Nat} {g g' : xSt} {a3 : Int32} {S : Nat → Int32} {L : Nat} {r : Option Value × xSt} (W : xWf g) (hs : xH g 1000000 = .inl (.int, L)) (hv : xI g 1000000 = S) (h1 : vp_in (a3 + 1) L) (h2 : vp_in (a3 + 2) L) (h3 : vp_in (a3 + 3) L) (h4 : vp_in (a3 + 4) L) (h5 : vp_in (a3 + 5) L) (h : O_20 (S (a3 + 1).toNatClampNeg) (S (a3 + 2).toNatClampNeg) (S (a3 + 3).toNatClampNeg) (S (a3 + 4).toNatClampNeg) (S (a3 + 5).toNatClampNeg) g = some (true, g')) (k : xKp g g' → xX (d + 60) mL_law 1732 [some (.ref 1000000), some (.ref 0), some (.ref 113), some (.int a3)] [] g' = some r) : xX (d + 60) mL_law 958 [some (.ref 1000000), some (.ref 0), some (.ref 113), some (.int a3)] [] g = some r := by
  unfold O_20 at h
  have k0 := xKp.refl W
  refine xbE2 h fun v1 g1 e1 h => ?_
  have y1 := e_X11_judged (d := d + 54) k0.1 e1
  have k1 := y1.2.kp k0.1 (by decide) (by decide)
  have hs1 := (congrFun k1.2.1 1000000).trans hs
  have hv1 := k1.2.2.1.trans hv
  refine xbE2 h fun v2 g2 e2 h => ?_
  have y2 := e_X12_judged (d := d + 55) k1.1 e2
  have k2 := y2.2.kp k1.1 (by decide) (by decide)
  obtain ⟨hq, rfl⟩ := Prod.mk.inj (Option.some.inj h)
  have hq := of_decide_eq_true hq
  exact bL_law_958 W h1 hs hv h2 h3 h4 h5 y1.1 k1.1 h1 hs1 hv1 h2 h3 h4 h5 y2.1 k2.1 (fun _ => k (k1.tr k2)) (fun n => absurd hq n)
theorem o_21 {d : Nat} {g g' : xSt} {a3 : Int32} {S : Nat → Int32} {L : Nat} {r : Option Value × xSt} (W : xWf g) (hs : xH g 1000000 = .inl (.int, L)) (hv : xI g 1000000 = S) (h1 : vp_in (a3 + 1) L) (h2 : vp_in (a3 + 2) L) (h3 : vp_in (a3 + 3) L) (h4 : vp_in (a3 + 4) L) (h5 : vp_in (a3 + 5) L) (h : O_21 (S (a3 + 1).toNatClampNeg) (S (a3 + 2).toNatClampNeg) (S (a3 + 3).toNatClampNeg) (S (a3 + 4).toNatClampNeg) (S (a3 + 5).toNatClampNeg) g = some (true, g')) (k : xKp g g' → xX (d + 60) mL_law 1732 [some (.ref 1000000), some (.ref 0), some (.ref 113), some (.int a3)] [] g' = some r) : xX (d + 60) mL_law 1021 [some (.ref 1000000), some (.ref 0), some (.ref 113), some (.int a3)] [] g = some r := by
  unfold O_21 at h
  have k0 := xKp.refl W
  refine xbE2 h fun v1 g1 e1 h => ?_
  have y1 := e_X11_trusty (d := d + 53) k0.1 e1
  have k1 := y1.2.kp k0.1 (by decide) (by decide)
  have hs1 := (congrFun k1.2.1 1000000).trans hs
  have hv1 := k1.2.2.1.trans hv
  refine xbE2 h fun v2 g2 e2 h => ?_
  have y2 := e_X12_trusty (d := d + 55) k1.1 e2
  have k2 := y2.2.kp k1.1 (by decide) (by decide)
  obtain ⟨hq, rfl⟩ := Prod.mk.inj (Option.some.inj h)
  have hq := of_decide_eq_true hq
  exact bL_law_1021 W h1 hs hv h2 h3 y1.1 k1.1 h1 hs1 hv1 h2 h3 y2.1 k2.1 (fun _ => k (k1.tr k2)) (fun n => absurd hq n)
theorem o_22 {d : Nat} {g g' : xSt} {a3 : Int32} {S : Nat → Int32} {L : Nat} {r : Option Value × xSt} (W : xWf g) (hs : xH g 1000000 = .inl (.int, L)) (hv : xI g 1000000 = S) (h1 : vp_in (a3 + 1) L) (h2 : vp_in (a3 + 2) L) (h3 : vp_in (a3 + 3) L) (h4 : vp_in (a3 + 4) L) (h5 : vp_in (a3 + 5) L) (h : O_22 (S (a3 + 1).toNatClampNeg) (S (a3 + 2).toNatClampNeg) (S (a3 + 3).toNatClampNeg) (S (a3 + 4).toNatClampNeg) (S (a3 + 5).toNatClampNeg) g = some (true, g')) (k : xKp g g' → xX (d + 60) mL_law 1732 [some (.ref 1000000), some (.ref 0), some (.ref 113), some (.int a3)] [] g' = some r) : xX (d + 60) mL_law 1064 [some (.ref 1000000), some (.ref 0), some (.ref 113), some (.int a3)] [] g = some r := by
  unfold O_22 at h
  have k0 := xKp.refl W
  refine xbE2 h fun v1 g1 e1 h => ?_
  have y1 := e_X11_odds (d := d + 54) k0.1 e1
  have k1 := y1.2.kp k0.1 (by decide) (by decide)
  have hs1 := (congrFun k1.2.1 1000000).trans hs
  have hv1 := k1.2.2.1.trans hv
  refine xbE2 h fun v2 g2 e2 h => ?_
  have y2 := e_X12_odds (d := d + 55) k1.1 e2
  have k2 := y2.2.kp k1.1 (by decide) (by decide)
  obtain ⟨hq, rfl⟩ := Prod.mk.inj (Option.some.inj h)
  have hq := of_decide_eq_true hq
  exact bL_law_1064 W h1 hs hv h2 h3 h4 y1.1 k1.1 h1 hs1 hv1 h2 h3 h4 y2.1 k2.1 (fun _ => k (k1.tr k2)) (fun n => absurd hq n)
theorem o_23 {d : Nat} {g g' : xSt} {a3 : Int32} {S : Nat → Int32} {L : Nat} {r : Option Value × xSt} (W : xWf g) (hs : xH g 1000000 = .inl (.int, L)) (hv : xI g 1000000 = S) (h1 : vp_in (a3 + 1) L) (h2 : vp_in (a3 + 2) L) (h3 : vp_in (a3 + 3) L) (h4 : vp_in (a3 + 4) L) (h5 : vp_in (a3 + 5) L) (h : O_23 (S (a3 + 1).toNatClampNeg) (S (a3 + 2).toNatClampNeg) (S (a3 + 3).toNatClampNeg) (S (a3 + 4).toNatClampNeg) (S (a3 + 5).toNatClampNeg) g = some (true, g')) (k : xKp g g' → xX (d + 60) mL_law 1732 [some (.ref 1000000), some (.ref 0), some (.ref 113), some (.int a3)] [] g' = some r) : xX (d + 60) mL_law 1117 [some (.ref 1000000), some (.ref 0), some (.ref 113), some (.int a3)] [] g = some r := by
  unfold O_23 at h
  have k0 := xKp.refl W
  refine xbE2 h fun v1 g1 e1 h => ?_
  have y1 := e_X11_evenest (d := d + 54) k0.1 e1
  have k1 := y1.2.kp k0.1 (by decide) (by decide)
  have hs1 := (congrFun k1.2.1 1000000).trans hs
  have hv1 := k1.2.2.1.trans hv
  refine xbE2 h fun v2 g2 e2 h => ?_
  have y2 := e_X12_evenest (d := d + 54) k1.1 e2
  have k2 := y2.2.kp k1.1 (by decide) (by decide)
  obtain ⟨hq, rfl⟩ := Prod.mk.inj (Option.some.inj h)
  have hq := of_decide_eq_true hq
  exact bL_law_1117 W h1 hs hv y1.1 k1.1 h1 hs1 hv1 y2.1 k2.1 (fun _ => k (k1.tr k2)) (fun n => absurd hq n)
theorem o_24 {d : Nat} {g g' : xSt} {a3 : Int32} {S : Nat → Int32} {L : Nat} {r : Option Value × xSt} (W : xWf g) (hs : xH g 1000000 = .inl (.int, L)) (hv : xI g 1000000 = S) (h1 : vp_in (a3 + 1) L) (h2 : vp_in (a3 + 2) L) (h3 : vp_in (a3 + 3) L) (h4 : vp_in (a3 + 4) L) (h5 : vp_in (a3 + 5) L) (h : O_24 (S (a3 + 1).toNatClampNeg) (S (a3 + 2).toNatClampNeg) (S (a3 + 3).toNatClampNeg) (S (a3 + 4).toNatClampNeg) (S (a3 + 5).toNatClampNeg) g = some (true, g')) (k : xKp g g' → xX (d + 60) mL_law 1732 [some (.ref 1000000), some (.ref 0), some (.ref 113), some (.int a3)] [] g' = some r) : xX (d + 60) mL_law 1140 [some (.ref 1000000), some (.ref 0), some (.ref 113), some (.int a3)] [] g = some r := by
  unfold O_24 at h
  have k0 := xKp.refl W
  refine xbE2 h fun v1 g1 e1 h => ?_
  have y1 := e_X11_covers (d := d + 54) k0.1 e1
  have k1 := y1.2.kp k0.1 (by decide) (by decide)
  have hs1 := (congrFun k1.2.1 1000000).trans hs
  have hv1 := k1.2.2.1.trans hv
  refine xbE2 h fun v2 g2 e2 h => ?_
  have y2 := e_X12_covers (d := d + 54) k1.1 e2
  have k2 := y2.2.kp k1.1 (by decide) (by decide)
  obtain ⟨hq, rfl⟩ := Prod.mk.inj (Option.some.inj h)
  have hq := of_decide_eq_true hq
  exact bL_law_1140 W h1 hs hv y1.1 k1.1 h1 hs1 hv1 y2.1 k2.1 (fun _ => k (k1.tr k2)) (fun n => absurd hq n)
theorem o_25 {d : Nat} {g g' : xSt} {a3 : Int32} {S : Nat → Int32} {L : Nat} {r : Option Value × xSt} (W : xWf g) (hs : xH g 1000000 = .inl (.int, L)) (hv : xI g 1000000 = S) (h1 : vp_in (a3 + 1) L) (h2 : vp_in (a3 + 2) L) (h3 : vp_in (a3 + 3) L) (h4 : vp_in (a3 + 4) L) (h5 : vp_in (a3 + 5) L) (h : O_25 (S (a3 + 1).toNatClampNeg) (S (a3 + 2).toNatClampNeg) (S (a3 + 3).toNatClampNeg) (S (a3 + 4).toNatClampNeg) (S (a3 + 5).toNatClampNeg) g = some (true, g')) (k : xKp g g' → xX (d + 60) mL_law 1732 [some (.ref 1000000), some (.ref 0), some (.ref 113), some (.int a3)] [] g' = some r) : xX (d + 60) mL_law 1163 [some (.ref 1000000), some (.ref 0), some (.ref 113), some (.int a3)] [] g = some r := by
  unfold O_25 at h
  have k0 := xKp.refl W
  refine xbE2 h fun v1 g1 e1 h => ?_
  have y1 := e_X11_sits (d := d + 54) k0.1 e1
  have k1 := y1.2.kp k0.1 (by decide) (by decide)
  have hs1 := (congrFun k1.2.1 1000000).trans hs
  have hv1 := k1.2.2.1.trans hv
  refine xbE2 h fun v2 g2 e2 h => ?_
  have y2 := e_X12_sits (d := d + 54) k1.1 e2
  have k2 := y2.2.kp k1.1 (by decide) (by decide)
  obtain ⟨hq, rfl⟩ := Prod.mk.inj (Option.some.inj h)
  have hq := of_decide_eq_true hq
  exact bL_law_1163 W h1 hs hv h2 h3 y1.1 k1.1 h1 hs1 hv1 h2 h3 y2.1 k2.1 (fun _ => k (k1.tr k2)) (fun n => absurd hq n)
theorem o_26 {d : Nat} {g g' : xSt} {a3 : Int32} {S : Nat → Int32} {L : Nat} {r : Option Value × xSt} (W : xWf g) (hs : xH g 1000000 = .inl (.int, L)) (hv : xI g 1000000 = S) (h1 : vp_in (a3 + 1) L) (h2 : vp_in (a3 + 2) L) (h3 : vp_in (a3 + 3) L) (h4 : vp_in (a3 + 4) L) (h5 : vp_in (a3 + 5) L) (h : O_26 (S (a3 + 1).toNatClampNeg) (S (a3 + 2).toNatClampNeg) (S (a3 + 3).toNatClampNeg) (S (a3 + 4).toNatClampNeg) (S (a3 + 5).toNatClampNeg) g = some (true, g')) (k : xKp g g' → xX (d + 60) mL_law 1732 [some (.ref 1000000), some (.ref 0), some (.ref 113), some (.int a3)] [] g' = some r) : xX (d + 60) mL_law 1206 [some (.ref 1000000), some (.ref 0), some (.ref 113), some (.int a3)] [] g = some r := by
  unfold O_26 at h
  have k0 := xKp.refl W
  refine xbE2 h fun v1 g1 e1 h => ?_
  have y1 := e_X11_led (d := d + 55) k0.1 e1
  have k1 := y1.2.kp k0.1 (by decide) (by decide)
  have hs1 := (congrFun k1.2.1 1000000).trans hs
  have hv1 := k1.2.2.1.trans hv
  refine xbE1 h fun v2 e2 h => ?_
  have y2 := e_X12_led (d := d + 57) k1.1 e2
  have k2 := xKp.refl k1.1
  obtain ⟨hq, rfl⟩ := Prod.mk.inj (Option.some.inj h)
  have hq := of_decide_eq_true hq
  exact bL_law_1206 W h1 hs hv h2 h3 y1.1 k1.1 h1 hs1 hv1 h2 h3 y2 k2.1 (fun _ => k (k1.tr k2)) (fun n => absurd hq n)
theorem o_27 {d : Nat} {g g' : xSt} {a3 : Int32} {S : Nat → Int32} {L : Nat} {r : Option Value × xSt} (W : xWf g) (hs : xH g 1000000 = .inl (.int, L)) (hv : xI g 1000000 = S) (h1 : vp_in (a3 + 1) L) (h2 : vp_in (a3 + 2) L) (h3 : vp_in (a3 + 3) L) (h4 : vp_in (a3 + 4) L) (h5 : vp_in (a3 + 5) L) (h : O_27 (S (a3 + 1).toNatClampNeg) (S (a3 + 2).toNatClampNeg) (S (a3 + 3).toNatClampNeg) (S (a3 + 4).toNatClampNeg) (S (a3 + 5).toNatClampNeg) g = some (true, g')) (k : xKp g g' → xX (d + 60) mL_law 1732 [some (.ref 1000000), some (.ref 0), some (.ref 113), some (.int a3)] [] g' = some r) : xX (d + 60) mL_law 1249 [some (.ref 1000000), some (.ref 0), some (.ref 113), some (.int a3)] [] g = some r := by
  unfold O_27 at h
  have k0 := xKp.refl W
  refine xbE2 h fun v1 g1 e1 h => ?_
  have y1 := e_X11_doubts (d := d + 55) k0.1 e1
  have k1 := y1.2.kp k0.1 (by decide) (by decide)
  have hs1 := (congrFun k1.2.1 1000000).trans hs
  have hv1 := k1.2.2.1.trans hv
  refine xbE1 h fun v2 e2 h => ?_
  have y2 := e_X12_doubts (d := d + 57) k1.1 e2
  have k2 := xKp.refl k1.1
  obtain ⟨hq, rfl⟩ := Prod.mk.inj (Option.some.inj h)
  have hq := of_decide_eq_true hq
  exact bL_law_1249 W h1 hs hv y1.1 k1.1 h1 hs1 hv1 y2 k2.1 (fun _ => k (k1.tr k2)) (fun n => absurd hq n)
theorem o_28 {d : Nat} {g g' : xSt} {a3 : Int32} {S : Nat → Int32} {L : Nat} {r : Option Value × xSt} (W : xWf g) (hs : xH g 1000000 = .inl (.int, L)) (hv : xI g 1000000 = S) (h1 : vp_in (a3 + 1) L) (h2 : vp_in (a3 + 2) L) (h3 : vp_in (a3 + 3) L) (h4 : vp_in (a3 + 4) L) (h5 : vp_in (a3 + 5) L) (h : O_28 (S (a3 + 1).toNatClampNeg) (S (a3 + 2).toNatClampNeg) (S (a3 + 3).toNatClampNeg) (S (a3 + 4).toNatClampNeg) (S (a3 + 5).toNatClampNeg) g = some (true, g')) (k : xKp g g' → xX (d + 60) mL_law 1732 [some (.ref 1000000), some (.ref 0), some (.ref 113), some (.int a3)] [] g' = some r) : xX (d + 60) mL_law 1272 [some (.ref 1000000), some (.ref 0), some (.ref 113), some (.int a3)] [] g = some r := by
  unfold O_28 at h
  have k0 := xKp.refl W
  refine xbE2 h fun v1 g1 e1 h => ?_
  have y1 := e_X11_twins (d := d + 54) k0.1 e1
  have k1 := y1.2.kp k0.1 (by decide) (by decide)
  have hs1 := (congrFun k1.2.1 1000000).trans hs
  have hv1 := k1.2.2.1.trans hv
  refine xbE2 h fun v2 g2 e2 h => ?_
  have y2 := e_X12_twins (d := d + 54) k1.1 e2
  have k2 := y2.2.kp k1.1 (by decide) (by decide)
  obtain ⟨hq, rfl⟩ := Prod.mk.inj (Option.some.inj h)
  have hq := of_decide_eq_true hq
  exact bL_law_1272 W h1 hs hv h2 y1.1 k1.1 h1 hs1 hv1 h2 y2.1 k2.1 (fun _ => k (k1.tr k2)) (fun n => absurd hq n)
theorem o_29 {d : Nat} {g g' : xSt} {a3 : Int32} {S : Nat → Int32} {L : Nat} {r : Option Value × xSt} (W : xWf g) (hs : xH g 1000000 = .inl (.int, L)) (hv : xI g 1000000 = S) (h1 : vp_in (a3 + 1) L) (h2 : vp_in (a3 + 2) L) (h3 : vp_in (a3 + 3) L) (h4 : vp_in (a3 + 4) L) (h5 : vp_in (a3 + 5) L) (h : O_29 (S (a3 + 1).toNatClampNeg) (S (a3 + 2).toNatClampNeg) (S (a3 + 3).toNatClampNeg) (S (a3 + 4).toNatClampNeg) (S (a3 + 5).toNatClampNeg) g = some (true, g')) (k : xKp g g' → xX (d + 60) mL_law 1732 [some (.ref 1000000), some (.ref 0), some (.ref 113), some (.int a3)] [] g' = some r) : xX (d + 60) mL_law 1305 [some (.ref 1000000), some (.ref 0), some (.ref 113), some (.int a3)] [] g = some r := by
  unfold O_29 at h
  by_cases q : (S (a3 + 1).toNatClampNeg) = 0
  · rw [show xb01 (S (a3 + 1).toNatClampNeg) = 0 from if_pos q] at h
    have k0 := xKp.refl W
    refine xbE2 h fun v1 g1 e1 h => ?_
    have y1 := e_X11_ladder (d := d + 54) k0.1 e1
    have k1 := y1.2.kp k0.1 (by decide) (by decide)
    have hs1 := (congrFun k1.2.1 1000000).trans hs
    have hv1 := k1.2.2.1.trans hv
    refine xbE2 h fun v2 g2 e2 h => ?_
    have y2 := e_X12_ladder (d := d + 54) k1.1 e2
    have k2 := y2.2.kp k1.1 (by decide) (by decide)
    obtain ⟨hq, rfl⟩ := Prod.mk.inj (Option.some.inj h)
    have hq := of_decide_eq_true hq
    exact bL_law_1305 h1 hs hv (fun _ => bL_law_1318 (bL_law_1319 W h2 hs hv y1.1 k1.1 h1 hs1 hv1 (fun _ => bL_law_1340 (bL_law_1341 k1.1 h2 hs1 hv1 y2.1 k2.1 (fun _ => k (k1.tr k2)) (fun n => absurd hq n))) (fun n => absurd q n))) (fun n => absurd q n)
  · rw [show xb01 (S (a3 + 1).toNatClampNeg) = 1 from if_neg q] at h
    have k0 := xKp.refl W
    refine xbE2 h fun v1 g1 e1 h => ?_
    have y1 := e_X11_ladder (d := d + 54) k0.1 e1
    have k1 := y1.2.kp k0.1 (by decide) (by decide)
    have hs1 := (congrFun k1.2.1 1000000).trans hs
    have hv1 := k1.2.2.1.trans hv
    refine xbE2 h fun v2 g2 e2 h => ?_
    have y2 := e_X12_ladder (d := d + 54) k1.1 e2
    have k2 := y2.2.kp k1.1 (by decide) (by decide)
    obtain ⟨hq, rfl⟩ := Prod.mk.inj (Option.some.inj h)
    have hq := of_decide_eq_true hq
    exact bL_law_1305 h1 hs hv (fun n => absurd n q) (fun _ => bL_law_1314 (bL_law_1319 W h2 hs hv y1.1 k1.1 h1 hs1 hv1 (fun n => absurd n q) (fun _ => bL_law_1336 (bL_law_1341 k1.1 h2 hs1 hv1 y2.1 k2.1 (fun _ => k (k1.tr k2)) (fun n => absurd hq n)))))
theorem o_30 {d : Nat} {g g' : xSt} {a3 : Int32} {S : Nat → Int32} {L : Nat} {r : Option Value × xSt} (W : xWf g) (hs : xH g 1000000 = .inl (.int, L)) (hv : xI g 1000000 = S) (h1 : vp_in (a3 + 1) L) (h2 : vp_in (a3 + 2) L) (h3 : vp_in (a3 + 3) L) (h4 : vp_in (a3 + 4) L) (h5 : vp_in (a3 + 5) L) (h : O_30 (S (a3 + 1).toNatClampNeg) (S (a3 + 2).toNatClampNeg) (S (a3 + 3).toNatClampNeg) (S (a3 + 4).toNatClampNeg) (S (a3 + 5).toNatClampNeg) g = some (true, g')) (k : xKp g g' → xX (d + 60) mL_law 1732 [some (.ref 1000000), some (.ref 0), some (.ref 113), some (.int a3)] [] g' = some r) : xX (d + 60) mL_law 1354 [some (.ref 1000000), some (.ref 0), some (.ref 113), some (.int a3)] [] g = some r := by
  unfold O_30 at h
  have k0 := xKp.refl W
  refine xbE2 h fun v1 g1 e1 h => ?_
  have y1 := e_X11_bound (d := d + 54) k0.1 e1
  have k1 := y1.2.kp k0.1 (by decide) (by decide)
  have hs1 := (congrFun k1.2.1 1000000).trans hs
  have hv1 := k1.2.2.1.trans hv
  refine xbE2 h fun v2 g2 e2 h => ?_
  have y2 := e_X12_bound (d := d + 54) k1.1 e2
  have k2 := y2.2.kp k1.1 (by decide) (by decide)
  obtain ⟨hq, rfl⟩ := Prod.mk.inj (Option.some.inj h)
  have hq := of_decide_eq_true hq
  exact bL_law_1354 W h1 hs hv y1.1 k1.1 h1 hs1 hv1 y2.1 k2.1 (fun _ => k (k1.tr k2)) (fun n => absurd hq n)
theorem o_31 {d : Nat} {g g' : xSt} {a3 : Int32} {S : Nat → Int32} {L : Nat} {r : Option Value × xSt} (W : xWf g) (hs : xH g 1000000 = .inl (.int, L)) (hv : xI g 1000000 = S) (h1 : vp_in (a3 + 1) L) (h2 : vp_in (a3 + 2) L) (h3 : vp_in (a3 + 3) L) (h4 : vp_in (a3 + 4) L) (h5 : vp_in (a3 + 5) L) (h : O_31 (S (a3 + 1).toNatClampNeg) (S (a3 + 2).toNatClampNeg) (S (a3 + 3).toNatClampNeg) (S (a3 + 4).toNatClampNeg) (S (a3 + 5).toNatClampNeg) g = some (true, g')) (k : xKp g g' → xX (d + 60) mL_law 1732 [some (.ref 1000000), some (.ref 0), some (.ref 113), some (.int a3)] [] g' = some r) : xX (d + 60) mL_law 1377 [some (.ref 1000000), some (.ref 0), some (.ref 113), some (.int a3)] [] g = some r := by
  unfold O_31 at h
  have k0 := xKp.refl W
  refine xbE2 h fun v1 g1 e1 h => ?_
  have y1 := e_X11_swapped (d := d + 24) k0.1 e1
  have k1 := y1.2.kp k0.1 (by decide) (by decide)
  have hs1 := (congrFun k1.2.1 1000000).trans hs
  have hv1 := k1.2.2.1.trans hv
  refine xbE2 h fun v2 g2 e2 h => ?_
  have y2 := e_X12_swapped (d := d + 54) k1.1 e2
  have k2 := y2.2.kp k1.1 (by decide) (by decide)
  obtain ⟨hq, rfl⟩ := Prod.mk.inj (Option.some.inj h)
  have hq := of_decide_eq_true hq
  exact bL_law_1377 W h1 hs hv h2 y1.1 k1.1 h1 hs1 hv1 h2 y2.1 k2.1 (fun _ => k (k1.tr k2)) (fun n => absurd hq n)
theorem o_32 {d : Nat} {g g' : xSt} {a3 : Int32} {S : Nat → Int32} {L : Nat} {r : Option Value × xSt} (W : xWf g) (hs : xH g 1000000 = .inl (.int, L)) (hv : xI g 1000000 = S) (h1 : vp_in (a3 + 1) L) (h2 : vp_in (a3 + 2) L) (h3 : vp_in (a3 + 3) L) (h4 : vp_in (a3 + 4) L) (h5 : vp_in (a3 + 5) L) (h : O_32 (S (a3 + 1).toNatClampNeg) (S (a3 + 2).toNatClampNeg) (S (a3 + 3).toNatClampNeg) (S (a3 + 4).toNatClampNeg) (S (a3 + 5).toNatClampNeg) g = some (true, g')) (k : xKp g g' → xX (d + 60) mL_law 1732 [some (.ref 1000000), some (.ref 0), some (.ref 113), some (.int a3)] [] g' = some r) : xX (d + 60) mL_law 1410 [some (.ref 1000000), some (.ref 0), some (.ref 113), some (.int a3)] [] g = some r := by
  unfold O_32 at h
  have k0 := xKp.refl W
  have k1 := xKp.refl k0.1
  have hs1 := (congrFun k1.2.1 1000000).trans hs
  have hv1 := k1.2.2.1.trans hv
  refine xbE1 h fun v2 e2 h => ?_
  have y2 := e_X12_clerk (d := d + 58) k1.1 e2
  have k2 := xKp.refl k1.1
  obtain ⟨hq, rfl⟩ := Prod.mk.inj (Option.some.inj h)
  have hq := of_decide_eq_true hq
  exact bL_law_1410 W h1 hs hv (c_X11_clerk k0.1) k1.1 h1 hs1 hv1 y2 k2.1 (fun _ => k (k1.tr k2)) (fun n => absurd hq n)
theorem o_33 {d : Nat} {g g' : xSt} {a3 : Int32} {S : Nat → Int32} {L : Nat} {r : Option Value × xSt} (W : xWf g) (hs : xH g 1000000 = .inl (.int, L)) (hv : xI g 1000000 = S) (h1 : vp_in (a3 + 1) L) (h2 : vp_in (a3 + 2) L) (h3 : vp_in (a3 + 3) L) (h4 : vp_in (a3 + 4) L) (h5 : vp_in (a3 + 5) L) (h : O_33 (S (a3 + 1).toNatClampNeg) (S (a3 + 2).toNatClampNeg) (S (a3 + 3).toNatClampNeg) (S (a3 + 4).toNatClampNeg) (S (a3 + 5).toNatClampNeg) g = some (true, g')) (k : xKp g g' → xX (d + 60) mL_law 1732 [some (.ref 1000000), some (.ref 0), some (.ref 113), some (.int a3)] [] g' = some r) : xX (d + 60) mL_law 1433 [some (.ref 1000000), some (.ref 0), some (.ref 113), some (.int a3)] [] g = some r := by
  unfold O_33 at h
  have k0 := xKp.refl W
  refine xbE2 h fun v1 g1 e1 h => ?_
  have y1 := e_X11_weights (d := d + 46) k0.1 e1
  have k1 := y1.2.kp k0.1 (by decide) (by decide)
  have hs1 := (congrFun k1.2.1 1000000).trans hs
  have hv1 := k1.2.2.1.trans hv
  refine xbE2 h fun v2 g2 e2 h => ?_
  have y2 := e_X12_weights (d := d + 55) k1.1 e2
  have k2 := y2.2.kp k1.1 (by decide) (by decide)
  obtain ⟨hq, rfl⟩ := Prod.mk.inj (Option.some.inj h)
  have hq := of_decide_eq_true hq
  exact bL_law_1433 W h1 hs hv y1.1 k1.1 h1 hs1 hv1 y2.1 k2.1 (fun _ => k (k1.tr k2)) (fun n => absurd hq n)
theorem o_34 {d : Nat} {g g' : xSt} {a3 : Int32} {S : Nat → Int32} {L : Nat} {r : Option Value × xSt} (W : xWf g) (hs : xH g 1000000 = .inl (.int, L)) (hv : xI g 1000000 = S) (h1 : vp_in (a3 + 1) L) (h2 : vp_in (a3 + 2) L) (h3 : vp_in (a3 + 3) L) (h4 : vp_in (a3 + 4) L) (h5 : vp_in (a3 + 5) L) (h : O_34 (S (a3 + 1).toNatClampNeg) (S (a3 + 2).toNatClampNeg) (S (a3 + 3).toNatClampNeg) (S (a3 + 4).toNatClampNeg) (S (a3 + 5).toNatClampNeg) g = some (true, g')) (k : xKp g g' → xX (d + 60) mL_law 1732 [some (.ref 1000000), some (.ref 0), some (.ref 113), some (.int a3)] [] g' = some r) : xX (d + 60) mL_law 1456 [some (.ref 1000000), some (.ref 0), some (.ref 113), some (.int a3)] [] g = some r := by
  unfold O_34 at h
  by_cases q : (S (a3 + 2).toNatClampNeg) = 0
  · rw [show xb01 (S (a3 + 2).toNatClampNeg) = 0 from if_pos q] at h
    have k0 := xKp.refl W
    refine xbE2 h fun v1 g1 e1 h => ?_
    have y1 := e_X11_weight (d := d + 46) k0.1 e1
    have k1 := y1.2.kp k0.1 (by decide) (by decide)
    have hs1 := (congrFun k1.2.1 1000000).trans hs
    have hv1 := k1.2.2.1.trans hv
    refine xbE2 h fun v2 g2 e2 h => ?_
    have y2 := e_X12_weight (d := d + 55) k1.1 e2
    have k2 := y2.2.kp k1.1 (by decide) (by decide)
    obtain ⟨hq, rfl⟩ := Prod.mk.inj (Option.some.inj h)
    have hq := of_decide_eq_true hq
    exact bL_law_1456 h1 hs hv h2 (fun _ => bL_law_1474 (bL_law_1475 W h3 hs hv y1.1 k1.1 h1 hs1 hv1 h2 (fun _ => bL_law_1501 (bL_law_1502 k1.1 h3 hs1 hv1 y2.1 k2.1 (fun _ => k (k1.tr k2)) (fun n => absurd hq n))) (fun n => absurd q n))) (fun n => absurd q n)
  · rw [show xb01 (S (a3 + 2).toNatClampNeg) = 1 from if_neg q] at h
    have k0 := xKp.refl W
    refine xbE2 h fun v1 g1 e1 h => ?_
    have y1 := e_X11_weight (d := d + 46) k0.1 e1
    have k1 := y1.2.kp k0.1 (by decide) (by decide)
    have hs1 := (congrFun k1.2.1 1000000).trans hs
    have hv1 := k1.2.2.1.trans hv
    refine xbE2 h fun v2 g2 e2 h => ?_
    have y2 := e_X12_weight (d := d + 55) k1.1 e2
    have k2 := y2.2.kp k1.1 (by decide) (by decide)
    obtain ⟨hq, rfl⟩ := Prod.mk.inj (Option.some.inj h)
    have hq := of_decide_eq_true hq
    exact bL_law_1456 h1 hs hv h2 (fun n => absurd n q) (fun _ => bL_law_1470 (bL_law_1475 W h3 hs hv y1.1 k1.1 h1 hs1 hv1 h2 (fun n => absurd n q) (fun _ => bL_law_1497 (bL_law_1502 k1.1 h3 hs1 hv1 y2.1 k2.1 (fun _ => k (k1.tr k2)) (fun n => absurd hq n)))))
theorem o_35 {d : Nat} {g g' : xSt} {a3 : Int32} {S : Nat → Int32} {L : Nat} {r : Option Value × xSt} (W : xWf g) (hs : xH g 1000000 = .inl (.int, L)) (hv : xI g 1000000 = S) (h1 : vp_in (a3 + 1) L) (h2 : vp_in (a3 + 2) L) (h3 : vp_in (a3 + 3) L) (h4 : vp_in (a3 + 4) L) (h5 : vp_in (a3 + 5) L) (h : O_35 (S (a3 + 1).toNatClampNeg) (S (a3 + 2).toNatClampNeg) (S (a3 + 3).toNatClampNeg) (S (a3 + 4).toNatClampNeg) (S (a3 + 5).toNatClampNeg) g = some (true, g')) (k : xKp g g' → xX (d + 60) mL_law 1732 [some (.ref 1000000), some (.ref 0), some (.ref 113), some (.int a3)] [] g' = some r) : xX (d + 60) mL_law 1515 [some (.ref 1000000), some (.ref 0), some (.ref 113), some (.int a3)] [] g = some r := by
  unfold O_35 at h
  have k0 := xKp.refl W
  refine xbE2 h fun v1 g1 e1 h => ?_
  have y1 := e_X11_could (d := d + 46) k0.1 e1
  have k1 := y1.2.kp k0.1 (by decide) (by decide)
  have hs1 := (congrFun k1.2.1 1000000).trans hs
  have hv1 := k1.2.2.1.trans hv
  refine xbE2 h fun v2 g2 e2 h => ?_
  have y2 := e_X12_could (d := d + 56) k1.1 e2
  have k2 := y2.2.kp k1.1 (by decide) (by decide)
  obtain ⟨hq, rfl⟩ := Prod.mk.inj (Option.some.inj h)
  have hq := of_decide_eq_true hq
  exact bL_law_1515 W h1 hs hv h2 h3 y1.1 k1.1 h1 hs1 hv1 h2 h3 y2.1 k2.1 (fun _ => k (k1.tr k2)) (fun n => absurd hq n)
theorem o_36 {d : Nat} {g g' : xSt} {a3 : Int32} {S : Nat → Int32} {L : Nat} {r : Option Value × xSt} (W : xWf g) (hs : xH g 1000000 = .inl (.int, L)) (hv : xI g 1000000 = S) (h1 : vp_in (a3 + 1) L) (h2 : vp_in (a3 + 2) L) (h3 : vp_in (a3 + 3) L) (h4 : vp_in (a3 + 4) L) (h5 : vp_in (a3 + 5) L) (h : O_36 (S (a3 + 1).toNatClampNeg) (S (a3 + 2).toNatClampNeg) (S (a3 + 3).toNatClampNeg) (S (a3 + 4).toNatClampNeg) (S (a3 + 5).toNatClampNeg) g = some (true, g')) (k : xKp g g' → xX (d + 60) mL_law 1732 [some (.ref 1000000), some (.ref 0), some (.ref 113), some (.int a3)] [] g' = some r) : xX (d + 60) mL_law 1558 [some (.ref 1000000), some (.ref 0), some (.ref 113), some (.int a3)] [] g = some r := by
  unfold O_36 at h
  by_cases q : (S (a3 + 2).toNatClampNeg) = 0
  · rw [show xb01 (S (a3 + 2).toNatClampNeg) = 0 from if_pos q] at h
    have k0 := xKp.refl W
    refine xbE2 h fun v1 g1 e1 h => ?_
    have y1 := e_X11_stones (d := d + 57) k0.1 e1
    have k1 := y1.2.kp k0.1 (by decide) (by decide)
    have hs1 := (congrFun k1.2.1 1000000).trans hs
    have hv1 := k1.2.2.1.trans hv
    refine xbE2 h fun v2 g2 e2 h => ?_
    have y2 := e_X12_stones (d := d + 57) k1.1 e2
    have k2 := y2.2.kp k1.1 (by decide) (by decide)
    obtain ⟨hq, rfl⟩ := Prod.mk.inj (Option.some.inj h)
    have hq := of_decide_eq_true hq
    exact bL_law_1558 h1 hs hv h2 (fun _ => bL_law_1576 (bL_law_1577 W y1.1 k1.1 h1 hs1 hv1 h2 (fun _ => bL_law_1598 (bL_law_1599 k1.1 y2.1 k2.1 (fun _ => k (k1.tr k2)) (fun n => absurd hq n))) (fun n => absurd q n))) (fun n => absurd q n)
  · rw [show xb01 (S (a3 + 2).toNatClampNeg) = 1 from if_neg q] at h
    have k0 := xKp.refl W
    refine xbE2 h fun v1 g1 e1 h => ?_
    have y1 := e_X11_stones (d := d + 57) k0.1 e1
    have k1 := y1.2.kp k0.1 (by decide) (by decide)
    have hs1 := (congrFun k1.2.1 1000000).trans hs
    have hv1 := k1.2.2.1.trans hv
    refine xbE2 h fun v2 g2 e2 h => ?_
    have y2 := e_X12_stones (d := d + 57) k1.1 e2
    have k2 := y2.2.kp k1.1 (by decide) (by decide)
    obtain ⟨hq, rfl⟩ := Prod.mk.inj (Option.some.inj h)
    have hq := of_decide_eq_true hq
    exact bL_law_1558 h1 hs hv h2 (fun n => absurd n q) (fun _ => bL_law_1572 (bL_law_1577 W y1.1 k1.1 h1 hs1 hv1 h2 (fun n => absurd n q) (fun _ => bL_law_1594 (bL_law_1599 k1.1 y2.1 k2.1 (fun _ => k (k1.tr k2)) (fun n => absurd hq n)))))
theorem o_37 {d : Nat} {g g' : xSt} {a3 : Int32} {S : Nat → Int32} {L : Nat} {r : Option Value × xSt} (W : xWf g) (hs : xH g 1000000 = .inl (.int, L)) (hv : xI g 1000000 = S) (h1 : vp_in (a3 + 1) L) (h2 : vp_in (a3 + 2) L) (h3 : vp_in (a3 + 3) L) (h4 : vp_in (a3 + 4) L) (h5 : vp_in (a3 + 5) L) (h : O_37 (S (a3 + 1).toNatClampNeg) (S (a3 + 2).toNatClampNeg) (S (a3 + 3).toNatClampNeg) (S (a3 + 4).toNatClampNeg) (S (a3 + 5).toNatClampNeg) g = some (true, g')) (k : xKp g g' → xX (d + 60) mL_law 1732 [some (.ref 1000000), some (.ref 0), some (.ref 113), some (.int a3)] [] g' = some r) : xX (d + 60) mL_law 1607 [some (.ref 1000000), some (.ref 0), some (.ref 113), some (.int a3)] [] g = some r := by
  unfold O_37 at h
  have k0 := xKp.refl W
  refine xbE2 h fun v1 g1 e1 h => ?_
  have y1 := e_X11_heaps (d := d + 46) k0.1 e1
  have k1 := y1.2.kp k0.1 (by decide) (by decide)
  have hs1 := (congrFun k1.2.1 1000000).trans hs
  have hv1 := k1.2.2.1.trans hv
  refine xbE2 h fun v2 g2 e2 h => ?_
  have y2 := e_X12_heaps (d := d + 56) k1.1 e2
  have k2 := y2.2.kp k1.1 (by decide) (by decide)
  obtain ⟨hq, rfl⟩ := Prod.mk.inj (Option.some.inj h)
  have hq := of_decide_eq_true hq
  exact bL_law_1607 W h1 hs hv h2 y1.1 k1.1 h1 hs1 hv1 h2 y2.1 k2.1 (fun _ => k (k1.tr k2)) (fun n => absurd hq n)
theorem o_38 {d : Nat} {g g' : xSt} {a3 : Int32} {S : Nat → Int32} {L : Nat} {r : Option Value × xSt} (W : xWf g) (hs : xH g 1000000 = .inl (.int, L)) (hv : xI g 1000000 = S) (h1 : vp_in (a3 + 1) L) (h2 : vp_in (a3 + 2) L) (h3 : vp_in (a3 + 3) L) (h4 : vp_in (a3 + 4) L) (h5 : vp_in (a3 + 5) L) (h : O_38 (S (a3 + 1).toNatClampNeg) (S (a3 + 2).toNatClampNeg) (S (a3 + 3).toNatClampNeg) (S (a3 + 4).toNatClampNeg) (S (a3 + 5).toNatClampNeg) g = some (true, g')) (k : xKp g g' → xX (d + 60) mL_law 1732 [some (.ref 1000000), some (.ref 0), some (.ref 113), some (.int a3)] [] g' = some r) : xX (d + 60) mL_law 1640 [some (.ref 1000000), some (.ref 0), some (.ref 113), some (.int a3)] [] g = some r := by
  unfold O_38 at h
  have k0 := xKp.refl W
  have k1 := xKp.refl k0.1
  have hs1 := (congrFun k1.2.1 1000000).trans hs
  have hv1 := k1.2.2.1.trans hv
  refine xbE1 h fun v2 e2 h => ?_
  have y2 := e_X12_lies (d := d + 58) k1.1 e2
  have k2 := xKp.refl k1.1
  obtain ⟨hq, rfl⟩ := Prod.mk.inj (Option.some.inj h)
  have hq := of_decide_eq_true hq
  exact bL_law_1640 W h1 hs hv (c_X11_lies k0.1) k1.1 h1 hs1 hv1 y2 k2.1 (fun _ => k (k1.tr k2)) (fun n => absurd hq n)
theorem o_39 {d : Nat} {g g' : xSt} {a3 : Int32} {S : Nat → Int32} {L : Nat} {r : Option Value × xSt} (W : xWf g) (hs : xH g 1000000 = .inl (.int, L)) (hv : xI g 1000000 = S) (h1 : vp_in (a3 + 1) L) (h2 : vp_in (a3 + 2) L) (h3 : vp_in (a3 + 3) L) (h4 : vp_in (a3 + 4) L) (h5 : vp_in (a3 + 5) L) (h : O_39 (S (a3 + 1).toNatClampNeg) (S (a3 + 2).toNatClampNeg) (S (a3 + 3).toNatClampNeg) (S (a3 + 4).toNatClampNeg) (S (a3 + 5).toNatClampNeg) g = some (true, g')) (k : xKp g g' → xX (d + 60) mL_law 1732 [some (.ref 1000000), some (.ref 0), some (.ref 113), some (.int a3)] [] g' = some r) : xX (d + 60) mL_law 1663 [some (.ref 1000000), some (.ref 0), some (.ref 113), some (.int a3)] [] g = some r := by
  unfold O_39 at h
  have k0 := xKp.refl W
  refine xbE2 h fun v1 g1 e1 h => ?_
  have y1 := e_X11_image (d := d + 57) k0.1 e1
  have k1 := y1.2
  have hs1 := (congrFun k1.2.1 1000000).trans hs
  have hv1 := k1.2.2.1.trans hv
  refine xbE2 h fun v2 g2 e2 h => ?_
  have y2 := e_X12_image (d := d + 58) k1.1 e2
  have k2 := y2.2.kp k1.1 (by decide) (by decide)
  obtain ⟨hq, rfl⟩ := Prod.mk.inj (Option.some.inj h)
  have hq := of_decide_eq_true hq
  exact bL_law_1663 W h1 hs hv y1.1 k1.1 h1 hs1 hv1 y2.1 k2.1 (fun _ => k (k1.tr k2)) (fun n => absurd hq n)
theorem o_40 {d : Nat} {g g' : xSt} {a3 : Int32} {S : Nat → Int32} {L : Nat} {r : Option Value × xSt} (W : xWf g) (hs : xH g 1000000 = .inl (.int, L)) (hv : xI g 1000000 = S) (h1 : vp_in (a3 + 1) L) (h2 : vp_in (a3 + 2) L) (h3 : vp_in (a3 + 3) L) (h4 : vp_in (a3 + 4) L) (h5 : vp_in (a3 + 5) L) (h : O_40 (S (a3 + 1).toNatClampNeg) (S (a3 + 2).toNatClampNeg) (S (a3 + 3).toNatClampNeg) (S (a3 + 4).toNatClampNeg) (S (a3 + 5).toNatClampNeg) g = some (true, g')) (k : xKp g g' → xX (d + 60) mL_law 1732 [some (.ref 1000000), some (.ref 0), some (.ref 113), some (.int a3)] [] g' = some r) : xX (d + 60) mL_law 1686 [some (.ref 1000000), some (.ref 0), some (.ref 113), some (.int a3)] [] g = some r := by
  unfold O_40 at h
  have k0 := xKp.refl W
  refine xbE2 h fun v1 g1 e1 h => ?_
  have y1 := e_X11_back (d := d + 57) k0.1 e1
  have k1 := y1.2
  have hs1 := (congrFun k1.2.1 1000000).trans hs
  have hv1 := k1.2.2.1.trans hv
  refine xbE2 h fun v2 g2 e2 h => ?_
  have y2 := e_X12_back (d := d + 58) k1.1 e2
  have k2 := y2.2.kp k1.1 (by decide) (by decide)
  obtain ⟨hq, rfl⟩ := Prod.mk.inj (Option.some.inj h)
  have hq := of_decide_eq_true hq
  exact bL_law_1686 W h1 hs hv y1.1 k1.1 h1 hs1 hv1 y2.1 k2.1 (fun _ => k (k1.tr k2)) (fun n => absurd hq n)
theorem o_41 {d : Nat} {g g' : xSt} {a3 : Int32} {S : Nat → Int32} {L : Nat} {r : Option Value × xSt} (W : xWf g) (hs : xH g 1000000 = .inl (.int, L)) (hv : xI g 1000000 = S) (h1 : vp_in (a3 + 1) L) (h2 : vp_in (a3 + 2) L) (h3 : vp_in (a3 + 3) L) (h4 : vp_in (a3 + 4) L) (h5 : vp_in (a3 + 5) L) (h : O_41 (S (a3 + 1).toNatClampNeg) (S (a3 + 2).toNatClampNeg) (S (a3 + 3).toNatClampNeg) (S (a3 + 4).toNatClampNeg) (S (a3 + 5).toNatClampNeg) g = some (true, g')) (k : xKp g g' → xX (d + 60) mL_law 1732 [some (.ref 1000000), some (.ref 0), some (.ref 113), some (.int a3)] [] g' = some r) : xX (d + 60) mL_law 1709 [some (.ref 1000000), some (.ref 0), some (.ref 113), some (.int a3)] [] g = some r := by
  unfold O_41 at h
  have k0 := xKp.refl W
  refine xbE1 h fun v1 e1 h => ?_
  have y1 := e_X11_about (d := d + 59) k0.1 e1
  have k1 := xKp.refl k0.1
  have hs1 := (congrFun k1.2.1 1000000).trans hs
  have hv1 := k1.2.2.1.trans hv
  refine xbE1 h fun v2 e2 h => ?_
  have y2 := e_X12_about (d := d + 58) k1.1 e2
  have k2 := xKp.refl k1.1
  obtain ⟨hq, rfl⟩ := Prod.mk.inj (Option.some.inj h)
  have hq := of_decide_eq_true hq
  exact bL_law_1709 W h1 hs hv y1 k1.1 h1 hs1 hv1 y2 k2.1 (fun _ => k (k1.tr k2)) (fun n => absurd hq n)
