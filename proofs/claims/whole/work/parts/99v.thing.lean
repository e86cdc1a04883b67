/-! STREET: a thing's line -/
section LH
variable {gC gR gC' gR' g g' g1 : xSt} {t b n w u s r p k m o i q f pl : Nat} {bt : Nat → Nat} {v : Int32} {z : Int64}
/-- the class's rest of the line -/
noncomputable def zTh1 (t : Nat) (nm : Int64) (x : Int32) (g : xSt) : Option xSt := xb1 (E_X6_takeSign 59 g) fun g53_6 => if (xI g53_6 20 10) = 0 then (xb1 (E_X10_addThing t nm x g53_6) fun g69_8 => some g69_8) else some g53_6
noncomputable def zTh2 (t : Nat) (nm : Int64) (g : xSt) : Option xSt := xb2 (E_X6_takeNumber 1 999 g) fun x g => zTh1 t nm x g
noncomputable def zTh3 (t : Nat) (nm : Int64) (g : xSt) : Option xSt := xb1 (E_X6_takeOwn 1 g) fun g => zTh2 t nm g
theorem k_thing (h : E_X6_advance g = some g1) {x : Int32} (hx : E_X10_thingOf t (xL g1 20 8) g1 = some x) {nm : Int64} (hn : E_X6_takeNewName x g1 = some (nm, g')) : K_X6_readThing_16 t g = zTh3 t nm g' := by
  unfold K_X6_readThing_16
  rw [h, xb1_some, hx, xb1_some, hn, xb2_some]
  rfl
theorem f_th1 (hC : zTxC g m bt) (h : zFC g m f pl) (nm : Int64) (x : Int32) : ∃ g', zTh1 t nm x g = some g' ∧ zC0 g g' ∧ zFC g' m f pl := by
  obtain ⟨g1, a1, a2, a3⟩ := f_sign hC h 59
  refine ⟨g1, ?_, a2, a3⟩
  unfold zTh1
  rw [a1, xb1_some, a3.2.2.1, if_neg (nI_nz a3.1 (by have := a3.2.1; omega))]
theorem f_th2 (hC : zTxC g m bt) (h : zFC g m f pl) (nm : Int64) : ∃ g', zTh2 t nm g = some g' ∧ zC0 g g' ∧ zFC g' m f pl := by
  obtain ⟨x, g1, a1, a2, a3⟩ := f_number hC h 1 999
  obtain ⟨g2, b1, b2, b3⟩ := f_th1 (t := t) (hC.c0 a2) a3 nm x
  refine ⟨g2, ?_, a2.tr b2, b3⟩
  unfold zTh2
  rw [a1, xb2_some, b1]
theorem f_th3 (hC : zTxC g m bt) (h : zFC g m f pl) (nm : Int64) : ∃ g', zTh3 t nm g = some g' ∧ zC0 g g' ∧ zFC g' m f pl := by
  obtain ⟨g1, a1, a2, a3⟩ := f_own hC h 1
  obtain ⟨g2, b1, b2, b3⟩ := f_th2 (t := t) (hC.c0 a2) a3 nm
  refine ⟨g2, ?_, a2.tr b2, b3⟩
  unfold zTh3
  rw [a1, xb1_some, b1]
theorem f_line (ht : t = 2 ∨ t = 11) (hn : n ≤ 5) (h0 : xI g t 0 = nI n) (hC : zTxC g m bt) (h : zFC g m f pl) : ∃ g', K_X6_readThing_16 t g = some g' ∧ zCb t g g' ∧ zFC g' m f pl := by
  obtain ⟨g1, a1, a2, a3⟩ := f_adv hC h
  obtain ⟨j, hj⟩ := zIst_ex (fun i => xL g1 (t + 1) i = xL g1 20 8) n
  obtain ⟨nm, g2, b1, b2, b3⟩ := f_new (hC.c0 a2) a3 (if j < n then nI j else -1)
  obtain ⟨g3, c1, c2, c3⟩ := f_th3 (t := t) (hC.c0 (a2.tr b2)) b3 nm
  exact ⟨g3, by rw [k_thing a1 (c_thingOf ((a2.at (by omega)).1.trans h0) hn hj) b1, c1], ((a2.tr b2).tr c2).cb, c3⟩
/-- the reference's thing, behind its name -/
theorem r_th31 (hb : b ≤ 1) (h31 : xI g 113 31 = nI b) (hn : n < 5) (h0 : xI g 116 b = nI n) (hg : F_X12_isGood g = 1) {g1 g2 g3 : xSt} {y : Int32} (e1 : E_X12_goOn (xWL g 124 (5 * b + n) (xL g 113 10)) = some g1) (e2 : E_X12_must (F_X12_isWord g1 131277443786867) g1 = some g2) (e3 : E_X12_numeral 1 999 g2 = some (y, g3)) (h31' : xI g3 113 31 = nI b) (h0' : xI g3 116 b = nI n) : K_X12_readThing_31 g = some (xWI (xWI g3 120 (5 * b + n) y) 116 b (nI (n + 1))) := by
  unfold K_X12_readThing_31
  rw [hg, if_neg (by decide), h31, xck_nI (by omega) (by decide), nI_clamp (by omega), h0, show (5 * nI b) + nI n = nI (5 * b + n) from nI_b5 5 b n, xck_nI (by omega) (by decide), nI_clamp (by omega), e1, xb1_some, e2, xb1_some, e3, xb2_some, xck_nI (by omega) (by decide), h31', xck_nI (by omega) (by decide), xck_nI (by omega) (by decide), nI_clamp (by omega)]
  rw [h0', nI_1]
theorem k31F (h : zFR g m f pl) : K_X12_readThing_31 g = some g := by
  unfold K_X12_readThing_31
  rw [f_good h, if_pos rfl]
theorem j_line0 (ht : t = 2 ∨ t = 11) (hb : b ≤ 1) (h31 : xI gR 113 31 = nI b) (hC : zTxC gC m bt) (hR : zTxR gR m bt) (h : zGo2 gC gR m bt) (h8 : xI gR 113 8 = 3) (hw : xL gR 113 10 = zOwn 0) (T : zTbl gC gR t b n r p k) (hr : xI gR 123 b = nI (if r = 0 then 0 else 1)) (Wy : zWays gC gR t b k) : ∃ gC' gR', E_X6_readThing t gC = some gC' ∧ E_X12_readLine gR = some gR' ∧ zCb t gC gC' ∧ zRk b gR gR' ∧ zLn gC gC' gR' m bt t b := by
  obtain ⟨Tn, Tw, Tr, Tp, T2⟩ := T
  have o1 : ∀ x : Nat, x ≤ 1 → nI x = 0 ∨ nI x = 1 := by decide
  have full : E_X12_isFull gR = some (if xI gR 116 b = 5 then 1 else 0) := by
    obtain ⟨w, u, s, w1, w2, w3, w4, w5, w6, w7, w8, w9⟩ := Tw
    exact r_fullJ hb h31 h8 (j := 0) (by decide) hw (by rw [w5]; exact o1 w w1) (by rw [w7]; exact o1 u w2)
  have n5 := Tn.1
  have rl := r_line h8 full
  rw [hw, Tn.2.2.1] at rl
  by_cases c : n = 5
  · subst c
    rw [if_neg (show ¬ (if nI 5 = 5 then (1 : Int32) else 0) = 0 by decide)] at rl
    obtain ⟨gC2, gR2, b1, b2⟩ := j_full (t := t) (b := b) (K := K_X6_readThing_16 t) h hC (fun g f pl y0 y1 => f_line (n := 5) ht n5 ((y0.at (by omega)).1.trans Tn.2.1) (hC.c0 y0) y1) rl
    refine ⟨gC2, gR2, ?_, b2⟩
    unfold E_X6_readThing
    rw [Tn.2.1, if_neg (show ¬ nI 5 < 5 by decide), b1]
  · have n4 : n < 5 := by omega
    have ne5 : ¬ nI n = 5 := fun x => c ((nI_eq (by omega) (by decide)).mp (show nI n = nI 5 from x))
    rw [if_pos (show (if nI n = 5 then (1 : Int32) else 0) = 0 from if_neg ne5)] at rl
    obtain ⟨gC1, gR1, a1, a2, a3, a4, a5⟩ := j_adv hC hR h
    have h31' := a4.rk.b31 (b := b) h31
    have hC1 := hC.c0 a3
    have hR1 := hR.r0 a4
    have Tn1 : zVn gC1 gR1 t b n := Tn.cg (fun o k z => a3.at (by omega)) (fun o k z => a4.at (by omega))
    have kc : E_X6_readThing t gC = K_X6_readThing_16 t gC := by
      unfold E_X6_readThing
      rw [Tn.2.1, if_pos (show nI n < 5 from (nI_ltI (b := 5) (by omega) (by decide)).mpr n4)]
    obtain ⟨jR, hjR⟩ := zIst_ex (fun i => xL gR1 124 (5 * b + i) = xL gR1 113 10) n
    have th := r_thingHere hb h31' n5 Tn1.2.2.1 hjR
    by_cases k2 : xI gR1 113 8 = 2
    · have wd : xL gC1 20 8 = xL gR1 113 10 := by
        rcases a5.2.2.name with ⟨_, _, x, _⟩ | ⟨_, x⟩
        · exact x
        · exact (x k2).elim
      have hjC : zIst (fun i => xL gC1 (t + 1) i = xL gC1 20 8) n jR := hjR.eq fun i hi => by rw [(Tn1.2.2.2 i hi).1, wd]
      have co := c_thingOf Tn1.2.1 n5 hjC
      by_cases jn : jR < n
      · rw [if_pos jn] at co
        rw [if_pos (show xI gR1 113 8 = 2 ∧ jR < n from ⟨k2, jn⟩)] at th
        obtain ⟨gC2, gR2, y1, y2, cs⟩ := j_new (a := nI jR) hC1 hR1 a5
        rcases cs with ⟨x, _⟩ | ⟨_, _, ⟨nm, e1⟩, e2, fd, pl, d1, d2, d3⟩ | ⟨_, x, _⟩
        · exact (x k2).elim
        · have rt : E_X12_readThing gR1 = some gR2 := by
            unfold E_X12_readThing
            rw [if_pos k2, th, xb1_some, if_neg (show ¬ nI jR < 0 from fun x => by have := (nI_ltI (a := jR) (b := 0) (by omega) (by decide)).mp x; omega), e2, xb1_some, k31F d3]
          obtain ⟨gC3, c1, c2, c3⟩ := f_th3 (t := t) (hC1.c0 y1) d2 nm
          exact ⟨gC3, gR2, by rw [kc, k_thing a1 co e1, c1], by rw [rl, r_ln0 (g_good h) a2 rt, f_endR (hR1.r0 y2) d3], ((a3.tr y1).tr c2).cb, (a4.tr y2).rk, Or.inr ⟨fd, pl, d1, c3, d3⟩⟩
        · exact (nI_m1 (by omega) x).elim
      · rw [if_neg jn] at co
        rw [if_neg (show ¬ (xI gR1 113 8 = 2 ∧ jR < n) from fun x => jn x.2)] at th
        have yW : zRk b gR1 (xWL gR1 124 (5 * b + n) (xL gR1 113 10)) := zRk.refl.wl (Or.inl rfl)
        have g2 : zGo2 gC1 (xWL gR1 124 (5 * b + n) (xL gR1 113 10)) m bt := a5.cg (fun _ => rfl) rfl (fun _ _ _ => rfl) (by rw [yL_wl, if_neg (by omega)])
        obtain ⟨gC2, gR2, y1, y2, cs⟩ := j_new (a := -1) hC1 (hR1.rk yW) g2
        rcases cs with ⟨x, _⟩ | ⟨_, x, _⟩ | ⟨_, _, _, e1, e2, go⟩
        · exact (x k2).elim
        · exact (x rfl).elim
        · have hC2 := hC1.c0 y1
          have hR2 := (hR1.rk yW).r0 y2
          obtain ⟨gC3, gR3, o1, o2, o3, o4, o5⟩ := j_own hC2 hR2 go (j := 1) (by decide)
          have o1 : E_X6_takeOwn 1 gC2 = some gC3 := o1
          have o2 : E_X12_must (F_X12_isWord gR2 131277443786867) gR2 = some gR3 := o2
          have rt : ∀ {y gR4}, E_X12_numeral 1 999 gR3 = some (y, gR4) → zRk b gR3 gR4 → xI gR4 116 b = nI n → E_X12_readThing gR1 = some (xWI (xWI gR4 120 (5 * b + n) y) 116 b (nI (n + 1))) := fun {y gR4} e y4 h4 => by
            unfold E_X12_readThing
            rw [if_pos k2, th, xb1_some, if_pos (by decide), r_th31 hb h31' n4 Tn1.2.2.1 (g_good a5) e2 o2 e (y4.b31 (o4.rk.b31 (y2.rk.b31 (yW.b31 h31')))) h4]
          have q3 : xI gR3 116 b = nI n := by rw [(o4.at (by omega)).1, (y2.at (by omega)).1]; exact Tn1.2.2.1
          have kd : ∀ {gC'}, zTh2 t (xL gC1 20 8) gC3 = some gC' → E_X6_readThing t gC = some gC' := fun {gC'} e => by
            rw [kc, k_thing a1 co e1]
            unfold zTh3
            rw [o1, xb1_some, e]
          have yC3 := (a3.tr y1).tr o3
          have yR3 : zRk b gR gR3 := (a4.rk.tr yW).tr (y2.tr o4).rk
          rcases o5 with go3 | ⟨fd, pl, d1, d2, d3⟩
          · obtain ⟨x, y, gC4, gR4, m1, m2, m3, m4, m5⟩ := j_number (lo := 1) (hi := 999) (hC2.c0 o3) (hR2.r0 o4) go3 (by decide) (by decide)
            have m1 : E_X6_takeNumber 1 999 gC3 = some (x, gC4) := m1
            have m2 : E_X12_numeral 1 999 gR3 = some (y, gR4) := m2
            have rt4 := rt m2 m4.rk ((m4.at (by omega)).1.trans q3)
            have yR4 : zRk b gR (xWI (xWI gR4 120 (5 * b + n) y) 116 b (nI (n + 1))) := ((yR3.tr m4.rk).wi (by unfold dRb; omega)).wi (by unfold dRb; omega)
            have hC4 := (hC2.c0 o3).c0 m3
            rcases m5 with ⟨go4, v, v1, v2, rfl, rfl⟩ | ⟨⟨fd, pl, d1, d2, d3⟩, -⟩
            · obtain ⟨gC5, gR5, c1, c2, c3, c4, c5⟩ := j_end (gR := xWI (xWI gR4 120 (5 * b + n) (nI v)) 116 b (nI (n + 1))) hC4 (hR.rk yR4) (go4.cg (fun _ => rfl) rfl (fun k _ _ => by rw [yI_wi, if_neg (by omega), yI_wi, if_neg (by omega)]) rfl)
              have rd : E_X12_readLine gR = some gR5 := by rw [rl, r_ln0 (g_good h) a2 rt4, c2]
              have yC5 := (yC3.tr m3).tr c3
              rcases c5 with c5 | ⟨fd, pl, d1, d2, d3⟩
              · have u0 : xI gC5 t 0 = nI n := (yC5.at (by omega)).1.trans Tn.2.1
                refine ⟨xWI (xWI (xWL gC5 (t + 1) n (xL gC1 20 8)) (t + 2) n (nI v)) t 0 (nI (n + 1)), gR5, kd ?_, rd, ((yC5.cb.wl (Or.inl rfl)).wi (by unfold dCb; omega)).wi (by unfold dCb; omega), yR4.tr c4.rk, Or.inl ⟨c5.cg (fun k => by rw [yI_wi, if_neg (by omega), yI_wi, if_neg (by omega)]; rfl) (by rw [xL_WI, xL_WI, yL_wl, if_neg (by omega)]) (fun _ _ _ => rfl) rfl, ⟨gC1, a1, (((((y1.tr o3).tr m3).tr c3).cb.wl (Or.inl rfl)).wi (by unfold dCb; omega)).wi (by unfold dCb; omega)⟩, n + 1, r, p, k, ?_⟩⟩
                · unfold zTh2 zTh1 E_X10_addThing
                  rw [m1, xb2_some, c1, xb1_some, if_pos c5.1, u0, xputL_nI n4 (by decide)]
                  show some (xWI (xput (xWL gC5 (t + 1) n (xL gC1 20 8)) (t + 2) 5 (xI gC5 t 0) (nI v)) t 0 ((xI (xput (xWL gC5 (t + 1) n (xL gC1 20 8)) (t + 2) 5 (xI gC5 t 0) (nI v)) t 0) + 1)) = _
                  rw [u0, xput_nI n4 (by decide), yI_wi, if_neg (by omega), xI_WL, u0, nI_1]
                · have cI : ∀ o k, o ≤ 19 → xI (xWI (xWI (xWL gC5 (t + 1) n (xL gC1 20 8)) (t + 2) n (nI v)) t 0 (nI (n + 1))) o k = if o = t ∧ k = 0 then nI (n + 1) else if o = t + 2 ∧ k = n then nI v else xI gC o k := fun o k ho => by rw [yI_wi, yI_wi, xI_WL, (yC5.at (by omega)).1]
                  have cL : ∀ o k, o ≤ 19 → xL (xWI (xWI (xWL gC5 (t + 1) n (xL gC1 20 8)) (t + 2) n (nI v)) t 0 (nI (n + 1))) o k = if o = t + 1 ∧ k = n then xL gC1 20 8 else xL gC o k := fun o k ho => by rw [xL_WI, xL_WI, yL_wl, (yC5.at (by omega)).2]
                  have rI : ∀ o k, 116 ≤ o → xI gR5 o k = if o = 116 ∧ k = b then nI (n + 1) else if o = 120 ∧ k = 5 * b + n then nI v else xI gR o k := fun o k ho => by rw [(c4.at (by omega)).1, yI_wi, yI_wi, (m4.at (by omega)).1, (o4.at (by omega)).1, (y2.at (by omega)).1, xI_WL, (a4.at (by omega)).1]
                  have rL : ∀ o k, 116 ≤ o → xL gR5 o k = if o = 124 ∧ k = 5 * b + n then xL gR1 113 10 else xL gR o k := fun o k ho => by rw [(c4.at (by omega)).2, xL_WI, xL_WI, (m4.at (by omega)).2, (o4.at (by omega)).2, (y2.at (by omega)).2, yL_wl, (a4.at (o := o) (k := k) (by omega)).2]
                  have eC : ∀ o k, o ≤ 19 → ¬ (o = t ∧ k = 0) → o ≠ t + 1 → o ≠ t + 2 → xI (xWI (xWI (xWL gC5 (t + 1) n (xL gC1 20 8)) (t + 2) n (nI v)) t 0 (nI (n + 1))) o k = xI gC o k ∧ xL (xWI (xWI (xWL gC5 (t + 1) n (xL gC1 20 8)) (t + 2) n (nI v)) t 0 (nI (n + 1))) o k = xL gC o k := fun o k h1 h2 h3 h4 => ⟨by rw [cI o k h1, if_neg h2, if_neg (by omega)], by rw [cL o k h1, if_neg (by omega)]⟩
                  have eR : ∀ o k, 116 ≤ o → ¬ (o = 116 ∧ k = b) → o ≠ 120 → o ≠ 124 → xI gR5 o k = xI gR o k ∧ xL gR5 o k = xL gR o k := fun o k h1 h2 h3 h4 => ⟨by rw [rI o k h1, if_neg h2, if_neg (by omega)], by rw [rL o k h1, if_neg (by omega)]⟩
                  refine ⟨⟨⟨n4, by rw [cI _ _ (by omega), if_pos ⟨rfl, rfl⟩], by rw [rI _ _ (by omega), if_pos ⟨rfl, rfl⟩], fun i hi => ?_⟩, Tw.cg (fun k z => (eC t k (by omega) (by omega) (by omega) (by omega)).1) (fun o z => (eR o b (by omega) (by omega) (by omega) (by omega)).1), (Tr.cg (fun o k z => (eC o k (by omega) (by omega) (by omega) (by omega)).1) (fun o k z => (eR o k (by omega) (by omega) (by omega) (by omega)).1)).up, Tp.cg (fun o k z => eC o k (by omega) (by omega) (by omega) (by omega)) (fun o k z => eR o k (by omega) (by omega) (by omega) (by omega)), (T2.cg (fun o k z => (eC o k (by omega) (by omega) (by omega) (by omega)).1) (fun o k z => (eR o k (by omega) (by omega) (by omega) (by omega)).1)).up⟩, (eR 123 b (by omega) (by omega) (by omega) (by omega)).1.trans hr, Wy.cg (fun k => (eC (t + 8) k (by omega) (by omega) (by omega) (by omega)).1) (fun k => (eR 131 k (by omega) (by omega) (by omega) (by omega)).1)⟩
                  by_cases d : i = n
                  · subst d
                    refine ⟨by rw [cL _ _ (by omega), if_pos ⟨rfl, rfl⟩, rL _ _ (by omega), if_pos ⟨rfl, rfl⟩, wd], v, v1, v2, ?_, ?_⟩
                    · rw [cI _ _ (by omega), if_neg (by omega), if_pos ⟨rfl, rfl⟩]
                    · rw [rI _ _ (by omega), if_neg (by omega), if_pos ⟨rfl, rfl⟩]
                  · obtain ⟨x1, v', x2, x3, x4, x5⟩ := Tn.2.2.2 i (by omega)
                    refine ⟨by rw [cL _ _ (by omega), if_neg (by omega), rL _ _ (by omega), if_neg (by omega), x1], v', x2, x3, ?_, ?_⟩
                    · rw [cI _ _ (by omega), if_neg (by omega), if_neg (by omega), x4]
                    · rw [rI _ _ (by omega), if_neg (by omega), if_neg (by omega), x5]
              · refine ⟨gC5, gR5, kd ?_, rd, yC5.cb, yR4.tr c4.rk, Or.inr ⟨fd, pl, d1, d2, d3⟩⟩
                unfold zTh2 zTh1
                rw [m1, xb2_some, c1, xb1_some, d2.2.2.1, if_neg (nI_nz d2.1 (by have := d2.2.1; omega))]
            · have d3' : zFR (xWI (xWI gR4 120 (5 * b + n) y) 116 b (nI (n + 1))) m fd pl := d3.cg fun k _ _ => by rw [yI_wi, if_neg (by omega), yI_wi, if_neg (by omega)]
              obtain ⟨gC5, c1, c2, c3⟩ := f_th1 (t := t) hC4 d2 (xL gC1 20 8) x
              refine ⟨gC5, _, kd ?_, by rw [rl, r_ln0 (g_good h) a2 rt4, f_endR (hR.rk yR4) d3'], ((yC3.tr m3).tr c2).cb, yR4, Or.inr ⟨fd, pl, d1, c3, d3'⟩⟩
              unfold zTh2
              rw [m1, xb2_some, c1]
          · have m2 : E_X12_numeral 1 999 gR3 = some (1, gR3) := f_numeral d3 1 999
            have rt4 := rt m2 zRk.refl q3
            have yR4 : zRk b gR (xWI (xWI gR3 120 (5 * b + n) 1) 116 b (nI (n + 1))) := (yR3.wi (by unfold dRb; omega)).wi (by unfold dRb; omega)
            have d3' : zFR (xWI (xWI gR3 120 (5 * b + n) 1) 116 b (nI (n + 1))) m fd pl := d3.cg fun k _ _ => by rw [yI_wi, if_neg (by omega), yI_wi, if_neg (by omega)]
            obtain ⟨gC5, c1, c2, c3⟩ := f_th2 (t := t) (hC2.c0 o3) d2 (xL gC1 20 8)
            exact ⟨gC5, _, kd c1, by rw [rl, r_ln0 (g_good h) a2 rt4, f_endR (hR.rk yR4) d3'], (yC3.tr c2).cb, yR4, Or.inr ⟨fd, pl, d1, c3, d3'⟩⟩
    · obtain ⟨jC, hjC⟩ := zIst_ex (fun i => xL gC1 (t + 1) i = xL gC1 20 8) n
      have co := c_thingOf Tn1.2.1 n5 hjC
      obtain ⟨gC2, gR2, y1, y2, cs⟩ := j_new (a := if jC < n then nI jC else -1) hC1 hR1 a5
      rcases cs with ⟨_, ⟨nm, e1⟩, e2, fd, pl, d1, d2, d3⟩ | ⟨x, _⟩ | ⟨x, _⟩
      · have rt : E_X12_readThing gR1 = some gR2 := by
          unfold E_X12_readThing
          rw [if_neg k2, e2, xb1_some, k31F d3]
        obtain ⟨gC3, c1, c2, c3⟩ := f_th3 (t := t) (hC1.c0 y1) d2 nm
        exact ⟨gC3, gR2, by rw [kc, k_thing a1 co e1, c1], by rw [rl, r_ln0 (g_good h) a2 rt, f_endR (hR1.r0 y2) d3], ((a3.tr y1).tr c2).cb, (a4.tr y2).rk, Or.inr ⟨fd, pl, d1, c3, d3⟩⟩
      · exact (k2 x).elim
      · exact (k2 x).elim
end LH
