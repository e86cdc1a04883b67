/-! STREET: a plan's line -/
section LV
variable {gC gR gC' gR' g g' g1 : xSt} {t b n w u s r p k m o i q f pl : Nat} {bt : Nat → Nat} {v x y : Int32} {z : Int64}
noncomputable def zPl1 (t : Nat) (nm : Int64) (x : Int32) (g : xSt) : Option xSt := xb1 (E_X6_takeSign 59 g) fun g45_5 => if (xI g45_5 20 10) = 0 then (xb1 (E_X10_addPlan t nm x g45_5) fun g61_7 => some g61_7) else some g45_5
theorem k_plan (h : E_X6_advance g = some g1) {a : Int32} (hx : E_X10_planOf t (xL g1 20 8) g1 = some a) {nm : Int64} (hn : E_X6_takeNewName a g1 = some (nm, g')) {g2 : xSt} (hp : R_X6_readPart 13 t 0 g' = some (x, g2)) : K_X6_readPlan_16 t g = zPl1 t nm x g2 := by
  unfold K_X6_readPlan_16
  rw [h, xb1_some, hx, xb1_some, hn, xb2_some, hp, xb2_some]
  rfl
theorem f_pl1 (hC : zTxC g m bt) (h : zFC g m f pl) (nm : Int64) (x : Int32) : ∃ g', zPl1 t nm x g = some g' ∧ zC0 g g' ∧ zFC g' m f pl := by
  obtain ⟨g1, a1, a2, a3⟩ := f_sign hC h 59
  refine ⟨g1, ?_, a2, a3⟩
  unfold zPl1
  rw [a1, xb1_some, a3.2.2.1, if_neg (nI_nz a3.1 (by have := a3.2.1; omega))]
theorem f_plan (ht : t = 2 ∨ t = 11) (hp : p ≤ 3) (h0 : xI g t 8 = nI p) (hC : zTxC g m bt) (h : zFC g m f pl) : ∃ g', K_X6_readPlan_16 t g = some g' ∧ zCb t g g' ∧ zFC g' m f pl := by
  obtain ⟨g1, a1, a2, a3⟩ := f_adv hC h
  obtain ⟨j, hj⟩ := zIst_ex (fun i => xL g1 (t + 4) i = xL g1 20 8) p
  obtain ⟨nm, g2, b1, b2, b3⟩ := f_new (hC.c0 a2) a3 (if j < p then nI j else -1)
  obtain ⟨g3, c1, c2, c3⟩ := f_pl1 (t := t) (hC.c0 (a2.tr b2)) b3 nm (-1)
  exact ⟨g3, by rw [k_plan a1 (c_planOf ((a2.at (by omega)).1.trans h0) hp hj) b1 (f_part 12 0 b3), c1], ((a2.tr b2).tr c2).cb, c3⟩
theorem kp31F (h : zFR g m f pl) : K_X12_readPlan_31 g = some g := by
  unfold K_X12_readPlan_31
  rw [f_good h, if_pos rfl]
theorem r_s80E (hg : F_X12_isGood g = 1) (h29 : xI g 113 29 = nI 0) (a : Int32) : xlim (S_X12_readPlan_80 a) (y, g) = some (y, g) := by
  refine xlim_end ?_
  unfold S_X12_readPlan_80
  simp only [hg, h29]
  rw [if_neg (by decide), if_pos (by decide)]
theorem r_pl31 (hb : b ≤ 1) (h31 : xI g 113 31 = nI b) (hp : p < 3) (h0 : xI g 126 b = nI p) (hg : F_X12_isGood g = 1) {g1 g2 : xSt} {s0 : Int32 × xSt} (e1 : E_X12_goOn (xWL g 125 (3 * b + p) (xL g 113 10)) = some g1) (e2 : E_X12_readP (xWI g1 113 29 0) = some s0) (e3 : ∀ a, xlim (S_X12_readPlan_80 a) s0 = some (y, g2)) (h31' : xI g2 113 31 = nI b) : K_X12_readPlan_31 g = some (xWI (xWI g2 128 (3 * b + p) y) 126 b ((xI g2 126 b) + 1)) := by
  unfold K_X12_readPlan_31
  rw [hg, if_neg (by decide), h31, xck_nI (by omega) (by decide), nI_clamp (by omega), h0, show (3 * nI b) + nI p = nI (3 * b + p) from nI_b5 3 b p, xck_nI (by omega) (by decide), nI_clamp (by omega), e1, xb1_some, e2]
  show xb1 (xlim (S_X12_readPlan_80 (nI (3 * b + p))) s0) (fun e_6 => K_X12_readPlan_103 (nI (3 * b + p)) e_6.1 e_6.2) = _
  rw [e3, xb1_some]
  unfold K_X12_readPlan_103
  rw [xck_nI (by omega) (by decide), h31', xck_nI (by omega) (by decide), xck_nI (by omega) (by decide), nI_clamp (by omega), nI_clamp (by omega)]
theorem j_line5 (ht : t = 2 ∨ t = 11) (hb : b ≤ 1) (h31 : xI gR 113 31 = nI b) (hC : zTxC gC m bt) (hR : zTxR gR m bt) (h : zGo2 gC gR m bt) (h8 : xI gR 113 8 = 3) (hw : xL gR 113 10 = zOwn 5) (T : zTbl gC gR t b n r p k) (hr : xI gR 123 b = nI (if r = 0 then 0 else 1)) (Wy : zWays gC gR t b k) : ∃ gC' gR', E_X6_readPlan t gC = some gC' ∧ E_X12_readLine gR = some gR' ∧ zCb t gC gC' ∧ zRk b gR gR' ∧ zLn gC gC' gR' m bt t b := by
  obtain ⟨Tn, Tw, Tr, Tp, T2⟩ := T
  have o1 : ∀ x : Nat, x ≤ 1 → nI x = 0 ∨ nI x = 1 := by decide
  have full : E_X12_isFull gR = some (if xI gR 126 b = 3 then 1 else 0) := by
    obtain ⟨w, u, s, w1, w2, w3, w4, w5, w6, w7, w8, w9⟩ := Tw
    exact r_fullJ hb h31 h8 (j := 5) (by decide) hw (by rw [w5]; exact o1 w w1) (by rw [w7]; exact o1 u w2)
  have p3 := Tp.1
  have rl := r_line h8 full
  rw [hw, Tp.2.2.1] at rl
  by_cases c : p = 3
  · subst c
    rw [if_neg (show ¬ (if nI 3 = 3 then (1 : Int32) else 0) = 0 by decide)] at rl
    obtain ⟨gC2, gR2, b1, b2⟩ := j_full (t := t) (b := b) (K := K_X6_readPlan_16 t) h hC (fun g f pl y0 y1 => f_plan (p := 3) ht p3 ((y0.at (by omega)).1.trans Tp.2.1) (hC.c0 y0) y1) rl
    refine ⟨gC2, gR2, ?_, b2⟩
    unfold E_X6_readPlan
    rw [Tp.2.1, if_neg (show ¬ nI 3 < 3 by decide), b1]
  · have n4 : p < 3 := by omega
    have ne5 : ¬ nI p = 3 := fun x => c ((nI_eq (by omega) (by decide)).mp (show nI p = nI 3 from x))
    rw [if_pos (show (if nI p = 3 then (1 : Int32) else 0) = 0 from if_neg ne5)] at rl
    obtain ⟨gC1, gR1, a1, a2, a3, a4, a5⟩ := j_adv hC hR h
    have h31' := a4.rk.b31 (b := b) h31
    have hC1 := hC.c0 a3
    have hR1 := hR.r0 a4
    have Tp1 : zVp gC1 gR1 t b p k := Tp.cg (fun o k z => a3.at (by omega)) (fun o k z => a4.at (by omega))
    have kc : E_X6_readPlan t gC = K_X6_readPlan_16 t gC := by
      unfold E_X6_readPlan
      rw [Tp.2.1, if_pos (show nI p < 3 from (nI_ltI (b := 3) (by omega) (by decide)).mpr n4)]
    obtain ⟨jR, hjR⟩ := zIst_ex (fun i => xL gR1 125 (3 * b + i) = xL gR1 113 10) p
    have th := r_planHere hb h31' p3 Tp1.2.2.1 hjR
    by_cases k2 : xI gR1 113 8 = 2
    · have wd : xL gC1 20 8 = xL gR1 113 10 := by
        rcases a5.2.2.name with ⟨_, _, x, _⟩ | ⟨_, x⟩
        · exact x
        · exact (x k2).elim
      have hjC : zIst (fun i => xL gC1 (t + 4) i = xL gC1 20 8) p jR := hjR.eq fun i hi => by rw [(Tp1.2.2.2 i hi).1, wd]
      have co := c_planOf Tp1.2.1 p3 hjC
      by_cases jn : jR < p
      · rw [if_pos jn] at co
        rw [if_pos (show xI gR1 113 8 = 2 ∧ jR < p from ⟨k2, jn⟩)] at th
        obtain ⟨gC2, gR2, y1, y2, cs⟩ := j_new (a := nI jR) hC1 hR1 a5
        rcases cs with ⟨x, _⟩ | ⟨_, _, ⟨nm, e1⟩, e2, fd, pl, d1, d2, d3⟩ | ⟨_, x, _⟩
        · exact (x k2).elim
        · have rt : E_X12_readPlan gR1 = some gR2 := by
            unfold E_X12_readPlan
            rw [if_pos k2, th, xb1_some, if_neg (show ¬ nI jR < 0 from fun x => by have := (nI_ltI (a := jR) (b := 0) (by omega) (by decide)).mp x; omega), e2, xb1_some, kp31F d3]
          obtain ⟨gC3, c1, c2, c3⟩ := f_pl1 (t := t) (hC1.c0 y1) d2 nm (-1)
          exact ⟨gC3, gR2, by rw [kc, k_plan a1 co e1 (f_part 12 0 d2), c1], by rw [rl, r_ln5 (g_good h) a2 rt, f_endR (hR1.r0 y2) d3], ((a3.tr y1).tr c2).cb, (a4.tr y2).rk, Or.inr ⟨fd, pl, d1, c3, d3⟩⟩
        · exact (nI_m1 (by omega) x).elim
      · rw [if_neg jn] at co
        rw [if_neg (show ¬ (xI gR1 113 8 = 2 ∧ jR < p) from fun x => jn x.2)] at th
        have yW : zRk b gR1 (xWL gR1 125 (3 * b + p) (xL gR1 113 10)) := zRk.refl.wl (Or.inr rfl)
        have g2 : zGo2 gC1 (xWL gR1 125 (3 * b + p) (xL gR1 113 10)) m bt := a5.cg (fun _ => rfl) rfl (fun _ _ _ => rfl) (by rw [yL_wl, if_neg (by omega)])
        obtain ⟨gC2, gR2, y1, y2, cs⟩ := j_new (a := -1) hC1 (hR1.rk yW) g2
        rcases cs with ⟨x, _⟩ | ⟨_, x, _⟩ | ⟨_, _, _, e1, e2, go⟩
        · exact (x k2).elim
        · exact (x rfl).elim
        · have hC2 := hC1.c0 y1
          have yR2 : zRk b gR (xWI gR2 113 29 0) := ((a4.rk.tr yW).tr y2.rk).wi (by unfold dRb; omega)
          have yC2 := a3.tr y1
          have rI : ∀ o q, 116 ≤ o → xI (xWI gR2 113 29 0) o q = xI gR o q := fun o q ho => by rw [yI_wi, if_neg (by omega), (y2.at (by omega)).1, xI_WL, (a4.at (by omega)).1]
          have rL : ∀ o q, 116 ≤ o → xL (xWI gR2 113 29 0) o q = if o = 125 ∧ q = 3 * b + p then xL gR1 113 10 else xL gR o q := fun o q ho => by rw [xL_WI, (y2.at (by omega)).2, yL_wl, (a4.at (o := o) (k := q) (by omega)).2]
          obtain ⟨x, gC3, s0, y, gR3, m1, m2, m3, m4, m5, m6⟩ := j_part (m := m) (bt := bt) (n := n) ht hb 11 0 (by decide) gC2 (xWI gR2 113 29 0) k (yR2.b31 h31) hC2 (hR.rk yR2) (go.cg (fun _ => rfl) rfl (fun q _ _ => by rw [yI_wi, if_neg (by omega)]) rfl) (Tn.cg (fun o k z => yC2.at (by omega)) (fun o q z => ⟨rI o q (by omega), by rw [rL o q (by omega), if_neg (by omega)]⟩)) (T2.cg (fun o k z => (yC2.at (by omega)).1) (fun o q z => rI o q (by omega))) (by rw [yI_wi, if_pos ⟨rfl, rfl⟩]; rfl)
          have m1 : R_X6_readPart 13 t 0 gC2 = some (x, gC3) := m1
          have kd : E_X6_readPlan t gC = zPl1 t (xL gC1 20 8) x gC3 := by rw [kc, k_plan a1 co e1 m1]
          have rt : ∀ {gR4}, gR4 = xWI (xWI gR3 128 (3 * b + p) y) 126 b ((xI gR3 126 b) + 1) → (∀ a, xlim (S_X12_readPlan_80 a) (y, gR3) = some (y, gR3)) → E_X12_readLine gR = K_X12_readLine_124 gR4 := fun {gR4} e hx => by
            have rp : E_X12_readPlan gR1 = some gR4 := by
              unfold E_X12_readPlan
              rw [if_pos k2, th, xb1_some, if_pos (by decide), r_pl31 hb h31' n4 Tp1.2.2.1 (g_good a5) e2 m2 (fun a => (m3 a).trans (hx a)) (m5.b31 (yR2.b31 h31)), e]
            rw [rl, r_ln5 (g_good h) a2 rp]
          have yR4 : ∀ v, zRk b gR (xWI (xWI gR3 128 (3 * b + p) y) 126 b v) := fun v => ((yR2.tr m5).wi (by unfold dRb; omega)).wi (by unfold dRb; omega)
          have yC3 : zCb t gC gC3 := yC2.cb.tr m4
          rcases m6 with ⟨fd, pl, d1, d2, d3⟩ | ⟨go3, q29, k', v, kk, v1, v2, v3, T2', W', fC, fR⟩
          · have d3' : zFR (xWI (xWI gR3 128 (3 * b + p) y) 126 b ((xI gR3 126 b) + 1)) m fd pl := d3.cg fun q _ _ => by rw [yI_wi, if_neg (by omega), yI_wi, if_neg (by omega)]
            obtain ⟨gC4, c1, c2, c3⟩ := f_pl1 (t := t) (hC.cb ht yC3) d2 (xL gC1 20 8) x
            exact ⟨gC4, _, kd.trans c1, (rt rfl (r_s80F d3)).trans (f_endR (hR.rk (yR4 _)) d3'), yC3.tr c2.cb, yR4 _, Or.inr ⟨fd, pl, d1, c3, d3'⟩⟩
          · have p126 : xI gR3 126 b = nI p := (fR 126 b (by omega) (by omega) (by omega) (by omega) (by omega) (by omega)).1.trans ((rI 126 b (by omega)).trans Tp.2.2.1)
            have rt4 := rt (gR4 := xWI (xWI gR3 128 (3 * b + p) y) 126 b (nI (p + 1))) (by rw [p126, nI_1]) (r_s80E (g_good go3) q29)
            obtain ⟨gC4, gR4, c1, c2, c3, c4, c5⟩ := j_end (gR := xWI (xWI gR3 128 (3 * b + p) y) 126 b (nI (p + 1))) (hC.cb ht yC3) (hR.rk (yR4 _)) (go3.cg (fun _ => rfl) rfl (fun q _ _ => by rw [yI_wi, if_neg (by omega), yI_wi, if_neg (by omega)]) rfl)
            have yC4 := yC3.tr c3.cb
            have rd := rt4.trans c2
            rcases c5 with c5 | ⟨fd, pl, d1, d2, d3⟩
            · have u0 : xI gC4 t 8 = nI p := (c3.at (by omega)).1.trans ((fC t 8 (by omega) (by omega) (by omega) (by omega) (by omega)).1.trans ((yC2.at (by omega)).1.trans Tp.2.1))
              have cI : ∀ o q, o ≤ 19 → xI (xWI (xWI (xWL gC4 (t + 4) p (xL gC1 20 8)) (t + 5) p x) t 8 (nI (p + 1))) o q = if o = t ∧ q = 8 then nI (p + 1) else if o = t + 5 ∧ q = p then x else xI gC3 o q := fun o q ho => by rw [yI_wi, yI_wi, xI_WL, (c3.at (by omega)).1]
              have cL : ∀ o q, o ≤ 19 → xL (xWI (xWI (xWL gC4 (t + 4) p (xL gC1 20 8)) (t + 5) p x) t 8 (nI (p + 1))) o q = if o = t + 4 ∧ q = p then xL gC1 20 8 else xL gC3 o q := fun o q ho => by rw [xL_WI, xL_WI, yL_wl, (c3.at (o := o) (k := q) (by omega)).2]
              have rI4 : ∀ o q, 116 ≤ o → xI gR4 o q = if o = 126 ∧ q = b then nI (p + 1) else if o = 128 ∧ q = 3 * b + p then y else xI gR3 o q := fun o q ho => by rw [(c4.at (by omega)).1, yI_wi, yI_wi]
              have rL4 : ∀ o q, 116 ≤ o → xL gR4 o q = xL gR3 o q := fun o q ho => (c4.at (by omega)).2
              have eC : ∀ o q, o ≤ 19 → ¬ (o = t ∧ q = 8) → ¬ (o = t + 4 ∧ q = p) → ¬ (o = t + 5 ∧ q = p) → ¬ (o = t ∧ q = 11) → o ≠ t + 6 → o ≠ t + 7 → ¬ (o = t + 8 ∧ 3 * k ≤ q) → xI (xWI (xWI (xWL gC4 (t + 4) p (xL gC1 20 8)) (t + 5) p x) t 8 (nI (p + 1))) o q = xI gC o q ∧ xL (xWI (xWI (xWL gC4 (t + 4) p (xL gC1 20 8)) (t + 5) p x) t 8 (nI (p + 1))) o q = xL gC o q := fun o q h1 h2 h3 h4 h5 h6 h7 h8 => ⟨by rw [cI o q h1, if_neg h2, if_neg h4, (fC o q h1 h5 h6 h7 h8).1]; exact (yC2.at (by omega)).1, by rw [cL o q h1, if_neg h3, (fC o q h1 h5 h6 h7 h8).2]; exact (yC2.at (by omega)).2⟩
              have eR : ∀ o q, 116 ≤ o → o ≤ 131 → ¬ (o = 126 ∧ q = b) → ¬ (o = 125 ∧ q = 3 * b + p) → ¬ (o = 128 ∧ q = 3 * b + p) → ¬ (o = 127 ∧ q = b) → o ≠ 129 → o ≠ 130 → ¬ (o = 131 ∧ 3 * (60 * b + k) ≤ q) → xI gR4 o q = xI gR o q ∧ xL gR4 o q = xL gR o q := fun o q h1 h1' h2 h3 h4 h5 h6 h7 h8 => ⟨by rw [rI4 o q h1, if_neg h2, if_neg h4, (fR o q h1 h5 h6 h7 h8 (by omega)).1, rI o q h1], by rw [rL4 o q h1, (fR o q h1 h5 h6 h7 h8 (by omega)).2, rL o q h1, if_neg h3]⟩
              refine ⟨xWI (xWI (xWL gC4 (t + 4) p (xL gC1 20 8)) (t + 5) p x) t 8 (nI (p + 1)), gR4, kd.trans ?_, rd, ((yC4.wl (Or.inr rfl)).wi (by unfold dCb; omega)).wi (by unfold dCb; omega), (yR4 _).tr c4.rk, Or.inl ⟨c5.cg (fun q => by rw [yI_wi, if_neg (by omega), yI_wi, if_neg (by omega)]; rfl) (by rw [xL_WI, xL_WI, yL_wl, if_neg (by omega)]) (fun _ _ _ => rfl) rfl, ⟨gC1, a1, ((((y1.cb.tr m4).tr c3.cb).wl (Or.inr rfl)).wi (by unfold dCb; omega)).wi (by unfold dCb; omega)⟩, n, r, p + 1, k', ⟨Tn.cg (fun o q z => eC o q (by omega) (by omega) (by omega) (by omega) (by omega) (by omega) (by omega) (by omega)) (fun o q z => eR o q (by omega) (by omega) (by omega) (by omega) (by omega) (by omega) (by omega) (by omega) (by omega)), Tw.cg (fun q z => (eC t q (by omega) (by omega) (by omega) (by omega) (by omega) (by omega) (by omega) (by omega)).1) (fun o z => (eR o b (by omega) (by omega) (by omega) (by omega) (by omega) (by omega) (by omega) (by omega) (by omega)).1), Tr.cg (fun o q z => (eC o q (by omega) (by omega) (by omega) (by omega) (by omega) (by omega) (by omega) (by omega)).1) (fun o q z => (eR o q (by omega) (by omega) (by omega) (by omega) (by omega) (by omega) (by omega) (by omega) (by omega)).1), ⟨n4, by rw [cI _ _ (by omega), if_pos ⟨rfl, rfl⟩], by rw [rI4 _ _ (by omega), if_pos ⟨rfl, rfl⟩], fun i hi => ?_⟩, T2'.cg (fun o q z => by rw [cI o q (by omega), if_neg (by omega), if_neg (by omega)]) (fun o q z => by rw [rI4 o q (by omega), if_neg (by omega), if_neg (by omega)])⟩, (eR 123 b (by omega) (by omega) (by omega) (by omega) (by omega) (by omega) (by omega) (by omega) (by omega)).1.trans hr, ?_⟩⟩
              · unfold zPl1 E_X10_addPlan
                rw [c1, xb1_some, if_pos c5.1, u0, xputL_nI n4 (by decide)]
                show some (xWI (xput (xWL gC4 (t + 4) p (xL gC1 20 8)) (t + 5) 3 (xI gC4 t 8) x) t 8 ((xI (xput (xWL gC4 (t + 4) p (xL gC1 20 8)) (t + 5) 3 (xI gC4 t 8) x) t 8) + 1)) = _
                rw [u0, xput_nI n4 (by decide), yI_wi, if_neg (by omega), xI_WL, u0, nI_1]
              · by_cases d : i = p
                · subst d
                  refine ⟨by rw [cL _ _ (by omega), if_pos ⟨rfl, rfl⟩, rL4 _ _ (by omega), (fR 125 (3 * b + i) (by omega) (by omega) (by omega) (by omega) (by omega) (by omega)).2, rL _ _ (by omega), if_pos ⟨rfl, rfl⟩, wd], v, by omega, ?_, ?_⟩
                  · rw [cI _ _ (by omega), if_neg (by omega), if_pos ⟨rfl, rfl⟩]; exact v2
                  · rw [rI4 _ _ (by omega), if_neg (by omega), if_pos ⟨rfl, rfl⟩]; exact v3
                · obtain ⟨x1, v', x2, x3, x4⟩ := Tp.2.2.2 i (by omega)
                  have q1 := fun o (ho : o = t + 4 ∨ o = t + 5) => eC o i (by omega) (by omega) (by omega) (by omega) (by omega) (by omega) (by omega) (by omega)
                  have q2 := fun o (ho : o = 125 ∨ o = 128) => eR o (3 * b + i) (by omega) (by omega) (by omega) (by omega) (by omega) (by omega) (by omega) (by omega) (by omega)
                  exact ⟨((q1 _ (Or.inl rfl)).2.trans x1).trans (q2 _ (Or.inl rfl)).2.symm, v', by omega, (q1 _ (Or.inr rfl)).1.trans x3, (q2 _ (Or.inr rfl)).1.trans x4⟩
              · have old : zWz gC gR t b 0 k k := fun i _ h2 => Wy i h2
                have A := (old.mv (gC' := xWI (xWI (xWL gC4 (t + 4) p (xL gC1 20 8)) (t + 5) p x) t 8 (nI (p + 1))) (gR' := gR4) kk (fun c h1 h2 => (eC (t + 8) c (by omega) (by omega) (by omega) (by omega) (by omega) (by omega) (by omega) (by omega)).1) (fun c h1 h2 => (eR 131 c (by omega) (by omega) (by omega) (by omega) (by omega) (by omega) (by omega) (by omega) (by omega)).1)).jn (W'.mv (Nat.le_refl _) (fun c h1 h2 => by rw [cI _ _ (by omega), if_neg (by omega), if_neg (by omega)]) (fun c h1 h2 => by rw [rI4 _ _ (by omega), if_neg (by omega), if_neg (by omega)]))
                exact fun i hi q hq => A i (by omega) hi q hq
            · refine ⟨gC4, gR4, kd.trans ?_, rd, yC4, (yR4 _).tr c4.rk, Or.inr ⟨fd, pl, d1, d2, d3⟩⟩
              unfold zPl1
              rw [c1, xb1_some, d2.2.2.1, if_neg (nI_nz d2.1 (by have := d2.2.1; omega))]
    · obtain ⟨jC, hjC⟩ := zIst_ex (fun i => xL gC1 (t + 4) i = xL gC1 20 8) p
      have co := c_planOf Tp1.2.1 p3 hjC
      obtain ⟨gC2, gR2, y1, y2, cs⟩ := j_new (a := if jC < p then nI jC else -1) hC1 hR1 a5
      rcases cs with ⟨_, ⟨nm, e1⟩, e2, fd, pl, d1, d2, d3⟩ | ⟨x, _⟩ | ⟨x, _⟩
      · have rt : E_X12_readPlan gR1 = some gR2 := by
          unfold E_X12_readPlan
          rw [if_neg k2, e2, xb1_some, kp31F d3]
        obtain ⟨gC3, c1, c2, c3⟩ := f_pl1 (t := t) (hC1.c0 y1) d2 nm (-1)
        exact ⟨gC3, gR2, by rw [kc, k_plan a1 co e1 (f_part 12 0 d2), c1], by rw [rl, r_ln5 (g_good h) a2 rt, f_endR (hR1.r0 y2) d3], ((a3.tr y1).tr c2).cb, (a4.tr y2).rk, Or.inr ⟨fd, pl, d1, c3, d3⟩⟩
      · exact (k2 x).elim
      · exact (k2 x).elim
end LV
