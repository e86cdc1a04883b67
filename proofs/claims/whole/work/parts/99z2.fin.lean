/-! STREET: a part, read by both -/
section LU
variable {gC gR gC' gR' g g' g1 : xSt} {t b n w u s r p k kc k1 k2 lo hi m o i q f pl d e : Nat} {bt : Nat → Nat} {x y : Int32}
theorem j_fin (hd : d ≤ 10) (k60 : k < 60) (hC : zTxC gC' m bt) (hR : zTxR gR' m bt) (h : zGo2 gC' gR' m bt) (h29 : xI gR' 113 29 = nI (d + 1)) (h132 : xI gR' 132 d = nI (60 * b + k)) (le : k + 1 ≤ kc) (T2 : zV2 gC' gR' t b n kc) (W : zWz gC' gR' t b (k + 1) kc kc) (W0 : ∀ q, q < 3 → zV3 gC' gR' t b kc k q) (ht : t = 2 ∨ t = 11) (fC : zFCp gC gC' t k) (fR : zFRp gR gR' b k d) (yC : zCb t gC gC') (yR : zRk b gR gR') {s1 : Int32 × xSt} {cls : Option (Int32 × xSt)} (hc : cls = xb1 (E_X6_takeSign 41 gC') fun g => some (nI k, g)) (hch : ∀ s2, K_X12_closes_82 (nI d) gR' = some s2 → ∀ a, xlim (S_X12_readPlan_80 a) s1 = xlim (S_X12_readPlan_80 a) s2) (hrp : E_X12_readP gR = some s1) : ∃ x gC2 s0 y gR2, cls = some (x, gC2) ∧ E_X12_readP gR = some s0 ∧ (∀ a, xlim (S_X12_readPlan_80 a) s0 = xlim (S_X12_readPlan_80 a) (y, gR2)) ∧ zCb t gC gC2 ∧ zRk b gR gR2 ∧ zPq gC gR gC2 gR2 m bt t b n k d x y := by
  obtain ⟨gC2, gR2, a1, a2, a3, a4, a5, a6⟩ := j_close hd hC hR h h29 h132
  refine ⟨nI k, gC2, s1, nI (60 * b + k), gR2, by rw [hc, a1, xb1_some], hrp, hch _ a2, yC.tr a3.cb, yR.tr a4, ?_⟩
  rcases a6 with ⟨go, g29⟩ | a6
  · refine Or.inr ⟨go, g29, kc, k + 1, by omega, Or.inr ⟨by omega, le⟩, ?_, ?_, T2.cg (fun o k z => (a3.at (by omega)).1) (fun o k z => (a5 o k (by omega)).1), ?_, fun o q h1 h2 h3 h4 h5 => ⟨(a3.at (by omega)).1.trans (fC o q h1 h2 h3 h4 h5).1, (a3.at (by omega)).2.trans (fC o q h1 h2 h3 h4 h5).2⟩, fun o q h1 h2 h3 h4 h5 h6 => ⟨(a5 o q h1).1.trans (fR o q h1 h2 h3 h4 h5 h6).1, (a5 o q h1).2.trans (fR o q h1 h2 h3 h4 h5 h6).2⟩⟩
    · rw [← nI_1]
      exact (Int32.add_sub_cancel _ _).symm
    · unfold ytwo
      rw [if_neg (by omega), show k + 1 - 1 = k by omega]
    · intro i h1 h2 q hq
      have key : zV3 gC' gR' t b kc i q := by
        by_cases c : i = k
        · rw [c]; exact W0 q hq
        · exact W i (by omega) h2 q hq
      exact key.cg (fun k => (a3.at (by omega)).1) (fun k => (a5 131 k (by omega)).1)
  · exact Or.inl a6
theorem ytwo_m1 : ytwo b 0 = -1 := if_pos rfl
theorem j_part (ht : t = 2 ∨ t = 11) (hb : b ≤ 1) : ∀ e d, e + d = 11 → zPz t b n m bt e d := by
  intro e
  induction e with
  | zero =>
    intro d hd gC gR k h31 hC hR h Tn T2 h29
    have d11 : d = 11 := by omega
    subst d11
    obtain ⟨gC1, gR1, a1, a2, a3, a4, fd, pl, a5, a6, a7⟩ := j_mis hC h
    have e0 : S_X12_readP_0 gR = K_X12_readP_50 (F_X12_isWord gR 1685024357) gR := by
      unfold S_X12_readP_0
      rw [g_good h, if_neg (by decide), h29, if_pos (show (10 : Int32) < nI 11 by decide)]
    refine ⟨-1, gC1, (-1, gR1), -1, gR1, ?_, r_partBad e0 a2 a7, fun _ => rfl, a3.cb, a4.rk, Or.inl ⟨fd, pl, a5, a6, a7⟩⟩
    show E_X6_readPart (R_X6_readPart 1) t (nI 11) gC = _
    unfold E_X6_readPart K_X6_readPart_11
    rw [if_neg (show ¬ nI 11 ≤ (10 : Int32) by decide), a1, xb1_some, a6.2.2.1, if_neg (nI_nz a6.1 (by have := a6.2.1; omega))]
  | succ e ih =>
    intro d hd gC gR k h31 hC hR h Tn T2 h29
    have d10 : d ≤ 10 := by omega
    have IH := ih (d + 1) (by omega)
    have hF : ∀ g f pl a, zFC g m f pl → R_X6_readPart (e + 2) t a g = some (-1, g) := fun g f pl a z => f_part (e + 1) a z
    have rc : R_X6_readPart (e + 1 + 2) t (nI d) gC = K_X6_readPart_11 (R_X6_readPart (e + 2)) t (nI d) gC := by
      show E_X6_readPart (R_X6_readPart (e + 2)) t (nI d) gC = _
      unfold E_X6_readPart
      rw [if_pos (show nI d ≤ (10 : Int32) from nI_le (b := 10) d10 (by decide))]
    have nl : ¬ (10 : Int32) < nI d := fun x => by have := (nI_ltI (a := 10) (b := d) (by decide) (by omega)).mp x; omega
    rcases r_wordH h (j := 6) (by decide) with ⟨o1, o2, o3⟩ | ⟨o1, o2⟩
    · have o1 : F_X6_isOwn gC 6 = 1 := o1
      have o2 : F_X12_isWord gR 1685024357 = 1 := o2
      obtain ⟨gC1, gR1, a1, a2, a3, a4, a5⟩ := j_adv hC hR h
      refine ⟨-1, gC1, (-1, gR1), -1, gR1, ?_, ?_, fun _ => rfl, a3.cb, a4.rk, Or.inr ⟨a5, (a4.1.2 113 29 (by unfold dR0; omega)).trans h29, k, 0, Nat.le_refl _, Or.inl rfl, rfl, ytwo_m1.symm, T2.cg (fun o k z => (a3.at (by omega)).1) (fun o k z => (a4.at (by omega)).1), fun i h1 h2 => by omega, fun o q h1 _ _ _ _ => a3.at (by omega), fun o q h1 _ _ _ _ _ => a4.at (by omega)⟩⟩
      · rw [rc]
        unfold K_X6_readPart_11
        rw [if_pos h.1, o1, if_neg (by decide), a1, xb1_some]
      · have e0 : S_X12_readP_0 gR = some (.inr (.inl (-1, gR1))) := by
          unfold S_X12_readP_0 K_X12_readP_54
          rw [g_good h, if_neg (by decide), h29, if_neg nl, o2, if_neg (by decide), if_neg (by decide), if_neg (by decide), a2, xb1_some]
        unfold E_X12_readP
        rw [xlim_end e0, xbs_inl]
    · have o1 : F_X6_isOwn gC 6 = 0 := o1
      have o2 : F_X12_isWord gR 1685024357 = 0 := o2
      by_cases gd : k < 60 ∧ xI gR 113 8 = 2
      · obtain ⟨k60, k2⟩ := gd
        obtain ⟨gR1, t1, t2, cs⟩ := j_two (rP := R_X6_readPart (e + 2)) ht hb h31 hC hR h Tn T2 k60 k2 d10 h29 hF (nI d)
        have e0 : S_X12_readP_0 gR = some (.inl gR1) := by
          unfold S_X12_readP_0 K_X12_readP_54
          rw [g_good h, if_neg (by decide), h29, if_neg nl, o2, if_pos rfl, if_pos k2, h31, xck_nI (by omega) (by decide), nI_clamp (by omega), T2.2.2.1, if_neg (fun x => by have := (nI_eq (by omega) (by decide)).mp (show nI k = nI 60 from x); omega), if_neg (by decide), if_pos rfl, t1, xb1_some]
        have e1 := r_partGo e0
        have rc2 : R_X6_readPart (e + 1 + 2) t (nI d) gC = K_X6_readPart_52 (R_X6_readPart (e + 2)) t (nI d) gC := rc.trans (by
          unfold K_X6_readPart_11
          rw [if_pos h.1, if_pos o1, T2.2.1, if_pos (show nI k < 60 from (nI_ltI (b := 60) (by omega) (by decide)).mpr k60)])
        rcases cs with ⟨x, gC', c1, c2, fd, pl, d1, d2, d3⟩ | ⟨gC1, y1, go1, c1, T2a, ⟨op1, op2, op3, op4⟩, fC1, fR1⟩
        · exact ⟨x, gC', (-1, gR1), -1, gR1, rc2.trans c1, e1.trans (r_partF d3), fun _ => rfl, c2, t2, Or.inl ⟨fd, pl, d1, d2, d3⟩⟩
        · rw [nI_1] at c1
          have Tn1 : zVn gC1 gR1 t b n := Tn.cg (fun o q z => fC1 o q (by omega) (by omega) (by omega)) (fun o q z => fR1 o q (by omega) (by omega) (by omega) (by omega) (by omega))
          obtain ⟨x1, gC2, s1, v1, gR2, p1, p2, p3, p4, p5, p6⟩ := IH gC1 gR1 (k + 1) (t2.b31 h31) (hC.cb ht y1) (hR.rk t2) go1 Tn1 T2a op1
          have cl1 : R_X6_readPart (e + 1 + 2) t (nI d) gC = zPB (R_X6_readPart (e + 2)) t (nI d) (nI k) x1 gC2 := by rw [rc2, c1, p1, xb2_some]
          have rp := e1.trans p2
          rcases p6 with ⟨fd, pl, d1, d2, d3⟩ | ⟨go2, q29, ka, va, ka1, va1, va2, va3, T2b, W1, fC2, fR2⟩
          · obtain ⟨gC3, f1, f2, f3⟩ := f_PB (rP := R_X6_readPart (e + 2)) (a := nI k) ht (Or.inr ⟨k, k60, rfl⟩) hF (hC.cb ht (y1.tr p4)) d2 (nI d) x1
            exact ⟨nI k, gC3, s1, v1, gR2, cl1.trans f1, rp, p3, (y1.tr p4).tr f2, t2.tr p5, Or.inl ⟨fd, pl, d1, f3, d3⟩⟩
          · have yC2 : zCb t gC (xWI gC2 (t + 8) (3 * k + 1) x1) := (y1.tr p4).wi (by unfold dCb; omega)
            have yR2 : zRk b gR (zCse gR2 b k d 0 v1) := (t2.tr p5).tr (zCse_rk k60 (by decide))
            have r132 : xI gR2 132 d = nI (60 * b + k) := (fR2 132 d (by omega) (by omega) (by omega) (by omega) (by omega) (by omega)).1.trans op2
            have r133 : xI gR2 133 d = 0 := (fR2 133 d (by omega) (by omega) (by omega) (by omega) (by omega) (by omega)).1.trans op3
            have cz := r_close0 (y := v1) hb d10 k60 q29 r132 r133
            have Tn2 : zVn (xWI gC2 (t + 8) (3 * k + 1) x1) (zCse gR2 b k d 0 v1) t b n := Tn1.cg (fun o q z => ⟨by rw [yI_wi, if_neg (by omega)]; exact (fC2 o q (by omega) (by omega) (by omega) (by omega) (by omega)).1, (fC2 o q (by omega) (by omega) (by omega) (by omega) (by omega)).2⟩) (fun o q z => ⟨by rw [zCse_at, if_neg (by omega), if_neg (by omega)]; exact (fR2 o q (by omega) (by omega) (by omega) (by omega) (by omega) (by omega)).1, (fR2 o q (by omega) (by omega) (by omega) (by omega) (by omega) (by omega)).2⟩)
            have T2c : zV2 (xWI gC2 (t + 8) (3 * k + 1) x1) (zCse gR2 b k d 0 v1) t b n ka := T2b.cg (fun o q z => by rw [yI_wi, if_neg (by omega)]) (fun o q z => by rw [zCse_at, if_neg (by omega), if_neg (by omega)])
            have go2' : zGo2 (xWI gC2 (t + 8) (3 * k + 1) x1) (zCse gR2 b k d 0 v1) m bt := go2.cg (fun q => by rw [yI_wi, if_neg (by omega)]) rfl (fun q _ _ => by rw [zCse_at, if_neg (by omega), if_neg (by omega)]) rfl
            obtain ⟨gC3s, x2, gC3, s2, v2, gR3, m1, m2, m3, m4, m5, m6, m7⟩ := j_slash ht IH (yR2.b31 h31) (hC.cb ht yC2) (hR.rk yR2) go2' Tn2 T2c (by rw [zCse_at, if_neg (by omega), if_neg (by omega)]; exact q29)
            have cl2 : R_X6_readPart (e + 1 + 2) t (nI d) gC = zPC (R_X6_readPart (e + 2)) t (nI d) (nI k) x2 gC3 := by
              rw [cl1]
              unfold zPB
              rw [show E_X10_setWay t (nI k) 1 x1 gC2 = some _ from c_setWay (q := 1) (by decide) k60 x1, xb1_some, m1, xb1_some, nI_1, m2, xb2_some]
            have ch2 : ∀ a, xlim (S_X12_readPlan_80 a) s1 = xlim (S_X12_readPlan_80 a) (v2, gR3) := fun a => (p3 a).trans ((r_s80 (g_good go2) d10 q29 (cz.trans m3) a).trans (m4 a))
            have yC3 := yC2.tr m5
            have yR3 := yR2.tr m6
            rcases m7 with ⟨fd, pl, d1, d2, d3⟩ | ⟨go3, q29b, kb, vb, kb1, vb1, vb2, vb3, T2d, W2, fC3, fR3⟩
            · obtain ⟨gC4, f1, f2, f3⟩ := f_PC (rP := R_X6_readPart (e + 2)) (a := nI k) ht (Or.inr ⟨k, k60, rfl⟩) (hC.cb ht yC3) d2 (nI d) x2
              exact ⟨nI k, gC4, s1, v2, gR3, cl2.trans f1, rp, ch2, yC3.tr f2, yR3, Or.inl ⟨fd, pl, d1, f3, d3⟩⟩
            · have yC3' : zCb t gC (xWI gC3 (t + 8) (3 * k + 2) x2) := yC3.wi (by unfold dCb; omega)
              have yR3' : zRk b gR (zCse gR3 b k d 1 v2) := yR3.tr (zCse_rk k60 (by decide))
              have s132 : xI gR3 132 d = nI (60 * b + k) := (fR3 132 d (by omega) (by omega) (by omega) (by omega) (by omega) (by omega)).1.trans (by rw [zCse_at, if_neg (by omega), if_neg (by omega)]; exact r132)
              have s133 : xI gR3 133 d = nI 1 := (fR3 133 d (by omega) (by omega) (by omega) (by omega) (by omega) (by omega)).1.trans (by rw [zCse_at, if_pos ⟨rfl, rfl⟩])
              have cz1 := r_close1 (y := v2) hb d10 k60 q29b s132 s133
              have Tn3 : zVn (xWI gC3 (t + 8) (3 * k + 2) x2) (zCse gR3 b k d 1 v2) t b n := Tn2.cg (fun o q z => ⟨by rw [yI_wi, if_neg (by omega)]; exact (fC3 o q (by omega) (by omega) (by omega) (by omega) (by omega)).1, (fC3 o q (by omega) (by omega) (by omega) (by omega) (by omega)).2⟩) (fun o q z => ⟨by rw [zCse_at, if_neg (by omega), if_neg (by omega)]; exact (fR3 o q (by omega) (by omega) (by omega) (by omega) (by omega) (by omega)).1, (fR3 o q (by omega) (by omega) (by omega) (by omega) (by omega) (by omega)).2⟩)
              have T2e : zV2 (xWI gC3 (t + 8) (3 * k + 2) x2) (zCse gR3 b k d 1 v2) t b n kb := T2d.cg (fun o q z => by rw [yI_wi, if_neg (by omega)]) (fun o q z => by rw [zCse_at, if_neg (by omega), if_neg (by omega)])
              have go3' : zGo2 (xWI gC3 (t + 8) (3 * k + 2) x2) (zCse gR3 b k d 1 v2) m bt := go3.cg (fun q => by rw [yI_wi, if_neg (by omega)]) rfl (fun q _ _ => by rw [zCse_at, if_neg (by omega), if_neg (by omega)]) rfl
              have e29 : xI (zCse gR3 b k d 1 v2) 113 29 = nI (d + 1) := by rw [zCse_at, if_neg (by omega), if_neg (by omega)]; exact q29b
              have eC3 : ∀ c, c < 3 * ka → xI gC3 (t + 8) c = if t + 8 = t + 8 ∧ c = 3 * k + 1 then x1 else xI gC2 (t + 8) c := fun c hc => by rw [(fC3 (t + 8) c (by omega) (by omega) (by omega) (by omega) (by omega)).1, yI_wi]
              have eR3 : ∀ c, c < 3 * (60 * b + ka) → xI gR3 131 c = if 131 = 131 ∧ c = 3 * (60 * b + k) + 0 then v1 else xI gR2 131 c := fun c hc => by rw [(fR3 131 c (by omega) (by omega) (by omega) (by omega) (by omega) (by omega)).1, zCse_at, if_neg (by omega)]
              have fCa : zFCp gC (xWI gC3 (t + 8) (3 * k + 2) x2) t k := fun o q h1 h2 h3 h4 h5 => ⟨by rw [yI_wi, if_neg (by omega), (fC3 o q h1 h2 h3 h4 (by omega)).1, yI_wi, if_neg (by omega), (fC2 o q h1 h2 h3 h4 (by omega)).1, (fC1 o q h1 h2 (by omega)).1], (fC3 o q h1 h2 h3 h4 (by omega)).2.trans ((fC2 o q h1 h2 h3 h4 (by omega)).2.trans (fC1 o q h1 h2 (by omega)).2)⟩
              have fRa : zFRp gR (zCse gR3 b k d 1 v2) b k d := fun o q h1 h2 h3 h4 h5 h6 => ⟨by rw [zCse_at, if_neg (by omega), if_neg (by omega), (fR3 o q h1 h2 h3 h4 (by omega) (by omega)).1, zCse_at, if_neg (by omega), if_neg (by omega), (fR2 o q h1 h2 h3 h4 (by omega) (by omega)).1, (fR1 o q h1 h2 (by omega) (by omega) (by omega)).1], (fR3 o q h1 h2 h3 h4 (by omega) (by omega)).2.trans ((fR2 o q h1 h2 h3 h4 (by omega) (by omega)).2.trans (fR1 o q h1 h2 (by omega) (by omega) (by omega)).2)⟩
              obtain ⟨v, g1, g2⟩ := r_signH (hR.rk yR3') go3' (b := 47) (Or.inr (Or.inr (Or.inr rfl)))
              have g1 : E_X12_isSignHere 47 (zCse gR3 b k d 1 v2) = some v := g1
              have sw2 : E_X10_setWay t (nI k) 2 x2 gC3 = some (xWI gC3 (t + 8) (3 * k + 2) x2) := c_setWay (q := 2) (by decide) k60 x2
              rcases g2 with ⟨rfl, k47⟩ | ⟨rfl, k47⟩
              · have k47 : xI (xWI gC3 (t + 8) (3 * k + 2) x2) 20 6 = 47 := k47
                obtain ⟨gC4s, x3, gC4, s3, v3, gR4, n1, n2, n3, n4, n5, n6, n7⟩ := j_slash ht IH (yR3'.b31 h31) (hC.cb ht yC3') (hR.rk yR3') go3' Tn3 T2e e29
                have cl3 : R_X6_readPart (e + 1 + 2) t (nI d) gC = K_X6_readPart_163 (R_X6_readPart (e + 2)) t (nI k) x3 gC4 := by
                  rw [cl2]
                  unfold zPC
                  rw [sw2, xb1_some, if_pos k47, adv_of k47 n1, xb1_some, nI_1, n2, xb2_some]
                have ch3 : ∀ a, xlim (S_X12_readPlan_80 a) s1 = xlim (S_X12_readPlan_80 a) (v3, gR4) := fun a => (ch2 a).trans ((r_s80 (g_good go3) d10 q29b (show E_X12_closes v2 gR3 = some s3 by rw [cz1, g1, xb1_some, if_neg (by decide), n3]) a).trans (n4 a))
                rcases n7 with ⟨fd, pl, d1, d2, d3⟩ | ⟨go4, q29c, kd, vd, kd1, vd1, vd2, vd3, T2f, W3, fC4, fR4⟩
                · obtain ⟨gC5, f1, f2, f3⟩ := f_PD (rP := R_X6_readPart (e + 2)) (a := nI k) ht (Or.inr ⟨k, k60, rfl⟩) (hC.cb ht (yC3'.tr n5)) d2 x3
                  exact ⟨nI k, gC5, s1, v3, gR4, cl3.trans f1, rp, ch3, (yC3'.tr n5).tr f2, yR3'.tr n6, Or.inl ⟨fd, pl, d1, f3, d3⟩⟩
                · have t132 : xI gR4 132 d = nI (60 * b + k) := (fR4 132 d (by omega) (by omega) (by omega) (by omega) (by omega) (by omega)).1.trans (by rw [zCse_at, if_neg (by omega), if_neg (by omega)]; exact s132)
                  have t133 : xI gR4 133 d = nI 2 := (fR4 133 d (by omega) (by omega) (by omega) (by omega) (by omega) (by omega)).1.trans (by rw [zCse_at, if_pos ⟨rfl, rfl⟩])
                  have cz2 := r_close2 (y := v3) hb d10 k60 q29c t132 t133
                  have eC4 : ∀ c, c < 3 * kb → xI (xWI gC4 (t + 8) (3 * k + 0) x3) (t + 8) c = if t + 8 = t + 8 ∧ c = 3 * k + 0 then x3 else if t + 8 = t + 8 ∧ c = 3 * k + 2 then x2 else xI gC3 (t + 8) c := fun c hc => by rw [yI_wi, (fC4 (t + 8) c (by omega) (by omega) (by omega) (by omega) (by omega)).1, yI_wi]
                  have eR4 : ∀ c, c < 3 * (60 * b + kb) → xI (zCse gR4 b k d 2 v3) 131 c = if 131 = 131 ∧ c = 3 * (60 * b + k) + 2 then v3 else if 131 = 131 ∧ c = 3 * (60 * b + k) + 1 then v2 else xI gR3 131 c := fun c hc => by rw [zCse_at, if_neg (show ¬ (131 = 133 ∧ c = d) by omega), (fR4 131 c (by omega) (by omega) (by omega) (by omega) (by omega) (by omega)).1, zCse_at, if_neg (show ¬ (131 = 133 ∧ c = d) by omega)]
                  refine j_fin (gC' := xWI gC4 (t + 8) (3 * k + 0) x3) (gR' := zCse gR4 b k d 2 v3) (kc := kd) d10 k60 (hC.cb ht ((yC3'.tr n5).wi (by unfold dCb; omega))) (hR.rk ((yR3'.tr n6).tr (zCse_rk k60 (by decide)))) (go4.cg (fun q => by rw [yI_wi, if_neg (by omega)]) rfl (fun q _ _ => by rw [zCse_at, if_neg (by omega), if_neg (by omega)]) rfl) (by rw [zCse_at, if_neg (by omega), if_neg (by omega)]; exact q29c) (by rw [zCse_at, if_neg (by omega), if_neg (by omega)]; exact t132) (by omega) (T2f.cg (fun o q z => by rw [yI_wi, if_neg (by omega)]) (fun o q z => by rw [zCse_at, if_neg (by omega), if_neg (by omega)])) ?_ ?_ ht ?_ ?_ ((yC3'.tr n5).wi (by unfold dCb; omega)) ((yR3'.tr n6).tr (zCse_rk k60 (by decide))) ?_ (fun s4 hs a => (ch3 a).trans (r_s80 (g_good go4) d10 q29c (cz2.trans hs) a)) rp
                  · exact ((W1.mv (by omega) (fun c h1 h2 => by rw [eC4 c (by omega), if_neg (by omega), if_neg (by omega), eC3 c h2, if_neg (by omega)]) (fun c h1 h2 => by rw [eR4 c (by omega), if_neg (by omega), if_neg (by omega), eR3 c h2, if_neg (by omega)])).jn (W2.mv (by omega) (fun c h1 h2 => by rw [eC4 c (by omega), if_neg (by omega), if_neg (by omega)]) (fun c h1 h2 => by rw [eR4 c (by omega), if_neg (by omega), if_neg (by omega)]))).jn (W3.mv (by omega) (fun c h1 h2 => by rw [yI_wi, if_neg (by omega)]) (fun c h1 h2 => by rw [zCse_at, if_neg (by omega), if_neg (by omega)]))
                  · intro q hq
                    have : q = 0 ∨ q = 1 ∨ q = 2 := by omega
                    rcases this with e | e | e <;> subst e
                    · refine ⟨vd, by omega, ?_, ?_⟩
                      · rw [eC4 _ (by omega), if_pos ⟨rfl, rfl⟩]; exact vd2
                      · rw [show yway 0 = 2 from rfl, eR4 _ (by omega), if_pos ⟨rfl, rfl⟩]; exact vd3
                    · refine ⟨va, by omega, ?_, ?_⟩
                      · rw [eC4 _ (by omega), if_neg (by omega), if_neg (by omega), eC3 _ (by omega), if_pos ⟨rfl, rfl⟩]; exact va2
                      · rw [show yway 1 = 0 from rfl, eR4 _ (by omega), if_neg (by omega), if_neg (by omega), eR3 _ (by omega), if_pos ⟨rfl, rfl⟩]; exact va3
                    · refine ⟨vb, by omega, ?_, ?_⟩
                      · rw [eC4 _ (by omega), if_neg (by omega), if_pos ⟨rfl, rfl⟩]; exact vb2
                      · rw [show yway 2 = 1 from rfl, eR4 _ (by omega), if_neg (by omega), if_pos ⟨rfl, rfl⟩]; exact vb3
                  · exact fun o q h1 h2 h3 h4 h5 => ⟨by rw [yI_wi, if_neg (by omega), (fC4 o q h1 h2 h3 h4 (by omega)).1]; exact (fCa o q h1 h2 h3 h4 h5).1, (fC4 o q h1 h2 h3 h4 (by omega)).2.trans (fCa o q h1 h2 h3 h4 h5).2⟩
                  · exact fun o q h1 h2 h3 h4 h5 h6 => ⟨by rw [zCse_at, if_neg (by omega), if_neg (by omega), (fR4 o q h1 h2 h3 h4 (by omega) (by omega)).1]; exact (fRa o q h1 h2 h3 h4 h5 h6).1, (fR4 o q h1 h2 h3 h4 (by omega) (by omega)).2.trans (fRa o q h1 h2 h3 h4 h5 h6).2⟩
                  · rw [cl3]
                    unfold K_X6_readPart_163
                    rw [show E_X10_setWay t (nI k) 0 x3 gC4 = some _ from c_setWay (q := 0) (by decide) k60 x3, xb1_some]
              · have k47 : ¬ xI (xWI gC3 (t + 8) (3 * k + 2) x2) 20 6 = 47 := k47
                have eC4 : ∀ c, xI (xWI (xWI gC3 (t + 8) (3 * k + 2) x2) (t + 8) (3 * k + 0) (-1)) (t + 8) c = if t + 8 = t + 8 ∧ c = 3 * k + 0 then -1 else if t + 8 = t + 8 ∧ c = 3 * k + 2 then x2 else xI gC3 (t + 8) c := fun c => by rw [yI_wi, yI_wi]
                have eR4 : ∀ c, xI (zCse gR3 b k d 1 v2) 131 c = if 131 = 131 ∧ c = 3 * (60 * b + k) + 1 then v2 else xI gR3 131 c := fun c => by rw [zCse_at, if_neg (by omega)]
                have o131 : xI gR3 131 (3 * (60 * b + k) + 2) = -1 := by
                  rw [eR3 _ (by omega), if_neg (by omega), (fR2 131 (3 * (60 * b + k) + 2) (by omega) (by omega) (by omega) (by omega) (by omega) (by omega)).1]
                  exact op4 2 (by decide)
                refine j_fin (gC' := xWI (xWI gC3 (t + 8) (3 * k + 2) x2) (t + 8) (3 * k + 0) (-1)) (gR' := zCse gR3 b k d 1 v2) (kc := kb) d10 k60 (hC.cb ht (yC3'.wi (by unfold dCb; omega))) (hR.rk yR3') (go3'.cg (fun q => by rw [yI_wi, if_neg (by omega)]) rfl (fun _ _ _ => rfl) rfl) e29 (by rw [zCse_at, if_neg (by omega), if_neg (by omega)]; exact s132) (by omega) (T2e.cg (fun o q z => by rw [yI_wi, if_neg (by omega)]) (fun _ _ _ => rfl)) ?_ ?_ ht ?_ fRa (yC3'.wi (by unfold dCb; omega)) yR3' ?_ (fun s4 hs a => (ch2 a).trans (r_s80 (g_good go3) d10 q29b (show E_X12_closes v2 gR3 = some s4 by rw [cz1, g1, xb1_some, if_pos rfl, hs]) a)) rp
                · exact (W1.mv (by omega) (fun c h1 h2 => by rw [eC4 c, if_neg (by omega), if_neg (by omega), eC3 c h2, if_neg (by omega)]) (fun c h1 h2 => by rw [eR4 c, if_neg (by omega), eR3 c h2, if_neg (by omega)])).jn (W2.mv (by omega) (fun c h1 h2 => by rw [eC4 c, if_neg (by omega), if_neg (by omega)]) (fun c h1 h2 => by rw [eR4 c, if_neg (by omega)]))
                · intro q hq
                  have : q = 0 ∨ q = 1 ∨ q = 2 := by omega
                  rcases this with e | e | e <;> subst e
                  · refine ⟨0, Or.inl rfl, ?_, ?_⟩
                    · rw [eC4 _, if_pos ⟨rfl, rfl⟩]; rfl
                    · rw [show yway 0 = 2 from rfl, eR4 _, if_neg (by omega), o131]; exact ytwo_m1.symm
                  · refine ⟨va, by omega, ?_, ?_⟩
                    · rw [eC4 _, if_neg (by omega), if_neg (by omega), eC3 _ (by omega), if_pos ⟨rfl, rfl⟩]; exact va2
                    · rw [show yway 1 = 0 from rfl, eR4 _, if_neg (by omega), eR3 _ (by omega), if_pos ⟨rfl, rfl⟩]; exact va3
                  · refine ⟨vb, by omega, ?_, ?_⟩
                    · rw [eC4 _, if_neg (by omega), if_pos ⟨rfl, rfl⟩]; exact vb2
                    · rw [show yway 2 = 1 from rfl, eR4 _, if_pos ⟨rfl, rfl⟩]; exact vb3
                · exact fun o q h1 h2 h3 h4 h5 => ⟨by rw [yI_wi, if_neg (by omega)]; exact (fCa o q h1 h2 h3 h4 h5).1, (fCa o q h1 h2 h3 h4 h5).2⟩
                · rw [cl2]
                  unfold zPC
                  rw [sw2, xb1_some, if_neg k47]
                  unfold K_X6_readPart_163
                  rw [show E_X10_setWay t (nI k) 0 (-1) (xWI gC3 (t + 8) (3 * k + 2) x2) = some _ from c_setWay (q := 0) (by decide) k60 (-1), xb1_some]
      · obtain ⟨x, gC', gR1, b1, b2, b3, b4, fd, pl, d1, d2, d3⟩ := j_partBad ht hC h Tn T2 hF (nI d) o1 gd
        have e0 : S_X12_readP_0 gR = K_X12_readP_50 0 gR := by
          unfold S_X12_readP_0
          rw [g_good h, if_neg (by decide), h29, if_neg nl, o2, if_pos rfl]
          by_cases k2 : xI gR 113 8 = 2
          · have e60 : k = 60 := by
              have := T2.1
              by_cases c : k < 60
              · exact (gd ⟨c, k2⟩).elim
              · omega
            rw [if_pos k2, h31, xck_nI (by omega) (by decide), nI_clamp (by omega), T2.2.2.1, e60, if_pos (show nI 60 = 60 from rfl)]
          · rw [if_neg k2]
        exact ⟨x, gC', (-1, gR1), -1, gR1, rc.trans b1, r_partBad e0 b2 d3, fun _ => rfl, b3, b4.rk, Or.inl ⟨fd, pl, d1, d2, d3⟩⟩
end LU
