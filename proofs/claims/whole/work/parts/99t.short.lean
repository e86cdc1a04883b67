/-! STREET: the lines of twins and of sticks, and the row's names -/
section LT
variable {gC gR gC' gR' g g' g1 : xSt} {t b n w u s r p k m o i q f pl : Nat} {bt : Nat → Nat} {v : Int32} {z : Int64}
theorem zTk.own (h : zTk gC gR m bt) : (∃ j, j < 7 ∧ xI gC 20 6 = 1 ∧ xI gC 20 9 = nI j ∧ xL gR 113 10 = zOwn j ∧ xI gR 113 8 = 3) ∨ ((∀ j, j < 7 → F_X6_isOwn gC (nI j) = 0) ∧ xI gR 113 8 ≠ 3) := by
  obtain ⟨st, sp, t1, t2, t3, t4, t5, t6, t7⟩ := h
  have n1 : ∀ b : Nat, zSg b → nI b ≠ 1 := fun b hb z => by
    have : b = 59 ∨ b = 40 ∨ b = 41 ∨ b = 47 := hb
    rcases this with e | e | e | e <;> subst e <;> exact absurd z (by decide)
  unfold F_X6_isOwn
  rcases t7 with ⟨a, c⟩ | ⟨a, c⟩ | ⟨a, a2, c⟩ | ⟨v, _, a, c, _⟩ | ⟨a, lt, c, d⟩
  · exact Or.inr ⟨fun j _ => by rw [a, if_neg (by decide)], by rw [c]; decide⟩
  · exact Or.inr ⟨fun j _ => by rw [a, if_neg (by decide)], by rw [c]; decide⟩
  · rcases c with ⟨c1, _, c⟩ | ⟨i, i1, i2, i3, c⟩
    · exact Or.inr ⟨fun j hj => by rw [a, if_pos rfl, c1, if_neg (fun x => nI_m1 (show j ≤ 1000000 by omega) x.symm)], by rw [c]; decide⟩
    · exact Or.inl ⟨i, i1, a, i2, i3, c⟩
  · exact Or.inr ⟨fun j _ => by rw [a, if_neg (by decide)], by rw [c]; decide⟩
  · exact Or.inr ⟨fun j _ => by rw [c, if_neg (n1 _ a)], by rw [d]; decide⟩
/-- a line that may not be told again, or finds no more room -/
theorem j_full {K : xSt → Option xSt} (h : zGo2 gC gR m bt) (hC : zTxC gC m bt) (hK : ∀ g f pl, zC0 gC g → zFC g m f pl → ∃ g', K g = some g' ∧ zCb t g g' ∧ zFC g' m f pl) (rl : E_X12_readLine gR = xb1 (E_X12_misplaced gR) fun g' => K_X12_readLine_24 z g') : ∃ gC' gR', (xb1 (E_X6_fail 2 gC) fun g => K g) = some gC' ∧ E_X12_readLine gR = some gR' ∧ zCb t gC gC' ∧ zRk b gR gR' ∧ zLn gC gC' gR' m bt t b := by
  obtain ⟨gC1, gR1, a1, a2, a3, a4, fd, pl, a5, a6, a7⟩ := j_mis hC h
  obtain ⟨gC2, b1, b2, b3⟩ := hK gC1 fd pl a3 a6
  exact ⟨gC2, gR1, by rw [a1, xb1_some, b1], by rw [rl, a2, xb1_some, r_lineF (f_good a7)], a3.cb.tr b2, a4.rk, Or.inr ⟨fd, pl, a5, b3, a7⟩⟩
theorem f_twins (ht : t = 2 ∨ t = 11) (hC : zTxC g m bt) (h : zFC g m f pl) : ∃ g', K_X6_readTwins_15 t g = some g' ∧ zCb t g g' ∧ zFC g' m f pl := by
  obtain ⟨g1, a1, a2, a3⟩ := f_adv hC h
  obtain ⟨g2, b1, b2, b3⟩ := f_sign (hC.c0 a2) a3 59
  refine ⟨xWI g2 t 3 1, ?_, (a2.tr b2).cb.wi (by unfold dCb; omega), b3.cg fun k => by rw [yI_wi, if_neg (by omega)]⟩
  unfold K_X6_readTwins_15
  rw [a1, xb1_some, b1, xb1_some]
theorem f_sticks (ht : t = 2 ∨ t = 11) (hC : zTxC g m bt) (h : zFC g m f pl) : ∃ g', K_X6_readSticks_15 t g = some g' ∧ zCb t g g' ∧ zFC g' m f pl := by
  obtain ⟨g1, a1, a2, a3⟩ := f_adv hC h
  obtain ⟨x, g2, b1, b2, b3⟩ := f_number (hC.c0 a2) a3 0 99
  have y : zCb t g (xWI g2 t 5 x) := (a2.tr b2).cb.wi (by unfold dCb; omega)
  obtain ⟨g3, c1, c2, c3⟩ := f_sign (hC.cb ht y) (b3.cg (g' := xWI g2 t 5 x) fun k => by rw [yI_wi, if_neg (by omega)]) 59
  refine ⟨xWI g3 t 4 1, ?_, (y.tr c2.cb).wi (by unfold dCb; omega), c3.cg fun k => by rw [yI_wi, if_neg (by omega)]⟩
  unfold K_X6_readSticks_15
  rw [a1, xb1_some, b1, xb2_some, c1, xb1_some]
theorem j_twins (ht : t = 2 ∨ t = 11) (hb : b ≤ 1) (h31 : xI gR 113 31 = nI b) (hC : zTxC gC m bt) (hR : zTxR gR m bt) (h : zGo2 gC gR m bt) (h8 : xI gR 113 8 = 3) (hw : xL gR 113 10 = zOwn 2) (T : zTbl gC gR t b n r p k) (hr : xI gR 123 b = nI (if r = 0 then 0 else 1)) (Wy : zWays gC gR t b k) : ∃ gC' gR', E_X6_readTwins t gC = some gC' ∧ E_X12_readLine gR = some gR' ∧ zCb t gC gC' ∧ zRk b gR gR' ∧ zLn gC gC' gR' m bt t b := by
  obtain ⟨Tn, ⟨w, u, s, w1, w2, w3, w4, w5, w6, w7, w8, w9⟩, Tr, Tp, T2⟩ := T
  have o1 : ∀ x : Nat, x ≤ 1 → nI x = 0 ∨ nI x = 1 := by decide
  have full : E_X12_isFull gR = some (xI gR 121 b) := r_fullJ hb h31 h8 (j := 2) (by decide) hw (by rw [w5]; exact o1 w w1) (by rw [w7]; exact o1 u w2)
  have rl := r_line h8 full
  rw [hw, w5] at rl
  by_cases c : w = 0
  · rw [c, if_pos (show nI 0 = 0 from rfl)] at rl
    obtain ⟨gC1, gR1, a1, a2, a3, a4, a5⟩ := j_adv hC hR h
    have h31' := a4.rk.b31 (b := b) h31
    have yR : zRk b gR (xWI gR1 121 b 1) := a4.rk.wi (by unfold dRb; omega)
    obtain ⟨gC3, gR3, c1, c2, c3, c4, c5⟩ := j_end (gR := xWI gR1 121 b 1) (hC.c0 a3) (hR.rk yR) (a5.cg (fun _ => rfl) rfl (fun k _ _ => by rw [yI_wi, if_neg (by omega)]) rfl)
    refine ⟨xWI gC3 t 3 1, gR3, ?_, ?_, (a3.tr c3).cb.wi (by unfold dCb; omega), yR.tr c4.rk, ?_⟩
    · unfold E_X6_readTwins K_X6_readTwins_15
      rw [w4, c, if_pos (show nI 0 = 0 from rfl), a1, xb1_some, c1, xb1_some]
    · rw [rl, r_ln2 (g_good h) a2 hb h31', c2]
    · have eC : ∀ o k, o ≤ 19 → ¬ (o = t ∧ k = 3) → xI (xWI gC3 t 3 1) o k = xI gC o k ∧ xL (xWI gC3 t 3 1) o k = xL gC o k := fun o k ho hk => ⟨by rw [yI_wi, if_neg hk]; exact ((a3.tr c3).at (by omega)).1, ((a3.tr c3).at (by omega)).2⟩
      have eR : ∀ o k, 116 ≤ o → ¬ (o = 121 ∧ k = b) → xI gR3 o k = xI gR o k ∧ xL gR3 o k = xL gR o k := fun o k ho hk => ⟨((c4.at (by omega)).1.trans (by rw [yI_wi, if_neg hk])).trans (a4.at (by omega)).1, (c4.at (by omega)).2.trans (a4.at (by omega)).2⟩
      have T121 : xI gR3 121 b = nI 1 := (c4.at (by omega)).1.trans (by rw [yI_wi, if_pos ⟨rfl, rfl⟩]; rfl)
      rcases c5 with c5 | ⟨fd, pl, d1, d2, d3⟩
      · refine Or.inl ⟨c5.cg (fun k => by rw [yI_wi, if_neg (by omega)]) rfl (fun _ _ _ => rfl) rfl, ⟨gC1, a1, c3.cb.wi (by unfold dCb; omega)⟩, n, r, p, k, ⟨Tn.cg (fun o k z => eC o k (by omega) (by omega)) (fun o k z => eR o k (by omega) (by omega)), ⟨1, u, s, by decide, w2, w3, by rw [yI_wi, if_pos ⟨rfl, rfl⟩]; rfl, T121, (eC t 4 (by omega) (by omega)).1.trans w6, (eR 122 b (by omega) (by omega)).1.trans w7, (eC t 5 (by omega) (by omega)).1.trans w8, (eR 117 b (by omega) (by omega)).1.trans w9⟩, Tr.cg (fun o k z => (eC o k (by omega) (by omega)).1) (fun o k z => (eR o k (by omega) (by omega)).1), Tp.cg (fun o k z => eC o k (by omega) (by omega)) (fun o k z => eR o k (by omega) (by omega)), T2.cg (fun o k z => (eC o k (by omega) (by omega)).1) (fun o k z => (eR o k (by omega) (by omega)).1)⟩, (eR 123 b (by omega) (by omega)).1.trans hr, Wy.cg (fun k => (eC (t + 8) k (by omega) (by omega)).1) (fun k => (eR 131 k (by omega) (by omega)).1)⟩
      · exact Or.inr ⟨fd, pl, d1, d2.cg (fun k => by rw [yI_wi, if_neg (by omega)]), d3⟩
  · have w0 : w = 1 := by omega
    subst w0
    rw [if_neg (show ¬ nI 1 = 0 by decide)] at rl
    obtain ⟨gC2, gR2, b1, b2⟩ := j_full (t := t) (b := b) (K := K_X6_readTwins_15 t) h hC (fun g f pl y0 y1 => f_twins ht (hC.c0 y0) y1) rl
    refine ⟨gC2, gR2, ?_, b2⟩
    unfold E_X6_readTwins
    rw [w4, if_neg (show ¬ nI 1 = 0 by decide), b1]
theorem j_sticks (ht : t = 2 ∨ t = 11) (hb : b ≤ 1) (h31 : xI gR 113 31 = nI b) (hC : zTxC gC m bt) (hR : zTxR gR m bt) (h : zGo2 gC gR m bt) (h8 : xI gR 113 8 = 3) (hw : xL gR 113 10 = zOwn 3) (T : zTbl gC gR t b n r p k) (hr : xI gR 123 b = nI (if r = 0 then 0 else 1)) (Wy : zWays gC gR t b k) : ∃ gC' gR', E_X6_readSticks t gC = some gC' ∧ E_X12_readLine gR = some gR' ∧ zCb t gC gC' ∧ zRk b gR gR' ∧ zLn gC gC' gR' m bt t b := by
  obtain ⟨Tn, ⟨w, u, s, w1, w2, w3, w4, w5, w6, w7, w8, w9⟩, Tr, Tp, T2⟩ := T
  have o1 : ∀ x : Nat, x ≤ 1 → nI x = 0 ∨ nI x = 1 := by decide
  have full : E_X12_isFull gR = some (xI gR 122 b) := r_fullJ hb h31 h8 (j := 3) (by decide) hw (by rw [w5]; exact o1 w w1) (by rw [w7]; exact o1 u w2)
  have rl := r_line h8 full
  rw [hw, w7] at rl
  by_cases c : u = 0
  · rw [c, if_pos (show nI 0 = 0 from rfl)] at rl
    obtain ⟨gC1, gR1, a1, a2, a3, a4, a5⟩ := j_adv hC hR h
    have h31' := a4.rk.b31 (b := b) h31
    have yR : zRk b gR (xWI gR1 122 b 1) := a4.rk.wi (by unfold dRb; omega)
    obtain ⟨x, y, gC2, gR2, n1, n2, n3, n4, n5⟩ := j_number (gR := xWI gR1 122 b 1) (lo := 0) (hi := 99) (hC.c0 a3) (hR.rk yR) (a5.cg (fun _ => rfl) rfl (fun k _ _ => by rw [yI_wi, if_neg (by omega)]) rfl) (by decide) (by decide)
    have n1 : E_X6_takeNumber 0 99 gC1 = some (x, gC2) := n1
    have n2 : E_X12_numeral 0 99 (xWI gR1 122 b 1) = some (y, gR2) := n2
    have yC2 : zCb t gC (xWI gC2 t 5 x) := (a3.tr n3).cb.wi (by unfold dCb; omega)
    have yR2 : zRk b gR (xWI gR2 117 b y) := (yR.tr n4.rk).wi (by unfold dRb; omega)
    have rd : E_X12_readLine gR = K_X12_readLine_124 (xWI gR2 117 b y) := by rw [rl, r_ln3 (g_good h) a2 hb h31' n2]
    have cd : ∀ {gC4}, E_X6_takeSign 59 (xWI gC2 t 5 x) = some gC4 → E_X6_readSticks t gC = some (xWI gC4 t 4 1) := fun {gC4} e => by
      unfold E_X6_readSticks K_X6_readSticks_15
      rw [w6, c, if_pos (show nI 0 = 0 from rfl), a1, xb1_some, n1, xb2_some, e, xb1_some]
    rcases n5 with ⟨go, v, _, v2, rfl, rfl⟩ | ⟨⟨fd, pl, d1, d2, d3⟩, _⟩
    · obtain ⟨gC3, gR3, c1, c2, c3, c4, c5⟩ := j_end (gC := xWI gC2 t 5 (nI v)) (gR := xWI gR2 117 b (nI v)) (hC.cb ht yC2) (hR.rk yR2) (go.cg (fun k => by rw [yI_wi, if_neg (by omega)]) rfl (fun k _ _ => by rw [yI_wi, if_neg (by omega)]) rfl)
      refine ⟨xWI gC3 t 4 1, gR3, cd c1, rd.trans c2, (yC2.tr c3.cb).wi (by unfold dCb; omega), yR2.tr c4.rk, ?_⟩
      have eC : ∀ o k, o ≤ 19 → ¬ (o = t ∧ (k = 4 ∨ k = 5)) → xI (xWI gC3 t 4 1) o k = xI gC o k ∧ xL (xWI gC3 t 4 1) o k = xL gC o k := fun o k ho hk => ⟨by rw [yI_wi, if_neg (by omega), (c3.at (by omega)).1, yI_wi, if_neg (by omega)]; exact ((a3.tr n3).at (by omega)).1, (c3.at (by omega)).2.trans ((a3.tr n3).at (by omega)).2⟩
      have eR : ∀ o k, 116 ≤ o → ¬ ((o = 122 ∨ o = 117) ∧ k = b) → xI gR3 o k = xI gR o k ∧ xL gR3 o k = xL gR o k := fun o k ho hk => ⟨by rw [(c4.at (by omega)).1, yI_wi, if_neg (by omega), (n4.at (by omega)).1, yI_wi, if_neg (by omega)]; exact (a4.at (by omega)).1, (c4.at (by omega)).2.trans ((n4.at (by omega)).2.trans (a4.at (by omega)).2)⟩
      have T122 : xI gR3 122 b = nI 1 := by rw [(c4.at (by omega)).1, yI_wi, if_neg (by omega), (n4.at (by omega)).1, yI_wi, if_pos ⟨rfl, rfl⟩]; rfl
      have T117 : xI gR3 117 b = nI v := by rw [(c4.at (by omega)).1, yI_wi, if_pos ⟨rfl, rfl⟩]
      have C4 : xI (xWI gC3 t 4 1) t 4 = nI 1 := by rw [yI_wi, if_pos ⟨rfl, rfl⟩]; rfl
      have C5 : xI (xWI gC3 t 4 1) t 5 = nI v := by rw [yI_wi, if_neg (by omega), (c3.at (by omega)).1, yI_wi, if_pos ⟨rfl, rfl⟩]
      rcases c5 with c5 | ⟨fd, pl, d1, d2, d3⟩
      · refine Or.inl ⟨c5.cg (fun k => by rw [yI_wi, if_neg (by omega)]) rfl (fun _ _ _ => rfl) rfl, ⟨gC1, a1, ((n3.cb.wi (by unfold dCb; omega)).tr c3.cb).wi (by unfold dCb; omega)⟩, n, r, p, k, ⟨Tn.cg (fun o k z => eC o k (by omega) (by omega)) (fun o k z => eR o k (by omega) (by omega)), ⟨w, 1, v, w1, by decide, v2, (eC t 3 (by omega) (by omega)).1.trans w4, (eR 121 b (by omega) (by omega)).1.trans w5, C4, T122, C5, T117⟩, Tr.cg (fun o k z => (eC o k (by omega) (by omega)).1) (fun o k z => (eR o k (by omega) (by omega)).1), Tp.cg (fun o k z => eC o k (by omega) (by omega)) (fun o k z => eR o k (by omega) (by omega)), T2.cg (fun o k z => (eC o k (by omega) (by omega)).1) (fun o k z => (eR o k (by omega) (by omega)).1)⟩, (eR 123 b (by omega) (by omega)).1.trans hr, Wy.cg (fun k => (eC (t + 8) k (by omega) (by omega)).1) (fun k => (eR 131 k (by omega) (by omega)).1)⟩
      · exact Or.inr ⟨fd, pl, d1, d2.cg (fun k => by rw [yI_wi, if_neg (by omega)]), d3⟩
    · have d3' : zFR (xWI gR2 117 b y) m fd pl := d3.cg fun k _ _ => by rw [yI_wi, if_neg (by omega)]
      obtain ⟨gC3, c1, c2, c3⟩ := f_sign (hC.cb ht yC2) (d2.cg (g' := xWI gC2 t 5 x) fun k => by rw [yI_wi, if_neg (by omega)]) 59
      exact ⟨xWI gC3 t 4 1, xWI gR2 117 b y, cd c1, rd.trans (f_endR (hR.rk yR2) d3'), (yC2.tr c2.cb).wi (by unfold dCb; omega), yR2, Or.inr ⟨fd, pl, d1, c3.cg (fun k => by rw [yI_wi, if_neg (by omega)]), d3'⟩⟩
  · have w0 : u = 1 := by omega
    subst w0
    rw [if_neg (show ¬ nI 1 = 0 by decide)] at rl
    obtain ⟨gC2, gR2, b1, b2⟩ := j_full (t := t) (b := b) (K := K_X6_readSticks_15 t) h hC (fun g f pl y0 y1 => f_sticks ht (hC.c0 y0) y1) rl
    refine ⟨gC2, gR2, ?_, b2⟩
    unfold E_X6_readSticks
    rw [w6, if_neg (show ¬ nI 1 = 0 by decide), b1]
end LT
