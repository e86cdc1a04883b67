/-! STREET: a two and its things; what is left behind a fault -/
section LP
variable {gC gR gC' gR' g g' g1 : xSt} {t b n w u s r p k m o i q f pl d : Nat} {bt : Nat → Nat} {rP : Nat → Int32 → xSt → Option (Int32 × xSt)}
noncomputable def zPC (rP : Nat → Int32 → xSt → Option (Int32 × xSt)) (t : Nat) (a1 s0 x : Int32) (g : xSt) : Option (Int32 × xSt) := xb1 (E_X10_setWay t s0 2 x g) fun g135_6 => if (xI g135_6 20 6) = 47 then (xb1 (E_X6_advance g135_6) fun g151_8 => xb2 (rP t (a1 + 1) g151_8) fun r158_9 g158_9 => K_X6_readPart_163 rP t s0 r158_9 g158_9) else K_X6_readPart_163 rP t s0 (-1) g135_6
noncomputable def zPB (rP : Nat → Int32 → xSt → Option (Int32 × xSt)) (t : Nat) (a1 s0 x : Int32) (g : xSt) : Option (Int32 × xSt) := xb1 (E_X10_setWay t s0 1 x g) fun g112_3 => xb1 (E_X6_takeSign 47 g112_3) fun g118_4 => xb2 (rP t (a1 + 1) g118_4) fun r132_5 g132_5 => zPC rP t a1 s0 r132_5 g132_5
theorem k_p90 (a1 s0 : Int32) : K_X6_readPart_90 rP t a1 s0 g = xb1 (E_X6_takeSign 40 g) fun g95_1 => xb2 (rP t (a1 + 1) g95_1) fun x g => zPB rP t a1 s0 x g := rfl
theorem c_setWay {q : Nat} (hq : q < 3) (hi : i < 60) (x : Int32) : E_X10_setWay t (nI i) (nI q) x g = some (xWI g (t + 8) (3 * i + q) x) := by
  unfold E_X10_setWay
  rw [show (3 * nI i) + nI q = nI (3 * i + q) from nI_b5 3 i q, xput_nI (by omega) (by decide)]
theorem f_setWay {q : Nat} {a : Int32} (ht : t = 2 ∨ t = 11) (hq : q < 3) (ha : a = -1 ∨ ∃ i, i < 60 ∧ a = nI i) (x : Int32) : ∃ g', E_X10_setWay t a (nI q) x g = some g' ∧ zCb t g g' ∧ ∀ k, xI g' 20 k = xI g 20 k := by
  rcases ha with rfl | ⟨i, hi, rfl⟩
  · refine ⟨g, ?_, zCb.refl, fun _ => rfl⟩
    have : q = 0 ∨ q = 1 ∨ q = 2 := by omega
    unfold E_X10_setWay xput
    rcases this with e | e | e <;> subst e <;> rw [if_pos (Or.inl (by decide))]
  · exact ⟨_, c_setWay hq hi x, zCb.refl.wi (by unfold dCb; omega), fun k => by rw [yI_wi, if_neg (by omega)]⟩
theorem f_part (n : Nat) (a : Int32) (h : zFC g m f pl) : R_X6_readPart (n + 1) t a g = some (-1, g) := by
  have k11 : K_X6_readPart_11 (R_X6_readPart n) t a g = some (-1, g) := by
    unfold K_X6_readPart_11
    rw [h.2.2.1, if_neg (nI_nz h.1 (by have := h.2.1; omega))]
  show E_X6_readPart (R_X6_readPart n) t a g = _
  unfold E_X6_readPart
  rw [f_fail h, xb1_some, k11]
  exact ite_self _
theorem f_PD (ht : t = 2 ∨ t = 11) {a : Int32} (ha : a = -1 ∨ ∃ i, i < 60 ∧ a = nI i) (hC : zTxC g m bt) (h : zFC g m f pl) (x : Int32) : ∃ g', K_X6_readPart_163 rP t a x g = some (a, g') ∧ zCb t g g' ∧ zFC g' m f pl := by
  obtain ⟨g1, a1, a2, a3⟩ := f_setWay (q := 0) (g := g) ht (by decide) ha x
  have a1 : E_X10_setWay t a 0 x g = some g1 := a1
  obtain ⟨g2, b1, b2, b3⟩ := f_sign (hC.cb ht a2) (h.cg a3) 41
  refine ⟨g2, ?_, a2.tr b2.cb, b3⟩
  unfold K_X6_readPart_163
  rw [a1, xb1_some, b1, xb1_some]
theorem f_PC (ht : t = 2 ∨ t = 11) {a : Int32} (ha : a = -1 ∨ ∃ i, i < 60 ∧ a = nI i) (hC : zTxC g m bt) (h : zFC g m f pl) (c x : Int32) : ∃ g', zPC rP t c a x g = some (a, g') ∧ zCb t g g' ∧ zFC g' m f pl := by
  obtain ⟨g1, a1, a2, a3⟩ := f_setWay (q := 2) (g := g) ht (by decide) ha x
  have a1 : E_X10_setWay t a 2 x g = some g1 := a1
  have h1 := h.cg a3
  obtain ⟨g2, b1, b2, b3⟩ := f_PD (rP := rP) ht ha (hC.cb ht a2) h1 (-1)
  refine ⟨g2, ?_, a2.tr b2, b3⟩
  unfold zPC
  rw [a1, xb1_some, h1.2.2.2.2.1, if_neg (by decide), b1]
theorem f_PB (ht : t = 2 ∨ t = 11) {a : Int32} (ha : a = -1 ∨ ∃ i, i < 60 ∧ a = nI i) (hF : ∀ g f pl a, zFC g m f pl → rP t a g = some (-1, g)) (hC : zTxC g m bt) (h : zFC g m f pl) (c x : Int32) : ∃ g', zPB rP t c a x g = some (a, g') ∧ zCb t g g' ∧ zFC g' m f pl := by
  obtain ⟨g1, a1, a2, a3⟩ := f_setWay (q := 1) (g := g) ht (by decide) ha x
  have a1 : E_X10_setWay t a 1 x g = some g1 := a1
  obtain ⟨g2, b1, b2, b3⟩ := f_sign (hC.cb ht a2) (h.cg a3) 47
  obtain ⟨g3, c1, c2, c3⟩ := f_PC (rP := rP) ht ha ((hC.cb ht a2).c0 b2) b3 c (-1)
  refine ⟨g3, ?_, (a2.tr b2.cb).tr c2, c3⟩
  unfold zPB
  rw [a1, xb1_some, b1, xb1_some, hF g2 f pl _ b3, xb2_some, c1]
theorem f_P9 (ht : t = 2 ∨ t = 11) {a : Int32} (ha : a = -1 ∨ ∃ i, i < 60 ∧ a = nI i) (hF : ∀ g f pl a, zFC g m f pl → rP t a g = some (-1, g)) (hC : zTxC g m bt) (h : zFC g m f pl) (c : Int32) : ∃ g', K_X6_readPart_90 rP t c a g = some (a, g') ∧ zCb t g g' ∧ zFC g' m f pl := by
  obtain ⟨g2, b1, b2, b3⟩ := f_sign hC h 40
  obtain ⟨g3, c1, c2, c3⟩ := f_PB (rP := rP) ht ha hF (hC.c0 b2) b3 c (-1)
  refine ⟨g3, ?_, b2.cb.tr c2, c3⟩
  rw [k_p90, b1, xb1_some, hF g2 f pl _ b3, xb2_some, c1]
theorem f_P5b (ht : t = 2 ∨ t = 11) (hF : ∀ g f pl a, zFC g m f pl → rP t a g = some (-1, g)) (hn : n ≤ 5) (h0 : xI g t 0 = nI n) (hC : zTxC g m bt) (h : zFC g m f pl) (c y x : Int32) : ∃ z g', (xb2 (E_X6_takeThing t y g) fun r66_2 g66_2 => if (xI g66_2 20 10) = 0 then (xb2 (E_X10_addTwo t x r66_2 g66_2) fun r83_4 g83_4 => K_X6_readPart_90 rP t c r83_4 g83_4) else K_X6_readPart_90 rP t c (-1) g66_2) = some (z, g') ∧ zCb t g g' ∧ zFC g' m f pl := by
  obtain ⟨v, g1, a1, a2, a3⟩ := f_thing (t := t) hn h0 hC h y
  obtain ⟨g2, b1, b2, b3⟩ := f_P9 (rP := rP) (a := -1) ht (Or.inl rfl) hF (hC.c0 a2) a3 c
  exact ⟨-1, g2, by rw [a1, xb2_some, a3.2.2.1, if_neg (nI_nz a3.1 (by have := a3.2.1; omega)), b1], a2.cb.tr b2, b3⟩
theorem k_p52 (c : Int32) : K_X6_readPart_52 rP t c g = xb2 (E_X6_takeThing t 0 g) fun x g => xb2 (E_X6_takeThing t (1 <<< ((imax x 0) &&& 31)) g) fun r66_2 g66_2 => if (xI g66_2 20 10) = 0 then (xb2 (E_X10_addTwo t x r66_2 g66_2) fun r83_4 g83_4 => K_X6_readPart_90 rP t c r83_4 g83_4) else K_X6_readPart_90 rP t c (-1) g66_2 := rfl
theorem f_P52 (ht : t = 2 ∨ t = 11) (hF : ∀ g f pl a, zFC g m f pl → rP t a g = some (-1, g)) (hn : n ≤ 5) (h0 : xI g t 0 = nI n) (hC : zTxC g m bt) (h : zFC g m f pl) (c : Int32) : ∃ z g', K_X6_readPart_52 rP t c g = some (z, g') ∧ zCb t g g' ∧ zFC g' m f pl := by
  obtain ⟨v, g1, a1, a2, a3⟩ := f_thing (t := t) hn h0 hC h 0
  obtain ⟨z, g2, b1, b2, b3⟩ := f_P5b (rP := rP) ht hF hn ((a2.at (by omega)).1.trans h0) (hC.c0 a2) a3 c (1 <<< ((imax v 0) &&& 31)) v
  exact ⟨z, g2, by rw [k_p52, a1, xb2_some, b1], a2.cb.tr b2, b3⟩
/-! the reference's two -/
theorem r_153F (hR : zTxR g m bt) (h : zFR g m f pl) (x : Int32) : K_X12_readTwo_153 x g = some g := by
  obtain ⟨v, e⟩ := f_signH hR h 40
  unfold K_X12_readTwo_153
  rw [e, xb1_some, f_must h, xb1_some, f_good h, if_pos rfl]
theorem r_142F (hR : zTxR g m bt) (h : zFR g m f pl) (x : Int32) : K_X12_readTwo_142 x g = some g := by
  unfold K_X12_readTwo_142
  rw [f_good h, if_pos rfl, r_153F hR h]
theorem r_111F (hR : zTxR g m bt) (h : zFR g m f pl) (x : Int32) : K_X12_readTwo_111 x g = some g := by
  unfold K_X12_readTwo_111
  rw [f_good h, if_pos rfl, r_142F hR h]
theorem r_86F (hR : zTxR g m bt) (h : zFR g m f pl) (x : Int32) : K_X12_readTwo_86 x g = some g := by
  unfold K_X12_readTwo_86
  rw [f_good h, if_pos rfl, r_111F hR h]
theorem k_r57 (x : Int32) : K_X12_readTwo_57 x g = xb1 (E_X12_thingHere g) fun y => xck 120 x (if (F_X12_isGood (xWI g 130 x.toNatClampNeg y)) = 0 then K_X12_readTwo_86 x (xWI g 130 x.toNatClampNeg y) else if (xI (xWI g 130 x.toNatClampNeg y) 113 8) = 2 then K_X12_readTwo_86 x (xWI g 130 x.toNatClampNeg y) else xb1 (E_X12_misplaced (xWI g 130 x.toNatClampNeg y)) fun g83_5 => K_X12_readTwo_86 x g83_5) := rfl
theorem r_57F (hb : b ≤ 1) (h31 : xI g 113 31 = nI b) (hn : n ≤ 5) (h0 : xI g 116 b = nI n) (hR : zTxR g m bt) (h : zFR g m f pl) (hi : i < 120) : ∃ y, K_X12_readTwo_57 (nI i) g = some (xWI g 130 i y) := by
  obtain ⟨j, hj⟩ := zIst_ex (fun i => xL g 124 (5 * b + i) = xL g 113 10) n
  refine ⟨if xI g 113 8 = 2 ∧ j < n then nI j else -1, ?_⟩
  have h' : zFR (xWI g 130 i (if xI g 113 8 = 2 ∧ j < n then nI j else -1)) m f pl := h.cg fun k _ _ => by rw [yI_wi, if_neg (by omega)]
  have hR' : zTxR (xWI g 130 i (if xI g 113 8 = 2 ∧ j < n then nI j else -1)) m bt := ⟨hR.1, hR.2.1, by rw [yI_wi, if_neg (by omega)]; exact hR.2.2.1, fun k hk => by rw [yI_wi, if_neg (by omega)]; exact hR.2.2.2 k hk⟩
  rw [k_r57, r_thingHere hb h31 hn h0 hj, xb1_some, xck_nI hi (by decide), nI_clamp (by omega), f_good h', if_pos rfl, r_86F hR' h']
theorem k_r46F (h : zFR g m f pl) (x : Int32) : K_X12_readTwo_46 x g = K_X12_readTwo_57 x g := by
  unfold K_X12_readTwo_46
  rw [f_good h, if_pos rfl]
theorem k_r24 : E_X12_readTwo g = xck 2 (xI g 113 31) (xb1 (E_X12_thingHere g) fun y => xck 120 ((60 * (xI g 113 31)) + (xI g 127 (xI g 113 31).toNatClampNeg)) (xck 120 ((60 * (xI g 113 31)) + (xI g 127 (xI g 113 31).toNatClampNeg)) (if 0 ≤ (xI (xWI g 129 ((60 * (xI g 113 31)) + (xI g 127 (xI g 113 31).toNatClampNeg)).toNatClampNeg y) 129 ((60 * (xI g 113 31)) + (xI g 127 (xI g 113 31).toNatClampNeg)).toNatClampNeg) then K_X12_readTwo_46 ((60 * (xI g 113 31)) + (xI g 127 (xI g 113 31).toNatClampNeg)) (xWI g 129 ((60 * (xI g 113 31)) + (xI g 127 (xI g 113 31).toNatClampNeg)).toNatClampNeg y) else xb1 (E_X12_fails 5 (xI (xWI g 129 ((60 * (xI g 113 31)) + (xI g 127 (xI g 113 31).toNatClampNeg)).toNatClampNeg y) 113 6) (xWI g 129 ((60 * (xI g 113 31)) + (xI g 127 (xI g 113 31).toNatClampNeg)).toNatClampNeg y)) fun g43_6 => K_X12_readTwo_46 ((60 * (xI g 113 31)) + (xI g 127 (xI g 113 31).toNatClampNeg)) g43_6))) := rfl
/-- the two opened -/
def zOpn (g : xSt) (b i d : Nat) : xSt := xWI (xWI (xWI (xWI (xWI (xWI (xWI g 127 b (nI (i - 60 * b + 1))) 131 (3 * i) (-1)) 131 (3 * i + 1) (-1)) 131 (3 * i + 2) (-1)) 132 d (nI i)) 133 d 0) 113 29 (nI (d + 1))
theorem r_153 (hb : b ≤ 1) (h31 : xI g1 113 31 = nI b) {v : Int32} (e1 : E_X12_isSignHere 40 g = some v) (e2 : E_X12_must v g = some g1) (hg : F_X12_isGood g1 = 1) (hk : k < 60) (h127 : xI g1 127 b = nI k) (hd : d ≤ 10) (h29 : xI g1 113 29 = nI d) : K_X12_readTwo_153 (nI (60 * b + k)) g = some (zOpn g1 b (60 * b + k) d) := by
  have st : ∀ j g, j < 3 → S_X12_readTwo_186 (nI (60 * b + k)) (nI j, g) = some (.inl (nI (j + 1), xWI g 131 (3 * (60 * b + k) + j) (-1))) := fun j g hj => by
    unfold S_X12_readTwo_186
    simp only [nI_1]
    rw [if_neg (show ¬ (3 : Int32) ≤ nI j from nI_ge (b := 3) (by omega) (by decide)), show (3 * nI (60 * b + k)) + nI j = nI (3 * (60 * b + k) + j) from nI_b5 3 (60 * b + k) j, xck_nI (by omega) (by decide), nI_clamp (by omega)]
  have en : ∀ g, S_X12_readTwo_186 (nI (60 * b + k)) (nI 3, g) = some (.inr g) := fun g => by
    unfold S_X12_readTwo_186
    simp only [if_pos (show (3 : Int32) ≤ nI 3 by decide)]
  unfold K_X12_readTwo_153
  rw [e1, xb1_some, e2, xb1_some, hg, if_neg (by decide), h31, xck_nI (by omega) (by decide), nI_clamp (by omega), xck_nI (by omega) (by decide), h127, nI_1, show ∀ x : xSt, ((0 : Int32), x) = (nI 0, x) from fun _ => rfl, xlim_go (st 0 _ (by decide)), xlim_go (st 1 _ (by decide)), xlim_go (st 2 _ (by decide)), xlim_end (en _), xb1_some]
  have e29 : xI (xWI (xWI (xWI (xWI g1 127 b (nI (k + 1))) 131 (3 * (60 * b + k) + 0) (-1)) 131 (3 * (60 * b + k) + 1) (-1)) 131 (3 * (60 * b + k) + 2) (-1)) 113 29 = nI d := by
    rw [yI_wi, if_neg (by omega), yI_wi, if_neg (by omega), yI_wi, if_neg (by omega), yI_wi, if_neg (by omega)]; exact h29
  rw [e29, xck_nI (by omega) (by decide), nI_clamp (by omega), xck_nI (by omega) (by decide)]
  rw [nI_1]
  unfold zOpn
  rw [show 60 * b + k - 60 * b + 1 = k + 1 by omega]
  rfl
end LP
