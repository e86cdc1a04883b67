/-! STREET: the reference's parts and what closes them -/
section LC
variable {gC gR gC' gR' g g' g1 : xSt} {t b n w u s r p k m o i q f pl d : Nat} {bt : Nat → Nat} {y : Int32}
theorem r_partF (h : zFR g m f pl) : E_X12_readP g = some (-1, g) := by
  have e : S_X12_readP_0 g = some (.inr (.inr g)) := by
    unfold S_X12_readP_0
    rw [f_good h, if_pos rfl]
  unfold E_X12_readP
  rw [xlim_end e, xbs_inr]
theorem k54F (h : zFR g m f pl) (x : Int32) : K_X12_readP_54 x g = some (.inr (.inl (-1, g))) := by
  unfold K_X12_readP_54
  rw [f_good h, if_pos rfl]
theorem k50F {x : Int32} (hm : E_X12_misplaced g = some g1) (h : zFR g1 m f pl) : K_X12_readP_50 x g = some (.inr (.inl (-1, g1))) := by
  unfold K_X12_readP_50
  rw [hm, xb1_some, k54F h]
theorem r_partBad {x : Int32} (e : S_X12_readP_0 g = K_X12_readP_50 x g) (hm : E_X12_misplaced g = some g1) (h : zFR g1 m f pl) : E_X12_readP g = some (-1, g1) := by
  unfold E_X12_readP
  rw [xlim_end (e.trans (k50F hm h)), xbs_inl]
theorem r_partGo (e : S_X12_readP_0 g = some (.inl g1)) : E_X12_readP g = E_X12_readP g1 := by
  unfold E_X12_readP
  rw [xlim_go e]
/-- a way told and counted -/
def zCse (g : xSt) (b k d w : Nat) (y : Int32) : xSt := xWI (xWI g 131 (3 * (60 * b + k) + w) y) 133 d (nI (w + 1))
theorem k_closes : E_X12_closes y g = xck 12 ((xI g 113 29) - 1) (xck 12 ((xI g 113 29) - 1) (xck 360 ((3 * (xI g 132 ((xI g 113 29) - 1).toNatClampNeg)) + (xI g 133 ((xI g 113 29) - 1).toNatClampNeg)) (xck 12 ((xI g 113 29) - 1) (xck 12 ((xI g 113 29) - 1) (xck 12 ((xI g 113 29) - 1) (if (xI (xWI (xWI g 131 ((3 * (xI g 132 ((xI g 113 29) - 1).toNatClampNeg)) + (xI g 133 ((xI g 113 29) - 1).toNatClampNeg)).toNatClampNeg y) 133 ((xI g 113 29) - 1).toNatClampNeg ((xI g 133 ((xI g 113 29) - 1).toNatClampNeg) + 1)) 133 ((xI g 113 29) - 1).toNatClampNeg) = 1 then K_X12_closes_67 (xWI (xWI g 131 ((3 * (xI g 132 ((xI g 113 29) - 1).toNatClampNeg)) + (xI g 133 ((xI g 113 29) - 1).toNatClampNeg)).toNatClampNeg y) 133 ((xI g 113 29) - 1).toNatClampNeg ((xI g 133 ((xI g 113 29) - 1).toNatClampNeg) + 1)) else xck 12 ((xI g 113 29) - 1) (if (xI (xWI (xWI g 131 ((3 * (xI g 132 ((xI g 113 29) - 1).toNatClampNeg)) + (xI g 133 ((xI g 113 29) - 1).toNatClampNeg)).toNatClampNeg y) 133 ((xI g 113 29) - 1).toNatClampNeg ((xI g 133 ((xI g 113 29) - 1).toNatClampNeg) + 1)) 133 ((xI g 113 29) - 1).toNatClampNeg) = 2 then (xb1 (E_X12_isSignHere 47 (xWI (xWI g 131 ((3 * (xI g 132 ((xI g 113 29) - 1).toNatClampNeg)) + (xI g 133 ((xI g 113 29) - 1).toNatClampNeg)).toNatClampNeg y) 133 ((xI g 113 29) - 1).toNatClampNeg ((xI g 133 ((xI g 113 29) - 1).toNatClampNeg) + 1))) fun r61_10 => if r61_10 = 0 then K_X12_closes_82 ((xI g 113 29) - 1) (xWI (xWI g 131 ((3 * (xI g 132 ((xI g 113 29) - 1).toNatClampNeg)) + (xI g 133 ((xI g 113 29) - 1).toNatClampNeg)).toNatClampNeg y) 133 ((xI g 113 29) - 1).toNatClampNeg ((xI g 133 ((xI g 113 29) - 1).toNatClampNeg) + 1)) else K_X12_closes_67 (xWI (xWI g 131 ((3 * (xI g 132 ((xI g 113 29) - 1).toNatClampNeg)) + (xI g 133 ((xI g 113 29) - 1).toNatClampNeg)).toNatClampNeg y) 133 ((xI g 113 29) - 1).toNatClampNeg ((xI g 133 ((xI g 113 29) - 1).toNatClampNeg) + 1))) else K_X12_closes_82 ((xI g 113 29) - 1) (xWI (xWI g 131 ((3 * (xI g 132 ((xI g 113 29) - 1).toNatClampNeg)) + (xI g 133 ((xI g 113 29) - 1).toNatClampNeg)).toNatClampNeg y) 133 ((xI g 113 29) - 1).toNatClampNeg ((xI g 133 ((xI g 113 29) - 1).toNatClampNeg) + 1))))))))) := rfl
theorem r_close (hb : b ≤ 1) (hd : d ≤ 10) (hk : k < 60) (hw : w < 3) (h29 : xI g 113 29 = nI (d + 1)) (h132 : xI g 132 d = nI (60 * b + k)) (h133 : xI g 133 d = nI w) : E_X12_closes y g = if nI (w + 1) = 1 then K_X12_closes_67 (zCse g b k d w y) else if nI (w + 1) = 2 then (xb1 (E_X12_isSignHere 47 (zCse g b k d w y)) fun v => if v = 0 then K_X12_closes_82 (nI d) (zCse g b k d w y) else K_X12_closes_67 (zCse g b k d w y)) else K_X12_closes_82 (nI d) (zCse g b k d w y) := by
  have sub : nI (d + 1) - 1 = nI d := by
    rw [← nI_1]
    exact Int32.add_sub_cancel _ _
  have ew : xI (zCse g b k d w y) 133 d = nI (w + 1) := by unfold zCse; rw [yI_wi, if_pos ⟨rfl, rfl⟩]
  rw [k_closes, h29, sub, nI_clamp (by omega), h132, h133, show (3 * nI (60 * b + k)) + nI w = nI (3 * (60 * b + k) + w) from nI_b5 3 (60 * b + k) w, nI_clamp (by omega), nI_1]
  show xck 12 (nI d) (xck 12 (nI d) (xck 360 (nI (3 * (60 * b + k) + w)) (xck 12 (nI d) (xck 12 (nI d) (xck 12 (nI d) (if xI (zCse g b k d w y) 133 d = 1 then K_X12_closes_67 (zCse g b k d w y) else xck 12 (nI d) (if xI (zCse g b k d w y) 133 d = 2 then (xb1 (E_X12_isSignHere 47 (zCse g b k d w y)) fun v => if v = 0 then K_X12_closes_82 (nI d) (zCse g b k d w y) else K_X12_closes_67 (zCse g b k d w y)) else K_X12_closes_82 (nI d) (zCse g b k d w y)))))))) = _
  rw [xck_nI (by omega) (by decide), xck_nI (by omega) (by decide), xck_nI (by omega) (by decide), xck_nI (by omega) (by decide), xck_nI (by omega) (by decide), xck_nI (by omega) (by decide), xck_nI (by omega) (by decide), ew]
theorem r_close0 (hb : b ≤ 1) (hd : d ≤ 10) (hk : k < 60) (h29 : xI g 113 29 = nI (d + 1)) (h132 : xI g 132 d = nI (60 * b + k)) (h133 : xI g 133 d = 0) : E_X12_closes y g = K_X12_closes_67 (zCse g b k d 0 y) := by
  rw [r_close hb hd hk (w := 0) (by decide) h29 h132 h133, if_pos (by decide)]
theorem r_close1 (hb : b ≤ 1) (hd : d ≤ 10) (hk : k < 60) (h29 : xI g 113 29 = nI (d + 1)) (h132 : xI g 132 d = nI (60 * b + k)) (h133 : xI g 133 d = nI 1) : E_X12_closes y g = xb1 (E_X12_isSignHere 47 (zCse g b k d 1 y)) fun v => if v = 0 then K_X12_closes_82 (nI d) (zCse g b k d 1 y) else K_X12_closes_67 (zCse g b k d 1 y) := by
  rw [r_close hb hd hk (w := 1) (by decide) h29 h132 h133, if_neg (by decide), if_pos (by decide)]
theorem r_close2 (hb : b ≤ 1) (hd : d ≤ 10) (hk : k < 60) (h29 : xI g 113 29 = nI (d + 1)) (h132 : xI g 132 d = nI (60 * b + k)) (h133 : xI g 133 d = nI 2) : E_X12_closes y g = K_X12_closes_82 (nI d) (zCse g b k d 2 y) := by
  rw [r_close hb hd hk (w := 2) (by decide) h29 h132 h133, if_neg (by decide), if_neg (by decide)]
theorem r_s80F (h : zFR g m f pl) (a : Int32) : xlim (S_X12_readPlan_80 a) (y, g) = some (y, g) := by
  refine xlim_end ?_
  unfold S_X12_readPlan_80
  simp only [f_good h, if_pos]
theorem r_s80 (hg : F_X12_isGood g = 1) (hd : d ≤ 10) (h29 : xI g 113 29 = nI (d + 1)) {s1 : Int32 × xSt} (hc : E_X12_closes y g = some s1) (a : Int32) : xlim (S_X12_readPlan_80 a) (y, g) = xlim (S_X12_readPlan_80 a) s1 := by
  have e : S_X12_readPlan_80 a (y, g) = some (.inl s1) := by
    unfold S_X12_readPlan_80
    simp only [hg, h29]
    rw [if_neg (by decide), if_neg (show ¬ nI (d + 1) ≤ (0 : Int32) from nI_ge (b := d + 1) (a := 0) (by omega) (by omega)), hc]
    rfl
  exact xlim_go e
theorem r_82 (hd : d ≤ 10) {v : Int32} (e1 : E_X12_isSignHere 41 g = some v) (e2 : E_X12_must v g = some g1) (h29 : xI g1 113 29 = nI (d + 1)) (h132 : xI g1 132 d = nI (60 * b + k)) : K_X12_closes_82 (nI d) g = some (nI (60 * b + k), xWI g1 113 29 (nI d)) := by
  have sub : nI (d + 1) - 1 = nI d := by
    rw [← nI_1]
    exact Int32.add_sub_cancel _ _
  unfold K_X12_closes_82
  rw [e1, xb1_some, e2, xb1_some, xck_nI (by omega) (by decide), nI_clamp (by omega), h132, h29, sub]
theorem r_67 {v : Int32} (e1 : E_X12_isSignHere 47 g = some v) (e2 : E_X12_must v g = some g1) {s1 : Int32 × xSt} (e3 : E_X12_readP g1 = some s1) : K_X12_closes_67 g = some s1 := by
  unfold K_X12_closes_67
  rw [e1, xb1_some, e2, xb1_some, e3]
  rfl
end LC
