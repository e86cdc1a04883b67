/-! STREET: a part, read by both: what it gives, and its steps -/
section LS
variable {gC gR gC' gR' g g' g1 : xSt} {t b n w u s r p k k1 k2 lo hi m o i q f pl d e : Nat} {bt : Nat → Nat} {x y : Int32}
def zFCp (gC gC' : xSt) (t k : Nat) : Prop := ∀ o q, o ≤ 19 → ¬ (o = t ∧ q = 11) → o ≠ t + 6 → o ≠ t + 7 → ¬ (o = t + 8 ∧ 3 * k ≤ q) → xI gC' o q = xI gC o q ∧ xL gC' o q = xL gC o q
def zFRp (gR gR' : xSt) (b k d : Nat) : Prop := ∀ o q, 116 ≤ o → ¬ (o = 127 ∧ q = b) → o ≠ 129 → o ≠ 130 → ¬ (o = 131 ∧ 3 * (60 * b + k) ≤ q) → ¬ ((o = 132 ∨ o = 133) ∧ d ≤ q) → xI gR' o q = xI gR o q ∧ xL gR' o q = xL gR o q
def zWz (gC gR : xSt) (t b lo hi k : Nat) : Prop := ∀ i, lo ≤ i → i < hi → ∀ q, q < 3 → zV3 gC gR t b k i q
theorem yway_lt (q : Nat) (h : q < 3) : yway q < 3 := by
  unfold yway
  by_cases c : q = 0
  · rw [if_pos c]; omega
  · rw [if_neg c]; omega
theorem zWz.mv (h : zWz gC gR t b lo hi k1) (hk : k1 ≤ k2) (eC : ∀ c, 3 * lo ≤ c → c < 3 * hi → xI gC' (t + 8) c = xI gC (t + 8) c) (eR : ∀ c, 3 * (60 * b + lo) ≤ c → c < 3 * (60 * b + hi) → xI gR' 131 c = xI gR 131 c) : zWz gC' gR' t b lo hi k2 := fun i h1 h2 q hq => by
  obtain ⟨v, a1, a2, a3⟩ := h i h1 h2 q hq
  have := yway_lt q hq
  exact ⟨v, by omega, (eC _ (by omega) (by omega)).trans a2, (eR _ (by omega) (by omega)).trans a3⟩
theorem zWz.jn {md : Nat} (h : zWz gC gR t b lo md k) (h' : zWz gC gR t b md hi k) : zWz gC gR t b lo hi k := fun i h1 h2 q hq => by
  by_cases c : i < md
  · exact h i h1 c q hq
  · exact h' i (by omega) h2 q hq
def zPq (gC gR gC' gR' : xSt) (m : Nat) (bt : Nat → Nat) (t b n k d : Nat) (x y : Int32) : Prop := zFd gC' gR' m ∨ (zGo2 gC' gR' m bt ∧ xI gR' 113 29 = nI d ∧ ∃ k' v, k ≤ k' ∧ (v = 0 ∨ (k < v ∧ v ≤ k')) ∧ x = nI v - 1 ∧ y = ytwo b v ∧ zV2 gC' gR' t b n k' ∧ zWz gC' gR' t b k k' k' ∧ zFCp gC gC' t k ∧ zFRp gR gR' b k d)
/-- a part at its depth -/
def zPz (t b n m : Nat) (bt : Nat → Nat) (e d : Nat) : Prop := ∀ gC gR k, xI gR 113 31 = nI b → zTxC gC m bt → zTxR gR m bt → zGo2 gC gR m bt → zVn gC gR t b n → zV2 gC gR t b n k → xI gR 113 29 = nI d → ∃ x gC' s0 y gR', R_X6_readPart (e + 2) t (nI d) gC = some (x, gC') ∧ E_X12_readP gR = some s0 ∧ (∀ a, xlim (S_X12_readPlan_80 a) s0 = xlim (S_X12_readPlan_80 a) (y, gR')) ∧ zCb t gC gC' ∧ zRk b gR gR' ∧ zPq gC gR gC' gR' m bt t b n k d x y
theorem j_slash (ht : t = 2 ∨ t = 11) (IH : zPz t b n m bt e (d + 1)) (h31 : xI gR 113 31 = nI b) (hC : zTxC gC m bt) (hR : zTxR gR m bt) (h : zGo2 gC gR m bt) (Tn : zVn gC gR t b n) (T2 : zV2 gC gR t b n k) (h29 : xI gR 113 29 = nI (d + 1)) : ∃ gC1 x gC' s1 y gR', E_X6_takeSign 47 gC = some gC1 ∧ R_X6_readPart (e + 2) t (nI (d + 1)) gC1 = some (x, gC') ∧ K_X12_closes_67 gR = some s1 ∧ (∀ a, xlim (S_X12_readPlan_80 a) s1 = xlim (S_X12_readPlan_80 a) (y, gR')) ∧ zCb t gC gC' ∧ zRk b gR gR' ∧ zPq gC gR gC' gR' m bt t b n k (d + 1) x y := by
  obtain ⟨gC1, gR1, v, a1, a2, a3, a4, a5, a6⟩ := j_sign (b := 47) hC hR h (Or.inr (Or.inr (Or.inr rfl)))
  have a1 : E_X6_takeSign 47 gC = some gC1 := a1
  have a2 : E_X12_isSignHere 47 gR = some v := a2
  rcases a6 with go | ⟨fd, pl, d1, d2, d3⟩
  · obtain ⟨x, gC', s0, y, gR', b1, b2, b3, b4, b5, b6⟩ := IH gC1 gR1 k (a5.rk.b31 h31) (hC.c0 a4) (hR.r0 a5) go (Tn.cg (fun o k z => a4.at (by omega)) (fun o k z => a5.at (by omega))) (T2.cg (fun o k z => (a4.at (by omega)).1) (fun o k z => (a5.at (by omega)).1)) ((a5.1.2 113 29 (by unfold dR0; omega)).trans h29)
    refine ⟨gC1, x, gC', s0, y, gR', a1, b1, r_67 a2 a3 b2, b3, a4.cb.tr b4, a5.rk.tr b5, ?_⟩
    rcases b6 with b6 | ⟨c1, c2, k', v, c3, c4, c5, c6, c7, c8, c9, c10⟩
    · exact Or.inl b6
    · exact Or.inr ⟨c1, c2, k', v, c3, c4, c5, c6, c7, c8, fun o q h1 h2 h3 h4 h5 => ⟨(c9 o q h1 h2 h3 h4 h5).1.trans (a4.at (by omega)).1, (c9 o q h1 h2 h3 h4 h5).2.trans (a4.at (by omega)).2⟩, fun o q h1 h2 h3 h4 h5 h6 => ⟨(c10 o q h1 h2 h3 h4 h5 h6).1.trans (a5.at (by omega)).1, (c10 o q h1 h2 h3 h4 h5 h6).2.trans (a5.at (by omega)).2⟩⟩
  · exact ⟨gC1, -1, gC1, (-1, gR1), -1, gR1, a1, f_part (e + 1) _ d2, r_67 a2 a3 (r_partF d3), fun _ => rfl, a4.cb, a5.rk, Or.inl ⟨fd, pl, d1, d2, d3⟩⟩
theorem adv_of (h : xI g 20 6 = 47) (e : E_X6_takeSign 47 g = some g') : E_X6_advance g = some g' := by
  unfold E_X6_takeSign at e
  rw [if_pos h] at e
  rcases hA : E_X6_advance g with _ | g2
  · rw [hA] at e
    exact nomatch (show (none : Option xSt) = some g' from e)
  · rw [hA, xb1_some] at e
    exact e
/-- the two's end -/
theorem j_close (hd : d ≤ 10) (hC : zTxC gC m bt) (hR : zTxR gR m bt) (h : zGo2 gC gR m bt) (h29 : xI gR 113 29 = nI (d + 1)) (h132 : xI gR 132 d = nI (60 * b + k)) : ∃ gC' gR', E_X6_takeSign 41 gC = some gC' ∧ K_X12_closes_82 (nI d) gR = some (nI (60 * b + k), gR') ∧ zC0 gC gC' ∧ zRk b gR gR' ∧ (∀ o q, 116 ≤ o → xI gR' o q = xI gR o q ∧ xL gR' o q = xL gR o q) ∧ ((zGo2 gC' gR' m bt ∧ xI gR' 113 29 = nI d) ∨ zFd gC' gR' m) := by
  obtain ⟨gC1, gR1, v, a1, a2, a3, a4, a5, a6⟩ := j_sign (b := 41) hC hR h (Or.inr (Or.inr (Or.inl rfl)))
  have a1 : E_X6_takeSign 41 gC = some gC1 := a1
  have a2 : E_X12_isSignHere 41 gR = some v := a2
  refine ⟨gC1, xWI gR1 113 29 (nI d), a1, r_82 hd a2 a3 ((a5.1.2 113 29 (by unfold dR0; omega)).trans h29) ((a5.at (by omega)).1.trans h132), a4, a5.rk.wi (by unfold dRb; omega), fun o q ho => ⟨by rw [yI_wi, if_neg (by omega)]; exact (a5.at (by omega)).1, (a5.at (by omega)).2⟩, ?_⟩
  rcases a6 with go | ⟨fd, pl, d1, d2, d3⟩
  · exact Or.inl ⟨go.cg (fun _ => rfl) rfl (fun k _ _ => by rw [yI_wi, if_neg (by omega)]) rfl, by rw [yI_wi, if_pos ⟨rfl, rfl⟩]⟩
  · exact Or.inr ⟨fd, pl, d1, d2, d3.cg fun k _ _ => by rw [yI_wi, if_neg (by omega)]⟩
theorem zCse_at (g : xSt) : xI (zCse g b k d w y) o q = if o = 133 ∧ q = d then nI (w + 1) else if o = 131 ∧ q = 3 * (60 * b + k) + w then y else xI g o q := by
  unfold zCse
  rw [yI_wi, yI_wi]
theorem zCse_rk (hk : k < 60) (hw : w < 3) : zRk b g (zCse g b k d w y) := by
  unfold zCse
  exact (zRk.refl.wi (by unfold dRb; omega)).wi (by unfold dRb; omega)
/-- where no part can begin, or too deep -/
theorem j_partBad (ht : t = 2 ∨ t = 11) (hC : zTxC gC m bt) (h : zGo2 gC gR m bt) (Tn : zVn gC gR t b n) (T2 : zV2 gC gR t b n k) {rP : Nat → Int32 → xSt → Option (Int32 × xSt)} (hF : ∀ g f pl a, zFC g m f pl → rP t a g = some (-1, g)) (c : Int32) (ow : F_X6_isOwn gC 6 = 0) (bad : ¬ (k < 60 ∧ xI gR 113 8 = 2)) : ∃ x gC' gR', K_X6_readPart_11 rP t c gC = some (x, gC') ∧ E_X12_misplaced gR = some gR' ∧ zCb t gC gC' ∧ zR0 gR gR' ∧ zFd gC' gR' m := by
  obtain ⟨gC1, gR1, a1, a2, a3, a4, fd, pl, a5, a6, a7⟩ := j_mis hC h
  obtain ⟨z, gC2, b1, b2, b3⟩ := f_P52 (rP := rP) ht hF Tn.1 ((a3.at (by omega)).1.trans Tn.2.1) (hC.c0 a3) a6 c
  refine ⟨z, gC2, gR1, ?_, a2, a3.cb.tr b2, a4, fd, pl, a5, b3, a7⟩
  unfold K_X6_readPart_11
  rw [if_pos h.1, if_pos ow, T2.2.1]
  by_cases k60 : k < 60
  · rw [if_pos (show nI k < 60 from (nI_ltI (b := 60) (by omega) (by decide)).mpr k60)]
    have nm : F_X6_isName gC = 0 := by
      rcases h.2.2.name with ⟨_, x, _⟩ | ⟨x, _⟩
      · exact (bad ⟨k60, x⟩).elim
      · exact x
    have e1 : E_X6_takeThing t 0 gC = E_X6_takeThing t 0 gC1 := by
      unfold E_X6_takeThing
      rw [nm, if_pos rfl, a1, xb1_some, f_isName a6, if_pos rfl, f_fail a6, xb1_some]
    rw [k_p52, e1, ← k_p52, b1]
  · rw [if_neg (show ¬ nI k < 60 from fun x => k60 ((nI_ltI (b := 60) (by have := T2.1; omega) (by decide)).mp x)), a1, xb1_some, b1]
end LS
