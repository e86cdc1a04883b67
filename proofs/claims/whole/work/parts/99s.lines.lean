/-! STREET: lines: twins and sticks -/
section LN
variable {gC gR gC' gR' g g' g1 : xSt} {t b n w u s r p k m o i q f pl : Nat} {bt : Nat → Nat} {v : Int32} {z : Int64}
def dCb (t o k : Nat) : Prop := (o = 20 ∧ 4 ≤ k ∧ k ≤ 11) ∨ (t ≤ o ∧ o ≤ t + 8)
def zCb (t : Nat) (g g' : xSt) : Prop := yAg (dCb t) g g' ∧ (∀ o k, ¬ ((o = 20 ∧ k = 8) ∨ o = t + 1 ∨ o = t + 4) → xL g' o k = xL g o k) ∧ zMo g g' ∧ zGC g g'
def dRb (b o k : Nat) : Prop := (o = 113 ∧ ((4 ≤ k ∧ k ≤ 10) ∨ k = 29)) ∨ ((o = 116 ∨ o = 117 ∨ o = 118 ∨ o = 121 ∨ o = 122 ∨ o = 123 ∨ o = 126 ∨ o = 127) ∧ k = b) ∨ ((o = 119 ∨ o = 120) ∧ 5 * b ≤ k ∧ k < 5 * b + 5) ∨ (o = 128 ∧ 3 * b ≤ k ∧ k < 3 * b + 3) ∨ ((o = 129 ∨ o = 130) ∧ 60 * b ≤ k ∧ k < 60 * b + 60) ∨ (o = 131 ∧ 180 * b ≤ k ∧ k < 180 * b + 180) ∨ o = 132 ∨ o = 133
def zRk (b : Nat) (g g' : xSt) : Prop := yAg (dRb b) g g' ∧ (∀ o k, ¬ ((o = 113 ∧ k = 10) ∨ o = 124 ∨ o = 125) → xL g' o k = xL g o k) ∧ zGk g g'
theorem zC0.cb (y : zC0 g g') : zCb t g g' := ⟨y.1.up fun o k z => by unfold dC0 at z; unfold dCb; omega, fun o k z => y.2.1 o k (fun x => z (Or.inl x)), y.2.2⟩
theorem zR0.rk (y : zR0 g g') : zRk b g g' := ⟨y.1.up fun o k z => by unfold dR0 at z; unfold dRb; omega, fun o k z => y.2.1 o k (fun x => z (Or.inl x)), y.2.2⟩
theorem zCb.refl : zCb t g g := ⟨yAg.refl _ _, fun _ _ _ => rfl, zMo.refl, zGC.refl⟩
theorem zRk.refl : zRk b g g := ⟨yAg.refl _ _, fun _ _ _ => rfl, zGk.refl⟩
theorem zCb.tr (h : zCb t g g1) (h2 : zCb t g1 g') : zCb t g g' := ⟨h.1.tr h2.1, fun o k q => (h2.2.1 o k q).trans (h.2.1 o k q), h.2.2.1.tr h2.2.2.1, h.2.2.2.tr h2.2.2.2⟩
theorem zRk.tr (h : zRk b g g1) (h2 : zRk b g1 g') : zRk b g g' := ⟨h.1.tr h2.1, fun o k q => (h2.2.1 o k q).trans (h.2.1 o k q), h.2.2.tr h2.2.2⟩
theorem zCb.wi (h : zCb t g g') (d : dCb t o k) (h20 : o ≠ 20 := by omega) : zCb t g (xWI g' o k v) := ⟨h.1.wi d, h.2.1, h.2.2.1.tr fun a p h1 h2 h3 h4 => ⟨a, p, Nat.le_refl _, Nat.le_refl _, h1, h2, by rw [yI_wi, if_neg (by omega)]; exact h3, by rw [yI_wi, if_neg (by omega)]; exact h4, fun x => x.imp id fun x => by rw [yI_wi, if_neg (by omega)]; exact x⟩, h.2.2.2.tr (zGC.of (by rw [yI_wi, if_neg (by omega)]) (by rw [yI_wi, if_neg (by omega)]))⟩
theorem zRk.wi (h : zRk b g g') (d : dRb b o k) (h45 : ¬ (o = 113 ∧ (k = 4 ∨ k = 5)) := by omega) : zRk b g (xWI g' o k v) := ⟨h.1.wi d, h.2.1, h.2.2.tr (zGk.of (by rw [yI_wi, if_neg (by omega)]) (by rw [yI_wi, if_neg (by omega)]))⟩
theorem zCb.wl (h : zCb t g g') (d : o = t + 1 ∨ o = t + 4) : zCb t g (xWL g' o k z) := ⟨⟨h.1.1, h.1.2⟩, fun a c x => by rw [yL_wl, if_neg (by omega)]; exact h.2.1 a c x, h.2.2.1.tr fun a p h1 h2 h3 h4 => ⟨a, p, Nat.le_refl _, Nat.le_refl _, h1, h2, h3, h4, id⟩, h.2.2.2.tr (zGC.of rfl rfl)⟩
theorem zRk.wl (h : zRk b g g') (d : o = 124 ∨ o = 125) : zRk b g (xWL g' o k z) := ⟨⟨h.1.1, h.1.2⟩, fun a c x => by rw [yL_wl, if_neg (by omega)]; exact h.2.1 a c x, h.2.2.tr (zGk.of rfl rfl)⟩
theorem zTxC.cb (ht : t = 2 ∨ t = 11) (h : zTxC g m bt) (y : zCb t g g') : zTxC g' m bt := ⟨h.1, h.2.1, (y.1.2 20 2 (by unfold dCb; omega)).trans h.2.2.1, fun k hk => by rw [y.1.2 1 k (by unfold dCb; omega)]; exact h.2.2.2.1 k hk, fun j hj => (y.2.1 21 j (by omega)).trans (h.2.2.2.2 j hj)⟩
theorem zTxR.rk (h : zTxR g m bt) (y : zRk b g g') : zTxR g' m bt := ⟨h.1, h.2.1, (y.1.2 113 3 (by unfold dRb; omega)).trans h.2.2.1, fun k hk => by rw [y.1.2 115 k (by unfold dRb; omega)]; exact h.2.2.2 k hk⟩
theorem zRk.b31 (y : zRk b g g') (h : xI g 113 31 = nI b) : xI g' 113 31 = nI b := (y.1.2 113 31 (by unfold dRb; omega)).trans h
theorem zGo2.cg (h : zGo2 gC gR m bt) (eC : ∀ k, xI gC' 20 k = xI gC 20 k) (lC : xL gC' 20 8 = xL gC 20 8) (eR : ∀ k, 4 ≤ k → k ≤ 10 → xI gR' 113 k = xI gR 113 k) (lR : xL gR' 113 10 = xL gR 113 10) : zGo2 gC' gR' m bt := by
  obtain ⟨h1, h2, st, sp, h3⟩ := h
  refine ⟨(eC 10).trans h1, (eR 4 (by decide) (by decide)).trans h2, st, sp, ?_⟩
  rw [eC 4, eC 5, eC 6, eC 7, eC 9, lC, eR 6 (by decide) (by decide), eR 7 (by decide) (by decide), eR 8 (by decide) (by decide), eR 9 (by decide) (by decide), lR]
  exact h3
theorem zFC.cg (h : zFC g m f pl) (e : ∀ k, xI g' 20 k = xI g 20 k) : zFC g' m f pl := by
  unfold zFC
  rw [e, e, e, e]
  exact h
theorem zFR.cg (h : zFR g m f pl) (e : ∀ k, 4 ≤ k → k ≤ 10 → xI g' 113 k = xI g 113 k) : zFR g' m f pl := by
  unfold zFR
  rw [e 4 (by decide) (by decide), e 5 (by decide) (by decide), e 6 (by decide) (by decide)]
  exact h
def zWays (gC gR : xSt) (t b k : Nat) : Prop := ∀ i, i < k → ∀ q, q < 3 → zV3 gC gR t b k i q
theorem zWays.cg (h : zWays gC gR t b k) (eC : ∀ k, xI gC' (t + 8) k = xI gC (t + 8) k) (eR : ∀ k, xI gR' 131 k = xI gR 131 k) : zWays gC' gR' t b k := fun i hi q hq => (h i hi q hq).cg eC eR
/-- between lines -/
def zLn (g0 gC gR : xSt) (m : Nat) (bt : Nat → Nat) (t b : Nat) : Prop := (zGo2 gC gR m bt ∧ (∃ g1, E_X6_advance g0 = some g1 ∧ zCb t g1 gC) ∧ ∃ n r p k, zTbl gC gR t b n r p k ∧ xI gR 123 b = nI (if r = 0 then 0 else 1) ∧ zWays gC gR t b k) ∨ zFd gC gR m
/-- the reference's lines -/
theorem lg_own {i j : Nat} (hi : i < 7) (hj : j < 7) (h : j ≠ i) : ¬ lg_cmp (zOwn j) (zOwn i) = 0 := fun x => h ((zOwn_inj j hj i hi).mp ((lg_0 _ _).mp x))
theorem r_lineF (h : F_X12_isGood g = 0) (z : Int64) : K_X12_readLine_24 z g = some g := by
  unfold K_X12_readLine_24
  rw [h, if_pos rfl]
theorem r_line (h8 : xI g 113 8 = 3) {x : Int32} (hx : E_X12_isFull g = some x) : E_X12_readLine g = if x = 0 then K_X12_readLine_24 (xL g 113 10) g else xb1 (E_X12_misplaced g) fun g' => K_X12_readLine_24 (xL g 113 10) g' := by
  unfold E_X12_readLine K_X12_readLine_20
  rw [if_pos h8, hx, xb1_some]
theorem r_word (h8 : xI g 113 8 = 3) {i j : Nat} (hi : i < 7) (hj : j < 7) (hw : xL g 113 10 = zOwn j) : F_X12_isWord g (zOwn i) = if j = i then 1 else 0 := by
  unfold F_X12_isWord
  rw [if_pos h8, hw]
  by_cases c : j = i
  · rw [if_pos c, if_pos ((lg_0 _ _).mpr (by rw [c]))]
  · rw [if_neg c, if_neg (lg_own hi hj c)]
theorem r_fullJ (hb : b ≤ 1) (h31 : xI g 113 31 = nI b) (h8 : xI g 113 8 = 3) {j : Nat} (hj : j < 7) (hw : xL g 113 10 = zOwn j) (b1 : xI g 121 b = 0 ∨ xI g 121 b = 1) (b2 : xI g 122 b = 0 ∨ xI g 122 b = 1) : E_X12_isFull g = some (if j = 0 then (if xI g 116 b = 5 then 1 else 0) else if j = 2 then xI g 121 b else if j = 3 then xI g 122 b else if j = 5 then (if xI g 126 b = 3 then 1 else 0) else if j = 4 then (if xI g 123 b = 0 then 0 else 1) else 1) := by
  have w0 := r_word h8 (i := 0) (by decide) hj hw
  have w2 := r_word h8 (i := 2) (by decide) hj hw
  have w3 := r_word h8 (i := 3) (by decide) hj hw
  have w4 := r_word h8 (i := 4) (by decide) hj hw
  have w5 := r_word h8 (i := 5) (by decide) hj hw
  have z01 : ∀ x : Int32, x = 0 ∨ x = 1 → xz01 x (some x) = some x := fun x hx => by rcases hx with e | e <;> rw [e] <;> rfl
  have c1 : ∀ (c : Prop) [Decidable c], xz01 (if c then (1 : Int32) else 0) (some (if c then (1 : Int32) else 0)) = some (if c then (1 : Int32) else 0) := fun c _ => z01 _ ((Decidable.em c).elim (fun d => by rw [if_pos d]; exact Or.inr rfl) (fun d => by rw [if_neg d]; exact Or.inl rfl))
  have c2 : ∀ (c : Prop) [Decidable c], xz01 (if c then (0 : Int32) else 1) (some (if c then (0 : Int32) else 1)) = some (if c then (0 : Int32) else 1) := fun c _ => z01 _ ((Decidable.em c).elim (fun d => by rw [if_pos d]; exact Or.inl rfl) (fun d => by rw [if_neg d]; exact Or.inr rfl))
  unfold E_X12_isFull
  rw [show (499967946343 : Int64) = zOwn 0 from rfl, show (500219604595 : Int64) = zOwn 2 from rfl, show (126943821523827 : Int64) = zOwn 3 from rfl, show (1886151022 : Int64) = zOwn 5 from rfl, show (7499639 : Int64) = zOwn 4 from rfl, w0, w2, w3, w4, w5]
  rw [h31, xck_nI (by omega) (by decide), xck_nI (by omega) (by decide), xck_nI (by omega) (by decide), xck_nI (by omega) (by decide), xck_nI (by omega) (by decide), nI_clamp (by omega), c1, c1, c2, z01 _ b1, z01 _ b2]
  have : j = 0 ∨ j = 1 ∨ j = 2 ∨ j = 3 ∨ j = 4 ∨ j = 5 ∨ j = 6 := by omega
  rcases this with e | e | e | e | e | e | e <;> subst e <;> rfl
theorem r_ln2 (hg : F_X12_isGood g = 1) (h : E_X12_goOn g = some g1) (hb : b ≤ 1) (h31 : xI g1 113 31 = nI b) : K_X12_readLine_24 (zOwn 2) g = K_X12_readLine_124 (xWI g1 121 b 1) := by
  unfold K_X12_readLine_24
  rw [hg, if_neg (by decide), h, xb1_some, show (500219604595 : Int64) = zOwn 2 from rfl, if_pos ((lg_0 _ _).mpr rfl), h31, xck_nI (by omega) (by decide), nI_clamp (by omega)]
  unfold K_X12_readLine_54
  rw [show (126943821523827 : Int64) = zOwn 3 from rfl, if_neg (lg_own (by decide) (by decide) (by decide))]
  unfold K_X12_readLine_88
  rw [show (499967946343 : Int64) = zOwn 0 from rfl, if_neg (lg_own (by decide) (by decide) (by decide))]
  unfold K_X12_readLine_100
  rw [show (7499639 : Int64) = zOwn 4 from rfl, if_neg (lg_own (by decide) (by decide) (by decide))]
  unfold K_X12_readLine_112
  rw [show (1886151022 : Int64) = zOwn 5 from rfl, if_neg (lg_own (by decide) (by decide) (by decide))]
theorem r_ln3 (hg : F_X12_isGood g = 1) (h : E_X12_goOn g = some g1) (hb : b ≤ 1) (h31 : xI g1 113 31 = nI b) {g2 : xSt} {x : Int32} (hn : E_X12_numeral 0 99 (xWI g1 122 b 1) = some (x, g2)) : K_X12_readLine_24 (zOwn 3) g = K_X12_readLine_124 (xWI g2 117 b x) := by
  unfold K_X12_readLine_24
  rw [hg, if_neg (by decide), h, xb1_some, show (500219604595 : Int64) = zOwn 2 from rfl, if_neg (lg_own (by decide) (by decide) (by decide))]
  unfold K_X12_readLine_54
  rw [show (126943821523827 : Int64) = zOwn 3 from rfl, if_pos ((lg_0 _ _).mpr rfl), h31, xck_nI (by omega) (by decide), nI_clamp (by omega), hn, xb2_some, xck_nI (by omega) (by decide)]
  unfold K_X12_readLine_88
  rw [show (499967946343 : Int64) = zOwn 0 from rfl, if_neg (lg_own (by decide) (by decide) (by decide))]
  unfold K_X12_readLine_100
  rw [show (7499639 : Int64) = zOwn 4 from rfl, if_neg (lg_own (by decide) (by decide) (by decide))]
  unfold K_X12_readLine_112
  rw [show (1886151022 : Int64) = zOwn 5 from rfl, if_neg (lg_own (by decide) (by decide) (by decide))]
theorem r_ln0 (hg : F_X12_isGood g = 1) (h : E_X12_goOn g = some g1) {g2 : xSt} (hn : E_X12_readThing g1 = some g2) : K_X12_readLine_24 (zOwn 0) g = K_X12_readLine_124 g2 := by
  unfold K_X12_readLine_24
  rw [hg, if_neg (by decide), h, xb1_some, show (500219604595 : Int64) = zOwn 2 from rfl, if_neg (lg_own (by decide) (by decide) (by decide))]
  unfold K_X12_readLine_54
  rw [show (126943821523827 : Int64) = zOwn 3 from rfl, if_neg (lg_own (by decide) (by decide) (by decide))]
  unfold K_X12_readLine_88
  rw [show (499967946343 : Int64) = zOwn 0 from rfl, if_pos ((lg_0 _ _).mpr rfl), hn, xb1_some]
  unfold K_X12_readLine_100
  rw [show (7499639 : Int64) = zOwn 4 from rfl, if_neg (lg_own (by decide) (by decide) (by decide))]
  unfold K_X12_readLine_112
  rw [show (1886151022 : Int64) = zOwn 5 from rfl, if_neg (lg_own (by decide) (by decide) (by decide))]
theorem r_ln4 (hg : F_X12_isGood g = 1) (h : E_X12_goOn g = some g1) {g2 : xSt} (hn : E_X12_readRow g1 = some g2) : K_X12_readLine_24 (zOwn 4) g = K_X12_readLine_124 g2 := by
  unfold K_X12_readLine_24
  rw [hg, if_neg (by decide), h, xb1_some, show (500219604595 : Int64) = zOwn 2 from rfl, if_neg (lg_own (by decide) (by decide) (by decide))]
  unfold K_X12_readLine_54
  rw [show (126943821523827 : Int64) = zOwn 3 from rfl, if_neg (lg_own (by decide) (by decide) (by decide))]
  unfold K_X12_readLine_88
  rw [show (499967946343 : Int64) = zOwn 0 from rfl, if_neg (lg_own (by decide) (by decide) (by decide))]
  unfold K_X12_readLine_100
  rw [show (7499639 : Int64) = zOwn 4 from rfl, if_pos ((lg_0 _ _).mpr rfl), hn, xb1_some]
  unfold K_X12_readLine_112
  rw [show (1886151022 : Int64) = zOwn 5 from rfl, if_neg (lg_own (by decide) (by decide) (by decide))]
theorem r_ln5 (hg : F_X12_isGood g = 1) (h : E_X12_goOn g = some g1) {g2 : xSt} (hn : E_X12_readPlan g1 = some g2) : K_X12_readLine_24 (zOwn 5) g = K_X12_readLine_124 g2 := by
  unfold K_X12_readLine_24
  rw [hg, if_neg (by decide), h, xb1_some, show (500219604595 : Int64) = zOwn 2 from rfl, if_neg (lg_own (by decide) (by decide) (by decide))]
  unfold K_X12_readLine_54
  rw [show (126943821523827 : Int64) = zOwn 3 from rfl, if_neg (lg_own (by decide) (by decide) (by decide))]
  unfold K_X12_readLine_88
  rw [show (499967946343 : Int64) = zOwn 0 from rfl, if_neg (lg_own (by decide) (by decide) (by decide))]
  unfold K_X12_readLine_100
  rw [show (7499639 : Int64) = zOwn 4 from rfl, if_neg (lg_own (by decide) (by decide) (by decide))]
  unfold K_X12_readLine_112
  rw [show (1886151022 : Int64) = zOwn 5 from rfl, if_pos ((lg_0 _ _).mpr rfl), hn, xb1_some]
/-- the line's end, jointly -/
theorem j_end (hC : zTxC gC m bt) (hR : zTxR gR m bt) (h : zGo2 gC gR m bt) : ∃ gC' gR', E_X6_takeSign 59 gC = some gC' ∧ K_X12_readLine_124 gR = some gR' ∧ zC0 gC gC' ∧ zR0 gR gR' ∧ (zGo2 gC' gR' m bt ∨ zFd gC' gR' m) := by
  obtain ⟨gC', gR', v, a1, a2, a3, a4, a5, a6⟩ := j_sign hC hR h (b := 59) (Or.inl rfl)
  have a1 : E_X6_takeSign 59 gC = some gC' := a1
  have a2 : E_X12_isSignHere 59 gR = some v := a2
  refine ⟨gC', gR', a1, ?_, a4, a5, a6⟩
  unfold K_X12_readLine_124
  rw [a2, xb1_some, a3, xb1_some]
theorem f_endR (hR : zTxR gR m bt) (h : zFR gR m f pl) : K_X12_readLine_124 gR = some gR := by
  obtain ⟨v, e⟩ := f_signH hR h 59
  unfold K_X12_readLine_124
  rw [e, xb1_some, f_must h, xb1_some]
end LN
