/-! STREET: what both sides hold when the text is read -/
section RD
variable {g gR g1 g' : xSt} {t b n r p k m o i q f pl β : Nat} {bt : Nat → Nat} {T : yT}
theorem c_read (ht : t = 2 ∨ t = 11) (hb : β ≤ 1) (hm : m ≤ 1200) (own : ∀ j, j < 7 → xL g 21 j = zOwn j) (hbt : ∀ k, k < m → bt k < 256 ∧ xI g 1 k &&& 255 = nI (bt k)) (h2 : xI g 113 2 = nI m) (hrt : ∀ k, k < m → xI g 114 k &&& 255 = nI (bt k)) (h30 : xI g 113 30 = nI β) : ∃ g1, E_X6_read t (nI m) g = some g1 ∧ yAg (dCb t) (xRd g (nI m) t) g1 ∧ ∀ o k, ¬ ((o = 20 ∧ k = 8) ∨ o = t + 1 ∨ o = t + 4) → xL g1 o k = xL g o k := by
  obtain ⟨gC', gR', e1, -, yC, lC, -⟩ := j_text (gC := g) (gR := g) ht hb hm own hbt h2 hrt h30
  obtain ⟨g1, f1, f2, f3⟩ := c_fullAny (g := gC') (t := t)
  refine ⟨g1, by rw [e1, f1, xb1_some], yC.tr (f2.up fun o k z => by unfold dFu at z; unfold dCb; omega), fun o k z => by rw [f3]; exact lC o k z⟩
theorem j_read (ht : t = 2 ∨ t = 11) (hb : β ≤ 1) (hm : m ≤ 1200) (own : ∀ j, j < 7 → xL g 21 j = zOwn j) (hbt : ∀ k, k < m → bt k < 256 ∧ xI g 1 k &&& 255 = nI (bt k)) (hE : E_X6_read t (nI m) g = some g1) (h2 : xI gR 113 2 = nI m) (hrt : ∀ k, k < m → xI gR 114 k &&& 255 = nI (bt k)) (h30 : xI gR 113 30 = nI β) : ∃ gR', E_X12_street gR = K_X12_street_95 gR' ∧ yAg (dRs (1 - β)) gR gR' ∧ (∀ o k, ¬ ((o = 113 ∧ k = 10) ∨ o = 124 ∨ o = 125) → xL gR' o k = xL gR o k) ∧ xI gR' 113 2 = 0 ∧ xI gR' 113 31 = nI (1 - β) ∧ ((xI g1 20 10 = 0 ∧ xI gR' 113 4 = 0 ∧ xI g1 20 11 = -1 ∧ xI gR' 113 5 = -1 ∧ ∃ n p k gR2, E_X12_layClerk (xWI gR' 113 30 (nI (1 - β))) = some gR2 ∧ yAg (dLk (1 - β)) (xWI gR' 113 30 (nI (1 - β))) gR2 ∧ xL gR2 = xL gR' ∧ zTbl g1 gR2 t (1 - β) n n p k ∧ zWays g1 gR2 t (1 - β) k) ∨ ∃ f pl, 0 < f ∧ f ≤ 5 ∧ xI g1 20 10 = nI f ∧ xI g1 20 11 = nI pl ∧ xI gR' 113 4 = nI f ∧ xI gR' 113 5 = nI pl) := by
  obtain ⟨gC', gR', e1, e2, yC, lC, yR, lR, r2, r31, mC, mR, en⟩ := j_text (gC := g) (gR := gR) ht hb hm own hbt h2 hrt h30
  obtain ⟨gX, f1, f2, f3⟩ := c_fullAny (g := gC') (t := t)
  have eX : gX = g1 := by
    rw [e1, f1, xb1_some] at hE
    exact Option.some.inj hE
  subst eX
  have k20 : ∀ k, xI gX 20 k = xI gC' 20 k := fun k => f2.2 20 k (by unfold dFu; omega)
  refine ⟨gR', e2, yR, lR, r2, r31, ?_⟩
  generalize hbe : 1 - β = b at *
  have hb1 : b ≤ 1 := by omega
  rcases en with ⟨go, n, r, p, k, T, -, Wy⟩ | ⟨f, pl, -, ⟨c1, c2, c3, c4, -⟩, ⟨-, -, d3, d4, -⟩⟩
  · left
    refine ⟨(k20 10).trans go.1, go.2.1, (k20 11).trans (mC go.1), mR go.2.1, ?_⟩
    have T' : zTbl gC' (xWI gR' 113 30 (nI b)) t b n r p k := T.cg (fun o k _ _ => ⟨rfl, rfl⟩) (fun o k h1 h2 => ⟨by rw [yI_wi, if_neg (by omega)], rfl⟩)
    obtain ⟨gC2, gR2, u1, u2, u3, u4, u5, u6, u7⟩ := j_clerk hb1 T' (by rw [yI_wi, if_pos ⟨rfl, rfl⟩]) (by rw [yI_wi, if_neg (by omega)]; exact r31)
    have e : gC2 = gX := Option.some.inj (u1.symm.trans f1)
    subst e
    refine ⟨n, p, k, gR2, u2, u5, u6, ⟨?_, ?_, u7, ?_, ?_⟩, ?_⟩
    · exact T'.1.cg (fun o k z => ⟨u3.2 o k (by unfold dFu; omega), by rw [u4]⟩) (fun o k z => ⟨u5.2 o k (by unfold dLk; omega), by rw [u6]⟩)
    · exact T'.2.1.cg (fun k z => u3.2 t k (by unfold dFu; omega)) (fun o z => u5.2 o b (by unfold dLk; omega))
    · exact T'.2.2.2.1.cg (fun o k z => ⟨u3.2 o k (by unfold dFu; omega), by rw [u4]⟩) (fun o k z => ⟨u5.2 o k (by unfold dLk; omega), by rw [u6]⟩)
    · exact T'.2.2.2.2.cg (fun o k z => u3.2 o k (by unfold dFu; omega)) (fun o k z => u5.2 o k (by unfold dLk; omega))
    · exact Wy.cg (fun k => u3.2 (t + 8) k (by unfold dFu; omega)) (fun k => by rw [u5.2 131 k (by unfold dLk; omega), yI_wi, if_neg (by omega)])
  · right
    exact ⟨f, pl, c1, c2, (k20 10).trans c3, (k20 11).trans c4, d3, d4⟩
/-- the street's table, as both sides hold it -/
def zT (g : xSt) (t n w s p k : Nat) : yT := fun a i =>
  if a = 0 then (if i = 0 then n else if i = 1 then w else if i = 2 then s else if i = 3 then p else k)
  else if a = 3 then (xI g (t + 5) i + 1).toNatClampNeg
  else if a = 6 then (xI g (t + 8) i + 1).toNatClampNeg
  else if a = 1 then (xI g (t + 2) i).toNatClampNeg
  else if a = 2 then (xI g (t + 3) i).toNatClampNeg
  else if a = 4 then (xI g (t + 6) i).toNatClampNeg
  else (xI g (t + 7) i).toNatClampNeg
theorem nI_back {x : Int32} {v : Nat} (h : x = nI v) (hv : v < 2 ^ 31) : x.toNatClampNeg = v := by rw [h, nI_clamp hv]
theorem nI_back1 {x : Int32} {v : Nat} (h : x = nI v - 1) (hv : v < 2 ^ 31) : (x + 1).toNatClampNeg = v := by
  rw [h, Int32.sub_add_cancel, nI_clamp hv]
theorem j_town (hb : b ≤ 1) (T : zTbl g gR t b n n p k) (Wy : zWays g gR t b k) : ∃ w s, w ≤ 1 ∧ xI g t 3 = nI w ∧ xI gR 121 b = nI w ∧ twOK (zT g t n w s p k) ∧ twC g t (zT g t n w s p k) ∧ twR gR b (zT g t n w s p k) := by
  obtain ⟨⟨n5, n0, nR, nA⟩, ⟨w, u, s, w1, u1, s9, c3, r121, -, -, c5, r117⟩, ⟨-, -, -, rA, rI⟩, ⟨p3, p8, p126, pA⟩, ⟨k6, k11, k127, kA⟩⟩ := T
  refine ⟨w, s, w1, c3, r121, ?_⟩
  have f1 : ∀ i, i < n → 1 ≤ zT g t n w s p k 1 i ∧ zT g t n w s p k 1 i ≤ 999 ∧ xI g (t + 2) i = nI (zT g t n w s p k 1 i) ∧ xI gR 120 (5 * b + i) = nI (zT g t n w s p k 1 i) := fun i hi => by
    obtain ⟨v, a1, a2, a3, a4⟩ := (nA i hi).2
    have e : zT g t n w s p k 1 i = v := nI_back a3 (by omega)
    rw [e]
    exact ⟨a1, a2, a3, a4⟩
  have f2 : ∀ i, i < n → zT g t n w s p k 2 i < n ∧ xI g (t + 3) i = nI (zT g t n w s p k 2 i) ∧ xI gR 119 (5 * b + i) = nI (zT g t n w s p k 2 i) := fun i hi => by
    obtain ⟨v, a1, a2, a3⟩ := rA i hi
    have e : zT g t n w s p k 2 i = v := nI_back a2 (by omega)
    rw [e]
    exact ⟨a1, a2, a3⟩
  have f3 : ∀ i, i < p → zT g t n w s p k 3 i ≤ k ∧ xI g (t + 5) i = nI (zT g t n w s p k 3 i) - 1 ∧ xI gR 128 (3 * b + i) = ytwo b (zT g t n w s p k 3 i) := fun i hi => by
    obtain ⟨v, a1, a2, a3⟩ := (pA i hi).2
    have e : zT g t n w s p k 3 i = v := nI_back1 a2 (by omega)
    rw [e]
    exact ⟨a1, a2, a3⟩
  have f4 : ∀ i, i < k → zT g t n w s p k 4 i < n ∧ zT g t n w s p k 5 i < n ∧ zT g t n w s p k 4 i ≠ zT g t n w s p k 5 i ∧ xI g (t + 6) i = nI (zT g t n w s p k 4 i) ∧ xI gR 129 (60 * b + i) = nI (zT g t n w s p k 4 i) ∧ xI g (t + 7) i = nI (zT g t n w s p k 5 i) ∧ xI gR 130 (60 * b + i) = nI (zT g t n w s p k 5 i) := fun i hi => by
    obtain ⟨x, y, a1, a2, a3, a4, a5, a6, a7⟩ := kA i hi
    have e : zT g t n w s p k 4 i = x := nI_back a4 (by omega)
    have e2 : zT g t n w s p k 5 i = y := nI_back a6 (by omega)
    rw [e, e2]
    exact ⟨a1, a2, a3, a4, a5, a6, a7⟩
  have f6 : ∀ i q, i < k → q < 3 → (zT g t n w s p k 6 (3 * i + q) = 0 ∨ (i + 1 < zT g t n w s p k 6 (3 * i + q) ∧ zT g t n w s p k 6 (3 * i + q) ≤ k)) ∧ xI g (t + 8) (3 * i + q) = nI (zT g t n w s p k 6 (3 * i + q)) - 1 ∧ xI gR 131 (3 * (60 * b + i) + yway q) = ytwo b (zT g t n w s p k 6 (3 * i + q)) := fun i q hi hq => by
    obtain ⟨v, a1, a2, a3⟩ := Wy i hi q hq
    have e : zT g t n w s p k 6 (3 * i + q) = v := nI_back1 a2 (by omega)
    rw [e]
    exact ⟨a1, a2, a3⟩
  refine ⟨⟨n5, w1, s9, p3, k6, fun i hi => ⟨(f1 i hi).1, (f1 i hi).2.1⟩, fun i hi => (f2 i hi).1, fun i j hi hj e => rI i j hi hj ?_, fun i hi => (f3 i hi).1, fun i hi => ⟨(f4 i hi).1, (f4 i hi).2.1, (f4 i hi).2.2.1⟩, fun i q hi hq => (f6 i q hi hq).1⟩, ⟨n0, c3, c5, p8, k11, fun i hi => (f1 i hi).2.2.1, fun i hi => (f2 i hi).2.1, fun i hi => (f3 i hi).2.1, fun i hi => ⟨(f4 i hi).2.2.2.1, (f4 i hi).2.2.2.2.2.1⟩, fun i q hi hq => (f6 i q hi hq).2.1⟩, ⟨nR, r121, r117, p126, k127, fun i hi => (f1 i hi).2.2.2, fun i hi => (f2 i hi).2.2, fun i hi => (f3 i hi).2.2, fun i hi => ⟨(f4 i hi).2.2.2.2.1, (f4 i hi).2.2.2.2.2.2⟩, fun i q hi hq => (f6 i q hi hq).2.2⟩⟩
  have e : zT g t n w s p k 2 i = zT g t n w s p k 2 j := e
  rw [(f2 i hi).2.1, (f2 j hj).2.1, e]
theorem twC_cg {t : Nat} (h : ∀ o k, t ≤ o → o ≤ t + 8 → xI g' o k = xI g o k) (q : twC g t T) : twC g' t T := by
  have e : ∀ k, xI g' t k = xI g t k := fun k => h t k (by omega) (by omega)
  have e2 : ∀ j k, j ≤ 8 → xI g' (t + j) k = xI g (t + j) k := fun j k hj => h _ k (by omega) (by omega)
  unfold twC
  simp only [e, e2 2 _ (by decide), e2 3 _ (by decide), e2 5 _ (by decide), e2 6 _ (by decide), e2 7 _ (by decide), e2 8 _ (by decide)]
  exact q
theorem twR_cg {β : Nat} (e : ∀ o k, 116 ≤ o → o ≤ 131 → xI g' o k = xI g o k) (q : twR g β T) : twR g' β T := by
  unfold twR
  simp only [e 116 _ (by decide) (by decide), e 117 _ (by decide) (by decide), e 119 _ (by decide) (by decide), e 120 _ (by decide) (by decide), e 121 _ (by decide) (by decide), e 126 _ (by decide) (by decide), e 127 _ (by decide) (by decide), e 128 _ (by decide) (by decide), e 129 _ (by decide) (by decide), e 130 _ (by decide) (by decide), e 131 _ (by decide) (by decide)]
  exact q
end RD
