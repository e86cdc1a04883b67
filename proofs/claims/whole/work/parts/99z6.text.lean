/-! STREET: the text read through, on both sides -/
section TX
variable {gC gR gC' gR' g g' g1 : xSt} {t b n r p k m o i q f pl β : Nat} {bt : Nat → Nat} {v a : Int32}
theorem x_tb (x : Int32) : (x &&& 255).toBitVec.toNat = x.toBitVec.toNat % 256 := by
  show (x.toBitVec &&& (255 : Int32).toBitVec).toNat = _
  rw [BitVec.toNat_and, show (255 : Int32).toBitVec.toNat = 2 ^ 8 - 1 from rfl, Nat.and_two_pow_sub_one_eq_mod]
theorem x_255 (x : Int32) : ∃ j, j < 256 ∧ x &&& 255 = nI j := by
  refine ⟨x.toBitVec.toNat % 256, Nat.mod_lt _ (by decide), Int32.toBitVec.inj (BitVec.eq_of_toNat_eq ((x_tb x).trans ?_))⟩
  show _ = (BitVec.ofNat 32 (x.toBitVec.toNat % 256)).toNat
  rw [BitVec.toNat_ofNat]
  omega
theorem x_byte (x : Int32) : (Int32.toInt8 x).toInt32 &&& 255 = x &&& 255 := by
  refine Int32.toBitVec.inj (BitVec.eq_of_toNat_eq ?_)
  rw [x_tb, x_tb]
  show ((x.toBitVec.signExtend 8).signExtend 32).toNat % 256 = _
  rw [BitVec.toNat_signExtend, BitVec.toNat_setWidth, BitVec.toNat_signExtend, BitVec.toNat_setWidth]
  have := x.toBitVec.isLt
  split <;> split <;> omega
theorem q_copy (hm : m ≤ 1200) (h3 : xI g 113 3 = nI m) : ∀ n i g1, n + i = m → yAg (fun o _ => o = 115) g g1 → xL g1 = xL g → (∀ k, k < i → xI g1 115 k &&& 255 = xI g 114 k &&& 255) → ∃ g2, xlim S_X12_street_20 (nI i, g1) = some g2 ∧ yAg (fun o _ => o = 115) g g2 ∧ xL g2 = xL g ∧ ∀ k, k < m → xI g2 115 k &&& 255 = xI g 114 k &&& 255 := by
  intro n
  induction n with
  | zero =>
    intro i g1 hi y hL h
    have e : i = m := by omega
    subst e
    refine ⟨g1, xlim_end ?_, y, hL, h⟩
    unfold S_X12_street_20
    show (if xI g1 113 3 ≤ nI i then _ else _) = _
    rw [y.2 113 3 (by omega), h3, if_pos (nI_le (Nat.le_refl _) (by omega))]
  | succ n ih =>
    intro i g1 hi y hL h
    have st : S_X12_street_20 (nI i, g1) = some (.inl (nI (i + 1), xWI g1 115 i (Int32.toInt8 (xI g1 114 i)).toInt32)) := by
      unfold S_X12_street_20
      show (if xI g1 113 3 ≤ nI i then _ else xck 1220 (nI i) (xck 1200 (nI i) (some (Sum.inl (nI i + 1, xWI g1 115 (nI i).toNatClampNeg (Int32.toInt8 (xI g1 114 (nI i).toNatClampNeg)).toInt32))))) = _
      rw [y.2 113 3 (by omega), h3, if_neg (nI_ge (by omega) (by omega)), xck_nI (by omega) (by decide), xck_nI (by omega) (by decide), nI_clamp (by omega), nI_1]
    rw [xlim_go st]
    refine ih (i + 1) _ (by omega) (y.wi rfl) hL fun k hk => ?_
    rw [yI_wi]
    by_cases d : k = i
    · rw [if_pos ⟨rfl, d⟩, x_byte, d, y.2 114 i (by omega)]
    · rw [if_neg (fun z => d z.2)]
      exact h k (by omega)
theorem r_clrB (hb : b ≤ 1) (h31 : xI g 113 31 = nI b) : E_X12_clearBank g = some (xWI (xWI (xWI (xWI (xWI (xWI (xWI (xWI g 116 b 0) 117 b 0) 118 b 0) 121 b 0) 122 b 0) 123 b 0) 126 b 0) 127 b 0) := by
  have e : ∀ (h : xSt) (o k : Nat) (v : Int32), o ≠ 113 → xI (xWI h o k v) 113 31 = xI h 113 31 := fun h o k v ho => by rw [yI_wi, if_neg (by omega)]
  have h2 : b < 2 ^ 31 := by omega
  unfold E_X12_clearBank
  simp only [e _ 116 _ _ (by decide), e _ 117 _ _ (by decide), e _ 118 _ _ (by decide), e _ 121 _ _ (by decide), e _ 122 _ _ (by decide), e _ 123 _ _ (by decide), e _ 126 _ _ (by decide), h31, nI_clamp h2]
  rw [xck_nI (by omega) (by decide), xck_nI (by omega) (by decide), xck_nI (by omega) (by decide), xck_nI (by omega) (by decide), xck_nI (by omega) (by decide), xck_nI (by omega) (by decide), xck_nI (by omega) (by decide), xck_nI (by omega) (by decide)]
theorem xI_rd : xI (xRd g a t) o k = if o = 20 ∧ k = 2 then a else xI g o k := yI_wi (xWR g 20 1 (some 1)) 20 2 o k a
/-- what the reading changes on the reference's side -/
def dRs (b o k : Nat) : Prop := dRb b o k ∨ o = 115 ∨ (o = 113 ∧ (k = 2 ∨ k = 3 ∨ k = 31))
theorem j_text (ht : t = 2 ∨ t = 11) (hb : β ≤ 1) (hm : m ≤ 1200) (own : ∀ j, j < 7 → xL gC 21 j = zOwn j) (hbt : ∀ k, k < m → bt k < 256 ∧ xI gC 1 k &&& 255 = nI (bt k)) (h2 : xI gR 113 2 = nI m) (hrt : ∀ k, k < m → xI gR 114 k &&& 255 = nI (bt k)) (h30 : xI gR 113 30 = nI β) : ∃ gC' gR', E_X6_read t (nI m) gC = xb1 (E_X10_completeRow t gC') (fun x => some x) ∧ E_X12_street gR = K_X12_street_95 gR' ∧ yAg (dCb t) (xRd gC (nI m) t) gC' ∧ (∀ o k, ¬ ((o = 20 ∧ k = 8) ∨ o = t + 1 ∨ o = t + 4) → xL gC' o k = xL gC o k) ∧ yAg (dRs (1 - β)) gR gR' ∧ (∀ o k, ¬ ((o = 113 ∧ k = 10) ∨ o = 124 ∨ o = 125) → xL gR' o k = xL gR o k) ∧ xI gR' 113 2 = 0 ∧ xI gR' 113 31 = nI (1 - β) ∧ (xI gC' 20 10 = 0 → xI gC' 20 11 = -1) ∧ (xI gR' 113 4 = 0 → xI gR' 113 5 = -1) ∧ zEs gC' gR' m bt t (1 - β) := by
  -- the class
  have t20 : t ≠ 20 ∧ t ≠ 1 := by omega
  have cy : yAg (dCb t) (xRd gC (nI m) t) (xWI (xWI (xWI (xWI (xWI (xWI (xWI (xWI (xWI (xWI (xRd gC (nI m) t) t 0 0) t 3 0) t 4 0) t 5 0) t 6 0) t 8 0) t 11 0) 20 10 0) 20 11 (-1)) 20 5 0) := ((((((((((yAg.refl _ _).wi (by unfold dCb; omega)).wi (by unfold dCb; omega)).wi (by unfold dCb; omega)).wi (by unfold dCb; omega)).wi (by unfold dCb; omega)).wi (by unfold dCb; omega)).wi (by unfold dCb; omega)).wi (by unfold dCb; omega)).wi (by unfold dCb; omega)).wi (by unfold dCb; omega)
  generalize hcS : xWI (xWI (xWI (xWI (xWI (xWI (xWI (xWI (xWI (xWI (xRd gC (nI m) t) t 0 0) t 3 0) t 4 0) t 5 0) t 6 0) t 8 0) t 11 0) 20 10 0) 20 11 (-1)) 20 5 0 = cS at cy
  have cL : xL cS = xL gC := by rw [← hcS]; rfl
  have c0 : ∀ k, k = 0 ∨ k = 3 ∨ k = 4 ∨ k = 5 ∨ k = 6 ∨ k = 8 ∨ k = 11 → xI cS t k = nI 0 := fun k hk => by
    rw [← hcS, yI_wi, if_neg (by omega), yI_wi, if_neg (by omega), yI_wi, if_neg (by omega)]
    simp only [yI_wi, true_and]
    rcases hk with e | e | e | e | e | e | e <;> subst e <;> rfl
  have c5 : xI cS 20 5 = nI 0 := by rw [← hcS, yI_wi, if_pos ⟨rfl, rfl⟩]; rfl
  have c10 : xI cS 20 10 = 0 := by rw [← hcS, yI_wi, if_neg (by omega), yI_wi, if_neg (by omega), yI_wi, if_pos ⟨rfl, rfl⟩]
  have c11 : xI cS 20 11 = -1 := by rw [← hcS, yI_wi, if_neg (by omega), yI_wi, if_pos ⟨rfl, rfl⟩]
  have cT : zTxC cS m bt := ⟨hm, fun k hk => (hbt k hk).1, by rw [cy.2 20 2 (by unfold dCb; omega), xI_rd, if_pos ⟨rfl, rfl⟩], fun k hk => by rw [cy.2 1 k (by unfold dCb; omega), xI_rd, if_neg (by omega)]; exact (hbt k hk).2, fun j hj => by rw [cL]; exact own j hj⟩
  obtain ⟨gC0, st, sp, a1, a2, a3, a4, a5, a6, a7⟩ := c_advance cT (Nat.zero_le m) c5
  -- the reference
  have ry0 : yAg (dRs (1 - β)) gR (xWI (xWI (xWI gR 113 4 0) 113 5 (-1)) 113 3 (xI gR 113 2)) := (((yAg.refl _ _).wi (by unfold dRs dRb; omega)).wi (by unfold dRs dRb; omega)).wi (by unfold dRs; omega)
  have r03 : xI (xWI (xWI (xWI gR 113 4 0) 113 5 (-1)) 113 3 (xI gR 113 2)) 113 3 = nI m := by rw [yI_wi, if_pos ⟨rfl, rfl⟩]; exact h2
  have r04 : xI (xWI (xWI (xWI gR 113 4 0) 113 5 (-1)) 113 3 (xI gR 113 2)) 113 4 = 0 := by rw [yI_wi, if_neg (by omega), yI_wi, if_neg (by omega), yI_wi, if_pos ⟨rfl, rfl⟩]
  have hR0 : E_X12_street gR = xb1 (xlim (S_X12_street_20) (0, xWI (xWI (xWI gR 113 4 0) 113 5 (-1)) 113 3 (xI gR 113 2))) fun e_1 => xb1 (E_X12_clearBank (xWI (xWI (xWI e_1 113 2 0) 113 7 0) 113 31 (1 - (xI e_1 113 30)))) fun g67_2 => xb1 (E_X12_goOn g67_2) fun g71_3 => xb1 (xlim (S_X12_street_74) g71_3) fun e_4 => K_X12_street_95 e_4 := rfl
  have r05 : xI (xWI (xWI (xWI gR 113 4 0) 113 5 (-1)) 113 3 (xI gR 113 2)) 113 5 = -1 := by rw [yI_wi, if_neg (by omega), yI_wi, if_pos ⟨rfl, rfl⟩]
  have rSL : xL (xWI (xWI (xWI gR 113 4 0) 113 5 (-1)) 113 3 (xI gR 113 2)) = xL gR := rfl
  generalize xWI (xWI (xWI gR 113 4 0) 113 5 (-1)) 113 3 (xI gR 113 2) = rS at ry0 r03 r04 r05 hR0 rSL
  obtain ⟨e1, b1, b2, b3, b4⟩ := q_copy hm r03 m 0 rS (by omega) (yAg.refl _ _) rfl (fun k hk => by omega)
  have e30 : xI e1 113 30 = nI β := by rw [b2.2 113 30 (by omega), ry0.2 113 30 (by unfold dRs dRb; omega)]; exact h30
  have sub : (1 : Int32) - nI β = nI (1 - β) := by
    have : β = 0 ∨ β = 1 := by omega
    rcases this with e | e <;> subst e <;> rfl
  rw [show ((0 : Int32), rS) = (nI 0, rS) from rfl, b1, xb1_some, e30, sub] at hR0
  have ry1 : yAg (dRs (1 - β)) gR (xWI (xWI (xWI e1 113 2 0) 113 7 0) 113 31 (nI (1 - β))) := (((ry0.tr (b2.up fun o k z => Or.inr (Or.inl z))).wi (by unfold dRs; omega)).wi (by unfold dRs dRb; omega)).wi (by unfold dRs; omega)
  have q31 : xI (xWI (xWI (xWI e1 113 2 0) 113 7 0) 113 31 (nI (1 - β))) 113 31 = nI (1 - β) := by rw [yI_wi, if_pos ⟨rfl, rfl⟩]
  have q7 : xI (xWI (xWI (xWI e1 113 2 0) 113 7 0) 113 31 (nI (1 - β))) 113 7 = nI 0 := by rw [yI_wi, if_neg (by omega), yI_wi, if_pos ⟨rfl, rfl⟩]; rfl
  have q2 : xI (xWI (xWI (xWI e1 113 2 0) 113 7 0) 113 31 (nI (1 - β))) 113 2 = 0 := by rw [yI_wi, if_neg (by omega), yI_wi, if_neg (by omega), yI_wi, if_pos ⟨rfl, rfl⟩]
  have q4 : xI (xWI (xWI (xWI e1 113 2 0) 113 7 0) 113 31 (nI (1 - β))) 113 4 = 0 := by rw [yI_wi, if_neg (by omega), yI_wi, if_neg (by omega), yI_wi, if_neg (by omega), b2.2 113 4 (by omega)]; exact r04
  have q5 : xI (xWI (xWI (xWI e1 113 2 0) 113 7 0) 113 31 (nI (1 - β))) 113 5 = -1 := by rw [yI_wi, if_neg (by omega), yI_wi, if_neg (by omega), yI_wi, if_neg (by omega), b2.2 113 5 (by omega)]; exact r05
  have q3 : xI (xWI (xWI (xWI e1 113 2 0) 113 7 0) 113 31 (nI (1 - β))) 113 3 = nI m := by rw [yI_wi, if_neg (by omega), yI_wi, if_neg (by omega), yI_wi, if_neg (by omega), b2.2 113 3 (by omega)]; exact r03
  have q115 : ∀ k, k < m → xI (xWI (xWI (xWI e1 113 2 0) 113 7 0) 113 31 (nI (1 - β))) 115 k &&& 255 = nI (bt k) := fun k hk => by
    rw [yI_wi, if_neg (by omega), yI_wi, if_neg (by omega), yI_wi, if_neg (by omega), b4 k hk, ry0.2 114 k (by unfold dRs dRb; omega)]
    exact hrt k hk
  have qL : xL (xWI (xWI (xWI e1 113 2 0) 113 7 0) 113 31 (nI (1 - β))) = xL gR := (show xL (xWI (xWI (xWI e1 113 2 0) 113 7 0) 113 31 (nI (1 - β))) = xL e1 from rfl).trans (b3.trans rSL)
  generalize xWI (xWI (xWI e1 113 2 0) 113 7 0) 113 31 (nI (1 - β)) = rB at hR0 ry1 q31 q7 q2 q4 q5 q3 q115 qL
  generalize hbe : 1 - β = b at hR0 ry1 q31 ⊢
  have hb1 : b ≤ 1 := by omega
  rw [r_clrB hb1 q31, xb1_some] at hR0
  have cD : ∀ o, (o = 116 ∨ o = 117 ∨ o = 118 ∨ o = 121 ∨ o = 122 ∨ o = 123 ∨ o = 126 ∨ o = 127) → dRs b o b := fun o ho => by unfold dRs dRb; omega
  have ry2 := (((((((ry1.wi (v := 0) (cD 116 (by omega))).wi (v := 0) (cD 117 (by omega))).wi (v := 0) (cD 118 (by omega))).wi (v := 0) (cD 121 (by omega))).wi (v := 0) (cD 122 (by omega))).wi (v := 0) (cD 123 (by omega))).wi (v := 0) (cD 126 (by omega))).wi (v := 0) (cD 127 (by omega))
  have rz : ∀ o, (o = 116 ∨ o = 117 ∨ o = 118 ∨ o = 121 ∨ o = 122 ∨ o = 123 ∨ o = 126 ∨ o = 127) → xI (xWI (xWI (xWI (xWI (xWI (xWI (xWI (xWI rB 116 b 0) 117 b 0) 118 b 0) 121 b 0) 122 b 0) 123 b 0) 126 b 0) 127 b 0) o b = nI 0 := fun o ho => by
    simp only [yI_wi, and_true]
    rcases ho with e | e | e | e | e | e | e | e <;> subst e <;> rfl
  have ro : ∀ o k, o ≤ 115 → xI (xWI (xWI (xWI (xWI (xWI (xWI (xWI (xWI rB 116 b 0) 117 b 0) 118 b 0) 121 b 0) 122 b 0) 123 b 0) 126 b 0) 127 b 0) o k = xI rB o k := fun o k ho => by
    rw [yI_wi, if_neg (by omega), yI_wi, if_neg (by omega), yI_wi, if_neg (by omega), yI_wi, if_neg (by omega), yI_wi, if_neg (by omega), yI_wi, if_neg (by omega), yI_wi, if_neg (by omega), yI_wi, if_neg (by omega)]
  have rl : xL (xWI (xWI (xWI (xWI (xWI (xWI (xWI (xWI rB 116 b 0) 117 b 0) 118 b 0) 121 b 0) 122 b 0) 123 b 0) 126 b 0) 127 b 0) = xL gR := (show _ = xL rB from rfl).trans qL
  generalize xWI (xWI (xWI (xWI (xWI (xWI (xWI (xWI rB 116 b 0) 117 b 0) 118 b 0) 121 b 0) 122 b 0) 123 b 0) 126 b 0) 127 b 0 = rC at hR0 ry2 rz ro rl
  have rT : zTxR rC m bt := ⟨hm, fun k hk => (hbt k hk).1, (ro 113 3 (by decide)).trans q3, fun k hk => by rw [ro 115 k (by decide)]; exact q115 k hk⟩
  have stm : st ≤ m := by have := a4.2.2.1; have := a4.2.2.2.1; omega
  obtain ⟨gR0, d1, d2, d3, d4⟩ := q_goOn rT (Nat.zero_le st) stm ((ro 113 7 (by decide)).trans q7) a6 a7 a4.pure
  rw [d1, xb1_some] at hR0
  -- both
  have cC0 : zTxC gC0 m bt := cT.lx a2 a3
  have cR0 : zTxR gR0 m bt := rT.lx d2
  have go : zGo2 gC0 gR0 m bt := ⟨(a2.2 20 10 (by unfold dLx; omega)).trans c10, (d2.2 113 4 (by unfold dLr; omega)).trans ((ro 113 4 (by decide)).trans q4), zTk_of hm a4 d4⟩
  have zc : ∀ k, k = 0 ∨ k = 3 ∨ k = 4 ∨ k = 5 ∨ k = 6 ∨ k = 8 ∨ k = 11 → xI gC0 t k = nI 0 := fun k hk => (a2.2 t k (by unfold dLx; omega)).trans (c0 k hk)
  have zr : ∀ o, (o = 116 ∨ o = 117 ∨ o = 118 ∨ o = 121 ∨ o = 122 ∨ o = 123 ∨ o = 126 ∨ o = 127) → xI gR0 o b = nI 0 := fun o ho => (d2.2 o b (by unfold dLr; omega)).trans (rz o ho)
  have T0 : zTbl gC0 gR0 t b 0 0 0 0 := ⟨⟨by omega, zc 0 (by omega), zr 116 (by omega), fun i hi => by omega⟩, ⟨0, 0, 0, by omega, by omega, by omega, zc 3 (by omega), zr 121 (by omega), zc 4 (by omega), zr 122 (by omega), zc 5 (by omega), zr 117 (by omega)⟩, ⟨by omega, zc 6 (by omega), zr 118 (by omega), fun i hi => by omega, fun i j hi => by omega⟩, ⟨by omega, zc 8 (by omega), zr 126 (by omega), fun i hi => by omega⟩, ⟨by omega, zc 11 (by omega), zr 127 (by omega), fun i hi => by omega⟩⟩
  have r31 : xI gR0 113 31 = nI b := (d2.2 113 31 (by unfold dLr; omega)).trans ((ro 113 31 (by decide)).trans q31)
  obtain ⟨gC1, gR1, u1, u2, u3, u4, u5⟩ := j_lines ht hb1 m gC0 gR0 0 st sp (by omega) (Nat.zero_le _) a4.2.2.1 (by have := a4.2.2.2.1; omega) a4.1 a4.2.1 a4.mo r31 cC0 cR0 go ⟨0, 0, 0, 0, T0, zr 123 (by omega), fun i hi => by omega⟩
  rw [u2, xb1_some] at hR0
  refine ⟨gC1, gR1, ?_, hR0, (cy.tr (a2.up fun o k z => by unfold dLx at z; unfold dCb; omega)).tr u3.1, fun o k z => ?_, (ry2.tr (d2.up fun o k z => by unfold dLr at z; unfold dRs dRb; omega)).tr (u4.1.up fun o k z => Or.inl z), fun o k z => ?_, ?_, u4.b31 r31, fun z => ?_, fun z => ?_, u5⟩
  · unfold E_X6_read
    rw [show E_X10_empty t (xRd gC (nI m) t) = some (xWI (xWI (xWI (xWI (xWI (xWI (xWI (xRd gC (nI m) t) t 0 0) t 3 0) t 4 0) t 5 0) t 6 0) t 8 0) t 11 0) from rfl, xb1_some, hcS, a1, xb1_some, show ((0 : Int32), gC0) = (nI 0, gC0) from rfl, u1, xb1_some]
  · rw [u3.2.1 o k z, a3 o k (fun x => z (Or.inl x)), cL]
  · rw [u4.2.1 o k z, d3 o k (fun x => z (Or.inl x)), rl]
  · rw [u4.1.2 113 2 (by unfold dRb; omega), d2.2 113 2 (by unfold dLr; omega), ro 113 2 (by decide)]
    exact q2
  · rw [(u3.2.2.2 z).2, a2.2 20 11 (by unfold dLx; omega)]; exact c11
  · rw [(u4.2.2 z).2, d2.2 113 5 (by unfold dLr; omega), ro 113 5 (by decide)]; exact q5
end TX
