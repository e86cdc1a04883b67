/-! STREET: the clerk's row -/
section LR
variable {gC gR gC' gR' g g' g1 : xSt} {t b n w u s r p k m o i q f pl : Nat} {bt : Nat → Nat} {v : Int32} {z : Int64}
theorem zVr.fn (h : zVr gC gR t b n r) (hn : n ≤ 5) : ∃ R : Nat → Nat, ∀ i, i < r → R i < n ∧ xI gC (t + 3) i = nI (R i) ∧ xI gR 119 (5 * b + i) = nI (R i) := by
  refine ⟨fun i => (xI gC (t + 3) i).toNatClampNeg, fun i hi => ?_⟩
  obtain ⟨v, a1, a2, a3⟩ := h.2.2.2.1 i hi
  have e : (xI gC (t + 3) i).toNatClampNeg = v := by rw [a2, nI_clamp (by omega)]
  show (xI gC (t + 3) i).toNatClampNeg < n ∧ xI gC (t + 3) i = nI (xI gC (t + 3) i).toNatClampNeg ∧ xI gR 119 (5 * b + i) = nI (xI gC (t + 3) i).toNatClampNeg
  rw [e]
  exact ⟨a1, a2, a3⟩
theorem zVr.add {R : Nat → Nat} {v : Nat} (h : zVr gC gR t b n r) (hn : n ≤ 5) (hR : ∀ i, i < r → R i < n ∧ xI gC (t + 3) i = nI (R i) ∧ xI gR 119 (5 * b + i) = nI (R i)) (hv : v < n) (nv : ∀ i, i < r → R i ≠ v) (c6 : xI gC' t 6 = nI (r + 1)) (r6 : xI gR' 118 b = nI (r + 1)) (cO : ∀ i, i < r → xI gC' (t + 3) i = xI gC (t + 3) i) (cN : xI gC' (t + 3) r = nI v) (rO : ∀ i, i < r → xI gR' 119 (5 * b + i) = xI gR 119 (5 * b + i)) (rN : xI gR' 119 (5 * b + r) = nI v) : r + 1 ≤ n ∧ zVr gC' gR' t b n (r + 1) := by
  obtain ⟨h1, h2, h3, h4, h5⟩ := h
  have inj : ∀ i j, i < r → j < r → R i = R j → i = j := fun i j hi hj e => h5 i j hi hj (by rw [(hR i hi).2.1, (hR j hj).2.1, e])
  have le : r + 1 ≤ n := by
    rcases Nat.lt_or_ge r n with c | c
    · exact c
    · have e : r = n := by omega
      subst e
      refine (yNoInj r (fun i => if i < r then R i else v) (fun i hi => ?_) (fun i j hi hj z => ?_)).elim
      · show (if i < r then R i else v) < r
        by_cases d : i < r
        · rw [if_pos d]; exact (hR i d).1
        · rw [if_neg d]; exact hv
      · have z : (if i < r then R i else v) = if j < r then R j else v := z
        by_cases d : i < r
        · by_cases e : j < r
          · rw [if_pos d, if_pos e] at z; exact inj i j d e z
          · rw [if_pos d, if_neg e] at z; exact (nv i d z).elim
        · by_cases e : j < r
          · rw [if_neg d, if_pos e] at z; exact (nv j e z.symm).elim
          · omega
  refine ⟨le, le, c6, r6, fun i hi => ?_, fun i j hi hj e => ?_⟩
  · by_cases d : i = r
    · rw [d]; exact ⟨v, hv, cN, rN⟩
    · have di : i < r := by omega
      obtain ⟨x, a1, a2, a3⟩ := h4 i di
      exact ⟨x, a1, (cO i di).trans a2, (rO i di).trans a3⟩
  · have key : ∀ i, i < r → xI gC' (t + 3) i = xI gC' (t + 3) r → False := fun i di e => by
      rw [cO i di, cN, (hR i di).2.1] at e
      exact nv i di ((nI_eq (by have := (hR i di).1; omega) (by omega)).mp e)
    by_cases d : i = r
    · by_cases d' : j = r
      · omega
      · exact (key j (by omega) (by rw [← e, d])).elim
    · by_cases d' : j = r
      · exact (key i (by omega) (by rw [e, d'])).elim
      · exact h5 i j (by omega) (by omega) (by rw [cO i (by omega), cO j (by omega)] at e; exact e)
theorem k63F (h : zFR g m f pl) (x : Int32) : K_X12_readRow_63 x g = some (.inr (.inl g)) := by
  unfold K_X12_readRow_63
  rw [f_good h, if_pos rfl]
theorem j_rowName (ht : t = 2 ∨ t = 11) (hb : b ≤ 1) (h31 : xI gR 113 31 = nI b) (hC : zTxC gC m bt) (hR : zTxR gR m bt) (h : zGo2 gC gR m bt) (Tn : zVn gC gR t b n) (Tr : zVr gC gR t b n r) : ∃ gC' gR', E_X6_takeRowName t gC = some gC' ∧ zCb t gC gC' ∧ zRk b gR gR' ∧ (∀ o k, o ≤ 19 → ¬ (o = t ∧ k = 6) → o ≠ t + 3 → xI gC' o k = xI gC o k ∧ xL gC' o k = xL gC o k) ∧ (∀ o k, 116 ≤ o → ¬ (o = 118 ∧ k = b) → o ≠ 119 → xI gR' o k = xI gR o k ∧ xL gR' o k = xL gR o k) ∧ ((zFd gC' gR' m ∧ S_X12_readRow_10 gR = some (.inr (.inl gR'))) ∨ (zGo2 gC' gR' m bt ∧ r + 1 ≤ n ∧ zVr gC' gR' t b n (r + 1) ∧ ((xI gR' 113 8 = 2 ∧ S_X12_readRow_10 gR = some (.inl gR')) ∨ (xI gR' 113 8 ≠ 2 ∧ S_X12_readRow_10 gR = some (.inr (.inr gR')))))) := by
  have n5 := Tn.1
  obtain ⟨R, hRw⟩ := Tr.fn n5
  have rn := Tr.1
  have bits := c_rowBits (R := R) (g := gC) (t := t) (r := r) (by omega) Tr.2.1 (fun i hi => ⟨by have := (hRw i hi).1; omega, (hRw i hi).2.1⟩)
  obtain ⟨j, hj⟩ := zIst_ex (fun i => xL gR 124 (5 * b + i) = xL gR 113 10) n
  have th := r_thingHere hb h31 n5 Tn.2.2.1 hj
  obtain ⟨gC1, gR1, y1, y2, cs⟩ := j_thing hC hR h ht hb Tn hj (nI (zRwb R r))
  have bad : ∀ x, E_X6_takeThing t (nI (zRwb R r)) gC = some (x, gC1) → zFd gC1 gR1 m → E_X6_takeRowName t gC = some gC1 := fun x hx ⟨fd, pl, d1, d2, d3⟩ => by
    unfold E_X6_takeRowName
    rw [bits, xb1_some, hx, xb2_some, d2.2.2.1, if_neg (nI_nz d2.1 (by have := d2.2.1; omega))]
  have fr1 : ∀ o k, o ≤ 19 → ¬ (o = t ∧ k = 6) → o ≠ t + 3 → xI gC1 o k = xI gC o k ∧ xL gC1 o k = xL gC o k := fun o k a _ _ => y1.at (by omega)
  have fr2 : ∀ o k, 116 ≤ o → ¬ (o = 118 ∧ k = b) → o ≠ 119 → xI gR1 o k = xI gR o k ∧ xL gR1 o k = xL gR o k := fun o k a _ _ => y2.at (by omega)
  rcases cs with ⟨k2, ⟨x, e1⟩, e2, e3⟩ | ⟨k2, jn, ⟨x, e1⟩, e2, e3⟩ | ⟨k2, jn, xb, ⟨x, e1⟩, e2, e3⟩ | ⟨k2, jn, xb, -, -, -⟩
  · obtain ⟨fd, pl, d1, d2, d3⟩ := e3
    refine ⟨gC1, gR1, bad x e1 ⟨fd, pl, d1, d2, d3⟩, y1.cb, y2.rk, fr1, fr2, Or.inl ⟨⟨fd, pl, d1, d2, d3⟩, ?_⟩⟩
    unfold S_X12_readRow_10
    rw [th, xb1_some, if_neg k2, e2, xb1_some, k63F d3]
  · obtain ⟨fd, pl, d1, d2, d3⟩ := e3
    refine ⟨gC1, gR1, bad x e1 ⟨fd, pl, d1, d2, d3⟩, y1.cb, y2.rk, fr1, fr2, Or.inl ⟨⟨fd, pl, d1, d2, d3⟩, ?_⟩⟩
    unfold S_X12_readRow_10
    rw [if_neg (show ¬ (xI gR 113 8 = 2 ∧ j < n) from fun z => by have := z.2; omega)] at th
    rw [th, xb1_some, if_pos k2, if_neg (show ¬ (0 : Int32) ≤ -1 by decide), e2, xb1_some, k63F d3]
  · obtain ⟨fd, pl, d1, d2, d3⟩ := e3
    have inr := r_isInRow (R := R) (g := gR) (v := j) (by omega) hb h31 (r := r) (by omega) Tr.2.2.1 (fun i hi => ⟨by have := (hRw i hi).1; omega, (hRw i hi).2.2⟩)
    refine ⟨gC1, gR1, bad x e1 ⟨fd, pl, d1, d2, d3⟩, y1.cb, y2.rk, fr1, fr2, Or.inl ⟨⟨fd, pl, d1, d2, d3⟩, ?_⟩⟩
    unfold S_X12_readRow_10
    rw [if_pos (show xI gR 113 8 = 2 ∧ j < n from ⟨k2, jn⟩)] at th
    rw [th, xb1_some, if_pos k2, if_pos (show (0 : Int32) ≤ nI j from nI_le (a := 0) (by omega) (by omega)), inr, xb1_some, if_neg xb, e2, xb1_some, k63F d3]
  · have inr := r_isInRow (R := R) (g := gR) (v := j) (by omega) hb h31 (r := r) (by omega) Tr.2.2.1 (fun i hi => ⟨by have := (hRw i hi).1; omega, (hRw i hi).2.2⟩)
    have nv : ∀ i, i < r → R i ≠ j := fun i hi e => by
      rw [xbit_tb _ (zRwb_lt r fun i hi => by have := (hRw i hi).1; omega) j (by omega), if_pos ((zRwb_bit r).mpr ⟨i, hi, e⟩)] at xb
      exact absurd xb (by decide)
    have r5 : r < 5 := by
      rcases Nat.lt_or_ge r 5 with c | c
      · exact c
      · exfalso
        have e : n = r := by omega
        subst e
        refine (yNoInj n (fun i => if i < n then R i else j) (fun i hi => ?_) (fun a c ha hc z => ?_)).elim
        · show (if i < n then R i else j) < n
          by_cases d : i < n
          · rw [if_pos d]; exact (hRw i d).1
          · rw [if_neg d]; exact jn
        · have z : (if a < n then R a else j) = if c < n then R c else j := z
          by_cases d : a < n
          · by_cases e : c < n
            · rw [if_pos d, if_pos e] at z
              exact Tr.2.2.2.2 a c d e (by rw [(hRw a d).2.1, (hRw c e).2.1, z])
            · rw [if_pos d, if_neg e] at z; exact (nv a d z).elim
          · by_cases e : c < n
            · rw [if_neg d, if_pos e] at z; exact (nv c e z.symm).elim
            · omega
    have y3 : ∀ o k, ¬ (o = 119 ∧ k = 5 * b + r) → ¬ (o = 118 ∧ k = b) → xI (xWI (xWI gR 119 (5 * b + r) (nI j)) 118 b (nI (r + 1))) o k = xI gR o k := fun o k a c => by rw [yI_wi, if_neg c, yI_wi, if_neg a]
    have g2 : zGo2 gC (xWI (xWI gR 119 (5 * b + r) (nI j)) 118 b (nI (r + 1))) m bt := h.cg (fun _ => rfl) rfl (fun k _ _ => y3 113 k (by omega) (by omega)) rfl
    have Tn2 : zVn gC (xWI (xWI gR 119 (5 * b + r) (nI j)) 118 b (nI (r + 1))) t b n := Tn.cg (fun _ _ _ => ⟨rfl, rfl⟩) (fun o k z => ⟨y3 o k (by omega) (by omega), rfl⟩)
    have yR : zRk b gR (xWI (xWI gR 119 (5 * b + r) (nI j)) 118 b (nI (r + 1))) := (zRk.refl.wi (by unfold dRb; omega)).wi (by unfold dRb; omega)
    obtain ⟨gC2, gR2, x1, x2, cs⟩ := j_thing hC (hR.rk yR) g2 ht hb Tn2 (j := j) hj (nI (zRwb R r))
    have k8 : xI (xWI (xWI gR 119 (5 * b + r) (nI j)) 118 b (nI (r + 1))) 113 8 = 2 := (y3 113 8 (by omega) (by omega)).trans k2
    rcases cs with ⟨c1, _⟩ | ⟨_, c1, _⟩ | ⟨_, _, c1, _⟩ | ⟨_, _, _, e1, e2, e3⟩
    · exact (c1 k8).elim
    · omega
    · exact (c1 xb).elim
    · have c6 : xI gC2 t 6 = nI r := (x1.at (by omega)).1.trans Tr.2.1
      have tk : E_X6_takeRowName t gC = some (xWI (xWI gC2 (t + 3) r (nI j)) t 6 (nI (r + 1))) := by
        unfold E_X6_takeRowName E_X10_addToRow
        rw [bits, xb1_some, e1, xb2_some, if_pos e3.1, xb1_some, c6]
        show some (xWI (xput gC2 (t + 3) 5 (nI r) (nI j)) t 6 ((xI (xput gC2 (t + 3) 5 (nI r) (nI j)) t 6) + 1)) = _
        rw [xput_nI r5 (by decide), yI_wi, if_neg (by omega), c6, nI_1]
      have st : S_X12_readRow_10 gR = if xI gR2 113 8 = 2 then some (.inl gR2) else some (.inr (.inr gR2)) := by
        unfold S_X12_readRow_10 K_X12_readRow_63
        rw [if_pos (show xI gR 113 8 = 2 ∧ j < n from ⟨k2, jn⟩)] at th
        rw [th, xb1_some, if_pos k2, if_pos (show (0 : Int32) ≤ nI j from nI_le (a := 0) (by omega) (by omega)), inr, xb1_some, if_pos xb, g_good h, if_neg (by decide), h31, xck_nI (by omega) (by decide), nI_clamp (by omega), Tr.2.2.1, show (5 * nI b) + nI r = nI (5 * b + r) from nI_b5 5 b r, xck_nI (by omega) (by decide), nI_clamp (by omega), nI_1, xck_nI (by omega) (by decide), xck_nI (by omega) (by decide), e2, xb1_some]
      have fC : ∀ o k, o ≤ 19 → xI (xWI (xWI gC2 (t + 3) r (nI j)) t 6 (nI (r + 1))) o k = if o = t ∧ k = 6 then nI (r + 1) else if o = t + 3 ∧ k = r then nI j else xI gC o k := fun o k ho => by rw [yI_wi, yI_wi, (x1.at (by omega)).1]
      have fR : ∀ o k, 116 ≤ o → xI gR2 o k = if o = 118 ∧ k = b then nI (r + 1) else if o = 119 ∧ k = 5 * b + r then nI j else xI gR o k := fun o k ho => by rw [(x2.at (by omega)).1, yI_wi, yI_wi]
      obtain ⟨le, Tr'⟩ := Tr.add (gC' := xWI (xWI gC2 (t + 3) r (nI j)) t 6 (nI (r + 1))) (gR' := gR2) (v := j) n5 hRw jn nv (by rw [fC _ _ (by omega), if_pos ⟨rfl, rfl⟩]) (by rw [fR _ _ (by omega), if_pos ⟨rfl, rfl⟩]) (fun i hi => by rw [fC _ _ (by omega), if_neg (by omega), if_neg (by omega)]) (by rw [fC _ _ (by omega), if_neg (by omega), if_pos ⟨rfl, rfl⟩]) (fun i hi => by rw [fR _ _ (by omega), if_neg (by omega), if_neg (by omega)]) (by rw [fR _ _ (by omega), if_neg (by omega), if_pos ⟨rfl, rfl⟩])
      refine ⟨_, gR2, tk, (x1.cb.wi (by unfold dCb; omega)).wi (by unfold dCb; omega), yR.tr x2.rk, fun o k a c d => ⟨by rw [fC o k a, if_neg c, if_neg (by omega)], (x1.at (by omega)).2⟩, fun o k a c d => ⟨by rw [fR o k a, if_neg c, if_neg (by omega)], (x2.at (by omega)).2⟩, Or.inr ⟨e3.cg (fun k => by rw [yI_wi, if_neg (by omega), yI_wi, if_neg (by omega)]) rfl (fun _ _ _ => rfl) rfl, le, Tr', ?_⟩⟩
      rw [st]
      by_cases c : xI gR2 113 8 = 2
      · exact Or.inl ⟨c, if_pos c⟩
      · exact Or.inr ⟨c, if_neg c⟩
theorem f_isName (h : zFC g m f pl) : F_X6_isName g = 0 := by
  unfold F_X6_isName
  rw [h.2.2.2.2.1, if_neg (by decide)]
theorem c_rowStop {a : Nat} (h : F_X6_isName g = 0) : xlim (S_X6_readRow_25 t) (nI a, g) = some g := by
  refine xlim_end ?_
  unfold S_X6_readRow_25
  by_cases c : (5 : Int32) ≤ nI a
  · simp only [if_pos c]
  · simp only [if_neg c, if_pos h]
theorem j_rowAll (ht : t = 2 ∨ t = 11) (hb : b ≤ 1) : ∀ d a gC gR, 6 ≤ d + a → xI gR 113 31 = nI b → zTxC gC m bt → zTxR gR m bt → zGo2 gC gR m bt → zVn gC gR t b n → zVr gC gR t b n a → ∃ gC1 gC' gR', E_X6_takeRowName t gC = some gC1 ∧ xlim (S_X6_readRow_25 t) (nI a, gC1) = some gC' ∧ zCb t gC gC' ∧ zRk b gR gR' ∧ (∀ o k, o ≤ 19 → ¬ (o = t ∧ k = 6) → o ≠ t + 3 → xI gC' o k = xI gC o k ∧ xL gC' o k = xL gC o k) ∧ (∀ o k, 116 ≤ o → ¬ (o = 118 ∧ k = b) → o ≠ 119 → xI gR' o k = xI gR o k ∧ xL gR' o k = xL gR o k) ∧ ((zFd gC' gR' m ∧ xlim S_X12_readRow_10 gR = some (.inl gR')) ∨ (zGo2 gC' gR' m bt ∧ (∃ r', 0 < r' ∧ zVr gC' gR' t b n r') ∧ xlim S_X12_readRow_10 gR = some (.inr gR'))) := by
  intro d
  induction d with
  | zero => intro a gC gR hd _ _ _ _ Tn Tr; have := Tn.1; have := Tr.1; omega
  | succ d ih =>
    intro a gC gR hd h31 hC hR h Tn Tr
    obtain ⟨gC1, gR1, e1, e2, e3, e4, e5, cs⟩ := j_rowName ht hb h31 hC hR h Tn Tr
    rcases cs with ⟨fd, st⟩ | ⟨go, le, Tr1, ⟨k2, st⟩ | ⟨k2, st⟩⟩
    · obtain ⟨fd, pl, d1, d2, d3⟩ := fd
      exact ⟨gC1, gC1, gR1, e1, c_rowStop (f_isName d2), e2, e3, e4, e5, Or.inl ⟨⟨fd, pl, d1, d2, d3⟩, xlim_end st⟩⟩
    · have nm : F_X6_isName gC1 = 1 := by
        rcases go.2.2.name with ⟨x, _⟩ | ⟨_, x⟩
        · exact x
        · exact (x k2).elim
      have n5 := Tn.1
      obtain ⟨gC2, gC', gR', i1, i2, i3, i4, i5, i6, i7⟩ := ih (a + 1) gC1 gR1 (by omega) (e3.b31 h31) (hC.cb ht e2) (hR.rk e3) go (Tn.cg (fun o k z => e4 o k (by omega) (by omega) (by omega)) (fun o k z => e5 o k (by omega) (by omega) (by omega))) Tr1
      refine ⟨gC1, gC', gR', e1, ?_, e2.tr i3, e3.tr i4, fun o k x y z => ⟨(i5 o k x y z).1.trans (e4 o k x y z).1, (i5 o k x y z).2.trans (e4 o k x y z).2⟩, fun o k x y z => ⟨(i6 o k x y z).1.trans (e5 o k x y z).1, (i6 o k x y z).2.trans (e5 o k x y z).2⟩, ?_⟩
      · have s1 : S_X6_readRow_25 t (nI a, gC1) = some (.inl (nI (a + 1), gC2)) := by
          unfold S_X6_readRow_25
          simp only [nI_1]
          rw [if_neg (show ¬ (5 : Int32) ≤ nI a from nI_ge (b := 5) (by omega) (by omega)), nm, if_neg (by decide), i1, xb1_some]
        rw [xlim_go s1, i2]
      · rw [xlim_go st]
        exact i7
    · have nm : F_X6_isName gC1 = 0 := by
        rcases go.2.2.name with ⟨_, x, _⟩ | ⟨x, _⟩
        · exact (k2 x).elim
        · exact x
      exact ⟨gC1, gC1, gR1, e1, c_rowStop nm, e2, e3, e4, e5, Or.inr ⟨go, ⟨a + 1, by omega, Tr1⟩, xlim_end st⟩⟩
theorem f_row (ht : t = 2 ∨ t = 11) {R : Nat → Nat} (hn : n ≤ 5) (hr : r ≤ 5) (h0 : xI g t 0 = nI n) (h6 : xI g t 6 = nI r) (hRw : ∀ i, i < r → R i < 5 ∧ xI g (t + 3) i = nI (R i)) (hC : zTxC g m bt) (h : zFC g m f pl) : ∃ g', K_X6_readRow_15 t g = some g' ∧ zCb t g g' ∧ zFC g' m f pl := by
  obtain ⟨g1, a1, a2, a3⟩ := f_adv hC h
  have bits := c_rowBits (R := R) (g := g1) (t := t) hr ((a2.at (by omega)).1.trans h6) (fun i hi => ⟨(hRw i hi).1, (a2.at (by omega)).1.trans (hRw i hi).2⟩)
  obtain ⟨x, g2, b1, b2, b3⟩ := f_thing (t := t) hn ((a2.at (by omega)).1.trans h0) (hC.c0 a2) a3 (nI (zRwb R r))
  obtain ⟨g3, c1, c2, c3⟩ := f_sign (hC.c0 (a2.tr b2)) b3 59
  refine ⟨g3, ?_, ((a2.tr b2).tr c2).cb, c3⟩
  have tk : E_X6_takeRowName t g1 = some g2 := by
    unfold E_X6_takeRowName
    rw [bits, xb1_some, b1, xb2_some, b3.2.2.1, if_neg (nI_nz b3.1 (by have := b3.2.1; omega))]
  unfold K_X6_readRow_15
  rw [a1, xb1_some, tk, xb1_some, show ((0 : Int32), g2) = (nI 0, g2) from rfl, c_rowStop (f_isName b3), xb1_some, c1, xb1_some]
theorem j_row (ht : t = 2 ∨ t = 11) (hb : b ≤ 1) (h31 : xI gR 113 31 = nI b) (hC : zTxC gC m bt) (hR : zTxR gR m bt) (h : zGo2 gC gR m bt) (h8 : xI gR 113 8 = 3) (hw : xL gR 113 10 = zOwn 4) (T : zTbl gC gR t b n r p k) (hr : xI gR 123 b = nI (if r = 0 then 0 else 1)) (Wy : zWays gC gR t b k) : ∃ gC' gR', E_X6_readRow t gC = some gC' ∧ E_X12_readLine gR = some gR' ∧ zCb t gC gC' ∧ zRk b gR gR' ∧ zLn gC gC' gR' m bt t b := by
  obtain ⟨Tn, ⟨w, u, s, w1, w2, w3, w4, w5, w6, w7, w8, w9⟩, Tr, Tp, T2⟩ := T
  have o1 : ∀ x : Nat, x ≤ 1 → nI x = 0 ∨ nI x = 1 := by decide
  have full : E_X12_isFull gR = some (if xI gR 123 b = 0 then 0 else 1) := r_fullJ hb h31 h8 (j := 4) (by decide) hw (by rw [w5]; exact o1 w w1) (by rw [w7]; exact o1 u w2)
  rw [hr] at full
  have n5 := Tn.1
  have rn := Tr.1
  by_cases c : r = 0
  · subst c
    have rl := r_line h8 full
    rw [hw, if_pos (show (if nI (if 0 = 0 then 0 else 1) = 0 then (0 : Int32) else 1) = 0 from rfl)] at rl
    obtain ⟨gC1, gR1, a1, a2, a3, a4, a5⟩ := j_adv hC hR h
    have h31' := a4.rk.b31 (b := b) h31
    have yR : zRk b gR (xWI gR1 123 b 1) := a4.rk.wi (by unfold dRb; omega)
    have e1 : ∀ o k, o ≤ 19 → xI gC1 o k = xI gC o k ∧ xL gC1 o k = xL gC o k := fun o k x => a3.at (by omega)
    have e2 : ∀ o k, 116 ≤ o → ¬ (o = 123 ∧ k = b) → xI (xWI gR1 123 b 1) o k = xI gR o k ∧ xL (xWI gR1 123 b 1) o k = xL gR o k := fun o k x y => ⟨by rw [yI_wi, if_neg y]; exact (a4.at (by omega)).1, (a4.at (by omega)).2⟩
    obtain ⟨gC2, gC3, gR3, i1, i2, i3, i4, i5, i6, i7⟩ := j_rowAll (n := n) (m := m) (bt := bt) ht hb 6 0 gC1 (xWI gR1 123 b 1) (by decide) (yR.b31 h31) (hC.c0 a3) (hR.rk yR) (a5.cg (fun _ => rfl) rfl (fun k _ _ => by rw [yI_wi, if_neg (by omega)]) rfl) (Tn.cg (fun o k z => e1 o k (by omega)) (fun o k z => e2 o k (by omega) (by omega))) (Tr.cg (fun o k z => (e1 o k (by omega)).1) (fun o k z => (e2 o k (by omega) (by omega)).1))
    have i2 : xlim (S_X6_readRow_25 t) (0, gC2) = some gC3 := i2
    have cd : ∀ {gC4}, E_X6_takeSign 59 gC3 = some gC4 → E_X6_readRow t gC = some gC4 := fun {gC4} e => by
      unfold E_X6_readRow K_X6_readRow_15
      rw [Tr.2.1, if_pos (show nI 0 ≤ (0 : Int32) by decide), a1, xb1_some, i1, xb1_some, i2, xb1_some, e, xb1_some]
    have rr : E_X12_readRow gR1 = xbs (xlim S_X12_readRow_10 (xWI gR1 123 b 1)) (fun v_ => some v_) fun e_2 => some e_2 := by
      unfold E_X12_readRow
      rw [h31', xck_nI (by omega) (by decide), nI_clamp (by omega)]
    rcases i7 with ⟨⟨fd, pl, d1, d2, d3⟩, st⟩ | ⟨go, ⟨r', r1, Tr'⟩, st⟩
    · rw [st, xbs_inl] at rr
      obtain ⟨gC4, c1, c2, c3⟩ := f_sign (hC.cb ht (a3.cb.tr i3)) d2 59
      exact ⟨gC4, gR3, cd c1, by rw [rl, r_ln4 (g_good h) a2 rr, f_endR (hR.rk (yR.tr i4)) d3], (a3.cb.tr i3).tr c2.cb, yR.tr i4, Or.inr ⟨fd, pl, d1, c3, d3⟩⟩
    · rw [st, xbs_inr] at rr
      obtain ⟨gC4, gR4, c1, c2, c3, c4, c5⟩ := j_end (hC.cb ht (a3.cb.tr i3)) (hR.rk (yR.tr i4)) go
      refine ⟨gC4, gR4, cd c1, by rw [rl, r_ln4 (g_good h) a2 rr, c2], (a3.cb.tr i3).tr c3.cb, (yR.tr i4).tr c4.rk, ?_⟩
      rcases c5 with c5 | c5
      · have eC : ∀ o k, o ≤ 19 → ¬ (o = t ∧ k = 6) → o ≠ t + 3 → xI gC4 o k = xI gC o k ∧ xL gC4 o k = xL gC o k := fun o k x y z => ⟨((c3.at (by omega)).1.trans (i5 o k x y z).1).trans (e1 o k x).1, ((c3.at (by omega)).2.trans (i5 o k x y z).2).trans (e1 o k x).2⟩
        have eR : ∀ o k, 116 ≤ o → ¬ ((o = 123 ∨ o = 118) ∧ k = b) → o ≠ 119 → xI gR4 o k = xI gR o k ∧ xL gR4 o k = xL gR o k := fun o k x y z => ⟨((c4.at (by omega)).1.trans (i6 o k x (by omega) z).1).trans (e2 o k x (by omega)).1, ((c4.at (by omega)).2.trans (i6 o k x (by omega) z).2).trans (e2 o k x (by omega)).2⟩
        have T123 : xI gR4 123 b = nI 1 := ((c4.at (by omega)).1.trans (i6 123 b (by omega) (by omega) (by omega)).1).trans (by rw [yI_wi, if_pos ⟨rfl, rfl⟩]; rfl)
        refine Or.inl ⟨c5, ⟨gC1, a1, i3.tr c3.cb⟩, n, r', p, k, ⟨Tn.cg (fun o k z => eC o k (by omega) (by omega) (by omega)) (fun o k z => eR o k (by omega) (by omega) (by omega)), ⟨w, u, s, w1, w2, w3, (eC t 3 (by omega) (by omega) (by omega)).1.trans w4, (eR 121 b (by omega) (by omega) (by omega)).1.trans w5, (eC t 4 (by omega) (by omega) (by omega)).1.trans w6, (eR 122 b (by omega) (by omega) (by omega)).1.trans w7, (eC t 5 (by omega) (by omega) (by omega)).1.trans w8, (eR 117 b (by omega) (by omega) (by omega)).1.trans w9⟩, Tr'.cg (fun o k z => (c3.at (by omega)).1) (fun o k z => (c4.at (by omega)).1), Tp.cg (fun o k z => eC o k (by omega) (by omega) (by omega)) (fun o k z => eR o k (by omega) (by omega) (by omega)), T2.cg (fun o k z => (eC o k (by omega) (by omega) (by omega)).1) (fun o k z => (eR o k (by omega) (by omega) (by omega)).1)⟩, by rw [T123, if_neg (by omega)], Wy.cg (fun k => (eC (t + 8) k (by omega) (by omega) (by omega)).1) (fun k => (eR 131 k (by omega) (by omega) (by omega)).1)⟩
      · exact Or.inr c5
  · obtain ⟨R, hRw⟩ := Tr.fn n5
    have rl := r_line h8 full
    rw [hw, if_neg c, if_neg (by decide)] at rl
    obtain ⟨gC2, gR2, b1, b2⟩ := j_full (t := t) (b := b) (K := K_X6_readRow_15 t) h hC (fun g f pl y0 y1 => f_row (R := R) (n := n) (r := r) ht n5 (by omega) ((y0.at (by omega)).1.trans Tn.2.1) ((y0.at (by omega)).1.trans Tr.2.1) (fun i hi => ⟨by have := (hRw i hi).1; omega, (y0.at (by omega)).1.trans (hRw i hi).2.1⟩) (hC.c0 y0) y1) rl
    refine ⟨gC2, gR2, ?_, b2⟩
    unfold E_X6_readRow
    rw [Tr.2.1, if_neg (show ¬ nI r ≤ (0 : Int32) from nI_ge (b := r) (a := 0) (by omega) (by omega)), b1]
end LR
