/-! STREET: a two opened by both -/
section LQ
variable {gC gR gC' gR' g g' g1 : xSt} {t b n w u s r p k m o i q f pl d : Nat} {bt : Nat → Nat} {rP : Nat → Int32 → xSt → Option (Int32 × xSt)}
theorem xbit_0 : ∀ v, v < 5 → xbit 0 (nI v) = 0 := by decide +kernel
theorem xbit_2p : ∀ j, j < 5 → ∀ i, i < 5 → xbit (nI (2 ^ j)) (nI i) = if i = j then 1 else 0 := by decide +kernel
def zOp (g : xSt) (b k d : Nat) : Prop := xI g 113 29 = nI (d + 1) ∧ xI g 132 d = nI (60 * b + k) ∧ xI g 133 d = 0 ∧ ∀ q, q < 3 → xI g 131 (3 * (60 * b + k) + q) = -1
def zFC2 (gC gC' : xSt) (t k : Nat) : Prop := ∀ o q, o ≤ 19 → ¬ (o = t ∧ q = 11) → ¬ ((o = t + 6 ∨ o = t + 7) ∧ q = k) → xI gC' o q = xI gC o q ∧ xL gC' o q = xL gC o q
def zFR2 (gR gR' : xSt) (b k d : Nat) : Prop := ∀ o q, 116 ≤ o → ¬ (o = 127 ∧ q = b) → ¬ ((o = 129 ∨ o = 130) ∧ q = 60 * b + k) → ¬ (o = 131 ∧ 3 * (60 * b + k) ≤ q ∧ q < 3 * (60 * b + k) + 3) → ¬ ((o = 132 ∨ o = 133) ∧ q = d) → xI gR' o q = xI gR o q ∧ xL gR' o q = xL gR o q
theorem zOpn_at (g : xSt) (h : o ≠ 113) : xI (zOpn g b (60 * b + k) d) o q = if o = 133 ∧ q = d then 0 else if o = 132 ∧ q = d then nI (60 * b + k) else if o = 131 ∧ q = 3 * (60 * b + k) + 2 then -1 else if o = 131 ∧ q = 3 * (60 * b + k) + 1 then -1 else if o = 131 ∧ q = 3 * (60 * b + k) then -1 else if o = 127 ∧ q = b then nI (k + 1) else xI g o q := by
  unfold zOpn
  rw [yI_wi, if_neg (by omega), yI_wi, yI_wi, yI_wi, yI_wi, yI_wi, yI_wi, show 60 * b + k - 60 * b + 1 = k + 1 by omega]
theorem zOpn_113 (g : xSt) : xI (zOpn g b i d) 113 q = if q = 29 then nI (d + 1) else xI g 113 q := by
  unfold zOpn
  rw [yI_wi]
  by_cases c : q = 29
  · rw [if_pos ⟨rfl, c⟩, if_pos c]
  · rw [if_neg (fun z => c z.2), if_neg c, yI_wi, if_neg (by omega), yI_wi, if_neg (by omega), yI_wi, if_neg (by omega), yI_wi, if_neg (by omega), yI_wi, if_neg (by omega), yI_wi, if_neg (by omega)]
theorem zOpn_rk (hb : b ≤ 1) (hk : k < 60) : zRk b g (zOpn g b (60 * b + k) d) := by
  unfold zOpn
  exact ((((((zRk.refl.wi (by unfold dRb; omega)).wi (by unfold dRb; omega)).wi (by unfold dRb; omega)).wi (by unfold dRb; omega)).wi (by unfold dRb; omega)).wi (by unfold dRb; omega)).wi (by unfold dRb; omega)
theorem r_24 (hb : b ≤ 1) (h31 : xI g 113 31 = nI b) (hk : k < 60) (h127 : xI g 127 b = nI k) {y : Int32} (th : E_X12_thingHere g = some y) : E_X12_readTwo g = if 0 ≤ y then K_X12_readTwo_46 (nI (60 * b + k)) (xWI g 129 (60 * b + k) y) else xb1 (E_X12_fails 5 (xI (xWI g 129 (60 * b + k) y) 113 6) (xWI g 129 (60 * b + k) y)) fun g43_6 => K_X12_readTwo_46 (nI (60 * b + k)) g43_6 := by
  rw [k_r24, h31, xck_nI (by omega) (by decide), th, xb1_some, nI_clamp (by omega), h127, show (60 * nI b) + nI k = nI (60 * b + k) from nI_b5 60 b k, xck_nI (by omega) (by decide), xck_nI (by omega) (by decide), nI_clamp (by omega)]
  rw [show xI (xWI g 129 (60 * b + k) y) 129 (60 * b + k) = y by rw [yI_wi, if_pos ⟨rfl, rfl⟩]]
theorem r_57 (hi : i < 120) {y : Int32} (th : E_X12_thingHere g = some y) (hg : F_X12_isGood (xWI g 130 i y) = 1) : K_X12_readTwo_57 (nI i) g = if xI (xWI g 130 i y) 113 8 = 2 then K_X12_readTwo_86 (nI i) (xWI g 130 i y) else xb1 (E_X12_misplaced (xWI g 130 i y)) fun g => K_X12_readTwo_86 (nI i) g := by
  rw [k_r57, th, xb1_some, xck_nI hi (by decide), nI_clamp (by omega), hg, if_neg (by decide)]
theorem r_86 (hi : i < 120) (hg : F_X12_isGood g = 1) : K_X12_readTwo_86 (nI i) g = if 0 ≤ xI g 130 i then K_X12_readTwo_111 (nI i) g else xb1 (E_X12_fails 5 (xI g 113 6) g) fun g => K_X12_readTwo_111 (nI i) g := by
  unfold K_X12_readTwo_86
  rw [hg, if_neg (by decide), xck_nI hi (by decide), nI_clamp (by omega)]
theorem r_111 (hi : i < 120) (hg : F_X12_isGood g = 1) : K_X12_readTwo_111 (nI i) g = if xI g 130 i = xI g 129 i then (xb1 (E_X12_fails 3 (xI g 113 6) g) fun g => K_X12_readTwo_142 (nI i) g) else K_X12_readTwo_142 (nI i) g := by
  unfold K_X12_readTwo_111
  rw [hg, if_neg (by decide), xck_nI hi (by decide), xck_nI hi (by decide), nI_clamp (by omega)]
theorem c_addTwo (hk : k < 60) (ht : t = 2 ∨ t = 11) (h : xI g t 11 = nI k) (x y : Int32) : E_X10_addTwo t x y g = some (nI k, xWI (xWI (xWI g (t + 6) k x) (t + 7) k y) t 11 (nI (k + 1))) := by
  have e : E_X10_addTwo t x y g = some ((xI (xWI (xput (xput g (t + 6) 60 (xI g t 11) x) (t + 7) 60 (xI (xput g (t + 6) 60 (xI g t 11) x) t 11) y) t 11 ((xI (xput (xput g (t + 6) 60 (xI g t 11) x) (t + 7) 60 (xI (xput g (t + 6) 60 (xI g t 11) x) t 11) y) t 11) + 1)) t 11) - 1, xWI (xput (xput g (t + 6) 60 (xI g t 11) x) (t + 7) 60 (xI (xput g (t + 6) 60 (xI g t 11) x) t 11) y) t 11 ((xI (xput (xput g (t + 6) 60 (xI g t 11) x) (t + 7) 60 (xI (xput g (t + 6) 60 (xI g t 11) x) t 11) y) t 11) + 1)) := rfl
  have e1 : xI (xWI g (t + 6) k x) t 11 = nI k := by rw [yI_wi, if_neg (by omega)]; exact h
  have e2 : xI (xWI (xWI g (t + 6) k x) (t + 7) k y) t 11 = nI k := by rw [yI_wi, if_neg (by omega)]; exact e1
  rw [e, h, xput_nI hk (by decide), e1, xput_nI hk (by decide), e2, nI_1, yI_wi, if_pos ⟨rfl, rfl⟩]
  have : nI (k + 1) - 1 = nI k := by
    rw [← nI_1]
    exact Int32.add_sub_cancel _ _
  rw [this]
theorem j_two (ht : t = 2 ∨ t = 11) (hb : b ≤ 1) (h31 : xI gR 113 31 = nI b) (hC : zTxC gC m bt) (hR : zTxR gR m bt) (h : zGo2 gC gR m bt) (Tn : zVn gC gR t b n) (T2 : zV2 gC gR t b n k) (k60 : k < 60) (k2 : xI gR 113 8 = 2) (hd : d ≤ 10) (h29 : xI gR 113 29 = nI d) (hF : ∀ g f pl a, zFC g m f pl → rP t a g = some (-1, g)) (c : Int32) : ∃ gR', E_X12_readTwo gR = some gR' ∧ zRk b gR gR' ∧ ((∃ x gC', K_X6_readPart_52 rP t c gC = some (x, gC') ∧ zCb t gC gC' ∧ zFd gC' gR' m) ∨ (∃ gC', zCb t gC gC' ∧ zGo2 gC' gR' m bt ∧ K_X6_readPart_52 rP t c gC = (xb2 (rP t (c + 1) gC') fun x g => zPB rP t c (nI k) x g) ∧ zV2 gC' gR' t b n (k + 1) ∧ zOp gR' b k d ∧ zFC2 gC gC' t k ∧ zFR2 gR gR' b k d)) := by
  have n5 := Tn.1
  have i120 : 60 * b + k < 120 := by omega
  obtain ⟨j, hj⟩ := zIst_ex (fun i => xL gR 124 (5 * b + i) = xL gR 113 10) n
  have th := r_thingHere hb h31 n5 Tn.2.2.1 hj
  have jl := hj.1
  have pre : ∀ y : Int32, zRk b gR (xWI gR 129 (60 * b + k) y) ∧ zGo2 gC (xWI gR 129 (60 * b + k) y) m bt ∧ zVn gC (xWI gR 129 (60 * b + k) y) t b n ∧ xI (xWI gR 129 (60 * b + k) y) 113 8 = 2 := fun y => ⟨zRk.refl.wi (by unfold dRb; omega), h.cg (fun _ => rfl) rfl (fun k _ _ => by rw [yI_wi, if_neg (by omega)]) rfl, Tn.cg (fun _ _ _ => ⟨rfl, rfl⟩) (fun o k z => ⟨by rw [yI_wi, if_neg (by omega)], rfl⟩), by rw [yI_wi, if_neg (by omega)]; exact k2⟩
  by_cases jn : j < n
  · rw [if_pos (show xI gR 113 8 = 2 ∧ j < n from ⟨k2, jn⟩)] at th
    have rt := r_24 hb h31 k60 T2.2.2.1 th
    obtain ⟨y1, y2, y3, y4⟩ := pre (nI j)
    obtain ⟨gC1, gR3, z1, z2, cs⟩ := j_thing hC (hR.rk y1) y2 ht hb y3 (j := j) hj 0
    rcases cs with ⟨x, _⟩ | ⟨_, x, _⟩ | ⟨_, _, x, _⟩ | ⟨_, _, _, e1, e2, go3⟩
    · exact (x y4).elim
    · omega
    · exact (x (xbit_0 j (by omega))).elim
    · have hC1 := hC.c0 z1
      have yR3 : zRk b gR gR3 := y1.tr z2.rk
      have hR3 := hR.rk yR3
      have h31' := yR3.b31 h31
      have Tn3 : zVn gC1 gR3 t b n := y3.cg (fun o k z => z1.at (by omega)) (fun o k z => z2.at (by omega))
      have rt : E_X12_readTwo gR = K_X12_readTwo_57 (nI (60 * b + k)) gR3 := by
        rw [rt, if_pos (show (0 : Int32) ≤ nI j from nI_le (a := 0) (by omega) (by omega))]
        unfold K_X12_readTwo_46
        rw [g_good y2, if_neg (by decide), e2, xb1_some]
      obtain ⟨j2, hj2⟩ := zIst_ex (fun i => xL gR3 124 (5 * b + i) = xL gR3 113 10) n
      have th2 := r_thingHere hb h31' n5 Tn3.2.2.1 hj2
      have jl2 := hj2.1
      have cl : K_X6_readPart_52 rP t c gC = xb2 (E_X6_takeThing t (nI (2 ^ j)) gC1) fun r66_2 g66_2 => if (xI g66_2 20 10) = 0 then (xb2 (E_X10_addTwo t (nI j) r66_2 g66_2) fun r83_4 g83_4 => K_X6_readPart_90 rP t c r83_4 g83_4) else K_X6_readPart_90 rP t c (-1) g66_2 := by
        rw [k_p52, e1, xb2_some, show imax (nI j) 0 = nI (max j 0) from r_imax (b := 0) (by omega) (by decide), Nat.max_zero, x_sh5 j (by omega)]
      have x129 : xI gR3 129 (60 * b + k) = nI j := by rw [(z2.at (by omega)).1, yI_wi, if_pos ⟨rfl, rfl⟩]
      generalize hy : (if xI gR3 113 8 = 2 ∧ j2 < n then nI j2 else -1) = y at th2
      have w1 : zRk b gR3 (xWI gR3 130 (60 * b + k) y) := zRk.refl.wi (by unfold dRb; omega)
      have go4 : zGo2 gC1 (xWI gR3 130 (60 * b + k) y) m bt := go3.cg (fun _ => rfl) rfl (fun k _ _ => by rw [yI_wi, if_neg (by omega)]) rfl
      have Tn4 : zVn gC1 (xWI gR3 130 (60 * b + k) y) t b n := Tn3.cg (fun _ _ _ => ⟨rfl, rfl⟩) (fun o k z => ⟨by rw [yI_wi, if_neg (by omega)], rfl⟩)
      have k4 : xI (xWI gR3 130 (60 * b + k) y) 113 8 = xI gR3 113 8 := by rw [yI_wi, if_neg (by omega)]
      have v130 : xI (xWI gR3 130 (60 * b + k) y) 130 (60 * b + k) = y := by rw [yI_wi, if_pos ⟨rfl, rfl⟩]
      have v129 : xI (xWI gR3 130 (60 * b + k) y) 129 (60 * b + k) = nI j := by rw [yI_wi, if_neg (by omega)]; exact x129
      have q57 := r_57 i120 th2 (g_good go4)
      have q86 := r_86 i120 (g_good go4)
      have q111 := r_111 i120 (g_good go4)
      rw [v130] at q86
      rw [v130, v129] at q111
      obtain ⟨gC2, gR5, u1, u2, cs⟩ := j_thing hC1 (hR3.rk w1) go4 ht hb Tn4 (j := j2) hj2 (nI (2 ^ j))
      have yR5 : zRk b gR gR5 := (yR3.tr w1).tr u2.rk
      have bad : ∀ x, E_X6_takeThing t (nI (2 ^ j)) gC1 = some (x, gC2) → zFd gC2 gR5 m → E_X12_readTwo gR = some gR5 → ∃ gR', E_X12_readTwo gR = some gR' ∧ zRk b gR gR' ∧ ((∃ x gC', K_X6_readPart_52 rP t c gC = some (x, gC') ∧ zCb t gC gC' ∧ zFd gC' gR' m) ∨ (∃ gC', zCb t gC gC' ∧ zGo2 gC' gR' m bt ∧ K_X6_readPart_52 rP t c gC = (xb2 (rP t (c + 1) gC') fun x g => zPB rP t c (nI k) x g) ∧ zV2 gC' gR' t b n (k + 1) ∧ zOp gR' b k d ∧ zFC2 gC gC' t k ∧ zFR2 gR gR' b k d)) := fun x hx ⟨fd, pl, d1, d2, d3⟩ hr => by
        obtain ⟨gC3, c1, c2, c3⟩ := f_P9 (rP := rP) (a := -1) ht (Or.inl rfl) hF (hC1.c0 u1) d2 c
        exact ⟨gR5, hr, yR5, Or.inl ⟨-1, gC3, by rw [cl, hx, xb2_some, d2.2.2.1, if_neg (nI_nz d2.1 (by have := d2.2.1; omega)), c1], (z1.tr u1).cb.tr c2, fd, pl, d1, c3, d3⟩⟩
      have hR5 := hR.rk yR5
      rcases cs with ⟨kn, ⟨x, e5⟩, e6, fd, pl, d1, d2, d3⟩ | ⟨kn, jn2, ⟨x, e5⟩, e6, fd, pl, d1, d2, d3⟩ | ⟨kn, jn2, xb, ⟨x, e5⟩, e6, fd, pl, d1, d2, d3⟩ | ⟨kn, jn2, xb, e5, e6, go5⟩
      · exact bad x e5 ⟨fd, pl, d1, d2, d3⟩ (by rw [rt, q57, if_neg kn, e6, xb1_some, r_86F hR5 d3])
      · rw [if_neg (show ¬ (xI gR3 113 8 = 2 ∧ j2 < n) from fun z => by have := z.2; omega)] at hy
        exact bad x e5 ⟨fd, pl, d1, d2, d3⟩ (by rw [rt, q57, if_pos kn, q86, if_neg (by rw [← hy]; decide), e6, xb1_some, r_111F hR5 d3])
      · rw [if_pos (show xI gR3 113 8 = 2 ∧ j2 < n from ⟨k4.symm.trans kn, jn2⟩)] at hy
        have jj : j2 = j := by
          rw [xbit_2p j (by omega) j2 (by omega)] at xb
          by_cases e : j2 = j
          · exact e
          · rw [if_neg e] at xb; exact (xb rfl).elim
        exact bad x e5 ⟨fd, pl, d1, d2, d3⟩ (by rw [rt, q57, if_pos kn, q86, if_pos (by rw [← hy]; exact nI_le (a := 0) (by omega) (by omega)), q111, if_pos (by rw [← hy, jj]), e6, xb1_some, r_142F hR5 d3])
      · rw [if_pos (show xI gR3 113 8 = 2 ∧ j2 < n from ⟨k4.symm.trans kn, jn2⟩)] at hy
        have jj : j2 ≠ j := fun e => by
          rw [xbit_2p j (by omega) j2 (by omega), if_pos e] at xb
          exact absurd xb (by decide)
        have q142 : E_X12_readTwo gR = K_X12_readTwo_153 (nI (60 * b + k)) gR5 := by
          rw [rt, q57, if_pos kn, q86, if_pos (by rw [← hy]; exact nI_le (a := 0) (by omega) (by omega)), q111, if_neg (by rw [← hy]; exact fun z => jj ((nI_eq (by omega) (by omega)).mp z))]
          unfold K_X12_readTwo_142
          rw [g_good go4, if_neg (by decide), e6, xb1_some]
        have c11 : xI gC2 t 11 = nI k := ((z1.tr u1).at (by omega)).1.trans T2.2.1
        have yC3 : zCb t gC (xWI (xWI (xWI gC2 (t + 6) k (nI j)) (t + 7) k (nI j2)) t 11 (nI (k + 1))) := (((z1.tr u1).cb.wi (by unfold dCb; omega)).wi (by unfold dCb; omega)).wi (by unfold dCb; omega)
        have cl : K_X6_readPart_52 rP t c gC = K_X6_readPart_90 rP t c (nI k) (xWI (xWI (xWI gC2 (t + 6) k (nI j)) (t + 7) k (nI j2)) t 11 (nI (k + 1))) := by
          rw [cl, e5, xb2_some, if_pos go5.1, c_addTwo k60 ht c11, xb2_some]
        have go6 : zGo2 (xWI (xWI (xWI gC2 (t + 6) k (nI j)) (t + 7) k (nI j2)) t 11 (nI (k + 1))) gR5 m bt := go5.cg (fun k => by rw [yI_wi, if_neg (by omega), yI_wi, if_neg (by omega), yI_wi, if_neg (by omega)]) rfl (fun _ _ _ => rfl) rfl
        obtain ⟨gC4, gR6, v, s1, s2, s3, s4, s5, s6⟩ := j_sign (b := 40) (hC.cb ht yC3) hR5 go6 (Or.inr (Or.inl rfl))
        have s1 : E_X6_takeSign 40 _ = some gC4 := s1
        have s2 : E_X12_isSignHere 40 gR5 = some v := s2
        rcases s6 with go7 | ⟨fd, pl, d1, d2, d3⟩
        · have r127 : xI gR6 127 b = nI k := by rw [(s5.at (by omega)).1, (u2.at (by omega)).1, yI_wi, if_neg (by omega), (z2.at (by omega)).1, yI_wi, if_neg (by omega)]; exact T2.2.2.1
          have r29 : xI gR6 113 29 = nI d := by
            rw [s5.1.2 113 29 (by unfold dR0; omega), u2.1.2 113 29 (by unfold dR0; omega), yI_wi, if_neg (by omega), z2.1.2 113 29 (by unfold dR0; omega), yI_wi, if_neg (by omega)]; exact h29
          have rd : E_X12_readTwo gR = some (zOpn gR6 b (60 * b + k) d) := by rw [q142, r_153 hb ((yR5.tr s5.rk).b31 h31) s2 s3 (g_good go7) k60 r127 hd r29]
          have cI : ∀ o q, o ≤ 19 → xI gC4 o q = if o = t ∧ q = 11 then nI (k + 1) else if o = t + 7 ∧ q = k then nI j2 else if o = t + 6 ∧ q = k then nI j else xI gC o q := fun o q ho => by rw [(s4.at (by omega)).1, yI_wi, yI_wi, yI_wi, ((z1.tr u1).at (by omega)).1]
          have rI : ∀ o q, 116 ≤ o → xI gR6 o q = if o = 130 ∧ q = 60 * b + k then nI j2 else if o = 129 ∧ q = 60 * b + k then nI j else xI gR o q := fun o q ho => by rw [(s5.at (by omega)).1, (u2.at (by omega)).1, ← hy, yI_wi, (z2.at (by omega)).1, yI_wi]
          refine ⟨_, rd, (yR5.tr s5.rk).tr (zOpn_rk hb k60), Or.inr ⟨gC4, yC3.tr s4.cb, go7.cg (fun _ => rfl) rfl (fun k _ _ => by rw [zOpn_113, if_neg (by omega)]) rfl, by rw [cl, k_p90, s1, xb1_some], ⟨by omega, ?_, ?_, ?_⟩, ⟨?_, ?_, ?_, ?_⟩, ?_, ?_⟩⟩
          · rw [cI _ _ (by omega), if_pos ⟨rfl, rfl⟩]
          · rw [zOpn_at _ (by omega), if_neg (by omega), if_neg (by omega), if_neg (by omega), if_neg (by omega), if_neg (by omega), if_pos ⟨rfl, rfl⟩]
          · intro i hi
            have zz : ∀ o q, o = 129 ∨ o = 130 → xI (zOpn gR6 b (60 * b + k) d) o q = xI gR6 o q := fun o q ho => by rw [zOpn_at _ (by omega), if_neg (by omega), if_neg (by omega), if_neg (by omega), if_neg (by omega), if_neg (by omega), if_neg (by omega)]
            by_cases e : i = k
            · subst e
              refine ⟨j, j2, jn, jn2, fun z => jj z.symm, ?_, ?_, ?_, ?_⟩
              · rw [cI _ _ (by omega), if_neg (by omega), if_neg (by omega), if_pos ⟨rfl, rfl⟩]
              · rw [zz _ _ (Or.inl rfl), rI _ _ (by omega), if_neg (by omega), if_pos ⟨rfl, rfl⟩]
              · rw [cI _ _ (by omega), if_neg (by omega), if_pos ⟨rfl, rfl⟩]
              · rw [zz _ _ (Or.inr rfl), rI _ _ (by omega), if_pos ⟨rfl, rfl⟩]
            · obtain ⟨x, y, t1, t2, t3, t4, t5, t6, t7⟩ := T2.2.2.2 i (by omega)
              refine ⟨x, y, t1, t2, t3, ?_, ?_, ?_, ?_⟩
              · rw [cI _ _ (by omega), if_neg (by omega), if_neg (by omega), if_neg (by omega), t4]
              · rw [zz _ _ (Or.inl rfl), rI _ _ (by omega), if_neg (by omega), if_neg (by omega), t5]
              · rw [cI _ _ (by omega), if_neg (by omega), if_neg (by omega), if_neg (by omega), t6]
              · rw [zz _ _ (Or.inr rfl), rI _ _ (by omega), if_neg (by omega), if_neg (by omega), t7]
          · rw [zOpn_113, if_pos rfl]
          · rw [zOpn_at _ (by omega), if_neg (by omega), if_pos ⟨rfl, rfl⟩]
          · rw [zOpn_at _ (by omega), if_pos ⟨rfl, rfl⟩]
          · intro q hq
            rw [zOpn_at _ (by omega), if_neg (by omega), if_neg (by omega)]
            have : q = 0 ∨ q = 1 ∨ q = 2 := by omega
            rcases this with e | e | e <;> subst e
            · rw [if_neg (by omega), if_neg (by omega), if_pos ⟨rfl, rfl⟩]
            · rw [if_neg (by omega), if_pos ⟨rfl, rfl⟩]
            · rw [if_pos ⟨rfl, rfl⟩]
          · intro o q ho h1 h2
            exact ⟨by rw [cI o q ho, if_neg h1, if_neg (by omega), if_neg (by omega)], (s4.at (by omega)).2.trans ((z1.tr u1).at (by omega)).2⟩
          · intro o q ho h1 h2 h3 h4
            refine ⟨by rw [zOpn_at _ (by omega), if_neg (by omega), if_neg (by omega), if_neg (by omega), if_neg (by omega), if_neg (by omega), if_neg (by omega), rI o q ho, if_neg (by omega), if_neg (by omega)], ?_⟩
            exact (s5.at (by omega)).2.trans ((u2.at (by omega)).2.trans (z2.at (by omega)).2)
        · obtain ⟨gC5, c1, c2, c3⟩ := f_PB (rP := rP) (a := nI k) ht (Or.inr ⟨k, k60, rfl⟩) hF ((hC.cb ht yC3).c0 s4) d2 c (-1)
          refine ⟨gR6, ?_, yR5.tr s5.rk, Or.inl ⟨nI k, gC5, by rw [cl, k_p90, s1, xb1_some, hF gC4 fd pl _ d2, xb2_some, c1], (yC3.tr s4.cb).tr c2, fd, pl, d1, c3, d3⟩⟩
          rw [q142]
          unfold K_X12_readTwo_153
          rw [s2, xb1_some, s3, xb1_some, f_good d3, if_pos rfl]
  · rw [if_neg (show ¬ (xI gR 113 8 = 2 ∧ j < n) from fun z => jn z.2)] at th
    have rt := r_24 hb h31 k60 T2.2.2.1 th
    rw [if_neg (by decide)] at rt
    obtain ⟨y1, y2, y3, y4⟩ := pre (-1)
    obtain ⟨gC1, gR3, z1, z2, cs⟩ := j_thing hC (hR.rk y1) y2 ht hb y3 (j := j) hj 0
    rcases cs with ⟨x, _⟩ | ⟨_, _, ⟨x, e1⟩, e2, fd, pl, d1, d2, d3⟩ | ⟨_, x, _⟩ | ⟨_, x, _⟩
    · exact (x y4).elim
    · have yR3 : zRk b gR gR3 := y1.tr z2.rk
      obtain ⟨v, e3⟩ := r_57F hb (yR3.b31 h31) n5 ((z2.at (by omega)).1.trans y3.2.2.1) (hR.rk yR3) d3 i120
      obtain ⟨w, gC2, c1, c2, c3⟩ := f_P5b (rP := rP) ht hF n5 ((z1.at (by omega)).1.trans Tn.2.1) (hC.c0 z1) d2 c (1 <<< ((imax x 0) &&& 31)) x
      refine ⟨xWI gR3 130 (60 * b + k) v, by rw [rt, e2, xb1_some, k_r46F d3, e3], yR3.wi (by unfold dRb; omega), Or.inl ⟨w, gC2, by rw [k_p52, e1, xb2_some, c1], z1.cb.tr c2, fd, pl, d1, c3, d3.cg fun k _ _ => by rw [yI_wi, if_neg (by omega)]⟩⟩
    · exact (jn x).elim
    · exact (jn x).elim
end LQ
