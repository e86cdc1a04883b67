/-! STREET: what both sides take, token by token -/
section TK
variable {gC gR gC' gR' g g' : xSt} {m st sp p e k f pl n : Nat} {bt : Nat → Nat} {a : Int32}
theorem zOwn_inj : ∀ i, i < 7 → ∀ j, j < 7 → (zOwn i = zOwn j ↔ i = j) := by decide +kernel
/-- the same token on both sides -/
def zTk (gC gR : xSt) (m : Nat) (bt : Nat → Nat) : Prop := ∃ st sp, st ≤ m ∧ sp ≤ m ∧ xI gC 20 4 = nI st ∧ xI gC 20 5 = nI sp ∧ xI gR 113 6 = nI st ∧ xI gR 113 7 = nI sp ∧ ((xI gC 20 6 = 0 ∧ xI gR 113 8 = 0) ∨ (xI gC 20 6 = 3 ∧ xI gR 113 8 = 1) ∨ (xI gC 20 6 = 1 ∧ xL gC 20 8 = xL gR 113 10 ∧ ((xI gC 20 9 = -1 ∧ (∀ j, j < 7 → xL gR 113 10 ≠ zOwn j) ∧ xI gR 113 8 = 2) ∨ ∃ j, j < 7 ∧ xI gC 20 9 = nI j ∧ xL gR 113 10 = zOwn j ∧ xI gR 113 8 = 3)) ∨ (∃ v, v < 10000 ∧ xI gC 20 6 = 2 ∧ xI gR 113 8 = 4 ∧ xI gC 20 7 = nI v ∧ xI gR 113 9 = nI v) ∨ (zSg (bt st) ∧ st < m ∧ xI gC 20 6 = nI (bt st) ∧ xI gR 113 8 = 5))
theorem zTk_of (hm : m ≤ 1200) (h : zTkC gC m bt st sp) (h' : zTkR gR m bt st sp) : zTk gC gR m bt := by
  obtain ⟨c1, c2, c3, c4, c5⟩ := h
  obtain ⟨r1, r2, r3⟩ := h'
  refine ⟨st, sp, by omega, c4, c1, c2, r1, r2, ?_⟩
  rcases c5 with ⟨e, k0⟩ | ⟨lt, l2, c5⟩
  · rcases r3 with ⟨_, k1⟩ | ⟨lt, _⟩
    · exact Or.inl ⟨k0, k1⟩
    · omega
  · rcases r3 with ⟨e, _⟩ | ⟨_, r3⟩
    · omega
    · rcases c5 with ⟨x1, x2, x3, x4, x5⟩ | ⟨x1, x2, x3, x4, x5⟩ | ⟨x1, x2, x3, x4⟩
      · rcases r3 with ⟨y1, y2, y3⟩ | ⟨y1, _⟩ | ⟨y1, _⟩
        · rcases x5 with ⟨z1, z2⟩ | ⟨z1, z2, z3⟩
          · rcases y3 with ⟨_, u⟩ | ⟨u, _⟩
            · exact Or.inr (Or.inl ⟨z2, u⟩)
            · omega
          · rw [Nat.min_eq_left z1] at y2
            refine Or.inr (Or.inr (Or.inl ⟨z2, x2.trans y2.symm, ?_⟩))
            rcases y3 with ⟨u, _⟩ | ⟨_, u⟩
            · omega
            · rcases z3 with ⟨j, j1, j2, j3⟩ | ⟨j1, j2⟩
              · right
                refine ⟨j, j1, j2, y2.trans j3, ?_⟩
                rcases u with ⟨_, u⟩ | ⟨u, _⟩
                · exact u
                · exact absurd j3 (u j j1)
              · left
                refine ⟨j1, fun j hj => by rw [y2]; exact j2 j hj, ?_⟩
                rcases u with ⟨⟨j, u1, u2⟩, _⟩ | ⟨_, u⟩
                · exact absurd u2 (j2 j u1)
                · exact u
        · exact absurd x1 y1
        · exact absurd x1 y1
      · rcases r3 with ⟨y1, _⟩ | ⟨y1, y2, y3⟩ | ⟨_, y1, _⟩
        · exact absurd y1 x1
        · rcases x5 with ⟨z1, z2⟩ | ⟨z1, z2, z3, z4⟩
          · rcases y3 with ⟨_, u⟩ | ⟨u1, u2, _⟩
            · exact Or.inr (Or.inl ⟨z2, u⟩)
            · exact absurd z1 (fun w => w.elim (by omega) u2)
          · rcases y3 with ⟨u, _⟩ | ⟨_, _, u1, u2⟩
            · exact absurd u (fun w => w.elim (by omega) z2)
            · refine Or.inr (Or.inr (Or.inr (Or.inl ⟨_, ?_, z3, u1, z4, u2⟩)))
              have := zNn_lt (bt := bt) (st := st) (sp - st) fun i hi => (x3 (st + i) (by omega) (by omega)).2
              have p4 : 10 ^ (sp - st) ≤ 10 ^ 4 := Nat.pow_le_pow_right (by decide) z1
              omega
        · exact absurd x2 y1
      · rcases r3 with ⟨y1, _⟩ | ⟨_, y1, _⟩ | ⟨y1, y2, y3⟩
        · exact absurd y1 x1
        · exact absurd y1 x2
        · rcases x4 with ⟨z1, z2⟩ | ⟨z1, z2⟩
          · rcases y3 with ⟨_, u⟩ | ⟨u, _⟩
            · exact Or.inr (Or.inr (Or.inr (Or.inr ⟨z1, lt, z2, u⟩)))
            · exact absurd z1 u
          · rcases y3 with ⟨u, _⟩ | ⟨_, u⟩
            · exact absurd u z1
            · exact Or.inr (Or.inl ⟨z2, u⟩)
/-! good, and at fault -/
def zGo2 (gC gR : xSt) (m : Nat) (bt : Nat → Nat) : Prop := xI gC 20 10 = 0 ∧ xI gR 113 4 = 0 ∧ zTk gC gR m bt
def zFC (g : xSt) (m f pl : Nat) : Prop := 0 < f ∧ f ≤ 5 ∧ xI g 20 10 = nI f ∧ xI g 20 11 = nI pl ∧ xI g 20 6 = 0 ∧ xI g 20 5 = nI m
def zFR (g : xSt) (m f pl : Nat) : Prop := 0 < f ∧ f ≤ 5 ∧ xI g 113 4 = nI f ∧ xI g 113 5 = nI pl ∧ ∃ st, st ≤ m ∧ xI g 113 6 = nI st
def zFd (gC gR : xSt) (m : Nat) : Prop := ∃ f pl, pl ≤ m ∧ zFC gC m f pl ∧ zFR gR m f pl
def dC0 (o k : Nat) : Prop := o = 20 ∧ 4 ≤ k ∧ k ≤ 11
/-- the token moves on, if it moves -/
def zMo (g g' : xSt) : Prop := ∀ a p, a ≤ p → p ≤ 1200 → xI g 20 4 = nI a → xI g 20 5 = nI p → ∃ a' p', a ≤ a' ∧ p ≤ p' ∧ a' ≤ p' ∧ p' ≤ 1200 ∧ xI g' 20 4 = nI a' ∧ xI g' 20 5 = nI p' ∧ (a < p ∨ xI g 20 6 = 0 → a' < p' ∨ xI g' 20 6 = 0)
theorem zMo.refl : zMo g g := fun a p h1 h2 h3 h4 => ⟨a, p, Nat.le_refl _, Nat.le_refl _, h1, h2, h3, h4, id⟩
theorem zMo.tr {g1 : xSt} (h : zMo g g1) (h' : zMo g1 g') : zMo g g' := fun a p h1 h2 h3 h4 => by
  obtain ⟨a1, p1, q1, q2, q3, q4, q5, q6, q7⟩ := h a p h1 h2 h3 h4
  obtain ⟨a2, p2, r1, r2, r3, r4, r5, r6, r7⟩ := h' a1 p1 q3 q4 q5 q6
  exact ⟨a2, p2, by omega, by omega, r3, r4, r5, r6, fun z => r7 (q7 z)⟩
theorem zTkC.mo (h : zTkC g m bt st sp) : st < sp ∨ xI g 20 6 = 0 := h.2.2.2.2.elim (fun z => Or.inr z.2) fun z => Or.inl z.2.1
theorem zMo.of {st' sp' : Nat} (hp : p ≤ 1200) (h5 : xI g 20 5 = nI p) (h : p ≤ st') (h' : st' ≤ sp') (hm : sp' ≤ 1200) (e4 : xI g' 20 4 = nI st') (e5 : xI g' 20 5 = nI sp') (e6 : st' < sp' ∨ xI g' 20 6 = 0) : zMo g g' := fun a q h1 h2 h3 h4 => by
  have : q = p := (nI_eq (by omega) (by omega)).mp (h4.symm.trans h5)
  exact ⟨st', sp', by omega, by omega, h', hm, e4, e5, fun _ => e6⟩
theorem nI_nz {f : Nat} (h : 0 < f) (h5 : f < 2 ^ 31) : ¬ nI f = 0 := fun z => by have := (nI_eq h5 (by decide)).mp (show nI f = nI 0 from z); omega
/-- no fault behind means none before, and no place told -/
def zGC (g g' : xSt) : Prop := xI g' 20 10 = 0 → xI g 20 10 = 0 ∧ xI g' 20 11 = xI g 20 11
def zGk (g g' : xSt) : Prop := xI g' 113 4 = 0 → xI g 113 4 = 0 ∧ xI g' 113 5 = xI g 113 5
theorem zGC.refl : zGC g g := fun h => ⟨h, rfl⟩
theorem zGk.refl : zGk g g := fun h => ⟨h, rfl⟩
theorem zGC.tr {g1 : xSt} (h : zGC g g1) (h' : zGC g1 g') : zGC g g' := fun x => ⟨(h (h' x).1).1, (h' x).2.trans (h (h' x).1).2⟩
theorem zGk.tr {g1 : xSt} (h : zGk g g1) (h' : zGk g1 g') : zGk g g' := fun x => ⟨(h (h' x).1).1, (h' x).2.trans (h (h' x).1).2⟩
theorem zGC.of (h : xI g' 20 10 = xI g 20 10) (h' : xI g' 20 11 = xI g 20 11) : zGC g g' := fun x => ⟨h.symm.trans x, h'⟩
theorem zGk.of (h : xI g' 113 4 = xI g 113 4) (h' : xI g' 113 5 = xI g 113 5) : zGk g g' := fun x => ⟨h.symm.trans x, h'⟩
theorem zGC.fl {q x y z : Int32} (hq : ¬ q = 0) : zGC g (xWI (xWI (xWI (xWI g 20 10 q) 20 11 x) 20 6 y) 20 5 z) := fun h => by
  rw [yI_wi, if_neg (by omega), yI_wi, if_neg (by omega), yI_wi, if_neg (by omega), yI_wi, if_pos ⟨rfl, rfl⟩] at h
  exact absurd h hq
theorem zGk.fl {q x : Int32} (hq : ¬ q = 0) : zGk g (xWI (xWI g 113 4 q) 113 5 x) := fun h => by
  rw [yI_wi, if_neg (by omega), yI_wi, if_pos ⟨rfl, rfl⟩] at h
  exact absurd h hq
def zC0 (g g' : xSt) : Prop := yAg dC0 g g' ∧ (∀ o k, ¬ (o = 20 ∧ k = 8) → xL g' o k = xL g o k) ∧ zMo g g' ∧ zGC g g'
def dR0 (o k : Nat) : Prop := o = 113 ∧ 4 ≤ k ∧ k ≤ 10
def zR0 (g g' : xSt) : Prop := yAg dR0 g g' ∧ (∀ o k, ¬ (o = 113 ∧ k = 10) → xL g' o k = xL g o k) ∧ zGk g g'
theorem zMo.fl {q : Int32} (hm : m ≤ 1200) (hp : p ≤ m) (h5 : xI g 20 5 = nI p) (h2 : xI g 20 2 = nI m) : zMo g (xWI (xWI (xWI (xWI g 20 10 q) 20 11 (xI g 20 4)) 20 6 0) 20 5 (xI g 20 2)) := fun a q h1 h2' h3 h4 => by
  have : q = p := (nI_eq (by omega) (by omega)).mp (h4.symm.trans h5)
  refine ⟨a, m, Nat.le_refl _, by omega, by omega, hm, ?_, ?_, fun _ => Or.inr (by rw [yI_wi, if_neg (by omega), yI_wi, if_pos ⟨rfl, rfl⟩])⟩
  · rw [yI_wi, if_neg (by omega), yI_wi, if_neg (by omega), yI_wi, if_neg (by omega), yI_wi, if_neg (by omega)]; exact h3
  · rw [yI_wi, if_pos ⟨rfl, rfl⟩]; exact h2
theorem zC0.refl : zC0 g g := ⟨yAg.refl _ _, fun _ _ _ => rfl, zMo.refl, zGC.refl⟩
theorem zR0.refl : zR0 g g := ⟨yAg.refl _ _, fun _ _ _ => rfl, zGk.refl⟩
theorem zC0.tr {g1 : xSt} (h : zC0 g g1) (h2 : zC0 g1 g') : zC0 g g' := ⟨h.1.tr h2.1, fun o k q => (h2.2.1 o k q).trans (h.2.1 o k q), h.2.2.1.tr h2.2.2.1, h.2.2.2.tr h2.2.2.2⟩
theorem zR0.tr {g1 : xSt} (h : zR0 g g1) (h2 : zR0 g1 g') : zR0 g g' := ⟨h.1.tr h2.1, fun o k q => (h2.2.1 o k q).trans (h.2.1 o k q), h.2.2.tr h2.2.2⟩
theorem zTxC.c0 (h : zTxC g m bt) (y : zC0 g g') : zTxC g' m bt := ⟨h.1, h.2.1, (y.1.2 20 2 (by unfold dC0; omega)).trans h.2.2.1, fun k hk => by rw [y.1.2 1 k (by unfold dC0; omega)]; exact h.2.2.2.1 k hk, fun j hj => (y.2.1 21 j (by omega)).trans (h.2.2.2.2 j hj)⟩
theorem zTxR.r0 (h : zTxR g m bt) (y : zR0 g g') : zTxR g' m bt := ⟨h.1, h.2.1, (y.1.2 113 3 (by unfold dR0; omega)).trans h.2.2.1, fun k hk => by rw [y.1.2 115 k (by unfold dR0; omega)]; exact h.2.2.2 k hk⟩
/-- the next token -/
theorem j_adv (hC : zTxC gC m bt) (hR : zTxR gR m bt) (h : zGo2 gC gR m bt) : ∃ gC' gR', E_X6_advance gC = some gC' ∧ E_X12_goOn gR = some gR' ∧ zC0 gC gC' ∧ zR0 gR gR' ∧ zGo2 gC' gR' m bt := by
  obtain ⟨h1, h2, st, sp, t1, t2, t3, t4, t5, t6, -⟩ := h
  obtain ⟨gC', st', sp', a1, a2, a3, a4, a5, a6, a7⟩ := c_advance hC t2 t4
  have b4 := a4
  obtain ⟨b41, b42, b43, b44, -⟩ := b4
  obtain ⟨gR', c1, c2, c3, c4⟩ := q_goOn hR a5 (by omega) t6 a6 a7 a4.pure
  exact ⟨gC', gR', a1, c1, ⟨a2.up fun o k z => by unfold dLx at z; unfold dC0; omega, a3, zMo.of (by have := hC.1; omega) t4 a5 b43 (by have := hC.1; omega) b41 b42 a4.mo, zGC.of (a2.2 20 10 (by unfold dLx; omega)) (a2.2 20 11 (by unfold dLx; omega))⟩, ⟨c2.up fun o k z => by unfold dLr at z; unfold dR0; omega, c3, zGk.of (c2.2 113 4 (by unfold dLr; omega)) (c2.2 113 5 (by unfold dLr; omega))⟩, (a2.2 20 10 (by unfold dLx; omega)).trans h1, (c2.2 113 4 (by unfold dLr; omega)).trans h2, zTk_of hC.1 a4 c4⟩
theorem f_adv (hC : zTxC gC m bt) (h : zFC gC m f pl) : ∃ gC', E_X6_advance gC = some gC' ∧ zC0 gC gC' ∧ zFC gC' m f pl := by
  obtain ⟨h0, h5, h1, h2, h3, h4⟩ := h
  obtain ⟨gC', st', sp', a1, a2, a3, a4, a5, a6, a7⟩ := c_advance hC (Nat.le_refl m) h4
  have a4mo := a4.mo
  obtain ⟨b1, b2, b3, b4, b5⟩ := a4
  refine ⟨gC', a1, ⟨a2.up fun o k z => by unfold dLx at z; unfold dC0; omega, a3, zMo.of hC.1 h4 a5 b3 (by have := hC.1; omega) b1 b2 a4mo, zGC.of (a2.2 20 10 (by unfold dLx; omega)) (a2.2 20 11 (by unfold dLx; omega))⟩, h0, h5, (a2.2 20 10 (by unfold dLx; omega)).trans h1, (a2.2 20 11 (by unfold dLx; omega)).trans h2, ?_, ?_⟩
  · rcases b5 with ⟨_, z⟩ | ⟨z, _⟩
    · exact z
    · omega
  · rw [b2, show sp' = m by omega]
/-- a fault, told by both -/
theorem j_mis (hC : zTxC gC m bt) (h : zGo2 gC gR m bt) : ∃ gC' gR', E_X6_fail 2 gC = some gC' ∧ E_X12_misplaced gR = some gR' ∧ zC0 gC gC' ∧ zR0 gR gR' ∧ zFd gC' gR' m := by
  obtain ⟨h1, h2, st, sp, t1, t2, t3, t4, t5, t6, t7⟩ := h
  have hm := hC.1
  have cls : ∀ q : Nat, q = 1 ∨ q = 2 → (if xI gC 20 6 = 3 then (1 : Int32) else 2) = nI q → (if xI gR 113 8 = 1 then (1 : Int32) else 2) = nI q → ∃ gC' gR', E_X6_fail 2 gC = some gC' ∧ E_X12_misplaced gR = some gR' ∧ zC0 gC gC' ∧ zR0 gR gR' ∧ zFd gC' gR' m := fun q hq e1 e2 => by
    refine ⟨_, _, by unfold E_X6_fail K_X6_fail_21; rw [if_pos h1, e1], by unfold E_X12_misplaced K_X12_misplaced_14 E_X12_fails; rw [h2, if_pos (show (0 : Int32) ≤ 0 by decide), e2, xb1_some], ⟨((((yAg.refl _ gC).wi (by unfold dC0; omega)).wi (by unfold dC0; omega)).wi (by unfold dC0; omega)).wi (by unfold dC0; omega), fun _ _ _ => rfl, zMo.fl hm t2 t4 hC.2.2.1, zGC.fl (nI_nz (f := q) (by omega) (by omega))⟩, ⟨((yAg.refl _ gR).wi (by unfold dR0; omega)).wi (by unfold dR0; omega), fun _ _ _ => rfl, zGk.fl (nI_nz (f := q) (by omega) (by omega))⟩, q, st, t1, ⟨by omega, by omega, ?_, ?_, ?_, ?_⟩, by omega, by omega, ?_, ?_, st, t1, ?_⟩
    · rw [yI_wi, if_neg (by omega), yI_wi, if_neg (by omega), yI_wi, if_neg (by omega), yI_wi, if_pos ⟨rfl, rfl⟩]
    · rw [yI_wi, if_neg (by omega), yI_wi, if_neg (by omega), yI_wi, if_pos ⟨rfl, rfl⟩]; exact t3
    · rw [yI_wi, if_neg (by omega), yI_wi, if_pos ⟨rfl, rfl⟩]
    · rw [yI_wi, if_pos ⟨rfl, rfl⟩]; exact hC.2.2.1
    · rw [yI_wi, if_neg (by omega), yI_wi, if_pos ⟨rfl, rfl⟩]
    · rw [yI_wi, if_pos ⟨rfl, rfl⟩]; exact t5
    · rw [yI_wi, if_neg (by omega), yI_wi, if_neg (by omega)]; exact t5
  have n3 : ∀ b : Nat, zSg b → nI b ≠ 3 := fun b hb z => by
    have : b = 59 ∨ b = 40 ∨ b = 41 ∨ b = 47 := hb
    rcases this with e | e | e | e <;> subst e <;> exact absurd z (by decide)
  rcases t7 with ⟨a, b⟩ | ⟨a, b⟩ | ⟨a, _, b⟩ | ⟨v, _, a, b, _⟩ | ⟨a, _, b, c⟩
  · exact cls 2 (Or.inr rfl) (by rw [a]; rfl) (by rw [b]; rfl)
  · exact cls 1 (Or.inl rfl) (by rw [a]; rfl) (by rw [b]; rfl)
  · rcases b with ⟨_, _, b⟩ | ⟨j, _, _, _, b⟩
    · exact cls 2 (Or.inr rfl) (by rw [a]; rfl) (by rw [b]; rfl)
    · exact cls 2 (Or.inr rfl) (by rw [a]; rfl) (by rw [b]; rfl)
  · exact cls 2 (Or.inr rfl) (by rw [a]; rfl) (by rw [b]; rfl)
  · exact cls 2 (Or.inr rfl) (by rw [b, if_neg (n3 _ a)]; rfl) (by rw [c]; rfl)
theorem j_fail {q : Nat} (hq : q = 3 ∨ q = 4 ∨ q = 5) (hC : zTxC gC m bt) (h : zGo2 gC gR m bt) (h3 : xI gC 20 6 ≠ 3) : ∃ gC' gR', E_X6_fail (nI q) gC = some gC' ∧ E_X12_fails (nI q) (xI gR 113 6) gR = some gR' ∧ zC0 gC gC' ∧ zR0 gR gR' ∧ zFd gC' gR' m := by
  obtain ⟨h1, h2, st, sp, t1, t2, t3, t4, t5, t6, t7⟩ := h
  have hm := hC.1
  refine ⟨_, _, by unfold E_X6_fail K_X6_fail_21; rw [if_pos h1, if_neg h3], by unfold E_X12_fails; rw [h2, if_pos (show (0 : Int32) ≤ 0 by decide)], ⟨((((yAg.refl _ gC).wi (by unfold dC0; omega)).wi (by unfold dC0; omega)).wi (by unfold dC0; omega)).wi (by unfold dC0; omega), fun _ _ _ => rfl, zMo.fl hm t2 t4 hC.2.2.1, zGC.fl (nI_nz (f := q) (by omega) (by omega))⟩, ⟨((yAg.refl _ gR).wi (by unfold dR0; omega)).wi (by unfold dR0; omega), fun _ _ _ => rfl, zGk.fl (nI_nz (f := q) (by omega) (by omega))⟩, q, st, t1, ⟨by omega, by omega, ?_, ?_, ?_, ?_⟩, by omega, by omega, ?_, ?_, st, t1, ?_⟩
  · rw [yI_wi, if_neg (by omega), yI_wi, if_neg (by omega), yI_wi, if_neg (by omega), yI_wi, if_pos ⟨rfl, rfl⟩]
  · rw [yI_wi, if_neg (by omega), yI_wi, if_neg (by omega), yI_wi, if_pos ⟨rfl, rfl⟩]; exact t3
  · rw [yI_wi, if_neg (by omega), yI_wi, if_pos ⟨rfl, rfl⟩]
  · rw [yI_wi, if_pos ⟨rfl, rfl⟩]; exact hC.2.2.1
  · rw [yI_wi, if_neg (by omega), yI_wi, if_pos ⟨rfl, rfl⟩]
  · rw [yI_wi, if_pos ⟨rfl, rfl⟩]; exact t5
  · rw [yI_wi, if_neg (by omega), yI_wi, if_neg (by omega)]; exact t5
theorem f_fail (h : zFC gC m f pl) (a : Int32) : E_X6_fail a gC = some gC := by
  unfold E_X6_fail
  rw [h.2.2.1, if_neg (nI_nz h.1 (by have := h.2.1; omega))]
theorem f_good (h : zFR gR m f pl) : F_X12_isGood gR = 0 := by
  unfold F_X12_isGood
  rw [h.2.2.1, if_neg (nI_nz h.1 (by have := h.2.1; omega))]
theorem g_good (h : zGo2 gC gR m bt) : F_X12_isGood gR = 1 := by
  unfold F_X12_isGood
  rw [h.2.1, if_pos rfl]
theorem f_must (h : zFR gR m f pl) (v : Int32) : E_X12_must v gR = some gR := by
  unfold E_X12_must
  rw [f_good h, if_pos rfl]
/-- a sign -/
theorem r_signH (hR : zTxR gR m bt) (h : zGo2 gC gR m bt) {b : Nat} (hb : zSg b) : ∃ v, E_X12_isSignHere (nI b) gR = some v ∧ ((v = 1 ∧ xI gC 20 6 = nI b) ∨ (v = 0 ∧ xI gC 20 6 ≠ nI b)) := by
  obtain ⟨h1, h2, st, sp, t1, t2, t3, t4, t5, t6, t7⟩ := h
  have lb : b < 256 ∧ 3 < b := by
    have : b = 59 ∨ b = 40 ∨ b = 41 ∨ b = 47 := hb
    omega
  have no : ∀ x : Nat, x ≤ 3 → nI x ≠ nI b := fun x hx z => by have := (nI_eq (by omega) (by omega)).mp z; omega
  unfold E_X12_isSignHere
  rcases t7 with ⟨a, c⟩ | ⟨a, c⟩ | ⟨a, _, c⟩ | ⟨v, _, a, c, _⟩ | ⟨a, lt, c, d⟩
  · exact ⟨0, by rw [c, if_neg (by decide)], Or.inr ⟨rfl, by rw [a]; exact no 0 (by decide)⟩⟩
  · exact ⟨0, by rw [c, if_neg (by decide)], Or.inr ⟨rfl, by rw [a]; exact no 3 (by decide)⟩⟩
  · rcases c with ⟨_, _, c⟩ | ⟨j, _, _, _, c⟩
    · exact ⟨0, by rw [c, if_neg (by decide)], Or.inr ⟨rfl, by rw [a]; exact no 1 (by decide)⟩⟩
    · exact ⟨0, by rw [c, if_neg (by decide)], Or.inr ⟨rfl, by rw [a]; exact no 1 (by decide)⟩⟩
  · exact ⟨0, by rw [c, if_neg (by decide)], Or.inr ⟨rfl, by rw [a]; exact no 2 (by decide)⟩⟩
  · have l2 := hR.2.1 st lt
    rw [d, if_pos rfl, t5, r_sign hR t1, if_pos lt, xb1_some]
    by_cases y : bt st = b
    · rw [y, if_pos rfl]
      exact ⟨1, rfl, Or.inl ⟨rfl, by rw [c, y]⟩⟩
    · have ny : nI (bt st) ≠ nI b := fun z => y ((nI_eq (by omega) (by omega)).mp z)
      rw [if_neg ny]
      exact ⟨0, rfl, Or.inr ⟨rfl, by rw [c]; exact ny⟩⟩
theorem j_sign (hC : zTxC gC m bt) (hR : zTxR gR m bt) (h : zGo2 gC gR m bt) {b : Nat} (hb : zSg b) : ∃ gC' gR' v, E_X6_takeSign (nI b) gC = some gC' ∧ E_X12_isSignHere (nI b) gR = some v ∧ E_X12_must v gR = some gR' ∧ zC0 gC gC' ∧ zR0 gR gR' ∧ (zGo2 gC' gR' m bt ∨ zFd gC' gR' m) := by
  obtain ⟨v, v1, v2⟩ := r_signH hR h hb
  have gg := g_good h
  rcases v2 with ⟨rfl, e⟩ | ⟨rfl, e⟩
  · obtain ⟨gC', gR', a1, a2, a3, a4, a5⟩ := j_adv hC hR h
    refine ⟨gC', gR', 1, ?_, v1, ?_, a3, a4, Or.inl a5⟩
    · unfold E_X6_takeSign; rw [if_pos e, a1, xb1_some]
    · unfold E_X12_must; rw [gg, if_neg (by decide), if_neg (by decide), a2, xb1_some]
  · obtain ⟨gC', gR', a1, a2, a3, a4, fd, pl, a5, a6, a7⟩ := j_mis hC h
    obtain ⟨gC2, b1, b2, b3⟩ := f_adv (hC.c0 a3) a6
    refine ⟨gC2, gR', 0, ?_, v1, ?_, a3.tr b2, a4, Or.inr ⟨fd, pl, a5, b3, a7⟩⟩
    · unfold E_X6_takeSign; rw [if_neg e, a1, xb1_some, b1, xb1_some]
    · unfold E_X12_must; rw [gg, if_neg (by decide), if_pos rfl, a2, xb1_some]
theorem f_sign (hC : zTxC gC m bt) (h : zFC gC m f pl) (a : Int32) : ∃ gC', E_X6_takeSign a gC = some gC' ∧ zC0 gC gC' ∧ zFC gC' m f pl := by
  obtain ⟨gC2, b1, b2, b3⟩ := f_adv hC h
  unfold E_X6_takeSign
  rw [f_fail h, xb1_some, b1, xb1_some]
  by_cases d : xI gC 20 6 = a
  · rw [if_pos d]; exact ⟨gC2, rfl, b2, b3⟩
  · rw [if_neg d]; exact ⟨gC2, rfl, b2, b3⟩
/-- an own word -/
theorem r_wordH (h : zGo2 gC gR m bt) {j : Nat} (hj : j < 7) : (F_X6_isOwn gC (nI j) = 1 ∧ F_X12_isWord gR (zOwn j) = 1 ∧ xI gR 113 8 = 3) ∨ (F_X6_isOwn gC (nI j) = 0 ∧ F_X12_isWord gR (zOwn j) = 0) := by
  obtain ⟨h1, h2, st, sp, t1, t2, t3, t4, t5, t6, t7⟩ := h
  have n1 : ∀ b : Nat, zSg b → nI b ≠ 1 := fun b hb z => by
    have : b = 59 ∨ b = 40 ∨ b = 41 ∨ b = 47 := hb
    rcases this with e | e | e | e <;> subst e <;> exact absurd z (by decide)
  unfold F_X6_isOwn F_X12_isWord
  rcases t7 with ⟨a, c⟩ | ⟨a, c⟩ | ⟨a, _, c⟩ | ⟨v, _, a, c, _⟩ | ⟨a, lt, c, d⟩
  · exact Or.inr ⟨by rw [a, if_neg (by decide)], by rw [c, if_neg (by decide)]⟩
  · exact Or.inr ⟨by rw [a, if_neg (by decide)], by rw [c, if_neg (by decide)]⟩
  · rcases c with ⟨c1, _, c⟩ | ⟨i, i1, i2, i3, c⟩
    · refine Or.inr ⟨?_, by rw [c, if_neg (by decide)]⟩
      rw [a, if_pos rfl, c1, if_neg (fun z => nI_m1 (show j ≤ 1000000 by omega) z.symm)]
    · by_cases y : i = j
      · left
        rw [a, if_pos rfl, i2, y, if_pos rfl, c, if_pos rfl, if_pos ((lg_0 _ _).mpr (by rw [i3, y]))]
        exact ⟨rfl, rfl, rfl⟩
      · right
        rw [a, if_pos rfl, i2, if_neg (fun z => y ((nI_eq (by omega) (by omega)).mp z)), c, if_pos rfl, if_neg (fun z => y ((zOwn_inj i i1 j hj).mp (i3.symm.trans ((lg_0 _ _).mp z))))]
        exact ⟨rfl, rfl⟩
  · exact Or.inr ⟨by rw [a, if_neg (by decide)], by rw [c, if_neg (by decide)]⟩
  · exact Or.inr ⟨by rw [c, if_neg (n1 _ a)], by rw [d, if_neg (by decide)]⟩
theorem j_own (hC : zTxC gC m bt) (hR : zTxR gR m bt) (h : zGo2 gC gR m bt) {j : Nat} (hj : j < 7) : ∃ gC' gR', E_X6_takeOwn (nI j) gC = some gC' ∧ E_X12_must (F_X12_isWord gR (zOwn j)) gR = some gR' ∧ zC0 gC gC' ∧ zR0 gR gR' ∧ (zGo2 gC' gR' m bt ∨ zFd gC' gR' m) := by
  have gg := g_good h
  rcases r_wordH h hj with ⟨e1, e2, -⟩ | ⟨e1, e2⟩
  · obtain ⟨gC', gR', a1, a2, a3, a4, a5⟩ := j_adv hC hR h
    refine ⟨gC', gR', ?_, ?_, a3, a4, Or.inl a5⟩
    · unfold E_X6_takeOwn; rw [e1, if_neg (by decide), a1, xb1_some]
    · unfold E_X12_must; rw [gg, if_neg (by decide), e2, if_neg (by decide), a2, xb1_some]
  · obtain ⟨gC', gR', a1, a2, a3, a4, fd, pl, a5, a6, a7⟩ := j_mis hC h
    obtain ⟨gC2, b1, b2, b3⟩ := f_adv (hC.c0 a3) a6
    refine ⟨gC2, gR', ?_, ?_, a3.tr b2, a4, Or.inr ⟨fd, pl, a5, b3, a7⟩⟩
    · unfold E_X6_takeOwn; rw [e1, if_pos rfl, a1, xb1_some, b1, xb1_some]
    · unfold E_X12_must; rw [gg, if_neg (by decide), e2, if_pos rfl, a2, xb1_some]
theorem f_own (hC : zTxC gC m bt) (h : zFC gC m f pl) (a : Int32) : ∃ gC', E_X6_takeOwn a gC = some gC' ∧ zC0 gC gC' ∧ zFC gC' m f pl := by
  obtain ⟨gC2, b1, b2, b3⟩ := f_adv hC h
  unfold E_X6_takeOwn
  rw [f_fail h, xb1_some, b1, xb1_some]
  by_cases d : F_X6_isOwn gC a = 0
  · rw [if_pos d]; exact ⟨gC2, rfl, b2, b3⟩
  · rw [if_neg d]; exact ⟨gC2, rfl, b2, b3⟩
/-- a number -/
theorem f_number (hC : zTxC gC m bt) (h : zFC gC m f pl) (a b : Int32) : ∃ v gC', E_X6_takeNumber a b gC = some (v, gC') ∧ zC0 gC gC' ∧ zFC gC' m f pl := by
  obtain ⟨gC2, b1, b2, b3⟩ := f_adv hC h
  have k13 : K_X6_takeNumber_13 a b gC = some (xI gC 20 7, gC2) := by
    unfold K_X6_takeNumber_13 K_X6_takeNumber_29
    rw [f_fail h, xb1_some, b1, xb1_some]
    by_cases d : xI gC 20 7 < a
    · rw [if_pos d]
    · rw [if_neg d]
      by_cases e : xI gC 20 7 ≤ b
      · rw [if_pos e]
      · rw [if_neg e]
  refine ⟨xI gC 20 7, gC2, ?_, b2, b3⟩
  unfold E_X6_takeNumber
  rw [f_fail h, xb1_some, k13]
  by_cases d : xI gC 20 6 = 2
  · rw [if_pos d]
  · rw [if_neg d]
theorem f_numeral (h : zFR gR m f pl) (a b : Int32) : E_X12_numeral a b gR = some (a, gR) := by
  unfold E_X12_numeral
  rw [f_good h, if_pos rfl]
theorem j_number (hC : zTxC gC m bt) (hR : zTxR gR m bt) (h : zGo2 gC gR m bt) {lo hi : Nat} (hh : hi < 10000) (hl : lo ≤ hi) : ∃ x y gC' gR', E_X6_takeNumber (nI lo) (nI hi) gC = some (x, gC') ∧ E_X12_numeral (nI lo) (nI hi) gR = some (y, gR') ∧ zC0 gC gC' ∧ zR0 gR gR' ∧ ((zGo2 gC' gR' m bt ∧ ∃ v, lo ≤ v ∧ v ≤ hi ∧ x = nI v ∧ y = nI v) ∨ (zFd gC' gR' m ∧ y = nI lo)) := by
  have gg := g_good h
  have bad : xI gC 20 6 ≠ 2 → xI gR 113 8 ≠ 4 → ∃ x y gC' gR', E_X6_takeNumber (nI lo) (nI hi) gC = some (x, gC') ∧ E_X12_numeral (nI lo) (nI hi) gR = some (y, gR') ∧ zC0 gC gC' ∧ zR0 gR gR' ∧ ((zGo2 gC' gR' m bt ∧ ∃ v, lo ≤ v ∧ v ≤ hi ∧ x = nI v ∧ y = nI v) ∨ (zFd gC' gR' m ∧ y = nI lo)) := fun n2 n4 => by
    obtain ⟨gC', gR', a1, a2, a3, a4, fd, pl, a5, a6, a7⟩ := j_mis hC h
    obtain ⟨x, gC2, b1, b2, b3⟩ := f_number (hC.c0 a3) a6 (nI lo) (nI hi)
    have kk : E_X6_takeNumber (nI lo) (nI hi) gC = K_X6_takeNumber_13 (nI lo) (nI hi) gC' := by
      unfold E_X6_takeNumber
      rw [if_neg n2, a1, xb1_some]
    have kk' : E_X6_takeNumber (nI lo) (nI hi) gC' = K_X6_takeNumber_13 (nI lo) (nI hi) gC' := by
      unfold E_X6_takeNumber
      rw [f_fail a6, xb1_some]
      split <;> rfl
    refine ⟨x, nI lo, gC2, gR', by rw [kk, ← kk', b1], ?_, a3.tr b2, a4, Or.inr ⟨⟨fd, pl, a5, b3, a7⟩, rfl⟩⟩
    unfold E_X12_numeral
    rw [gg, if_neg (by decide), if_neg n4, a2, xb1_some]
    unfold K_X12_numeral_21 K_X12_numeral_53 K_X12_numeral_69
    rw [f_good a7, if_pos rfl, if_pos rfl, if_pos rfl]
  have h0 := h
  obtain ⟨h1, h2, st, sp, t1, t2, t3, t4, t5, t6, t7⟩ := h
  have n2 : ∀ b : Nat, zSg b → nI b ≠ 2 := fun b hb z => by
    have : b = 59 ∨ b = 40 ∨ b = 41 ∨ b = 47 := hb
    rcases this with e | e | e | e <;> subst e <;> exact absurd z (by decide)
  rcases t7 with ⟨a, c⟩ | ⟨a, c⟩ | ⟨a, _, c⟩ | ⟨v, v1, a, c, d1, d2⟩ | ⟨a, lt, c, d⟩
  · exact bad (by rw [a]; decide) (by rw [c]; decide)
  · exact bad (by rw [a]; decide) (by rw [c]; decide)
  · rcases c with ⟨_, _, c⟩ | ⟨j, _, _, _, c⟩
    · exact bad (by rw [a]; decide) (by rw [c]; decide)
    · exact bad (by rw [a]; decide) (by rw [c]; decide)
  · by_cases ok : lo ≤ v ∧ v ≤ hi
    · obtain ⟨gC', gR', a1, a2, a3, a4, a5⟩ := j_adv hC hR h0
      refine ⟨nI v, nI v, gC', gR', ?_, ?_, a3, a4, Or.inl ⟨a5, v, ok.1, ok.2, rfl, rfl⟩⟩
      · unfold E_X6_takeNumber K_X6_takeNumber_13
        rw [if_pos a, d1, if_neg (by rw [nI_ltI (by omega) (by omega)]; omega), if_pos (nI_le ok.2 (by omega)), a1, xb1_some]
      · unfold E_X12_numeral K_X12_numeral_21 K_X12_numeral_53 K_X12_numeral_69
        rw [gg, if_neg (by decide), if_pos c, if_neg (by decide), d2, if_neg (by rw [nI_ltI (by omega) (by omega)]; omega), if_pos (nI_le ok.2 (by omega)), if_neg (by decide), a2, xb1_some, g_good a5, if_neg (by decide)]
    · obtain ⟨gC', gR', a1, a2, a3, a4, fd, pl, a5, a6, a7⟩ := j_fail (q := 4) (Or.inr (Or.inl rfl)) hC h0 (by rw [a]; decide)
      obtain ⟨gC2, b1, b2, b3⟩ := f_adv (hC.c0 a3) a6
      have a1 : E_X6_fail 4 gC = some gC' := a1
      have a2 : E_X12_fails 4 (xI gR 113 6) gR = some gR' := a2
      have k53 : K_X12_numeral_53 (nI lo) gR' = some (nI lo, gR') := by
        unfold K_X12_numeral_53 K_X12_numeral_69
        rw [f_good a7, if_pos rfl, if_pos rfl]
      have k29 : K_X6_takeNumber_29 gC = some (xI gC' 20 7, gC2) := by
        unfold K_X6_takeNumber_29
        rw [a1, xb1_some, b1, xb1_some]
      refine ⟨xI gC' 20 7, nI lo, gC2, gR', ?_, ?_, a3.tr b2, a4, Or.inr ⟨⟨fd, pl, a5, b3, a7⟩, rfl⟩⟩
      · unfold E_X6_takeNumber K_X6_takeNumber_13
        rw [if_pos a, d1, k29]
        by_cases e : v < lo
        · rw [if_pos (by rw [nI_ltI (by omega) (by omega)]; exact e)]
        · rw [if_neg (by rw [nI_ltI (by omega) (by omega)]; exact e), if_neg (nI_ge (by omega) (by omega))]
      · unfold E_X12_numeral K_X12_numeral_21 K_X12_numeral_44
        rw [gg, if_neg (by decide), if_pos c, if_neg (by decide), d2, a2, xb1_some, k53]
        by_cases e : v < lo
        · rw [if_pos (by rw [nI_ltI (by omega) (by omega)]; exact e)]
        · rw [if_neg (by rw [nI_ltI (by omega) (by omega)]; exact e), if_neg (nI_ge (by omega) (by omega))]
  · exact bad (by rw [c]; exact n2 _ a) (by rw [d]; decide)
/-- a sign asked for behind a fault -/
theorem f_signH (hR : zTxR gR m bt) (h : zFR gR m f pl) (c : Int32) : ∃ v, E_X12_isSignHere c gR = some v := by
  obtain ⟨-, -, -, -, st, s1, s2⟩ := h
  unfold E_X12_isSignHere
  rw [s2, r_sign hR s1, xb1_some]
  by_cases d : xI gR 113 8 = 5
  · rw [if_pos d]
    by_cases e : (if st < m then nI (bt st) else nI 0) = c
    · rw [if_pos e]; exact ⟨_, rfl⟩
    · rw [if_neg e]; exact ⟨_, rfl⟩
  · rw [if_neg d]; exact ⟨_, rfl⟩
end TK
