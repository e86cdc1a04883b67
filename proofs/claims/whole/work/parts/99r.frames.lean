/-! STREET: what keeps the tables; a thing's name, taken by both -/
section TD
variable {gC gR gC' gR' g g' : xSt} {t b n w u s r p k m o i q f pl : Nat} {bt : Nat → Nat}
theorem zC0.at (y : zC0 g g') (h : o ≠ 20) : xI g' o k = xI g o k ∧ xL g' o k = xL g o k := ⟨y.1.2 o k (by unfold dC0; omega), y.2.1 o k (by omega)⟩
theorem zR0.at (y : zR0 g g') (h : o ≠ 113) : xI g' o k = xI g o k ∧ xL g' o k = xL g o k := ⟨y.1.2 o k (by unfold dR0; omega), y.2.1 o k (by omega)⟩
theorem zVn.cg (h : zVn gC gR t b n) (eC : ∀ o k, (o = t ∧ k = 0) ∨ o = t + 1 ∨ o = t + 2 → xI gC' o k = xI gC o k ∧ xL gC' o k = xL gC o k) (eR : ∀ o k, (o = 116 ∧ k = b) ∨ o = 120 ∨ o = 124 → xI gR' o k = xI gR o k ∧ xL gR' o k = xL gR o k) : zVn gC' gR' t b n := by
  obtain ⟨h1, h2, h3, h4⟩ := h
  refine ⟨h1, (eC t 0 (by omega)).1.trans h2, (eR 116 b (by omega)).1.trans h3, fun i hi => ?_⟩
  obtain ⟨a1, v, a2, a3, a4, a5⟩ := h4 i hi
  exact ⟨((eC (t + 1) i (by omega)).2.trans a1).trans (eR 124 (5 * b + i) (by omega)).2.symm, v, a2, a3, (eC (t + 2) i (by omega)).1.trans a4, (eR 120 (5 * b + i) (by omega)).1.trans a5⟩
theorem zVw.cg (h : zVw gC gR t b) (eC : ∀ k, k = 3 ∨ k = 4 ∨ k = 5 → xI gC' t k = xI gC t k) (eR : ∀ o, o = 121 ∨ o = 122 ∨ o = 117 → xI gR' o b = xI gR o b) : zVw gC' gR' t b := by
  obtain ⟨w, u, s, h1, h2, h3, h4, h5, h6, h7, h8, h9⟩ := h
  exact ⟨w, u, s, h1, h2, h3, (eC 3 (by omega)).trans h4, (eR 121 (by omega)).trans h5, (eC 4 (by omega)).trans h6, (eR 122 (by omega)).trans h7, (eC 5 (by omega)).trans h8, (eR 117 (by omega)).trans h9⟩
theorem zVr.cg (h : zVr gC gR t b n r) (eC : ∀ o k, (o = t ∧ k = 6) ∨ o = t + 3 → xI gC' o k = xI gC o k) (eR : ∀ o k, (o = 118 ∧ k = b) ∨ o = 119 → xI gR' o k = xI gR o k) : zVr gC' gR' t b n r := by
  obtain ⟨h1, h2, h3, h4, h5⟩ := h
  refine ⟨h1, (eC t 6 (by omega)).trans h2, (eR 118 b (by omega)).trans h3, fun i hi => ?_, fun i j hi hj z => h5 i j hi hj ?_⟩
  · obtain ⟨v, a1, a2, a3⟩ := h4 i hi
    exact ⟨v, a1, (eC (t + 3) i (by omega)).trans a2, (eR 119 (5 * b + i) (by omega)).trans a3⟩
  · rw [eC (t + 3) i (by omega), eC (t + 3) j (by omega)] at z
    exact z
theorem zVp.cg (h : zVp gC gR t b p k) (eC : ∀ o k, (o = t ∧ k = 8) ∨ o = t + 4 ∨ o = t + 5 → xI gC' o k = xI gC o k ∧ xL gC' o k = xL gC o k) (eR : ∀ o k, (o = 126 ∧ k = b) ∨ o = 125 ∨ o = 128 → xI gR' o k = xI gR o k ∧ xL gR' o k = xL gR o k) : zVp gC' gR' t b p k := by
  obtain ⟨h1, h2, h3, h4⟩ := h
  refine ⟨h1, (eC t 8 (by omega)).1.trans h2, (eR 126 b (by omega)).1.trans h3, fun i hi => ?_⟩
  obtain ⟨a1, v, a2, a3, a4⟩ := h4 i hi
  exact ⟨((eC (t + 4) i (by omega)).2.trans a1).trans (eR 125 (3 * b + i) (by omega)).2.symm, v, a2, (eC (t + 5) i (by omega)).1.trans a3, (eR 128 (3 * b + i) (by omega)).1.trans a4⟩
theorem zV2.cg (h : zV2 gC gR t b n k) (eC : ∀ o k, (o = t ∧ k = 11) ∨ o = t + 6 ∨ o = t + 7 → xI gC' o k = xI gC o k) (eR : ∀ o k, (o = 127 ∧ k = b) ∨ o = 129 ∨ o = 130 → xI gR' o k = xI gR o k) : zV2 gC' gR' t b n k := by
  obtain ⟨h1, h2, h3, h4⟩ := h
  refine ⟨h1, (eC t 11 (by omega)).trans h2, (eR 127 b (by omega)).trans h3, fun i hi => ?_⟩
  obtain ⟨x, y, a1, a2, a3, a4, a5, a6, a7⟩ := h4 i hi
  exact ⟨x, y, a1, a2, a3, (eC (t + 6) i (by omega)).trans a4, (eR 129 (60 * b + i) (by omega)).trans a5, (eC (t + 7) i (by omega)).trans a6, (eR 130 (60 * b + i) (by omega)).trans a7⟩
theorem zV3.cg (h : zV3 gC gR t b k i q) (eC : ∀ k, xI gC' (t + 8) k = xI gC (t + 8) k) (eR : ∀ k, xI gR' 131 k = xI gR 131 k) : zV3 gC' gR' t b k i q := by
  obtain ⟨v, a1, a2, a3⟩ := h
  exact ⟨v, a1, (eC _).trans a2, (eR _).trans a3⟩
/-- more things don't hurt -/
theorem zVr.up (h : zVr gC gR t b n r) : zVr gC gR t b (n + 1) r := by
  obtain ⟨h1, h2, h3, h4, h5⟩ := h
  exact ⟨by omega, h2, h3, fun i hi => by obtain ⟨v, a1, a2⟩ := h4 i hi; exact ⟨v, by omega, a2⟩, h5⟩
theorem zV2.up (h : zV2 gC gR t b n k) : zV2 gC gR t b (n + 1) k := by
  obtain ⟨h1, h2, h3, h4⟩ := h
  exact ⟨h1, h2, h3, fun i hi => by obtain ⟨x, y, a1, a2, a3⟩ := h4 i hi; exact ⟨x, y, by omega, by omega, a3⟩⟩
/-- all of it -/
def zTbl (gC gR : xSt) (t b n r p k : Nat) : Prop := zVn gC gR t b n ∧ zVw gC gR t b ∧ zVr gC gR t b n r ∧ zVp gC gR t b p k ∧ zV2 gC gR t b n k
theorem zTbl.cg (h : zTbl gC gR t b n r p k) (eC : ∀ o k, t ≤ o → o ≤ t + 7 → xI gC' o k = xI gC o k ∧ xL gC' o k = xL gC o k) (eR : ∀ o k, 116 ≤ o → o ≤ 130 → xI gR' o k = xI gR o k ∧ xL gR' o k = xL gR o k) : zTbl gC' gR' t b n r p k := ⟨h.1.cg (fun o k z => eC o k (by omega) (by omega)) (fun o k z => eR o k (by omega) (by omega)), h.2.1.cg (fun k z => (eC t k (by omega) (by omega)).1) (fun o z => (eR o b (by omega) (by omega)).1), h.2.2.1.cg (fun o k z => (eC o k (by omega) (by omega)).1) (fun o k z => (eR o k (by omega) (by omega)).1), h.2.2.2.1.cg (fun o k z => eC o k (by omega) (by omega)) (fun o k z => eR o k (by omega) (by omega)), h.2.2.2.2.cg (fun o k z => (eC o k (by omega) (by omega)).1) (fun o k z => (eR o k (by omega) (by omega)).1)⟩
theorem zTbl.fr (ht : t = 2 ∨ t = 11) (h : zTbl gC gR t b n r p k) (y : zC0 gC gC') (y' : zR0 gR gR') : zTbl gC' gR' t b n r p k := h.cg (fun o k _ _ => y.at (by omega)) (fun o k _ _ => y'.at (by omega))
theorem zR0.b31 (h : xI g 113 31 = nI b) (y : zR0 g g') : xI g' 113 31 = nI b := (y.1.2 113 31 (by unfold dR0; omega)).trans h
/-- behind a fault the class takes a thing so -/
theorem f_thing34 (hC : zTxC g m bt) (h : zFC g m f pl) (a c : Int32) : ∃ g', K_X6_takeThing_34 t a c g = some (c, g') ∧ zC0 g g' ∧ zFC g' m f pl := by
  obtain ⟨g2, b1, b2, b3⟩ := f_adv hC h
  unfold K_X6_takeThing_34
  rw [f_fail h, xb1_some, b1, xb1_some]
  by_cases d : xbit a c = 0
  · rw [if_pos d]; exact ⟨g2, rfl, b2, b3⟩
  · rw [if_neg d]; exact ⟨g2, rfl, b2, b3⟩
theorem f_thing12 (hn : n ≤ 5) (h0 : xI g t 0 = nI n) (hC : zTxC g m bt) (h : zFC g m f pl) (a : Int32) : ∃ x g', K_X6_takeThing_12 t a g = some (x, g') ∧ zC0 g g' ∧ zFC g' m f pl := by
  obtain ⟨j, hj⟩ := zIst_ex (fun i => xL g (t + 1) i = xL g 20 8) n
  unfold K_X6_takeThing_12
  rw [c_thingOf h0 hn hj, xb1_some, f_fail h, xb1_some]
  obtain ⟨g2, b1, b2, b3⟩ := f_thing34 (t := t) hC h a (if j < n then nI j else -1)
  refine ⟨if j < n then nI j else -1, g2, ?_, b2, b3⟩
  rw [b1]
  exact ite_self _
theorem f_thing (hn : n ≤ 5) (h0 : xI g t 0 = nI n) (hC : zTxC g m bt) (h : zFC g m f pl) (a : Int32) : ∃ x g', E_X6_takeThing t a g = some (x, g') ∧ zC0 g g' ∧ zFC g' m f pl := by
  obtain ⟨x, g2, b1, b2⟩ := f_thing12 hn h0 hC h a
  refine ⟨x, g2, ?_, b2⟩
  unfold E_X6_takeThing
  rw [f_fail h, xb1_some, b1]
  split <;> rfl
/-- a name: both know it, and of the same word -/
theorem zTk.name (h : zTk gC gR m bt) : (F_X6_isName gC = 1 ∧ xI gR 113 8 = 2 ∧ xL gC 20 8 = xL gR 113 10 ∧ xI gC 20 6 = 1) ∨ (F_X6_isName gC = 0 ∧ xI gR 113 8 ≠ 2) := by
  obtain ⟨st, sp, t1, t2, t3, t4, t5, t6, t7⟩ := h
  have n1 : ∀ b : Nat, zSg b → nI b ≠ 1 := fun b hb z => by
    have : b = 59 ∨ b = 40 ∨ b = 41 ∨ b = 47 := hb
    rcases this with e | e | e | e <;> subst e <;> exact absurd z (by decide)
  unfold F_X6_isName
  rcases t7 with ⟨a, c⟩ | ⟨a, c⟩ | ⟨a, a2, c⟩ | ⟨v, _, a, c, _⟩ | ⟨a, lt, c, d⟩
  · exact Or.inr ⟨by rw [a, if_neg (by decide)], by rw [c]; decide⟩
  · exact Or.inr ⟨by rw [a, if_neg (by decide)], by rw [c]; decide⟩
  · rcases c with ⟨c1, _, c⟩ | ⟨i, i1, i2, i3, c⟩
    · exact Or.inl ⟨by rw [a, if_pos rfl, c1, if_pos rfl], c, a2, a⟩
    · exact Or.inr ⟨by rw [a, if_pos rfl, i2, if_neg (nI_m1 (by omega))], by rw [c]; decide⟩
  · exact Or.inr ⟨by rw [a, if_neg (by decide)], by rw [c]; decide⟩
  · exact Or.inr ⟨by rw [c, if_neg (n1 _ a)], by rw [d]; decide⟩
theorem j_thing {j : Nat} (hC : zTxC gC m bt) (hR : zTxR gR m bt) (h : zGo2 gC gR m bt) (ht : t = 2 ∨ t = 11) (hb : b ≤ 1) (hn : zVn gC gR t b n) (hj : zIst (fun i => xL gR 124 (5 * b + i) = xL gR 113 10) n j) (a : Int32) : ∃ gC' gR', zC0 gC gC' ∧ zR0 gR gR' ∧ ((xI gR 113 8 ≠ 2 ∧ (∃ x, E_X6_takeThing t a gC = some (x, gC')) ∧ E_X12_misplaced gR = some gR' ∧ zFd gC' gR' m) ∨ (xI gR 113 8 = 2 ∧ j = n ∧ (∃ x, E_X6_takeThing t a gC = some (x, gC')) ∧ E_X12_fails 5 (xI gR 113 6) gR = some gR' ∧ zFd gC' gR' m) ∨ (xI gR 113 8 = 2 ∧ j < n ∧ xbit a (nI j) ≠ 0 ∧ (∃ x, E_X6_takeThing t a gC = some (x, gC')) ∧ E_X12_fails 3 (xI gR 113 6) gR = some gR' ∧ zFd gC' gR' m) ∨ (xI gR 113 8 = 2 ∧ j < n ∧ xbit a (nI j) = 0 ∧ E_X6_takeThing t a gC = some (nI j, gC') ∧ E_X12_goOn gR = some gR' ∧ zGo2 gC' gR' m bt)) := by
  obtain ⟨n1, n2, n3, n4⟩ := hn
  rcases h.2.2.name with ⟨e1, e2, e3, e4⟩ | ⟨e1, e2⟩
  · have hjC : zIst (fun i => xL gC (t + 1) i = xL gC 20 8) n j := hj.eq fun i hi => by rw [(n4 i hi).1, e3]
    have jn := hj.1
    have three : xI gC 20 6 ≠ 3 := by rw [e4]; decide
    have k12 : E_X6_takeThing t a gC = if (if j < n then nI j else -1) = -1 then (xb1 (E_X6_fail 5 gC) fun g31_3 => K_X6_takeThing_34 t a (if j < n then nI j else -1) g31_3) else K_X6_takeThing_34 t a (if j < n then nI j else -1) gC := by
      unfold E_X6_takeThing K_X6_takeThing_12
      rw [e1, if_neg (by decide), c_thingOf n2 n1 hjC, xb1_some]
    by_cases c : j < n
    · rw [if_pos c, if_neg (nI_m1 (by omega))] at k12
      by_cases d : xbit a (nI j) = 0
      · obtain ⟨gC', gR', a1, a2, a3, a4, a5⟩ := j_adv hC hR h
        refine ⟨gC', gR', a3, a4, Or.inr (Or.inr (Or.inr ⟨e2, c, d, ?_, a2, a5⟩))⟩
        rw [k12]
        unfold K_X6_takeThing_34
        rw [if_pos d, a1, xb1_some]
      · obtain ⟨gC', gR', a1, a2, a3, a4, fd, pl, a5, a6, a7⟩ := j_fail (q := 3) (Or.inl rfl) hC h three
        have a1 : E_X6_fail 3 gC = some gC' := a1
        obtain ⟨gC2, b1, b2, b3⟩ := f_adv (hC.c0 a3) a6
        refine ⟨gC2, gR', a3.tr b2, a4, Or.inr (Or.inr (Or.inl ⟨e2, c, d, ⟨nI j, ?_⟩, a2, fd, pl, a5, b3, a7⟩))⟩
        rw [k12]
        unfold K_X6_takeThing_34
        rw [if_neg d, a1, xb1_some, b1, xb1_some]
    · rw [if_neg c, if_pos rfl] at k12
      obtain ⟨gC', gR', a1, a2, a3, a4, fd, pl, a5, a6, a7⟩ := j_fail (q := 5) (Or.inr (Or.inr rfl)) hC h three
      have a1 : E_X6_fail 5 gC = some gC' := a1
      obtain ⟨gC2, b1, b2, b3⟩ := f_thing34 (t := t) (hC.c0 a3) a6 a (-1)
      refine ⟨gC2, gR', a3.tr b2, a4, Or.inr (Or.inl ⟨e2, by omega, ⟨-1, ?_⟩, a2, fd, pl, a5, b3, a7⟩)⟩
      rw [k12, a1, xb1_some, b1]
  · obtain ⟨gC', gR', a1, a2, a3, a4, fd, pl, a5, a6, a7⟩ := j_mis hC h
    obtain ⟨x, gC2, b1, b2, b3⟩ := f_thing12 (t := t) (n := n) n1 ((a3.at (by omega)).1.trans n2) (hC.c0 a3) a6 a
    refine ⟨gC2, gR', a3.tr b2, a4, Or.inl ⟨e2, ⟨x, ?_⟩, a2, fd, pl, a5, b3, a7⟩⟩
    unfold E_X6_takeThing
    rw [e1, if_pos rfl, a1, xb1_some, b1]
/-- a new name of a thing, or of a plan -/
theorem f_new12 (hC : zTxC g m bt) (h : zFC g m f pl) (a : Int32) : ∃ x g', K_X6_takeNewName_12 a g = some (x, g') ∧ zC0 g g' ∧ zFC g' m f pl := by
  obtain ⟨g2, b1, b2, b3⟩ := f_adv hC h
  unfold K_X6_takeNewName_12
  rw [f_fail h, xb1_some, b1, xb1_some]
  by_cases d : a = -1
  · rw [if_pos d]; exact ⟨_, g2, rfl, b2, b3⟩
  · rw [if_neg d]; exact ⟨_, g2, rfl, b2, b3⟩
theorem f_new (hC : zTxC g m bt) (h : zFC g m f pl) (a : Int32) : ∃ x g', E_X6_takeNewName a g = some (x, g') ∧ zC0 g g' ∧ zFC g' m f pl := by
  obtain ⟨x, g2, b1, b2⟩ := f_new12 hC h a
  refine ⟨x, g2, ?_, b2⟩
  unfold E_X6_takeNewName
  rw [f_fail h, xb1_some, b1]
  split <;> rfl
theorem j_new {a : Int32} (hC : zTxC gC m bt) (hR : zTxR gR m bt) (h : zGo2 gC gR m bt) : ∃ gC' gR', zC0 gC gC' ∧ zR0 gR gR' ∧ ((xI gR 113 8 ≠ 2 ∧ (∃ x, E_X6_takeNewName a gC = some (x, gC')) ∧ E_X12_misplaced gR = some gR' ∧ zFd gC' gR' m) ∨ (xI gR 113 8 = 2 ∧ a ≠ -1 ∧ (∃ x, E_X6_takeNewName a gC = some (x, gC')) ∧ E_X12_fails 3 (xI gR 113 6) gR = some gR' ∧ zFd gC' gR' m) ∨ (xI gR 113 8 = 2 ∧ a = -1 ∧ xL gC 20 8 = xL gR 113 10 ∧ E_X6_takeNewName a gC = some (xL gC 20 8, gC') ∧ E_X12_goOn gR = some gR' ∧ zGo2 gC' gR' m bt)) := by
  rcases h.2.2.name with ⟨e1, e2, e3, e4⟩ | ⟨e1, e2⟩
  · have three : xI gC 20 6 ≠ 3 := by rw [e4]; decide
    by_cases c : a = -1
    · obtain ⟨gC', gR', a1, a2, a3, a4, a5⟩ := j_adv hC hR h
      refine ⟨gC', gR', a3, a4, Or.inr (Or.inr ⟨e2, c, e3, ?_, a2, a5⟩)⟩
      unfold E_X6_takeNewName K_X6_takeNewName_12
      rw [e1, if_neg (by decide), if_pos c, a1, xb1_some]
    · obtain ⟨gC', gR', a1, a2, a3, a4, fd, pl, a5, a6, a7⟩ := j_fail (q := 3) (Or.inl rfl) hC h three
      have a1 : E_X6_fail 3 gC = some gC' := a1
      obtain ⟨gC2, b1, b2, b3⟩ := f_adv (hC.c0 a3) a6
      refine ⟨gC2, gR', a3.tr b2, a4, Or.inr (Or.inl ⟨e2, c, ⟨xL gC' 20 8, ?_⟩, a2, fd, pl, a5, b3, a7⟩)⟩
      unfold E_X6_takeNewName K_X6_takeNewName_12
      rw [e1, if_neg (by decide), if_neg c, a1, xb1_some, b1, xb1_some]
  · obtain ⟨gC', gR', a1, a2, a3, a4, fd, pl, a5, a6, a7⟩ := j_mis hC h
    obtain ⟨x, gC2, b1, b2, b3⟩ := f_new12 (hC.c0 a3) a6 a
    refine ⟨gC2, gR', a3.tr b2, a4, Or.inl ⟨e2, ⟨x, ?_⟩, a2, fd, pl, a5, b3, a7⟩⟩
    unfold E_X6_takeNewName
    rw [e1, if_pos rfl, a1, xb1_some, b1]
end TD
