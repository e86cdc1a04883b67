/-! THE REFERENCE'S SEARCH: its loop -/
section RO
variable {g g' g1 : xSt} {n w om c lo hi k x x0 v l p s B m1 sm : Nat} {mk V ρ : Nat → Nat} {γ : Nat → Int32} {S : Nat → Bool} {its : Int32}
def zK (n om w c : Nat) (mk V ρ : Nat → Nat) (γ : Nat → Int32) : Prop := n ≤ 5 ∧ om ≤ 1 ∧ w ≤ 1 ∧ c ≤ 120 ∧ zVo n om c mk V ∧ ∀ i j, i < c → j < c → (ρ i = ρ j ↔ γ i = γ j)
theorem zLev.ne70 (h : zLev g l lo hi p s sm m1 B) (hl : l < 12) : ¬ xI g 113 70 < 0 := by rw [h.1]; exact nI_pos (by omega)
/-- what goesOn does, by the part -/
theorem r_goesOn (hn : n ≤ 5) (hl : l < 12) (h : zLev g l lo hi p s sm m1 B) (hI : zIn c lo hi) (t : zRt g w n c mk ρ γ x0) (hp : p < n * (n - 1) / 2) (hs : s < 3) : (lo &&& zml c mk (10 * s + p) = 0 ∧ hi &&& zmh c mk (10 * s + p) = 0 → E_X12_goesOn g = some (xWI g 160 l (nI (s + 1)))) ∧ (¬ (lo &&& zml c mk (10 * s + p) = 0 ∧ hi &&& zmh c mk (10 * s + p) = 0) → (lo &&& zml c mk (10 * s + p) = lo ∧ hi &&& zmh c mk (10 * s + p) = hi) → E_X12_goesOn g = some (xWI (xWI (xWI (xWI g 159 l (nI (p + 1))) 160 l 0) 161 l 0) 162 l 0)) ∧ (¬ (lo &&& zml c mk (10 * s + p) = 0 ∧ hi &&& zmh c mk (10 * s + p) = 0) → ¬ (lo &&& zml c mk (10 * s + p) = lo ∧ hi &&& zmh c mk (10 * s + p) = hi) → E_X12_goesOn g = K_X12_goesOn_131 (nL (lo &&& zml c mk (10 * s + p))) (nL (hi &&& zmh c mk (10 * s + p))) g) := by
  have hP := (yPs_3 n (by omega)).2.2
  obtain ⟨b1, b2⟩ := zIn_lt hI
  obtain ⟨h1, h2, h3, h4, h5, h6, h7, h8⟩ := h
  have l12 : (12 : Nat) < 2 ^ 31 := by decide
  have cl := nI_clamp (show l < 2 ^ 31 by omega)
  have cq := nI_clamp (show 3 * p + s < 2 ^ 31 by omega)
  have ix : (3 * nI p) + nI s = nI (3 * p + s) := by rw [show (3 : Int32) = nI 3 from rfl, nI_mul, nI_add]
  obtain ⟨k1, k2⟩ := t.1.2.2.1 p hp s hs
  generalize zml c mk (10 * s + p) = a at k1
  generalize zmh c mk (10 * s + p) = b at k2
  have la : lo &&& a < 2 ^ 60 := Nat.lt_of_le_of_lt Nat.and_le_left b1
  have lb : hi &&& b < 2 ^ 60 := Nat.lt_of_le_of_lt Nat.and_le_left b2
  have top : E_X12_goesOn g = if lg_cmp (nL (lo &&& a)) 0 = 0 then (if lg_cmp (nL (hi &&& b)) 0 = 0 then some (xWI g 160 l (nI (s + 1))) else K_X12_goesOn_84 (nL (lo &&& a)) (nL (hi &&& b)) g) else K_X12_goesOn_84 (nL (lo &&& a)) (nL (hi &&& b)) g := by
    unfold E_X12_goesOn
    rw [h1, cl, h4, h5, ix, cq, h2, h3, k1, k2, nL_and, nL_and, xck_nI hl l12, xck_nI hl l12, xck_nI hl l12, xck_nI (show 3 * p + s < 30 by omega) (by decide), xck_nI hl l12, xck_nI (show 3 * p + s < 30 by omega) (by decide), xck_nI hl l12, xck_nI hl l12, nI_1]
  have mid : ¬ (lo &&& a = 0 ∧ hi &&& b = 0) → E_X12_goesOn g = K_X12_goesOn_84 (nL (lo &&& a)) (nL (hi &&& b)) g := fun z => by
    rw [top]
    by_cases d : lo &&& a = 0
    · rw [if_pos ((nL_non la).mpr d), if_neg (fun y => z ⟨d, (nL_non lb).mp y⟩)]
    · rw [if_neg (fun y => d ((nL_non la).mp y))]
  have k84 : K_X12_goesOn_84 (nL (lo &&& a)) (nL (hi &&& b)) g = if lg_cmp (nL (lo &&& a)) (nL lo) = 0 then (if lg_cmp (nL (hi &&& b)) (nL hi) = 0 then some (xWI (xWI (xWI (xWI g 159 l (nI (p + 1))) 160 l 0) 161 l 0) 162 l 0) else K_X12_goesOn_131 (nL (lo &&& a)) (nL (hi &&& b)) g) else K_X12_goesOn_131 (nL (lo &&& a)) (nL (hi &&& b)) g := by
    unfold K_X12_goesOn_84
    rw [h1, cl, h2, h3, h4, xck_nI hl l12, xck_nI hl l12, xck_nI hl l12, xck_nI hl l12, nI_1, (r_begin97 hl h1 h4).2, xb1_some]
  refine ⟨fun z => ?_, fun z y => ?_, fun z y => ?_⟩
  · rw [top, if_pos ((nL_non la).mpr z.1), if_pos ((nL_non lb).mpr z.2)]
  · rw [mid z, k84, if_pos ((lg_0 _ _).mpr (by rw [y.1])), if_pos ((lg_0 _ _).mpr (by rw [y.2]))]
  · rw [mid z, k84]
    by_cases d : lo &&& a = lo
    · rw [if_pos ((lg_0 _ _).mpr (by rw [d])), if_neg (fun u => y ⟨d, (nL_eq lb b2).mp ((lg_0 _ _).mp u)⟩)]
    · rw [if_neg (fun u => d ((nL_eq la b1).mp ((lg_0 _ _).mp u)))]
/-- a step within a level -/
theorem r_stepL (hn : n ≤ 5) (hl : l < 12) (h : zLev g l lo hi p s sm m1 B) (t : zRt g w n c mk ρ γ x0) (hp : p < n * (n - 1) / 2) (hs : s < 3) : S_X12_solves_91 (its, g) = xb1 (E_X12_goesOn g) fun g196_13 => some (.inl (its, g196_13)) := by
  have hP := (yPs_3 n (by omega)).2.2
  have l12 : (12 : Nat) < 2 ^ 31 := by decide
  have cl := nI_clamp (show l < 2 ^ 31 by omega)
  unfold S_X12_solves_91
  simp only [if_neg (h.ne70 hl)]
  rw [h.1, xck_nI hl l12, xck_nI hl l12, cl, h.2.2.2.1, h.2.2.2.2.1, t.1.2.1.1, if_neg (fun z => by have := (nI_eq (by omega) (by omega)).mp z; omega), if_neg (fun z => by have := (nI_eq (by omega) (by decide)).mp (show nI s = nI 3 from z); omega), xck_nI hl l12]
theorem r_endPair (hn : n ≤ 5) (hl : l < 12) (hw : w ≤ 1) (hc : c ≤ 120) (h : zLev g l lo hi p 3 sm m1 B) (hI : zIn c lo hi) (t : zRt g w n c mk ρ γ x0) (hp : p < n * (n - 1) / 2) (hsm : sm ≤ 4000) (hB : B ≤ 1000000) (hm : 1 < m1) (hm2 : m1 ≤ 3) : ∃ g', S_X12_solves_91 (its, g) = some (.inl (its, g')) ∧ zLev g' l lo hi (p + 1) 0 0 0 (min B (sm + (if w = 0 then 1 else yCn (zSt lo hi) c))) ∧ zRt g' w n c mk ρ γ x0 ∧ zLf l g g' ∧ xI g' 113 71 = if l = 0 ∧ sm + (if w = 0 then 1 else yCn (zSt lo hi) c) < B then nI p else xI g 113 71 := by
  have hP := (yPs_3 n (by omega)).2.2
  have l12 : (12 : Nat) < 2 ^ 31 := by decide
  have cl := nI_clamp (show l < 2 ^ 31 by omega)
  have le := yCn_le (zSt lo hi) c
  have h0 := h
  obtain ⟨h1, h2, h3, h4, h5, h6, h7, h8⟩ := h
  have st : S_X12_solves_91 (its, g) = xb1 (E_X12_endPair g) fun g189_12 => some (.inl (its, g189_12)) := by
    unfold S_X12_solves_91
    simp only [if_neg (h0.ne70 hl)]
    rw [h1, xck_nI hl l12, xck_nI hl l12, cl, h4, h5, t.1.2.1.1, if_neg (fun z => by have := (nI_eq (by omega) (by omega)).mp z; omega), xck_nI hl l12, if_pos (show nI 3 = (3 : Int32) from rfl)]
  have e2 : (if w = 0 then 1 else yCn (zSt lo hi) c) ≤ 120 := by split <;> omega
  have k42 : E_X12_endPair g = K_X12_endPair_42 (nI sm) (nI (if w = 0 then 1 else yCn (zSt lo hi) c)) g := by
    unfold E_X12_endPair
    rw [h1, t.2.2, cl, h6, h2, h3, xck_nI hl l12, xck_nI hl l12, xck_nI hl l12, r_sizeOf hc t.1 hI, xb1_some]
    by_cases w0 : w = 0
    · rw [if_pos (by rw [w0]; rfl), if_pos w0]; rfl
    · rw [if_neg (show ¬ nI w = 0 from fun z => w0 ((nI_eq (by omega) (by decide)).mp (show nI w = nI 0 from z))), if_neg w0]
  generalize (if w = 0 then 1 else yCn (zSt lo hi) c) = e at e2 k42 ⊢
  have n1 : ¬ nI m1 ≤ (1 : Int32) := fun z => absurd (show nI m1 ≤ nI 1 from z) (nI_ge hm (by omega))
  rw [st, k42]
  have body : K_X12_endPair_42 (nI sm) (nI e) g = if nI B ≤ nI (sm + e) then K_X12_endPair_97 g else if nI l = 0 then K_X12_endPair_97 (xWI (xWI g 163 l (nI (sm + e))) 113 71 (xI (xWI g 163 l (nI (sm + e))) 159 0)) else K_X12_endPair_97 (xWI g 163 l (nI (sm + e))) := by
    unfold K_X12_endPair_42
    simp only [h1, cl, nI_add, h7, h8, xck_nI hl l12]
    rw [if_neg n1]
    rfl
  rw [body]
  by_cases d : B ≤ sm + e
  · rw [if_pos (nI_le d (by omega)), (r_begin97 hl h1 h4).1, xb1_some, Nat.min_eq_left d, if_neg (by omega)]
    obtain ⟨z1, z2, z3, z4⟩ := zLev_97 h0
    exact ⟨_, rfl, z1, t.fr z2 z3 (fun _ => rfl) (fun _ => rfl), z2, z4 71⟩
  · have ge := nI_ge (show sm + e < B by omega) (show B < 2 ^ 31 by omega)
    rw [if_neg ge, Nat.min_eq_right (by omega)]
    by_cases l0 : l = 0
    · subst l0
      rw [if_pos (show nI 0 = 0 from rfl), if_pos ⟨rfl, by omega⟩]
      have q : zLev (xWI (xWI g 163 0 (nI (sm + e))) 113 71 (xI (xWI g 163 0 (nI (sm + e))) 159 0)) 0 lo hi p 3 sm m1 (sm + e) := by
        refine ⟨?_, h2, h3, ?_, ?_, ?_, ?_, ?_⟩
        · rw [yI_wi, if_neg (by omega), yI_wi, if_neg (by omega)]; exact h1
        · rw [yI_wi, if_neg (by omega), yI_wi, if_neg (by omega)]; exact h4
        · rw [yI_wi, if_neg (by omega), yI_wi, if_neg (by omega)]; exact h5
        · rw [yI_wi, if_neg (by omega), yI_wi, if_neg (by omega)]; exact h6
        · rw [yI_wi, if_neg (by omega), yI_wi, if_neg (by omega)]; exact h7
        · rw [yI_wi, if_neg (by omega), yI_wi, if_pos ⟨rfl, rfl⟩]
      have fr : zLf 0 g (xWI (xWI g 163 0 (nI (sm + e))) 113 71 (xI (xWI g 163 0 (nI (sm + e))) 159 0)) := ⟨((yAg.refl _ g).wi (by unfold dLv; omega)).wi (by unfold dLv; omega), fun _ _ _ _ _ => rfl⟩
      obtain ⟨z1, z2, z3, z4⟩ := zLev_97 q
      rw [(r_begin97 hl q.1 q.2.2.2.1).1, xb1_some]
      refine ⟨_, rfl, z1, t.fr (fr.tr z2) (fun k => ?_) (fun _ => rfl) (fun _ => rfl), fr.tr z2, ?_⟩
      · rw [z3, yI_wi, if_neg (by omega), yI_wi, if_neg (by omega)]
      · rw [z4, yI_wi, if_pos ⟨rfl, rfl⟩, yI_wi, if_neg (by omega), h4]
    · rw [if_neg (show ¬ nI l = 0 from fun z => l0 ((nI_eq (by omega) (by decide)).mp (show nI l = nI 0 from z))), if_neg (fun z => l0 z.1)]
      have q : zLev (xWI g 163 l (nI (sm + e))) l lo hi p 3 sm m1 (sm + e) := by
        refine ⟨?_, h2, h3, ?_, ?_, ?_, ?_, ?_⟩
        · rw [yI_wi, if_neg (by omega)]; exact h1
        · rw [yI_wi, if_neg (by omega)]; exact h4
        · rw [yI_wi, if_neg (by omega)]; exact h5
        · rw [yI_wi, if_neg (by omega)]; exact h6
        · rw [yI_wi, if_neg (by omega)]; exact h7
        · rw [yI_wi, if_pos ⟨rfl, rfl⟩]
      have fr : zLf l g (xWI g 163 l (nI (sm + e))) := ⟨(yAg.refl _ g).wi (by unfold dLv; omega), fun _ _ _ _ _ => rfl⟩
      obtain ⟨z1, z2, z3, z4⟩ := zLev_97 q
      rw [(r_begin97 hl q.1 q.2.2.2.1).1, xb1_some]
      refine ⟨_, rfl, z1, t.fr (fr.tr z2) (fun k => ?_) (fun _ => rfl) (fun _ => rfl), fr.tr z2, ?_⟩
      · rw [z3, yI_wi, if_neg (by omega)]
      · rw [z4, yI_wi, if_neg (by omega)]
/-- a level's end: its set's value is known, the level before takes it -/
theorem r_final (K : zK n om w c mk V ρ γ) (hl : l + 1 < 12) {lo' hi' p' s' sm' m' B' : Nat} (h : zLev g (l + 1) lo hi (n * (n - 1) / 2) 0 0 0 v) (hprev : xL g 157 l = nL lo' ∧ xL g 158 l = nL hi' ∧ xI g 159 l = nI p' ∧ xI g 160 l = nI s' ∧ xI g 161 l = nI sm' ∧ xI g 162 l = nI m' ∧ xI g 163 l = nI B') (hI : zIn c lo hi) (hcl : ∃ x, zCl (n * (n - 1) / 2) c mk x0 x (zSt lo hi)) (ne : ∃ i, i < c ∧ zSt lo hi i = true) (hv : v ≤ 1000000) (hvl : zVl w (n * (n - 1) / 2) c mk γ (zSt lo hi) v) (t : zRt g w n c mk ρ γ x0) (hsm : sm' ≤ 4000) : ∃ its' g', S_X12_solves_91 (its, g) = some (.inl (its', g')) ∧ zLev g' l lo' hi' p' (s' + 1) (if w = 0 then max sm' v else sm' + v) (m' + 1) B' ∧ zRt g' w n c mk ρ γ x0 ∧ zLf l g g' ∧ xI g' 113 71 = xI g 113 71 := by
  obtain ⟨hn, hom, hw, hc, hV, hρ⟩ := K
  have l12 : (12 : Nat) < 2 ^ 31 := by decide
  have cl := nI_clamp (show l + 1 < 2 ^ 31 by omega)
  have ne70 := h.ne70 hl
  obtain ⟨h1, h2, h3, h4, h5, h6, h7, h8⟩ := h
  obtain ⟨q1, q2, q3, q4, q5, q6, q7⟩ := hprev
  obtain ⟨g1, m1, m2, m3, m4⟩ := r_meets hn hom hV t.2.1 hI hcl ne hv hvl
  have i1 : ∀ o k, o ≠ 156 → xI g1 o k = xI g o k := fun o k ho => m2.2 o k ho
  have e70 : xI g1 113 70 - 1 = nI l := by
    rw [i1 113 70 (by decide), h1, ← nI_1]
    exact Int32.add_sub_cancel _ _
  have fr1 : zLf l g (xWI g1 113 70 (nI l)) := ⟨((m2.up fun o k z => by unfold dMt at z; unfold dLv; omega).tr ((yAg.refl _ g1).wi (by unfold dLv; omega))), fun o k _ a b => m3 o k a b⟩
  have t1 : zRt (xWI g1 113 70 (nI l)) w n c mk ρ γ x0 := ⟨t.1.fr fr1, m4.same (fun k => by rw [yI_wi, if_neg (by omega)]) (fun _ => rfl) (fun _ => rfl), by rw [yI_wi, if_neg (by omega), i1 113 72 (by decide)]; exact t.2.2⟩
  have lv : zLev (xWI g1 113 70 (nI l)) l lo' hi' p' s' sm' m' B' := by
    refine ⟨by rw [yI_wi, if_pos ⟨rfl, rfl⟩], ?_, ?_, ?_, ?_, ?_, ?_, ?_⟩
    · exact (m3 157 l (by decide) (by decide)).trans q1
    · exact (m3 158 l (by decide) (by decide)).trans q2
    · rw [yI_wi, if_neg (by omega), i1 _ _ (by decide)]; exact q3
    · rw [yI_wi, if_neg (by omega), i1 _ _ (by decide)]; exact q4
    · rw [yI_wi, if_neg (by omega), i1 _ _ (by decide)]; exact q5
    · rw [yI_wi, if_neg (by omega), i1 _ _ (by decide)]; exact q6
    · rw [yI_wi, if_neg (by omega), i1 _ _ (by decide)]; exact q7
  obtain ⟨g2, k1, k2, k3, k4, k5⟩ := r_takes (by omega) hw lv t1 hv hsm
  refine ⟨nI v, g2, ?_, k2, k3, fr1.tr k4, ?_⟩
  · unfold S_X12_solves_91
    simp only [if_neg ne70]
    rw [h1, xck_nI hl l12, cl, h4, t.1.2.1.1, if_pos rfl, xck_nI hl l12, xck_nI hl l12, xck_nI hl l12, h2, h3, h8, m1, xb1_some, e70, if_neg (nI_pos (by omega)), k1, xb1_some]
  · rw [k5 71 (by decide), yI_wi, if_neg (by omega), i1 113 71 (by decide)]
/-- at the first level: the end of all -/
theorem r_final0 (K : zK n om w c mk V ρ γ) (h : zLev g 0 lo hi (n * (n - 1) / 2) 0 0 0 v) (hI : zIn c lo hi) (hcl : ∃ x, zCl (n * (n - 1) / 2) c mk x0 x (zSt lo hi)) (ne : ∃ i, i < c ∧ zSt lo hi i = true) (hv : v ≤ 1000000) (hvl : zVl w (n * (n - 1) / 2) c mk γ (zSt lo hi) v) (t : zRt g w n c mk ρ γ x0) : ∃ g', xlim S_X12_solves_91 (its, g) = some (nI v, g') ∧ zRb g' n c mk ρ ∧ xI g' 113 71 = xI g 113 71 := by
  obtain ⟨hn, hom, hw, hc, hV, hρ⟩ := K
  have l12 : (12 : Nat) < 2 ^ 31 := by decide
  have cl := nI_clamp (show 0 < 2 ^ 31 by omega)
  have ne70 := h.ne70 (by omega)
  obtain ⟨h1, h2, h3, h4, h5, h6, h7, h8⟩ := h
  obtain ⟨g1, m1, m2, m3, m4⟩ := r_meets hn hom hV t.2.1 hI hcl ne hv hvl
  have i1 : ∀ o k, o ≠ 156 → xI g1 o k = xI g o k := fun o k ho => m2.2 o k ho
  have e70 : xI g1 113 70 - 1 = -1 := by
    rw [i1 113 70 (by decide), h1]; decide
  have fr1 : zLf 0 g (xWI g1 113 70 (-1)) := ⟨((m2.up fun o k z => by unfold dMt at z; unfold dLv; omega).tr ((yAg.refl _ g1).wi (by unfold dLv; omega))), fun o k _ a b => m3 o k a b⟩
  have st : S_X12_solves_91 (its, g) = some (.inl (nI v, xWI g1 113 70 (-1))) := by
    unfold S_X12_solves_91
    simp only [if_neg ne70]
    rw [h1, xck_nI (show 0 < 12 by decide) l12, cl, h4, t.1.2.1.1, if_pos rfl, xck_nI (show 0 < 12 by decide) l12, xck_nI (show 0 < 12 by decide) l12, xck_nI (show 0 < 12 by decide) l12, h2, h3, h8, m1, xb1_some, e70, if_pos (show (-1 : Int32) < 0 by decide)]
  refine ⟨xWI g1 113 70 (-1), ?_, t.1.fr fr1, by rw [yI_wi, if_neg (by omega), i1 113 71 (by decide)]⟩
  rw [xlim_go st]
  refine xlim_end ?_
  unfold S_X12_solves_91
  rw [if_pos (show xI (xWI g1 113 70 (-1)) 113 70 < 0 by rw [yI_wi, if_pos ⟨rfl, rfl⟩]; decide)]
/-- a part that isn't empty -/
def zNe (c : Nat) (mk : Nat → Nat) (lo hi p s : Nat) : Bool := !(decide (lo &&& zml c mk (10 * s + p) = 0) && decide (hi &&& zmh c mk (10 * s + p) = 0))
theorem zNe_iff (h : zIn c lo hi) : zNe c mk lo hi p s = true ↔ ∃ i, i < c ∧ zPt mk (zSt lo hi) p s i = true := by
  have hq := zIn_and h (zml c mk (10 * s + p)) (zmh c mk (10 * s + p))
  rw [← zSt_pt h]
  unfold zNe
  rw [Bool.not_eq_true', Bool.and_eq_false_iff, decide_eq_false_iff_not, decide_eq_false_iff_not]
  have bit : ∀ a : Nat, a ≠ 0 → ∃ i, a.testBit i = true := fun a ha => Classical.byContradiction fun z => ha (Nat.eq_of_testBit_eq fun i => by rw [Nat.zero_testBit]; exact Bool.eq_false_iff.mpr fun y => z ⟨i, y⟩)
  constructor
  · rintro (z | z)
    · obtain ⟨i, y⟩ := bit _ z
      refine ⟨i, (hq.1 i y).2, ?_⟩
      unfold zSt; rw [if_pos (hq.1 i y).1]; exact y
    · obtain ⟨i, y⟩ := bit _ z
      refine ⟨60 + i, (hq.2 i y).2, ?_⟩
      unfold zSt; rw [if_neg (by omega), show 60 + i - 60 = i by omega]; exact y
  · rintro ⟨i, _, y⟩
    unfold zSt at y
    by_cases d : i < 60
    · rw [if_pos d] at y
      exact Or.inl fun z => by rw [z, Nat.zero_testBit] at y; exact absurd y (by decide)
    · rw [if_neg d] at y
      exact Or.inr fun z => by rw [z, Nat.zero_testBit] at y; exact absurd y (by decide)
theorem zNe_0 : ¬ (lo &&& zml c mk (10 * s + p) = 0 ∧ hi &&& zmh c mk (10 * s + p) = 0) ↔ zNe c mk lo hi p s = true := by
  unfold zNe
  rw [Bool.not_eq_true', Bool.and_eq_false_iff, decide_eq_false_iff_not, decide_eq_false_iff_not]
  exact ⟨fun z => by
    by_cases d : lo &&& zml c mk (10 * s + p) = 0
    · exact Or.inr fun y => z ⟨d, y⟩
    · exact Or.inl d, fun z y => z.elim (fun u => u y.1) (fun u => u y.2)⟩
theorem zNe_2 (ho : zOne (n * (n - 1) / 2) c mk) (h : zIn c lo hi) (hp : p < n * (n - 1) / 2) (ne : ∃ i, i < c ∧ zSt lo hi i = true) (sp : zSp c mk (zSt lo hi) p) : 1 < yCn (zNe c mk lo hi p) 3 := by
  obtain ⟨i, hi', si⟩ := ne
  obtain ⟨s, hs, o⟩ := ho i hi' p hp
  obtain ⟨j, hj, sj, nj⟩ := sp s hs
  obtain ⟨u, hu, o2⟩ := ho j hj p hp
  have n1 : zNe c mk lo hi p s = true := (zNe_iff h).mpr ⟨i, hi', zPt_bit.mpr ⟨si, (o s hs).mpr rfl⟩⟩
  have n2 : zNe c mk lo hi p u = true := (zNe_iff h).mpr ⟨j, hj, zPt_bit.mpr ⟨sj, (o2 u hu).mpr rfl⟩⟩
  have ne : u ≠ s := fun z => nj (z ▸ (o2 u hu).mpr rfl)
  rw [yCn_rem hs n1]
  have : 0 < yCn (fun x => zNe c mk lo hi p x && !(x == s)) 3 := yCn_pos.mpr ⟨u, hu, by rw [n2, beq_false_of_ne ne]; rfl⟩
  omega
/-- what a level's work comes to -/
def zGoal (n w c : Nat) (mk ρ : Nat → Nat) (γ : Nat → Int32) (x0 : Nat) (l lo hi : Nat) (its : Int32) (g : xSt) : Prop := ∃ v its' g', xlim S_X12_solves_91 (its, g) = xlim S_X12_solves_91 (its', g') ∧ zRt g' w n c mk ρ γ x0 ∧ zLf l g g' ∧ zLev g' l lo hi (n * (n - 1) / 2) 0 0 0 v ∧ v ≤ 4000 ∧ zVl w (n * (n - 1) / 2) c mk γ (zSt lo hi) v ∧ (l = 0 → ∃ p0, p0 < n * (n - 1) / 2 ∧ zSp c mk (zSt lo hi) p0 ∧ v = zPv w (n * (n - 1) / 2) c mk γ (zSt lo hi) p0 ∧ (∀ p', p' < p0 → zSp c mk (zSt lo hi) p' → v < zPv w (n * (n - 1) / 2) c mk γ (zSt lo hi) p') ∧ xI g' 113 71 = nI p0)
def zIh (n w c : Nat) (mk ρ : Nat → Nat) (γ : Nat → Int32) (x0 m : Nat) : Prop := ∀ l x lo hi g its, n * (n - 1) / 2 ≤ m + yCn (fun q => x.testBit q) (n * (n - 1) / 2) → l ≤ yCn (fun q => x.testBit q) (n * (n - 1) / 2) → zRt g w n c mk ρ γ x0 → zIn c lo hi → zCl (n * (n - 1) / 2) c mk x0 x (zSt lo hi) → ¬ zAl c γ (zSt lo hi) → zLev g l lo hi 0 0 0 0 1000000 → (l = 0 → xI g 113 71 = -1) → zGoal n w c mk ρ γ x0 l lo hi its g
/-- the three answers of a pair that parts the set -/
theorem r_saids {m : Nat} (K : zK n om w c mk V ρ γ) (ih : zIh n w c mk ρ γ x0 m) (hI : zIn c lo hi) (hS : zCl (n * (n - 1) / 2) c mk x0 x (zSt lo hi)) (hm : n * (n - 1) / 2 ≤ (m + 1) + yCn (fun q => x.testBit q) (n * (n - 1) / 2)) (hl : l ≤ yCn (fun q => x.testBit q) (n * (n - 1) / 2)) (hp : p < n * (n - 1) / 2) (sp : zSp c mk (zSt lo hi) p) : ∀ k s its g, k + s = 3 → zRt g w n c mk ρ γ x0 → zLev g l lo hi p s (zAc w (n * (n - 1) / 2) c mk γ (zSt lo hi) p s) (yCn (zNe c mk lo hi p) s) B → ∃ its' g', xlim S_X12_solves_91 (its, g) = xlim S_X12_solves_91 (its', g') ∧ zRt g' w n c mk ρ γ x0 ∧ zLf l g g' ∧ xI g' 113 71 = xI g 113 71 ∧ zLev g' l lo hi p 3 (zAc w (n * (n - 1) / 2) c mk γ (zSt lo hi) p 3) (yCn (zNe c mk lo hi p) 3) B := by
  have hK := K
  obtain ⟨hn, hom, hw, hc, hV, hρ⟩ := K
  have hP := (yPs_3 n (by omega)).2.2
  have ho := zVo_one hn hom hV
  have hd := zVo_dif (γ := γ) hn hom hV
  have hx := zCl_sp hS hp sp
  have hdc := yCn_or1 hp hx
  have lex := yCn_le (fun q => (x ||| 2 ^ p).testBit q) (n * (n - 1) / 2)
  have hl12 : l < 12 := by omega
  intro k
  induction k with
  | zero =>
    intro s its g hk t h
    have : s = 3 := by omega
    subst this
    exact ⟨its, g, rfl, t, zLf.refl, rfl, h⟩
  | succ k ih2 =>
    intro s its g hk t h
    have hs : s < 3 := by omega
    have ac := zAc_le (w := w) (S := zSt lo hi) (p := p) hP hc hd ho s
    have st := r_stepL (its := its) hn hl12 h t hp hs
    obtain ⟨g1, g2, g3⟩ := r_goesOn hn hl12 h hI t hp hs
    have nv := zNv_ok (w := w) hP hc hd ho (zPt mk (zSt lo hi) p s)
    have acs : zAc w (n * (n - 1) / 2) c mk γ (zSt lo hi) p (s + 1) = if w = 0 then max (zAc w (n * (n - 1) / 2) c mk γ (zSt lo hi) p s) (zNv w (n * (n - 1) / 2) c mk γ (zPt mk (zSt lo hi) p s)) else zAc w (n * (n - 1) / 2) c mk γ (zSt lo hi) p s + zNv w (n * (n - 1) / 2) c mk γ (zPt mk (zSt lo hi) p s) := rfl
    by_cases e : zNe c mk lo hi p s = true
    · have hne := zNe_0.mpr e
      have cn : yCn (zNe c mk lo hi p) (s + 1) = yCn (zNe c mk lo hi p) s + 1 := by rw [yCn_succ, if_pos e]
      have nw : ¬ (lo &&& zml c mk (10 * s + p) = lo ∧ hi &&& zmh c mk (10 * s + p) = hi) := fun z => by
        obtain ⟨i, i1, i2, i3⟩ := sp s hs
        exact i3 ((zAll_i hI).mp z i i1 i2)
      have g3 := g3 hne nw
      have hq := zIn_and hI (zml c mk (10 * s + p)) (zmh c mk (10 * s + p))
      have takes : ∀ v, v ≤ 1000000 → v = zNv w (n * (n - 1) / 2) c mk γ (zPt mk (zSt lo hi) p s) → E_X12_known (nL (lo &&& zml c mk (10 * s + p))) (nL (hi &&& zmh c mk (10 * s + p))) g = some (nI v) → ∃ its' g', xlim S_X12_solves_91 (its, g) = xlim S_X12_solves_91 (its', g') ∧ zRt g' w n c mk ρ γ x0 ∧ zLf l g g' ∧ xI g' 113 71 = xI g 113 71 ∧ zLev g' l lo hi p 3 (zAc w (n * (n - 1) / 2) c mk γ (zSt lo hi) p 3) (yCn (zNe c mk lo hi p) 3) B := fun v hv ev kn => by
        obtain ⟨g4, t1, t2, t3, t4, t5⟩ := r_takes hl12 hw h t hv (by omega)
        have st' : S_X12_solves_91 (its, g) = some (.inl (its, g4)) := by
          rw [st, g3]
          unfold K_X12_goesOn_131
          rw [kn, xb1_some, if_neg (nI_pos (by omega)), t1, xb1_some, xb1_some]
        rw [ev, ← acs, ← cn] at t2
        obtain ⟨its', g5, k1, k2, k3, k4, k5⟩ := ih2 (s + 1) its g4 (by omega) t3 t2
        exact ⟨its', g5, (xlim_go st').trans k1, k2, t4.tr k3, k4.trans (t5 71 (by decide)), k5⟩
      rcases r_knownR hn hom hV hc t.1 hρ t.2.1 hq with ⟨al, kn⟩ | ⟨na, kn | ⟨v, hv, kn, vl⟩⟩
      · rw [zSt_pt hI] at al
        exact takes 0 (by omega) (zVl_un (zVl_al al) nv.2) kn
      · have cl' := zCl_pt hS hp hs hx
        rw [← zSt_pt hI] at cl'
        have fr0 : zLf (l + 1) g (xWI g 113 70 (nI (l + 1))) := ⟨(yAg.refl _ g).wi (by unfold dLv; omega), fun _ _ _ _ _ => rfl⟩
        have t0 : zRt (xWI g 113 70 (nI (l + 1))) w n c mk ρ γ x0 := t.fr fr0 (fun k => by rw [yI_wi, if_neg (by omega)]) (fun _ => rfl) (fun _ => rfl)
        obtain ⟨g4, e1, e2, e3, e4, e5⟩ := r_enter (l := l + 1) (lo := lo &&& zml c mk (10 * s + p)) (hi := hi &&& zmh c mk (10 * s + p)) (by omega) (show xI (xWI g 113 70 (nI (l + 1))) 113 70 = nI (l + 1) by rw [yI_wi, if_pos ⟨rfl, rfl⟩]) t0
        have st' : S_X12_solves_91 (its, g) = some (.inl (its, g4)) := by
          rw [st, g3]
          unfold K_X12_goesOn_131
          rw [kn, xb1_some, if_pos (show (-1 : Int32) < 0 by decide), h.1, nI_1, e1, xb1_some, xb1_some]
        obtain ⟨v, its5, g5, v1, v2, v3, v4, v5, v6, -⟩ := ih (l + 1) (x ||| 2 ^ p) _ _ g4 its (by omega) (by omega) e3 hq cl' na e2 (fun z => absurd z (by omega))
        have fr5 : zLf (l + 1) g g5 := (fr0.tr e4).tr v3
        have at' : ∀ o, 159 ≤ o → o ≤ 163 → xI g5 o l = xI g o l := fun o a b => fr5.1.2 o l (by unfold dLv; omega)
        have e71 : xI g5 113 71 = xI g 113 71 := fr5.1.2 113 71 (by unfold dLv; omega)
        obtain ⟨h1, h2, h3, h4, h5, h6, h7, h8⟩ := h
        obtain ⟨its6, g6, f1, f2, f3, f4, f5⟩ := r_final (its := its5) hK (by omega) v4 ⟨(fr5.2 157 l (by omega) (by decide) (by decide)).trans h2, (fr5.2 158 l (by omega) (by decide) (by decide)).trans h3, (at' 159 (by decide) (by decide)).trans h4, (at' 160 (by decide) (by decide)).trans h5, (at' 161 (by decide) (by decide)).trans h6, (at' 162 (by decide) (by decide)).trans h7, (at' 163 (by decide) (by decide)).trans h8⟩ hq ⟨_, cl'⟩ (by rw [zSt_pt hI]; exact (zNe_iff hI).mp e) (by omega) v6 v2 (by omega)
        rw [zSt_pt hI] at v6
        rw [zVl_un v6 nv.2, ← acs, ← cn] at f2
        obtain ⟨its', g7, k1, k2, k3, k4, k5⟩ := ih2 (s + 1) its6 g6 (by omega) f3 f2
        exact ⟨its', g7, ((xlim_go st').trans v1).trans ((xlim_go f1).trans k1), k2, (fr5.dn.tr f4).tr k3, k4.trans (f5.trans e71), k5⟩
      · rw [zSt_pt hI] at vl
        exact takes v hv (zVl_un vl nv.2) kn
    · have em : lo &&& zml c mk (10 * s + p) = 0 ∧ hi &&& zmh c mk (10 * s + p) = 0 := Classical.byContradiction fun z => e (zNe_0.mp z)
      have cn : yCn (zNe c mk lo hi p) (s + 1) = yCn (zNe c mk lo hi p) s := by rw [yCn_succ, if_neg e]; rfl
      have al : zAl c γ (zPt mk (zSt lo hi) p s) := fun i j hi' hj si sj => absurd ((zNe_iff hI).mpr ⟨i, hi', si⟩) e
      have n0 : zNv w (n * (n - 1) / 2) c mk γ (zPt mk (zSt lo hi) p s) = 0 := zVl_un nv.2 (zVl_al al)
      have acs : zAc w (n * (n - 1) / 2) c mk γ (zSt lo hi) p (s + 1) = zAc w (n * (n - 1) / 2) c mk γ (zSt lo hi) p s := by
        rw [acs, n0]
        split <;> omega
      have st' : S_X12_solves_91 (its, g) = some (.inl (its, xWI g 160 l (nI (s + 1)))) := by rw [st, g1 em, xb1_some]
      have fr : zLf l g (xWI g 160 l (nI (s + 1))) := ⟨(yAg.refl _ g).wi (by unfold dLv; omega), fun _ _ _ _ _ => rfl⟩
      obtain ⟨h1, h2, h3, h4, h5, h6, h7, h8⟩ := h
      have lv : zLev (xWI g 160 l (nI (s + 1))) l lo hi p (s + 1) (zAc w (n * (n - 1) / 2) c mk γ (zSt lo hi) p (s + 1)) (yCn (zNe c mk lo hi p) (s + 1)) B := by
        rw [acs, cn]
        refine ⟨?_, h2, h3, ?_, ?_, ?_, ?_, ?_⟩
        · rw [yI_wi, if_neg (by omega)]; exact h1
        · rw [yI_wi, if_neg (by omega)]; exact h4
        · rw [yI_wi, if_pos ⟨rfl, rfl⟩]
        · rw [yI_wi, if_neg (by omega)]; exact h6
        · rw [yI_wi, if_neg (by omega)]; exact h7
        · rw [yI_wi, if_neg (by omega)]; exact h8
      obtain ⟨its', g7, k1, k2, k3, k4, k5⟩ := ih2 (s + 1) its _ (by omega) (t.fr fr (fun k => by rw [yI_wi, if_neg (by omega)]) (fun _ => rfl) (fun _ => rfl)) lv
      exact ⟨its', g7, (xlim_go st').trans k1, k2, fr.tr k3, k4.trans (by rw [yI_wi, if_neg (by omega)]), k5⟩
/-- a pair that parts nothing -/
theorem r_whole (K : zK n om w c mk V ρ γ) (hI : zIn c lo hi) (hl12 : l < 12) (hp : p < n * (n - 1) / 2) (ne : ∃ i, i < c ∧ zSt lo hi i = true) (nsp : ¬ zSp c mk (zSt lo hi) p) (t : zRt g w n c mk ρ γ x0) (h : zLev g l lo hi p 0 0 0 B) : ∃ g', xlim S_X12_solves_91 (its, g) = xlim S_X12_solves_91 (its, g') ∧ zRt g' w n c mk ρ γ x0 ∧ zLf l g g' ∧ xI g' 113 71 = xI g 113 71 ∧ zLev g' l lo hi (p + 1) 0 0 0 B := by
  obtain ⟨hn, hom, hw, hc, hV, hρ⟩ := K
  have hP := (yPs_3 n (by omega)).2.2
  have ho := zVo_one hn hom hV
  obtain ⟨s0, hs0, all⟩ : ∃ s, s < 3 ∧ ∀ i, i < c → zSt lo hi i = true → (mk i).testBit (10 * s + p) = true := Classical.byContradiction fun z => nsp fun s hs => Classical.byContradiction fun y => z ⟨s, hs, fun i hi' si => Classical.byContradiction fun u => y ⟨i, hi', si, u⟩⟩
  have em : ∀ s, s < 3 → s ≠ s0 → lo &&& zml c mk (10 * s + p) = 0 ∧ hi &&& zmh c mk (10 * s + p) = 0 := fun s hs hne => Classical.byContradiction fun z => by
    obtain ⟨i, hi', y⟩ := (zNe_iff hI).mp (zNe_0.mp z)
    obtain ⟨y1, y2⟩ := zPt_bit.mp y
    obtain ⟨u, hu, o⟩ := ho i hi' p hp
    have e1 := (o s hs).mp y2
    have e2 := (o s0 hs0).mp (all i hi' y1)
    exact hne (e1.trans e2.symm)
  have key : ∀ k s g, k + s = s0 → zRt g w n c mk ρ γ x0 → zLev g l lo hi p s 0 0 B → ∃ g', xlim S_X12_solves_91 (its, g) = xlim S_X12_solves_91 (its, g') ∧ zRt g' w n c mk ρ γ x0 ∧ zLf l g g' ∧ xI g' 113 71 = xI g 113 71 ∧ zLev g' l lo hi (p + 1) 0 0 0 B := by
    intro k
    induction k with
    | zero =>
      intro s g hk t h
      have : s = s0 := by omega
      subst this
      obtain ⟨-, g2, -⟩ := r_goesOn hn hl12 h hI t hp hs0
      obtain ⟨i, hi', si⟩ := ne
      have nz : ¬ (lo &&& zml c mk (10 * s + p) = 0 ∧ hi &&& zmh c mk (10 * s + p) = 0) := zNe_0.mpr ((zNe_iff hI).mpr ⟨i, hi', zPt_bit.mpr ⟨si, all i hi' si⟩⟩)
      have st' : S_X12_solves_91 (its, g) = some (.inl (its, xWI (xWI (xWI (xWI g 159 l (nI (p + 1))) 160 l 0) 161 l 0) 162 l 0)) := by rw [r_stepL hn hl12 h t hp hs0, g2 nz ((zAll_i hI).mpr all), xb1_some]
      obtain ⟨z1, z2, z3, z4⟩ := zLev_97 h
      exact ⟨_, xlim_go st', t.fr z2 z3 (fun _ => rfl) (fun _ => rfl), z2, z4 71, z1⟩
    | succ k ih =>
      intro s g hk t h
      obtain ⟨g1, -, -⟩ := r_goesOn hn hl12 h hI t hp (show s < 3 by omega)
      have st' : S_X12_solves_91 (its, g) = some (.inl (its, xWI g 160 l (nI (s + 1)))) := by rw [r_stepL hn hl12 h t hp (show s < 3 by omega), g1 (em s (by omega) (by omega)), xb1_some]
      have fr : zLf l g (xWI g 160 l (nI (s + 1))) := ⟨(yAg.refl _ g).wi (by unfold dLv; omega), fun _ _ _ _ _ => rfl⟩
      obtain ⟨h1, h2, h3, h4, h5, h6, h7, h8⟩ := h
      have lv : zLev (xWI g 160 l (nI (s + 1))) l lo hi p (s + 1) 0 0 B := by
        refine ⟨?_, h2, h3, ?_, ?_, ?_, ?_, ?_⟩
        · rw [yI_wi, if_neg (by omega)]; exact h1
        · rw [yI_wi, if_neg (by omega)]; exact h4
        · rw [yI_wi, if_pos ⟨rfl, rfl⟩]
        · rw [yI_wi, if_neg (by omega)]; exact h6
        · rw [yI_wi, if_neg (by omega)]; exact h7
        · rw [yI_wi, if_neg (by omega)]; exact h8
      obtain ⟨g7, k1, k2, k3, k4, k5⟩ := ih (s + 1) _ (by omega) (t.fr fr (fun k => by rw [yI_wi, if_neg (by omega)]) (fun _ => rfl) (fun _ => rfl)) lv
      exact ⟨g7, (xlim_go st').trans k1, k2, fr.tr k3, k4.trans (by rw [yI_wi, if_neg (by omega)]), k5⟩
  exact key s0 0 g (by omega) t h
/-- the best so far -/
def zBf (n w c : Nat) (mk : Nat → Nat) (γ : Nat → Int32) (S : Nat → Bool) (l p B : Nat) (g : xSt) : Prop := (B = 1000000 ∧ (∀ p', p' < p → ¬ zSp c mk S p') ∧ (l = 0 → xI g 113 71 = -1)) ∨ ∃ p0, p0 < p ∧ zSp c mk S p0 ∧ B = zPv w (n * (n - 1) / 2) c mk γ S p0 ∧ (∀ p', p' < p → zSp c mk S p' → B ≤ zPv w (n * (n - 1) / 2) c mk γ S p') ∧ (∀ p', p' < p0 → zSp c mk S p' → B < zPv w (n * (n - 1) / 2) c mk γ S p') ∧ (l = 0 → xI g 113 71 = nI p0)
theorem r_level (K : zK n om w c mk V ρ γ) : ∀ m, zIh n w c mk ρ γ x0 m := by
  have hK := K
  obtain ⟨hn, hom, hw, hc, hV, hρ⟩ := K
  have hP := (yPs_3 n (by omega)).2.2
  have ho := zVo_one hn hom hV
  have hd := zVo_dif (γ := γ) hn hom hV
  intro m
  induction m with
  | zero =>
    intro l x lo hi g its hm hl t hI hS na h h71
    have le := yCn_le (fun q => x.testBit q) (n * (n - 1) / 2)
    have all := yCn_all.mp (show yCn (fun q => x.testBit q) (n * (n - 1) / 2) = n * (n - 1) / 2 by omega)
    obtain ⟨-, -, τ, h2, h3⟩ := hS
    refine absurd (fun i j hi' hj si sj => hd i j hi' hj fun p hp s hs => ?_) na
    have b1 := (h3 i hi').mp si p hp (all p hp)
    have b2 := (h3 j hj).mp sj p hp (all p hp)
    obtain ⟨u1, _, o1⟩ := ho i hi' p hp
    obtain ⟨u2, _, o2⟩ := ho j hj p hp
    rw [o1 s hs, o2 s hs, ← (o1 _ (h2 p hp)).mp b1, ← (o2 _ (h2 p hp)).mp b2]
  | succ m ih =>
    intro l x lo hi g its hm hl t hI hS na h h71
    have le := yCn_le (fun q => x.testBit q) (n * (n - 1) / 2)
    have hl12 : l < 12 := by omega
    have ne : ∃ i, i < c ∧ zSt lo hi i = true := Classical.byContradiction fun z => na fun i j hi' hj si sj => absurd ⟨i, hi', si⟩ z
    have pvle : ∀ p, zPv w (n * (n - 1) / 2) c mk γ (zSt lo hi) p ≤ 3720 := fun p => by
      have a := zAc_le (w := w) (S := zSt lo hi) (p := p) hP hc hd ho 3
      have b := yCn_le (zSt lo hi) c
      unfold zPv
      split <;> omega
    have key : ∀ k p its g, k + p = n * (n - 1) / 2 → zRt g w n c mk ρ γ x0 → ∀ B, B ≤ 1000000 → zLev g l lo hi p 0 0 0 B → zBf n w c mk γ (zSt lo hi) l p B g → ∃ B' its' g', xlim S_X12_solves_91 (its, g) = xlim S_X12_solves_91 (its', g') ∧ zRt g' w n c mk ρ γ x0 ∧ zLf l g g' ∧ zLev g' l lo hi (n * (n - 1) / 2) 0 0 0 B' ∧ zBf n w c mk γ (zSt lo hi) l (n * (n - 1) / 2) B' g' := by
      intro k
      induction k with
      | zero =>
        intro p its g hk t B hB h bf
        have : p = n * (n - 1) / 2 := by omega
        subst this
        exact ⟨B, its, g, rfl, t, zLf.refl, h, bf⟩
      | succ k ih2 =>
        intro p its g hk t B hB h bf
        have hp : p < n * (n - 1) / 2 := by omega
        by_cases sp : zSp c mk (zSt lo hi) p
        · obtain ⟨its1, g1, a1, a2, a3, a4, a5⟩ := r_saids hK ih hI hS hm hl hp sp 3 0 its g (by omega) t h
          have n2 := zNe_2 ho hI hp ne sp
          have n3 := yCn_le (zNe c mk lo hi p) 3
          have ac := zAc_le (w := w) (S := zSt lo hi) (p := p) hP hc hd ho 3
          obtain ⟨g2, b1, b2, b3, b4, b5⟩ := r_endPair (its := its1) hn hl12 hw hc a5 hI a2 hp (by omega) hB n2 n3
          have pv : zAc w (n * (n - 1) / 2) c mk γ (zSt lo hi) p 3 + (if w = 0 then 1 else yCn (zSt lo hi) c) = zPv w (n * (n - 1) / 2) c mk γ (zSt lo hi) p := rfl
          rw [pv] at b2 b5
          rw [a4] at b5
          have bf' : zBf n w c mk γ (zSt lo hi) l (p + 1) (min B (zPv w (n * (n - 1) / 2) c mk γ (zSt lo hi) p)) g2 := by
            have pl := pvle p
            by_cases d : zPv w (n * (n - 1) / 2) c mk γ (zSt lo hi) p < B
            · rw [Nat.min_eq_right (by omega)]
              right
              refine ⟨p, by omega, sp, rfl, fun p' hp' sp' => ?_, fun p' hp' sp' => ?_, fun l0 => ?_⟩
              · by_cases e : p' = p
                · rw [e]; exact Nat.le_refl _
                · rcases bf with ⟨_, z, _⟩ | ⟨p0, _, _, z2, z3, _⟩
                  · exact absurd sp' (z p' (by omega))
                  · have := z3 p' (by omega) sp'; omega
              · rcases bf with ⟨_, z, _⟩ | ⟨p0, _, _, z2, z3, _⟩
                · exact absurd sp' (z p' (by omega))
                · have := z3 p' (by omega) sp'; omega
              · rw [b5, if_pos ⟨l0, d⟩]
            · rw [Nat.min_eq_left (by omega)]
              rw [if_neg (fun z => d z.2)] at b5
              rcases bf with ⟨z1, _, _⟩ | ⟨p0, z0, z1, z2, z3, z4, z5⟩
              · omega
              · right
                refine ⟨p0, by omega, z1, z2, fun p' hp' sp' => ?_, z4, fun l0 => b5.trans (z5 l0)⟩
                by_cases e : p' = p
                · rw [e]; omega
                · exact z3 p' (by omega) sp'
          obtain ⟨B', its', g', c1, c2, c3, c4, c5⟩ := ih2 (p + 1) its1 g2 (by omega) b3 _ (by omega) b2 bf'
          exact ⟨B', its', g', (a1.trans (xlim_go b1)).trans c1, c2, (a3.tr b4).tr c3, c4, c5⟩
        · obtain ⟨g2, b1, b2, b3, b4, b5⟩ := r_whole (its := its) hK hI hl12 hp ne sp t h
          have bf' : zBf n w c mk γ (zSt lo hi) l (p + 1) B g2 := by
            rcases bf with ⟨z1, z2, z3⟩ | ⟨p0, z0, z1, z2, z3, z4, z5⟩
            · refine Or.inl ⟨z1, fun p' hp' => ?_, fun l0 => b4.trans (z3 l0)⟩
              by_cases e : p' = p
              · rw [e]; exact sp
              · exact z2 p' (by omega)
            · refine Or.inr ⟨p0, by omega, z1, z2, fun p' hp' sp' => ?_, z4, fun l0 => b4.trans (z5 l0)⟩
              by_cases e : p' = p
              · rw [e] at sp'; exact absurd sp' sp
              · exact z3 p' (by omega) sp'
          obtain ⟨B', its', g', c1, c2, c3, c4, c5⟩ := ih2 (p + 1) its g2 (by omega) b2 B hB b5 bf'
          exact ⟨B', its', g', b1.trans c1, c2, b3.tr c3, c4, c5⟩
    obtain ⟨B, its', g', c1, c2, c3, c4, c5⟩ := key (n * (n - 1) / 2) 0 its g (by omega) t 1000000 (by omega) h (Or.inl ⟨rfl, fun p' hp' => absurd hp' (by omega), h71⟩)
    rcases c5 with ⟨_, z, _⟩ | ⟨p0, z0, z1, z2, z3, z4, z5⟩
    · obtain ⟨k0, k1, k2, k3⟩ := zCan_min (zCan_ex hd ho (zSt lo hi))
      obtain ⟨-, p, hp, sp, -⟩ := zCan_least k2 na k3
      exact absurd sp (z p hp)
    · have := pvle p0
      refine ⟨B, its', g', c1, c2, c3, c4, by omega, ?_, fun l0 => ⟨p0, z0, z1, z2, z4, z5 l0⟩⟩
      rw [z2]
      exact zVl_of hP hc hd ho na z0 z1 fun p hp sp => by rw [← z2]; exact z3 p hp sp
end RO
