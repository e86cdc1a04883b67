/-! call 21 -/
section O21
variable {g g' : xSt} {β n w c o M P N k : Nat} {T B : yT} {L : List Nat} {mk ρ : Nat → Nat} {γ : Nat → Int32} {a1 a2 a3 a4 a5 : Int32}
theorem r_tr116 (h : zLR g n w L β ρ) (hi : yIn n w L) (hc : L.length ≤ 6) (hm : ∀ i, i < L.length → mk i = yMk n (yPv n w L i)) {t : Nat} (ht : t < 3 ^ L.length) : ∀ m k g1, m + k = 12 → yAg d165 g g1 → (∀ r, r < 3 ^ L.length → zRw mk ρ n w L.length k r (xI g1 165 r)) → ∃ g' K, xlim (S_X12_trusty_116 (nI (3 ^ L.length)) (nI t)) (nI (k + 1), g1) = some g' ∧ yAg d165 g g' ∧ K ≤ 12 ∧ zRw mk ρ n w L.length K t (xI g' 165 t) ∧ (xI g' 165 t = -1 → K = 12) := by
  have pw : 3 ^ L.length ≤ 729 := Nat.pow_le_pow_right (n := 3) (by decide) (show L.length ≤ 6 from hc)
  intro m
  induction m with
  | zero =>
    intro k g1 hm' y z
    have : k = 12 := by omega
    subst this
    refine ⟨g1, 12, xlim_end ?_, y, Nat.le_refl _, z t ht, fun _ => rfl⟩
    unfold S_X12_trusty_116
    exact if_pos (show (12 : Int32) < nI (12 + 1) by decide)
  | succ m ih =>
    intro k g1 hm' y z
    have nk : ¬ (12 : Int32) < nI (k + 1) := by rw [show (12 : Int32) = nI 12 from rfl, nI_ltI (by omega) (by omega)]; omega
    rcases z t ht with ⟨s1, s2⟩ | ⟨u, s1, s2, s3, s4⟩
    · obtain ⟨g2, r1, r2, r3⟩ := r_tr136 (g := g) (mk := mk) (a5 := nI t) h hi hc hm (show k < 12 by omega) (3 ^ L.length) 0 g1 (by omega) y (fun r hr => by rw [if_neg (by omega)]; exact z r hr)
      have st : S_X12_trusty_116 (nI (3 ^ L.length)) (nI t) (nI (k + 1), g1) = some (.inl (nI (k + 1 + 1), g2)) := by
        unfold S_X12_trusty_116
        simp only [if_neg nk, xck_nI (show t < 729 by omega) (show 729 < 2 ^ 31 by decide), nI_clamp (show t < 2 ^ 31 by omega), s1, nI_1]
        rw [if_neg (by decide), show ((0 : Int32), g1) = (nI 0, g1) from rfl, r1, xb1_some]
      rw [xlim_go st]
      exact ih (k + 1) g2 (by omega) r2 r3
    · refine ⟨g1, k, xlim_end ?_, y, by omega, Or.inr ⟨u, s1, s2, s3, s4⟩, fun q => ?_⟩
      · unfold S_X12_trusty_116
        simp only [if_neg nk, xck_nI (show t < 729 by omega) (show 729 < 2 ^ 31 by decide), nI_clamp (show t < 2 ^ 31 by omega), s2]
        exact if_pos (show (0 : Int32) ≤ nI u by rw [show (0 : Int32) = nI 0 from rfl]; exact nI_le (by omega) (by omega))
      · rw [s2] at q; exact absurd q (r_bci10 u (by omega)).2.2.1
theorem r_tr79 (h : zLR g n w L β ρ) (hc : L.length ≤ 6) {a5 : Int32} : ∀ m st g1, m + st = 3 ^ L.length → yAg d165 g g1 → (∀ r, r < st → zRw mk ρ n w L.length 0 r (xI g1 165 r)) → ∃ g', xlim (S_X12_trusty_79 (nI (3 ^ L.length)) a5) (nI st, g1) = some g' ∧ yAg d165 g g' ∧ ∀ r, r < 3 ^ L.length → zRw mk ρ n w L.length 0 r (xI g' 165 r) := by
  have pw : 3 ^ L.length ≤ 729 := Nat.pow_le_pow_right (n := 3) (by decide) (show L.length ≤ 6 from hc)
  intro m
  induction m with
  | zero =>
    intro st g1 hm' y z
    refine ⟨g1, xlim_end ?_, y, fun r hr => z r (by omega)⟩
    unfold S_X12_trusty_79
    exact if_pos (nI_le (by omega) (by omega))
  | succ m ih =>
    intro st g1 hm' y z
    have h1 := h.ag y
    obtain ⟨v, v1, v2, v3⟩ := r_isComeBy (g := g1) (ρ := ρ) (st := st) hc (by omega) h1.2.1.1 h1.2.2.2.2.2
    have st1 : S_X12_trusty_79 (nI (3 ^ L.length)) a5 (nI st, g1) = some (.inl (nI (st + 1), xWI g1 165 st (if v = 0 then -1 else 0))) := by
      unfold S_X12_trusty_79
      simp only [if_neg (nI_ge (show st < 3 ^ L.length by omega) (show 3 ^ L.length < 2 ^ 31 by omega)), v1, xb1_some, nI_1]
      rw [xck_nI (by omega) (by decide), nI_clamp (by omega)]
    rw [xlim_go st1]
    refine ih (st + 1) _ (by omega) (y.wi rfl) (fun r hr => ?_)
    rw [yI_wi]
    by_cases e : r = st
    · subst e
      rw [if_pos ⟨rfl, rfl⟩]
      rcases v2 with rfl | rfl
      · rw [if_pos rfl]
        refine Or.inl ⟨rfl, fun j hj q => ?_⟩
        have : j = 0 := by omega
        subst this
        exact absurd (v3.mpr q) (by decide)
      · rw [if_neg (by decide)]
        exact Or.inr ⟨0, Nat.le_refl _, rfl, v3.mp rfl, fun j hj => absurd hj (by omega)⟩
    · rw [if_neg (fun q => e q.2)]; exact z r (by omega)
theorem r_tr48 (h53 : xI g 113 53 = nI c) (hc : c ≤ 6) : xlim S_X12_trusty_48 (1, 0, 0, g) = some (nI (3 ^ c), nI ((3 ^ c - 1) / 2), g) := by
  refine xlim_of (step := S_X12_trusty_48) (fun j => (nI (3 ^ j), nI ((3 ^ j - 1) / 2), nI j, g)) c (fun j hj => ?_) ?_
  · unfold S_X12_trusty_48
    have p0 : 0 < 3 ^ j := Nat.pow_pos (by decide)
    simp only [h53, if_neg (nI_ge hj (show c < 2 ^ 31 by omega)), show (3 : Int32) = nI 3 from rfl, nI_mul, nI_add, nI_1]
    rw [show 3 ^ j * 3 = 3 ^ (j + 1) from (Nat.pow_succ 3 j).symm, show (3 ^ j - 1) / 2 + 3 ^ j = (3 ^ (j + 1) - 1) / 2 by rw [Nat.pow_succ]; omega]
  · unfold S_X12_trusty_48
    simp only [h53]
    exact if_pos (nI_le (Nat.le_refl _) (by omega))
theorem r_half : ∀ c, c < 7 → zCx c ((3 ^ c - 1) / 2) = 2 ^ c - 1 ∧ zCy c ((3 ^ c - 1) / 2) = 0 := by decide +kernel
/-- the reference's rounds, behind the laying -/
theorem r_lieR (h : zLR g n w L β ρ) (hi : yIn n w L) (hc : L.length ≤ 6) (hm : ∀ i, i < L.length → mk i = yMk n (yPv n w L i)) : ∃ e8 e9 v, xlim (S_X12_trusty_79 (nI (3 ^ L.length)) (nI ((3 ^ L.length - 1) / 2))) (0, g) = some e8 ∧ xlim (S_X12_trusty_116 (nI (3 ^ L.length)) (nI ((3 ^ L.length - 1) / 2))) (1, e8) = some e9 ∧ yAg d165 g e9 ∧ zNd (zTr mk L.length) (zAr ρ L.length) (n * (n - 1) / 2) (zs0 w) v (2 ^ L.length - 1) 0 ∧ K_X12_trusty_185 (nI ((3 ^ L.length - 1) / 2)) e9 = some (if v ≤ 12 then nI v else -2, e9) := by
  have pw : 3 ^ L.length ≤ 729 := Nat.pow_le_pow_right (n := 3) (by decide) (show L.length ≤ 6 from hc)
  have p0 : 0 < 3 ^ L.length := Nat.pow_pos (by decide)
  obtain ⟨e8, r1, r2, r3⟩ := r_tr79 (g := g) (mk := mk) (a5 := nI ((3 ^ L.length - 1) / 2)) h hc (3 ^ L.length) 0 g (by omega) (yAg.refl _ _) (fun r hr => absurd hr (by omega))
  obtain ⟨e9, K, s1, s2, s3, s4, s5⟩ := r_tr116 (g := g) (mk := mk) h hi hc hm (t := (3 ^ L.length - 1) / 2) (by omega) 12 0 e8 (by omega) r2 r3
  obtain ⟨x1, x2⟩ := r_half L.length (by omega)
  have gs : ∀ j, zGs mk ρ n w L.length j ((3 ^ L.length - 1) / 2) ↔ zG (zTr mk L.length) (zAr ρ L.length) (n * (n - 1) / 2) (zs0 w) j (2 ^ L.length - 1) 0 := fun j => by unfold zGs; rw [x1, x2]
  rcases s4 with ⟨t1, t2⟩ | ⟨u, t1, t2, t3, t4⟩
  · have hK := s5 t1
    subst hK
    refine ⟨e8, e9, 13, r1, s1, s2, ⟨Nat.le_refl _, fun z => absurd z (by decide), fun j hj q => t2 j (by omega) ((gs j).mpr q)⟩, ?_⟩
    unfold K_X12_trusty_185
    rw [xck_nI (by omega) (by decide), nI_clamp (by omega), t1, if_neg (by decide), if_neg (by decide)]
  · refine ⟨e8, e9, u, r1, s1, s2, ⟨by omega, fun _ => (gs u).mp t3, fun j hj q => t4 j hj ((gs j).mpr q)⟩, ?_⟩
    unfold K_X12_trusty_185
    rw [xck_nI (by omega) (by decide), nI_clamp (by omega), t2, if_pos (show (0 : Int32) ≤ nI u by rw [show (0 : Int32) = nI 0 from rfl]; exact nI_le (by omega) (by omega)), xck_nI (by omega) (by decide), if_pos (by omega)]
theorem zNd_if2 {tr : Nat → Nat → Nat} {al al' : Nat → Prop} {s0 s1 v x y : Nat} (h : ∀ k, zG tr al P s0 k x y ↔ zG tr al' P s1 k x y) (q : zNd tr al P s0 v x y) : zNd tr al' P s1 v x y := ⟨q.1, fun a => (h v).mp (q.2.1 a), fun k a b => q.2.2 k a ((h k).mpr b)⟩
theorem zG_alc {tr : Nat → Nat → Nat} {al al' : Nat → Prop} {s0 : Nat} (h : ∀ u, al u ↔ al' u) : ∀ j x y, zG tr al P s0 j x y ↔ zG tr al' P s0 j x y := by
  have : al = al' := funext fun u => propext (h u)
  subst this
  exact fun _ _ _ => Iff.rfl
theorem r_lay3 (C : Cx g β T B) (hg : yGd (T 0 0) a1 a2) : ∃ g1, E_X12_layLeft 0 a3 g = some g1 ∧ yAg dA g g1 ∧ yLR g1 (yLs B a3 (T 0 0) (T 0 1) 0) ∧ ((yLs B a3 (T 0 0) (T 0 1) 0).length ≤ 120 → ∃ g2 g3, E_X12_layPairs g1 = some g2 ∧ E_X12_layGoals a1 a2 g2 = some g3 ∧ yAg dA g g3 ∧ zLR g3 (T 0 0) (T 0 1) (yLs B a3 (T 0 0) (T 0 1) 0) β (fun j => yGr (T 0 0) a1 a2 j (yPv (T 0 0) (T 0 1) (yLs B a3 (T 0 0) (T 0 1) 0) j))) := by
  have hin : yIn (T 0 0) (T 0 1) (yLs B a3 (T 0 0) (T 0 1) 0) := yLs_in C.2.2.2.1 C.2.2.2.2.1
  obtain ⟨g1, r1, r2, r3⟩ := r_layLeft (k := a3) (lies := 0) (by decide) C.2.2.1.1 C.2.2.2 C.2.2.1.2.2
  have C1 := C.as (r2.up dLR_A).A
  refine ⟨g1, r1, r2.up dLR_A, r3, fun c => ?_⟩
  obtain ⟨g2, s1, s2, s3, s4⟩ := r_layPairs C1 r3 hin c
  have C2 := C1.as (s2.up dPa_A).A
  have q2 : yLR g2 (yLs B a3 (T 0 0) (T 0 1) 0) := r3.gl s2 (by unfold dPa; omega) (fun k => by unfold dPa; omega)
  obtain ⟨g3, t1, t2, t3⟩ := r_layGoals C2 q2 hin hg
  have C3 := C2.as (t2.up dGl_A).A
  refine ⟨g2, g3, s1, t1, ((r2.up dLR_A).tr (s2.up dPa_A)).tr (t2.up dGl_A), C3.2.2.2, q2.gl t2 (by unfold dGl; omega) (fun k => by unfold dGl; omega), ⟨(t2.2 113 59 (by unfold dGl; omega)).trans s4.1.1, fun x y h1 h2 h3 => ⟨(t2.2 150 _ (by unfold dGl; omega)).trans (s4.1.2 x y h1 h2 h3).1, (t2.2 151 _ (by unfold dGl; omega)).trans (s4.1.2 x y h1 h2 h3).2⟩⟩, ⟨C3.2.1.2.2.2.1, C3.2.1.2.2.1⟩, C3.2.1.2.2.2.2.2.1, fun j hj => ⟨t3 j hj, Nat.lt_trans (yGr_lt C.2.2.2.1 C.2.2.2.2.1 hin hj hg) (by decide)⟩⟩
set_option maxRecDepth 100000 in
theorem yO_no : ∀ n, n < 6 → ((yO n 0).all fun v => (List.range n).all fun a => (List.range n).all fun b => decide (a < b → ySd v a b ≠ 0)) = true := by decide +kernel
theorem zTr_no (hn : n ≤ 5) (hw0 : w = 0) (hi : yIn n w L) (hm : ∀ i, i < L.length → mk i = yMk n (yPv n w L i)) {p : Nat} (hp : p < n * (n - 1) / 2) : zTr mk L.length p 0 = 0 := by
  subst hw0
  have hP := (yPs_3 n (by omega)).2.2
  refine yBs_no fun i h => Bool.eq_false_iff.mpr fun z => ?_
  rw [hm i h] at z
  obtain ⟨a, b, h1, h2, -, h4⟩ := (yMk_bit hn (by decide) (by omega)).mp z
  have q := List.all_eq_true.mp (yO_no n (by omega)) _ (yOr_mem (hi.2 i h))
  simp only [List.all_eq_true, List.mem_range, decide_eq_true_eq] at q
  exact q a (by omega) b h2 h1 h4
theorem op_21 (W : xWf g) (C : Cx g β T B) (q : I_search N g) : ∃ g', O_21 a1 a2 a3 a4 a5 g = some (true, g') ∧ yAg dSS g g' ∧ I_search (N + 1) g' := by
  have hn := C.2.2.2.1
  have hw := C.2.2.2.2.1
  have fin : ∀ (g1 g2 : xSt) (v : Int32), E_X11_trusty a1 a2 a3 g = some (v, g1) → E_X12_trusty a1 a2 a3 g1 = some (v, g2) → O_21 a1 a2 a3 a4 a5 g = some (true, g2) := fun g1 g2 v h1 h2 => by
    unfold O_21
    rw [h1, xb2_some, h2, xb2_some, decide_eq_true rfl]
  have fr : ∀ (g1 g2 : xSt) (v : Int32), xWf g1 → E_X12_trusty a1 a2 a3 g1 = some (v, g2) → zSame g1 g2 := fun g1 g2 v W1 e2 => zSame_fr (e_X12_trusty (d := 0) W1 e2).2 (fun o x y => by simp only [List.mem_cons, List.not_mem_nil, or_false]; omega) (fun o k x y => by simp only [List.mem_cons, List.not_mem_nil, or_false, Prod.mk.injEq]; omega)
  rcases r_prepare (a1 := a1) (a2 := a2) (a3 := a3) W C q with ⟨p1, p2⟩ | ⟨hg, g1, y1, C1, q1, hX⟩
  · refine ⟨g, fin g g (-1) ?_ ?_, yAg.refl _ _, q.eq (Nat.le_succ _) (zSame.refl g)⟩
    · unfold E_X11_trusty
      rw [p1, xb2_some, if_neg (by decide)]
    · unfold E_X12_trusty
      rw [p2, xb1_some, if_pos rfl]
  · have hin : yIn (T 0 0) (T 0 1) (yLs B a3 (T 0 0) (T 0 1) 0) := yLs_in hn hw
    have hlen := hin.1
    have many : 6 < (yLs B a3 (T 0 0) (T 0 1) 0).length → ∃ g2, E_X12_trusty a1 a2 a3 g1 = some (-2, g2) ∧ yAg dA g1 g2 := fun c => by
      obtain ⟨g2, r1, r2, r3, -⟩ := r_lay3 (a1 := a1) (a2 := a2) (a3 := a3) C1 hg
      refine ⟨g2, ?_, r2⟩
      unfold E_X12_trusty
      rw [(r_hasGoal1 C1 hg).2, xb1_some, if_neg (by decide), r1, xb1_some, r3.1, if_neg (show ¬ nI (yLs B a3 (T 0 0) (T 0 1) 0).length ≤ (6 : Int32) by rw [show (6 : Int32) = nI 6 from rfl]; exact nI_ge c (by omega))]
    rcases hX with ⟨c1, p1, p2⟩ | ⟨c1, p1, mk, γ, hmk, hR⟩
    · have e1 : E_X11_trusty a1 a2 a3 g = some (-2, g1) := by
        unfold E_X11_trusty
        rw [p1, xb2_some, if_neg (by decide)]
      have W1 := (e_X11_trusty (d := 0) W e1).2.wf W
      obtain ⟨g2, e2, r2⟩ := many (by omega)
      exact ⟨g2, fin g1 g2 (-2) e1 e2, y1.tr r2.ss, q.eq (Nat.le_succ _) (p2.tr (fr g1 g2 _ W1 e2))⟩
    · obtain ⟨r, hr0, hrN, ⟨l1, l2, l3, l4, l5⟩, hCo, h15, hF, hM⟩ := id hR
      have mlt : ∀ i, i < (yLs B a3 (T 0 0) (T 0 1) 0).length → mk i < 2 ^ 30 := fun i h => by rw [(hmk i h).1]; exact (yOr_chk hn hw (hin.2 i h)).1
      have hJ : zJ (T 0 1) a1 = 0 ∨ zJ (T 0 1) a1 = 1 := by unfold zJ; split <;> (try split) <;> (try split) <;> simp
      have I1 : I_search (N + 1) g1 := hR.inv hn hJ c1 mlt
      by_cases c6 : (yLs B a3 (T 0 0) (T 0 1) 0).length ≤ 6
      · obtain ⟨g2, v, s1, s2, s3⟩ := r_fewestLie hn c6 l4 l1 mlt l5
        have vl := s3.1
        have hv12 : (if nI v ≤ (12 : Int32) then nI v else -2) = (if v ≤ 12 then nI v else -2) := by
          by_cases d : v ≤ 12
          · rw [if_pos d, if_pos (show nI v ≤ (12 : Int32) by rw [show (12 : Int32) = nI 12 from rfl]; exact nI_le d (by decide))]
          · rw [if_neg d, if_neg (show ¬ nI v ≤ (12 : Int32) by rw [show (12 : Int32) = nI 12 from rfl]; exact nI_ge (by omega) (by omega))]
        have e1 : E_X11_trusty a1 a2 a3 g = some (if v ≤ 12 then nI v else -2, g2) := by
          unfold E_X11_trusty
          rw [p1, xb2_some, if_pos rfl, l4, if_pos (show nI (yLs B a3 (T 0 0) (T 0 1) 0).length ≤ (6 : Int32) by rw [show (6 : Int32) = nI 6 from rfl]; exact nI_le c6 (by decide)), s1, xb2_some, hv12]
        have fr1 := (e_X11_trusty (d := 0) W e1).2
        have W2 := fr1.wf W
        have y12 : yAg dSS g1 g2 := s2.up (fun o k h => Or.inl ((by unfold d93 at h; unfold dA; omega)))
        have W1 : xWf g1 := by
          have := (e_X11_prepare (d := 0) W p1).2
          exact this.wf W
        have sm12 : zSame g1 g2 := zSame_fr (e_X3_fewestWithALie (d := 0) W1 s1).2 (fun o x y => by simp only [List.mem_cons, List.not_mem_nil, or_false]; omega) (fun o k x y => List.not_mem_nil)
        have C2 := C1.ss y12
        obtain ⟨g3, t1, t2, t3, t4⟩ := r_lay3 (a1 := a1) (a2 := a2) (a3 := a3) C2 hg
        obtain ⟨g4, g5, u1, u2, u3, u4⟩ := t4 c1
        obtain ⟨e8, e9, v', w1, w2, w3, w4, w5⟩ := r_lieR (mk := mk) u4 hin c6 (fun i hi => (hmk i hi).1)
        have hag : ∀ u, zAk γ (yLs B a3 (T 0 0) (T 0 1) 0).length u ↔ zAr (fun j => yGr (T 0 0) a1 a2 j (yPv (T 0 0) (T 0 1) (yLs B a3 (T 0 0) (T 0 1) 0) j)) (yLs B a3 (T 0 0) (T 0 1) 0).length u := fun u => by
          have eq : ∀ i j, i < (yLs B a3 (T 0 0) (T 0 1) 0).length → j < (yLs B a3 (T 0 0) (T 0 1) 0).length → (γ i = γ j ↔ yGr (T 0 0) a1 a2 i (yPv (T 0 0) (T 0 1) (yLs B a3 (T 0 0) (T 0 1) 0) i) = yGr (T 0 0) a1 a2 j (yPv (T 0 0) (T 0 1) (yLs B a3 (T 0 0) (T 0 1) 0) j)) := fun i j hi hj => by
            rw [(hmk i hi).2, (hmk j hj).2]
            have b1 := yGc_lt hn hw (hin.2 i hi) hg
            have b2 := yGc_lt hn hw (hin.2 j hj) hg
            exact (nI_eq (show yGc (T 0 0) a1 a2 (yPv (T 0 0) (T 0 1) (yLs B a3 (T 0 0) (T 0 1) 0) i) < 2 ^ 31 by unfold yPv; omega) (show yGc (T 0 0) a1 a2 (yPv (T 0 0) (T 0 1) (yLs B a3 (T 0 0) (T 0 1) 0) j) < 2 ^ 31 by unfold yPv; omega)).trans (yG_iff hn hw hin yUp_ls hi hj)
          exact ⟨fun z i j a b c d => (eq i j a b).mp (z i j a b c d), fun z i j a b c d => (eq i j a b).mpr (z i j a b c d)⟩
        have lt64 : 2 ^ (yLs B a3 (T 0 0) (T 0 1) 0).length ≤ 2 ^ 6 := Nat.pow_le_pow_right (by decide) c6
        have same : ∀ k, zG (zTr mk (yLs B a3 (T 0 0) (T 0 1) 0).length) (zAk γ (yLs B a3 (T 0 0) (T 0 1) 0).length) (T 0 0 * (T 0 0 - 1) / 2) 0 k (2 ^ (yLs B a3 (T 0 0) (T 0 1) 0).length - 1) 0 ↔ zG (zTr mk (yLs B a3 (T 0 0) (T 0 1) 0).length) (zAr (fun j => yGr (T 0 0) a1 a2 j (yPv (T 0 0) (T 0 1) (yLs B a3 (T 0 0) (T 0 1) 0) j)) (yLs B a3 (T 0 0) (T 0 1) 0).length) (T 0 0 * (T 0 0 - 1) / 2) (zs0 (T 0 1)) k (2 ^ (yLs B a3 (T 0 0) (T 0 1) 0).length - 1) 0 := fun k => by
          refine Iff.trans ?_ (zG_alc hag k _ _)
          unfold zs0
          by_cases e : T 0 1 = 0
          · rw [if_pos e]
            exact zG_even (fun u v a b => zAk_sub a b) (fun p hp => zTr_no hn e hin (fun i hi => (hmk i hi).1) hp) k _ _ (by omega) (by decide)
          · rw [if_neg e]
        have vv : v = v' := zNd_one (zNd_if2 same s3) w4
        have e2 : E_X12_trusty a1 a2 a3 g2 = some (if v ≤ 12 then nI v else -2, e9) := by
          unfold E_X12_trusty
          rw [(r_hasGoal1 C2 hg).2, xb1_some, if_neg (by decide), t1, xb1_some, t3.1, if_pos (show nI (yLs B a3 (T 0 0) (T 0 1) 0).length ≤ (6 : Int32) by rw [show (6 : Int32) = nI 6 from rfl]; exact nI_le c6 (by decide)), u1, xb1_some, u2, xb1_some, r_tr48 u4.2.1.1 c6, xb1_some]
          show xb1 (xlim (S_X12_trusty_79 (nI (3 ^ (yLs B a3 (T 0 0) (T 0 1) 0).length)) (nI ((3 ^ (yLs B a3 (T 0 0) (T 0 1) 0).length - 1) / 2))) (0, g5)) _ = _
          rw [w1, xb1_some, w2, xb1_some, w5, vv]
        exact ⟨e9, fin g2 e9 _ e1 e2, (y1.tr y12).tr (u3.ss.tr (w3.up (fun o k h => Or.inl ((by unfold d165 at h; unfold dA; omega))))), I1.eq (Nat.le_refl _) (sm12.tr (fr g2 e9 _ W2 e2))⟩
      · have e1 : E_X11_trusty a1 a2 a3 g = some (-2, g1) := by
          unfold E_X11_trusty
          rw [p1, xb2_some, if_pos rfl, l4, if_neg (show ¬ nI (yLs B a3 (T 0 0) (T 0 1) 0).length ≤ (6 : Int32) by rw [show (6 : Int32) = nI 6 from rfl]; exact nI_ge (by omega) (by omega))]
        have W1 := (e_X11_trusty (d := 0) W e1).2.wf W
        obtain ⟨g2, e2, r2⟩ := many (by omega)
        exact ⟨g2, fin g1 g2 (-2) e1 e2, y1.tr r2.ss, I1.eq (Nat.le_refl _) (fr g1 g2 _ W1 e2)⟩
end O21
