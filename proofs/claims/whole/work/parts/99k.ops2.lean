/-! CALLS 15, 16, 17: both sides -/
section OR
variable {g g' g1 g2 : xSt} {β n w c v v' p N r : Nat} {mk V ρ : Nat → Nat} {γ : Nat → Int32} {T B : yT} {L : List Nat} {J U a1 a2 a3 a4 a5 a : Int32}
theorem zFr_ss (h : zFr r g g') (hR : xR g' = xR g) : yAg dSS g g' := ⟨hR, fun o k d => h.1.2 o k fun z => d (by unfold dRc at z; unfold dSS; omega)⟩
/-- the reference, behind the class's search -/
theorem r_twoR (hw : w ≤ 1) (W2 : xWf g2) (C2 : Cx g2 β T B) (hg : yGd (T 0 0) a1 a2) (c1 : (yLs B a3 (T 0 0) (T 0 1) 0).length ≤ 120) (hmk : ∀ i, i < (yLs B a3 (T 0 0) (T 0 1) 0).length → mk i = yMk (T 0 0) (yPv (T 0 0) (T 0 1) (yLs B a3 (T 0 0) (T 0 1) 0) i) ∧ γ i = nI (yGc (T 0 0) a1 a2 (yPv (T 0 0) (T 0 1) (yLs B a3 (T 0 0) (T 0 1) 0) i))) : ∃ g3 v a g4, E_X12_layGoal a1 a2 a3 g2 = some (1, g3) ∧ E_X12_solves (nI w) g3 = some (nI v, g4) ∧ (∃ ρ, zRb g4 (T 0 0) (yLs B a3 (T 0 0) (T 0 1) 0).length mk ρ) ∧ xI g4 113 71 = a ∧ zAn2 w (T 0 0) (yLs B a3 (T 0 0) (T 0 1) 0).length mk γ v a := by
  have hn := C2.2.2.2.1
  have ho := C2.2.2.2.2.1
  have hin : yIn (T 0 0) (T 0 1) (yLs B a3 (T 0 0) (T 0 1) 0) := yLs_in hn ho
  obtain ⟨g3, r1, r2, r3, r4, r5⟩ := r_layGoal (a1 := a1) (a2 := a2) (a3 := a3) W2 C2 hg
  obtain ⟨r5, r6⟩ := r5 c1
  rw [if_pos c1] at r1
  have hρ : ∀ i, i < (yLs B a3 (T 0 0) (T 0 1) 0).length → xI g3 146 i = nI (yGr (T 0 0) a1 a2 i (yPv (T 0 0) (T 0 1) (yLs B a3 (T 0 0) (T 0 1) 0) i)) ∧ yGr (T 0 0) a1 a2 i (yPv (T 0 0) (T 0 1) (yLs B a3 (T 0 0) (T 0 1) 0) i) < 100000 := fun j hj => ⟨r6 j hj, by have := yGr_lt hn ho hin hj hg; omega⟩
  have b := zRb_of (ρ := fun i => yGr (T 0 0) a1 a2 i (yPv (T 0 0) (T 0 1) (yLs B a3 (T 0 0) (T 0 1) 0) i)) hn ho hin (fun i hi => (hmk i hi).1) r4 r5 hρ
  have K : zK (T 0 0) (T 0 1) w (yLs B a3 (T 0 0) (T 0 1) 0).length mk (yPv (T 0 0) (T 0 1) (yLs B a3 (T 0 0) (T 0 1) 0)) (fun i => yGr (T 0 0) a1 a2 i (yPv (T 0 0) (T 0 1) (yLs B a3 (T 0 0) (T 0 1) 0) i)) γ := ⟨hn, ho, hw, c1, zVo_ls hn ho hin yUp_ls (fun i hi => (hmk i hi).1), fun i j hi hj => by
    rw [(hmk i hi).2, (hmk j hj).2]
    have b1 := yGc_lt hn ho (hin.2 i hi) hg
    have b2 := yGc_lt hn ho (hin.2 j hj) hg
    exact ((nI_eq (show yGc (T 0 0) a1 a2 (yPv (T 0 0) (T 0 1) (yLs B a3 (T 0 0) (T 0 1) 0) i) < 2 ^ 31 by unfold yPv; omega) (show yGc (T 0 0) a1 a2 (yPv (T 0 0) (T 0 1) (yLs B a3 (T 0 0) (T 0 1) 0) j) < 2 ^ 31 by unfold yPv; omega)).trans (yG_iff hn ho hin yUp_ls hi hj)).symm⟩
  obtain ⟨v, a, g4, s1, s2, s3, s4⟩ := r_solves K b
  exact ⟨g3, v, a, g4, r1, s1, ⟨_, s2⟩, s3, s4⟩
/-- the numbers are one -/
theorem zLW_eq (h : zLW (n * (n - 1) / 2) c mk γ (zSt (zA1 c) (zA2 c)) v) (h' : zAn2 0 n c mk γ v' a) : v = v' := zVl_un (w := 0) ⟨fun _ => h, fun z => absurd rfl z⟩ h'.1
theorem zLT_eq (h : zLT (n * (n - 1) / 2) c mk γ (zSt (zA1 c) (zA2 c)) v) (h' : zAn2 1 n c mk γ v' a) : v = v' := zVl_un (w := 1) ⟨fun z => absurd z (by decide), fun _ => h⟩ h'.1
/-- so are the pairs' -/
theorem zPn_W {x : Int32} (hn : n ≤ 5) (hc : c ≤ 120) (hd : zDif (n * (n - 1) / 2) c mk γ) (ho : zOne (n * (n - 1) / 2) c mk) (h : zLW (n * (n - 1) / 2) c mk γ (zSt (zA1 c) (zA2 c)) v) (hx : zNx n v (zAch (n * (n - 1) / 2) c mk γ (zSt (zA1 c) (zA2 c)) v) x) (h' : zAn2 0 n c mk γ v' a) (hb : zRb g n c mk ρ) (h71 : xI g 113 71 = a) : E_X12_pairNumber g = some x := by
  have hP := (yPs_3 n (by omega)).2.2
  have e := zLW_eq h h'
  subst e
  obtain ⟨p1, p2⟩ := r_pairNumber hn hb
  rcases h'.2 with ⟨al, rfl⟩ | ⟨na, p0, q1, q2, q3, q4, rfl⟩
  · have v0 : v = 0 := by have := h.2 0 al; omega
    rcases hx with ⟨_, z⟩ | ⟨z, _⟩
    · rw [z]; exact p1 h71
    · omega
  · have v0 : 0 < v := by
      rcases Nat.eq_zero_or_pos v with z | z
      · rw [z] at h; exact absurd h.1 na
      · exact z
    rw [zNx_eq (Q := zSp c mk (zSt (zA1 c) (zA2 c))) (f := zPv 0 (n * (n - 1) / 2) c mk γ (zSt (zA1 c) (zA2 c))) hx (fun p hv => zPv_ach hP hc hd ho hv) q1 v0 q2 q3 q4]
    exact p2 p0 q1 h71
theorem zPn_T {x : Int32} (hn : n ≤ 5) (hc : c ≤ 120) (hd : zDif (n * (n - 1) / 2) c mk γ) (ho : zOne (n * (n - 1) / 2) c mk) (h : zLT (n * (n - 1) / 2) c mk γ (zSt (zA1 c) (zA2 c)) v) (hx : zNx n v (zAcS (n * (n - 1) / 2) c mk γ (zSt (zA1 c) (zA2 c)) v) x) (h' : zAn2 1 n c mk γ v' a) (hb : zRb g n c mk ρ) (h71 : xI g 113 71 = a) : E_X12_pairNumber g = some x := by
  have hP := (yPs_3 n (by omega)).2.2
  have e := zLT_eq h h'
  subst e
  obtain ⟨p1, p2⟩ := r_pairNumber hn hb
  rcases h'.2 with ⟨al, rfl⟩ | ⟨na, p0, q1, q2, q3, q4, rfl⟩
  · have v0 : v = 0 := by have := h.2 0 0 al; omega
    rcases hx with ⟨_, z⟩ | ⟨z, _⟩
    · rw [z]; exact p1 h71
    · omega
  · have v0 : 0 < v := by
      rcases Nat.eq_zero_or_pos v with z | z
      · rw [z] at h
        obtain ⟨f, y⟩ := h.1
        have pos : 0 < yCn (zSt (zA1 c) (zA2 c)) c := yCn_pos.mpr (Classical.byContradiction fun y => na fun i j hi hj si sj => absurd ⟨i, hi, si⟩ y)
        have := zTot_one na y
        omega
      · exact z
    rw [zNx_eq (Q := zSp c mk (zSt (zA1 c) (zA2 c))) (f := zPv 1 (n * (n - 1) / 2) c mk γ (zSt (zA1 c) (zA2 c))) hx (fun p hv => zPv_acs hP hc hd ho) q1 v0 q2 q3 q4]
    exact p2 p0 q1 h71
/-- what a search leaves -/
theorem zQ_inv (hn : n ≤ 5) (hJ : J = 0 ∨ J = 1) (hc : c ≤ 120) (hm : ∀ i, i < c → mk i < 2 ^ 30) (hr : 0 < r) (hrN : r ≤ N) (q : zQ r g n J U c mk γ) : I_search N g := zR.inv hn hJ hc hm ⟨r, hr, hrN, q⟩
/-- the frame of such a call, from both sides' -/
theorem zFrames {A1 A2 : List Nat} {B1 B2 : List (Nat × Nat)} (h1 : xFr A1 B1 g g1) (h2 : xFr A2 B2 g1 g2) (k1 : ∀ o k, o ∈ A1 → dSS o k) (k2 : ∀ o k, (o, k) ∈ B1 → dSS o k) (k3 : ∀ o k, o ∈ A2 → dA o k) (k4 : ∀ o k, (o, k) ∈ B2 → dA o k) : yAg dSS g g2 := (yAg_xf h1 k1 k2).tr (yAg_xf h2 k3 k4).ss
theorem op_15 (hN : N < 2 ^ 30) (W : xWf g) (C : Cx g β T B) (q : I_search N g) : ∃ g', O_15 a1 a2 a3 a4 a5 g = some (true, g') ∧ yAg dSS g g' ∧ I_search (N + 1) g' := by
  have hn := C.2.2.2.1
  have hw := C.2.2.2.2.1
  have fin : ∀ (g1 g2 : xSt) (v : Int32), E_X11_fewest a1 a2 a3 g = some (v, g1) → E_X12_fewest a1 a2 a3 g1 = some (v, g2) → I_search (N + 1) g1 → ∃ g', O_15 a1 a2 a3 a4 a5 g = some (true, g') ∧ yAg dSS g g' ∧ I_search (N + 1) g' := fun g1 g2 v h1 h2 hI => by
    have f1 := (e_X11_fewest (d := 0) W h1).2
    have f2 := (e_X12_fewest (d := 0) (f1.wf W) h2).2
    refine ⟨g2, ?_, zFrames f1 f2 (fun o k m => ?_) (fun o k m => ?_) (fun o k m => ?_) (fun o k m => ?_), hI.eq (Nat.le_refl _) (zSame_fr f2 (fun o x y => by simp only [List.mem_cons, List.not_mem_nil, or_false]; omega) (fun o k x y => by simp only [List.mem_cons, List.not_mem_nil, or_false, Prod.mk.injEq]; omega))⟩
    · unfold O_15
      rw [h1, xb2_some, h2, xb2_some, decide_eq_true rfl]
    · simp only [List.mem_cons, List.not_mem_nil, or_false] at m; unfold dSS dA; omega
    · simp only [List.mem_cons, List.not_mem_nil, or_false, Prod.mk.injEq] at m; unfold dSS dA; omega
    · simp only [List.mem_cons, List.not_mem_nil, or_false] at m; unfold dA; omega
    · simp only [List.mem_cons, List.not_mem_nil, or_false, Prod.mk.injEq] at m; unfold dA; omega
  rcases r_prepare (a1 := a1) (a2 := a2) (a3 := a3) W C q with ⟨p1, p2⟩ | ⟨hg, g1, y1, C1, q1, hX⟩
  · refine fin g g (-1) ?_ ?_ (q.eq (Nat.le_succ _) (zSame.refl g))
    · unfold E_X11_fewest
      rw [p1, xb2_some, if_neg (by decide)]
    · unfold E_X12_fewest
      rw [p2, xb1_some, if_pos rfl]
  · rcases hX with ⟨c1, p1, p2⟩ | ⟨c1, p1, mk, γ, hmk, hR⟩
    · have e1 : E_X11_fewest a1 a2 a3 g = some (-2, g1) := by
        unfold E_X11_fewest
        rw [p1, xb2_some, if_neg (by decide)]
      have W1 := (e_X11_fewest (d := 0) W e1).2.wf W
      obtain ⟨g2, r1, r2, r3, r4, r5⟩ := r_layGoal (a1 := a1) (a2 := a2) (a3 := a3) W1 C1 hg
      rw [if_neg (by omega)] at r1
      refine fin g1 g2 (-2) e1 ?_ (q.eq (Nat.le_succ _) p2)
      unfold E_X12_fewest
      rw [(r_hasGoal1 C1 hg).2, xb1_some, if_neg (by decide), r1, xb2_some, if_pos rfl]
    · obtain ⟨u0, H⟩ := zH_ls hn hw C.2.2.1.1 hg c1 hmk
      obtain ⟨r, hr0, hrN, Q⟩ := hR
      obtain ⟨v, g2, s1, s2, s3, -, s5⟩ := r_fewestOfAll hr0 (by omega) H Q
      have e1 : E_X11_fewest a1 a2 a3 g = some (nI v, g2) := by
        unfold E_X11_fewest
        rw [p1, xb2_some, if_pos rfl, s1, xb2_some]
      have f1 := (e_X11_fewest (d := 0) W e1).2
      have W2 := f1.wf W
      have C2 := C1.ss (zFr_ss s3 s3.1.1)
      obtain ⟨g3, v', a, g4, t1, t2, -, -, t5⟩ := r_twoR (w := 0) (by omega) W2 C2 hg c1 hmk
      have t2 : E_X12_solves 0 g3 = some (nI v', g4) := t2
      refine fin g2 g4 (nI v) e1 ?_ (zQ_inv hn H.2.2.2.2.2.2.1 c1 H.2.2.1 hr0 hrN s2)
      unfold E_X12_fewest
      rw [(r_hasGoal1 C2 hg).2, xb1_some, if_neg (by decide), t1, xb2_some, if_neg (by decide), t2, xb2_some, zLW_eq s5 t5]
theorem op_16 (hN : N < 2 ^ 30) (W : xWf g) (C : Cx g β T B) (q : I_search N g) : ∃ g', O_16 a1 a2 a3 a4 a5 g = some (true, g') ∧ yAg dSS g g' ∧ I_search (N + 1) g' := by
  have hn := C.2.2.2.1
  have hw := C.2.2.2.2.1
  have fin : ∀ (g1 g2 : xSt) (v : Int32), E_X11_next a1 a2 a3 g = some (v, g1) → E_X12_next a1 a2 a3 g1 = some (v, g2) → I_search (N + 1) g1 → ∃ g', O_16 a1 a2 a3 a4 a5 g = some (true, g') ∧ yAg dSS g g' ∧ I_search (N + 1) g' := fun g1 g2 v h1 h2 hI => by
    have f1 := (e_X11_next (d := 0) W h1).2
    have f2 := (e_X12_next (d := 0) (f1.wf W) h2).2
    refine ⟨g2, ?_, zFrames f1 f2 (fun o k m => ?_) (fun o k m => ?_) (fun o k m => ?_) (fun o k m => ?_), hI.eq (Nat.le_refl _) (zSame_fr f2 (fun o x y => by simp only [List.mem_cons, List.not_mem_nil, or_false]; omega) (fun o k x y => by simp only [List.mem_cons, List.not_mem_nil, or_false, Prod.mk.injEq]; omega))⟩
    · unfold O_16
      rw [h1, xb2_some, h2, xb2_some, decide_eq_true rfl]
    · simp only [List.mem_cons, List.not_mem_nil, or_false] at m; unfold dSS dA; omega
    · simp only [List.mem_cons, List.not_mem_nil, or_false, Prod.mk.injEq] at m; unfold dSS dA; omega
    · simp only [List.mem_cons, List.not_mem_nil, or_false] at m; unfold dA; omega
    · simp only [List.mem_cons, List.not_mem_nil, or_false, Prod.mk.injEq] at m; unfold dA; omega
  rcases r_prepare (a1 := a1) (a2 := a2) (a3 := a3) W C q with ⟨p1, p2⟩ | ⟨hg, g1, y1, C1, q1, hX⟩
  · refine fin g g (-1) ?_ ?_ (q.eq (Nat.le_succ _) (zSame.refl g))
    · unfold E_X11_next
      rw [p1, xb2_some, if_neg (by decide)]
    · unfold E_X12_next
      rw [p2, xb1_some, if_pos rfl]
  · rcases hX with ⟨c1, p1, p2⟩ | ⟨c1, p1, mk, γ, hmk, hR⟩
    · have e1 : E_X11_next a1 a2 a3 g = some (-2, g1) := by
        unfold E_X11_next
        rw [p1, xb2_some, if_neg (by decide)]
      have W1 := (e_X11_next (d := 0) W e1).2.wf W
      obtain ⟨g2, r1, r2, r3, r4, r5⟩ := r_layGoal (a1 := a1) (a2 := a2) (a3 := a3) W1 C1 hg
      rw [if_neg (by omega)] at r1
      refine fin g1 g2 (-2) e1 ?_ (q.eq (Nat.le_succ _) p2)
      unfold E_X12_next
      rw [(r_hasGoal1 C1 hg).2, xb1_some, if_neg (by decide), r1, xb2_some, if_pos rfl]
    · obtain ⟨u0, H⟩ := zH_ls hn hw C.2.2.1.1 hg c1 hmk
      obtain ⟨r, hr0, hrN, Q⟩ := hR
      obtain ⟨v, x, g2, s1, s2, s3, s5, s6⟩ := r_nextOfFewest hr0 (by omega) H Q
      have e1 : E_X11_next a1 a2 a3 g = some (x, g2) := by
        unfold E_X11_next
        rw [p1, xb2_some, if_pos rfl, s1, xb2_some]
      have f1 := (e_X11_next (d := 0) W e1).2
      have W2 := f1.wf W
      have C2 := C1.ss (zFr_ss s3 s3.1.1)
      obtain ⟨g3, v', a, g4, t1, t2, ⟨ρ, t3⟩, t4, t5⟩ := r_twoR (w := 0) (by omega) W2 C2 hg c1 hmk
      have t2 : E_X12_solves 0 g3 = some (nI v', g4) := t2
      refine fin g2 g4 x e1 ?_ (zQ_inv hn H.2.2.2.2.2.2.1 c1 H.2.2.1 hr0 hrN s2)
      unfold E_X12_next
      rw [(r_hasGoal1 C2 hg).2, xb1_some, if_neg (by decide), t1, xb2_some, if_neg (by decide), t2, xb2_some, zPn_W hn c1 H.2.2.2.2.1 H.2.2.2.1 s5 s6 t5 t3 t4, xb1_some]
theorem r_01 {x : Int32} (h1 : ¬ x < 0) (h2 : ¬ 1 < x) : x = 0 ∨ x = 1 := by
  rw [Int32.lt_iff_toInt_lt, show (0 : Int32).toInt = 0 from rfl] at h1
  rw [Int32.lt_iff_toInt_lt, show (1 : Int32).toInt = 1 from rfl] at h2
  have : x.toInt = 0 ∨ x.toInt = 1 := by omega
  exact this.imp (fun e => Int32.toInt_inj.mp (by rw [e]; rfl)) (fun e => Int32.toInt_inj.mp (by rw [e]; rfl))
theorem op_17 (hN : N < 2 ^ 30) (W : xWf g) (C : Cx g β T B) (q : I_search N g) : ∃ g', O_17 a1 a2 a3 a4 a5 g = some (true, g') ∧ yAg dSS g g' ∧ I_search (N + 1) g' := by
  have hn := C.2.2.2.1
  have hw := C.2.2.2.2.1
  have fin : ∀ (g1 g2 : xSt) (v : Int32), E_X11_total a1 a2 a3 a4 g = some (v, g1) → E_X12_total a1 a2 a3 a4 g1 = some (v, g2) → I_search (N + 1) g1 → ∃ g', O_17 a1 a2 a3 a4 a5 g = some (true, g') ∧ yAg dSS g g' ∧ I_search (N + 1) g' := fun g1 g2 v h1 h2 hI => by
    have f1 := (e_X11_total (d := 0) W h1).2
    have f2 := (e_X12_total (d := 0) (f1.wf W) h2).2
    refine ⟨g2, ?_, zFrames f1 f2 (fun o k m => ?_) (fun o k m => ?_) (fun o k m => ?_) (fun o k m => ?_), hI.eq (Nat.le_refl _) (zSame_fr f2 (fun o x y => by simp only [List.mem_cons, List.not_mem_nil, or_false]; omega) (fun o k x y => by simp only [List.mem_cons, List.not_mem_nil, or_false, Prod.mk.injEq]; omega))⟩
    · unfold O_17
      rw [h1, xb2_some, h2, xb2_some, decide_eq_true rfl]
    · simp only [List.mem_cons, List.not_mem_nil, or_false] at m; unfold dSS dA; omega
    · simp only [List.mem_cons, List.not_mem_nil, or_false, Prod.mk.injEq] at m; unfold dSS dA; omega
    · simp only [List.mem_cons, List.not_mem_nil, or_false] at m; unfold dA; omega
    · simp only [List.mem_cons, List.not_mem_nil, or_false, Prod.mk.injEq] at m; unfold dA; omega
  rcases r_in01 (a1 := a3) (g := g) with ⟨i1, i2⟩ | ⟨i1, i2, i3⟩
  · refine fin g g (-1) ?_ ?_ (q.eq (Nat.le_succ _) (zSame.refl g))
    · unfold E_X11_total
      rcases i2 with z | z
      · rw [if_pos z]
      · by_cases y : a3 < 0
        · rw [if_pos y]
        · rw [if_neg y, if_neg (fun u => absurd z (Int32.not_lt.mpr u))]
    · unfold E_X12_total
      rcases r_hasGoal0 (a1 := a1) (a2 := a2) C with ⟨_, h⟩ | h
      · rw [h, xb1_some, if_pos rfl]
      · rw [(r_hasGoal1 C h).2, xb1_some, if_neg (by decide), if_pos i1]
  · have a01 := r_01 i2 i3
    have le1 : a3 ≤ 1 := Int32.not_lt.mp i3
    have i4 : ∀ h : xSt, ¬ F_X12_isIn h a3 0 1 = 0 := fun h => by rw [r_isInG (g := g), i1]; decide
    rcases r_prepare (a1 := a1) (a2 := a2) (a3 := a4) W C q with ⟨p1, p2⟩ | ⟨hg, g1, y1, C1, q1, hX⟩
    · refine fin g g (-1) ?_ ?_ (q.eq (Nat.le_succ _) (zSame.refl g))
      · unfold E_X11_total
        rw [if_neg i2, if_pos le1, p1, xb2_some, if_neg (by decide)]
      · unfold E_X12_total
        rw [p2, xb1_some, if_pos rfl]
    · rcases hX with ⟨c1, p1, p2⟩ | ⟨c1, p1, mk, γ, hmk, hR⟩
      · have e1 : E_X11_total a1 a2 a3 a4 g = some (-2, g1) := by
          unfold E_X11_total
          rw [if_neg i2, if_pos le1, p1, xb2_some, if_neg (by decide)]
        have W1 := (e_X11_total (d := 0) W e1).2.wf W
        obtain ⟨g2, r1, r2, r3, r4, r5⟩ := r_layGoal (a1 := a1) (a2 := a2) (a3 := a4) W1 C1 hg
        rw [if_neg (by omega)] at r1
        refine fin g1 g2 (-2) e1 ?_ (q.eq (Nat.le_succ _) p2)
        unfold E_X12_total
        rw [(r_hasGoal1 C1 hg).2, xb1_some, if_neg (by decide), if_neg (i4 _), r1, xb2_some, if_pos rfl]
      · obtain ⟨u0, H⟩ := zH_ls hn hw C.2.2.1.1 hg c1 hmk
        obtain ⟨r, hr0, hrN, Q⟩ := hR
        by_cases z : a3 = 0
        · obtain ⟨v, g2, s1, s2, s3, -, s5⟩ := r_sumOfAll hr0 (by omega) H Q
          have e1 : E_X11_total a1 a2 a3 a4 g = some (nI v, g2) := by
            unfold E_X11_total
            rw [if_neg i2, if_pos le1, p1, xb2_some, if_pos rfl, if_pos z, s1, xb2_some]
          have f1 := (e_X11_total (d := 0) W e1).2
          have W2 := f1.wf W
          have C2 := C1.ss (zFr_ss s3 s3.1.1)
          obtain ⟨g3, v', a, g4, t1, t2, -, -, t5⟩ := r_twoR (w := 1) (by omega) W2 C2 hg c1 hmk
          have t2 : E_X12_solves 1 g3 = some (nI v', g4) := t2
          refine fin g2 g4 (nI v) e1 ?_ (zQ_inv hn H.2.2.2.2.2.2.1 c1 H.2.2.1 hr0 hrN s2)
          unfold E_X12_total
          rw [(r_hasGoal1 C2 hg).2, xb1_some, if_neg (by decide), if_neg (i4 _), t1, xb2_some, if_neg (by decide), t2, xb2_some, if_pos z, zLT_eq s5 t5]
        · obtain ⟨v, x, g2, s1, s2, s3, s5, s6⟩ := r_nextOfSum hr0 (by omega) H Q
          have e1 : E_X11_total a1 a2 a3 a4 g = some (x, g2) := by
            unfold E_X11_total
            rw [if_neg i2, if_pos le1, p1, xb2_some, if_pos rfl, if_neg z, s1, xb2_some]
          have f1 := (e_X11_total (d := 0) W e1).2
          have W2 := f1.wf W
          have C2 := C1.ss (zFr_ss s3 s3.1.1)
          obtain ⟨g3, v', a, g4, t1, t2, ⟨ρ, t3⟩, t4, t5⟩ := r_twoR (w := 1) (by omega) W2 C2 hg c1 hmk
          have t2 : E_X12_solves 1 g3 = some (nI v', g4) := t2
          refine fin g2 g4 x e1 ?_ (zQ_inv hn H.2.2.2.2.2.2.1 c1 H.2.2.1 hr0 hrN s2)
          unfold E_X12_total
          rw [(r_hasGoal1 C2 hg).2, xb1_some, if_neg (by decide), if_neg (i4 _), t1, xb2_some, if_neg (by decide), t2, xb2_some, if_neg z, zPn_T hn c1 H.2.2.2.2.1 H.2.2.2.1 s5 s6 t5 t3 t4, xb1_some]
end OR
