/-! call 18 -/
section O18
variable {g g' : xSt} {β n w c o M P N : Nat} {T B : yT} {L : List Nat} {mk : Nat → Nat} {γ : Nat → Int32} {a1 a2 a3 a4 a5 : Int32}
theorem zLt_bit {s b : Nat} (hs : s < 2 ^ P) (h : s.testBit b = true) : b < P := Classical.byContradiction fun z => by
  have : s < 2 ^ b := Nat.lt_of_lt_of_le hs (Nat.pow_le_pow_right (by decide) (by omega))
  rw [Nat.testBit_lt_two_pow this] at h
  exact absurd h (by decide)
theorem zAll_bit {s b : Nat} : ((2 ^ P - 1) ^^^ s).testBit b = (decide (b < P) != s.testBit b) := by rw [Nat.testBit_xor, Nat.testBit_two_pow_sub_one]
/-- both sides ask the same of a set -/
theorem r_onceEq {ρ : Nat → Nat} (hn : n ≤ 5) (hc : L.length = c) (hm : ∀ i, i < c → mk i = yMk n (yPv n w L i)) (hg : ∀ i j, i < c → j < c → (γ i = γ j ↔ ρ i = ρ j)) {s : Nat} (hs : s < 2 ^ (n * (n - 1) / 2)) : (¬ zV (zBs (fun i j => zXr (mk i ^^^ mk j)) γ c) (n * (n - 1) / 2) ((2 ^ (n * (n - 1) / 2) - 1) ^^^ s)) ↔ ¬ zDn (zRs (zX n w L) ρ (n * (n - 1) / 2) L.length) (2 ^ (n * (n - 1) / 2)) s := by
  have hP := (yPs_3 n (by omega)).2.2
  have hX : ∀ i j, i < c → j < c → zXr (mk i ^^^ mk j) = zX n w L i j := fun i j h1 h2 => by rw [hm i h1, hm j h2]; rfl
  have hlt : ∀ i j, zX n w L i j < 2 ^ (n * (n - 1) / 2) := fun i j => zX_lt2 hn
  refine not_congr ((zV_sub _ _).trans ⟨fun ⟨X, ⟨i, j, h1, h2, h3, h4⟩, h5, h6⟩ => ?_, fun ⟨Y, ⟨i, j, h1, h2, h3, h4⟩, h5, h6⟩ => ?_⟩)
  · have e : X = zX n w L i j := by rw [← h4]; exact hX i j h1 (by omega)
    refine ⟨(2 ^ (n * (n - 1) / 2) - 1) ^^^ zX n w L i j, ⟨i, j, by omega, h2, fun z => h3 ((hg i j h1 (by omega)).mpr z), rfl⟩, Nat.xor_lt_two_pow (by omega) (hlt i j), fun b z => ?_⟩
    have hb := zLt_bit hs z
    rw [zAll_bit, decide_eq_true hb]
    by_cases d : (zX n w L i j).testBit b = true
    · have := h5 b (e ▸ d)
      rw [zAll_bit, decide_eq_true hb, z] at this
      exact absurd this (by decide)
    · rw [Bool.eq_false_iff.mpr d]; rfl
  · refine ⟨zX n w L i j, ⟨i, j, by omega, h2, fun z => h3 ((hg i j (by omega) (by omega)).mp z), hX i j (by omega) (by omega)⟩, fun b z => ?_, fun b hb => ?_⟩
    · have hb := zLt_bit (hlt i j) z
      rw [zAll_bit, decide_eq_true hb]
      by_cases d : s.testBit b = true
      · have := h6 b d
        rw [← h4, zAll_bit, decide_eq_true hb, z] at this
        exact absurd this (by decide)
      · rw [Bool.eq_false_iff.mpr d]; rfl
    · rw [zAll_bit, decide_eq_false (by omega)]
      by_cases d : s.testBit b = true
      · have := zLt_bit hs d; omega
      · by_cases e : (zX n w L i j).testBit b = true
        · have := zLt_bit (hlt i j) e; omega
        · rw [Bool.eq_false_iff.mpr d, Bool.eq_false_iff.mpr e]; rfl
theorem zSame.tr {g g1 g2 : xSt} (h : zSame g g1) (h2 : zSame g1 g2) : zSame g g2 := fun o a b k => ⟨(h2 o a b k).1.trans (h o a b k).1, (h2 o a b k).2.trans (h o a b k).2⟩
theorem zSame.refl (g : xSt) : zSame g g := fun _ _ _ _ => ⟨rfl, rfl⟩
theorem op_18 (W : xWf g) (C : Cx g β T B) (q : I_search N g) : ∃ g', O_18 a1 a2 a3 a4 a5 g = some (true, g') ∧ yAg dSS g g' ∧ I_search (N + 1) g' := by
  have hn := C.2.2.2.1
  have hw := C.2.2.2.2.1
  have fin : ∀ (g1 g2 : xSt) (v : Int32), E_X11_atOnce a1 a2 a3 g = some (v, g1) → E_X12_atOnce a1 a2 a3 g1 = some (v, g2) → O_18 a1 a2 a3 a4 a5 g = some (true, g2) := fun g1 g2 v h1 h2 => by
    unfold O_18
    rw [h1, xb2_some, h2, xb2_some, decide_eq_true rfl]
  rcases r_prepare (a1 := a1) (a2 := a2) (a3 := a3) W C q with ⟨p1, p2⟩ | ⟨hg, g1, y1, C1, q1, hX⟩
  · refine ⟨g, fin g g (-1) ?_ ?_, yAg.refl _ _, q.eq (Nat.le_succ _) (zSame.refl g)⟩
    · unfold E_X11_atOnce
      rw [p1, xb2_some, if_neg (by decide)]
    · unfold E_X12_atOnce
      rw [p2, xb1_some, if_pos rfl]
  · have hin : yIn (T 0 0) (T 0 1) (yLs B a3 (T 0 0) (T 0 1) 0) := yLs_in hn hw
    have hlen := hin.1
    rcases hX with ⟨c1, p1, p2⟩ | ⟨c1, p1, mk, γ, hmk, hR⟩
    · have e1 : E_X11_atOnce a1 a2 a3 g = some (-2, g1) := by
        unfold E_X11_atOnce
        rw [p1, xb2_some, if_neg (by decide)]
      have W1 := (e_X11_atOnce (d := 0) W e1).2.wf W
      obtain ⟨g2, r1, r2, r3, r4, r5⟩ := r_layGoal (a1 := a1) (a2 := a2) (a3 := a3) W1 C1 hg
      rw [if_neg (by omega)] at r1
      refine ⟨g2, fin g1 g2 (-2) e1 ?_, y1.tr r2.ss, q.eq (Nat.le_succ _) (p2.tr r3)⟩
      unfold E_X12_atOnce
      rw [(r_hasGoal1 C1 hg).2, xb1_some, if_neg (by decide), r1, xb2_some, if_pos rfl]
    · obtain ⟨r, hr0, hrN, ⟨l1, l2, l3, l4, l5⟩, hCo, h15, hF, hM⟩ := id hR
      have mlt : ∀ i, i < (yLs B a3 (T 0 0) (T 0 1) 0).length → mk i < 2 ^ 30 := fun i h => by rw [(hmk i h).1]; exact (yOr_chk hn hw (hin.2 i h)).1
      have hJ : zJ (T 0 1) a1 = 0 ∨ zJ (T 0 1) a1 = 1 := by unfold zJ; split <;> (try split) <;> (try split) <;> simp
      have I1 : I_search (N + 1) g1 := hR.inv hn hJ c1 mlt
      obtain ⟨g2, s1, s2, s3⟩ := r_fewestPairs hn c1 l4 l1 mlt l5
      have sm12 : zSame g1 g2 := fun o a b k => ⟨s2.2 o k (by unfold d89; omega), by rw [s3]⟩
      obtain ⟨v1, hv1⟩ : ∃ v, v = zO (zLs (fun s => ¬ zV (zBs (fun i j => zXr (mk i ^^^ mk j)) γ (yLs B a3 (T 0 0) (T 0 1) 0).length) (T 0 0 * (T 0 0 - 1) / 2) ((2 ^ (T 0 0 * (T 0 0 - 1) / 2) - 1) ^^^ s)) (2 ^ (T 0 0 * (T 0 0 - 1) / 2))) := ⟨_, rfl⟩
      rw [← hv1] at s1
      have e1 : E_X11_atOnce a1 a2 a3 g = some (v1, g2) := by
        unfold E_X11_atOnce
        rw [p1, xb2_some, if_pos rfl, s1, xb2_some]
      have W2 := (e_X11_atOnce (d := 0) W e1).2.wf W
      have y12 : yAg dSS g1 g2 := s2.up (fun o k h => Or.inl ((by unfold d89 at h; unfold dA; omega)))
      have C2 := C1.ss y12
      obtain ⟨g3, t1, t2, t3, t4, t5⟩ := r_layGoal (a1 := a1) (a2 := a2) (a3 := a3) W2 C2 hg
      obtain ⟨t5, t6⟩ := t5 c1
      rw [if_pos c1] at t1
      have C3 := C2.as t2.A
      obtain ⟨e5, e6, e7, u1, u2, u3, u4, u5⟩ := r_onceR (ρ := fun j => yGr (T 0 0) a1 a2 j (yPv (T 0 0) (T 0 1) (yLs B a3 (T 0 0) (T 0 1) 0) j)) C3.2.2.2 t4 hin t5.1 (fun j hj => ⟨t6 j hj, by have := yGr_lt hn hw hin hj hg; omega⟩)
      have vE : zLs (fun s => ¬ zV (zBs (fun i j => zXr (mk i ^^^ mk j)) γ (yLs B a3 (T 0 0) (T 0 1) 0).length) (T 0 0 * (T 0 0 - 1) / 2) ((2 ^ (T 0 0 * (T 0 0 - 1) / 2) - 1) ^^^ s)) (2 ^ (T 0 0 * (T 0 0 - 1) / 2)) = zLs (fun s => ¬ zDn (zRs (zX (T 0 0) (T 0 1) (yLs B a3 (T 0 0) (T 0 1) 0)) (fun j => yGr (T 0 0) a1 a2 j (yPv (T 0 0) (T 0 1) (yLs B a3 (T 0 0) (T 0 1) 0) j)) (T 0 0 * (T 0 0 - 1) / 2) (yLs B a3 (T 0 0) (T 0 1) 0).length) (2 ^ (T 0 0 * (T 0 0 - 1) / 2)) s) (2 ^ (T 0 0 * (T 0 0 - 1) / 2)) := zLs_congr _ fun s hs => r_onceEq hn rfl (fun i hi => (hmk i hi).1) (fun i j hi hj => by
        rw [(hmk i hi).2, (hmk j hj).2]
        have b1 := yGc_lt hn hw (hin.2 i hi) hg
        have b2 := yGc_lt hn hw (hin.2 j hj) hg
        exact (nI_eq (show yGc (T 0 0) a1 a2 (yPv (T 0 0) (T 0 1) (yLs B a3 (T 0 0) (T 0 1) 0) i) < 2 ^ 31 by unfold yPv; omega) (show yGc (T 0 0) a1 a2 (yPv (T 0 0) (T 0 1) (yLs B a3 (T 0 0) (T 0 1) 0) j) < 2 ^ 31 by unfold yPv; omega)).trans (yG_iff hn hw hin yUp_ls hi hj)) hs
      have e2 : E_X12_atOnce a1 a2 a3 g2 = some (v1, e7) := by
        unfold E_X12_atOnce
        rw [(r_hasGoal1 C2 hg).2, xb1_some, if_neg (by decide), t1, xb2_some, if_neg (by decide), u1, xb1_some, u2, xb1_some, u3, xb1_some, u4, xb1_some, hv1, vE]
      have fr2 := (e_X12_atOnce (d := 0) W2 e2).2
      refine ⟨e7, fin g2 e7 _ e1 e2, (y1.tr y12).tr (t2.ss.tr (u5.up (fun o k h => Or.inl ((by unfold d164 at h; unfold dA; omega))))), I1.eq (Nat.le_refl _) (sm12.tr (zSame_fr fr2 (fun o x y => by simp only [List.mem_cons, List.not_mem_nil, or_false]; omega) (fun o k x y => by simp only [List.mem_cons, List.not_mem_nil, or_false, Prod.mk.injEq]; omega)))⟩
end O18
