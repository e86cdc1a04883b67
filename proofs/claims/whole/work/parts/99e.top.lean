/-! THE SEARCH: the least of all, the first pair -/
section TP
variable {g g' g1 : xSt} {n c r N lo hi k x x0 u0 P p d l : Nat} {mk : Nat → Nat} {γ : Nat → Int32} {J U : Int32} {S : Nat → Bool}
theorem zSu_lt : zSu mk c P < 2 ^ P := by
  have p0 := Nat.two_pow_pos P
  unfold zSu
  split
  · omega
  · exact Nat.lt_of_le_of_lt Nat.and_le_right (by omega)
theorem zSu_bit (hP : P ≤ 10) (hc : 0 < c) {q : Nat} (hq : q < P) : (zSu mk c P).testBit q = true ↔ ∃ s, s < 3 ∧ ∀ i, i < c → (mk i).testBit (10 * s + q) = true := by
  unfold zSu
  rw [if_neg (show ¬ c = 0 by omega), Nat.testBit_and, Nat.testBit_two_pow_sub_one, decide_eq_true hq, Bool.and_true, zXr_bit]
  refine ⟨fun ⟨_, s, hs, z⟩ => ⟨s, hs, (zAn_bit (by omega) c).mp z⟩, fun ⟨s, hs, z⟩ => ⟨by omega, s, hs, (zAn_bit (by omega) c).mpr z⟩⟩
def zA1 (c : Nat) : Nat := 2 ^ min c 60 - 1
def zA2 (c : Nat) : Nat := 2 ^ (c - 60) - 1
theorem zCl_0 (hP : P ≤ 10) (hc : c ≤ 120) : zCl P c mk (zSu mk c P) (zSu mk c P) (zSt (zA1 c) (zA2 c)) := by
  refine ⟨zSu_lt, fun _ _ z => z, ?_⟩
  rcases Nat.eq_zero_or_pos c with e | e
  · exact ⟨fun _ => 0, fun _ _ => (by decide : 0 < 3), fun i hi => absurd hi (by omega)⟩
  · have ex : ∀ q, ∃ s, s < 3 ∧ (q < P → (zSu mk c P).testBit q = true → ∀ i, i < c → (mk i).testBit (10 * s + q) = true) := fun q => by
      by_cases z : q < P ∧ (zSu mk c P).testBit q = true
      · obtain ⟨s, hs, y⟩ := (zSu_bit hP e z.1).mp z.2
        exact ⟨s, hs, fun _ _ => y⟩
      · exact ⟨0, by decide, fun a b => absurd ⟨a, b⟩ z⟩
    refine ⟨fun q => Classical.choose (ex q), fun q _ => (Classical.choose_spec (ex q)).1, fun i hi => ⟨fun _ q hq z => (Classical.choose_spec (ex q)).2 hq z i hi, fun _ => ?_⟩⟩
    show zSt (2 ^ min c 60 - 1) (2 ^ (c - 60) - 1) i = true
    rw [zSt_all hc, decide_eq_true hi]
/-- the need -/
def zLW (P c : Nat) (mk : Nat → Nat) (γ : Nat → Int32) (S : Nat → Bool) (v : Nat) : Prop := zCan P c mk γ v S ∧ ∀ k, zCan P c mk γ k S → v ≤ k
def zLT (P c : Nat) (mk : Nat → Nat) (γ : Nat → Int32) (S : Nat → Bool) (v : Nat) : Prop := (∃ f, zTot P c mk γ f v S) ∧ ∀ f k, zTot P c mk γ f k S → v ≤ k
/-- what all four stand on -/
theorem r_sp (H : zH n c mk γ J U u0 (zSu mk c (n * (n - 1) / 2))) (q : zQ r g n J U c mk γ) : E_X8_surePairs g = some (nI (zSu mk c (n * (n - 1) / 2))) ∧ F_X8_allLow g = nL (zA1 c) ∧ F_X8_allHigh g = nL (zA2 c) := ⟨r_surePairs H.1 H.2.1 q.1.2.2.2.1 q.1.1 H.2.2.1 (fun i hi => (q.1.2.2.2.2 i hi).1), (r_allLow H.2.1 q.1.2.2.2.1).1, (r_allLow H.2.1 q.1.2.2.2.1).2⟩
def zlm (t : Nat) : Int32 := if t = 0 then -1 else nI (t - 1)
theorem zlm_1 (t : Nat) : zlm t + 1 = nI t := by
  unfold zlm
  by_cases e : t = 0
  · rw [if_pos e, e]; rfl
  · rw [if_neg e, nI_1]; congr 1; omega
theorem r_fewestOfAll (hr : 0 < r) (hr2 : r < 2 ^ 31) (H : zH n c mk γ J U u0 (zSu mk c (n * (n - 1) / 2))) (q : zQ r g n J U c mk γ) : ∃ v g', E_X8_fewestOfAll g = some (nI v, g') ∧ zQ r g' n J U c mk γ ∧ zFr r g g' ∧ v ≤ 10 ∧ zLW (n * (n - 1) / 2) c mk γ (zSt (zA1 c) (zA2 c)) v := by
  have hP := (yPs_3 n (by have := H.1; omega)).2.2
  have hI := zIn_all H.2.1
  have h0 := zCl_0 (mk := mk) hP H.2.1
  have need : zCan (n * (n - 1) / 2) c mk γ 10 (zSt (zA1 c) (zA2 c)) := zCan_le (zCan_ex H.2.2.2.2.1 H.2.2.2.1 _) hP
  have key : ∀ m t W g, m + t = 10 → zQ r g n J U c mk γ → ¬ W ≤ zlm t → ∃ v g', xlim S_X8_fewestOfAll_4 (W, zlm t, g) = some (nI v, g') ∧ zQ r g' n J U c mk γ ∧ zFr r g g' ∧ v ≤ 10 ∧ zLW (n * (n - 1) / 2) c mk γ (zSt (zA1 c) (zA2 c)) v := by
    have one : ∀ t W g, t ≤ 10 → zQ r g n J U c mk γ → ¬ W ≤ zlm t → ∃ v g', xlim S_X8_fewestOfAll_4 (W, zlm t, g) = xlim S_X8_fewestOfAll_4 (nI v, zlm (t + 1), g') ∧ zQ r g' n J U c mk γ ∧ zFr r g g' ∧ v ≤ 1000000 ∧ zWw (n * (n - 1) / 2) c mk γ (zSt (zA1 c) (zA2 c)) t v := fun t W g ht q hW => by
      obtain ⟨s1, s2, s3⟩ := r_sp H q
      obtain ⟨v, g', r1, r2, r3, r4, r5⟩ := r_worstR hr hr2 H 14 0 (by omega) _ _ _ t g q hI h0 (Nat.zero_le _) (by omega)
      refine ⟨v, g', xlim_go ?_, r2, r3, r4, r5⟩
      have n12 : ¬ (12 : Int32) < zlm t := by
        unfold zlm
        by_cases e : t = 0
        · rw [if_pos e]; decide
        · rw [if_neg e, show (12 : Int32) = nI 12 from rfl, nI_ltI (by decide) (by omega)]; omega
      have r1 : R_X8_worst 14 (nL (zA1 c)) (nL (zA2 c)) (nI (zSu mk c (n * (n - 1) / 2))) (nI t) 0 g = some (nI v, g') := r1
      unfold S_X8_fewestOfAll_4
      simp only [if_neg hW, if_neg n12, s1, s2, s3, xb1_some, zlm_1, r1, xb2_some]
      rfl
    intro m
    induction m with
    | zero =>
      intro t W g ht q hW
      have : t = 10 := by omega
      subst this
      obtain ⟨v, g', o1, o2, o3, o4, o5⟩ := one 10 W g (by omega) q hW
      have v10 := o5.1 10 need
      refine ⟨v, g', ?_, o2, o3, v10, o5.2 v10, o5.1⟩
      rw [o1]
      refine xlim_end ?_
      unfold S_X8_fewestOfAll_4
      simp only [if_pos (show nI v ≤ zlm (10 + 1) from nI_le v10 (by decide))]
    | succ m ih =>
      intro t W g ht q hW
      obtain ⟨v, g', o1, o2, o3, o4, o5⟩ := one t W g (by omega) q hW
      rw [o1]
      by_cases e : v ≤ t
      · refine ⟨v, g', xlim_end ?_, o2, o3, by omega, o5.2 e, o5.1⟩
        unfold S_X8_fewestOfAll_4
        have : nI v ≤ zlm (t + 1) := by
          unfold zlm
          rw [if_neg (by omega), show t + 1 - 1 = t by omega]
          exact nI_le e (by omega)
        simp only [if_pos this]
      · have hW' : ¬ nI v ≤ zlm (t + 1) := by
          unfold zlm
          rw [if_neg (by omega), show t + 1 - 1 = t by omega]
          exact nI_ge (by omega) (by omega)
        obtain ⟨v2, g2, i1, i2, i3, i4⟩ := ih (t + 1) (nI v) g' (by omega) o2 hW'
        exact ⟨v2, g2, i1, i2, o3.tr i3, i4⟩
  obtain ⟨v, g', k1, k2, k3, k4⟩ := key 10 0 0 g (by omega) q (by decide)
  refine ⟨v, g', ?_, k2, k3, k4⟩
  unfold E_X8_fewestOfAll
  rw [show ((0 : Int32), (-1 : Int32), g) = (0, zlm 0, g) from rfl, k1, xb1_some]
/-- a pair by which the need is kept -/
def zAch (P c : Nat) (mk : Nat → Nat) (γ : Nat → Int32) (S : Nat → Bool) (v p : Nat) : Prop := zSp c mk S p ∧ ∀ s, s < 3 → zCan P c mk γ (v - 1) (zPt mk S p s)
def zAcS (P c : Nat) (mk : Nat → Nat) (γ : Nat → Int32) (S : Nat → Bool) (v p : Nat) : Prop := zSp c mk S p ∧ ∃ t : Nat → Nat, yCn S c + (t 0 + t 1 + t 2) ≤ v ∧ ∀ s, s < 3 → ∃ f, zTot P c mk γ f (t s) (zPt mk S p s)
/-- the first such pair's number; none for 0 -/
def zNx (n : Nat) (v : Nat) (A : Nat → Prop) (a : Int32) : Prop := (v = 0 ∧ a = -1) ∨ (0 < v ∧ ∃ p, p < n * (n - 1) / 2 ∧ A p ∧ (∀ p', p' < p → ¬ A p') ∧ a = nI (10 * (zAB n p).1 + (zAB n p).2))
theorem zWb_ach {v w : Nat} (hl : zLW P c mk γ S w) (hw : 0 < w) (h : zWb P c mk γ S p w v) : v ≤ w ↔ zAch P c mk γ S w p := by
  constructor
  · intro z
    have e := h.2.2 z
    have v0 := h.2.1
    refine ⟨fun s hs => Classical.byContradiction fun y => ?_, fun s hs => zCan_le (e s hs) (by omega)⟩
    have := hl.2 (v - 1) (zCan_sub (fun i hi si => zPt_bit.mpr ⟨si, Classical.byContradiction fun u => y ⟨i, hi, si, u⟩⟩) (e s hs))
    omega
  · intro z
    have := h.1 (w - 1) z.1 z.2
    omega
theorem zTb_ach {v w : Nat} (hl : zLT P c mk γ S w) (ha : ¬ zAl c γ S) (h : zTb P c mk γ S p w v) : v ≤ w ↔ zAcS P c mk γ S w p := by
  constructor
  · intro z
    obtain ⟨t, t1, t2⟩ := h.2 z
    have pos : 0 < yCn S c := yCn_pos.mpr (Classical.byContradiction fun y => ha fun i j hi hj si sj => absurd ⟨i, hi, si⟩ y)
    refine ⟨fun s hs => Classical.byContradiction fun y => ?_, t, by omega, t2⟩
    obtain ⟨f, e⟩ := t2 s hs
    have := hl.2 f (t s) (zTot_sub (fun i hi si => zPt_bit.mpr ⟨si, Classical.byContradiction fun u => y ⟨i, hi, si, u⟩⟩) e)
    have : s = 0 ∨ s = 1 ∨ s = 2 := by omega
    rcases this with e | e | e <;> subst e <;> omega
  · rintro ⟨sp, t, t1, t2⟩
    have := h.1 t sp t2
    omega
theorem r_nextOfFewest (hr : 0 < r) (hr2 : r < 2 ^ 31) (H : zH n c mk γ J U u0 (zSu mk c (n * (n - 1) / 2))) (q : zQ r g n J U c mk γ) : ∃ v a g', E_X8_nextOfFewest g = some (a, g') ∧ zQ r g' n J U c mk γ ∧ zFr r g g' ∧ zLW (n * (n - 1) / 2) c mk γ (zSt (zA1 c) (zA2 c)) v ∧ zNx n v (zAch (n * (n - 1) / 2) c mk γ (zSt (zA1 c) (zA2 c)) v) a := by
  have hn := H.1
  have hP := (yPs_3 n (by omega)).2.2
  have hI := zIn_all H.2.1
  have h0 := zCl_0 (mk := mk) hP H.2.1
  obtain ⟨w, g1, f1, f2, f3, f4, f5⟩ := r_fewestOfAll hr hr2 H q
  unfold E_X8_nextOfFewest
  rw [f1, xb2_some]
  rcases Nat.eq_zero_or_pos w with e | e
  · subst e
    have st : xlim (S_X8_nextOfFewest_7 (nI 0)) (0, g1) = some (.inr g1) := by
      refine xlim_end ?_
      unfold S_X8_nextOfFewest_7
      rw [if_pos (show nI 0 ≤ (0 : Int32) by decide)]
      split <;> rfl
    rw [st, xbs_inr]
    exact ⟨0, -1, g1, rfl, f2, f3, f5, Or.inl ⟨rfl, rfl⟩⟩
  · have na : ¬ zAl c γ (zSt (zA1 c) (zA2 c)) := fun z => by have := f5.2 0 z; omega
    have nw : ¬ nI w ≤ (0 : Int32) := fun z => absurd (show nI w ≤ nI 0 from z) (nI_ge e (by omega))
    obtain ⟨-, p0, hp0, sp0, z0⟩ := zCan_least f5.1 na (fun k' hk z => by have := f5.2 k' z; omega)
    have key : ∀ m p g, m + p = n * (n - 1) / 2 → p ≤ p0 → zQ r g n J U c mk γ → (∀ p', p' < p → ¬ zAch (n * (n - 1) / 2) c mk γ (zSt (zA1 c) (zA2 c)) w p') → ∃ a g', xlim (S_X8_nextOfFewest_7 (nI w)) (nI p, g) = some (.inl (a, g')) ∧ zQ r g' n J U c mk γ ∧ zFr r g g' ∧ zNx n w (zAch (n * (n - 1) / 2) c mk γ (zSt (zA1 c) (zA2 c)) w) a := by
      intro m
      induction m with
      | zero => intro p g hm hp; omega
      | succ m ih =>
        intro p g hm hp q hno
        obtain ⟨s1, s2, s3⟩ := r_sp H q
        obtain ⟨v, g', b1, b2, b3, b4, b5⟩ := r_wBehind (p := p) (l := w) (d := 0) H q hI h0 (by omega) (Nat.zero_le _) (by omega) (r_worstR hr hr2 H 14 1 (by omega))
        have b1 : E_X8_worstBehind (R_X8_worst 14) (nI p) (nL (zA1 c)) (nL (zA2 c)) (nI (zSu mk c (n * (n - 1) / 2))) (nI w) 0 g = some (nI v, g') := b1
        have ac := zWb_ach f5 e b5
        have np : ¬ nI (n * (n - 1) / 2) ≤ nI p := nI_ge (by omega) (by omega)
        by_cases y : v ≤ w
        · refine ⟨nI (10 * (zAB n p).1 + (zAB n p).2), g', xlim_end ?_, b2, b3, Or.inr ⟨e, p, by omega, ac.mp y, hno, rfl⟩⟩
          unfold S_X8_nextOfFewest_7
          simp only [r_pairsN hn q.1.1, if_neg np, if_neg nw, s1, s2, s3, xb1_some, b1, xb2_some, if_neg (show ¬ nI w < nI v by rw [nI_ltI (by omega) (by omega)]; omega)]
          unfold F_X8_codeOf
          rw [r_code hn b2.2.1 (by omega)]
        · have na' : ¬ zAch (n * (n - 1) / 2) c mk γ (zSt (zA1 c) (zA2 c)) w p := fun z => y (ac.mpr z)
          have ne : p ≠ p0 := fun z => na' (z ▸ ⟨sp0, z0⟩)
          have st : S_X8_nextOfFewest_7 (nI w) (nI p, g) = some (.inl (nI (p + 1), g')) := by
            unfold S_X8_nextOfFewest_7
            simp only [r_pairsN hn q.1.1, if_neg np, if_neg nw, s1, s2, s3, xb1_some, b1, xb2_some, if_pos (show nI w < nI v by rw [nI_ltI (by omega) (by omega)]; omega), nI_1]
          obtain ⟨a, g2, i1, i2, i3, i4⟩ := ih (p + 1) g' (by omega) (by omega) b2 (fun p' hp' => by
            by_cases z : p' = p
            · rw [z]; exact na'
            · exact hno p' (by omega))
          exact ⟨a, g2, (xlim_go st).trans i1, i2, b3.tr i3, i4⟩
    obtain ⟨a, g2, k1, k2, k3, k4⟩ := key (n * (n - 1) / 2) 0 g1 (by omega) (Nat.zero_le _) f2 (fun p' hp' => absurd hp' (by omega))
    rw [show ((0 : Int32), g1) = (nI 0, g1) from rfl, k1, xbs_inl]
    exact ⟨w, a, g2, rfl, k2, f3.tr k3, f5, k4⟩
theorem r_sumOfAll (hr : 0 < r) (hr2 : r < 2 ^ 31) (H : zH n c mk γ J U u0 (zSu mk c (n * (n - 1) / 2))) (q : zQ r g n J U c mk γ) : ∃ v g', E_X8_sumOfAll g = some (nI v, g') ∧ zQ r g' n J U c mk γ ∧ zFr r g g' ∧ v ≤ 1200 ∧ zLT (n * (n - 1) / 2) c mk γ (zSt (zA1 c) (zA2 c)) v := by
  have hP := (yPs_3 n (by have := H.1; omega)).2.2
  have hI := zIn_all H.2.1
  have h0 := zCl_0 (mk := mk) hP H.2.1
  obtain ⟨K, K1, K2⟩ := zTot_1200 H (zSt (zA1 c) (zA2 c))
  have call : ∀ l g, l ≤ 1000000 → zQ r g n J U c mk γ → ∃ v g', R_X8_sum 14 (F_X8_allLow g) (F_X8_allHigh g) (nI (zSu mk c (n * (n - 1) / 2))) (nI l) 0 g = some (nI v, g') ∧ zQ r g' n J U c mk γ ∧ zFr r g g' ∧ v ≤ 1200 ∧ zTw (n * (n - 1) / 2) c mk γ (zSt (zA1 c) (zA2 c)) l v := fun l g hl q => by
    obtain ⟨-, s2, s3⟩ := r_sp H q
    obtain ⟨v, g', r1, r2, r3, r4, r5⟩ := r_sumR hr hr2 H 14 0 (by omega) _ _ _ l g q hI h0 (Nat.zero_le _) hl
    rw [s2, s3]
    exact ⟨v, g', r1, r2, r3, Nat.le_trans (r5.1 _ _ K2) K1, r5⟩
  obtain ⟨v1, g1, a1, a2, a3, a4, a5⟩ := call 0 g (by omega) q
  obtain ⟨v2, g2, b1, b2, b3, b4, b5⟩ := call v1 g1 (by omega) a2
  have a1 : R_X8_sum 14 (F_X8_allLow g) (F_X8_allHigh g) (nI (zSu mk c (n * (n - 1) / 2))) 0 0 g = some (nI v1, g1) := a1
  unfold E_X8_sumOfAll
  rw [(r_sp H q).1, xb1_some, a1, xb2_some, (r_sp H a2).1, xb1_some, b1, xb2_some]
  by_cases e : v2 ≤ v1
  · rw [if_neg (show ¬ nI v1 < nI v2 by rw [nI_ltI (by omega) (by omega)]; omega)]
    exact ⟨v2, g2, rfl, b2, a3.tr b3, b4, b5.2 e, b5.1⟩
  · obtain ⟨v3, g3, c1, c2, c3, c4, c5⟩ := call 1000000 g2 (by omega) b2
    have c1 : R_X8_sum 14 (F_X8_allLow g2) (F_X8_allHigh g2) (nI (zSu mk c (n * (n - 1) / 2))) 1000000 0 g2 = some (nI v3, g3) := c1
    rw [if_pos (show nI v1 < nI v2 by rw [nI_ltI (by omega) (by omega)]; omega), (r_sp H b2).1, xb1_some, c1, xb2_some]
    exact ⟨v3, g3, rfl, c2, (a3.tr b3).tr c3, c4, c5.2 (by omega), c5.1⟩
theorem r_nextOfSum (hr : 0 < r) (hr2 : r < 2 ^ 31) (H : zH n c mk γ J U u0 (zSu mk c (n * (n - 1) / 2))) (q : zQ r g n J U c mk γ) : ∃ v a g', E_X8_nextOfSum g = some (a, g') ∧ zQ r g' n J U c mk γ ∧ zFr r g g' ∧ zLT (n * (n - 1) / 2) c mk γ (zSt (zA1 c) (zA2 c)) v ∧ zNx n v (zAcS (n * (n - 1) / 2) c mk γ (zSt (zA1 c) (zA2 c)) v) a := by
  have hn := H.1
  have hP := (yPs_3 n (by omega)).2.2
  have hI := zIn_all H.2.1
  have h0 := zCl_0 (mk := mk) hP H.2.1
  obtain ⟨w, g1, f1, f2, f3, f4, f5⟩ := r_sumOfAll hr hr2 H q
  unfold E_X8_nextOfSum
  rw [f1, xb2_some]
  rcases Nat.eq_zero_or_pos w with e | e
  · subst e
    have st : xlim (S_X8_nextOfSum_7 (nI 0)) (0, g1) = some (.inr g1) := by
      refine xlim_end ?_
      unfold S_X8_nextOfSum_7
      rw [if_pos (show nI 0 ≤ (0 : Int32) by decide)]
      split <;> rfl
    rw [st, xbs_inr]
    exact ⟨0, -1, g1, rfl, f2, f3, f5, Or.inl ⟨rfl, rfl⟩⟩
  · have na : ¬ zAl c γ (zSt (zA1 c) (zA2 c)) := fun z => by have := f5.2 0 0 z; omega
    have nw : ¬ nI w ≤ (0 : Int32) := fun z => absurd (show nI w ≤ nI 0 from z) (nI_ge e (by omega))
    obtain ⟨f0, f5a⟩ := f5.1
    obtain ⟨p0, hp0, sp0, t0, t1, z0⟩ := zTot_least f5a na (fun f' k' hk z => by have := f5.2 f' k' z; omega)
    have key : ∀ m p g, m + p = n * (n - 1) / 2 → p ≤ p0 → zQ r g n J U c mk γ → (∀ p', p' < p → ¬ zAcS (n * (n - 1) / 2) c mk γ (zSt (zA1 c) (zA2 c)) w p') → ∃ a g', xlim (S_X8_nextOfSum_7 (nI w)) (nI p, g) = some (.inl (a, g')) ∧ zQ r g' n J U c mk γ ∧ zFr r g g' ∧ zNx n w (zAcS (n * (n - 1) / 2) c mk γ (zSt (zA1 c) (zA2 c)) w) a := by
      intro m
      induction m with
      | zero => intro p g hm hp; omega
      | succ m ih =>
        intro p g hm hp q hno
        obtain ⟨s1, s2, s3⟩ := r_sp H q
        obtain ⟨v, g', b1, b2, b3, b4, b5, -⟩ := r_sBehind (p := p) (l := w) (d := 0) H q hI h0 (by omega) (Nat.zero_le _) (by omega) (r_sumR hr hr2 H 14 1 (by omega))
        have b1 : E_X8_sumBehind (R_X8_sum 14) (nI p) (nL (zA1 c)) (nL (zA2 c)) (nI (zSu mk c (n * (n - 1) / 2))) (nI w) 0 g = some (nI v, g') := b1
        have ac := zTb_ach f5 na b5
        have np : ¬ nI (n * (n - 1) / 2) ≤ nI p := nI_ge (by omega) (by omega)
        by_cases y : v ≤ w
        · refine ⟨nI (10 * (zAB n p).1 + (zAB n p).2), g', xlim_end ?_, b2, b3, Or.inr ⟨e, p, by omega, ac.mp y, hno, rfl⟩⟩
          unfold S_X8_nextOfSum_7
          simp only [r_pairsN hn q.1.1, if_neg np, if_neg nw, s1, s2, s3, xb1_some, b1, xb2_some, if_neg (show ¬ nI w < nI v by rw [nI_ltI (by omega) (by omega)]; omega)]
          unfold F_X8_codeOf
          rw [r_code hn b2.2.1 (by omega)]
        · have na' : ¬ zAcS (n * (n - 1) / 2) c mk γ (zSt (zA1 c) (zA2 c)) w p := fun z => y (ac.mpr z)
          have ne : p ≠ p0 := fun z => na' (z ▸ ⟨sp0, t0, t1, z0⟩)
          have st : S_X8_nextOfSum_7 (nI w) (nI p, g) = some (.inl (nI (p + 1), g')) := by
            unfold S_X8_nextOfSum_7
            simp only [r_pairsN hn q.1.1, if_neg np, if_neg nw, s1, s2, s3, xb1_some, b1, xb2_some, if_pos (show nI w < nI v by rw [nI_ltI (by omega) (by omega)]; omega), nI_1]
          obtain ⟨a, g2, i1, i2, i3, i4⟩ := ih (p + 1) g' (by omega) (by omega) b2 (fun p' hp' => by
            by_cases z : p' = p
            · rw [z]; exact na'
            · exact hno p' (by omega))
          exact ⟨a, g2, (xlim_go st).trans i1, i2, b3.tr i3, i4⟩
    obtain ⟨a, g2, k1, k2, k3, k4⟩ := key (n * (n - 1) / 2) 0 g1 (by omega) (Nat.zero_le _) f2 (fun p' hp' => absurd hp' (by omega))
    rw [show ((0 : Int32), g1) = (nI 0, g1) from rfl, k1, xbs_inl]
    exact ⟨w, a, g2, rfl, k2, f3.tr k3, f5, k4⟩
end TP
