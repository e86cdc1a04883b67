/-! THE SEARCH: the worst case -/
section WO
variable {g g' g1 : xSt} {n c r N lo hi k x x0 u0 P p d l : Nat} {mk : Nat → Nat} {γ : Nat → Int32} {J U : Int32} {S : Nat → Bool}
def zml (c : Nat) (mk : Nat → Nat) (b : Nat) : Nat := yBs (fun i => (mk i).testBit b) (min c 60)
def zmh (c : Nat) (mk : Nat → Nat) (b : Nat) : Nat := yBs (fun i => (mk (60 + i)).testBit b) (c - 60)
theorem zPw (q : zQ r g n J U c mk γ) {b : Nat} (hb : b < 30) : nL lo &&& (xatL (xL g 81) 60 (2 * nI b)) = nL (lo &&& zml c mk b) ∧ nL hi &&& (xatL (xL g 81) 60 ((2 * nI b) + 1)) = nL (hi &&& zmh c mk b) := by
  obtain ⟨f1, f2⟩ := q.2.2.2.1.1 b hb
  have i1 : (2 : Int32) * nI b = nI (2 * b) := nI_mul 2 b
  have i2 : nI (2 * b) + 1 = nI (2 * b + 1) := nI_1 _
  rw [i1, i2, xatL_nI (by omega) (by decide), xatL_nI (by omega) (by decide), f1, f2, nL_and, nL_and]
  exact ⟨rfl, rfl⟩
theorem zSt_pt (h : zIn c lo hi) {s : Nat} : zSt (lo &&& zml c mk (10 * s + p)) (hi &&& zmh c mk (10 * s + p)) = zPt mk (zSt lo hi) p s := funext fun i => zSt_and h
theorem zAll_i (h : zIn c lo hi) {b : Nat} : (lo &&& zml c mk b = lo ∧ hi &&& zmh c mk b = hi) ↔ ∀ i, i < c → zSt lo hi i = true → (mk i).testBit b = true := by
  rw [nSub_i, nSub_i]
  unfold zml zmh
  constructor
  · rintro ⟨z1, z2⟩ i hi' si
    unfold zSt at si
    by_cases e : i < 60
    · rw [if_pos e] at si
      exact (yBs_bit.mp (z1 i si)).2
    · rw [if_neg e] at si
      have := (yBs_bit.mp (z2 _ si)).2
      rw [show 60 + (i - 60) = i by omega] at this
      exact this
  · intro z
    refine ⟨fun i y => yBs_bit.mpr ⟨by have := h.1 i y; omega, z i (h.1 i y).2 ?_⟩, fun i y => yBs_bit.mpr ⟨by have := h.2 i y; omega, z (60 + i) (h.2 i y).2 ?_⟩⟩
    · unfold zSt; rw [if_pos (h.1 i y).1]; exact y
    · unfold zSt; rw [if_neg (by omega), show 60 + i - 60 = i by omega]; exact y
theorem zAll_c (h : zIn c lo hi) {b : Nat} : (lg_cmp (nL (lo &&& zml c mk b)) (nL lo) = 0 ∧ lg_cmp (nL (hi &&& zmh c mk b)) (nL hi) = 0) ↔ ∀ i, i < c → zSt lo hi i = true → (mk i).testBit b = true := by
  obtain ⟨b1, b2⟩ := zIn_lt h
  rw [lg_0, lg_0, nL_eq (Nat.lt_of_le_of_lt Nat.and_le_left b1) b1, nL_eq (Nat.lt_of_le_of_lt Nat.and_le_left b2) b2]
  exact zAll_i h
theorem yCn_or1 (hp : p < P) (hx : ¬ x.testBit p = true) : yCn (fun q => (x ||| 2 ^ p).testBit q) P = yCn (fun q => x.testBit q) P + 1 := by
  rw [yCn_rem hp (zOr_bit.mpr (Or.inr rfl))]
  congr 1
  refine yCn_congr fun q _ => ?_
  rw [Bool.eq_iff_iff, Bool.and_eq_true, zOr_bit, Bool.not_eq_true', beq_eq_false_iff_ne]
  exact ⟨fun z => z.1.resolve_right z.2, fun z => ⟨Or.inl z, fun e => hx (e ▸ z)⟩⟩
/-- what an answer within a limit says: no more than the need; and no more than the limit: the need -/
def zWw (P c : Nat) (mk : Nat → Nat) (γ : Nat → Int32) (S : Nat → Bool) (l v : Nat) : Prop := (∀ k, zCan P c mk γ k S → v ≤ k) ∧ (v ≤ l → zCan P c mk γ v S)
def zWb (P c : Nat) (mk : Nat → Nat) (γ : Nat → Int32) (S : Nat → Bool) (p l v : Nat) : Prop := (∀ k, zSp c mk S p → (∀ s, s < 3 → zCan P c mk γ k (zPt mk S p s)) → v ≤ k + 1) ∧ 0 < v ∧ (v ≤ l → ∀ s, s < 3 → zCan P c mk γ (v - 1) (zPt mk S p s))
/-- a call of the search, at depth d -/
def zRW (rW : Int64 → Int64 → Int32 → Int32 → Int32 → xSt → Option (Int32 × xSt)) (r n : Nat) (J U : Int32) (c : Nat) (mk : Nat → Nat) (γ : Nat → Int32) (x0 d : Nat) : Prop := ∀ x lo hi l g, zQ r g n J U c mk γ → zIn c lo hi → zCl (n * (n - 1) / 2) c mk x0 x (zSt lo hi) → d ≤ yCn (fun q => x.testBit q) (n * (n - 1) / 2) → l ≤ 20 → ∃ v g', rW (nL lo) (nL hi) (nI x) (nI l) (nI d) g = some (nI v, g') ∧ zQ r g' n J U c mk γ ∧ zFr r g g' ∧ v ≤ 1000000 ∧ zWw (n * (n - 1) / 2) c mk γ (zSt lo hi) l v
section W22
variable {rW : Int64 → Int64 → Int32 → Int32 → Int32 → xSt → Option (Int32 × xSt)} {a7 a8 a9 : Int32}
theorem r_wb22n (H : zH n c mk γ J U u0 x0) (q : zQ r g n J U c mk γ) (h : zIn c lo hi) (hp : p < n * (n - 1) / 2) {j : Nat} (hj : j ≤ 5) : ∀ m s W, m + s = 3 → W ≤ 7 → (∃ s', s ≤ s' ∧ s' < 3 ∧ ∀ i, i < c → zSt lo hi i = true → (mk i).testBit (10 * s' + p) = true) → xlim (S_X8_worstBehind_22 rW (nI p) (nL lo) (nL hi) a7 a8 a9 (nI j)) (nI W, nI (10 * s + p), g) = some (.inl (1000000, g)) := by
  have hP := (yPs_3 n (by have := H.1; omega)).2.2
  intro m
  induction m with
  | zero => intro s W hs _ ⟨s', h1, h2, _⟩; omega
  | succ m ih =>
    intro s W hs hW ⟨s', h1, h2, h3⟩
    have n30 : ¬ (30 : Int32) ≤ nI (10 * s + p) := by rw [show (30 : Int32) = nI 30 from rfl]; exact nI_ge (by omega) (by decide)
    obtain ⟨w1, w2⟩ := zPw (lo := lo) (hi := hi) q (show 10 * s + p < 30 by omega)
    by_cases e : ∀ i, i < c → zSt lo hi i = true → (mk i).testBit (10 * s + p) = true
    · obtain ⟨e1, e2⟩ := (zAll_c (mk := mk) (b := 10 * s + p) h).mpr e
      refine xlim_end ?_
      unfold S_X8_worstBehind_22
      simp only [if_neg n30, w1, w2, if_pos e1, if_pos e2]
    · have ne : s' ≠ s := fun z => e (z ▸ h3)
      have hq := zIn_and h (zml c mk (10 * s + p)) (zmh c mk (10 * s + p))
      obtain ⟨v, v1, v2, -⟩ := r_leastWorst (H.ql q) hq hj
      have st : S_X8_worstBehind_22 rW (nI p) (nL lo) (nL hi) a7 a8 a9 (nI j) (nI W, nI (10 * s + p), g) = some (.inl (nI (max W v), nI (10 * (s + 1) + p), g)) := by
        unfold S_X8_worstBehind_22 K_X8_worstBehind_80
        simp only [if_neg n30, w1, w2, v1, xb1_some, r_imax (show W < 2 ^ 31 by omega) (show v < 2 ^ 31 by omega)]
        rw [show nI (10 * s + p) + 10 = nI (10 * (s + 1) + p) by rw [show (10 : Int32) = nI 10 from rfl, nI_add]; congr 1; omega]
        by_cases e1 : lg_cmp (nL (lo &&& zml c mk (10 * s + p))) (nL lo) = 0
        · rw [if_pos e1, if_neg (fun e2 => e ((zAll_c h).mp ⟨e1, e2⟩))]
        · rw [if_neg e1]
      rw [xlim_go st]
      exact ih (s + 1) _ (by omega) (by omega) ⟨s', by omega, h2, h3⟩
theorem r_wb22s (H : zH n c mk γ J U u0 x0) (q : zQ r g n J U c mk γ) (h : zIn c lo hi) (hS : zCl (n * (n - 1) / 2) c mk x0 x (zSt lo hi)) (hp : p < n * (n - 1) / 2) (hsp : zSp c mk (zSt lo hi) p) : ∀ m s W, m + s = 3 → W ≤ 7 → ∃ W', xlim (S_X8_worstBehind_22 rW (nI p) (nL lo) (nL hi) a7 a8 a9 (nI (zJo J n (x ||| 2 ^ p)))) (nI W, nI (10 * s + p), g) = some (.inr (nI W', g)) ∧ W' ≤ 7 ∧ ∀ k, W ≤ k → (∀ s', s' < 3 → zCan (n * (n - 1) / 2) c mk γ k (zPt mk (zSt lo hi) p s')) → W' ≤ k := by
  have hP := (yPs_3 n (by have := H.1; omega)).2.2
  intro m
  induction m with
  | zero =>
    intro s W hs hW
    have : s = 3 := by omega
    subst this
    refine ⟨W, xlim_end ?_, hW, fun k hk _ => hk⟩
    unfold S_X8_worstBehind_22
    exact if_pos (show (30 : Int32) ≤ nI (10 * 3 + p) by rw [show (30 : Int32) = nI 30 from rfl]; exact nI_le (by omega) (by omega))
  | succ m ih =>
    intro s W hs hW
    have n30 : ¬ (30 : Int32) ≤ nI (10 * s + p) := by rw [show (30 : Int32) = nI 30 from rfl]; exact nI_ge (by omega) (by decide)
    obtain ⟨w1, w2⟩ := zPw (lo := lo) (hi := hi) q (show 10 * s + p < 30 by omega)
    have e : ¬ ∀ i, i < c → zSt lo hi i = true → (mk i).testBit (10 * s + p) = true := fun z => by
      obtain ⟨i, i1, i2, i3⟩ := hsp s (by omega)
      exact i3 (z i i1 i2)
    have hq := zIn_and h (zml c mk (10 * s + p)) (zmh c mk (10 * s + p))
    obtain ⟨v, v1, v2, v3, v4⟩ := r_leastWorst (H.ql q) hq (zJo_le (J := J) (x := x ||| 2 ^ p) H.1).2
    have st : S_X8_worstBehind_22 rW (nI p) (nL lo) (nL hi) a7 a8 a9 (nI (zJo J n (x ||| 2 ^ p))) (nI W, nI (10 * s + p), g) = some (.inl (nI (max W v), nI (10 * (s + 1) + p), g)) := by
      unfold S_X8_worstBehind_22 K_X8_worstBehind_80
      simp only [if_neg n30, w1, w2, v1, xb1_some, r_imax (show W < 2 ^ 31 by omega) (show v < 2 ^ 31 by omega)]
      rw [show nI (10 * s + p) + 10 = nI (10 * (s + 1) + p) by rw [show (10 : Int32) = nI 10 from rfl, nI_add]; congr 1; omega]
      by_cases e1 : lg_cmp (nL (lo &&& zml c mk (10 * s + p))) (nL lo) = 0
      · rw [if_pos e1, if_neg (fun e2 => e ((zAll_c h).mp ⟨e1, e2⟩))]
      · rw [if_neg e1]
    obtain ⟨W', i1, i2, i3⟩ := ih (s + 1) (max W v) (by omega) (by omega)
    refine ⟨W', (xlim_go st).trans i1, i2, fun k hk z => i3 k ?_ z⟩
    have vk : v ≤ k := by
      have zs := z s (by omega)
      have hx := zCl_sp hS hp hsp
      rw [zSt_pt h] at v3 v4
      by_cases al : zAl c γ (zPt mk (zSt lo hi) p s)
      · rw [v3 al]; exact Nat.zero_le _
      · exact (v4 al).2 k zs (zJo_W H (zCl_pt hS hp (by omega) hx) al zs)
    omega
theorem r_wb106 (H : zH n c mk γ J U u0 x0) (h : zIn c lo hi) (hS : zCl (n * (n - 1) / 2) c mk x0 x (zSt lo hi)) (hp : p < n * (n - 1) / 2) (hsp : zSp c mk (zSt lo hi) p) (hd : d ≤ yCn (fun q => x.testBit q) (n * (n - 1) / 2)) (hl : l ≤ 20) (hR : zRW rW r n J U c mk γ x0 (d + 1)) : ∀ m s W g, m + s = 3 → zQ r g n J U c mk γ → W ≤ 1000000 → (∀ k, (∀ s', s' < 3 → zCan (n * (n - 1) / 2) c mk γ k (zPt mk (zSt lo hi) p s')) → W ≤ k) → (W < l → ∀ s', s' < s → zCan (n * (n - 1) / 2) c mk γ W (zPt mk (zSt lo hi) p s')) → ∃ W' g', xlim (S_X8_worstBehind_106 rW (nL lo) (nL hi) (nI l) (nI d) (nI (x ||| 2 ^ p))) (nI W, nI (10 * s + p), g) = some (nI W', g') ∧ zQ r g' n J U c mk γ ∧ zFr r g g' ∧ W' ≤ 1000000 ∧ (∀ k, (∀ s', s' < 3 → zCan (n * (n - 1) / 2) c mk γ k (zPt mk (zSt lo hi) p s')) → W' ≤ k) ∧ (W' < l → ∀ s', s' < 3 → zCan (n * (n - 1) / 2) c mk γ W' (zPt mk (zSt lo hi) p s')) := by
  have hP := (yPs_3 n (by have := H.1; omega)).2.2
  have hx := zCl_sp hS hp hsp
  have hdc := yCn_or1 hp hx
  intro m
  induction m with
  | zero =>
    intro s W g hs q hW hb hu
    have : s = 3 := by omega
    subst this
    refine ⟨W, g, xlim_end ?_, q, zFr.refl, hW, hb, hu⟩
    unfold S_X8_worstBehind_106
    exact if_pos (show (30 : Int32) ≤ nI (10 * 3 + p) by rw [show (30 : Int32) = nI 30 from rfl]; exact nI_le (by omega) (by omega))
  | succ m ih =>
    intro s W g hs q hW hb hu
    have n30 : ¬ (30 : Int32) ≤ nI (10 * s + p) := by rw [show (30 : Int32) = nI 30 from rfl]; exact nI_ge (by omega) (by decide)
    obtain ⟨w1, w2⟩ := zPw (lo := lo) (hi := hi) q (show 10 * s + p < 30 by omega)
    by_cases e : W < l
    · have hq := zIn_and h (zml c mk (10 * s + p)) (zmh c mk (10 * s + p))
      have cl := zCl_pt hS hp (show s < 3 by omega) hx
      rw [← zSt_pt h] at cl
      obtain ⟨v, g', r1, r2, r3, r4, r5, r6⟩ := hR _ _ _ (l - 1) g q hq cl (by omega) (by omega)
      rw [zSt_pt h] at r5 r6
      have st : S_X8_worstBehind_106 rW (nL lo) (nL hi) (nI l) (nI d) (nI (x ||| 2 ^ p)) (nI W, nI (10 * s + p), g) = some (.inl (nI (max W v), nI (10 * (s + 1) + p), g')) := by
        unfold S_X8_worstBehind_106
        simp only [if_neg n30, if_neg (nI_ge e (show l < 2 ^ 31 by omega)), w1, w2]
        rw [show nI l - 1 = nI (l - 1) from ?_, nI_1, r1, xb2_some, r_imax (by omega) (by omega)]
        · rw [show nI (10 * s + p) + 10 = nI (10 * (s + 1) + p) by rw [show (10 : Int32) = nI 10 from rfl, nI_add]; congr 1; omega]
        · have : nI l = nI (l - 1) + 1 := by rw [nI_1]; congr 1; omega
          rw [this]
          exact Int32.add_sub_cancel _ _
      obtain ⟨W', g2, i1, i2, i3, i4, i5, i6⟩ := ih (s + 1) (max W v) g' (by omega) r2 (by omega) (fun k z => by
        have := hb k z
        have := r5 k (z s (by omega))
        omega) (fun z s' hs' => by
        by_cases y : s' = s
        · subst y
          exact zCan_le (r6 (by omega)) (by omega)
        · exact zCan_le (hu e s' (by omega)) (by omega))
      exact ⟨W', g2, (xlim_go st).trans i1, i2, r3.tr i3, i4, i5, i6⟩
    · refine ⟨W, g, xlim_end ?_, q, zFr.refl, hW, hb, fun z => absurd z e⟩
      unfold S_X8_worstBehind_106
      simp only [if_neg n30, if_pos (nI_le (show l ≤ W by omega) (show W < 2 ^ 31 by omega))]
theorem r_wBehind (H : zH n c mk γ J U u0 x0) (q : zQ r g n J U c mk γ) (h : zIn c lo hi) (hS : zCl (n * (n - 1) / 2) c mk x0 x (zSt lo hi)) (hp : p < n * (n - 1) / 2) (hd : d ≤ yCn (fun q => x.testBit q) (n * (n - 1) / 2)) (hl : l ≤ 20) (hR : zRW rW r n J U c mk γ x0 (d + 1)) : ∃ v g', E_X8_worstBehind rW (nI p) (nL lo) (nL hi) (nI x) (nI l) (nI d) g = some (nI v, g') ∧ zQ r g' n J U c mk γ ∧ zFr r g g' ∧ v ≤ 1000001 ∧ zWb (n * (n - 1) / 2) c mk γ (zSt lo hi) p l v := by
  have hP := (yPs_3 n (by have := H.1; omega)).2.2
  have P2 : 2 ^ (n * (n - 1) / 2) ≤ 1024 := Nat.pow_le_pow_right (n := 2) (by decide) hP
  have hx2 : x ||| 2 ^ p < 1024 := Nat.lt_of_lt_of_le (zOr_lt hS.1 hp) P2
  obtain ⟨g1, j1, j2, j3⟩ := zOr_ok q H hx2
  unfold E_X8_worstBehind
  rw [r_1shl p (by omega), r_orG, j1, xb2_some]
  by_cases sp : zSp c mk (zSt lo hi) p
  · obtain ⟨W, w1, w2, w3⟩ := r_wb22s (rW := rW) (a7 := nI l) (a8 := nI d) (a9 := nI (x ||| 2 ^ p)) H j2 h hS hp sp 3 0 0 (by omega) (by omega)
    rw [show 10 * 0 + p = p by omega] at w1
    rw [show ((0 : Int32), nI p, g1) = (nI 0, nI p, g1) from rfl, w1, xbs_inr]
    obtain ⟨W', g2, i1, i2, i3, i4, i5, i6⟩ := r_wb106 H h hS hp sp hd hl hR 3 0 W g1 (by omega) j2 (by omega) (fun k z => w3 k (Nat.zero_le _) z) (fun _ s' hs' => absurd hs' (by omega))
    rw [show 10 * 0 + p = p by omega] at i1
    show ∃ v g', (xb1 (xlim (S_X8_worstBehind_106 rW (nL lo) (nL hi) (nI l) (nI d) (nI (x ||| 2 ^ p))) (nI W, nI p, g1)) fun e_3 => some (1 + e_3.1, e_3.2)) = some (nI v, g') ∧ _
    rw [i1, xb1_some]
    refine ⟨W' + 1, g2, ?_, i2, j3.tr i3, by omega, fun k _ z => by have := i5 k z; omega, Nat.succ_pos _, fun z s hs => i6 (by omega) s hs⟩
    show some (nI 1 + nI W', g2) = _
    rw [nI_add, Nat.add_comm]
  · have ex : ∃ s', 0 ≤ s' ∧ s' < 3 ∧ ∀ i, i < c → zSt lo hi i = true → (mk i).testBit (10 * s' + p) = true := Classical.byContradiction fun z => sp fun s hs => Classical.byContradiction fun y => z ⟨s, Nat.zero_le _, hs, fun i hi' si => Classical.byContradiction fun w => y ⟨i, hi', si, w⟩⟩
    have w1 := r_wb22n (rW := rW) (a7 := nI l) (a8 := nI d) (a9 := nI (x ||| 2 ^ p)) H j2 h hp (zJo_le (J := J) (x := x ||| 2 ^ p) H.1).2 3 0 0 (by omega) (by omega) ex
    rw [show 10 * 0 + p = p by omega] at w1
    rw [show ((0 : Int32), nI p, g1) = (nI 0, nI p, g1) from rfl, w1, xbs_inl]
    exact ⟨1000000, g1, rfl, j2, j3, by omega, fun k z => absurd z sp, by omega, fun z => by omega⟩
end W22
/-- what a pair tried gives, for the least over all -/
theorem zFirst (H : zH n c mk γ J U u0 x0) (hS : zCl (n * (n - 1) / 2) c mk x0 x S) (ha : ¬ zAl c γ S) {B : Nat} (hB : ∀ p, p < n * (n - 1) / 2 → zFi (zFm n u0 x) (zAB n p).1 (zAB n p).2 = true → ∀ k, zSp c mk S p → (∀ s, s < 3 → zCan (n * (n - 1) / 2) c mk γ k (zPt mk S p s)) → B ≤ k + 1) {k : Nat} (hk : zCan (n * (n - 1) / 2) c mk γ k S) : B ≤ k := by
  obtain ⟨k0, k1, k2, k3⟩ := zCan_min hk
  obtain ⟨k4, p, hp, sp, z⟩ := zCan_least k2 ha k3
  obtain ⟨p', hp', hf, sm⟩ := H.2.2.2.2.2.2.2.2.1 x S hS p hp
  have z' := sm.1 (k0 - 1) z
  have sp' : zSp c mk S p' := fun s hs => Classical.byContradiction fun y => k3 (k0 - 1) (by omega) (zCan_sub (fun i hi si => zPt_bit.mpr ⟨si, Classical.byContradiction fun w => y ⟨i, hi, si, w⟩⟩) (z' s hs))
  have := hB p' hp' hf (k0 - 1) sp' z'
  omega
theorem r_wf100 {rB : Int32 → Int64 → Int64 → Int32 → Int32 → Int32 → xSt → Option (Int32 × xSt)} {a8 : Int32} (H : zH n c mk γ J U u0 x0) (hS : zCl (n * (n - 1) / 2) c mk x0 x (zSt lo hi)) (hl : l ≤ 20) {e : Nat} (he1 : 1 ≤ e) (he : e ≤ 1000000) (hB : ∀ p l g, p < n * (n - 1) / 2 → l ≤ 20 → zQ r g n J U c mk γ → ∃ v g', rB (nI p) (nL lo) (nL hi) (nI x) (nI l) (nI d) g = some (nI v, g') ∧ zQ r g' n J U c mk γ ∧ zFr r g g' ∧ v ≤ 1000001 ∧ zWb (n * (n - 1) / 2) c mk γ (zSt lo hi) p l v) : ∀ m p B g, m + p = n * (n - 1) / 2 → zQ r g n J U c mk γ → 1 ≤ B → B ≤ 1000000 → (B ≤ l → zCan (n * (n - 1) / 2) c mk γ B (zSt lo hi)) → (∀ p', p' < p → zFi (zFm n u0 x) (zAB n p').1 (zAB n p').2 = true → ∀ k, zSp c mk (zSt lo hi) p' → (∀ s, s < 3 → zCan (n * (n - 1) / 2) c mk γ k (zPt mk (zSt lo hi) p' s)) → B ≤ k + 1) → ∃ B' g', xlim (S_X8_worstFrom_100 rB (nL lo) (nL hi) (nI x) (nI l) (nI d) a8 (nI e) (nI (zFm n u0 x))) (nI B, nI p, g) = some (nI B', g') ∧ zQ r g' n J U c mk γ ∧ zFr r g g' ∧ 1 ≤ B' ∧ B' ≤ 1000000 ∧ (B' ≤ l → zCan (n * (n - 1) / 2) c mk γ B' (zSt lo hi)) ∧ (B' ≤ e ∨ ∀ p', p' < n * (n - 1) / 2 → zFi (zFm n u0 x) (zAB n p').1 (zAB n p').2 = true → ∀ k, zSp c mk (zSt lo hi) p' → (∀ s, s < 3 → zCan (n * (n - 1) / 2) c mk γ k (zPt mk (zSt lo hi) p' s)) → B' ≤ k + 1) := by
  have hn := H.1
  have hP := (yPs_3 n (by omega)).2.2
  have h32 : 2 ^ n ≤ 32 := Nat.pow_le_pow_right (n := 2) (by decide) hn
  have fl : zFm n u0 x < 32 := Nat.lt_of_lt_of_le yBs_lt h32
  intro m
  induction m with
  | zero =>
    intro p B g hp q h1 h2 hu hb
    have : p = n * (n - 1) / 2 := by omega
    subst this
    refine ⟨B, g, xlim_end ?_, q, zFr.refl, h1, h2, hu, Or.inr hb⟩
    unfold S_X8_worstFrom_100
    simp only [r_pairsN hn q.1.1]
    exact if_pos (nI_le (Nat.le_refl _) (by omega))
  | succ m ih =>
    intro p B g hp q h1 h2 hu hb
    have hpp : p < n * (n - 1) / 2 := by omega
    by_cases c1 : B ≤ e
    · refine ⟨B, g, xlim_end ?_, q, zFr.refl, h1, h2, hu, Or.inl c1⟩
      unfold S_X8_worstFrom_100
      simp only [r_pairsN hn q.1.1, if_neg (nI_ge hpp (show n * (n - 1) / 2 < 2 ^ 31 by omega)), if_pos (nI_le c1 (show e < 2 ^ 31 by omega))]
    · have nb := nI_ge (show e < B by omega) (show B < 2 ^ 31 by omega)
      by_cases f : zFi (zFm n u0 x) (zAB n p).1 (zAB n p).2 = true
      · obtain ⟨v, g', b1, b2, b3, b4, b5, b6, b7⟩ := hB p (min l (B - 1)) g hpp (by omega) q
        have eB : nI B - 1 = nI (B - 1) := by
          have : nI B = nI (B - 1) + 1 := by rw [nI_1]; congr 1; omega
          rw [this]
          exact Int32.add_sub_cancel _ _
        have st : S_X8_worstFrom_100 rB (nL lo) (nL hi) (nI x) (nI l) (nI d) a8 (nI e) (nI (zFm n u0 x)) (nI B, nI p, g) = some (.inl (nI (min B v), nI (p + 1), g')) := by
          unfold S_X8_worstFrom_100
          simp only [r_pairsN hn q.1.1, if_neg (nI_ge hpp (show n * (n - 1) / 2 < 2 ^ 31 by omega)), if_neg nb, r_firstLike hn q.2.1 hpp fl, if_pos f, if_neg (show ¬ (1 : Int32) = 0 by decide), eB, r_imin (show l < 2 ^ 31 by omega) (show B - 1 < 2 ^ 31 by omega), b1, xb2_some, r_imin (show B < 2 ^ 31 by omega) (show v < 2 ^ 31 by omega), nI_1]
        obtain ⟨B', g2, i1, i2, i3, i4⟩ := ih (p + 1) (min B v) g' (by omega) b2 (by omega) (by omega) (fun z => by
          by_cases y : B ≤ v
          · rw [Nat.min_eq_left y] at z ⊢; exact hu z
          · have y : v < B := by omega
            rw [Nat.min_eq_right (by omega)] at z ⊢
            have := b7 (by omega)
            cases v with
            | zero => omega
            | succ v => exact Or.inr ⟨p, hpp, this⟩) (fun p' hp' hf k sp z => by
          by_cases y : p' = p
          · subst y
            have := b5 k sp z
            omega
          · have := hb p' (by omega) hf k sp z
            omega)
        exact ⟨B', g2, (xlim_go st).trans i1, i2, b3.tr i3, i4⟩
      · have st : S_X8_worstFrom_100 rB (nL lo) (nL hi) (nI x) (nI l) (nI d) a8 (nI e) (nI (zFm n u0 x)) (nI B, nI p, g) = some (.inl (nI B, nI (p + 1), g)) := by
          unfold S_X8_worstFrom_100
          simp only [r_pairsN hn q.1.1, if_neg (nI_ge hpp (show n * (n - 1) / 2 < 2 ^ 31 by omega)), if_neg nb, r_firstLike hn q.2.1 hpp fl, if_neg f, nI_1]
          exact if_pos trivial
        rw [xlim_go st]
        exact ih (p + 1) B g (by omega) q h1 h2 hu (fun p' hp' hf k sp z => by
          by_cases y : p' = p
          · subst y; exact absurd hf f
          · exact hb p' (by omega) hf k sp z)
theorem r_neg (k : Nat) (hk : k ≤ 1000000) (h0 : 0 < k) : ¬ (0 : Int32) < -nI k ∧ - -nI k = nI k := by
  refine ⟨fun z => ?_, Int32.neg_neg⟩
  rw [Int32.lt_iff_toInt_lt, Int32.toInt_neg, nI_toInt (by omega)] at z
  rw [show (0 : Int32).toInt = 0 from rfl, Int.bmod_eq_of_le (by omega) (by omega)] at z
  omega
theorem r_knownW {S : Nat → Bool} {v : Int32} {P : Nat} (h : zOkW P c mk γ S v) : (∃ k, 0 < k ∧ k ≤ 1000000 ∧ v = nI k ∧ zWw P c mk γ S k k) ∨ ∃ k, k ≤ 1000000 ∧ ¬ 0 < v ∧ -v = nI k ∧ ∀ k', zCan P c mk γ k' S → k ≤ k' := by
  rcases h with rfl | ⟨k, h0, h1, h2, h3⟩
  · exact Or.inr ⟨0, by omega, by decide, rfl, fun _ _ => Nat.zero_le _⟩
  · have lb : ∀ k', zCan P c mk γ k' S → k ≤ k' := fun k' z => Classical.byContradiction fun y => h2 (zCan_le z (by omega))
    rcases h3 with ⟨e, h4⟩ | e
    · exact Or.inl ⟨k, h0, h1, e, lb, fun _ => h4⟩
    · obtain ⟨n1, n2⟩ := r_neg k h1 h0
      exact Or.inr ⟨k, h1, by rw [e]; exact n1, by rw [e]; exact n2, lb⟩
theorem r_wFrom {rB : Int32 → Int64 → Int64 → Int32 → Int32 → Int32 → xSt → Option (Int32 × xSt)} (hr : 0 < r) (hr2 : r < 2 ^ 31) (H : zH n c mk γ J U u0 x0) (q : zQ r g n J U c mk γ) (h : zIn c lo hi) (hS : zCl (n * (n - 1) / 2) c mk x0 x (zSt lo hi)) (hd : d ≤ 12) (hl : l ≤ 20) (hB : ∀ p l g, p < n * (n - 1) / 2 → l ≤ 20 → zQ r g n J U c mk γ → ∃ v g', rB (nI p) (nL lo) (nL hi) (nI x) (nI l) (nI d) g = some (nI v, g') ∧ zQ r g' n J U c mk γ ∧ zFr r g g' ∧ v ≤ 1000001 ∧ zWb (n * (n - 1) / 2) c mk γ (zSt lo hi) p l v) : ∃ v g', E_X8_worstFrom rB (nL lo) (nL hi) (nI x) (nI l) (nI d) g = some (nI v, g') ∧ zQ r g' n J U c mk γ ∧ zFr r g g' ∧ v ≤ 1000000 ∧ zWw (n * (n - 1) / 2) c mk γ (zSt lo hi) l v := by
  have hn := H.1
  have hP := (yPs_3 n (by omega)).2.2
  have P2 : 2 ^ (n * (n - 1) / 2) ≤ 1024 := Nat.pow_le_pow_right (n := 2) (by decide) hP
  have hx2 : x < 1024 := Nat.lt_of_lt_of_le hS.1 P2
  unfold E_X8_worstFrom
  rw [r_isAlikeS H.2.1 q.2.2.2.1 h]
  by_cases al : zAl c γ (zSt lo hi)
  · rw [if_pos al, if_neg (by decide)]
    exact ⟨0, g, rfl, q, zFr.refl, by omega, fun _ _ => Nat.zero_le _, fun _ => al⟩
  · rw [if_neg al, if_pos rfl, if_pos (show nI d ≤ (12 : Int32) from nI_le hd (by decide))]
    obtain ⟨s, g2, s1, s2, s3, s4⟩ := zSl_ok q hr2 h
    obtain ⟨g3, j1, j2, j3⟩ := zOr_ok s2 H hx2
    obtain ⟨w, w1, w2, -, w4⟩ := r_leastWorst (H.ql j2) h (zJo_le (J := J) (x := x) hn).2
    obtain ⟨w5, w6⟩ := w4 al
    have wl : ∀ k, zCan (n * (n - 1) / 2) c mk γ k (zSt lo hi) → w ≤ k := fun k z => w6 k z (zJo_W H hS al z)
    have w0 : 1 ≤ w := Nat.le_trans (zJo_le (J := J) (x := x) hn).1 w5
    have hz : xat (xI g2 86) 4096 s = 0 ∨ ∃ k, s = nI k ∧ zAt g2 r k lo hi ∧ xat (xI g2 86) 4096 s = xI g2 86 k := by
      rcases s4 with e | ⟨k, e, a⟩
      · left; rw [e]; unfold xat; rw [if_pos (Or.inl (by decide))]
      · exact Or.inr ⟨k, e, a, by rw [e, xat_nI a.1 (by decide)]⟩
    have ok : zOkW (n * (n - 1) / 2) c mk γ (zSt lo hi) (xat (xI g2 86) 4096 s) := by
      rcases hz with e | ⟨k, e, a, e2⟩
      · rw [e]; exact Or.inl rfl
      · obtain ⟨b1, b2⟩ := zIn_lt h
        rw [e2]
        exact (zMe_at hr hr2 b1 b2 s2.2.2.2.2 a).1
    rw [s1, xb2_some, j1, xb2_some, w1, xb1_some]
    generalize xat (xI g2 86) 4096 s = kn at ok
    rcases r_knownW ok with ⟨k, k0, k1, rfl, k2⟩ | ⟨k, k1, k2, k3, k4⟩
    · rw [if_pos (show (0 : Int32) < nI k from nI_lt (a := 0) (by omega) (by omega))]
      refine ⟨k, g3, ?_, j2, s3.tr j3, k1, k2.1, fun _ => k2.2 (Nat.le_refl _)⟩
      unfold K_X8_worstFrom_72
      rw [if_neg (show ¬ nI k ≤ (0 : Int32) from fun z => absurd (show nI k ≤ nI 0 from z) (nI_ge (by omega) (by omega)))]
    · rw [if_neg k2, k3, r_imax (by omega) (by omega)]
      by_cases c1 : max w k ≤ l
      · rw [if_pos (nI_le c1 (show l < 2 ^ 31 by omega)), r_freeThings hn j2.1.1 j2.2.1 H.2.2.2.2.2.1 (by rw [j2.1.1, j2.1.2.2.1]; exact H.2.2.2.2.2.2.2.1) hx2, xb1_some]
        obtain ⟨B, g4, f1, f2, f3, f4, f5, f6, f7⟩ := r_wf100 (a8 := s) H hS hl (show 1 ≤ max w k by omega) (show max w k ≤ 1000000 by omega) hB (n * (n - 1) / 2) 0 1000000 g3 (by omega) j2 (by omega) (by omega) (fun z => by omega) (fun p' hp' => absurd hp' (by omega))
        rw [show ((1000000 : Int32), (0 : Int32), g3) = (nI 1000000, nI 0, g3) from rfl, f1, xb1_some]
        have lb : ∀ k', zCan (n * (n - 1) / 2) c mk γ k' (zSt lo hi) → B ≤ k' := fun k' z => by
          rcases f7 with y | y
          · have := wl k' z
            have := k4 k' z
            omega
          · exact zFirst H hS al y z
        have hs' : s = -1 ∨ ∃ k, s = nI k ∧ zAt g4 r k lo hi := s4.imp id fun ⟨k, e, a⟩ => ⟨k, e, f3.2.2 k lo hi (j3.2.2 k lo hi a)⟩
        unfold K_X8_worstFrom_165
        have val : ((if nI l < nI B then -(nI B) else nI B) = nI B ∧ zCan (n * (n - 1) / 2) c mk γ B (zSt lo hi)) ∨ (if nI l < nI B then -(nI B) else nI B) = -nI B := by
          by_cases y : B ≤ l
          · rw [if_neg (by rw [nI_ltI (by omega) (by omega)]; omega)]
            exact Or.inl ⟨rfl, f6 y⟩
          · rw [if_pos (by rw [nI_ltI (by omega) (by omega)]; omega)]
            exact Or.inr rfl
        obtain ⟨p1, p2⟩ := zPut_ok (o := 86) (v := if nI l < nI B then -(nI B) else nI B) (Or.inl rfl) f2 hr hr2 h hs' ⟨fun _ => Or.inr ⟨B, by omega, f5, fun z => by have := lb _ z; omega, val⟩, fun z => absurd z (by decide)⟩
        exact ⟨B, _, rfl, p1, ((s3.tr j3).tr f3).tr p2, f5, lb, f6⟩
      · rw [if_neg (nI_ge (show l < max w k by omega) (by omega))]
        refine ⟨max w k, g3, ?_, j2, s3.tr j3, by omega, fun k' z => by have := wl k' z; have := k4 k' z; omega, fun z => absurd z c1⟩
        unfold K_X8_worstFrom_72
        rw [if_pos (show kn ≤ (0 : Int32) from Int32.not_lt.mp k2)]
theorem r_worstR (hr : 0 < r) (hr2 : r < 2 ^ 31) (H : zH n c mk γ J U u0 x0) : ∀ m d, 14 ≤ m + d → zRW (R_X8_worst m) r n J U c mk γ x0 d := by
  have hP := (yPs_3 n (by have := H.1; omega)).2.2
  intro m
  induction m with
  | zero =>
    intro d hd x lo hi l g q h hS hdx hl
    have := yCn_le (fun q => x.testBit q) (n * (n - 1) / 2)
    omega
  | succ m ih =>
    intro d hd x lo hi l g q h hS hdx hl
    have := yCn_le (fun q => x.testBit q) (n * (n - 1) / 2)
    show ∃ v g', E_X8_worstFrom (E_X8_worstBehind (R_X8_worst m)) (nL lo) (nL hi) (nI x) (nI l) (nI d) g = some (nI v, g') ∧ _
    exact r_wFrom hr hr2 H q h hS (by omega) hl fun p l g hp hl q => r_wBehind H q h hS hp hdx hl (ih (d + 1) (by omega))
end WO
