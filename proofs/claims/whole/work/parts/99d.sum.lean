/-! THE SEARCH: all together -/
section SU2
variable {g g' g1 : xSt} {n c r N lo hi k x x0 u0 P p d l : Nat} {mk : Nat → Nat} {γ : Nat → Int32} {J U : Int32} {S : Nat → Bool}
theorem r_lsEq {a1 a3 : Int64} {a5 : Int32} (h76 : xI g' 76 = xI g 76) (h79 : xI g' 79 = xI g 79) (h80 : xL g' 80 = xL g 80) : E_X8_leastSum a1 a3 a5 g' = E_X8_leastSum a1 a3 a5 g := by
  have e1 : ∀ a6, S_X8_leastSum_47 a6 g' = S_X8_leastSum_47 a6 g := fun a6 => by
    funext s_
    unfold S_X8_leastSum_47
    rw [h76]
  have e2 : ∀ a6 a7 a8, K_X8_leastSum_81 a6 a7 a8 g' = K_X8_leastSum_81 a6 a7 a8 g := fun a6 a7 a8 => by
    unfold K_X8_leastSum_81
    rw [h76]
  have e3 : F_X8_isAlike g' a1 a3 = F_X8_isAlike g a1 a3 := by
    unfold F_X8_isAlike
    rw [h79, h80]
  unfold E_X8_leastSum
  rw [h76, e1, e3]
  simp only [e2]
theorem zFr_ls {a1 a3 : Int64} {a5 : Int32} (h : zFr r g g') : E_X8_leastSum a1 a3 a5 g' = E_X8_leastSum a1 a3 a5 g := r_lsEq (funext fun k => h.1.2 76 k (by unfold dRc; omega)) (funext fun k => h.1.2 79 k (by unfold dRc; omega)) (funext fun j => h.2.1 80 j (by decide))
def zTw (P c : Nat) (mk : Nat → Nat) (γ : Nat → Int32) (S : Nat → Bool) (l v : Nat) : Prop := (∀ f k, zTot P c mk γ f k S → v ≤ k) ∧ (v ≤ l → ∃ f, zTot P c mk γ f v S)
def zTb (P c : Nat) (mk : Nat → Nat) (γ : Nat → Int32) (S : Nat → Bool) (p l v : Nat) : Prop := (∀ t : Nat → Nat, zSp c mk S p → (∀ s, s < 3 → ∃ f, zTot P c mk γ f (t s) (zPt mk S p s)) → v ≤ yCn S c + (t 0 + t 1 + t 2)) ∧ (v ≤ l → ∃ t : Nat → Nat, yCn S c + (t 0 + t 1 + t 2) ≤ v ∧ ∀ s, s < 3 → ∃ f, zTot P c mk γ f (t s) (zPt mk S p s))
def zRS (rW : Int64 → Int64 → Int32 → Int32 → Int32 → xSt → Option (Int32 × xSt)) (r n : Nat) (J U : Int32) (c : Nat) (mk : Nat → Nat) (γ : Nat → Int32) (x0 d : Nat) : Prop := ∀ x lo hi l g, zQ r g n J U c mk γ → zIn c lo hi → zCl (n * (n - 1) / 2) c mk x0 x (zSt lo hi) → d ≤ yCn (fun q => x.testBit q) (n * (n - 1) / 2) → l ≤ 1000000 → ∃ v g', rW (nL lo) (nL hi) (nI x) (nI l) (nI d) g = some (nI v, g') ∧ zQ r g' n J U c mk γ ∧ zFr r g g' ∧ v ≤ 1000000 ∧ zTw (n * (n - 1) / 2) c mk γ (zSt lo hi) l v
theorem zTot_1200 (H : zH n c mk γ J U u0 x0) (S : Nat → Bool) : ∃ k, k ≤ 1200 ∧ zTot (n * (n - 1) / 2) c mk γ (n * (n - 1) / 2) k S := by
  have hP := (yPs_3 n (by have := H.1; omega)).2.2
  have le := yCn_le S c
  have := Nat.mul_le_mul hP (Nat.le_trans le H.2.1)
  exact ⟨_, by omega, zTot_ex H.2.2.2.2.1 H.2.2.2.1 S⟩
section W31
variable {rW : Int64 → Int64 → Int32 → Int32 → Int32 → xSt → Option (Int32 × xSt)} {a7 a8 a9 : Int32}
theorem r_sb31n (H : zH n c mk γ J U u0 x0) (q : zQ r g n J U c mk γ) (h : zIn c lo hi) (hp : p < n * (n - 1) / 2) {j : Nat} (hj : j ≤ 5) : ∀ m s W, m + s = 3 → W ≤ 120 + 1000 * s → (∃ s', s ≤ s' ∧ s' < 3 ∧ ∀ i, i < c → zSt lo hi i = true → (mk i).testBit (10 * s' + p) = true) → xlim (S_X8_sumBehind_31 rW (nI p) (nL lo) (nL hi) a7 a8 a9 (nI j)) (nI W, nI (10 * s + p), g) = some (.inl (1000000, g)) := by
  have hP := (yPs_3 n (by have := H.1; omega)).2.2
  intro m
  induction m with
  | zero => intro s W hs _ ⟨s', h1, h2, _⟩; omega
  | succ m ih =>
    intro s W hs hW ⟨s', h1, h2, h3⟩
    have n30 : ¬ (30 : Int32) ≤ nI (10 * s + p) := by rw [show (30 : Int32) = nI 30 from rfl]; exact nI_ge (by omega) (by decide)
    obtain ⟨w1, w2⟩ := zPw (lo := lo) (hi := hi) q (show 10 * s + p < 30 by omega)
    by_cases e : ∀ i, i < c → zSt lo hi i = true → (mk i).testBit (10 * s + p) = true
    · obtain ⟨e1, e2⟩ := (zAll_c (mk := mk) (b := 10 * s + p) h).mpr e
      refine xlim_end ?_
      unfold S_X8_sumBehind_31
      simp only [if_neg n30, w1, w2, if_pos e1, if_pos e2]
    · have ne : s' ≠ s := fun z => e (z ▸ h3)
      have hq := zIn_and h (zml c mk (10 * s + p)) (zmh c mk (10 * s + p))
      obtain ⟨v, v1, v2, -⟩ := r_leastSum (H.ql q) hq hj
      have st : S_X8_sumBehind_31 rW (nI p) (nL lo) (nL hi) a7 a8 a9 (nI j) (nI W, nI (10 * s + p), g) = some (.inl (nI (W + v), nI (10 * (s + 1) + p), g)) := by
        unfold S_X8_sumBehind_31 K_X8_sumBehind_89
        simp only [if_neg n30, w1, w2, v1, xb1_some, nI_add]
        rw [show nI (10 * s + p) + 10 = nI (10 * (s + 1) + p) by rw [show (10 : Int32) = nI 10 from rfl, nI_add]; congr 1; omega]
        by_cases e1 : lg_cmp (nL (lo &&& zml c mk (10 * s + p))) (nL lo) = 0
        · rw [if_pos e1, if_neg (fun e2 => e ((zAll_c h).mp ⟨e1, e2⟩))]
        · rw [if_neg e1]
      rw [xlim_go st]
      exact ih (s + 1) _ (by omega) (by omega) ⟨s', by omega, h2, h3⟩
theorem r_sb31s (H : zH n c mk γ J U u0 x0) (q : zQ r g n J U c mk γ) (h : zIn c lo hi) (hS : zCl (n * (n - 1) / 2) c mk x0 x (zSt lo hi)) (hp : p < n * (n - 1) / 2) (hsp : zSp c mk (zSt lo hi) p) : ∃ M : Nat → Nat, (∀ s, s < 3 → E_X8_leastSum (nL (lo &&& zml c mk (10 * s + p))) (nL (hi &&& zmh c mk (10 * s + p))) (nI (zJo J n (x ||| 2 ^ p))) g = some (nI (M s)) ∧ M s ≤ 1000 ∧ ∀ f k, zTot (n * (n - 1) / 2) c mk γ f k (zPt mk (zSt lo hi) p s) → M s ≤ k) ∧ xlim (S_X8_sumBehind_31 rW (nI p) (nL lo) (nL hi) a7 a8 a9 (nI (zJo J n (x ||| 2 ^ p)))) (nI (yCn (zSt lo hi) c), nI p, g) = some (.inr (nI (yCn (zSt lo hi) c + (M 0 + M 1 + M 2)), g)) := by
  have hP := (yPs_3 n (by have := H.1; omega)).2.2
  have hx := zCl_sp hS hp hsp
  have le := yCn_le (zSt lo hi) c
  have hc := H.2.1
  have one : ∀ s, s < 3 → ∃ v, E_X8_leastSum (nL (lo &&& zml c mk (10 * s + p))) (nL (hi &&& zmh c mk (10 * s + p))) (nI (zJo J n (x ||| 2 ^ p))) g = some (nI v) ∧ v ≤ 1000 ∧ ∀ f k, zTot (n * (n - 1) / 2) c mk γ f k (zPt mk (zSt lo hi) p s) → v ≤ k := fun s hs => by
    have hq := zIn_and h (zml c mk (10 * s + p)) (zmh c mk (10 * s + p))
    obtain ⟨v, v1, v2, v3, v4⟩ := r_leastSum (H.ql q) hq (zJo_le (J := J) (x := x ||| 2 ^ p) H.1).2
    rw [zSt_pt h] at v3 v4
    exact ⟨v, v1, v2, fun f k z => v4 f k z fun al => zJo_S H (zCl_pt hS hp hs hx) al z⟩
  have st : ∀ s W m, s < 3 → E_X8_leastSum (nL (lo &&& zml c mk (10 * s + p))) (nL (hi &&& zmh c mk (10 * s + p))) (nI (zJo J n (x ||| 2 ^ p))) g = some (nI m) → S_X8_sumBehind_31 rW (nI p) (nL lo) (nL hi) a7 a8 a9 (nI (zJo J n (x ||| 2 ^ p))) (nI W, nI (10 * s + p), g) = some (.inl (nI (W + m), nI (10 * (s + 1) + p), g)) := fun s W m hs v1 => by
    have n30 : ¬ (30 : Int32) ≤ nI (10 * s + p) := by rw [show (30 : Int32) = nI 30 from rfl]; exact nI_ge (by omega) (by decide)
    obtain ⟨w1, w2⟩ := zPw (lo := lo) (hi := hi) q (show 10 * s + p < 30 by omega)
    have e : ¬ ∀ i, i < c → zSt lo hi i = true → (mk i).testBit (10 * s + p) = true := fun z => by
      obtain ⟨i, i1, i2, i3⟩ := hsp s (by omega)
      exact i3 (z i i1 i2)
    unfold S_X8_sumBehind_31 K_X8_sumBehind_89
    simp only [if_neg n30, w1, w2, v1, xb1_some, nI_add]
    rw [show nI (10 * s + p) + 10 = nI (10 * (s + 1) + p) by rw [show (10 : Int32) = nI 10 from rfl, nI_add]; congr 1; omega]
    by_cases e1 : lg_cmp (nL (lo &&& zml c mk (10 * s + p))) (nL lo) = 0
    · rw [if_pos e1, if_neg (fun e2 => e ((zAll_c h).mp ⟨e1, e2⟩))]
    · rw [if_neg e1]
  obtain ⟨v0, h0⟩ := one 0 (by decide)
  obtain ⟨v1, h1⟩ := one 1 (by decide)
  obtain ⟨v2, h2⟩ := one 2 (by decide)
  obtain ⟨M, m0, m1, m2⟩ : ∃ M : Nat → Nat, M 0 = v0 ∧ M 1 = v1 ∧ M 2 = v2 := ⟨fun s => if s = 0 then v0 else if s = 1 then v1 else v2, rfl, rfl, rfl⟩
  refine ⟨M, fun s hs => ?_, ?_⟩
  · have : s = 0 ∨ s = 1 ∨ s = 2 := by omega
    rcases this with y | y | y <;> subst y
    · rw [m0]; exact h0
    · rw [m1]; exact h1
    · rw [m2]; exact h2
  · rw [m0, m1, m2]
    have s0 := st 0 (yCn (zSt lo hi) c) v0 (by decide) h0.1
    have s1 := st 1 (yCn (zSt lo hi) c + v0) v1 (by decide) h1.1
    have s2 := st 2 (yCn (zSt lo hi) c + v0 + v1) v2 (by decide) h2.1
    rw [show 10 * 0 + p = p by omega] at s0
    rw [xlim_go s0, xlim_go s1, xlim_go s2, show yCn (zSt lo hi) c + v0 + v1 + v2 = yCn (zSt lo hi) c + (v0 + v1 + v2) by omega]
    refine xlim_end ?_
    unfold S_X8_sumBehind_31
    exact if_pos (show (30 : Int32) ≤ nI (10 * (2 + 1) + p) by rw [show (30 : Int32) = nI 30 from rfl]; exact nI_le (by omega) (by omega))
theorem r_sb113 (H : zH n c mk γ J U u0 x0) (h : zIn c lo hi) (hS : zCl (n * (n - 1) / 2) c mk x0 x (zSt lo hi)) (hp : p < n * (n - 1) / 2) (hsp : zSp c mk (zSt lo hi) p) (hd : d ≤ yCn (fun q => x.testBit q) (n * (n - 1) / 2)) (hl : l ≤ 999999) (hR : zRS rW r n J U c mk γ x0 (d + 1)) {M : Nat → Nat} {g0 : xSt} (hM : ∀ s, s < 3 → E_X8_leastSum (nL (lo &&& zml c mk (10 * s + p))) (nL (hi &&& zmh c mk (10 * s + p))) (nI (zJo J n (x ||| 2 ^ p))) g0 = some (nI (M s)) ∧ M s ≤ 1000) : ∀ m s (V : Nat → Nat) g, m + s = 3 → zQ r g n J U c mk γ → zFr r g0 g → (∀ s', s' < 3 → ∀ f k, zTot (n * (n - 1) / 2) c mk γ f k (zPt mk (zSt lo hi) p s') → V s' ≤ k) → (∀ s', s ≤ s' → s' < 3 → V s' = M s') → (yCn (zSt lo hi) c + (V 0 + V 1 + V 2) ≤ l → ∀ s', s' < s → ∃ f, zTot (n * (n - 1) / 2) c mk γ f (V s') (zPt mk (zSt lo hi) p s')) → ∃ (V' : Nat → Nat) (g' : xSt), xlim (S_X8_sumBehind_113 rW (nL lo) (nL hi) (nI l) (nI d) (nI (x ||| 2 ^ p)) (nI (zJo J n (x ||| 2 ^ p)))) (nI (yCn (zSt lo hi) c + (V 0 + V 1 + V 2)), nI (10 * s + p), g) = some (nI (yCn (zSt lo hi) c + (V' 0 + V' 1 + V' 2)), g') ∧ zQ r g' n J U c mk γ ∧ zFr r g g' ∧ (∀ s', s' < 3 → ∀ f k, zTot (n * (n - 1) / 2) c mk γ f k (zPt mk (zSt lo hi) p s') → V' s' ≤ k) ∧ (yCn (zSt lo hi) c + (V' 0 + V' 1 + V' 2) ≤ l → ∀ s', s' < 3 → ∃ f, zTot (n * (n - 1) / 2) c mk γ f (V' s') (zPt mk (zSt lo hi) p s')) := by
  have hP := (yPs_3 n (by have := H.1; omega)).2.2
  have hx := zCl_sp hS hp hsp
  have hdc := yCn_or1 hp hx
  have le := yCn_le (zSt lo hi) c
  have hc := H.2.1
  intro m
  induction m with
  | zero =>
    intro s V g hs q fr hb hm hu
    have : s = 3 := by omega
    subst this
    refine ⟨V, g, xlim_end ?_, q, zFr.refl, hb, hu⟩
    unfold S_X8_sumBehind_113
    exact if_pos (show (30 : Int32) ≤ nI (10 * 3 + p) by rw [show (30 : Int32) = nI 30 from rfl]; exact nI_le (by omega) (by omega))
  | succ m ih =>
    intro s V g hs q fr hb hm hu
    have n30 : ¬ (30 : Int32) ≤ nI (10 * s + p) := by rw [show (30 : Int32) = nI 30 from rfl]; exact nI_ge (by omega) (by decide)
    obtain ⟨w1, w2⟩ := zPw (lo := lo) (hi := hi) q (show 10 * s + p < 30 by omega)
    have V12 : ∀ s', s' < 3 → V s' ≤ 1200 := fun s' hs' => by
      obtain ⟨k, k1, k2⟩ := zTot_1200 H (zPt mk (zSt lo hi) p s')
      exact Nat.le_trans (hb s' hs' _ _ k2) k1
    have v0 := V12 0 (by decide)
    have v1 := V12 1 (by decide)
    have v2 := V12 2 (by decide)
    generalize hW : yCn (zSt lo hi) c + (V 0 + V 1 + V 2) = W at hu
    have W4 : W ≤ 4000 := by omega
    by_cases e : W ≤ l
    · have hq := zIn_and h (zml c mk (10 * s + p)) (zmh c mk (10 * s + p))
      have cl := zCl_pt hS hp (show s < 3 by omega) hx
      rw [← zSt_pt h] at cl
      have sW : V s ≤ W := by
        have : s = 0 ∨ s = 1 ∨ s = 2 := by omega
        rcases this with y | y | y <;> subst y <;> omega
      obtain ⟨v, g', r1, r2, r3, r4, r5, r6⟩ := hR _ _ _ (l - (W - V s)) g q hq cl (by omega) (by omega)
      rw [zSt_pt h] at r5 r6
      have ls : E_X8_leastSum (nL (lo &&& zml c mk (10 * s + p))) (nL (hi &&& zmh c mk (10 * s + p))) (nI (zJo J n (x ||| 2 ^ p))) g = some (nI (V s)) := by
        rw [zFr_ls fr, hm s (Nat.le_refl _) (by omega)]
        exact (hM s (by omega)).1
      have sub : ∀ a b : Nat, b ≤ a → nI a - nI b = nI (a - b) := fun a b hab => by
        have : nI a = nI (a - b) + nI b := by rw [nI_add, Nat.sub_add_cancel hab]
        rw [this]
        exact Int32.add_sub_cancel _ _
      have st : S_X8_sumBehind_113 rW (nL lo) (nL hi) (nI l) (nI d) (nI (x ||| 2 ^ p)) (nI (zJo J n (x ||| 2 ^ p))) (nI W, nI (10 * s + p), g) = some (.inl (nI (W - V s + v), nI (10 * (s + 1) + p), g')) := by
        unfold S_X8_sumBehind_113
        simp only [if_neg n30, if_neg (show ¬ nI l < nI W by rw [nI_ltI (by omega) (by omega)]; omega), w1, w2, ls, xb1_some, sub W (V s) sW, sub l (W - V s) (by omega), nI_1, r1, xb2_some, nI_add]
        rw [show nI (10 * s + p) + 10 = nI (10 * (s + 1) + p) by rw [show (10 : Int32) = nI 10 from rfl, nI_add]; congr 1; omega]
      have eW : yCn (zSt lo hi) c + ((fun s' => if s' = s then v else V s') 0 + (fun s' => if s' = s then v else V s') 1 + (fun s' => if s' = s then v else V s') 2) = W - V s + v := by
        have : s = 0 ∨ s = 1 ∨ s = 2 := by omega
        rcases this with y | y | y <;> subst y
        · show yCn (zSt lo hi) c + (v + V 1 + V 2) = W - V 0 + v; omega
        · show yCn (zSt lo hi) c + (V 0 + v + V 2) = W - V 1 + v; omega
        · show yCn (zSt lo hi) c + (V 0 + V 1 + v) = W - V 2 + v; omega
      obtain ⟨V', g2, i1, i2, i3, i4, i5⟩ := ih (s + 1) (fun s' => if s' = s then v else V s') g' (by omega) r2 (fr.tr r3) (fun s' hs' f k z => by
        show (if s' = s then v else V s') ≤ k
        by_cases y : s' = s
        · rw [if_pos y]; subst y; exact r5 f k z
        · rw [if_neg y]; exact hb s' hs' f k z) (fun s' h1 h2 => by
        show (if s' = s then v else V s') = M s'
        rw [if_neg (by omega)]; exact hm s' (by omega) h2) (fun z s' hs' => by
        rw [eW] at z
        show ∃ f, zTot _ c mk γ f (if s' = s then v else V s') _
        by_cases y : s' = s
        · rw [if_pos y]; subst y; exact r6 (by omega)
        · rw [if_neg y]; exact hu e s' (by omega))
      rw [eW] at i1
      exact ⟨V', g2, (xlim_go st).trans i1, i2, r3.tr i3, i4, i5⟩
    · refine ⟨V, g, ?_, q, zFr.refl, hb, fun z => absurd (hW ▸ z) e⟩
      rw [hW]
      refine xlim_end ?_
      unfold S_X8_sumBehind_113
      simp only [if_neg n30, if_pos (show nI l < nI W by rw [nI_ltI (by omega) (by omega)]; omega)]
theorem r_sBehind (H : zH n c mk γ J U u0 x0) (q : zQ r g n J U c mk γ) (h : zIn c lo hi) (hS : zCl (n * (n - 1) / 2) c mk x0 x (zSt lo hi)) (hp : p < n * (n - 1) / 2) (hd : d ≤ yCn (fun q => x.testBit q) (n * (n - 1) / 2)) (hl : l ≤ 999999) (hR : zRS rW r n J U c mk γ x0 (d + 1)) : ∃ v g', E_X8_sumBehind rW (nI p) (nL lo) (nL hi) (nI x) (nI l) (nI d) g = some (nI v, g') ∧ zQ r g' n J U c mk γ ∧ zFr r g g' ∧ v ≤ 1000000 ∧ zTb (n * (n - 1) / 2) c mk γ (zSt lo hi) p l v ∧ (yCn (zSt lo hi) c ≤ 1000000 → yCn (zSt lo hi) c ≤ v) := by
  have hP := (yPs_3 n (by have := H.1; omega)).2.2
  have P2 : 2 ^ (n * (n - 1) / 2) ≤ 1024 := Nat.pow_le_pow_right (n := 2) (by decide) hP
  have hx2 : x ||| 2 ^ p < 1024 := Nat.lt_of_lt_of_le (zOr_lt hS.1 hp) P2
  have le := yCn_le (zSt lo hi) c
  have hc := H.2.1
  obtain ⟨g1, j1, j2, j3⟩ := zOr_ok q H hx2
  unfold E_X8_sumBehind
  rw [r_1shl p (by omega), r_orG, j1, xb2_some, r_bclS hc h]
  by_cases sp : zSp c mk (zSt lo hi) p
  · obtain ⟨M, w1, w2⟩ := r_sb31s (rW := rW) (a7 := nI l) (a8 := nI d) (a9 := nI (x ||| 2 ^ p)) H j2 h hS hp sp
    rw [w2, xbs_inr]
    obtain ⟨V', g2, i1, i2, i3, i4, i5⟩ := r_sb113 H h hS hp sp hd hl hR (M := M) (g0 := g1) (fun s hs => ⟨(w1 s hs).1, (w1 s hs).2.1⟩) 3 0 M g1 (by omega) j2 zFr.refl (fun s hs => (w1 s hs).2.2) (fun _ _ _ => rfl) (fun _ s' hs' => absurd hs' (by omega))
    rw [show 10 * 0 + p = p by omega] at i1
    show ∃ v g', (xb1 (xlim (S_X8_sumBehind_113 rW (nL lo) (nL hi) (nI l) (nI d) (nI (x ||| 2 ^ p)) (nI (zJo J n (x ||| 2 ^ p)))) (nI (yCn (zSt lo hi) c + (M 0 + M 1 + M 2)), nI p, g1)) fun e_3 => some (e_3.1, e_3.2)) = some (nI v, g') ∧ _
    rw [i1, xb1_some]
    have V12 : ∀ s', s' < 3 → V' s' ≤ 1200 := fun s' hs' => by
      obtain ⟨k, k1, k2⟩ := zTot_1200 H (zPt mk (zSt lo hi) p s')
      exact Nat.le_trans (i4 s' hs' _ _ k2) k1
    have v0 := V12 0 (by decide)
    have v1 := V12 1 (by decide)
    have v2 := V12 2 (by decide)
    refine ⟨_, g2, rfl, i2, j3.tr i3, by omega, ⟨fun t _ z => ?_, fun z => ⟨V', Nat.le_refl _, i5 z⟩⟩, fun _ => Nat.le_add_right _ _⟩
    obtain ⟨f0, z0⟩ := z 0 (by decide)
    obtain ⟨f1, z1⟩ := z 1 (by decide)
    obtain ⟨f2, z2⟩ := z 2 (by decide)
    have := i4 0 (by decide) _ _ z0
    have := i4 1 (by decide) _ _ z1
    have := i4 2 (by decide) _ _ z2
    omega
  · have ex : ∃ s', 0 ≤ s' ∧ s' < 3 ∧ ∀ i, i < c → zSt lo hi i = true → (mk i).testBit (10 * s' + p) = true := Classical.byContradiction fun z => sp fun s hs => Classical.byContradiction fun y => z ⟨s, Nat.zero_le _, hs, fun i hi' si => Classical.byContradiction fun w => y ⟨i, hi', si, w⟩⟩
    have w1 := r_sb31n (rW := rW) (a7 := nI l) (a8 := nI d) (a9 := nI (x ||| 2 ^ p)) H j2 h hp (zJo_le (J := J) (x := x ||| 2 ^ p) H.1).2 3 0 (yCn (zSt lo hi) c) (by omega) (by omega) ex
    rw [show 10 * 0 + p = p by omega] at w1
    rw [w1, xbs_inl]
    exact ⟨1000000, g1, rfl, j2, j3, by omega, ⟨fun t z => absurd z sp, fun z => by omega⟩, fun z => z⟩
end W31
theorem zFirstS (H : zH n c mk γ J U u0 x0) (hS : zCl (n * (n - 1) / 2) c mk x0 x S) (ha : ¬ zAl c γ S) {B : Nat} (hB : ∀ p, p < n * (n - 1) / 2 → zFi (zFm n u0 x) (zAB n p).1 (zAB n p).2 = true → ∀ t : Nat → Nat, zSp c mk S p → (∀ s, s < 3 → ∃ f, zTot (n * (n - 1) / 2) c mk γ f (t s) (zPt mk S p s)) → B ≤ yCn S c + (t 0 + t 1 + t 2)) {f k : Nat} (hk : zTot (n * (n - 1) / 2) c mk γ f k S) : B ≤ k := by
  obtain ⟨k0, k1, ⟨f', k2⟩, k3⟩ := zTot_min hk
  obtain ⟨p, hp, sp, t, ht, z⟩ := zTot_least k2 ha k3
  obtain ⟨p', hp', hf, sm⟩ := H.2.2.2.2.2.2.2.2.1 x S hS p hp
  obtain ⟨t', et, z'⟩ := sm.2 t z
  have pos : 0 < yCn S c := yCn_pos.mpr (Classical.byContradiction fun y => ha fun i j hi hj si sj => absurd ⟨i, hi, si⟩ y)
  have sp' : zSp c mk S p' := fun s hs => Classical.byContradiction fun y => by
    obtain ⟨f2, z2⟩ := z' s hs
    refine k3 f2 (t' s) ?_ (zTot_sub (fun i hi si => zPt_bit.mpr ⟨si, Classical.byContradiction fun w => y ⟨i, hi, si, w⟩⟩) z2)
    have : s = 0 ∨ s = 1 ∨ s = 2 := by omega
    rcases this with e | e | e <;> subst e <;> omega
  have := hB p' hp' hf t' sp' z'
  omega
theorem r_sf100 {rB : Int32 → Int64 → Int64 → Int32 → Int32 → Int32 → xSt → Option (Int32 × xSt)} {a8 : Int32} (H : zH n c mk γ J U u0 x0) (hS : zCl (n * (n - 1) / 2) c mk x0 x (zSt lo hi)) (hl : l ≤ 1000000) {e : Nat} (he : e ≤ 1000000) (hB : ∀ p l g, p < n * (n - 1) / 2 → l ≤ 999999 → zQ r g n J U c mk γ → ∃ v g', rB (nI p) (nL lo) (nL hi) (nI x) (nI l) (nI d) g = some (nI v, g') ∧ zQ r g' n J U c mk γ ∧ zFr r g g' ∧ v ≤ 1000000 ∧ zTb (n * (n - 1) / 2) c mk γ (zSt lo hi) p l v ∧ 1 ≤ v) : ∀ m p B g, m + p = n * (n - 1) / 2 → zQ r g n J U c mk γ → 1 ≤ B → B ≤ 1000000 → (B ≤ l → ∃ f, zTot (n * (n - 1) / 2) c mk γ f B (zSt lo hi)) → (∀ p', p' < p → zFi (zFm n u0 x) (zAB n p').1 (zAB n p').2 = true → ∀ t : Nat → Nat, zSp c mk (zSt lo hi) p' → (∀ s, s < 3 → ∃ f, zTot (n * (n - 1) / 2) c mk γ f (t s) (zPt mk (zSt lo hi) p' s)) → B ≤ yCn (zSt lo hi) c + (t 0 + t 1 + t 2)) → ∃ B' g', xlim (S_X8_sumFrom_100 rB (nL lo) (nL hi) (nI x) (nI l) (nI d) a8 (nI e) (nI (zFm n u0 x))) (nI B, nI p, g) = some (nI B', g') ∧ zQ r g' n J U c mk γ ∧ zFr r g g' ∧ 1 ≤ B' ∧ B' ≤ 1000000 ∧ (B' ≤ l → ∃ f, zTot (n * (n - 1) / 2) c mk γ f B' (zSt lo hi)) ∧ (B' ≤ e ∨ ∀ p', p' < n * (n - 1) / 2 → zFi (zFm n u0 x) (zAB n p').1 (zAB n p').2 = true → ∀ t : Nat → Nat, zSp c mk (zSt lo hi) p' → (∀ s, s < 3 → ∃ f, zTot (n * (n - 1) / 2) c mk γ f (t s) (zPt mk (zSt lo hi) p' s)) → B' ≤ yCn (zSt lo hi) c + (t 0 + t 1 + t 2)) := by
  have hn := H.1
  have hP := (yPs_3 n (by omega)).2.2
  have h32 : 2 ^ n ≤ 32 := Nat.pow_le_pow_right (n := 2) (by decide) hn
  have fl : zFm n u0 x < 32 := Nat.lt_of_lt_of_le yBs_lt h32
  intro m
  induction m with
  | zero =>
    intro p B g hp q h1 h2 hu hb
    have : p = n * (n - 1) / 2 := by omega
    subst this
    refine ⟨B, g, xlim_end ?_, q, zFr.refl, h1, h2, hu, Or.inr hb⟩
    unfold S_X8_sumFrom_100
    simp only [r_pairsN hn q.1.1]
    exact if_pos (nI_le (Nat.le_refl _) (by omega))
  | succ m ih =>
    intro p B g hp q h1 h2 hu hb
    have hpp : p < n * (n - 1) / 2 := by omega
    by_cases c1 : B ≤ e
    · refine ⟨B, g, xlim_end ?_, q, zFr.refl, h1, h2, hu, Or.inl c1⟩
      unfold S_X8_sumFrom_100
      simp only [r_pairsN hn q.1.1, if_neg (nI_ge hpp (show n * (n - 1) / 2 < 2 ^ 31 by omega)), if_pos (nI_le c1 (show e < 2 ^ 31 by omega))]
    · have nb := nI_ge (show e < B by omega) (show B < 2 ^ 31 by omega)
      by_cases f : zFi (zFm n u0 x) (zAB n p).1 (zAB n p).2 = true
      · obtain ⟨v, g', b1, b2, b3, b4, ⟨b5, b7⟩, b6⟩ := hB p (min l (B - 1)) g hpp (by omega) q
        have eB : nI B - 1 = nI (B - 1) := by
          have : nI B = nI (B - 1) + 1 := by rw [nI_1]; congr 1; omega
          rw [this]
          exact Int32.add_sub_cancel _ _
        have st : S_X8_sumFrom_100 rB (nL lo) (nL hi) (nI x) (nI l) (nI d) a8 (nI e) (nI (zFm n u0 x)) (nI B, nI p, g) = some (.inl (nI (min B v), nI (p + 1), g')) := by
          unfold S_X8_sumFrom_100
          simp only [r_pairsN hn q.1.1, if_neg (nI_ge hpp (show n * (n - 1) / 2 < 2 ^ 31 by omega)), if_neg nb, r_firstLike hn q.2.1 hpp fl, if_pos f, if_neg (show ¬ (1 : Int32) = 0 by decide), eB, r_imin (show l < 2 ^ 31 by omega) (show B - 1 < 2 ^ 31 by omega), b1, xb2_some, r_imin (show B < 2 ^ 31 by omega) (show v < 2 ^ 31 by omega), nI_1]
        obtain ⟨B', g2, i1, i2, i3, i4⟩ := ih (p + 1) (min B v) g' (by omega) b2 (by omega) (by omega) (fun z => by
          by_cases y : B ≤ v
          · rw [Nat.min_eq_left y] at z ⊢; exact hu z
          · have y : v < B := by omega
            rw [Nat.min_eq_right (by omega)] at z ⊢
            obtain ⟨t, t1, t2⟩ := b7 (by omega)
            obtain ⟨f0, z0⟩ := t2 0 (by decide)
            obtain ⟨f1, z1⟩ := t2 1 (by decide)
            obtain ⟨f2, z2⟩ := t2 2 (by decide)
            refine ⟨f0 + f1 + f2 + 1, Or.inr ⟨p, hpp, t, t1, fun s hs => ?_⟩⟩
            have : s = 0 ∨ s = 1 ∨ s = 2 := by omega
            rcases this with w | w | w <;> subst w
            · exact zTot_le z0 (by omega) (Nat.le_refl _)
            · exact zTot_le z1 (by omega) (Nat.le_refl _)
            · exact zTot_le z2 (by omega) (Nat.le_refl _)) (fun p' hp' hf t sp z => by
          by_cases y : p' = p
          · subst y
            have := b5 t sp z
            omega
          · have := hb p' (by omega) hf t sp z
            omega)
        exact ⟨B', g2, (xlim_go st).trans i1, i2, b3.tr i3, i4⟩
      · have st : S_X8_sumFrom_100 rB (nL lo) (nL hi) (nI x) (nI l) (nI d) a8 (nI e) (nI (zFm n u0 x)) (nI B, nI p, g) = some (.inl (nI B, nI (p + 1), g)) := by
          unfold S_X8_sumFrom_100
          simp only [r_pairsN hn q.1.1, if_neg (nI_ge hpp (show n * (n - 1) / 2 < 2 ^ 31 by omega)), if_neg nb, r_firstLike hn q.2.1 hpp fl, if_neg f, nI_1]
          exact if_pos trivial
        rw [xlim_go st]
        exact ih (p + 1) B g (by omega) q h1 h2 hu (fun p' hp' hf t sp z => by
          by_cases y : p' = p
          · subst y; exact absurd hf f
          · exact hb p' (by omega) hf t sp z)
theorem r_knownS {S : Nat → Bool} {v : Int32} {P : Nat} (h : zOkS P c mk γ S v) : (∃ k, 0 < k ∧ k ≤ 1000000 ∧ v = nI k ∧ zTw P c mk γ S k k) ∨ ∃ k, k ≤ 1000000 ∧ ¬ 0 < v ∧ -v = nI k ∧ ∀ f k', zTot P c mk γ f k' S → k ≤ k' := by
  rcases h with rfl | ⟨k, h0, h1, h2, h3⟩
  · exact Or.inr ⟨0, by omega, by decide, rfl, fun _ _ _ => Nat.zero_le _⟩
  · have lb : ∀ f k', zTot P c mk γ f k' S → k ≤ k' := fun f k' z => Classical.byContradiction fun y => h2 f (zTot_k z (by omega))
    rcases h3 with ⟨e, h4⟩ | e
    · exact Or.inl ⟨k, h0, h1, e, lb, fun _ => h4⟩
    · obtain ⟨n1, n2⟩ := r_neg k h1 h0
      exact Or.inr ⟨k, h1, by rw [e]; exact n1, by rw [e]; exact n2, lb⟩
theorem r_sFrom {rB : Int32 → Int64 → Int64 → Int32 → Int32 → Int32 → xSt → Option (Int32 × xSt)} (hr : 0 < r) (hr2 : r < 2 ^ 31) (H : zH n c mk γ J U u0 x0) (q : zQ r g n J U c mk γ) (h : zIn c lo hi) (hS : zCl (n * (n - 1) / 2) c mk x0 x (zSt lo hi)) (hd : d ≤ 12) (hl : l ≤ 1000000) (hB : ¬ zAl c γ (zSt lo hi) → ∀ p l g, p < n * (n - 1) / 2 → l ≤ 999999 → zQ r g n J U c mk γ → ∃ v g', rB (nI p) (nL lo) (nL hi) (nI x) (nI l) (nI d) g = some (nI v, g') ∧ zQ r g' n J U c mk γ ∧ zFr r g g' ∧ v ≤ 1000000 ∧ zTb (n * (n - 1) / 2) c mk γ (zSt lo hi) p l v ∧ 1 ≤ v) : ∃ v g', E_X8_sumFrom rB (nL lo) (nL hi) (nI x) (nI l) (nI d) g = some (nI v, g') ∧ zQ r g' n J U c mk γ ∧ zFr r g g' ∧ v ≤ 1000000 ∧ zTw (n * (n - 1) / 2) c mk γ (zSt lo hi) l v := by
  have hn := H.1
  have hP := (yPs_3 n (by omega)).2.2
  have P2 : 2 ^ (n * (n - 1) / 2) ≤ 1024 := Nat.pow_le_pow_right (n := 2) (by decide) hP
  have hx2 : x < 1024 := Nat.lt_of_lt_of_le hS.1 P2
  unfold E_X8_sumFrom
  rw [r_isAlikeS H.2.1 q.2.2.2.1 h]
  by_cases al : zAl c γ (zSt lo hi)
  · rw [if_pos al, if_neg (by decide)]
    exact ⟨0, g, rfl, q, zFr.refl, by omega, fun _ _ _ => Nat.zero_le _, fun _ => ⟨0, al⟩⟩
  · rw [if_neg al, if_pos rfl, if_pos (show nI d ≤ (12 : Int32) from nI_le hd (by decide))]
    obtain ⟨s, g2, s1, s2, s3, s4⟩ := zSl_ok q hr2 h
    obtain ⟨g3, j1, j2, j3⟩ := zOr_ok s2 H hx2
    obtain ⟨w, w1, w2, -, w4⟩ := r_leastSum (H.ql j2) h (zJo_le (J := J) (x := x) hn).2
    have wl : ∀ f k, zTot (n * (n - 1) / 2) c mk γ f k (zSt lo hi) → w ≤ k := fun f k z => w4 f k z fun al => zJo_S H hS al z
    have hz : xat (xI g2 87) 4096 s = 0 ∨ ∃ k, s = nI k ∧ zAt g2 r k lo hi ∧ xat (xI g2 87) 4096 s = xI g2 87 k := by
      rcases s4 with e | ⟨k, e, a⟩
      · left; rw [e]; unfold xat; rw [if_pos (Or.inl (by decide))]
      · exact Or.inr ⟨k, e, a, by rw [e, xat_nI a.1 (by decide)]⟩
    have ok : zOkS (n * (n - 1) / 2) c mk γ (zSt lo hi) (xat (xI g2 87) 4096 s) := by
      rcases hz with e | ⟨k, e, a, e2⟩
      · rw [e]; exact Or.inl rfl
      · obtain ⟨b1, b2⟩ := zIn_lt h
        rw [e2]
        exact (zMe_at hr hr2 b1 b2 s2.2.2.2.2 a).2
    rw [s1, xb2_some, j1, xb2_some, w1, xb1_some]
    generalize xat (xI g2 87) 4096 s = kn at ok
    rcases r_knownS ok with ⟨k, k0, k1, rfl, k2⟩ | ⟨k, k1, k2, k3, k4⟩
    · rw [if_pos (show (0 : Int32) < nI k from nI_lt (a := 0) (by omega) (by omega))]
      refine ⟨k, g3, ?_, j2, s3.tr j3, k1, k2.1, fun _ => k2.2 (Nat.le_refl _)⟩
      unfold K_X8_sumFrom_72
      rw [if_neg (show ¬ nI k ≤ (0 : Int32) from fun z => absurd (show nI k ≤ nI 0 from z) (nI_ge (by omega) (by omega)))]
    · rw [if_neg k2, k3, r_imax (by omega) (by omega)]
      by_cases c1 : max w k ≤ l
      · rw [if_pos (nI_le c1 (show l < 2 ^ 31 by omega)), r_freeThings hn j2.1.1 j2.2.1 H.2.2.2.2.2.1 (by rw [j2.1.1, j2.1.2.2.1]; exact H.2.2.2.2.2.2.2.1) hx2, xb1_some]
        obtain ⟨B, g4, f1, f2, f3, f4, f5, f6, f7⟩ := r_sf100 (a8 := s) H hS hl (show max w k ≤ 1000000 by omega) (hB al) (n * (n - 1) / 2) 0 1000000 g3 (by omega) j2 (by omega) (by omega) (fun _ => by
          obtain ⟨k, k1, k2⟩ := zTot_1200 H (zSt lo hi)
          exact ⟨_, zTot_k k2 (by omega)⟩) (fun p' hp' => absurd hp' (by omega))
        rw [show ((1000000 : Int32), (0 : Int32), g3) = (nI 1000000, nI 0, g3) from rfl, f1, xb1_some]
        have lb : ∀ f k', zTot (n * (n - 1) / 2) c mk γ f k' (zSt lo hi) → B ≤ k' := fun f k' z => by
          rcases f7 with y | y
          · have := wl f k' z
            have := k4 f k' z
            omega
          · exact zFirstS H hS al y z
        have hs' : s = -1 ∨ ∃ k, s = nI k ∧ zAt g4 r k lo hi := s4.imp id fun ⟨k, e, a⟩ => ⟨k, e, f3.2.2 k lo hi (j3.2.2 k lo hi a)⟩
        unfold K_X8_sumFrom_165
        have val : ((if nI l < nI B then -(nI B) else nI B) = nI B ∧ ∃ f, zTot (n * (n - 1) / 2) c mk γ f B (zSt lo hi)) ∨ (if nI l < nI B then -(nI B) else nI B) = -nI B := by
          by_cases y : B ≤ l
          · rw [if_neg (by rw [nI_ltI (by omega) (by omega)]; omega)]
            exact Or.inl ⟨rfl, f6 y⟩
          · rw [if_pos (by rw [nI_ltI (by omega) (by omega)]; omega)]
            exact Or.inr rfl
        obtain ⟨p1, p2⟩ := zPut_ok (o := 87) (v := if nI l < nI B then -(nI B) else nI B) (Or.inr rfl) f2 hr hr2 h hs' ⟨fun z => absurd z (by decide), fun _ => Or.inr ⟨B, by omega, f5, fun f z => by have := lb _ _ z; omega, val⟩⟩
        exact ⟨B, _, rfl, p1, ((s3.tr j3).tr f3).tr p2, f5, lb, f6⟩
      · rw [if_neg (nI_ge (show l < max w k by omega) (by omega))]
        refine ⟨max w k, g3, ?_, j2, s3.tr j3, by omega, fun f k' z => by have := wl f k' z; have := k4 f k' z; omega, fun z => absurd z c1⟩
        unfold K_X8_sumFrom_72
        rw [if_pos (show kn ≤ (0 : Int32) from Int32.not_lt.mp k2)]
theorem r_sumR (hr : 0 < r) (hr2 : r < 2 ^ 31) (H : zH n c mk γ J U u0 x0) : ∀ m d, 14 ≤ m + d → zRS (R_X8_sum m) r n J U c mk γ x0 d := by
  have hP := (yPs_3 n (by have := H.1; omega)).2.2
  intro m
  induction m with
  | zero =>
    intro d hd x lo hi l g q h hS hdx hl
    have := yCn_le (fun q => x.testBit q) (n * (n - 1) / 2)
    omega
  | succ m ih =>
    intro d hd x lo hi l g q h hS hdx hl
    have := yCn_le (fun q => x.testBit q) (n * (n - 1) / 2)
    show ∃ v g', E_X8_sumFrom (E_X8_sumBehind (R_X8_sum m)) (nL lo) (nL hi) (nI x) (nI l) (nI d) g = some (nI v, g') ∧ _
    refine r_sFrom hr hr2 H q h hS (by omega) hl fun al p l g hp hl q => ?_
    obtain ⟨v, g', z1, z2, z3, z4, z5, z6⟩ := r_sBehind H q h hS hp hdx hl (ih (d + 1) (by omega))
    have le := yCn_le (zSt lo hi) c
    have hc := H.2.1
    have pos : 0 < yCn (zSt lo hi) c := yCn_pos.mpr (Classical.byContradiction fun y => al fun i j hi hj si sj => absurd ⟨i, hi, si⟩ y)
    have := z6 (by omega)
    exact ⟨v, g', z1, z2, z3, z4, z5, by omega⟩
end SU2
