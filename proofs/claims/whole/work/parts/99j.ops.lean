/-! CALLS 15, 16, 17: fewest, next, total -/
section OQ
variable {g g' g1 : xSt} {β n w om c lo hi k x x0 v p N : Nat} {mk V ρ : Nat → Nat} {γ : Nat → Int32} {T B : yT} {L : List Nat} {J U a1 a2 a3 a4 a5 kk : Int32}
theorem yAg_xf {D : Nat → Nat → Prop} {A : List Nat} {Bb : List (Nat × Nat)} (h : xFr A Bb g g') (hA : ∀ o k, o ∈ A → D o k) (hB : ∀ o k, (o, k) ∈ Bb → D o k) : yAg D g g' := ⟨h.2.2.1, fun o k hk => (h.2.2.2 o (fun m => hk (hA o k m)) k (fun m => hk (hB o k m))).1⟩
/-! the orders left, as the search sees them -/
theorem zVo_ls (hn : n ≤ 5) (hw : w ≤ 1) (hi : yIn n w L) (hu : yUp L) (hm : ∀ i, i < L.length → mk i = yMk n (yPv n w L i)) : zVo n w L.length mk (yPv n w L) := by
  refine ⟨fun i h => ⟨_, hi.2 i h, rfl⟩, hm, fun i j h1 h2 e => ?_⟩
  have ed := yDec_cg n e
  rcases Nat.lt_trichotomy i j with z | z | z
  · have := yPv_lt hn hw hi hu z h2; omega
  · exact z
  · have := yPv_lt hn hw hi hu z h1; omega
theorem zFu_ls (hn : n ≤ 5) (hw : w ≤ 1) (hb : bkOK n B) (hm : ∀ i, i < (yLs B kk n w 0).length → mk i = yMk n (yPv n w (yLs B kk n w 0) i)) : zFu n w (yLs B kk n w 0).length (yPv n w (yLs B kk n w 0)) (zSu mk (yLs B kk n w 0).length (n * (n - 1) / 2)) := fun D hD i hi ag => by
  have hin : yIn n w (yLs B kk n w 0) := yLs_in hn hw
  have hP := (yPs_3 n (by omega)).2.2
  have hV := zVo_ls hn hw hin yUp_ls hm
  have hc : 0 < (yLs B kk n w 0).length := by omega
  obtain ⟨o, ho, eo⟩ := zOd_mem hn hD
  -- what was asked is sure
  have asked : ∀ q, q < B 9 0 → yTd B kk q = true → ∀ j, j < (yLs B kk n w 0).length → ySd (yPv n w (yLs B kk n w 0) j) (yA B q) (yC B q) = B 2 q := fun q hq hT j hj => by
    have mem : (yLs B kk n w 0)[j] ∈ yLs B kk n w 0 := List.getElem_mem hj
    have z := (yLs_mem mem).2
    have z0 := yCn_zero.mp (Nat.le_zero.mp z) q hq
    rw [← yGet hj] at z0
    refine Classical.byContradiction fun y => z0 ?_
    rw [hT, Bool.true_and, Bool.not_eq_true', beq_eq_false_iff_ne]
    exact y
  have wr : yWr B kk (yOr n w o) (B 9 0) = 0 := yCn_zero.mpr fun q hq z => by
    rw [Bool.and_eq_true, Bool.not_eq_true', beq_eq_false_iff_ne] at z
    obtain ⟨a1, a2, a3, a4, -⟩ := r_td hn hb hq (r_tdS z.1).2
    have all := asked q hq z.1
    have sd : ∀ a b, a < b → b < n → ∀ s, s < 3 → (∀ j, j < (yLs B kk n w 0).length → ySf (yDg (yPv n w (yLs B kk n w 0) j)) a b = s) → ySf (yDg (yOr n w o)) a b = s := fun a b hab hbn s hs y => by
      have pl := yPs_1 n (by omega) a (by omega) b hbn hab
      have pp : yPr n a b < n * (n - 1) / 2 := by rw [← pl.1]; exact pl.2.2
      have sure := (zSu_bit (mk := mk) hP hc pp).mpr ⟨s, hs, fun j hj => (zVo_bit hn hw hV hj hab hbn hs).mpr (y j hj)⟩
      have := ag a b hab hbn sure
      rw [y i hi] at this
      rw [← this]
      exact ySf_cg (eo a (by omega)) (eo b hbn)
    refine z.2 ?_
    rcases Nat.lt_or_ge (yA B q) (yC B q) with y | y
    · exact sd _ _ y a2 _ a4 all
    · have y : yC B q < yA B q := by omega
      have f := sd _ _ y a1 (if B 2 q = 0 then 0 else 3 - B 2 q) (by split <;> omega) fun j hj => by
        have := all j hj
        unfold ySd at this
        rw [ySf_flip, this]
      show ySf (yDg (yOr n w o)) (yA B q) (yC B q) = B 2 q
      rw [ySf_flip, f]
      split <;> (try split) <;> omega
  have mem : o ∈ yLs B kk n w 0 := by
    unfold yLs
    rw [List.mem_filter, List.mem_range, decide_eq_true_iff]
    exact ⟨ho, by omega⟩
  obtain ⟨j, hj, ej⟩ := List.getElem_of_mem mem
  refine ⟨j, hj, fun t ht => ?_⟩
  show yDg (yOr n w ((yLs B kk n w 0).getD j 0)) t = D t
  rw [yGet hj, ej]
  exact eo t ht
theorem zU_0 : ∀ n, n < 6 → (((1 : Int32) <<< (nI n &&& 31)) - 1) &&& ((0 : Int32) ^^^ (-1)) = nI (2 ^ n - 1) ∧ 2 ^ n - 1 < 2 ^ n := by decide +kernel
theorem zU_2 : ∀ n, n < 6 → ∀ p, p < n → (((1 : Int32) <<< (nI n &&& 31)) - 1) &&& (((1 : Int32) <<< (nI p &&& 31)) ^^^ (-1)) = nI ((2 ^ n - 1) ^^^ 2 ^ p) ∧ (2 ^ n - 1) ^^^ 2 ^ p < 2 ^ n ∧ ((2 ^ n - 1) ^^^ 2 ^ p).testBit p = false := by decide +kernel
theorem zH_ls (hn : n ≤ 5) (hw : w ≤ 1) (hb : bkOK n B) (hg : yGd n a1 a2) (hc : (yLs B kk n w 0).length ≤ 120) (hmk : ∀ i, i < (yLs B kk n w 0).length → mk i = yMk n (yPv n w (yLs B kk n w 0) i) ∧ γ i = nI (yGc n a1 a2 (yPv n w (yLs B kk n w 0) i))) : ∃ u0, zH n (yLs B kk n w 0).length mk γ (zJ w a1) (zU a1 a2) u0 (zSu mk (yLs B kk n w 0).length (n * (n - 1) / 2)) := by
  have hin : yIn n w (yLs B kk n w 0) := yLs_in hn hw
  have hV := zVo_ls hn hw hin yUp_ls fun i hi => (hmk i hi).1
  have hF := zFu_ls (mk := mk) hn hw hb fun i hi => (hmk i hi).1
  have hu : ∃ u0, u0 < 2 ^ n ∧ (((1 : Int32) <<< (nI n &&& 31)) - 1) &&& (zU a1 a2 ^^^ (-1)) = nI u0 ∧ ∀ p, a1 = 2 → p < n → a2 = nI p → ¬ u0.testBit p = true := by
    rcases hg with rfl | ⟨rfl, p, hp, rfl⟩ | ⟨rfl, p, hp, rfl⟩
    · exact ⟨2 ^ n - 1, (zU_0 n (by omega)).2, (zU_0 n (by omega)).1, fun p z => absurd z (by decide)⟩
    · exact ⟨2 ^ n - 1, (zU_0 n (by omega)).2, (zU_0 n (by omega)).1, fun p z => absurd z (by decide)⟩
    · obtain ⟨z1, z2, z3⟩ := zU_2 n (by omega) p hp
      refine ⟨_, z2, z1, fun p' _ hp' e => ?_⟩
      have := (nI_eq (by omega) (by omega)).mp e
      subst this
      rw [z3]; decide
  obtain ⟨u0, u1, u2, u3⟩ := hu
  refine ⟨u0, hn, hc, fun i hi => ?_, zVo_one hn hw hV, zVo_dif hn hw hV, u1, ?_, u2, zYy_of hn hw hV hF hg (fun i hi => (hmk i hi).2) u3, zJn_of hn hw hV hF hg (fun i hi => (hmk i hi).2) fun z => ?_⟩
  · rw [(hmk i hi).1]; exact (yOr_chk hn hw (hin.2 i hi)).1
  · unfold zJ; split <;> (try split) <;> (try split) <;> simp
  · unfold zJ at z
    by_cases e2 : a1 = 2
    · exact Or.inl e2
    · rw [if_neg e2] at z
      by_cases e1 : a1 = 1
      · rw [if_pos e1] at z
        by_cases e0 : w = 0
        · exact Or.inr ⟨e1, e0⟩
        · rw [if_neg e0] at z; exact absurd z (by decide)
      · rw [if_neg e1] at z; exact absurd z (by decide)
/-! the reference -/
theorem zRb_of (hn : n ≤ 5) (hw : w ≤ 1) (hin : yIn n w L) (hm : ∀ i, i < L.length → mk i = yMk n (yPv n w L i)) (q : yLR g L) (z : zPL g n w L) (hρ : ∀ i, i < L.length → xI g 146 i = nI (ρ i) ∧ ρ i < 100000) : zRb g n L.length mk ρ := by
  refine ⟨q.1, z.1, fun p hp s hs => ?_, hρ⟩
  obtain ⟨a, ha, b, hb, hab, e⟩ := yPr_on n (by omega) p hp
  subst e
  obtain ⟨z1, z2⟩ := z.2 a b hab hb s hs
  have bit : ∀ i, i < L.length → (ySd (yPv n w L i) a b == s) = (mk i).testBit (10 * s + yPr n a b) := fun i hi => by
    have h := (yOr_chk hn hw (hin.2 i hi)).2.2.2 a b s ha hb (by omega) hs
    have eb : yBit n a b s = 10 * s + yPr n a b := by unfold yBit; rw [if_pos (Or.inr hab)]
    rw [eb] at h
    rw [Bool.eq_iff_iff, beq_iff_eq, hm i hi]
    exact h.symm
  rw [z1, z2]
  unfold zLo zHi zml zmh
  exact ⟨congrArg nL (yBs_congr fun i hi => bit i (by omega)), congrArg nL (yBs_congr fun i hi => bit (60 + i) (by omega))⟩
theorem r_clear : ∃ g', E_X12_clearTable g = some g' ∧ yAg dMt g g' ∧ xL g' = xL g ∧ ∀ k, k < 16384 → xI g' 156 k = -1 := by
  have key : ∀ m j g1, m + j = 16384 → yAg dMt g g1 → xL g1 = xL g → (∀ k, k < j → xI g1 156 k = -1) → ∃ g', xlim S_X12_clearTable_2 (nI j, g1) = some g' ∧ yAg dMt g g' ∧ xL g' = xL g ∧ ∀ k, k < 16384 → xI g' 156 k = -1 := by
    intro m
    induction m with
    | zero =>
      intro j g1 hj y hL h
      have : j = 16384 := by omega
      subst this
      refine ⟨g1, xlim_end ?_, y, hL, h⟩
      unfold S_X12_clearTable_2
      exact if_pos (show (16384 : Int32) ≤ nI 16384 from nI_le (a := 16384) (Nat.le_refl _) (by decide))
    | succ m ih =>
      intro j g1 hj y hL h
      have st : S_X12_clearTable_2 (nI j, g1) = some (.inl (nI (j + 1), xWI g1 156 j (-1))) := by
        unfold S_X12_clearTable_2
        simp only [if_neg (show ¬ (16384 : Int32) ≤ nI j by rw [show (16384 : Int32) = nI 16384 from rfl]; exact nI_ge (by omega) (by decide)), xck_nI (show j < 16384 by omega) (show 16384 < 2 ^ 31 by decide), nI_clamp (show j < 2 ^ 31 by omega), nI_1]
      rw [xlim_go st]
      refine ih (j + 1) _ (by omega) (y.wi rfl) hL fun k hk => ?_
      rw [yI_wi]
      by_cases e : k = j
      · rw [if_pos ⟨rfl, e⟩]
      · rw [if_neg (fun z => e z.2)]; exact h k (by omega)
  obtain ⟨g', h1, h2, h3, h4⟩ := key 16384 0 g (by omega) (yAg.refl _ _) rfl (fun k hk => absurd hk (by omega))
  refine ⟨g', ?_, h2, h3, h4⟩
  unfold E_X12_clearTable
  rw [show ((0 : Int32), g) = (nI 0, g) from rfl, h1, xb1_some]
/-- what it answers, and which pair is the first -/
def zAn2 (w n c : Nat) (mk : Nat → Nat) (γ : Nat → Int32) (v : Nat) (a : Int32) : Prop := zVl w (n * (n - 1) / 2) c mk γ (zSt (zA1 c) (zA2 c)) v ∧ ((zAl c γ (zSt (zA1 c) (zA2 c)) ∧ a = -1) ∨ (¬ zAl c γ (zSt (zA1 c) (zA2 c)) ∧ ∃ p0, p0 < n * (n - 1) / 2 ∧ zSp c mk (zSt (zA1 c) (zA2 c)) p0 ∧ v = zPv w (n * (n - 1) / 2) c mk γ (zSt (zA1 c) (zA2 c)) p0 ∧ (∀ p', p' < p0 → zSp c mk (zSt (zA1 c) (zA2 c)) p' → v < zPv w (n * (n - 1) / 2) c mk γ (zSt (zA1 c) (zA2 c)) p') ∧ a = nI p0))
theorem r_lowR : ∀ c, c < 121 → (if nI c < 60 then (1 : Int64) <<< (Int32.toInt64 (nI c) &&& 63) - 1 else 1152921504606846975) = nL (zA1 c) ∧ (if nI c ≤ 60 then (0 : Int64) else (1 : Int64) <<< (Int32.toInt64 (nI c - 60) &&& 63) - 1) = nL (zA2 c) := by decide +kernel
theorem r_solves (K : zK n om w c mk V ρ γ) (b : zRb g n c mk ρ) : ∃ v a g', E_X12_solves (nI w) g = some (nI v, g') ∧ zRb g' n c mk ρ ∧ xI g' 113 71 = a ∧ zAn2 w n c mk γ v a := by
  have hK := K
  obtain ⟨hn, hom, hw, hc, hV, hρ⟩ := K
  have hP := (yPs_3 n (by omega)).2.2
  have hI : zIn c (zA1 c) (zA2 c) := zIn_all hc
  have h0 := zCl_0 (mk := mk) hP hc
  obtain ⟨lw, hh⟩ := r_lowR c (by omega)
  have b0 : zRb (xWI (xWI g 113 72 (nI w)) 113 71 (-1)) n c mk ρ := by
    obtain ⟨b1, ⟨b2, b3⟩, b4, b5⟩ := b
    have e : ∀ o k, ¬ (o = 113 ∧ 70 ≤ k) → xI (xWI (xWI g 113 72 (nI w)) 113 71 (-1)) o k = xI g o k := fun o k h => by rw [yI_wi, if_neg (by omega), yI_wi, if_neg (by omega)]
    exact ⟨(e _ _ (by omega)).trans b1, ⟨(e _ _ (by omega)).trans b2, fun x y p q r => ⟨(e _ _ (by omega)).trans (b3 x y p q r).1, (e _ _ (by omega)).trans (b3 x y p q r).2⟩⟩, b4, fun i hi => ⟨(e _ _ (by omega)).trans (b5 i hi).1, (b5 i hi).2⟩⟩
  obtain ⟨g1, c1, c2, c3, c4⟩ := r_clear (g := xWI (xWI g 113 72 (nI w)) 113 71 (-1))
  have i1 : ∀ o k, o ≠ 156 → xI g1 o k = xI (xWI (xWI g 113 72 (nI w)) 113 71 (-1)) o k := fun o k h => c2.2 o k h
  have b1 : zRb g1 n c mk ρ := b0.fr (l := 0) ⟨c2.up fun o k z => by unfold dMt at z; unfold dLv; omega, fun o k _ _ _ => by rw [c3]⟩
  have e72 : xI g1 113 72 = nI w := by rw [i1 _ _ (by decide), yI_wi, if_neg (by omega), yI_wi, if_pos ⟨rfl, rfl⟩]
  have e71 : xI g1 113 71 = -1 := by rw [i1 _ _ (by decide), yI_wi, if_pos ⟨rfl, rfl⟩]
  have t1 : zRt g1 w n c mk ρ γ (zSu mk c (n * (n - 1) / 2)) := ⟨b1, fun k hk => Or.inl (c4 k hk), e72⟩
  have top : E_X12_solves (nI w) g = K_X12_solves_48 (nI w) (nL (zA1 c)) (nL (zA2 c)) g := by
    unfold E_X12_solves K_X12_solves_23
    rw [b.1, ← lw, ← hh]
    by_cases d : nI c < (60 : Int32)
    · rw [if_pos d, if_pos d]
      by_cases e : nI c ≤ (60 : Int32)
      · rw [if_pos e, if_pos e]
      · rw [if_neg e, if_neg e]
    · rw [if_neg d, if_neg d]
      by_cases e : nI c ≤ (60 : Int32)
      · rw [if_pos e, if_pos e]
      · rw [if_neg e, if_neg e]
  have w01 : nI w = 0 ∨ nI w = 1 := by
    have : w = 0 ∨ w = 1 := by omega
    rcases this with e | e <;> rw [e]
    · exact Or.inl rfl
    · exact Or.inr rfl
  rw [top]
  unfold K_X12_solves_48
  rw [xz01_in w01, c1, xb1_some, r_isCome hc b1 hρ hI, xb1_some]
  by_cases al : zAl c γ (zSt (zA1 c) (zA2 c))
  · rw [if_pos al, if_neg (by decide)]
    exact ⟨0, -1, g1, rfl, b1, e71, zVl_al al, Or.inl ⟨al, rfl⟩⟩
  · rw [if_neg al, if_pos rfl]
    have fr0 : zLf 0 g1 (xWI g1 113 70 0) := ⟨(yAg.refl _ g1).wi (by unfold dLv; omega), fun _ _ _ _ _ => rfl⟩
    have t2 : zRt (xWI g1 113 70 0) w n c mk ρ γ (zSu mk c (n * (n - 1) / 2)) := t1.fr fr0 (fun k => by rw [yI_wi, if_neg (by omega)]) (fun _ => rfl) (fun _ => rfl)
    obtain ⟨g2, d1, d2, d3, d4, d5⟩ := r_enter (l := 0) (lo := zA1 c) (hi := zA2 c) (by decide) (show xI (xWI g1 113 70 0) 113 70 = nI 0 by rw [yI_wi, if_pos ⟨rfl, rfl⟩]; rfl) t2
    obtain ⟨v, its', g3, v1, v2, v3, v4, v5, v6, v7⟩ := r_level hK (n * (n - 1) / 2) 0 _ _ _ g2 0 (by omega) (Nat.zero_le _) d3 hI h0 al d2 (fun _ => by rw [d5, yI_wi, if_neg (by omega)]; exact e71)
    obtain ⟨p0, p1, p2, p3, p4, p5⟩ := v7 rfl
    have ne : ∃ i, i < c ∧ zSt (zA1 c) (zA2 c) i = true := Classical.byContradiction fun z => al fun i j hi' hj si sj => absurd ⟨i, hi', si⟩ z
    obtain ⟨g4, f1, f2, f3⟩ := r_final0 (its := its') hK v4 hI ⟨_, h0⟩ ne (by omega) v6 v2
    have d1 : E_X12_enter (nL (zA1 c)) (nL (zA2 c)) (xWI g1 113 70 0) = some g2 := d1
    rw [d1, xb1_some, v1, f1, xb1_some]
    exact ⟨v, nI p0, g4, rfl, f2, f3.trans p5, v6, Or.inr ⟨al, p0, p1, p2, p3, p4, rfl⟩⟩
/-- the first pair's number -/
theorem r_pairNumber (hn : n ≤ 5) (b : zRb g n c mk ρ) : (xI g 113 71 = -1 → E_X12_pairNumber g = some (-1)) ∧ ∀ p, p < n * (n - 1) / 2 → xI g 113 71 = nI p → E_X12_pairNumber g = some (nI (10 * (zAB n p).1 + (zAB n p).2)) := by
  have hP := (yPs_3 n (by omega)).2.2
  refine ⟨fun e => ?_, fun p hp e => ?_⟩
  · unfold E_X12_pairNumber
    rw [e, if_neg (by decide)]
  · obtain ⟨a1, a2, a3⟩ := zAB_lt n (by omega) p hp
    obtain ⟨z1, z2⟩ := b.2.1.2 _ _ a1 a2 (by rw [a3]; exact hp)
    rw [a3] at z1 z2
    unfold E_X12_pairNumber
    rw [e, if_pos (show (0 : Int32) ≤ nI p from nI_le (a := 0) (Nat.zero_le _) (by omega)), xck_nI (show p < 10 by omega) (by decide), xck_nI (show p < 10 by omega) (by decide), nI_clamp (by omega), z1, z2, show (10 : Int32) = nI 10 from rfl, nI_mul, nI_add]
/-! both sides meet -/
theorem zPv_ach (hP : n * (n - 1) / 2 ≤ 10) (hc : c ≤ 120) (hd : zDif (n * (n - 1) / 2) c mk γ) (ho : zOne (n * (n - 1) / 2) c mk) {S : Nat → Bool} (hv : 0 < v) : zAch (n * (n - 1) / 2) c mk γ S v p ↔ zSp c mk S p ∧ zPv 0 (n * (n - 1) / 2) c mk γ S p ≤ v := by
  have ok := fun s => ((zNv_ok (w := 0) hP hc hd ho (zPt mk S p s)).2).1 rfl
  have pv : zPv 0 (n * (n - 1) / 2) c mk γ S p = max (max (max 0 (zNv 0 (n * (n - 1) / 2) c mk γ (zPt mk S p 0))) (zNv 0 (n * (n - 1) / 2) c mk γ (zPt mk S p 1))) (zNv 0 (n * (n - 1) / 2) c mk γ (zPt mk S p 2)) + 1 := rfl
  unfold zAch
  rw [pv]
  refine and_congr Iff.rfl ⟨fun z => ?_, fun z s hs => zCan_le (ok s).1 ?_⟩
  · have v0 := (ok 0).2 _ (z 0 (by decide))
    have v1 := (ok 1).2 _ (z 1 (by decide))
    have v2 := (ok 2).2 _ (z 2 (by decide))
    omega
  · have : s = 0 ∨ s = 1 ∨ s = 2 := by omega
    rcases this with y | y | y <;> subst y <;> omega
theorem zPv_acs (hP : n * (n - 1) / 2 ≤ 10) (hc : c ≤ 120) (hd : zDif (n * (n - 1) / 2) c mk γ) (ho : zOne (n * (n - 1) / 2) c mk) {S : Nat → Bool} : zAcS (n * (n - 1) / 2) c mk γ S v p ↔ zSp c mk S p ∧ zPv 1 (n * (n - 1) / 2) c mk γ S p ≤ v := by
  have ok := fun s => ((zNv_ok (w := 1) hP hc hd ho (zPt mk S p s)).2).2 (by decide)
  have pv : zPv 1 (n * (n - 1) / 2) c mk γ S p = (0 + zNv 1 (n * (n - 1) / 2) c mk γ (zPt mk S p 0) + zNv 1 (n * (n - 1) / 2) c mk γ (zPt mk S p 1) + zNv 1 (n * (n - 1) / 2) c mk γ (zPt mk S p 2)) + yCn S c := rfl
  unfold zAcS
  rw [pv]
  refine and_congr Iff.rfl ⟨fun ⟨t, t1, z⟩ => ?_, fun z => ⟨fun s => zNv 1 (n * (n - 1) / 2) c mk γ (zPt mk S p s), ?_, fun s hs => (ok s).1⟩⟩
  · obtain ⟨f0, z0⟩ := z 0 (by decide)
    obtain ⟨f1, z1⟩ := z 1 (by decide)
    obtain ⟨f2, z2⟩ := z 2 (by decide)
    have v0 := (ok 0).2 _ _ z0
    have v1 := (ok 1).2 _ _ z1
    have v2 := (ok 2).2 _ _ z2
    omega
  · show yCn S c + (zNv 1 (n * (n - 1) / 2) c mk γ (zPt mk S p 0) + zNv 1 (n * (n - 1) / 2) c mk γ (zPt mk S p 1) + zNv 1 (n * (n - 1) / 2) c mk γ (zPt mk S p 2)) ≤ v
    omega
/-- the same pair's number -/
theorem zNx_eq {A : Nat → Prop} {a : Int32} {Q : Nat → Prop} {f : Nat → Nat} (h : zNx n v A a) (hA : ∀ p, 0 < v → (A p ↔ Q p ∧ f p ≤ v)) {p0 : Nat} (hp : p0 < n * (n - 1) / 2) (hv : 0 < v) (q0 : Q p0) (e : v = f p0) (hl : ∀ p', p' < p0 → Q p' → v < f p') : a = nI (10 * (zAB n p0).1 + (zAB n p0).2) := by
  rcases h with ⟨z, -⟩ | ⟨-, p, p1, p2, p3, p4⟩
  · omega
  · have q := (hA p hv).mp p2
    have : p = p0 := by
      rcases Nat.lt_trichotomy p p0 with y | y | y
      · have := hl p y q.1; omega
      · exact y
      · exact absurd ((hA p0 hv).mpr ⟨q0, by omega⟩) (p3 p0 y)
    rw [p4, this]
end OQ
