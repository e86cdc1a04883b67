/-! THE SEARCH: free things, first of the like, groups -/
section SM
variable {g g' : xSt} {n c r N lo hi k x u0 : Nat} {mk : Nat → Nat} {γ : Nat → Int32} {J U : Int32}
theorem r_code (hn : n ≤ 5) (h : zCo g n) {p : Nat} (hp : p < n * (n - 1) / 2) : xat (xI g 82) 10 (nI p) = nI (10 * (zAB n p).1 + (zAB n p).2) := by
  obtain ⟨a1, a2, a3⟩ := zAB_lt n (by omega) p hp
  have hP := (yPs_3 n (by omega)).2.2
  rw [xat_nI (by omega) (by decide)]
  have := h.1 _ _ a1 a2
  rw [a3] at this
  exact this
theorem r_pairsN (hn : n ≤ 5) (h3 : xI g 76 3 = nI n) : F_X8_pairs g = nI (n * (n - 1) / 2) := by unfold F_X8_pairs; rw [h3, r_pairs8 n (by omega)]
/-! free things -/
def zFk (n u0 x : Nat) : Nat → Nat
  | 0 => u0
  | p + 1 => if x.testBit p then zFk n u0 x p &&& (31 ^^^ (2 ^ (zAB n p).1 ||| 2 ^ (zAB n p).2)) else zFk n u0 x p
theorem zFk_lt (hu : u0 < 32) : ∀ p, zFk n u0 x p < 32 := by
  intro p
  induction p with
  | zero => exact hu
  | succ p ih =>
    show (if x.testBit p then zFk n u0 x p &&& (31 ^^^ (2 ^ (zAB n p).1 ||| 2 ^ (zAB n p).2)) else zFk n u0 x p) < 32
    split
    · exact Nat.lt_of_le_of_lt Nat.and_le_left ih
    · exact ih
theorem b_31 : ∀ a, a < 5 → ∀ b, b < 5 → ∀ t, t < 5 → (31 ^^^ (2 ^ a ||| 2 ^ b)).testBit t = (!(t == a) && !(t == b)) := by decide +kernel
theorem zFk_bit (hn : n ≤ 5) {t : Nat} (ht : t < n) : ∀ p, p ≤ n * (n - 1) / 2 → ((zFk n u0 x p).testBit t = true ↔ u0.testBit t = true ∧ ∀ q, q < p → x.testBit q = true → t ≠ (zAB n q).1 ∧ t ≠ (zAB n q).2) := by
  intro p
  induction p with
  | zero => intro _; exact ⟨fun z => ⟨z, fun q hq => absurd hq (by omega)⟩, fun z => z.1⟩
  | succ p ih =>
    intro hp
    obtain ⟨a1, a2, -⟩ := zAB_lt n (by omega) p (by omega)
    show (if x.testBit p then zFk n u0 x p &&& (31 ^^^ (2 ^ (zAB n p).1 ||| 2 ^ (zAB n p).2)) else zFk n u0 x p).testBit t = true ↔ _
    by_cases d : x.testBit p = true
    · rw [if_pos d, Nat.testBit_and, Bool.and_eq_true, ih (by omega), b_31 _ (by omega) _ (by omega) _ (by omega), Bool.and_eq_true, Bool.not_eq_true', Bool.not_eq_true', beq_eq_false_iff_ne, beq_eq_false_iff_ne]
      refine ⟨fun ⟨⟨z1, z2⟩, z3⟩ => ⟨z1, fun q hq y => ?_⟩, fun ⟨z1, z2⟩ => ⟨⟨z1, fun q hq y => z2 q (by omega) y⟩, z2 p (by omega) d⟩⟩
      by_cases e : q = p
      · rw [e]; exact z3
      · exact z2 q (by omega) y
    · rw [if_neg d, ih (by omega)]
      refine ⟨fun ⟨z1, z2⟩ => ⟨z1, fun q hq y => ?_⟩, fun ⟨z1, z2⟩ => ⟨z1, fun q hq y => z2 q (by omega) y⟩⟩
      by_cases e : q = p
      · rw [e] at y; exact absurd y d
      · exact z2 q (by omega) y
theorem zFk_fm (hn : n ≤ 5) (hu : u0 < 2 ^ n) : zFk n u0 x (n * (n - 1) / 2) = zFm n u0 x := by
  have h32 : 2 ^ n ≤ 32 := Nat.pow_le_pow_right (n := 2) (by decide) hn
  have sub : ∀ p, zFk n u0 x p ≤ u0 := by
    intro p
    induction p with
    | zero => exact Nat.le_refl _
    | succ p ih =>
      show (if x.testBit p then zFk n u0 x p &&& (31 ^^^ (2 ^ (zAB n p).1 ||| 2 ^ (zAB n p).2)) else zFk n u0 x p) ≤ u0
      split
      · exact Nat.le_trans Nat.and_le_left ih
      · exact ih
  apply Nat.eq_of_testBit_eq
  intro t
  rw [Bool.eq_iff_iff, zFm_bit]
  by_cases ht : t < n
  · rw [zFk_bit hn ht _ (Nat.le_refl _)]
    refine ⟨fun ⟨z1, z2⟩ => ⟨ht, z1, fun u hu' hne y => ?_⟩, fun ⟨_, z1, z2⟩ => ⟨z1, fun q hq y => ?_⟩⟩
    · rcases Nat.lt_or_ge t u with d | d
      · have pl := yPs_1 n (by omega) t (by omega) u hu' d
        have := z2 _ (by rw [← pl.1]; exact pl.2.2) y
        rw [zAB_on n (by omega) t (by omega) u hu' d] at this
        exact this.1 rfl
      · have d : u < t := by omega
        have pl := yPs_1 n (by omega) u (by omega) t ht d
        rw [yPr_comm] at y
        have := z2 _ (by rw [← pl.1]; exact pl.2.2) y
        rw [zAB_on n (by omega) u (by omega) t ht d] at this
        exact this.2 rfl
    · obtain ⟨a1, a2, a3⟩ := zAB_lt n (by omega) q hq
      refine ⟨fun e => ?_, fun e => ?_⟩
      · refine z2 (zAB n q).2 (by omega) (by omega) ?_
        rw [e, a3]; exact y
      · refine z2 (zAB n q).1 (by omega) (by omega) ?_
        rw [yPr_comm, e, a3]; exact y
  · refine ⟨fun z => ?_, fun z => absurd z.1 ht⟩
    have := sub (n * (n - 1) / 2)
    exact absurd (zLt_bit (P := n) (by omega) z) ht
theorem r_free1 : ∀ a, a < 5 → ∀ b, b < 5 → ∀ f, f < 32 → nI f &&& (((1 <<< ((nI (10 * a + b) / 10) &&& 31)) ||| (1 <<< ((nI (10 * a + b) - nI (10 * a + b) / 10 * 10) &&& 31))) ^^^ (-1)) = nI (f &&& (31 ^^^ (2 ^ a ||| 2 ^ b))) := by decide +kernel
theorem r_freeThings (hn : n ≤ 5) (h3 : xI g 76 3 = nI n) (hC : zCo g n) (hu : u0 < 2 ^ n) (hU : ((1 <<< ((xI g 76 3) &&& 31)) - 1) &&& ((xI g 76 5) ^^^ (-1)) = nI u0) (hx : x < 1024) : E_X8_freeThings (nI x) g = some (nI (zFm n u0 x)) := by
  have hP := (yPs_3 n (by omega)).2.2
  have h32 : 2 ^ n ≤ 32 := Nat.pow_le_pow_right (n := 2) (by decide) hn
  have e := xlim_of (step := S_X8_freeThings_18 (nI x) g) (fun j => (nI (zFk n u0 x j), nI j)) (n * (n - 1) / 2) (e := nI (zFk n u0 x (n * (n - 1) / 2))) (fun j hj => ?_) ?_
  · unfold E_X8_freeThings
    rw [hU, show (nI u0, (0 : Int32)) = (nI (zFk n u0 x 0), nI 0) from rfl, e, xb1_some, zFk_fm hn hu]
  · unfold S_X8_freeThings_18
    obtain ⟨a1, a2, -⟩ := zAB_lt n (by omega) j hj
    simp only [r_pairsN hn h3, if_neg (nI_ge hj (show n * (n - 1) / 2 < 2 ^ 31 by omega)), r_xbG (show x < 2 ^ 31 by omega) (show j < 31 by omega), nI_1]
    show _ = some (Sum.inl (nI (if x.testBit j then zFk n u0 x j &&& (31 ^^^ (2 ^ (zAB n j).1 ||| 2 ^ (zAB n j).2)) else zFk n u0 x j), nI (j + 1)))
    by_cases d : x.testBit j = true
    · rw [if_pos d, if_neg (show ¬ (1 : Int32) = 0 by decide), if_pos d]
      unfold F_X8_codeOf
      rw [r_code hn hC hj, r_free1 _ (by omega) _ (by omega) _ (zFk_lt (by omega) j)]
    · rw [if_neg d, if_pos rfl, if_neg d]
  · unfold S_X8_freeThings_18
    simp only [r_pairsN hn h3]
    exact if_pos (nI_le (Nat.le_refl _) (by omega))
theorem r_fl1 : ∀ b, b < 5 → ∀ a, a < b → ∀ f, f < 32 → (if (xbit (nI f) ((nI (10 * a + b)) / 10)) = 0 then if (xbit (nI f) ((nI (10 * a + b)) - (nI (10 * a + b)) / 10 * 10)) = 0 then (1 : Int32) else if (xlow (Int32.toInt64 (nI f &&& ((1 <<< (((nI (10 * a + b)) / 10) &&& 31)) ^^^ (-1))))) = ((nI (10 * a + b)) - (nI (10 * a + b)) / 10 * 10) then 1 else 0 else if (xlow (Int32.toInt64 (nI f))) = ((nI (10 * a + b)) / 10) then if (xbit (nI f) ((nI (10 * a + b)) - (nI (10 * a + b)) / 10 * 10)) = 0 then 1 else if (xlow (Int32.toInt64 (nI f &&& ((1 <<< (((nI (10 * a + b)) / 10) &&& 31)) ^^^ (-1))))) = ((nI (10 * a + b)) - (nI (10 * a + b)) / 10 * 10) then 1 else 0 else 0) = if zFi f a b then 1 else 0 := by decide +kernel
theorem r_firstLike (hn : n ≤ 5) (hC : zCo g n) {p f : Nat} (hp : p < n * (n - 1) / 2) (hf : f < 32) : F_X8_isFirstLike g (nI p) (nI f) = if zFi f (zAB n p).1 (zAB n p).2 then 1 else 0 := by
  obtain ⟨a1, a2, -⟩ := zAB_lt n (by omega) p hp
  unfold F_X8_isFirstLike F_X8_codeOf
  rw [r_code hn hC hp]
  exact r_fl1 _ (by omega) _ a1 f hf
/-! groups -/
def zCi (n a6 a7 : Int32) : (Int32 × Int32) → Option ((Int32 × Int32) ⊕ Int32) := fun s_ => if n ≤ s_.2 then some (.inr s_.1) else some (.inl (s_.1 + (if (if ((s_.1 >>> ((4 * s_.2) &&& 31)) &&& 15) = a7 then (1 : Int32) else (0 : Int32)) = 0 then (0 : Int32) else ((a6 - a7) <<< ((4 * s_.2) &&& 31))), s_.2 + 1))
set_option maxRecDepth 100000 in
theorem cg_in : ∀ n, n < 6 → ∀ L, L ∈ zReach n → ∀ p, p < n * (n - 1) / 2 → xloop (zCi (nI n) (nI (zNb L (zAB n p).1)) (nI (zNb L (zAB n p).2))) 7 (nI L, 0) = some (nI (zMw L (zAB n p).1 (zAB n p).2)) := by decide +kernel
set_option maxRecDepth 100000 in
theorem cg_nb : ∀ n, n < 6 → ∀ L, L ∈ zReach n → ∀ p, p < n * (n - 1) / 2 → (nI L >>> ((4 * (nI (10 * (zAB n p).1 + (zAB n p).2) / 10)) &&& 31)) &&& 15 = nI (zNb L (zAB n p).1) ∧ (nI L >>> ((4 * (nI (10 * (zAB n p).1 + (zAB n p).2) - nI (10 * (zAB n p).1 + (zAB n p).2) / 10 * 10)) &&& 31)) &&& 15 = nI (zNb L (zAB n p).2) := by decide +kernel
theorem zNb_lt (L t : Nat) : zNb L t < 16 := Nat.mod_lt _ (by decide)
theorem r_cg98 (hn : n ≤ 5) (h3 : xI g 76 3 = nI n) {a1 a2 a4 : Int32} {L p : Nat} (hL : L ∈ zReach n) (hp : p < n * (n - 1) / 2) : xlim (S_X8_countGroups_98 a1 a2 a4 (nI (zNb L (zAB n p).1)) (nI (zNb L (zAB n p).2)) 1 g) (nI L, 0) = some (nI (zMw L (zAB n p).1 (zAB n p).2)) := by
  have e : S_X8_countGroups_98 a1 a2 a4 (nI (zNb L (zAB n p).1)) (nI (zNb L (zAB n p).2)) 1 g = zCi (nI n) (nI (zNb L (zAB n p).1)) (nI (zNb L (zAB n p).2)) := by
    funext s_
    unfold S_X8_countGroups_98 K_X8_countGroups_131 zCi
    rw [h3, if_neg (show ¬ (1 : Int32) = 0 by decide)]
  rw [e]
  exact xlim_iff.mpr ⟨7, cg_in n (by omega) L hL p hp⟩
theorem r_cg98z {a1 a2 a4 a6 a7 a3 : Int32} : xlim (S_X8_countGroups_98 a1 a2 a4 a6 a7 0 g) (a3, 0) = some a3 := by
  refine xlim_end ?_
  unfold S_X8_countGroups_98
  rw [if_pos (show (0 : Int32) = 0 from rfl)]
  split <;> rfl
theorem r_countGroups (hn : n ≤ 5) (h3 : xI g 76 3 = nI n) (hC : zCo g n) (hx : x < 1024) : E_X8_countGroups (nI x) g = some (nI (zGroups n x)) := by
  have hP := (yPs_3 n (by omega)).2.2
  have e := xlim_of (step := S_X8_countGroups_11 (nI x) g) (fun j => (nI (zCt n (zGl n x j)), nI (zGl n x j), nI j)) (n * (n - 1) / 2) (e := nI (zCt n (zGl n x (n * (n - 1) / 2)))) (fun j hj => ?_) ?_
  · unfold E_X8_countGroups
    have e0 : zCt n (zGl n x 0) = n := (zReach_0 n (by omega)).2.1
    rw [h3, show (nI n, (274960 : Int32), (0 : Int32)) = (nI (zCt n (zGl n x 0)), nI (zGl n x 0), nI 0) by rw [e0]; rfl, e, xb1_some, zGroups_gl (by omega)]
  · unfold S_X8_countGroups_11
    have rl := zGl_in (x := x) (show n < 6 by omega) j (by omega)
    obtain ⟨n1, n2⟩ := cg_nb n (by omega) _ rl j hj
    obtain ⟨m1, m2, m3⟩ := zMw_1 n (by omega) _ rl j hj
    have l1 := zNb_lt (zGl n x j) (zAB n j).1
    have l2 := zNb_lt (zGl n x j) (zAB n j).2
    have cl := ((zReach_0 n (by omega)).2.2 _ rl).2
    simp only [r_pairsN hn h3, if_neg (nI_ge hj (show n * (n - 1) / 2 < 2 ^ 31 by omega)), r_code hn hC hj, n1, n2, r_xbG (show x < 2 ^ 31 by omega) (show j < 31 by omega)]
    have eL : zGl n x (j + 1) = if x.testBit j then zMw (zGl n x j) (zAB n j).1 (zAB n j).2 else zGl n x j := rfl
    rw [eL]
    have zero : K_X8_countGroups_80 (nI x) (nI (zCt n (zGl n x j))) (nI (zGl n x j)) (nI j) (nI (zNb (zGl n x j) (zAB n j).1)) (nI (zNb (zGl n x j) (zAB n j).2)) 0 g = some (Sum.inl (nI (zCt n (zGl n x j)), nI (zGl n x j), nI (j + 1))) := by
      unfold K_X8_countGroups_80 K_X8_countGroups_93
      rw [if_pos (show (0 : Int32) = 0 from rfl), r_cg98z, xb1_some, nI_1, show nI (zCt n (zGl n x j)) - 0 = nI (zCt n (zGl n x j)) from Int32.sub_zero _]
    by_cases d : x.testBit j = true
    · rw [if_pos d, if_pos d, if_neg (show ¬ (1 : Int32) = 0 by decide)]
      by_cases e : zNb (zGl n x j) (zAB n j).1 = zNb (zGl n x j) (zAB n j).2
      · rw [if_pos (by rw [e]), m2 e]
        exact zero
      · rw [if_neg (fun z => e ((nI_eq (by omega) (by omega)).mp z))]
        unfold K_X8_countGroups_80 K_X8_countGroups_93
        rw [if_neg (show ¬ (1 : Int32) = 0 by decide), r_cg98 hn h3 rl hj, xb1_some, nI_1]
        have := m3 e
        have : nI (zCt n (zGl n x j)) - 1 = nI (zCt n (zMw (zGl n x j) (zAB n j).1 (zAB n j).2)) := by
          rw [← this, ← nI_1]
          exact Int32.add_sub_cancel _ _
        rw [this]
    · rw [if_neg d, if_neg d, if_pos (show (0 : Int32) = 0 from rfl)]
      exact zero
  · unfold S_X8_countGroups_11
    simp only [r_pairsN hn h3]
    exact if_pos (nI_le (Nat.le_refl _) (by omega))
/-- how many weighings more, by the groups -/
def zJo (J : Int32) (n x : Nat) : Nat := if J = 0 then 1 else max 1 (zGroups n x - 1)
theorem r_jo1 : ∀ m, m < 6 → imax 1 (nI m - 1) = nI (max 1 (m - 1)) := by decide +kernel
theorem zJo_le (hn : n ≤ 5) : 1 ≤ zJo J n x ∧ zJo J n x ≤ 5 := by
  have := zGroups_le (x := x) (show n < 6 by omega)
  unfold zJo
  split <;> omega
theorem r_joinsFor (hn : n ≤ 5) (hJ : J = 0 ∨ J = 1) (h3 : xI g 76 3 = nI n) (h4 : xI g 76 4 = J) (hC : zCo g n) (hx : x < 1024) : ∃ g', E_X8_joinsFor (nI x) g = some (nI (zJo J n x), g') ∧ yAg (fun o _ => o = 83) g g' ∧ xL g' = xL g ∧ zCo g' n := by
  have gl := zGroups_le (x := x) (show n < 6 by omega)
  unfold E_X8_joinsFor zJo
  rw [h4]
  rcases hJ with rfl | rfl
  · rw [if_pos rfl, if_pos rfl]
    exact ⟨g, rfl, yAg.refl _ _, rfl, hC⟩
  · rw [if_neg (show ¬ (1 : Int32) = 0 by decide), if_neg (show ¬ (1 : Int32) = 0 by decide), xat_nI hx (by decide)]
    by_cases d : xI g 83 x = 0
    · rw [if_pos d, r_countGroups hn h3 hC hx, xb1_some, xput_nI hx (by decide), xat_nI hx (by decide), yI_wi, if_pos ⟨rfl, rfl⟩, r_jo1 _ (by omega)]
      refine ⟨_, rfl, (yAg.refl _ g).wi rfl, rfl, fun a b ha hb => ?_, fun y hy => ?_⟩
      · rw [yI_wi, if_neg (by omega)]; exact hC.1 a b ha hb
      · rw [yI_wi]
        by_cases e : y = x
        · rw [if_pos ⟨rfl, e⟩, e]; exact Or.inr rfl
        · rw [if_neg (fun z => e z.2)]; exact hC.2 y hy
    · have v := (hC.2 x hx).resolve_left d
      rw [if_neg d, v, r_jo1 _ (by omega)]
      exact ⟨g, rfl, yAg.refl _ _, rfl, hC⟩
end SM
