/-! THE SEARCH: kinds, the least in the worst case and together -/
section LS
variable {g g' : xSt} {n c r N lo hi k x u0 P x0 : Nat} {mk : Nat → Nat} {γ : Nat → Int32} {J U : Int32} {κ : Nat → Nat} {K : Nat}
theorem zKd_inj (h1 : ∀ i, i < c → κ i < c) (h2 : ∀ k, k < c → ∃ i, i < c ∧ κ i = k) {i j : Nat} (hi : i < c) (hj : j < c) (e : κ i = κ j) : i = j := by
  refine Decidable.byContradiction fun ne => ?_
  have ex : ∀ k, ∃ i, k < c → i < c ∧ κ i = k := fun k => by
    by_cases hk : k < c
    · obtain ⟨i, a, b⟩ := h2 k hk; exact ⟨i, fun _ => ⟨a, b⟩⟩
    · exact ⟨0, fun z => absurd z hk⟩
  let v : Nat → Nat := fun k => Classical.choose (ex k)
  have hv : ∀ k, k < c → v k < c ∧ κ (v k) = k := fun k hk => Classical.choose_spec (ex k) hk
  have vi : ∀ a b, a < c → b < c → v a = v b → a = b := fun a b ha hb e => by rw [← (hv a ha).2, ← (hv b hb).2, e]
  have miss : ∃ u, u < c ∧ ∀ k, k < c → v k ≠ u := by
    by_cases d : v (κ i) = i
    · exact ⟨j, hj, fun k hk z => by
        have := (hv k hk).2
        rw [z] at this
        rw [← this, ← e, d] at z
        exact ne z⟩
    · exact ⟨i, hi, fun k hk z => by
        have := (hv k hk).2
        rw [z] at this
        rw [← this] at z
        exact d z⟩
  obtain ⟨u, hu, mu⟩ := miss
  have l := yCn_inj (c' := c) v c (fun _ => true) (fun x => true && !(x == u)) (fun k hk _ => ⟨(hv k hk).1, by rw [show (v k == u) = false from beq_false_of_ne (mu k hk)]; rfl⟩) (fun a b ha hb _ _ => vi a b ha hb)
  have := yCn_rem (p := fun _ => true) hu rfl
  omega
theorem zKd_cn {S : Nat → Bool} (h1 : ∀ i, i < c → κ i < c) (hi : ∀ i j, i < c → j < c → κ i = κ j → i = j) : zKd κ c c S = yCn S c := by
  refine Nat.le_antisymm ?_ ?_
  · have ex : ∀ k, ∃ i, (∃ i, i < c ∧ S i = true ∧ κ i = k) → i < c ∧ S i = true ∧ κ i = k := fun k => by
      by_cases hk : ∃ i, i < c ∧ S i = true ∧ κ i = k
      · obtain ⟨i, a⟩ := hk; exact ⟨i, fun _ => a⟩
      · exact ⟨0, fun z => absurd z hk⟩
    refine yCn_inj (fun k => Classical.choose (ex k)) c _ S (fun k _ pk => ?_) (fun a b _ _ pa pb e => ?_)
    · have := Classical.choose_spec (ex k) (zKd_mem.mp pk)
      exact ⟨this.1, this.2.1⟩
    · have q1 := Classical.choose_spec (ex a) (zKd_mem.mp pa)
      have q2 := Classical.choose_spec (ex b) (zKd_mem.mp pb)
      have e : Classical.choose (ex a) = Classical.choose (ex b) := e
      rw [← q1.2.2, ← q2.2.2, e]
  · exact yCn_inj κ c S _ (fun i hi' si => ⟨h1 i hi', zKd_mem.mpr ⟨i, hi', si, rfl⟩⟩) (fun a b ha hb _ _ e => hi a b ha hb e)
theorem nAnd_0 {a b : Nat} : a &&& b = 0 ↔ ∀ i, a.testBit i = true → ¬ b.testBit i = true := by
  refine ⟨fun h i z y => ?_, fun h => Nat.eq_of_testBit_eq fun i => ?_⟩
  · have := congrArg (fun v => v.testBit i) h
    simp only [Nat.testBit_and, z, y, Bool.and_self, Nat.zero_testBit] at this
    exact absurd this (by decide)
  · rw [Nat.testBit_and, Nat.zero_testBit]
    by_cases e : a.testBit i = true
    · rw [e, Bool.eq_false_iff.mpr (h i e)]; rfl
    · rw [Bool.eq_false_iff.mpr e]; rfl
/-- what finish has laid, in words of one set of kinds -/
def zKi (g : xSt) (c : Nat) (γ : Nat → Int32) (κ : Nat → Nat) (K : Nat) : Prop := K ≤ c ∧ xI g 76 9 = nI K ∧ (∀ i, i < c → κ i < K ∧ xI g 79 i = nI (κ i)) ∧ (∀ i j, i < c → j < c → (κ i = κ j ↔ γ i = γ j)) ∧ (∀ k, k < K → (∃ i, i < c ∧ κ i = k) ∧ xL g 80 (2 * k) = nL (yBs (fun i => κ i == k) (min c 60)) ∧ xL g 80 (2 * k + 1) = nL (yBs (fun i => κ (60 + i) == k) (c - 60)))
theorem r_kindsIn (hc : c ≤ 120) (h2 : xI g 76 2 = nI c) (f : zKi g c γ κ K) (h : zIn c lo hi) : E_X8_kindsIn (nL lo) (nL hi) g = some (nI (zKd κ K c (zSt lo hi))) := by
  obtain ⟨f1, f2, f3, f4, f5⟩ := f
  obtain ⟨b1, b2⟩ := zIn_lt h
  unfold E_X8_kindsIn
  rw [f2, h2]
  by_cases d : K = c
  · subst d
    rw [if_pos rfl, r_bclS hc h, zKd_cn (fun i hi => (f3 i hi).1) (fun i j hi hj e => zKd_inj (fun i hi => (f3 i hi).1) (fun k hk => (f5 k hk).1) hi hj e)]
  · rw [if_neg (fun z => d ((nI_eq (by omega) (by omega)).mp z))]
    have e := xlim_of (step := S_X8_kindsIn_27 (nL lo) (nL hi) g) (fun j => (nI (yCn (fun k => decide (0 < yCn (fun i => zSt lo hi i && (κ i == k)) c)) j), nI (2 * j))) K (e := nI (zKd κ K c (zSt lo hi))) (fun j hj => ?_) ?_
    · rw [show ((0 : Int32), (0 : Int32)) = (nI (yCn (fun k => decide (0 < yCn (fun i => zSt lo hi i && (κ i == k)) c)) 0), nI (2 * 0)) from rfl, e, xb1_some]
    · unfold S_X8_kindsIn_27
      obtain ⟨-, m1, m2⟩ := f5 j hj
      have i1 : nI (2 * j) + 1 = nI (2 * j + 1) := nI_1 _
      have i2 : nI (2 * j) + 2 = nI (2 * (j + 1)) := nI_add (2 * j) 2
      simp only [f2, show (2 : Int32) * nI K = nI (2 * K) from nI_mul 2 K, if_neg (nI_ge (show 2 * j < 2 * K by omega) (show 2 * K < 2 ^ 31 by omega)), i1, i2, xatL_nI (show 2 * j < 240 by omega) (show 240 < 2 ^ 31 by decide), xatL_nI (show 2 * j + 1 < 240 by omega) (show 240 < 2 ^ 31 by decide), m1, m2, nL_and]
      have q1 : lg_cmp (nL (lo &&& yBs (fun i => κ i == j) (min c 60))) 0 = 0 ↔ ∀ i, lo.testBit i = true → ¬ κ i = j := (nL_non (Nat.lt_of_le_of_lt Nat.and_le_left b1)).trans (nAnd_0.trans ⟨fun z i y w => z i y (yBs_bit.mpr ⟨by have := h.1 i y; omega, beq_iff_eq.mpr w⟩), fun z i y w => z i y (beq_iff_eq.mp (yBs_bit.mp w).2)⟩)
      have q2 : lg_cmp (nL (hi &&& yBs (fun i => κ (60 + i) == j) (c - 60))) 0 = 0 ↔ ∀ i, hi.testBit i = true → ¬ κ (60 + i) = j := (nL_non (Nat.lt_of_le_of_lt Nat.and_le_left b2)).trans (nAnd_0.trans ⟨fun z i y w => z i y (yBs_bit.mpr ⟨by have := h.2 i y; omega, beq_iff_eq.mpr w⟩), fun z i y w => z i y (beq_iff_eq.mp (yBs_bit.mp w).2)⟩)
      have none' : ¬ (decide (0 < yCn (fun i => zSt lo hi i && (κ i == j)) c) = true) ↔ (∀ i, lo.testBit i = true → ¬ κ i = j) ∧ ∀ i, hi.testBit i = true → ¬ κ (60 + i) = j := by
        rw [zKd_mem]
        constructor
        · intro z
          refine ⟨fun i y w => z ⟨i, (h.1 i y).2, ?_, w⟩, fun i y w => z ⟨60 + i, (h.2 i y).2, ?_, w⟩⟩
          · unfold zSt; rw [if_pos (h.1 i y).1]; exact y
          · unfold zSt; rw [if_neg (by omega), show 60 + i - 60 = i by omega]; exact y
        · rintro ⟨z1, z2⟩ ⟨i, y1, y2, y3⟩
          unfold zSt at y2
          by_cases w : i < 60
          · rw [if_pos w] at y2; exact z1 i y2 y3
          · rw [if_neg w] at y2
            have := z2 _ y2
            rw [show 60 + (i - 60) = i by omega] at this
            exact this y3
      rw [yCn_succ]
      by_cases d1 : ∀ i, lo.testBit i = true → ¬ κ i = j
      · rw [if_pos (q1.mpr d1)]
        by_cases d2 : ∀ i, hi.testBit i = true → ¬ κ (60 + i) = j
        · rw [if_pos (q2.mpr d2), if_neg (none'.mpr ⟨d1, d2⟩)]
          rw [show nI (yCn (fun k => decide (0 < yCn (fun i => zSt lo hi i && κ i == k) c)) j) + (0 : Int32) = _ from Int32.add_zero _]
          rfl
        · rw [if_neg (fun z => d2 (q2.mp z)), if_pos (Decidable.byContradiction fun z => d2 (none'.mp z).2), nI_1]
      · rw [if_neg (fun z => d1 (q1.mp z)), if_pos (Decidable.byContradiction fun z => d1 (none'.mp z).1), nI_1]
    · unfold S_X8_kindsIn_27
      simp only [f2, show (2 : Int32) * nI K = nI (2 * K) from nI_mul 2 K]
      exact if_pos (nI_le (Nat.le_refl _) (by omega))
/-- the least depth -/
theorem zDpt : ∀ x, x < 121 → ∀ b, b < 4 → 2 ≤ b → (List.range 8).any (fun D => decide (x ≤ b ^ D) && (List.range D).all fun j => decide (b ^ j < x)) = true := by decide +kernel
theorem zDpt_ex {x b : Nat} (hx : x < 121) (hb : b < 4) (hb2 : 2 ≤ b) : ∃ D, D < 8 ∧ x ≤ b ^ D ∧ ∀ j, j < D → b ^ j < x := by
  obtain ⟨D, h1, h2⟩ := List.any_eq_true.mp (zDpt x hx b hb hb2)
  rw [Bool.and_eq_true, decide_eq_true_eq, List.all_eq_true] at h2
  exact ⟨D, List.mem_range.mp h1, h2.1, fun j hj => of_decide_eq_true (h2.2 j (List.mem_range.mpr hj))⟩
/-- the base: three answers, or two -/
def zBse (c : Nat) (mk : Nat → Nat) : Nat := if (List.range c).any (fun i => decide (mk i % 1024 ≠ 0)) then 3 else 2
theorem zBse_ok : zBse c mk = 3 ∨ (zBse c mk = 2 ∧ ∀ i, i < c → mk i % 1024 = 0) := by
  unfold zBse
  by_cases d : (List.range c).any (fun i => decide (mk i % 1024 ≠ 0)) = true
  · exact Or.inl (if_pos d)
  · refine Or.inr ⟨if_neg d, fun i hi => Decidable.byContradiction fun z => d (List.any_eq_true.mpr ⟨i, List.mem_range.mpr hi, decide_eq_true z⟩)⟩
theorem zBse_i (h : xI g 76 8 = (if (List.range c).any (fun i => decide (mk i % 1024 ≠ 0)) then 3 else 2)) : xI g 76 8 = nI (zBse c mk) := by
  rw [h]
  unfold zBse
  split <;> rfl
/-- what all these stand on -/
def zQl (g : xSt) (n c : Nat) (mk : Nat → Nat) (γ : Nat → Int32) : Prop := n ≤ 5 ∧ c ≤ 120 ∧ xI g 76 2 = nI c ∧ xI g 76 3 = nI n ∧ zFn g c mk γ ∧ zOne (n * (n - 1) / 2) c mk
theorem r_leastWorst (q : zQl g n c mk γ) (h : zIn c lo hi) {j : Nat} (hj : j ≤ 5) : ∃ v, E_X8_leastWorst (nL lo) (nL hi) (nI j) g = some (nI v) ∧ v ≤ 7 ∧ (zAl c γ (zSt lo hi) → v = 0) ∧ (¬ zAl c γ (zSt lo hi) → j ≤ v ∧ ∀ k, zCan (n * (n - 1) / 2) c mk γ k (zSt lo hi) → j ≤ k → v ≤ k) := by
  obtain ⟨hn, hc, h2, h3, f, ho⟩ := q
  have hP := (yPs_3 n (by omega)).2.2
  unfold E_X8_leastWorst
  rw [r_isAlikeS hc f h]
  by_cases d : zAl c γ (zSt lo hi)
  · rw [if_pos d, if_neg (by decide)]
    exact ⟨0, rfl, by decide, fun _ => rfl, fun z => absurd d z⟩
  · rw [if_neg d, if_pos rfl]
    obtain ⟨-, fb, κ, K, fK⟩ := f
    have kl : zKd κ K c (zSt lo hi) ≤ K := yCn_le _ _
    have K1 : K ≤ c := fK.1
    have b3 := zBse_ok (c := c) (mk := mk)
    obtain ⟨D, d1, d2, d3⟩ := zDpt_ex (x := zKd κ K c (zSt lo hi)) (b := zBse c mk) (by omega) (by omega) (by omega)
    rw [r_kindsIn hc h2 fK h, xb1_some, zBse_i fb, r_depthOf (by omega) (by omega) (by omega) d2 d3, xb1_some, r_imax (by omega) (by omega)]
    refine ⟨_, rfl, by omega, fun z => absurd z d, fun _ => ⟨by omega, fun k hk hjk => ?_⟩⟩
    have := zKd_can (κ := κ) (K := K) ho hP fK.2.2.2.1 b3 k _ hk
    have : D ≤ k := Decidable.byContradiction fun z => by have := d3 k (by omega); omega
    omega
theorem r_over (m r : Nat) (hm : m < 121) (hr : r ≤ m ∨ (m = 0 ∧ r = 1)) : imax (nI m - nI r) 0 = nI (m - r) := by
  rcases hr with hr | ⟨h1, h2⟩
  · have : nI m - nI r = nI (m - r) := by
      have : nI m = nI (m - r) + nI r := by rw [nI_add, Nat.sub_add_cancel hr]
      rw [this]
      exact Int32.add_sub_cancel _ _
    rw [this, show (0 : Int32) = nI 0 from rfl, r_imax (by omega) (by omega)]
    congr 1
    omega
  · subst h1 h2; decide
theorem r_halfS : ∀ o, o < 121 → (nI o + 1) / 2 = nI ((o + 1) / 2) := by decide +kernel
theorem r_leastSum (q : zQl g n c mk γ) (h : zIn c lo hi) {j : Nat} (hj : j ≤ 5) : ∃ v, E_X8_leastSum (nL lo) (nL hi) (nI j) g = some (nI v) ∧ v ≤ 1000 ∧ (zAl c γ (zSt lo hi) → v = 0) ∧ ∀ f k, zTot (n * (n - 1) / 2) c mk γ f k (zSt lo hi) → (¬ zAl c γ (zSt lo hi) → yCn (zSt lo hi) c * j ≤ k) → v ≤ k := by
  obtain ⟨hn, hc, h2, h3, f, ho⟩ := q
  have hP := (yPs_3 n (by omega)).2.2
  have le := yCn_le (zSt lo hi) c
  have f' := f
  obtain ⟨-, fb, κ, K, fK⟩ := f
  have fb := zBse_i fb
  unfold E_X8_leastSum
  rw [fK.2.1, h2, r_bclS hc h]
  by_cases d : K = c
  · subst d
    rw [if_pos rfl]
    have inj : ∀ i j, i < K → j < K → γ i = γ j → i = j := fun i j hi hj e => zKd_inj (fun i hi => (fK.2.2.1 i hi).1) (fun k hk => (fK.2.2.2.2 k hk).1) hi hj ((fK.2.2.2.1 i j hi hj).mpr e)
    have b3 := zBse_ok (c := K) (mk := mk)
    have b2 : zBse K mk < 4 ∧ 2 ≤ zBse K mk := by omega
    obtain ⟨z1, z2, z3, z4⟩ := zLv_fl (yCn (zSt lo hi) K) (by omega) _ b2.1 b2.2
    have z0 : ∀ j, j < zFl (zBse K mk) (yCn (zSt lo hi) K) → zBse K mk ^ (j + 1) ≤ yCn (zSt lo hi) K := fun j hj => Nat.le_trans (Nat.pow_le_pow_right (by omega) (by omega)) (z2.resolve_left (by omega))
    have e := xlim_of (step := S_X8_leastSum_47 (nI (yCn (zSt lo hi) K)) g) (fun j => (nI j, nI (zBse K mk ^ j))) (zFl (zBse K mk) (yCn (zSt lo hi) K)) (e := (nI (zFl (zBse K mk) (yCn (zSt lo hi) K)), nI (zBse K mk ^ zFl (zBse K mk) (yCn (zSt lo hi) K)))) (fun j hj => ?_) ?_
    · rw [show ((0 : Int32), (1 : Int32)) = (nI 0, nI (zBse K mk ^ 0)) from rfl, e, xb1_some]
      unfold K_X8_leastSum_81
      have one : yCn (zSt lo hi) K = 0 → zBse K mk ^ zFl (zBse K mk) (yCn (zSt lo hi) K) = 1 := fun z => by
        rcases z2 with y | y
        · rw [y, Nat.pow_zero]
        · have := Nat.pow_pos (n := zFl (zBse K mk) (yCn (zSt lo hi) K)) (show 0 < zBse K mk by omega); omega
      have ov := r_over (yCn (zSt lo hi) K) (zBse K mk ^ zFl (zBse K mk) (yCn (zSt lo hi) K)) (by omega) (by
        by_cases y : yCn (zSt lo hi) K = 0
        · exact Or.inr ⟨y, one y⟩
        · rcases z2 with w | w
          · left; rw [w, Nat.pow_zero]; omega
          · exact Or.inl w)
      have val : ((nI (yCn (zSt lo hi) K) * nI (zFl (zBse K mk) (yCn (zSt lo hi) K))) + (imax (nI (yCn (zSt lo hi) K) - nI (zBse K mk ^ zFl (zBse K mk) (yCn (zSt lo hi) K))) 0)) + (if (xI g 76 8) = 3 then (((imax (nI (yCn (zSt lo hi) K) - nI (zBse K mk ^ zFl (zBse K mk) (yCn (zSt lo hi) K))) 0) + 1) / 2) else (imax (nI (yCn (zSt lo hi) K) - nI (zBse K mk ^ zFl (zBse K mk) (yCn (zSt lo hi) K))) 0)) = nI (zLv (zBse K mk) (yCn (zSt lo hi) K)) := by
        rw [ov, fb, nI_mul, nI_add, r_halfS _ (by omega)]
        unfold zLv
        rcases b3 with y | ⟨y, -⟩
        · rw [y, if_pos (show nI 3 = 3 from rfl), if_pos rfl, nI_add]
        · rw [y, if_neg (show ¬ nI 2 = 3 by decide), if_neg (show ¬ 2 = 3 by decide), nI_add]
      refine ⟨zLv (zBse K mk) (yCn (zSt lo hi) K), congrArg some val, z4, fun al => ?_, fun f k hk _ => ?_⟩
      · have : yCn (zSt lo hi) K ≤ 1 := yCn_inj (c' := 1) (fun _ => 0) K _ (fun _ => true) (fun i _ _ => ⟨by decide, rfl⟩) (fun i j a b pi pj _ => inj i j a b (al i j a b pi pj))
        have z : ∀ m, m < 2 → zLv 3 m = 0 ∧ zLv 2 m = 0 := by decide +kernel
        rcases b3 with y | ⟨y, -⟩
        · rw [y]; exact (z _ (by omega)).1
        · rw [y]; exact (z _ (by omega)).2
      · have z : ∀ b, b = 3 ∨ b = 2 → ∀ m, m ≤ 1 → zLv b m = 0 := fun b hb m hm => by
          have z : ∀ m, m < 2 → zLv 3 m = 0 ∧ zLv 2 m = 0 := by decide +kernel
          rcases hb with y | y <;> rw [y]
          · exact (z m (by omega)).1
          · exact (z m (by omega)).2
        refine zHt_tot (H := zLv (zBse K mk)) ho hP hc (z _ (by omega)) inj ?_ f k _ hk
        rcases b3 with y | ⟨y, y2⟩
        · left; rw [y]; exact fun a b d hd => zLv_3 a b d hd
        · right; rw [y]; exact ⟨fun b d hd => zLv_2 b d hd, y2⟩
    · unfold S_X8_leastSum_47
      have pw : zBse K mk ^ j.succ ≤ yCn (zSt lo hi) K := z0 j hj
      simp only [fb, nI_mul, ← Nat.pow_succ]
      rw [if_neg (by rw [nI_ltI (by omega) (by omega)]; omega), if_neg (show ¬ (20 : Int32) ≤ nI j by rw [show (20 : Int32) = nI 20 from rfl]; exact nI_ge (by omega) (by decide)), nI_1]
    · unfold S_X8_leastSum_47
      have pb : zBse K mk ^ (zFl (zBse K mk) (yCn (zSt lo hi) K) + 1) < 2 ^ 31 := by
        have : zBse K mk ^ (zFl (zBse K mk) (yCn (zSt lo hi) K) + 1) ≤ 3 ^ 8 := Nat.le_trans (Nat.pow_le_pow_left (show zBse K mk ≤ 3 by omega) _) (Nat.pow_le_pow_right (by decide) (by omega))
        omega
      simp only [fb, nI_mul, ← Nat.pow_succ]
      rw [if_pos (by rw [nI_ltI (by omega) (by omega)]; exact z3)]
  · rw [if_neg (fun z => d ((nI_eq (by have := fK.1; omega) (by omega)).mp z)), r_isAlikeS hc f' h]
    by_cases e : zAl c γ (zSt lo hi)
    · rw [if_pos e, if_neg (by decide)]
      exact ⟨0, rfl, by decide, fun _ => rfl, fun _ _ _ _ => Nat.zero_le _⟩
    · rw [if_neg e, if_pos rfl, nI_mul]
      refine ⟨_, rfl, ?_, fun z => absurd z e, fun f k hk z => z e⟩
      have := Nat.mul_le_mul le hj
      omega
end LS
