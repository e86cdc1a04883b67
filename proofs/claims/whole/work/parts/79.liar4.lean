/-! with one lie: the reference reads its states -/
section LR
variable {g g' : xSt} {β n w c o M P N k : Nat} {L : List Nat} {mk ρ : Nat → Nat} {al : Nat → Prop}
def zdg (st i : Nat) : Nat := st / 3 ^ i % 3
theorem zdg_lt (st i : Nat) : zdg st i < 3 := Nat.mod_lt _ (by decide)
set_option maxRecDepth 100000 in
theorem r_div3 : ∀ a, a < 729 → nI a / 3 = nI (a / 3) ∧ nI a - nI a / 3 * 3 = nI (a % 3) := by decide +kernel
theorem r_statusOf {st i : Nat} (hs : st < 729) (hi : i ≤ 6) : E_X12_statusOf (nI st) (nI i) g = some (nI (zdg st i)) := by
  unfold E_X12_statusOf
  have e := xlim_of (step := S_X12_statusOf_5 (nI i) g) (fun j => (nI (st / 3 ^ j), nI j)) i (e := nI (st / 3 ^ i)) (fun j hj => ?_) ?_
  · rw [show (nI st, (0 : Int32)) = (nI (st / 3 ^ 0), nI 0) by rw [Nat.pow_zero, Nat.div_one]; rfl, e, xb1_some, (r_div3 _ (Nat.lt_of_le_of_lt (Nat.div_le_self _ _) hs)).2]
    rfl
  · unfold S_X12_statusOf_5
    simp only [if_neg (nI_ge hj (show i < 2 ^ 31 by omega)), (r_div3 _ (Nat.lt_of_le_of_lt (Nat.div_le_self st (3 ^ j)) hs)).1, nI_1, Nat.div_div_eq_div_mul, Nat.pow_succ]
  · unfold S_X12_statusOf_5
    exact if_pos (nI_le (Nat.le_refl _) (by omega))
/-- the masks of a state -/
def zCx (c st : Nat) : Nat := yBs (fun i => zdg st i == 1) c
def zCy (c st : Nat) : Nat := yBs (fun i => zdg st i == 2) c
def zAr (ρ : Nat → Nat) (c u : Nat) : Prop := ∀ i j, i < c → j < c → u.testBit i = true → u.testBit j = true → ρ i = ρ j
theorem zC_or {st i : Nat} : (zCx c st ||| zCy c st).testBit i = true ↔ i < c ∧ zdg st i ≠ 0 := by
  have := zdg_lt st i
  unfold zCx zCy
  rw [Nat.testBit_or, Bool.or_eq_true, yBs_bit, yBs_bit, beq_iff_eq, beq_iff_eq]
  omega
theorem r_isComeBy {st : Nat} (hc : c ≤ 6) (hs : st < 729) (h53 : xI g 113 53 = nI c) (hρ : ∀ j, j < c → xI g 146 j = nI (ρ j) ∧ ρ j < 100000) : ∃ v, E_X12_isComeBy (nI st) g = some v ∧ (v = 0 ∨ v = 1) ∧ (v = 1 ↔ zAr ρ c (zCx c st ||| zCy c st)) := by
  have key : ∀ m i (F : Int32), m + i = c → ((F = -1 ∧ ∀ j, j < i → zdg st j = 0) ∨ ∃ f, f < i ∧ F = nI f ∧ zdg st f ≠ 0 ∧ ∀ j, j < i → zdg st j ≠ 0 → ρ j = ρ f) → (xlim (S_X12_isComeBy_4 (nI st) g) (F, nI i) = some (.inr ()) ∧ zAr ρ c (zCx c st ||| zCy c st)) ∨ (xlim (S_X12_isComeBy_4 (nI st) g) (F, nI i) = some (.inl 0) ∧ ¬ zAr ρ c (zCx c st ||| zCy c st)) := by
    intro m
    induction m with
    | zero =>
      intro i F hm h
      have : i = c := by omega
      subst this
      refine Or.inl ⟨xlim_end ?_, fun a b h1 h2 h3 h4 => ?_⟩
      · unfold S_X12_isComeBy_4
        simp only [h53]
        exact if_pos (nI_le (Nat.le_refl _) (by omega))
      · obtain ⟨-, h3⟩ := zC_or.mp h3
        obtain ⟨-, h4⟩ := zC_or.mp h4
        rcases h with ⟨-, h⟩ | ⟨f, -, -, -, h⟩
        · exact absurd (h a h1) h3
        · rw [h a h1 h3, h b h2 h4]
    | succ m ih =>
      intro i F hm h
      have hi : i < c := by omega
      have hst := r_statusOf (g := g) (i := i) hs (by omega)
      have dl := zdg_lt st i
      have n53 : ¬ nI c ≤ nI i := nI_ge hi (by omega)
      by_cases d : zdg st i = 0
      · have st1 : S_X12_isComeBy_4 (nI st) g (F, nI i) = some (.inl (F, nI (i + 1))) := by
          unfold S_X12_isComeBy_4
          simp only [h53, if_neg n53, hst, xb1_some, d, nI_1]
          exact if_pos rfl
        rw [xlim_go st1]
        refine ih (i + 1) F (by omega) ?_
        rcases h with ⟨h1, h2⟩ | ⟨f, h1, h2, h3, h4⟩
        · refine Or.inl ⟨h1, fun j hj => ?_⟩
          by_cases e : j = i
          · rw [e]; exact d
          · exact h2 j (by omega)
        · refine Or.inr ⟨f, by omega, h2, h3, fun j hj hz => ?_⟩
          by_cases e : j = i
          · rw [e] at hz; exact absurd d hz
          · exact h4 j (by omega) hz
      · have nz : ¬ nI (zdg st i) = 0 := fun z => d ((nI_eq (by omega) (by decide)).mp (show nI (zdg st i) = nI 0 from z))
        rcases h with ⟨h1, h2⟩ | ⟨f, h1, h2, h3, h4⟩
        · subst h1
          have st1 : S_X12_isComeBy_4 (nI st) g (-1, nI i) = some (.inl (nI i, nI (i + 1))) := by
            unfold S_X12_isComeBy_4
            simp only [h53, if_neg n53, hst, xb1_some, if_neg nz, nI_1]
            exact if_pos (by decide)
          rw [xlim_go st1]
          refine ih (i + 1) (nI i) (by omega) (Or.inr ⟨i, by omega, rfl, d, fun j hj hz => ?_⟩)
          by_cases e : j = i
          · rw [e]
          · exact absurd (h2 j (by omega)) hz
        · subst h2
          have nf : ¬ nI f < 0 := (r_bci10 f (by omega)).2.2.2
          obtain ⟨p1, p2⟩ := hρ i hi
          obtain ⟨q1, q2⟩ := hρ f (by omega)
          by_cases e : ρ i = ρ f
          · have st1 : S_X12_isComeBy_4 (nI st) g (nI f, nI i) = some (.inl (nI i, nI (i + 1))) := by
              unfold S_X12_isComeBy_4
              simp only [h53, if_neg n53, hst, xb1_some, if_neg nz, if_neg nf, xck_nI (show i < 541 by omega) (show 541 < 2 ^ 31 by decide), xck_nI (show f < 541 by omega) (show 541 < 2 ^ 31 by decide), nI_clamp (show i < 2 ^ 31 by omega), nI_clamp (show f < 2 ^ 31 by omega), p1, q1, e, nI_1]
              exact if_pos trivial
            rw [xlim_go st1]
            refine ih (i + 1) (nI i) (by omega) (Or.inr ⟨i, by omega, rfl, d, fun j hj hz => ?_⟩)
            by_cases e2 : j = i
            · rw [e2]
            · exact (h4 j (by omega) hz).trans e.symm
          · refine Or.inr ⟨xlim_end ?_, fun q => e (q i f hi (by omega) (zC_or.mpr ⟨hi, d⟩) (zC_or.mpr ⟨by omega, h3⟩))⟩
            unfold S_X12_isComeBy_4
            simp only [h53, if_neg n53, hst, xb1_some, if_neg nz, if_neg nf, xck_nI (show i < 541 by omega) (show 541 < 2 ^ 31 by decide), xck_nI (show f < 541 by omega) (show 541 < 2 ^ 31 by decide), nI_clamp (show i < 2 ^ 31 by omega), nI_clamp (show f < 2 ^ 31 by omega), p1, q1]
            exact if_neg (fun z => e ((nI_eq (by omega) (by omega)).mp z))
  unfold E_X12_isComeBy
  rcases key c 0 (-1) (by omega) (Or.inl ⟨rfl, fun j h => absurd h (by omega)⟩) with ⟨h1, h2⟩ | ⟨h1, h2⟩
  · rw [show ((-1 : Int32), (0 : Int32)) = (-1, nI 0) from rfl, h1]; exact ⟨1, rfl, Or.inr rfl, fun _ => h2, fun _ => rfl⟩
  · rw [show ((-1 : Int32), (0 : Int32)) = (-1, nI 0) from rfl, h1]; exact ⟨0, rfl, Or.inl rfl, fun z => absurd z (by decide), fun z => absurd z h2⟩
/-- behind an answer, by digits -/
def zBd (t st i : Nat) : Nat := if t.testBit i then zdg st i else if zdg st i = 0 then 0 else (zdg st i + 1) % 3
def zBh (c t st : Nat) : Nat := ySum (fun i => 3 ^ i * zBd t st i) c
theorem zBd_lt (t st i : Nat) : zBd t st i < 3 := by
  have := zdg_lt st i
  unfold zBd
  split
  · exact this
  · split <;> omega
theorem ySum_lt3 {d : Nat → Nat} (hd : ∀ i, d i < 3) : ∀ c, ySum (fun i => 3 ^ i * d i) c < 3 ^ c := by
  intro c
  induction c with
  | zero => exact Nat.one_pos
  | succ c ih =>
    show ySum (fun i => 3 ^ i * d i) c + 3 ^ c * d c < 3 ^ (c + 1)
    have h1 := hd c
    have h2 : 3 ^ c * d c ≤ 3 ^ c * 2 := Nat.mul_le_mul_left _ (by omega)
    rw [Nat.pow_succ]
    omega
theorem ySum_dg {d : Nat → Nat} (hd : ∀ i, d i < 3) : ∀ c i, i < c → zdg (ySum (fun i => 3 ^ i * d i) c) i = d i := by
  intro c
  induction c with
  | zero => intro i h; omega
  | succ c ih =>
    intro i hi
    show zdg (ySum (fun i => 3 ^ i * d i) c + 3 ^ c * d c) i = d i
    unfold zdg
    by_cases e : i = c
    · subst e
      rw [Nat.add_mul_div_left _ _ (Nat.pow_pos (by decide)), Nat.div_eq_of_lt (ySum_lt3 hd i), Nat.zero_add, Nat.mod_eq_of_lt (hd i)]
    · have hic : i < c := by omega
      have e2 : 3 ^ c * d c = 3 ^ i * (3 * (3 ^ (c - i - 1) * d c)) := by
        rw [← Nat.mul_assoc 3, ← Nat.mul_assoc, ← Nat.pow_succ', ← Nat.pow_add, show i + (c - i - 1).succ = c by omega]
      rw [e2, Nat.add_mul_div_left _ _ (Nat.pow_pos (by decide)), Nat.add_mul_mod_self_left]
      exact ih i hic
theorem zBh_x {t st : Nat} (hc : c ≤ 6) : zCx c (zBh c t st) = zCx c st &&& t ∧ zCy c (zBh c t st) = zLy t (zCx c st) (zCy c st) := by
  have e : ∀ i, i < c → zdg (zBh c t st) i = zBd t st i := fun i hi => ySum_dg (zBd_lt t st) c i hi
  refine ⟨Nat.eq_of_testBit_eq fun i => ?_, Nat.eq_of_testBit_eq fun i => ?_⟩
  · unfold zCx
    rw [Bool.eq_iff_iff, Nat.testBit_and, Bool.and_eq_true, yBs_bit, yBs_bit, beq_iff_eq, beq_iff_eq]
    have dl := zdg_lt st i
    refine ⟨fun ⟨h1, h2⟩ => ?_, fun ⟨⟨h1, h2⟩, h3⟩ => ⟨h1, by rw [e i h1]; unfold zBd; rw [if_pos h3]; exact h2⟩⟩
    rw [e i h1] at h2
    unfold zBd at h2
    by_cases d : t.testBit i = true
    · rw [if_pos d] at h2; exact ⟨⟨h1, h2⟩, d⟩
    · rw [if_neg d] at h2
      by_cases z : zdg st i = 0
      · rw [if_pos z] at h2; omega
      · rw [if_neg z] at h2; omega
  · unfold zLy zCx zCy
    rw [Bool.eq_iff_iff, Nat.testBit_or, Nat.testBit_and, Nat.testBit_and, Nat.testBit_xor, Bool.or_eq_true, Bool.and_eq_true, Bool.and_eq_true, yBs_bit, yBs_bit, yBs_bit, beq_iff_eq, beq_iff_eq, beq_iff_eq]
    have dl := zdg_lt st i
    refine ⟨fun ⟨h1, h2⟩ => ?_, fun h => ?_⟩
    · rw [e i h1] at h2
      unfold zBd at h2
      by_cases d : t.testBit i = true
      · rw [if_pos d] at h2; exact Or.inl ⟨⟨h1, h2⟩, d⟩
      · rw [if_neg d] at h2
        refine Or.inr ⟨⟨h1, ?_⟩, ?_⟩
        · by_cases z : zdg st i = 0
          · rw [if_pos z] at h2; omega
          · rw [if_neg z] at h2; omega
        · rw [r_63 i (by omega), Bool.eq_false_iff.mpr d]; rfl
    · rcases h with ⟨⟨h1, h2⟩, h3⟩ | ⟨⟨h1, h2⟩, h3⟩
      · exact ⟨h1, by rw [e i h1]; unfold zBd; rw [if_pos h3]; exact h2⟩
      · refine ⟨h1, ?_⟩
        rw [r_63 i (by omega)] at h3
        have d : ¬ t.testBit i = true := fun z => by rw [z] at h3; exact absurd h3 (by decide)
        rw [e i h1]
        unfold zBd
        rw [if_neg d, if_neg (by omega), h2]
theorem r_mod3 : ∀ a, a < 3 → (if nI a = 0 then nI a else ((nI a + 1) - (nI a + 1) / 3 * 3)) = nI (if a = 0 then 0 else (a + 1) % 3) := by decide +kernel
theorem r_behind {st p s : Nat} (ho : I_orders g n w) (q : yLR g L) (hi : yIn n w L) (hp : zPa g n (n * (n - 1) / 2)) (hc : L.length ≤ 6) (hm : ∀ i, i < L.length → mk i = yMk n (yPv n w L i)) (hst : st < 729) (hpp : p < n * (n - 1) / 2) (hs : s < 3) : E_X12_behind (nI st) (nI p) (nI s) g = some (nI (zBh L.length (zTr mk L.length p s) st)) := by
  have hn := ho.1
  have hP := (yPs_3 n (by omega)).2.2
  obtain ⟨a, ha, b, hb, hab, hpe⟩ := yPr_on n (by omega) p hpp
  obtain ⟨z1, z2⟩ := hp.2 a b hab hb (by omega)
  rw [hpe] at z1 z2
  have pw : ∀ j, j ≤ 6 → 3 ^ j ≤ 729 := fun j hj => Nat.pow_le_pow_right (n := 3) (by decide) (show j ≤ 6 from hj)
  unfold E_X12_behind
  have e := xlim_of (step := S_X12_behind_9 (nI st) (nI p) (nI s) g) (fun j => (nI (zBh j (zTr mk L.length p s) st), nI (3 ^ j), nI j)) L.length (e := nI (zBh L.length (zTr mk L.length p s) st)) (fun j hj => ?_) ?_
  · rw [show ((0 : Int32), (1 : Int32), (0 : Int32)) = (nI (zBh 0 (zTr mk L.length p s) st), nI (3 ^ 0), nI 0) from rfl, e, xb1_some]
  · have sb := r_saidBy ho (hi.2 j hj) ha hb
    have sl := ySd_lt (yOr n w (L.getD j 0)) a b
    have tb : (zTr mk L.length p s).testBit j = true ↔ ySd (yOr n w (L.getD j 0)) a b = s := by
      unfold zTr
      rw [yBs_bit, hm j hj, yMk_bit hn hs (by omega)]
      refine ⟨fun ⟨_, x, y, k1, k2, k3, k4⟩ => ?_, fun z => ⟨hj, a, b, hab, hb, hpe, z⟩⟩
      obtain ⟨q1, q2⟩ := yPr_inj n (by omega) x (by omega) y k2 a ha b hb k1 hab (k3.trans hpe.symm)
      rw [q1, q2] at k4
      exact k4
    have dl := zdg_lt st j
    have c3 : nI (3 ^ j) * 3 = nI (3 ^ (j + 1)) := by rw [show (3 : Int32) = nI 3 from rfl, nI_mul, Nat.pow_succ]
    have sum : zBh (j + 1) (zTr mk L.length p s) st = zBh j (zTr mk L.length p s) st + 3 ^ j * zBd (zTr mk L.length p s) st j := rfl
    have eqs : (nI (ySd (yOr n w (L.getD j 0)) a b) = nI s) ↔ ySd (yOr n w (L.getD j 0)) a b = s := nI_eq (by omega) (by omega)
    unfold S_X12_behind_9
    simp only [q.1, if_neg (nI_ge hj (show L.length < 2 ^ 31 by omega)), r_statusOf (g := g) hst (show j ≤ 6 by omega), xb1_some, xck_nI (show j < 541 by omega) (show 541 < 2 ^ 31 by decide), xck_nI (show p < 10 by omega) (show 10 < 2 ^ 31 by decide), nI_clamp (show j < 2 ^ 31 by omega), nI_clamp (show p < 2 ^ 31 by omega), z1, z2, q.2 j hj, sb]
    unfold K_X12_behind_59
    by_cases d : ySd (yOr n w (L.getD j 0)) a b = s
    · rw [if_pos (eqs.mpr d), if_neg (show ¬ (1 : Int32) = 0 by decide), nI_mul, nI_add, c3, nI_1, sum]
      unfold zBd
      rw [if_pos (tb.mpr d)]
    · rw [if_neg (fun z => d (eqs.mp z)), if_pos rfl, r_mod3 _ dl, nI_mul, nI_add, c3, nI_1, sum]
      unfold zBd
      rw [if_neg (fun z => d (tb.mp z))]
  · unfold S_X12_behind_9
    simp only [q.1]
    exact if_pos (nI_le (Nat.le_refl _) (by omega))
end LR
