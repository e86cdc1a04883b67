/-! the reference lays a goal; by which pairs two orders differ -/
section LG
variable {g g' : xSt} {β n w c N : Nat} {T B : yT} {L : List Nat} {k a1 a2 a3 : Int32}
theorem r_layGoal (W : xWf g) (C : Cx g β T B) (hg : yGd (T 0 0) a1 a2) : ∃ g', E_X12_layGoal a1 a2 a3 g = some (if (yLs B a3 (T 0 0) (T 0 1) 0).length ≤ 120 then 1 else 0, g') ∧ yAg dA g g' ∧ zSame g g' ∧ yLR g' (yLs B a3 (T 0 0) (T 0 1) 0) ∧ ((yLs B a3 (T 0 0) (T 0 1) 0).length ≤ 120 → zPL g' (T 0 0) (T 0 1) (yLs B a3 (T 0 0) (T 0 1) 0) ∧ ∀ j, j < (yLs B a3 (T 0 0) (T 0 1) 0).length → xI g' 146 j = nI (yGr (T 0 0) a1 a2 j (yPv (T 0 0) (T 0 1) (yLs B a3 (T 0 0) (T 0 1) 0) j))) := by
  have hin : yIn (T 0 0) (T 0 1) (yLs B a3 (T 0 0) (T 0 1) 0) := yLs_in C.2.2.2.1 C.2.2.2.2.1
  have hlen := hin.1
  obtain ⟨g1, r1, r2, r3⟩ := r_layLeft (k := a3) (lies := 0) (by decide) C.2.2.1.1 C.2.2.2 C.2.2.1.2.2
  have C1 := C.as (r2.up dLR_A).A
  obtain ⟨-, fr1⟩ := e_X12_layLeft (d := 0) W r1
  by_cases c : (yLs B a3 (T 0 0) (T 0 1) 0).length ≤ 120
  · obtain ⟨g2, s1, s2, s3, s4⟩ := r_layPairs C1 r3 hin c
    have C2 := C1.as (s2.up dPa_A).A
    have q2 : yLR g2 (yLs B a3 (T 0 0) (T 0 1) 0) := r3.gl s2 (by unfold dPa; omega) (fun k => by unfold dPa; omega)
    obtain ⟨-, fr2⟩ := e_X12_layPairs (d := 0) (fr1.wf W) s1
    obtain ⟨g3, t1, t2, t3⟩ := r_layGoals C2 q2 hin hg
    obtain ⟨-, fr3⟩ := e_X12_layGoals (d := 0) (fr2.wf (fr1.wf W)) t1
    have e : E_X12_layGoal a1 a2 a3 g = some (1, g3) := by
      unfold E_X12_layGoal
      rw [show (0 : Int32) = nI 0 from rfl, r1, xb1_some, r3.1, if_pos (show nI (yLs B a3 (T 0 0) (T 0 1) 0).length ≤ (120 : Int32) by rw [show (120 : Int32) = nI 120 from rfl]; exact nI_le (by omega) (by omega)), s1, xb1_some, t1, xb1_some]
    obtain ⟨-, fr⟩ := e_X12_layGoal (d := 0) W e
    rw [if_pos c]
    refine ⟨g3, e, ((r2.up dLR_A).tr (s2.up dPa_A)).tr (t2.up dGl_A), zSame_fr fr (fun o x y => by simp only [List.mem_cons, List.not_mem_nil, or_false]; omega) (fun o k x y => by simp only [List.mem_cons, List.not_mem_nil, or_false, Prod.mk.injEq]; omega), q2.gl t2 (by unfold dGl; omega) (fun k => by unfold dGl; omega), fun _ => ⟨⟨⟨(t2.2 113 59 (by unfold dGl; omega)).trans s4.1.1, fun x y h1 h2 h3 => ⟨(t2.2 150 _ (by unfold dGl; omega)).trans (s4.1.2 x y h1 h2 h3).1, (t2.2 151 _ (by unfold dGl; omega)).trans (s4.1.2 x y h1 h2 h3).2⟩⟩, fun a b h1 h2 s hs => ⟨(fr3.l (by decide) (by simp)).trans (s4.2 a b h1 h2 s hs).1, (fr3.l (by decide) (by simp)).trans (s4.2 a b h1 h2 s hs).2⟩⟩, t3⟩⟩
  · have e : E_X12_layGoal a1 a2 a3 g = some (0, g1) := by
      unfold E_X12_layGoal
      rw [show E_X12_layLeft 0 a3 g = some g1 from r1, xb1_some, r3.1, if_neg (show ¬ nI (yLs B a3 (T 0 0) (T 0 1) 0).length ≤ (120 : Int32) by rw [show (120 : Int32) = nI 120 from rfl]; exact nI_ge (by omega) (by omega))]
    rw [if_neg c]
    exact ⟨g1, e, r2.up dLR_A, zSame_fr fr1 (fun o x y => by simp only [List.mem_cons, List.not_mem_nil, or_false]; omega) (fun o k x y => by simp only [List.mem_cons, List.not_mem_nil, or_false, Prod.mk.injEq]; omega), r3, fun z => absurd z c⟩
theorem nI_xor (a b : Nat) : nI a ^^^ nI b = nI (a ^^^ b) := Int32.toBitVec_inj.mp (by
  rw [Int32.toBitVec_xor]
  exact (BitVec.ofNat_xor (w := 32) (x := a) (y := b)).symm)
def zXr (x : Nat) : Nat := (x ||| x >>> 10 ||| x >>> 20) &&& 1023
theorem r_xr {x : Nat} (hx : x < 2 ^ 30) : (((nI x ||| (nI x >>> ((10 : Int32) &&& 31))) ||| (nI x >>> ((20 : Int32) &&& 31))) &&& 1023) = nI (zXr x) := by
  rw [show (10 : Int32) = nI 10 from rfl, show (20 : Int32) = nI 20 from rfl, show (1023 : Int32) = nI 1023 from rfl, r_shr (by omega) (by decide), r_shr (by omega) (by decide), r_orG, r_orG, r_andG]
  rfl
theorem zXr_bit {x p : Nat} : (zXr x).testBit p = true ↔ p < 10 ∧ ∃ s, s < 3 ∧ x.testBit (10 * s + p) = true := by
  unfold zXr
  rw [show (1023 : Nat) = 2 ^ 10 - 1 from rfl, Nat.testBit_and, Nat.testBit_or, Nat.testBit_or, Nat.testBit_shiftRight, Nat.testBit_shiftRight, Nat.testBit_two_pow_sub_one]
  simp only [Bool.and_eq_true, Bool.or_eq_true, decide_eq_true_eq]
  refine ⟨fun ⟨h, hp⟩ => ⟨hp, ?_⟩, fun ⟨hp, s, hs, h⟩ => ⟨?_, hp⟩⟩
  · rcases h with (h | h) | h
    · exact ⟨0, by omega, by rw [show 10 * 0 + p = p by omega]; exact h⟩
    · exact ⟨1, by omega, h⟩
    · exact ⟨2, by omega, h⟩
  · rcases (by omega : s = 0 ∨ s = 1 ∨ s = 2) with rfl | rfl | rfl
    · exact Or.inl (Or.inl (by rw [show 10 * 0 + p = p by omega] at h; exact h))
    · exact Or.inl (Or.inr h)
    · exact Or.inr h
theorem zXr_lt (x : Nat) : zXr x < 1024 := by unfold zXr; exact Nat.lt_of_le_of_lt Nat.and_le_right (by decide)
theorem yMk_bit {v s p : Nat} (hn : n ≤ 5) (hs : s < 3) (hp : p < 10) : (yMk n v).testBit (10 * s + p) = true ↔ ∃ a b, a < b ∧ b < n ∧ yPr n a b = p ∧ ySd v a b = s := by
  refine ⟨fun h => ?_, fun ⟨a, b, h1, h2, h3, h4⟩ => ?_⟩
  · unfold yMk yMf at h
    obtain ⟨a, ha, h⟩ := (yOf_bit _ _ _).mp h
    obtain ⟨b, hb, h⟩ := (yOf_bit _ _ _).mp h
    by_cases c : a < b
    · rw [if_pos c, Nat.testBit_two_pow, decide_eq_true_eq] at h
      unfold yBit at h
      rw [if_pos (Or.inr c)] at h
      have := yPr_lt n (by omega) a ha b hb c
      exact ⟨a, b, c, hb, by omega, by unfold ySd; omega⟩
    · rw [if_neg c] at h
      exact absurd h (by simp)
  · have := (yMf_bit1 (n := n) (s := s) hn (yDg v) (show a < n by omega) h2 h1 hs).mpr h4
    unfold yBit at this
    rw [if_pos (Or.inr h1), h3] at this
    exact this
/-- what two orders differ by -/
def zX (n w : Nat) (L : List Nat) (i j : Nat) : Nat := zXr (yMk n (yPv n w L i) ^^^ yMk n (yPv n w L j))
theorem zX_bit {i j p : Nat} (hn : n ≤ 5) : (zX n w L i j).testBit p = true ↔ ∃ a b, a < b ∧ b < n ∧ yPr n a b = p ∧ ySd (yPv n w L i) a b ≠ ySd (yPv n w L j) a b := by
  unfold zX
  rw [zXr_bit]
  generalize yPv n w L i = v
  generalize yPv n w L j = u
  refine ⟨fun ⟨hp, s, hs, h⟩ => ?_, fun ⟨a, b, h1, h2, h3, h4⟩ => ?_⟩
  · rw [Nat.testBit_xor] at h
    by_cases c : (yMk n v).testBit (10 * s + p) = true
    · obtain ⟨a, b, h1, h2, h3, h4⟩ := (yMk_bit hn hs hp).mp c
      refine ⟨a, b, h1, h2, h3, fun z => ?_⟩
      have := (yMk_bit (v := u) hn hs hp).mpr ⟨a, b, h1, h2, h3, z ▸ h4⟩
      rw [c, this] at h
      exact absurd h (by decide)
    · by_cases d : (yMk n u).testBit (10 * s + p) = true
      · obtain ⟨a, b, h1, h2, h3, h4⟩ := (yMk_bit hn hs hp).mp d
        refine ⟨a, b, h1, h2, h3, fun z => c ?_⟩
        exact (yMk_bit (v := v) hn hs hp).mpr ⟨a, b, h1, h2, h3, z.trans h4⟩
      · rw [Bool.eq_false_iff.mpr c, Bool.eq_false_iff.mpr d] at h
        exact absurd h (by decide)
  · have hp : p < 10 := by
      have := yPr_lt n (by omega) a (by omega) b h2 h1
      omega
    refine ⟨hp, ySd v a b, ySd_lt v a b, ?_⟩
    have e1 := (yMk_bit (v := v) hn (ySd_lt v a b) hp).mpr ⟨a, b, h1, h2, h3, rfl⟩
    have e2 : ¬ (yMk n u).testBit (10 * ySd v a b + p) = true := fun z => by
      obtain ⟨x, y, k1, k2, k3, k4⟩ := (yMk_bit (v := u) hn (ySd_lt v a b) hp).mp z
      obtain ⟨q1, q2⟩ := yPr_inj n (by omega) x (by omega) y k2 a (by omega) b h2 k1 h1 (k3.trans h3.symm)
      rw [q1, q2] at k4
      exact h4 k4.symm
    rw [Nat.testBit_xor, e1, Bool.eq_false_iff.mpr e2]
    decide
theorem zX_lt {i j p : Nat} (hn : n ≤ 5) (h : (zX n w L i j).testBit p = true) : p < n * (n - 1) / 2 := by
  obtain ⟨a, b, h1, h2, h3, -⟩ := (zX_bit hn).mp h
  obtain ⟨p1, -, p3⟩ := yPs_1 n (by omega) a (by omega) b h2 h1
  omega
theorem zX_sym {i j : Nat} : zX n w L i j = zX n w L j i := by unfold zX; rw [Nat.xor_comm]
theorem r_unlikeBy (o : I_orders g n w) (q : yLR g L) (hi : yIn n w L) (hp : zPa g n (n * (n - 1) / 2)) {i j : Nat} (hI : i < L.length) (hj : j < L.length) : E_X12_unlikeBy (nI i) (nI j) g = some (nI (zX n w L i j)) := by
  have hn := o.1
  have hl := hi.1
  have hp3 := (yPs_3 n (by omega)).2.2
  have hx : zX n w L i j = yBs (fun p => (zX n w L i j).testBit p) (n * (n - 1) / 2) := by
    apply Nat.eq_of_testBit_eq
    intro x
    rw [Bool.eq_iff_iff, yBs_bit]
    exact ⟨fun h => ⟨zX_lt hn h, h⟩, fun h => h.2⟩
  unfold E_X12_unlikeBy
  have e := xlim_of (step := S_X12_unlikeBy_5 (nI i) (nI j) g) (fun p => (nI (yBs (fun p => (zX n w L i j).testBit p) p), nI p)) (n * (n - 1) / 2) (e := nI (zX n w L i j)) (fun p hpp => ?_) ?_
  · rw [show ((0 : Int32), (0 : Int32)) = (nI (yBs (fun p => (zX n w L i j).testBit p) 0), nI 0) from rfl, e, xb1_some]
  · obtain ⟨a, ha, b, hb, hab, hpe⟩ := yPr_on n (by omega) p hpp
    obtain ⟨z1, z2⟩ := hp.2 a b hab hb (by omega)
    rw [hpe] at z1 z2
    have b1 := r_saidBy o (hi.2 i hI) ha hb
    have b2 := r_saidBy o (hi.2 j hj) ha hb
    unfold S_X12_unlikeBy_5
    simp only [hp.1, if_neg (nI_ge hpp (show n * (n - 1) / 2 < 2 ^ 31 by omega)), xck_nI (show i < 541 by omega) (show 541 < 2 ^ 31 by decide), xck_nI (show j < 541 by omega) (show 541 < 2 ^ 31 by decide), xck_nI (show p < 10 by omega) (show 10 < 2 ^ 31 by decide), nI_clamp (show i < 2 ^ 31 by omega), nI_clamp (show j < 2 ^ 31 by omega), nI_clamp (show p < 2 ^ 31 by omega), z1, z2, q.2 i hI, q.2 j hj, b1, b2, xb1_some, nI_1]
    have l1 := ySd_lt (yOr n w (L.getD i 0)) a b
    have l2 := ySd_lt (yOr n w (L.getD j 0)) a b
    rw [yBs_succ, r_1shl p (by omega), r_orG]
    by_cases c : ySd (yOr n w (L.getD i 0)) a b = ySd (yOr n w (L.getD j 0)) a b
    · have nb : ¬ (zX n w L i j).testBit p = true := fun z => by
        obtain ⟨x, y, k1, k2, k3, k4⟩ := (zX_bit hn).mp z
        obtain ⟨q1, q2⟩ := yPr_inj n (by omega) x (by omega) y k2 a ha b hb k1 hab (k3.trans hpe.symm)
        rw [q1, q2] at k4
        exact k4 c
      rw [if_pos (by rw [c]), if_neg nb, Nat.or_zero]
    · have yb : (zX n w L i j).testBit p = true := (zX_bit hn).mpr ⟨a, b, hab, hb, hpe, c⟩
      rw [if_neg (fun z => c ((nI_eq (by omega) (by omega)).mp z)), if_pos yb]
  · unfold S_X12_unlikeBy_5
    simp only [hp.1]
    rw [if_pos (nI_le (Nat.le_refl _) (by omega)), ← hx]
end LG
