/-! THE REFERENCE'S SEARCH: sets, its table -/
section RT
variable {g g' g1 : xSt} {n w c P lo hi k x x0 v : Nat} {mk V ρ : Nat → Nat} {γ : Nat → Int32} {S : Nat → Bool}
theorem r_63bv : ∀ b, b < 60 → ((Int32.toInt64 (nI b) &&& 63).toBitVec.smod 64) = BitVec.ofNat 64 b := by decide +kernel
theorem r_shL {a b : Nat} (ha : a < 2 ^ 60) (hb : b < 60) : nL a >>> (Int32.toInt64 (nI b) &&& 63) = nL (a >>> b) := by
  apply Int64.toBitVec_inj.mp
  rw [Int64.toBitVec_shiftRight]
  have h1 : (nL a).toBitVec = BitVec.ofNat 64 a := rfl
  rw [h1, r_63bv b hb]
  apply BitVec.eq_of_toNat_eq
  have hm : (BitVec.ofNat 64 a).msb = false := by
    rw [BitVec.msb_eq_decide, BitVec.toNat_ofNat, Nat.mod_eq_of_lt (by omega)]
    simp; omega
  rw [BitVec.toNat_sshiftRight'_of_msb_false hm]
  show (BitVec.ofNat 64 a).toNat >>> (BitVec.ofNat 64 b).toNat = (BitVec.ofNat 64 (a >>> b)).toNat
  rw [BitVec.toNat_ofNat, BitVec.toNat_ofNat, BitVec.toNat_ofNat, Nat.mod_eq_of_lt (a := a) (by omega), Nat.mod_eq_of_lt (a := b) (by omega), Nat.mod_eq_of_lt]
  have := Nat.shiftRight_le a b
  omega
theorem r_bitL {a b : Nat} (ha : a < 2 ^ 60) (hb : b < 60) : lg_cmp ((nL a >>> (Int32.toInt64 (nI b) &&& 63)) &&& 1) 1 = 0 ↔ a.testBit b = true := by
  rw [r_shL ha hb, lg_0, show (1 : Int64) = nL 1 from rfl, nL_and, nL_eq (Nat.lt_of_le_of_lt Nat.and_le_right (by decide)) (by decide), Nat.and_one_is_mod, Nat.shiftRight_eq_div_pow, Nat.testBit_eq_decide_div_mod_eq, decide_eq_true_eq]
theorem r_has (h : zIn c lo hi) {i : Nat} (hi' : i < 120) : F_X12_has g (nL lo) (nL hi) (nI i) = if zSt lo hi i then 1 else 0 := by
  obtain ⟨b1, b2⟩ := zIn_lt h
  unfold F_X12_has zSt
  by_cases e : i < 60
  · rw [if_neg (show ¬ (60 : Int32) ≤ nI i by rw [show (60 : Int32) = nI 60 from rfl]; exact nI_ge e (by decide)), if_pos e]
    by_cases d : lo.testBit i = true
    · rw [if_pos ((r_bitL b1 e).mpr d), if_pos d]
    · rw [if_neg (fun z => d ((r_bitL b1 e).mp z)), if_neg d]
  · have e60 : nI i - 60 = nI (i - 60) := by
      have : nI i = nI (i - 60) + 60 := by rw [show (60 : Int32) = nI 60 from rfl, nI_add]; congr 1; omega
      rw [this]
      exact Int32.add_sub_cancel _ _
    rw [if_pos (show (60 : Int32) ≤ nI i by rw [show (60 : Int32) = nI 60 from rfl]; exact nI_le (by omega) (by omega)), if_neg e, e60]
    by_cases d : hi.testBit (i - 60) = true
    · rw [if_pos ((r_bitL b2 (by omega)).mpr d), if_pos d]
    · rw [if_neg (fun z => d ((r_bitL b2 (by omega)).mp z)), if_neg d]
/-- what the reference's search stands on -/
def zRb (g : xSt) (n c : Nat) (mk ρ : Nat → Nat) : Prop := xI g 113 53 = nI c ∧ zPa g n (n * (n - 1) / 2) ∧ (∀ p, p < n * (n - 1) / 2 → ∀ s, s < 3 → xL g 152 (3 * p + s) = nL (zml c mk (10 * s + p)) ∧ xL g 153 (3 * p + s) = nL (zmh c mk (10 * s + p))) ∧ ∀ i, i < c → xI g 146 i = nI (ρ i) ∧ ρ i < 100000
theorem r_isCome (hc : c ≤ 120) (b : zRb g n c mk ρ) (hρ : ∀ i j, i < c → j < c → (ρ i = ρ j ↔ γ i = γ j)) (h : zIn c lo hi) : E_X12_isCome (nL lo) (nL hi) g = some (@ite _ (zAl c γ (zSt lo hi)) (Classical.propDecidable _) 1 0) := by
  obtain ⟨b1, -, -, b4⟩ := b
  have n541 : (541 : Nat) < 2 ^ 31 := by decide
  -- before any: none so far; behind one: all so far are alike it
  have key1 : ∀ m i f, m + i = c → f < i → zSt lo hi f = true → (∀ j, j < i → zSt lo hi j = true → γ j = γ f) → xlim (S_X12_isCome_6 (nL lo) (nL hi) g) (nI f, nI i) = some (@ite _ (zAl c γ (zSt lo hi)) (Classical.propDecidable _) (.inr ()) (.inl 0)) := by
    intro m
    induction m with
    | zero =>
      intro i f hi' hf sf al
      have : i = c := by omega
      subst this
      rw [if_pos (show zAl i γ (zSt lo hi) from fun a b ha hb sa sb => (al a ha sa).trans (al b hb sb).symm)]
      refine xlim_end ?_
      unfold S_X12_isCome_6
      simp only [b1]
      exact if_pos (nI_le (Nat.le_refl _) (by omega))
    | succ m ih =>
      intro i f hi' hf sf al
      have ic : i < c := by omega
      have ni := nI_ge ic (show c < 2 ^ 31 by omega)
      by_cases d : zSt lo hi i = true
      · have g1 := b4 i ic
        have g2 := b4 f (by omega)
        by_cases e : ρ i = ρ f
        · have st : S_X12_isCome_6 (nL lo) (nL hi) g (nI f, nI i) = some (.inl (nI f, nI (i + 1))) := by
            unfold S_X12_isCome_6 K_X12_isCome_52
            simp only [b1, if_neg ni, r_has h (show i < 120 by omega), if_pos d, if_neg (show ¬ (1 : Int32) = 0 by decide), if_neg (nI_pos (show f < 2 ^ 31 by omega)), xck_nI (show i < 541 by omega) n541, xck_nI (show f < 541 by omega) n541, nI_clamp (show i < 2 ^ 31 by omega), nI_clamp (show f < 2 ^ 31 by omega), g1.1, g2.1, e, nI_1]
            rw [if_pos trivial, if_pos (show (0 : Int32) ≤ nI f from nI_le (a := 0) (by omega) (by omega))]
          rw [xlim_go st]
          refine ih (i + 1) f (by omega) (by omega) sf fun j hj sj => ?_
          by_cases y : j = i
          · rw [y]; exact (hρ i f ic (by omega)).mp e
          · exact al j (by omega) sj
        · rw [if_neg (fun z => e ((hρ i f ic (by omega)).mpr (z i f ic (by omega) d sf)))]
          refine xlim_end ?_
          unfold S_X12_isCome_6
          simp only [b1, if_neg ni, r_has h (show i < 120 by omega), if_pos d, if_neg (show ¬ (1 : Int32) = 0 by decide), if_neg (nI_pos (show f < 2 ^ 31 by omega)), xck_nI (show i < 541 by omega) n541, xck_nI (show f < 541 by omega) n541, nI_clamp (show i < 2 ^ 31 by omega), nI_clamp (show f < 2 ^ 31 by omega), g1.1, g2.1, if_neg (fun z => e ((nI_eq (by omega) (by omega)).mp z))]
      · have st : S_X12_isCome_6 (nL lo) (nL hi) g (nI f, nI i) = some (.inl (nI f, nI (i + 1))) := by
          unfold S_X12_isCome_6
          simp only [b1, if_neg ni, r_has h (show i < 120 by omega), if_neg d, nI_1]
          exact if_pos trivial
        rw [xlim_go st]
        refine ih (i + 1) f (by omega) (by omega) sf fun j hj sj => ?_
        by_cases y : j = i
        · rw [y] at sj; exact absurd sj d
        · exact al j (by omega) sj
  have key0 : ∀ m i, m + i = c → (∀ j, j < i → ¬ zSt lo hi j = true) → xlim (S_X12_isCome_6 (nL lo) (nL hi) g) (-1, nI i) = some (@ite _ (zAl c γ (zSt lo hi)) (Classical.propDecidable _) (.inr ()) (.inl 0)) := by
    intro m
    induction m with
    | zero =>
      intro i hi' al
      have : i = c := by omega
      subst this
      rw [if_pos (show zAl i γ (zSt lo hi) from fun a b ha hb sa sb => absurd sa (al a ha))]
      refine xlim_end ?_
      unfold S_X12_isCome_6
      simp only [b1]
      exact if_pos (nI_le (Nat.le_refl _) (by omega))
    | succ m ih =>
      intro i hi' al
      have ic : i < c := by omega
      have ni := nI_ge ic (show c < 2 ^ 31 by omega)
      by_cases d : zSt lo hi i = true
      · have st : S_X12_isCome_6 (nL lo) (nL hi) g (-1, nI i) = some (.inl (nI i, nI (i + 1))) := by
          unfold S_X12_isCome_6 K_X12_isCome_52
          simp only [b1, if_neg ni, r_has h (show i < 120 by omega), if_pos d, if_neg (show ¬ (1 : Int32) = 0 by decide), if_pos (show (-1 : Int32) < 0 by decide), if_neg (show ¬ (0 : Int32) ≤ -1 by decide), nI_1]
        rw [xlim_go st]
        refine key1 m (i + 1) i (by omega) (by omega) d fun j hj sj => ?_
        by_cases y : j = i
        · rw [y]
        · exact absurd sj (al j (by omega))
      · have st : S_X12_isCome_6 (nL lo) (nL hi) g (-1, nI i) = some (.inl (-1, nI (i + 1))) := by
          unfold S_X12_isCome_6
          simp only [b1, if_neg ni, r_has h (show i < 120 by omega), if_neg d, nI_1]
          exact if_pos trivial
        rw [xlim_go st]
        refine ih (i + 1) (by omega) fun j hj sj => ?_
        by_cases y : j = i
        · rw [y] at sj; exact d sj
        · exact al j (by omega) sj
  unfold E_X12_isCome
  rw [show ((-1 : Int32), (0 : Int32)) = (-1, nI 0) from rfl, key0 c 0 (by omega) (fun j hj => absurd hj (by omega))]
  by_cases d : zAl c γ (zSt lo hi)
  · rw [if_pos d, if_pos d]; rfl
  · rw [if_neg d, if_neg d]; rfl
theorem r_sizeOf (hc : c ≤ 120) (b : zRb g n c mk ρ) (h : zIn c lo hi) : E_X12_sizeOf (nL lo) (nL hi) g = some (nI (yCn (zSt lo hi) c)) := by
  have e := xlim_of (step := S_X12_sizeOf_6 (nL lo) (nL hi) g) (fun j => (nI (yCn (zSt lo hi) j), nI j)) c (e := nI (yCn (zSt lo hi) c)) (fun j hj => ?_) ?_
  · unfold E_X12_sizeOf
    rw [show ((0 : Int32), (0 : Int32)) = (nI (yCn (zSt lo hi) 0), nI 0) from rfl, e, xb1_some]
  · unfold S_X12_sizeOf_6
    simp only [b.1, if_neg (nI_ge hj (show c < 2 ^ 31 by omega)), r_has h (show j < 120 by omega), nI_1, yCn_succ]
    by_cases d : zSt lo hi j = true
    · simp only [if_pos d, if_neg (show ¬ (1 : Int32) = 0 by decide), nI_1]
    · simp only [if_neg d]
      rw [if_pos trivial, show nI (yCn (zSt lo hi) j) + (0 : Int32) = nI (yCn (zSt lo hi) j) from Int32.add_zero _]
      rfl
  · unfold S_X12_sizeOf_6
    simp only [b.1]
    exact if_pos (nI_le (Nat.le_refl _) (by omega))
/-! the table -/
theorem r_16383 (x : Int32) : ∃ k, k < 16384 ∧ x &&& 16383 = nI k := by
  refine ⟨(x.toBitVec &&& 16383#32).toNat, ?_, ?_⟩
  · rw [BitVec.toNat_and]
    exact Nat.lt_of_le_of_lt Nat.and_le_right (by decide)
  · apply Int32.toBitVec_inj.mp
    rw [Int32.toBitVec_and]
    show _ = BitVec.ofNat 32 _
    rw [BitVec.ofNat_toNat, BitVec.setWidth_eq]
    rfl
theorem r_16L (y : Int64) : ∃ k, k < 16384 ∧ Int64.toInt32 (y &&& 16383) = nI k := by
  refine ⟨(y.toBitVec &&& 16383#64).toNat, ?_, ?_⟩
  · rw [BitVec.toNat_and]
    exact Nat.lt_of_le_of_lt Nat.and_le_right (by decide)
  · have e : y &&& 16383 = nL (y.toBitVec &&& 16383#64).toNat := by
      apply Int64.toBitVec_inj.mp
      rw [Int64.toBitVec_and]
      show _ = BitVec.ofNat 64 _
      rw [BitVec.ofNat_toNat, BitVec.setWidth_eq]
      rfl
    rw [e]
    exact Int64.toInt32_ofNat'
noncomputable def zHs (lo hi : Nat) : Nat := Classical.choose (r_16L (((((nL lo * 31) + (nL hi * 1000003)) ^^^ (((nL lo * 31) + (nL hi * 1000003)) >>> (Int32.toInt64 29 &&& 63))) ^^^ (((nL lo * 31) + (nL hi * 1000003)) >>> (Int32.toInt64 47 &&& 63)))))
theorem zHs_ok : zHs lo hi < 16384 ∧ Int64.toInt32 (((((nL lo * 31) + (nL hi * 1000003)) ^^^ (((nL lo * 31) + (nL hi * 1000003)) >>> (Int32.toInt64 29 &&& 63))) ^^^ (((nL lo * 31) + (nL hi * 1000003)) >>> (Int32.toInt64 47 &&& 63))) &&& 16383) = nI (zHs lo hi) := Classical.choose_spec (r_16L (((((nL lo * 31) + (nL hi * 1000003)) ^^^ (((nL lo * 31) + (nL hi * 1000003)) >>> (Int32.toInt64 29 &&& 63))) ^^^ (((nL lo * 31) + (nL hi * 1000003)) >>> (Int32.toInt64 47 &&& 63)))))
theorem r_next {k : Nat} (hk : k < 16384) : (nI k + 1) &&& 16383 = nI ((k + 1) % 16384) := by
  rw [nI_1, show (16383 : Int32) = nI 16383 from rfl, r_andG, show (16383 : Nat) = 2 ^ 14 - 1 from rfl, Nat.and_two_pow_sub_one_eq_mod]
/-- the need, in the worst case (w = 0) or together -/
def zVl (w P c : Nat) (mk : Nat → Nat) (γ : Nat → Int32) (S : Nat → Bool) (v : Nat) : Prop := (w = 0 → zLW P c mk γ S v) ∧ (w ≠ 0 → zLT P c mk γ S v)
/-- on the way from its hash to slot k all slots are taken by others -/
def zWay (g : xSt) (lo hi k : Nat) : Prop := ∃ t, t < 16384 ∧ k = (zHs lo hi + t) % 16384 ∧ ∀ t', t' < t → xI g 156 ((zHs lo hi + t') % 16384) ≠ -1 ∧ ¬ (xL g 154 ((zHs lo hi + t') % 16384) = nL lo ∧ xL g 155 ((zHs lo hi + t') % 16384) = nL hi)
def zEn (g : xSt) (w n c : Nat) (mk : Nat → Nat) (γ : Nat → Int32) (x0 k lo hi v : Nat) : Prop := xI g 156 k = nI v ∧ v ≤ 1000000 ∧ xL g 154 k = nL lo ∧ xL g 155 k = nL hi ∧ zIn c lo hi ∧ (∃ x, zCl (n * (n - 1) / 2) c mk x0 x (zSt lo hi)) ∧ (∃ i, i < c ∧ zSt lo hi i = true) ∧ zVl w (n * (n - 1) / 2) c mk γ (zSt lo hi) v ∧ zWay g lo hi k
def zTab (g : xSt) (w n c : Nat) (mk : Nat → Nat) (γ : Nat → Int32) (x0 : Nat) : Prop := ∀ k, k < 16384 → xI g 156 k = -1 ∨ ∃ lo hi v, zEn g w n c mk γ x0 k lo hi v
theorem nI_m1 {v : Nat} (h : v ≤ 1000000) : nI v ≠ -1 := fun z => by
  have := congrArg Int32.toInt z
  rw [nI_toInt (by omega)] at this
  rw [show (-1 : Int32).toInt = -1 from rfl] at this
  omega
theorem zTab_free {om : Nat} (hn : n ≤ 5) (hw : om ≤ 1) (hV : zVo n om c mk V) (hT : zTab g w n c mk γ x0) : ∃ k, k < 16384 ∧ xI g 156 k = -1 := by
  refine Classical.byContradiction fun no => ?_
  have ho := zVo_one hn hw hV
  have ex : ∀ k, ∃ lh : Nat × Nat, k < 16384 → ∃ v, zEn g w n c mk γ x0 k lh.1 lh.2 v := fun k => by
    by_cases hk : k < 16384
    · rcases hT k hk with e | ⟨lo, hi, v, e⟩
      · exact absurd ⟨k, hk, e⟩ no
      · exact ⟨(lo, hi), fun _ => ⟨v, e⟩⟩
    · exact ⟨(0, 0), fun z => absurd z hk⟩
  let K : Nat → Nat × Nat := fun k => Classical.choose (ex k)
  have hK : ∀ k, k < 16384 → ∃ v, zEn g w n c mk γ x0 k (K k).1 (K k).2 v := fun k hk => Classical.choose_spec (ex k) hk
  have le := zCw_le (N := 16384) (W := fun k => zAw (n * (n - 1) / 2) c mk (zSt (K k).1 (K k).2)) (show n < 6 by omega) (n * (n - 1) / 2) 0 0 (fun _ => true) (by omega) (fun k hk _ => by
    obtain ⟨v, e1, e2, e3, e4, e5, e6, e7, e8, e9⟩ := hK k hk
    exact ⟨Nat.mod_one _, zAw_lt, zAw_good hn hw hV e7⟩) (fun i j hi hj _ _ e => by
    obtain ⟨v, e1, e2, e3, e4, e5, ⟨xx, e6⟩, e7, e8, e9⟩ := hK i hi
    obtain ⟨v', f1, f2, f3, f4, f5, ⟨yy, f6⟩, f7, f8, f9⟩ := hK j hj
    have same := zAw_inj ho e6 f6 e7 f7 e
    have el : (K i).1 = (K j).1 := by
      apply Nat.eq_of_testBit_eq
      intro b
      rw [Bool.eq_iff_iff]
      have s1 : ∀ q, q < 60 → zSt (K i).1 (K i).2 q = (K i).1.testBit q := fun q hq => by unfold zSt; rw [if_pos hq]
      have s2 : ∀ q, q < 60 → zSt (K j).1 (K j).2 q = (K j).1.testBit q := fun q hq => by unfold zSt; rw [if_pos hq]
      constructor
      · intro z
        have := e5.1 b z
        rw [← s2 b this.1, ← same b this.2, s1 b this.1]; exact z
      · intro z
        have := f5.1 b z
        rw [← s1 b this.1, same b this.2, s2 b this.1]; exact z
    have eh : (K i).2 = (K j).2 := by
      apply Nat.eq_of_testBit_eq
      intro b
      rw [Bool.eq_iff_iff]
      have s1 : zSt (K i).1 (K i).2 (60 + b) = (K i).2.testBit b := by unfold zSt; rw [if_neg (by omega), show 60 + b - 60 = b by omega]
      have s2 : zSt (K j).1 (K j).2 (60 + b) = (K j).2.testBit b := by unfold zSt; rw [if_neg (by omega), show 60 + b - 60 = b by omega]
      constructor
      · intro z
        have := e5.2 b z
        rw [← s2, ← same _ this.2, s1]; exact z
      · intro z
        have := f5.2 b z
        rw [← s1, same _ this.2, s2]; exact z
    obtain ⟨t1, t2, t3, t4⟩ := e9
    obtain ⟨u1, u2, u3, u4⟩ := f9
    rw [el, eh] at t3 t4
    rw [el] at e3
    rw [eh] at e4
    rcases Nat.lt_trichotomy t1 u1 with y | y | y
    · have := (u4 t1 y).2
      rw [← t3] at this
      exact absurd ⟨e3, e4⟩ this
    · exact t3.trans ((congrArg (fun z => (zHs (K j).1 (K j).2 + z) % 16384) y).trans u3.symm)
    · have := (t4 u1 y).2
      rw [← u3] at this
      exact absurd ⟨f3, f4⟩ this)
  have := zCw_n n (by omega)
  rw [yCn_all.mpr (fun _ _ => rfl)] at le
  omega
/-- the slot of a set: its own, or a free one on its way -/
theorem r_slotR (b1 : lo < 2 ^ 60) (b2 : hi < 2 ^ 60) (hf : ∃ k, k < 16384 ∧ xI g 156 k = -1) (hneg : ∀ k, k < 16384 → (xI g 156 k < 0 ↔ xI g 156 k = -1)) : ∃ k, k < 16384 ∧ E_X12_slot (nL lo) (nL hi) g = some (nI k) ∧ zWay g lo hi k ∧ (xI g 156 k = -1 ∨ (xL g 154 k = nL lo ∧ xL g 155 k = nL hi)) := by
  obtain ⟨f, hf1, hf2⟩ := hf
  obtain ⟨h1, h2⟩ := zHs_ok (lo := lo) (hi := hi)
  have ef : (zHs lo hi + (f + 16384 - zHs lo hi) % 16384) % 16384 = f := by omega
  have key : ∀ m t, m + t = (f + 16384 - zHs lo hi) % 16384 → (∀ t', t' < t → xI g 156 ((zHs lo hi + t') % 16384) ≠ -1 ∧ ¬ (xL g 154 ((zHs lo hi + t') % 16384) = nL lo ∧ xL g 155 ((zHs lo hi + t') % 16384) = nL hi)) → ∃ k, k < 16384 ∧ xlim (S_X12_slot_34 (nL lo) (nL hi) g) (nI ((zHs lo hi + t) % 16384)) = some (nI k) ∧ zWay g lo hi k ∧ (xI g 156 k = -1 ∨ (xL g 154 k = nL lo ∧ xL g 155 k = nL hi)) := by
    intro m
    induction m with
    | zero =>
      intro t ht al
      have ht' : (zHs lo hi + t) % 16384 = f := by rw [show t = (f + 16384 - zHs lo hi) % 16384 by omega]; exact ef
      refine ⟨f, hf1, ?_, ⟨t, by omega, ht'.symm, al⟩, Or.inl hf2⟩
      rw [ht']
      refine xlim_end ?_
      unfold S_X12_slot_34
      rw [xck_nI hf1 (by decide), nI_clamp (by omega), if_pos ((hneg f hf1).mpr hf2)]
    | succ m ih =>
      intro t ht al
      have hk : (zHs lo hi + t) % 16384 < 16384 := Nat.mod_lt _ (by decide)
      generalize hkk : (zHs lo hi + t) % 16384 = k at hk
      have e1 : ((nI k + 1) &&& 16383) = nI ((zHs lo hi + (t + 1)) % 16384) := by
        rw [r_next hk]; congr 1; omega
      by_cases d1 : xI g 156 k = -1
      · refine ⟨k, hk, xlim_end ?_, ⟨t, by omega, hkk.symm, al⟩, Or.inl d1⟩
        unfold S_X12_slot_34
        rw [xck_nI hk (by decide), nI_clamp (by omega), if_pos ((hneg k hk).mpr d1)]
      · have nn : ¬ xI g 156 k < 0 := fun z => d1 ((hneg k hk).mp z)
        have go : S_X12_slot_34 (nL lo) (nL hi) g (nI k) = some (.inl (nI ((zHs lo hi + (t + 1)) % 16384))) → ¬ (xL g 154 k = nL lo ∧ xL g 155 k = nL hi) → ∃ k', k' < 16384 ∧ xlim (S_X12_slot_34 (nL lo) (nL hi) g) (nI k) = some (nI k') ∧ zWay g lo hi k' ∧ (xI g 156 k' = -1 ∨ (xL g 154 k' = nL lo ∧ xL g 155 k' = nL hi)) := fun st nk => by
          rw [xlim_go st]
          refine ih (t + 1) (by omega) fun t' ht' => ?_
          by_cases y : t' = t
          · rw [y, hkk]; exact ⟨d1, nk⟩
          · exact al t' (by omega)
        by_cases d2 : xL g 154 k = nL lo
        · by_cases d3 : xL g 155 k = nL hi
          · refine ⟨k, hk, xlim_end ?_, ⟨t, by omega, hkk.symm, al⟩, Or.inr ⟨d2, d3⟩⟩
            unfold S_X12_slot_34
            rw [xck_nI hk (by decide), xck_nI hk (by decide), xck_nI hk (by decide), nI_clamp (by omega), if_neg nn, if_pos ((lg_0 _ _).mpr d2), if_pos ((lg_0 _ _).mpr d3)]
          · refine go ?_ (fun z => d3 z.2)
            unfold S_X12_slot_34
            rw [xck_nI hk (by decide), xck_nI hk (by decide), xck_nI hk (by decide), nI_clamp (by omega), if_neg nn, if_pos ((lg_0 _ _).mpr d2), if_neg (fun z => d3 ((lg_0 _ _).mp z)), e1]
        · refine go ?_ (fun z => d2 z.1)
          unfold S_X12_slot_34
          rw [xck_nI hk (by decide), xck_nI hk (by decide), nI_clamp (by omega), if_neg nn, if_neg (fun z => d2 ((lg_0 _ _).mp z)), e1]
  obtain ⟨k, k1, k2, k3, k4⟩ := key ((f + 16384 - zHs lo hi) % 16384) 0 (by omega) (fun t' ht' => absurd ht' (by omega))
  refine ⟨k, k1, ?_, k3, k4⟩
  unfold E_X12_slot
  rw [Nat.add_zero, Nat.mod_eq_of_lt h1] at k2
  rw [h2, k2, xb1_some]
theorem zTab_neg (hT : zTab g w n c mk γ x0) : ∀ k, k < 16384 → (xI g 156 k < 0 ↔ xI g 156 k = -1) := fun k hk => by
  rcases hT k hk with e | ⟨lo, hi, v, e, e2, -⟩
  · rw [e]; exact ⟨fun _ => rfl, fun _ => by decide⟩
  · rw [e]; exact ⟨fun z => absurd z (nI_pos (by omega)), fun z => absurd z (nI_m1 e2)⟩
/-- what is known of a set -/
theorem r_knownR {om : Nat} (hn : n ≤ 5) (hw : om ≤ 1) (hV : zVo n om c mk V) (hc : c ≤ 120) (b : zRb g n c mk ρ) (hρ : ∀ i j, i < c → j < c → (ρ i = ρ j ↔ γ i = γ j)) (hT : zTab g w n c mk γ x0) (h : zIn c lo hi) : (zAl c γ (zSt lo hi) ∧ E_X12_known (nL lo) (nL hi) g = some (nI 0)) ∨ (¬ zAl c γ (zSt lo hi) ∧ (E_X12_known (nL lo) (nL hi) g = some (-1) ∨ ∃ v, v ≤ 1000000 ∧ E_X12_known (nL lo) (nL hi) g = some (nI v) ∧ zVl w (n * (n - 1) / 2) c mk γ (zSt lo hi) v)) := by
  obtain ⟨b1, b2⟩ := zIn_lt h
  unfold E_X12_known
  rw [r_isCome hc b hρ h, xb1_some]
  by_cases d : zAl c γ (zSt lo hi)
  · rw [if_pos d, if_neg (by decide)]
    exact Or.inl ⟨d, rfl⟩
  · rw [if_neg d, if_pos rfl]
    refine Or.inr ⟨d, ?_⟩
    obtain ⟨k, k1, k2, k3, k4⟩ := r_slotR b1 b2 (zTab_free hn hw hV hT) (zTab_neg hT)
    rw [k2, xb1_some, xck_nI k1 (by decide), nI_clamp (by omega)]
    rcases hT k k1 with e | ⟨lo', hi', v, e1, e2, e3, e4, e5, e6, e7, e8, e9⟩
    · rw [e]; exact Or.inl rfl
    · rcases k4 with e | ⟨f1, f2⟩
      · exact absurd (e1.symm.trans e) (nI_m1 e2)
      · obtain ⟨c1, c2⟩ := zIn_lt e5
        have i1 := (nL_eq c1 b1).mp (e3.symm.trans f1)
        have i2 := (nL_eq c2 b2).mp (e4.symm.trans f2)
        subst i1 i2
        exact Or.inr ⟨v, e2, by rw [e1], e8⟩
def dMt (o k : Nat) : Prop := o = 156
/-- what is found goes into the table -/
theorem r_meets {om : Nat} (hn : n ≤ 5) (hw : om ≤ 1) (hV : zVo n om c mk V) (hT : zTab g w n c mk γ x0) (h : zIn c lo hi) (hcl : ∃ x, zCl (n * (n - 1) / 2) c mk x0 x (zSt lo hi)) (ne : ∃ i, i < c ∧ zSt lo hi i = true) (hv : v ≤ 1000000) (hvl : zVl w (n * (n - 1) / 2) c mk γ (zSt lo hi) v) : ∃ g', E_X12_meets (nL lo) (nL hi) (nI v) g = some g' ∧ yAg dMt g g' ∧ (∀ o j, o ≠ 154 → o ≠ 155 → xL g' o j = xL g o j) ∧ zTab g' w n c mk γ x0 := by
  obtain ⟨b1, b2⟩ := zIn_lt h
  obtain ⟨k, k1, k2, ⟨t, t1, t2, t3⟩, k4⟩ := r_slotR b1 b2 (zTab_free hn hw hV hT) (zTab_neg hT)
  unfold E_X12_meets
  rw [k2, xb1_some, xck_nI k1 (by decide), xck_nI k1 (by decide), xck_nI k1 (by decide), nI_clamp (by omega)]
  have i156 : ∀ j, xI (xWI (xWL (xWL g 154 k (nL lo)) 155 k (nL hi)) 156 k (nI v)) 156 j = if j = k then nI v else xI g 156 j := fun j => by
    rw [yI_wi]
    by_cases e : j = k
    · rw [if_pos ⟨rfl, e⟩, if_pos e]
    · rw [if_neg (fun z => e z.2), if_neg e]; rfl
  have l154 : ∀ j, xL (xWI (xWL (xWL g 154 k (nL lo)) 155 k (nL hi)) 156 k (nI v)) 154 j = if j = k then nL lo else xL g 154 j := fun j => by
    rw [xL_WI, yL_wl, if_neg (by omega), yL_wl]
    by_cases e : j = k
    · rw [if_pos ⟨rfl, e⟩, if_pos e]
    · rw [if_neg (fun z => e z.2), if_neg e]
  have l155 : ∀ j, xL (xWI (xWL (xWL g 154 k (nL lo)) 155 k (nL hi)) 156 k (nI v)) 155 j = if j = k then nL hi else xL g 155 j := fun j => by
    rw [xL_WI, yL_wl]
    by_cases e : j = k
    · rw [if_pos ⟨rfl, e⟩, if_pos e]
    · rw [if_neg (fun z => e z.2), if_neg e, yL_wl, if_neg (by omega)]
  -- a way that was stays a way
  have way : ∀ lo2 hi2 k2, lo2 < 2 ^ 60 → hi2 < 2 ^ 60 → ((lo2 = lo ∧ hi2 = hi) → k2 = k) → zWay g lo2 hi2 k2 → zWay (xWI (xWL (xWL g 154 k (nL lo)) 155 k (nL hi)) 156 k (nI v)) lo2 hi2 k2 := fun lo2 hi2 k2 c1 c2 hk ⟨u, u1, u2, u3⟩ => ⟨u, u1, u2, fun t' ht' => by
    obtain ⟨w1, w2⟩ := u3 t' ht'
    rw [i156, l154, l155]
    by_cases e : (zHs lo2 hi2 + t') % 16384 = k
    · rw [if_pos e, if_pos e, if_pos e]
      refine ⟨nI_m1 hv, fun z => ?_⟩
      have q1 := (nL_eq b1 c1).mp z.1
      have q2 := (nL_eq b2 c2).mp z.2
      have := hk ⟨q1.symm, q2.symm⟩
      omega
    · rw [if_neg e, if_neg e, if_neg e]
      exact ⟨w1, w2⟩⟩
  have own : ∀ lo2 hi2 k2, k2 < 16384 → xI g 156 k2 ≠ -1 → xL g 154 k2 = nL lo2 → xL g 155 k2 = nL hi2 → zWay g lo2 hi2 k2 → (lo2 = lo ∧ hi2 = hi) → k2 = k := fun lo2 hi2 k2 h2 f0 f1 f2 ⟨u, u1, u2, u3⟩ ⟨e1, e2⟩ => by
    subst e1 e2
    rcases Nat.lt_trichotomy t u with y | y | y
    · obtain ⟨z1, z2⟩ := u3 t y
      rw [← t2] at z1 z2
      rcases k4 with e | e
      · exact absurd e z1
      · exact absurd e z2
    · rw [u2, t2, y]
    · obtain ⟨z1, z2⟩ := t3 u y
      rw [← u2] at z2
      exact absurd ⟨f1, f2⟩ z2
  refine ⟨_, rfl, (yAg.refl _ g).wi rfl, fun o j h1 h2 => ?_, fun s hs => ?_⟩
  · rw [xL_WI, yL_wl, if_neg (by omega), yL_wl, if_neg (by omega)]
  · by_cases e : s = k
    · subst e
      right
      refine ⟨lo, hi, v, by rw [i156, if_pos rfl], hv, by rw [l154, if_pos rfl], by rw [l155, if_pos rfl], h, hcl, ne, hvl, way lo hi s b1 b2 (fun _ => rfl) ⟨t, t1, t2, t3⟩⟩
    · rcases hT s hs with f | ⟨lo', hi', v', e1, e2, e3, e4, e5, e6, e7, e8, e9⟩
      · left; rw [i156, if_neg e]; exact f
      · right
        obtain ⟨c1, c2⟩ := zIn_lt e5
        exact ⟨lo', hi', v', by rw [i156, if_neg e]; exact e1, e2, by rw [l154, if_neg e]; exact e3, by rw [l155, if_neg e]; exact e4, e5, e6, e7, e8, way lo' hi' s c1 c2 (own lo' hi' s hs (by rw [e1]; exact nI_m1 e2) e3 e4 e9) e9⟩
end RT
