/-! STREET: the tables of the two sides while a text is read -/
section TB
variable {gC gR gC' gR' g g' : xSt} {t b n w u s r p k m : Nat} {bt : Nat → Nat}
/-- things -/
def zVn (gC gR : xSt) (t b n : Nat) : Prop := n ≤ 5 ∧ xI gC t 0 = nI n ∧ xI gR 116 b = nI n ∧ ∀ i, i < n → xL gC (t + 1) i = xL gR 124 (5 * b + i) ∧ ∃ v, 1 ≤ v ∧ v ≤ 999 ∧ xI gC (t + 2) i = nI v ∧ xI gR 120 (5 * b + i) = nI v
/-- twins and sticks -/
def zVw (gC gR : xSt) (t b : Nat) : Prop := ∃ w u s, w ≤ 1 ∧ u ≤ 1 ∧ s ≤ 99 ∧ xI gC t 3 = nI w ∧ xI gR 121 b = nI w ∧ xI gC t 4 = nI u ∧ xI gR 122 b = nI u ∧ xI gC t 5 = nI s ∧ xI gR 117 b = nI s
/-- the row told -/
def zVr (gC gR : xSt) (t b n r : Nat) : Prop := r ≤ n ∧ xI gC t 6 = nI r ∧ xI gR 118 b = nI r ∧ (∀ i, i < r → ∃ v, v < n ∧ xI gC (t + 3) i = nI v ∧ xI gR 119 (5 * b + i) = nI v) ∧ ∀ i j, i < r → j < r → xI gC (t + 3) i = xI gC (t + 3) j → i = j
/-- plans -/
def zVp (gC gR : xSt) (t b p k : Nat) : Prop := p ≤ 3 ∧ xI gC t 8 = nI p ∧ xI gR 126 b = nI p ∧ ∀ i, i < p → xL gC (t + 4) i = xL gR 125 (3 * b + i) ∧ ∃ v, v ≤ k ∧ xI gC (t + 5) i = nI v - 1 ∧ xI gR 128 (3 * b + i) = ytwo b v
/-- twos -/
def zV2 (gC gR : xSt) (t b n k : Nat) : Prop := k ≤ 60 ∧ xI gC t 11 = nI k ∧ xI gR 127 b = nI k ∧ ∀ i, i < k → ∃ x y, x < n ∧ y < n ∧ x ≠ y ∧ xI gC (t + 6) i = nI x ∧ xI gR 129 (60 * b + i) = nI x ∧ xI gC (t + 7) i = nI y ∧ xI gR 130 (60 * b + i) = nI y
/-- one way of a two -/
def zV3 (gC gR : xSt) (t b k i q : Nat) : Prop := ∃ v, (v = 0 ∨ (i + 1 < v ∧ v ≤ k)) ∧ xI gC (t + 8) (3 * i + q) = nI v - 1 ∧ xI gR 131 (3 * (60 * b + i) + yway q) = ytwo b v
/-- the first that is so -/
def zIst (P : Nat → Prop) (q j : Nat) : Prop := j ≤ q ∧ (∀ i, i < j → ¬ P i) ∧ (j < q → P j)
theorem zIst_ex (P : Nat → Prop) : ∀ q, ∃ j, zIst P q j := by
  intro q
  induction q with
  | zero => exact ⟨0, Nat.le_refl _, fun i h => by omega, fun h => by omega⟩
  | succ q ih =>
    obtain ⟨j, h1, h2, h3⟩ := ih
    by_cases c : j < q
    · exact ⟨j, by omega, h2, fun _ => h3 c⟩
    · have e : j = q := by omega
      subst e
      by_cases d : P j
      · exact ⟨j, by omega, h2, fun _ => d⟩
      · refine ⟨j + 1, Nat.le_refl _, fun i hi => ?_, fun z => by omega⟩
        by_cases y : i = j
        · rw [y]; exact d
        · exact h2 i (by omega)
theorem zIst.eq {P Q : Nat → Prop} {q j : Nat} (h : zIst P q j) (e : ∀ i, i < q → (P i ↔ Q i)) : zIst Q q j := ⟨h.1, fun i hi z => h.2.1 i hi ((e i (by have := h.1; omega)).mpr z), fun z => (e j z).mp (h.2.2 z)⟩
theorem zFind {β : Type} {step : Int32 → Option (Int32 ⊕ (β ⊕ Unit))} {P : Nat → Prop} {val : Nat → β} {q j : Nat} (h : zIst P q j) (h1 : ∀ i, i < q → ¬ P i → step (nI i) = some (.inl (nI (i + 1)))) (h2 : ∀ i, i < q → P i → step (nI i) = some (.inr (.inl (val i)))) (h3 : step (nI q) = some (.inr (.inr ()))) : xlim step 0 = some (if j < q then .inl (val j) else .inr ()) := by
  have key : ∀ m a, m + a = j → xlim step (nI a) = some (if j < q then .inl (val j) else .inr ()) := by
    intro m
    induction m with
    | zero =>
      intro a ha
      have e : a = j := by omega
      subst e
      by_cases c : a < q
      · rw [if_pos c]; exact xlim_end (h2 a c (h.2.2 c))
      · have e : a = q := by have := h.1; omega
        rw [if_neg c, e]; exact xlim_end h3
    | succ m ih =>
      intro a ha
      have := h.1
      rw [xlim_go (h1 a (by omega) (h.2.1 a (by omega)))]
      exact ih (a + 1) (by omega)
  exact key j 0 (by omega)
theorem zFind_m1 {q j : Nat} : (xbs (some (if j < q then (Sum.inl (nI j) : Int32 ⊕ Unit) else Sum.inr ())) (fun v_ => some v_) fun _ => some (-1)) = some (if j < q then nI j else -1) := by
  by_cases c : j < q
  · rw [if_pos c, if_pos c]; rfl
  · rw [if_neg c, if_neg c]; rfl
/-- the class finds a name -/
theorem c_fnd {o N q j : Nat} {v : Int64} (hN : N < 2 ^ 31) (hq : q ≤ N) (h : zIst (fun i => xL g o i = v) q j) : E_X7_find o N (nI q) v g = some (if j < q then nI j else -1) := by
  unfold E_X7_find
  rw [zFind (val := nI) h (fun i hi ne => ?_) (fun i hi e => ?_) ?_]
  · exact zFind_m1
  · unfold S_X7_find_3
    rw [if_pos (nI_le (Nat.le_refl q) (by omega))]
  · unfold S_X7_find_3
    rw [show Int32.ofNat N = nI N from rfl, if_neg (nI_ge hi (by omega)), if_neg (nI_ge (by omega) hN), xck_nI (by omega) hN, nI_clamp (by omega), if_neg (fun z => ne ((lg_0 _ _).mp z)), nI_1]
  · unfold S_X7_find_3
    rw [show Int32.ofNat N = nI N from rfl, if_neg (nI_ge hi (by omega)), if_neg (nI_ge (by omega) hN), xck_nI (by omega) hN, nI_clamp (by omega), if_pos ((lg_0 _ _).mpr e)]
theorem c_thingOf {j : Nat} {v : Int64} (h0 : xI g t 0 = nI n) (hn : n ≤ 5) (h : zIst (fun i => xL g (t + 1) i = v) n j) : E_X10_thingOf t v g = some (if j < n then nI j else -1) := by
  unfold E_X10_thingOf
  rw [h0, c_fnd (by decide) hn h, xb1_some]
theorem c_planOf {j : Nat} {v : Int64} (h0 : xI g t 8 = nI p) (hp : p ≤ 3) (h : zIst (fun i => xL g (t + 4) i = v) p j) : E_X10_planOf t v g = some (if j < p then nI j else -1) := by
  unfold E_X10_planOf
  rw [h0, c_fnd (by decide) hp h, xb1_some]
theorem nI_b5 (c b i : Nat) : (nI c * nI b) + nI i = nI (c * b + i) := by rw [nI_mul, nI_add]
/-- the reference finds a name -/
theorem r_thingHere {j : Nat} (hb : b ≤ 1) (h31 : xI g 113 31 = nI b) (hn : n ≤ 5) (h0 : xI g 116 b = nI n) (h : zIst (fun i => xL g 124 (5 * b + i) = xL g 113 10) n j) : E_X12_thingHere g = some (if xI g 113 8 = 2 ∧ j < n then nI j else -1) := by
  have e5 : ∀ i, (5 * nI b) + nI i = nI (5 * b + i) := fun i => nI_b5 5 b i
  unfold E_X12_thingHere
  by_cases d : xI g 113 8 = 2
  · rw [zFind (val := nI) h (fun i hi ne => ?_) (fun i hi e => ?_) ?_]
    · rw [zFind_m1]
      by_cases c : j < n
      · rw [if_pos c, if_pos ⟨d, c⟩]
      · rw [if_neg c, if_neg (fun z => c z.2)]
    · unfold S_X12_thingHere_2
      rw [h31, xck_nI (by omega) (by decide), nI_clamp (by omega), h0, if_pos (nI_le (Nat.le_refl _) (by omega))]
    · unfold S_X12_thingHere_2
      rw [h31, xck_nI (by omega) (by decide), nI_clamp (by omega), h0, if_neg (nI_ge hi (by omega)), if_pos d, e5, xck_nI (by omega) (by decide), nI_clamp (by omega), if_neg (fun z => ne ((lg_0 _ _).mp z)), nI_1]
    · unfold S_X12_thingHere_2
      rw [h31, xck_nI (by omega) (by decide), nI_clamp (by omega), h0, if_neg (nI_ge hi (by omega)), if_pos d, e5, xck_nI (by omega) (by decide), nI_clamp (by omega), if_pos ((lg_0 _ _).mpr e)]
  · rw [zFind (val := nI) (P := fun _ => False) (q := n) (j := n) ⟨Nat.le_refl _, fun _ _ z => z, fun z => by omega⟩ (fun i hi _ => ?_) (fun i hi e => e.elim) ?_]
    · rw [zFind_m1, if_neg (by omega), if_neg (fun z => d z.1)]
    · unfold S_X12_thingHere_2
      rw [h31, xck_nI (by omega) (by decide), nI_clamp (by omega), h0, if_pos (nI_le (Nat.le_refl _) (by omega))]
    · unfold S_X12_thingHere_2
      rw [h31, xck_nI (by omega) (by decide), nI_clamp (by omega), h0, if_neg (nI_ge hi (by omega)), if_neg d, nI_1]
theorem r_planHere {j : Nat} (hb : b ≤ 1) (h31 : xI g 113 31 = nI b) (hp : p ≤ 3) (h0 : xI g 126 b = nI p) (h : zIst (fun i => xL g 125 (3 * b + i) = xL g 113 10) p j) : E_X12_planHere g = some (if xI g 113 8 = 2 ∧ j < p then nI j else -1) := by
  have e5 : ∀ i, (3 * nI b) + nI i = nI (3 * b + i) := fun i => nI_b5 3 b i
  unfold E_X12_planHere
  by_cases d : xI g 113 8 = 2
  · rw [zFind (val := nI) h (fun i hi ne => ?_) (fun i hi e => ?_) ?_]
    · rw [zFind_m1]
      by_cases c : j < p
      · rw [if_pos c, if_pos ⟨d, c⟩]
      · rw [if_neg c, if_neg (fun z => c z.2)]
    · unfold S_X12_planHere_2
      rw [h31, xck_nI (by omega) (by decide), nI_clamp (by omega), h0, if_pos (nI_le (Nat.le_refl _) (by omega))]
    · unfold S_X12_planHere_2
      rw [h31, xck_nI (by omega) (by decide), nI_clamp (by omega), h0, if_neg (nI_ge hi (by omega)), if_pos d, e5, xck_nI (by omega) (by decide), nI_clamp (by omega), if_neg (fun z => ne ((lg_0 _ _).mp z)), nI_1]
    · unfold S_X12_planHere_2
      rw [h31, xck_nI (by omega) (by decide), nI_clamp (by omega), h0, if_neg (nI_ge hi (by omega)), if_pos d, e5, xck_nI (by omega) (by decide), nI_clamp (by omega), if_pos ((lg_0 _ _).mpr e)]
  · rw [zFind (val := nI) (P := fun _ => False) (q := p) (j := p) ⟨Nat.le_refl _, fun _ _ z => z, fun z => by omega⟩ (fun i hi _ => ?_) (fun i hi e => e.elim) ?_]
    · rw [zFind_m1, if_neg (by omega), if_neg (fun z => d z.1)]
    · unfold S_X12_planHere_2
      rw [h31, xck_nI (by omega) (by decide), nI_clamp (by omega), h0, if_pos (nI_le (Nat.le_refl _) (by omega))]
    · unfold S_X12_planHere_2
      rw [h31, xck_nI (by omega) (by decide), nI_clamp (by omega), h0, if_neg (nI_ge hi (by omega)), if_neg d, nI_1]
/-! the row's bits -/
def zRwb (R : Nat → Nat) : Nat → Nat
  | 0 => 0
  | i + 1 => zRwb R i ||| 2 ^ R i
theorem zRwb_lt {R : Nat → Nat} : ∀ r, (∀ i, i < r → R i < 5) → zRwb R r < 32 := by
  intro r
  induction r with
  | zero => intro _; exact (by decide : 0 < 32)
  | succ r ih =>
    intro h
    exact Nat.or_lt_two_pow (n := 5) (ih fun i hi => h i (by omega)) (Nat.pow_lt_pow_right (by decide) (h r (by omega)))
theorem zRwb_bit {R : Nat → Nat} {v : Nat} : ∀ r, (zRwb R r).testBit v = true ↔ ∃ i, i < r ∧ R i = v := by
  intro r
  induction r with
  | zero =>
    constructor
    · intro h; rw [show zRwb R 0 = 0 from rfl, Nat.zero_testBit] at h; exact absurd h (by decide)
    · intro ⟨i, hi, _⟩; omega
  | succ r ih =>
    rw [show zRwb R (r + 1) = zRwb R r ||| 2 ^ R r from rfl, Nat.testBit_or, Bool.or_eq_true, ih, Nat.testBit_two_pow, decide_eq_true_iff]
    constructor
    · intro h
      rcases h with ⟨i, h1, h2⟩ | h
      · exact ⟨i, by omega, h2⟩
      · exact ⟨r, by omega, h⟩
    · intro ⟨i, h1, h2⟩
      by_cases c : i = r
      · right; rw [← c]; exact h2
      · left; exact ⟨i, by omega, h2⟩
theorem xbit_tb : ∀ x, x < 32 → ∀ v, v < 5 → xbit (nI x) (nI v) = if x.testBit v = true then 1 else 0 := by decide +kernel
theorem x_sh5 : ∀ v, v < 5 → ((1 : Int32) <<< (nI v &&& 31)) = nI (2 ^ v) := by decide +kernel
theorem x_m1 (a : Int32) : xbit a (-1) = 0 := if_pos (by decide)
theorem c_rowBits {R : Nat → Nat} (hr : r ≤ 5) (h6 : xI g t 6 = nI r) (h : ∀ i, i < r → R i < 5 ∧ xI g (t + 3) i = nI (R i)) : E_X10_rowBits t g = some (nI (zRwb R r)) := by
  have st : ∀ j, j < r → S_X10_rowBits_4 t g (nI (zRwb R j), nI j) = some (.inl (nI (zRwb R (j + 1)), nI (j + 1))) := fun j hj => by
    unfold S_X10_rowBits_4
    rw [h6, if_neg (nI_ge hj (by omega)), xat_nI (by omega) (by decide), (h j hj).2, x_sh5 _ (h j hj).1, r_orG, nI_1]
    rfl
  unfold E_X10_rowBits
  rw [show ((0 : Int32), (0 : Int32)) = (nI (zRwb R 0), nI 0) from rfl, xlim_of (fun j => (nI (zRwb R j), nI j)) r (e := nI (zRwb R r)) st ?_, xb1_some]
  unfold S_X10_rowBits_4
  rw [h6, if_pos (nI_le (Nat.le_refl _) (by omega))]
theorem r_isInRow {R : Nat → Nat} {v : Nat} (hv : v < 5) (hb : b ≤ 1) (h31 : xI g 113 31 = nI b) (hr : r ≤ 5) (h0 : xI g 118 b = nI r) (h : ∀ i, i < r → R i < 5 ∧ xI g 119 (5 * b + i) = nI (R i)) : E_X12_isInRow (nI v) g = some (xbit (nI (zRwb R r)) (nI v)) := by
  have e5 : ∀ i, (5 * nI b) + nI i = nI (5 * b + i) := fun i => nI_b5 5 b i
  obtain ⟨j, hj⟩ := zIst_ex (fun i => R i = v) r
  unfold E_X12_isInRow
  rw [xbit_tb _ (zRwb_lt r fun i hi => (h i hi).1) v hv, zFind (val := fun _ => (1 : Int32)) hj (fun i hi ne => ?_) (fun i hi e => ?_) ?_]
  · by_cases c : j < r
    · rw [if_pos c, if_pos ((zRwb_bit r).mpr ⟨j, c, hj.2.2 c⟩)]; rfl
    · rw [if_neg c, if_neg (fun z => by obtain ⟨i, h1, h2⟩ := (zRwb_bit r).mp z; exact hj.2.1 i (by omega) h2)]; rfl
  · unfold S_X12_isInRow_2
    rw [h31, xck_nI (by omega) (by decide), nI_clamp (by omega), h0, if_pos (nI_le (Nat.le_refl _) (by omega))]
  · obtain ⟨a1, a2⟩ := h i hi
    unfold S_X12_isInRow_2
    rw [h31, xck_nI (by omega) (by decide), nI_clamp (by omega), h0, if_neg (nI_ge hi (by omega)), e5, xck_nI (by omega) (by decide), nI_clamp (by omega), a2, if_neg (fun z => ne ((nI_eq (by omega) (by omega)).mp z)), nI_1]
  · obtain ⟨a1, a2⟩ := h i hi
    unfold S_X12_isInRow_2
    rw [h31, xck_nI (by omega) (by decide), nI_clamp (by omega), h0, if_neg (nI_ge hi (by omega)), e5, xck_nI (by omega) (by decide), nI_clamp (by omega), a2, if_pos (by rw [show R i = v from e])]
end TB
