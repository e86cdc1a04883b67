/-! THE SEARCH: finish -/
section FN
variable {g g' : xSt} {o n a j u v : Nat}
theorem yL_wl (g : xSt) (o k a b : Nat) (v : Int64) : xL (xWL g o k v) a b = if a = o ∧ b = k then v else xL g a b := by
  by_cases h : a = o ∧ b = k
  · rw [if_pos h]; obtain ⟨rfl, rfl⟩ := h; show x2 (xL g) a b v a b = v; simp [x2]
  · rw [if_neg h]; exact x2_out _ h
theorem xputL_nI {v : Int64} (hj : j < n) (hn : n < 2 ^ 31) : xputL g o n (nI j) v = xWL g o j v := by
  unfold xputL
  rw [if_neg (nI_in hj hn), nI_clamp (by omega)]
theorem xatL_nI {f : Nat → Int64} (hj : j < n) (hn : n < 2 ^ 31) : xatL f n (nI j) = f j := by
  unfold xatL
  rw [if_neg (nI_in hj hn), nI_clamp (by omega)]
def zLo (p : Nat → Bool) (j : Nat) : Nat := yBs p (min j 60)
def zHi (p : Nat → Bool) (j : Nat) : Nat := yBs (fun i => p (60 + i)) (j - 60)
def zM (g : xSt) (o a u v : Nat) : Prop := xL g o (2 * a) = nL u ∧ xL g o (2 * a + 1) = nL v
theorem zLo_succ (p : Nat → Bool) (j : Nat) : zLo p (j + 1) = zLo p j ||| (if j < 60 ∧ p j = true then 2 ^ j else 0) := by
  unfold zLo
  by_cases c : j < 60
  · rw [show min (j + 1) 60 = j + 1 by omega, show min j 60 = j by omega, yBs_succ]
    by_cases d : p j = true
    · rw [if_pos d, if_pos ⟨c, d⟩]
    · rw [if_neg d, if_neg (fun z => d z.2)]
  · rw [show min (j + 1) 60 = 60 by omega, show min j 60 = 60 by omega, if_neg (fun z => c z.1), Nat.or_zero]
theorem zHi_succ (p : Nat → Bool) (j : Nat) : zHi p (j + 1) = zHi p j ||| (if 60 ≤ j ∧ p j = true then 2 ^ (j - 60) else 0) := by
  unfold zHi
  by_cases c : 60 ≤ j
  · rw [show j + 1 - 60 = (j - 60) + 1 by omega, yBs_succ, show 60 + (j - 60) = j by omega]
    by_cases d : p j = true
    · rw [if_pos d, if_pos ⟨c, d⟩]
    · rw [if_neg d, if_neg (fun z => d z.2)]
  · rw [show j + 1 - 60 = j - 60 by omega, if_neg (fun z => c z.1), Nat.or_zero]
theorem zLo_congr {p q : Nat → Bool} {j : Nat} (h : ∀ i, i < j → p i = q i) : zLo p j = zLo q j := yBs_congr fun i hi => h i (by omega)
theorem zHi_congr {p q : Nat → Bool} {j : Nat} (h : ∀ i, i < j → p i = q i) : zHi p j = zHi q j := yBs_congr fun i hi => h _ (by omega)
theorem yBs_no {p : Nat → Bool} {m : Nat} (h : ∀ i, i < m → p i = false) : yBs p m = 0 := by
  apply Nat.eq_of_testBit_eq
  intro x
  rw [Nat.zero_testBit]
  apply Bool.eq_false_iff.mpr
  intro z
  obtain ⟨z1, z2⟩ := yBs_bit.mp z
  rw [h x z1] at z2
  exact absurd z2 (by decide)
theorem r_m60 : ∀ j, j < 120 → (1 : Int64) <<< (Int32.toInt64 (nI j - nI j / 60 * 60) &&& 63) = nL (2 ^ (if j < 60 then j else j - 60)) := by decide +kernel
theorem r_putIn (ha : 2 * a + 1 < n) (hn : n < 2 ^ 31) (hj : j < 120) (h : zM g o a u v) : ∃ g', E_X8_putIn o n (nI a) (nI j) g = some g' ∧ xR g' = xR g ∧ xI g' = xI g ∧ (∀ b k, (b ≠ o ∨ (k ≠ 2 * a ∧ k ≠ 2 * a + 1)) → xL g' b k = xL g b k) ∧ zM g' o a (u ||| (if j < 60 then 2 ^ j else 0)) (v ||| (if 60 ≤ j then 2 ^ (j - 60) else 0)) := by
  unfold E_X8_putIn K_X8_putIn_17
  rw [r_m60 j hj, show (60 : Int32) = nI 60 from rfl, show (2 : Int32) = nI 2 from rfl, nI_mul, nI_1]
  by_cases c : j < 60
  · rw [if_neg (nI_ge c (by decide)), if_pos c, if_pos c, if_neg (show ¬ 60 ≤ j by omega), Nat.or_zero, xatL_nI (by omega) hn, xputL_nI (by omega) hn]
    refine ⟨_, rfl, rfl, rfl, fun b k q => by rw [yL_wl, if_neg (by omega)], ?_, ?_⟩
    · rw [yL_wl, if_pos ⟨rfl, rfl⟩, h.1, nL_or]
    · rw [yL_wl, if_neg (by omega), h.2]
  · rw [if_pos (nI_le (by omega) (by omega)), if_neg c, if_neg c, if_pos (show 60 ≤ j by omega), Nat.or_zero, xatL_nI (by omega) hn, xputL_nI (by omega) hn]
    refine ⟨_, rfl, rfl, rfl, fun b k q => by rw [yL_wl, if_neg (by omega)], ?_, ?_⟩
    · rw [yL_wl, if_neg (by omega), h.1]
    · rw [yL_wl, if_pos ⟨rfl, rfl⟩, h.2, nL_or]
/-- put, told with the masks so far -/
theorem r_putM {p : Nat → Bool} (ha : 2 * a + 1 < n) (hn : n < 2 ^ 31) (hj : j < 120) (hp : p j = true) (h : zM g o a (zLo p j) (zHi p j)) : ∃ g', E_X8_putIn o n (nI a) (nI j) g = some g' ∧ xR g' = xR g ∧ xI g' = xI g ∧ (∀ b k, (b ≠ o ∨ (k ≠ 2 * a ∧ k ≠ 2 * a + 1)) → xL g' b k = xL g b k) ∧ zM g' o a (zLo p (j + 1)) (zHi p (j + 1)) := by
  obtain ⟨g', h1, h2, h3, h4, h5⟩ := r_putIn ha hn hj h
  refine ⟨g', h1, h2, h3, h4, ?_⟩
  rw [zLo_succ, zHi_succ]
  simp only [hp, and_true]
  exact h5
theorem zM_skip {p : Nat → Bool} (hp : p j = false) (h : zM g o a (zLo p j) (zHi p j)) : zM g o a (zLo p (j + 1)) (zHi p (j + 1)) := by
  rw [zLo_succ, zHi_succ]
  simp only [hp, Bool.false_eq_true, and_false, if_false, Nat.or_zero]
  exact h
theorem zM.eq {g g' : xSt} {o a u v : Nat} (h : zM g o a u v) (e : ∀ k, k = 2 * a ∨ k = 2 * a + 1 → xL g' o k = xL g o k) : zM g' o a u v := ⟨(e _ (Or.inl rfl)).trans h.1, (e _ (Or.inr rfl)).trans h.2⟩
/-- the marks of order j -/
theorem r_marks {mk : Nat → Nat} (hj : j < 120) (hm : mk j < 2 ^ 30) (hs : ∀ b, b < 30 → zM g 81 b (zLo (fun i => (mk i).testBit b) j) (zHi (fun i => (mk i).testBit b) j)) : ∃ g', xlim (S_X8_sortIn_24 (nI j) (nI (mk j))) (0, g) = some g' ∧ xR g' = xR g ∧ xI g' = xI g ∧ (∀ b k, b ≠ 81 → xL g' b k = xL g b k) ∧ ∀ b, b < 30 → zM g' 81 b (zLo (fun i => (mk i).testBit b) (j + 1)) (zHi (fun i => (mk i).testBit b) (j + 1)) := by
  have key : ∀ m b g1, m + b = 30 → xR g1 = xR g → xI g1 = xI g → (∀ x k, x ≠ 81 → xL g1 x k = xL g x k) → (∀ x, x < b → zM g1 81 x (zLo (fun i => (mk i).testBit x) (j + 1)) (zHi (fun i => (mk i).testBit x) (j + 1))) → (∀ x, b ≤ x → x < 30 → zM g1 81 x (zLo (fun i => (mk i).testBit x) j) (zHi (fun i => (mk i).testBit x) j)) → ∃ g', xlim (S_X8_sortIn_24 (nI j) (nI (mk j))) (nI b, g1) = some g' ∧ xR g' = xR g ∧ xI g' = xI g ∧ (∀ b k, b ≠ 81 → xL g' b k = xL g b k) ∧ ∀ b, b < 30 → zM g' 81 b (zLo (fun i => (mk i).testBit b) (j + 1)) (zHi (fun i => (mk i).testBit b) (j + 1)) := by
    intro m
    induction m with
    | zero =>
      intro b g1 hb hR hI hL h1 h2
      refine ⟨g1, xlim_end ?_, hR, hI, hL, fun x hx => h1 x (by omega)⟩
      unfold S_X8_sortIn_24
      exact if_pos (show (30 : Int32) ≤ nI b by rw [show (30 : Int32) = nI 30 from rfl]; exact nI_le (by omega) (by omega))
    | succ m ih =>
      intro b g1 hb hR hI hL h1 h2
      have h30 : ¬ (30 : Int32) ≤ nI b := by rw [show (30 : Int32) = nI 30 from rfl]; exact nI_ge (by omega) (by omega)
      by_cases c : (mk j).testBit b = true
      · obtain ⟨g2, e1, e2, e3, e4, e5⟩ := r_putM (n := 60) (p := fun i => (mk i).testBit b) (by omega) (by decide) hj c (h2 b (Nat.le_refl _) (by omega))
        have st : S_X8_sortIn_24 (nI j) (nI (mk j)) (nI b, g1) = some (.inl (nI (b + 1), g2)) := by
          unfold S_X8_sortIn_24
          simp only [if_neg h30, r_xbG (show mk j < 2 ^ 31 by omega) (show b < 31 by omega), if_pos c, e1, xb1_some, nI_1]
          exact if_neg (by decide)
        obtain ⟨g', r1, r2⟩ := ih (b + 1) g2 (by omega) (e2.trans hR) (e3.trans hI) (fun x k hx => (e4 x k (Or.inl hx)).trans (hL x k hx)) (fun x hx => by
          by_cases d : x = b
          · subst d; exact e5
          · exact (h1 x (by omega)).eq (fun k hk => e4 81 k (Or.inr (by omega)))) (fun x hx hx2 => (h2 x (by omega) hx2).eq (fun k hk => e4 81 k (Or.inr (by omega))))
        exact ⟨g', (xlim_go st).trans r1, r2⟩
      · have st : S_X8_sortIn_24 (nI j) (nI (mk j)) (nI b, g1) = some (.inl (nI (b + 1), g1)) := by
          unfold S_X8_sortIn_24
          simp only [if_neg h30, r_xbG (show mk j < 2 ^ 31 by omega) (show b < 31 by omega), if_neg c, nI_1]
          exact if_pos trivial
        obtain ⟨g', r1, r2⟩ := ih (b + 1) g1 (by omega) hR hI hL (fun x hx => by
          by_cases d : x = b
          · subst d; exact zM_skip (p := fun i => (mk i).testBit x) (Bool.eq_false_iff.mpr c) (h2 x (Nat.le_refl _) (by omega))
          · exact h1 x (by omega)) (fun x hx hx2 => h2 x (by omega) hx2)
        exact ⟨g', (xlim_go st).trans r1, r2⟩
  exact key 30 0 g rfl rfl rfl (fun _ _ _ => rfl) (fun x hx => by omega) (fun x _ hx => hs x hx)
/-- kinds of goals of j orders -/
def zKn (g : xSt) (γ : Nat → Int32) (j : Nat) (κ : Nat → Nat) (K : Nat) : Prop := K ≤ j ∧ xI g 76 9 = nI K ∧ (∀ i, i < j → κ i < K ∧ xI g 79 i = nI (κ i)) ∧ (∀ i i', i < j → i' < j → (κ i = κ i' ↔ γ i = γ i')) ∧ (∀ k, k < K → (∃ i, i < j ∧ κ i = k) ∧ zM g 80 k (zLo (fun i => κ i == k) j) (zHi (fun i => κ i == k) j))
theorem r_kindLike {γ : Nat → Int32} {κ : Nat → Nat} {K : Nat} (hj : j < 120) (hγ : ∀ i, i < j + 1 → xI g 78 i = γ i) (h : zKn g γ j κ K) : ∃ k g', E_X8_kindLike (nI j) g = some (nI k, g') ∧ xR g' = xR g ∧ (∀ o b, ¬ (o = 76 ∧ b = 9) → xI g' o b = xI g o b) ∧ (∀ b x, b ≠ 80 → xL g' b x = xL g b x) ∧ ((k < K ∧ g' = g ∧ ∃ i, i < j ∧ κ i = k ∧ γ i = γ j) ∨ (k = K ∧ (∀ i, i < j → γ i ≠ γ j) ∧ xI g' 76 9 = nI (K + 1) ∧ zM g' 80 K 0 0 ∧ ∀ x, x ≠ 2 * K → x ≠ 2 * K + 1 → xL g' 80 x = xL g 80 x)) := by
  obtain ⟨k1, k2, k3, k4, k5⟩ := h
  unfold E_X8_kindLike
  have key : ∀ m i, m + i = j → (∀ x, x < i → γ x ≠ γ j) → ((∃ x, x < j ∧ γ x = γ j ∧ xlim (S_X8_kindLike_2 (nI j)) (nI i, g) = some (.inl (nI (κ x), g))) ∨ ((∀ x, x < j → γ x ≠ γ j) ∧ xlim (S_X8_kindLike_2 (nI j)) (nI i, g) = some (.inr g))) := by
    intro m
    induction m with
    | zero =>
      intro i hi hx
      refine Or.inr ⟨fun x hx2 => hx x (by omega), xlim_end ?_⟩
      unfold S_X8_kindLike_2
      exact if_pos (nI_le (by omega) (by omega))
    | succ m ih =>
      intro i hi hx
      by_cases c : γ i = γ j
      · refine Or.inl ⟨i, by omega, c, xlim_end ?_⟩
        unfold S_X8_kindLike_2
        simp only [if_neg (nI_ge (show i < j by omega) (show j < 2 ^ 31 by omega)), xat_nI (show i < 120 by omega) (show 120 < 2 ^ 31 by decide), xat_nI hj (show 120 < 2 ^ 31 by decide), hγ i (by omega), hγ j (by omega), if_pos c, (k3 i (by omega)).2]
      · have st : S_X8_kindLike_2 (nI j) (nI i, g) = some (.inl (nI (i + 1), g)) := by
          unfold S_X8_kindLike_2
          simp only [if_neg (nI_ge (show i < j by omega) (show j < 2 ^ 31 by omega)), xat_nI (show i < 120 by omega) (show 120 < 2 ^ 31 by decide), xat_nI hj (show 120 < 2 ^ 31 by decide), hγ i (by omega), hγ j (by omega), if_neg c, nI_1]
        rw [xlim_go st]
        exact ih (i + 1) (by omega) (fun x hx2 => by
          by_cases d : x = i
          · subst d; exact c
          · exact hx x (by omega))
  rcases key j 0 (by omega) (fun x hx => by omega) with ⟨x, x1, x2, x3⟩ | ⟨x2, x3⟩
  · rw [show ((0 : Int32), g) = (nI 0, g) from rfl, x3]
    exact ⟨κ x, g, rfl, rfl, fun _ _ _ => rfl, fun _ _ _ => rfl, Or.inl ⟨(k3 x x1).1, rfl, x, x1, rfl, x2⟩⟩
  · rw [show ((0 : Int32), g) = (nI 0, g) from rfl, x3]
    have e : nI K + 1 - 1 = nI K := by rw [Int32.add_sub_cancel]
    have p1 : xputL g 80 240 (2 * xI g 76 9) 0 = xWL g 80 (2 * K) 0 := by rw [k2, show (2 : Int32) = nI 2 from rfl, nI_mul, xputL_nI (by omega) (by decide)]
    have p2 : xI (xWL g 80 (2 * K) 0) 76 9 = nI K := k2
    have p3 : xputL (xWL g 80 (2 * K) 0) 80 240 (2 * nI K + 1) 0 = xWL (xWL g 80 (2 * K) 0) 80 (2 * K + 1) 0 := by rw [show (2 : Int32) = nI 2 from rfl, nI_mul, nI_1, xputL_nI (by omega) (by decide)]
    have p4 : xI (xWL (xWL g 80 (2 * K) 0) 80 (2 * K + 1) 0) 76 9 = nI K := k2
    refine ⟨K, xWI (xWL (xWL g 80 (2 * K) 0) 80 (2 * K + 1) 0) 76 9 (nI (K + 1)), ?_, rfl, fun o b q => ?_, fun b x q => ?_, Or.inr ⟨rfl, x2, ?_, ⟨?_, ?_⟩, fun x q1 q2 => ?_⟩⟩
    · show some (xI (xputL (xputL g 80 240 (2 * xI g 76 9) 0) 80 240 (2 * xI (xputL g 80 240 (2 * xI g 76 9) 0) 76 9 + 1) 0) 76 9 + 1 - 1, xWI (xputL (xputL g 80 240 (2 * xI g 76 9) 0) 80 240 (2 * xI (xputL g 80 240 (2 * xI g 76 9) 0) 76 9 + 1) 0) 76 9 (xI (xputL (xputL g 80 240 (2 * xI g 76 9) 0) 80 240 (2 * xI (xputL g 80 240 (2 * xI g 76 9) 0) 76 9 + 1) 0) 76 9 + 1)) = _
      rw [p1, p2, p3, p4, e, nI_1]
    · rw [yI_wi, if_neg q]; rfl
    · rw [xL_WI, yL_wl, if_neg (by omega), yL_wl, if_neg (by omega)]
    · rw [yI_wi, if_pos ⟨rfl, rfl⟩]
    · rw [xL_WI, yL_wl, if_neg (by omega), yL_wl, if_pos ⟨rfl, rfl⟩]; rfl
    · rw [xL_WI, yL_wl, if_pos ⟨rfl, rfl⟩]; rfl
    · rw [xL_WI, yL_wl, if_neg (by omega), yL_wl, if_neg (by omega)]
end FN
