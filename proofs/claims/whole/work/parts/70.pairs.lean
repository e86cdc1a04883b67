/-! the reference lays its pairs -/
section LP
variable {g g' : xSt} {β n w c N : Nat} {T B : yT} {L : List Nat} {k a1 a2 a3 : Int32}
def yPs (n a b : Nat) : Nat := ((List.range n).map fun x => ((List.range n).filter fun y => decide (x < y) && (decide (x < a) || (decide (x = a) && decide (y < b)))).length).sum
theorem yPs_1 : ∀ n, n < 6 → ∀ a, a < n → ∀ b, b < n → a < b → yPs n a b = yPr n a b ∧ yPs n a (b + 1) = yPs n a b + 1 ∧ yPs n a b < n * (n - 1) / 2 := by decide +kernel
theorem yPs_2 : ∀ n, n < 6 → ∀ a, a < n → yPs n a n = yPs n (a + 1) (a + 2) := by decide +kernel
theorem yPs_3 : ∀ n, n < 6 → yPs n 0 1 = 0 ∧ yPs n n (n + 1) = n * (n - 1) / 2 ∧ n * (n - 1) / 2 ≤ 10 := by decide +kernel
theorem yPr_on : ∀ n, n < 6 → ∀ p, p < n * (n - 1) / 2 → ∃ a, a < n ∧ ∃ b, b < n ∧ a < b ∧ yPr n a b = p := by decide +kernel
/-- the pairs so far -/
def zPa (g : xSt) (n m : Nat) : Prop := xI g 113 59 = nI m ∧ ∀ x y, x < y → y < n → yPr n x y < m → xI g 150 (yPr n x y) = nI x ∧ xI g 151 (yPr n x y) = nI y
def dPa (o k : Nat) : Prop := o = 150 ∨ o = 151 ∨ (o = 113 ∧ k = 59)
theorem dPa_A : ∀ o k, dPa o k → dA o k := fun o k h => by unfold dPa at h; unfold dA; omega
theorem r_lay19 (C : Cx g β T B) {a : Nat} (ha : a < T 0 0) : ∀ m b g1, m + b = T 0 0 → a < b → yAg dPa g g1 → xL g1 = xL g → zPa g1 (T 0 0) (yPs (T 0 0) a b) → ∃ g', xlim (S_X12_layPairs_19 (nI a)) (nI b, g1) = some g' ∧ yAg dPa g g' ∧ xL g' = xL g ∧ zPa g' (T 0 0) (yPs (T 0 0) (a + 1) (a + 2)) := by
  have hn := C.2.2.2.1
  intro m
  induction m with
  | zero =>
    intro b g1 hb hab y hL z
    have e : b = T 0 0 := by omega
    have C1 := C.as (y.up dPa_A).A
    refine ⟨g1, xlim_end ?_, y, hL, by rw [← yPs_2 _ (by omega) a ha]; exact e ▸ z⟩
    unfold S_X12_layPairs_19
    rw [r_thingMany C1.2.1, xb1_some]
    exact if_pos (nI_le (by omega) (by omega))
  | succ m ih =>
    intro b g1 hb hab y hL z
    have hbn : b < T 0 0 := by omega
    have C1 := C.as (y.up dPa_A).A
    obtain ⟨p1, p2, p3⟩ := yPs_1 _ (show T 0 0 < 6 by omega) a ha b hbn hab
    have p4 := (yPs_3 _ (show T 0 0 < 6 by omega)).2.2
    have st : S_X12_layPairs_19 (nI a) (nI b, g1) = some (.inl (nI (b + 1), xWI (xWI (xWI g1 150 (yPs (T 0 0) a b) (nI a)) 151 (yPs (T 0 0) a b) (nI b)) 113 59 (nI (yPs (T 0 0) a b + 1)))) := by
      unfold S_X12_layPairs_19
      simp only [r_thingMany C1.2.1, xb1_some]
      rw [if_neg (nI_ge hbn (show T 0 0 < 2 ^ 31 by omega)), z.1, xck_nI (by omega) (by decide), xck_nI (by omega) (by decide), nI_clamp (by omega), nI_1, nI_1]
    rw [xlim_go st]
    refine ih (b + 1) _ (by omega) (by omega) (((y.wi (by unfold dPa; omega)).wi (by unfold dPa; omega)).wi (by unfold dPa; omega)) hL ?_
    rw [p2]
    refine ⟨by rw [yI_wi, if_pos ⟨rfl, rfl⟩], fun x y' h1 h2 h3 => ?_⟩
    by_cases e : yPr (T 0 0) x y' = yPs (T 0 0) a b
    · obtain ⟨e1, e2⟩ := yPr_inj _ (show T 0 0 < 6 by omega) x (by omega) y' h2 a ha b hbn h1 hab (e.trans p1)
      subst e1 e2
      refine ⟨?_, ?_⟩
      · rw [yI_wi, if_neg (by omega), yI_wi, if_neg (by omega), yI_wi, if_pos ⟨rfl, e⟩]
      · rw [yI_wi, if_neg (by omega), yI_wi, if_pos ⟨rfl, e⟩]
    · obtain ⟨z1, z2⟩ := z.2 x y' h1 h2 (by omega)
      refine ⟨?_, ?_⟩
      · rw [yI_wi, if_neg (by omega), yI_wi, if_neg (by omega), yI_wi, if_neg (by omega)]; exact z1
      · rw [yI_wi, if_neg (by omega), yI_wi, if_neg (by omega), yI_wi, if_neg (by omega)]; exact z2
theorem r_lay7 (C : Cx g β T B) : ∃ g', xlim S_X12_layPairs_7 (0, xWI g 113 59 0) = some g' ∧ yAg dPa g g' ∧ xL g' = xL g ∧ zPa g' (T 0 0) (T 0 0 * (T 0 0 - 1) / 2) := by
  have hn := C.2.2.2.1
  have q3 := yPs_3 _ (show T 0 0 < 6 by omega)
  have key : ∀ m a g1, m + a = T 0 0 → yAg dPa g g1 → xL g1 = xL g → zPa g1 (T 0 0) (yPs (T 0 0) a (a + 1)) → ∃ g', xlim S_X12_layPairs_7 (nI a, g1) = some g' ∧ yAg dPa g g' ∧ xL g' = xL g ∧ zPa g' (T 0 0) (T 0 0 * (T 0 0 - 1) / 2) := by
    intro m
    induction m with
    | zero =>
      intro a g1 ha y hL z
      have e : a = T 0 0 := by omega
      have C1 := C.as (y.up dPa_A).A
      refine ⟨g1, xlim_end ?_, y, hL, by rw [← q3.2.1]; exact e ▸ z⟩
      unfold S_X12_layPairs_7
      rw [r_thingMany C1.2.1, xb1_some]
      exact if_pos (nI_le (by omega) (by omega))
    | succ m ih =>
      intro a g1 ha y hL z
      have han : a < T 0 0 := by omega
      have C1 := C.as (y.up dPa_A).A
      obtain ⟨g2, r1, r2, r3, r4⟩ := r_lay19 C han (T 0 0 - (a + 1)) (a + 1) g1 (by omega) (by omega) y hL z
      have st : S_X12_layPairs_7 (nI a, g1) = some (.inl (nI (a + 1), g2)) := by
        unfold S_X12_layPairs_7
        simp only [r_thingMany C1.2.1, xb1_some, nI_1]
        rw [if_neg (nI_ge han (show T 0 0 < 2 ^ 31 by omega)), r1, xb1_some]
      rw [xlim_go st]
      exact ih (a + 1) g2 (by omega) r2 r3 r4
  exact key (T 0 0) 0 (xWI g 113 59 0) (by omega) ((yAg.refl _ g).wi (by unfold dPa; omega)) rfl (by
    rw [show yPs (T 0 0) 0 (0 + 1) = 0 from q3.1]
    exact ⟨by rw [yI_wi, if_pos ⟨rfl, rfl⟩]; rfl, fun x y h1 h2 h3 => absurd h3 (by omega)⟩)
/-- who says what of pair p, by masks -/
def zSy (g : xSt) (n w : Nat) (L : List Nat) (a b j : Nat) : Prop := ∀ s, s < 3 → xL g 152 (3 * yPr n a b + s) = nL (zLo (fun i => ySd (yPv n w L i) a b == s) j) ∧ xL g 153 (3 * yPr n a b + s) = nL (zHi (fun i => ySd (yPv n w L i) a b == s) j)
theorem r_shl60 : ∀ j, j < 60 → (1 : Int64) <<< (Int32.toInt64 (nI j) &&& 63) = nL (2 ^ j) := by decide +kernel
theorem r_shl61 : ∀ j, j < 120 → 60 ≤ j → (1 : Int64) <<< (Int32.toInt64 (nI j - nI 60) &&& 63) = nL (2 ^ (j - 60)) := by decide +kernel
theorem nL_0 (x : Int64) : x ||| nL 0 = x := Int64.or_zero
theorem ySd_lt (v a b : Nat) : ySd v a b < 3 := by unfold ySd ySf; split <;> (try split) <;> decide
theorem r_lay116 (o : I_orders g n w) (q : yLR g L) (hi : yIn n w L) (hc : L.length ≤ 120) {a b : Nat} (hb : b < n) (hab : a < b) (h0 : xI g 150 (yPr n a b) = nI a) (h1 : xI g 151 (yPr n a b) = nI b) : ∀ m j g1, m + j = L.length → xI g1 = xI g → xR g1 = xR g → (∀ o k, ¬ ((o = 152 ∨ o = 153) ∧ 3 * yPr n a b ≤ k ∧ k < 3 * yPr n a b + 3) → xL g1 o k = xL g o k) → zSy g1 n w L a b j → ∃ g', xlim (S_X12_layPairs_116 (nI (yPr n a b))) (nI j, g1) = some g' ∧ xI g' = xI g ∧ xR g' = xR g ∧ (∀ o k, ¬ ((o = 152 ∨ o = 153) ∧ 3 * yPr n a b ≤ k ∧ k < 3 * yPr n a b + 3) → xL g' o k = xL g o k) ∧ zSy g' n w L a b L.length := by
  have hn := o.1
  have hp := (yPs_1 n (by omega) a (by omega) b hb hab)
  have hp3 := (yPs_3 n (by omega)).2.2
  have hpl : yPr n a b < 10 := by omega
  intro m
  induction m with
  | zero =>
    intro j g1 hj hI hR hL z
    have : j = L.length := by omega
    subst this
    refine ⟨g1, xlim_end ?_, hI, hR, hL, z⟩
    unfold S_X12_layPairs_116
    simp only [hI, q.1]
    exact if_pos (nI_le (Nat.le_refl _) (by omega))
  | succ m ih =>
    intro j g1 hj hI hR hL z
    have hj' : j < L.length := by omega
    have o1 : I_orders g1 n w := by
      obtain ⟨w1, w2, w3, w4, w5, w6⟩ := o
      exact ⟨w1, w2, by rw [hI]; exact w3, by rw [hI]; exact w4, by rw [hI]; exact w5, fun i hi => by rw [hI]; exact w6 i hi⟩
    have hs := r_saidBy o1 (hi.2 j hj') (show a < n by omega) hb
    have lt3 := ySd_lt (yOr n w (L.getD j 0)) a b
    generalize hS : ySd (yOr n w (L.getD j 0)) a b = s at hs lt3
    have hsj : ySd (yPv n w L j) a b = s := hS
    have st : S_X12_layPairs_116 (nI (yPr n a b)) (nI j, g1) = some (.inl (nI (j + 1), if j < 60 then xWL g1 152 (3 * yPr n a b + s) (xL g1 152 (3 * yPr n a b + s) ||| nL (2 ^ j)) else xWL g1 153 (3 * yPr n a b + s) (xL g1 153 (3 * yPr n a b + s) ||| nL (2 ^ (j - 60))))) := by
      unfold S_X12_layPairs_116
      simp only [hI, q.1, if_neg (nI_ge hj' (show L.length < 2 ^ 31 by omega)), xck_nI (show j < 541 by omega) (show 541 < 2 ^ 31 by decide), xck_nI hpl (show 10 < 2 ^ 31 by decide), nI_clamp (show j < 2 ^ 31 by omega), nI_clamp (show yPr n a b < 2 ^ 31 by omega), h0, h1, q.2 j hj', hs, xb1_some, show (3 : Int32) = nI 3 from rfl, nI_mul, nI_add, xck_nI (show 3 * yPr n a b + s < 30 by omega) (show 30 < 2 ^ 31 by decide), nI_clamp (show 3 * yPr n a b + s < 2 ^ 31 by omega), nI_1, show (60 : Int32) = nI 60 from rfl]
      by_cases c : j < 60
      · rw [if_neg (nI_ge c (by decide)), if_pos c, r_shl60 j c]
      · rw [if_pos (nI_le (by omega) (by omega)), if_neg c, r_shl61 j (by omega) (by omega)]
    rw [xlim_go st]
    refine ih (j + 1) _ (by omega) (by split <;> exact hI) (by split <;> exact hR) (fun o k ho => ?_) (fun s' hs' => ?_)
    · by_cases c : j < 60
      · rw [if_pos c, yL_wl, if_neg (by omega)]; exact hL o k ho
      · rw [if_neg c, yL_wl, if_neg (by omega)]; exact hL o k ho
    · obtain ⟨z1, z2⟩ := z s' hs'
      have cl : ((ySd (yPv n w L j) a b == s') = true) ↔ s' = s := by rw [hsj, beq_iff_eq]; exact eq_comm
      rw [zLo_succ, zHi_succ, ← nL_or, ← nL_or, ← z1, ← z2]
      by_cases c : j < 60
      · rw [if_pos c, if_neg (show ¬ (60 ≤ j ∧ (ySd (yPv n w L j) a b == s') = true) from fun z => by omega), nL_0]
        refine ⟨?_, by rw [yL_wl, if_neg (by omega)]⟩
        by_cases d : s' = s
        · rw [yL_wl, if_pos (show 152 = 152 ∧ 3 * yPr n a b + s' = 3 * yPr n a b + s from ⟨rfl, by rw [d]⟩), if_pos (show j < 60 ∧ (ySd (yPv n w L j) a b == s') = true from ⟨c, cl.mpr d⟩), d]
        · rw [yL_wl, if_neg (show ¬ (152 = 152 ∧ 3 * yPr n a b + s' = 3 * yPr n a b + s) by omega), if_neg (show ¬ (j < 60 ∧ (ySd (yPv n w L j) a b == s') = true) from fun z => d (cl.mp z.2)), nL_0]
      · rw [if_neg c, if_neg (show ¬ (j < 60 ∧ (ySd (yPv n w L j) a b == s') = true) from fun z => by omega), nL_0]
        refine ⟨by rw [yL_wl, if_neg (by omega)], ?_⟩
        by_cases d : s' = s
        · rw [yL_wl, if_pos (show 153 = 153 ∧ 3 * yPr n a b + s' = 3 * yPr n a b + s from ⟨rfl, by rw [d]⟩), if_pos (show 60 ≤ j ∧ (ySd (yPv n w L j) a b == s') = true from ⟨by omega, cl.mpr d⟩), d]
        · rw [yL_wl, if_neg (show ¬ (153 = 153 ∧ 3 * yPr n a b + s' = 3 * yPr n a b + s) by omega), if_neg (show ¬ (60 ≤ j ∧ (ySd (yPv n w L j) a b == s') = true) from fun z => d (cl.mp z.2)), nL_0]
theorem r_lay81 {p : Nat} (hp : p < 10) : ∃ g', xlim (S_X12_layPairs_81 (nI p)) (0, g) = some g' ∧ xI g' = xI g ∧ xR g' = xR g ∧ (∀ o k, ¬ ((o = 152 ∨ o = 153) ∧ 3 * p ≤ k ∧ k < 3 * p + 3) → xL g' o k = xL g o k) ∧ ∀ s, s < 3 → xL g' 152 (3 * p + s) = 0 ∧ xL g' 153 (3 * p + s) = 0 := by
  have key : ∀ m j g1, m + j = 3 → xI g1 = xI g → xR g1 = xR g → (∀ o k, ¬ ((o = 152 ∨ o = 153) ∧ 3 * p ≤ k ∧ k < 3 * p + 3) → xL g1 o k = xL g o k) → (∀ s, s < j → xL g1 152 (3 * p + s) = 0 ∧ xL g1 153 (3 * p + s) = 0) → ∃ g', xlim (S_X12_layPairs_81 (nI p)) (nI j, g1) = some g' ∧ xI g' = xI g ∧ xR g' = xR g ∧ (∀ o k, ¬ ((o = 152 ∨ o = 153) ∧ 3 * p ≤ k ∧ k < 3 * p + 3) → xL g' o k = xL g o k) ∧ ∀ s, s < 3 → xL g' 152 (3 * p + s) = 0 ∧ xL g' 153 (3 * p + s) = 0 := by
    intro m
    induction m with
    | zero =>
      intro j g1 hj hI hR hL z
      refine ⟨g1, xlim_end ?_, hI, hR, hL, fun s hs => z s (by omega)⟩
      unfold S_X12_layPairs_81
      exact if_pos (show (3 : Int32) ≤ nI j by rw [show (3 : Int32) = nI 3 from rfl]; exact nI_le (by omega) (by omega))
    | succ m ih =>
      intro j g1 hj hI hR hL z
      have st : S_X12_layPairs_81 (nI p) (nI j, g1) = some (.inl (nI (j + 1), xWL (xWL g1 152 (3 * p + j) 0) 153 (3 * p + j) 0)) := by
        unfold S_X12_layPairs_81
        have : ¬ (3 : Int32) ≤ nI j := by rw [show (3 : Int32) = nI 3 from rfl]; exact nI_ge (by omega) (by omega)
        simp only [if_neg this]
        rw [show (3 : Int32) = nI 3 from rfl, nI_mul, nI_add, xck_nI (by omega) (by decide), xck_nI (by omega) (by decide), nI_clamp (by omega), nI_1]
      rw [xlim_go st]
      refine ih (j + 1) _ (by omega) hI hR (fun o k ho => by rw [yL_wl, if_neg (by omega), yL_wl, if_neg (by omega)]; exact hL o k ho) (fun s hs => ?_)
      by_cases d : s = j
      · subst d
        exact ⟨by rw [yL_wl, if_neg (by omega), yL_wl, if_pos ⟨rfl, rfl⟩], by rw [yL_wl, if_pos ⟨rfl, rfl⟩]⟩
      · exact ⟨by rw [yL_wl, if_neg (by omega), yL_wl, if_neg (by omega)]; exact (z s (by omega)).1, by rw [yL_wl, if_neg (by omega), yL_wl, if_neg (by omega)]; exact (z s (by omega)).2⟩
  exact key 3 0 g (by omega) rfl rfl (fun _ _ _ => rfl) (fun s hs => absurd hs (by omega))
/-- the pairs laid, and who says what -/
def zPL (g : xSt) (n w : Nat) (L : List Nat) : Prop := zPa g n (n * (n - 1) / 2) ∧ ∀ a b, a < b → b < n → zSy g n w L a b L.length
theorem r_layPairs (C : Cx g β T B) (q : yLR g L) (hi : yIn (T 0 0) (T 0 1) L) (hc : L.length ≤ 120) : ∃ g', E_X12_layPairs g = some g' ∧ yAg dPa g g' ∧ (∀ o k, o ≠ 152 → o ≠ 153 → xL g' o k = xL g o k) ∧ zPL g' (T 0 0) (T 0 1) L := by
  have hn := C.2.2.2.1
  obtain ⟨g1, r1, r2, r3, r4⟩ := r_lay7 C
  have C1 := C.as (r2.up dPa_A).A
  have q1 : yLR g1 L := q.gl r2 (by unfold dPa; omega) (fun k => by unfold dPa; omega)
  have hp3 := (yPs_3 (T 0 0) (by omega)).2.2
  generalize hP : T 0 0 * (T 0 0 - 1) / 2 = P at r4 hp3
  have key : ∀ m p g2, m + p = P → xI g2 = xI g1 → xR g2 = xR g1 → (∀ o k, o ≠ 152 → o ≠ 153 → xL g2 o k = xL g o k) → (∀ a b, a < b → b < T 0 0 → yPr (T 0 0) a b < p → zSy g2 (T 0 0) (T 0 1) L a b L.length) → ∃ g', xlim S_X12_layPairs_71 (nI p, g2) = some g' ∧ xI g' = xI g1 ∧ xR g' = xR g1 ∧ (∀ o k, o ≠ 152 → o ≠ 153 → xL g' o k = xL g o k) ∧ ∀ a b, a < b → b < T 0 0 → zSy g' (T 0 0) (T 0 1) L a b L.length := by
    intro m
    induction m with
    | zero =>
      intro p g2 hp hI hR hL z
      refine ⟨g2, xlim_end ?_, hI, hR, hL, fun a b h1 h2 => z a b h1 h2 ?_⟩
      · unfold S_X12_layPairs_71
        simp only [hI, r4.1]
        exact if_pos (nI_le (by omega) (by omega))
      · have := yPs_1 _ (show T 0 0 < 6 by omega) a (by omega) b h2 h1
        omega
    | succ m ih =>
      intro p g2 hp hI hR hL z
      obtain ⟨a, ha, b, hb, hab, e⟩ := yPr_on (T 0 0) (by omega) p (by omega)
      subst e
      obtain ⟨g3, s1, s2, s3, s4, s5⟩ := r_lay81 (g := g2) (p := yPr (T 0 0) a b) (by omega)
      have C3 : Cx g3 β T B := C1.as ⟨s3.trans hR, fun o k _ => by rw [s2, hI]⟩
      have q3 : yLR g3 L := ⟨by rw [s2, hI]; exact q1.1, fun j hj => by rw [s2, hI]; exact q1.2 j hj⟩
      obtain ⟨p1, p2⟩ := r4.2 a b hab hb (by omega)
      obtain ⟨g4, t1, t2, t3, t4, t5⟩ := r_lay116 C3.2.2.2 q3 hi hc hb hab (by rw [s2, hI]; exact p1) (by rw [s2, hI]; exact p2) L.length 0 g3 (by omega) rfl rfl (fun _ _ _ => rfl) (fun s hs => ⟨(s5 s hs).1, (s5 s hs).2⟩)
      have st : S_X12_layPairs_71 (nI (yPr (T 0 0) a b), g2) = some (.inl (nI (yPr (T 0 0) a b + 1), g4)) := by
        unfold S_X12_layPairs_71
        simp only [hI, r4.1, if_neg (nI_ge (show yPr (T 0 0) a b < P by omega) (show P < 2 ^ 31 by omega)), s1, xb1_some, nI_1]
        rw [show ((0 : Int32), g3) = (nI 0, g3) from rfl, t1, xb1_some]
      rw [xlim_go st]
      refine ih (yPr (T 0 0) a b + 1) g4 (by omega) (t2.trans (s2.trans hI)) (t3.trans (s3.trans hR)) (fun o k h1 h2 => (t4 o k (by omega)).trans ((s4 o k (by omega)).trans (hL o k h1 h2))) (fun x y h1 h2 h3 => ?_)
      by_cases d : yPr (T 0 0) x y = yPr (T 0 0) a b
      · obtain ⟨e1, e2⟩ := yPr_inj _ (show T 0 0 < 6 by omega) x (by omega) y h2 a ha b hb h1 hab d
        subst e1 e2
        exact t5
      · intro s hs
        obtain ⟨z1, z2⟩ := z x y h1 h2 (by omega) s hs
        exact ⟨(t4 _ _ (by omega)).trans ((s4 _ _ (by omega)).trans z1), (t4 _ _ (by omega)).trans ((s4 _ _ (by omega)).trans z2)⟩
  obtain ⟨g', t1, t2, t3, t4, t5⟩ := key P 0 g1 (by omega) rfl rfl (fun o k _ _ => by rw [r3]) (fun a b _ _ h => absurd h (by omega))
  refine ⟨g', ?_, ⟨t3.trans r2.1, fun o k h => by rw [t2]; exact r2.2 o k h⟩, t4, ?_, t5⟩
  · unfold E_X12_layPairs
    rw [r1, xb1_some, show ((0 : Int32), g1) = (nI 0, g1) from rfl, t1, xb1_some]
  · rw [hP]
    exact ⟨by rw [t2]; exact r4.1, fun x y h1 h2 h3 => by rw [t2]; exact r4.2 x y h1 h2 h3⟩
end LP
