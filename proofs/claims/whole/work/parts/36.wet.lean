/-! CALL wet: the thing of a rank, by counting and by sorting -/
/-- how many below m are so -/
def yCn (p : Nat → Bool) : Nat → Nat
  | 0 => 0
  | m + 1 => yCn p m + (if p m then 1 else 0)
theorem yCn_le (p : Nat → Bool) : ∀ m, yCn p m ≤ m := by
  intro m
  induction m with
  | zero => exact Nat.le_refl _
  | succ m ih => show yCn p m + (if p m then 1 else 0) ≤ _; split <;> omega
theorem yCn_mono {p q : Nat → Bool} {m : Nat} (h : ∀ o, o < m → p o = true → q o = true) : yCn p m ≤ yCn q m := by
  induction m with
  | zero => exact Nat.le_refl _
  | succ m ih =>
    have i := ih (fun o ho => h o (by omega))
    have hm := h m (by omega)
    show yCn p m + (if p m then 1 else 0) ≤ yCn q m + (if q m then 1 else 0)
    by_cases hp : p m = true
    · rw [if_pos hp, if_pos (hm hp)]; omega
    · rw [if_neg hp]; omega
theorem yCn_lt {p q : Nat → Bool} {m u : Nat} (h : ∀ o, o < m → p o = true → q o = true) (hu : u < m) (h1 : ¬ p u = true) (h2 : q u = true) : yCn p m < yCn q m := by
  induction m with
  | zero => omega
  | succ m ih =>
    have hm := h m (by omega)
    show yCn p m + (if p m then 1 else 0) < yCn q m + (if q m then 1 else 0)
    by_cases e : u = m
    · subst e
      have i := yCn_mono (p := p) (q := q) (m := u) (fun o ho => h o (by omega))
      rw [if_neg h1, if_pos h2]; omega
    · have i := ih (fun o ho => h o (by omega)) (by omega)
      by_cases hp : p m = true
      · rw [if_pos hp, if_pos (hm hp)]; omega
      · rw [if_neg hp]; omega
theorem yCn_congr {p q : Nat → Bool} {m : Nat} (h : ∀ o, o < m → p o = q o) : yCn p m = yCn q m := Nat.le_antisymm (yCn_mono fun o ho e => (h o ho).symm.trans e) (yCn_mono fun o ho e => (h o ho).trans e)
/-- who stands ahead of t -/
def yAhd (h : Nat → Nat) (t o : Nat) : Bool := decide (h t < h o ∨ (h o = h t ∧ o < t))
theorem yAhd_i {h : Nat → Nat} {t o : Nat} : yAhd h t o = true ↔ h t < h o ∨ (h o = h t ∧ o < t) := decide_eq_true_iff
/-- who is heavier has the lesser rank -/
theorem yRk_lt {h : Nat → Nat} {m u v : Nat} (hv : v < m) (q : yAhd h u v = true) : yCn (yAhd h v) m < yCn (yAhd h u) m := by
  have q' := yAhd_i.mp q
  refine yCn_lt (u := v) (fun o _ e => ?_) hv (fun e => ?_) q
  · have e' := yAhd_i.mp e
    exact yAhd_i.mpr (by omega)
  · have e' := yAhd_i.mp e
    omega
theorem yRk_inj {h : Nat → Nat} {m u v : Nat} (hu : u < m) (hv : v < m) (q : yCn (yAhd h u) m = yCn (yAhd h v) m) : u = v := by
  by_cases e : u = v
  · exact e
  · by_cases c : yAhd h u v = true
    · have := yRk_lt hv c; omega
    · have c2 : yAhd h v u = true := yAhd_i.mpr (by
        have : ¬ (h u < h v ∨ (h v = h u ∧ v < u)) := fun z => c (yAhd_i.mpr z)
        omega)
      have := yRk_lt hu c2; omega
theorem r_dif {x y : Nat} (hx : x < 10000) (hy : y < 10000) : ((0 : Int32) < nI x - nI y ↔ y < x) ∧ (nI x - nI y = 0 ↔ x = y) := by
  have e := r_diff hx hy
  refine ⟨?_, fun q => ?_, fun q => by rw [q]; exact Int32.sub_self _⟩
  · rw [Int32.lt_iff_toInt_lt, e, show (0 : Int32).toInt = 0 from rfl]; omega
  · rw [q, show (0 : Int32).toInt = 0 from rfl] at e; omega
section WET
variable {g g0 : xSt} {β n b : Nat} {T B : yT} {h : Nat → Nat} {a1 a2 a3 a4 a5 : Int32}
theorem r_rank13 {t : Nat} (hn : n ≤ 5) (hh : ∀ k, k < n → xI g (b + 8) k = nI (h k)) (hb : ∀ k, k < n → h k < 10000) (ht : t < n) : xlim (S_X0_thingAtRank_13 b a1 (nI n) (nI t) g) (0, 0) = some (nI (yCn (yAhd h t) n)) := by
  have e := xlim_of (step := S_X0_thingAtRank_13 b a1 (nI n) (nI t) g) (fun j => (nI (yCn (yAhd h t) j), nI j)) n (e := nI (yCn (yAhd h t) n)) (fun j hj => ?_) ?_
  · exact e
  · obtain ⟨d1, d2⟩ := r_dif (hb j hj) (hb t ht)
    unfold S_X0_thingAtRank_13
    simp only [if_neg (nI_ge hj (show n < 2 ^ 31 by omega)), xat_nI (show j < 5 by omega) (show (5 : Nat) < 2 ^ 31 by decide), xat_nI (show t < 5 by omega) (show (5 : Nat) < 2 ^ 31 by decide), hh j hj, hh t ht, nI_1]
    show _ = some (Sum.inl (nI (yCn (yAhd h t) j + (if yAhd h t j then 1 else 0)), nI (j + 1)))
    by_cases c1 : h t < h j
    · rw [if_pos (d1.mpr c1), if_pos (yAhd_i.mpr (Or.inl c1))]
    · rw [if_neg (fun z => c1 (d1.mp z))]
      by_cases c2 : h j = h t
      · rw [if_pos (d2.mpr c2)]
        by_cases c3 : j < t
        · rw [if_neg (nI_ge c3 (by omega)), if_pos (yAhd_i.mpr (Or.inr ⟨c2, c3⟩)), nI_1]
        · rw [if_pos (nI_le (by omega) (by omega)), if_neg (fun z => by have := yAhd_i.mp z; omega)]
          simp
      · rw [if_neg (fun z => c2 (d2.mp z)), if_neg (fun z => by have := yAhd_i.mp z; omega)]
        simp
  · unfold S_X0_thingAtRank_13
    exact if_pos (nI_le (Nat.le_refl _) (by omega))
theorem r_atRank {t d : Nat} (hn : n ≤ 5) (hh : ∀ k, k < n → xI g (b + 8) k = nI (h k)) (hb : ∀ k, k < n → h k < 10000) (ht : t < n) (hd : yCn (yAhd h t) n = d) : E_X0_thingAtRank b (nI d) (nI n) g = some (nI t) := by
  have hle := fun t => yCn_le (yAhd h t) n
  have e := xlim_of (step := S_X0_thingAtRank_2 b (nI d) (nI n) g) (fun j => nI j) t (e := .inl (nI t)) (fun j hj => ?_) ?_
  · unfold E_X0_thingAtRank
    rw [show (0 : Int32) = nI 0 from rfl, e, xbs_inl]
  · unfold S_X0_thingAtRank_2
    rw [if_neg (nI_ge (show j < n by omega) (by omega)), r_rank13 hn hh hb (show j < n by omega), xb1_some, if_neg, nI_1]
    rw [nI_eq (by have := hle j; omega) (by have := hle t; omega)]
    intro q
    have := yRk_inj (show j < n by omega) ht (q.trans hd.symm)
    omega
  · unfold S_X0_thingAtRank_2
    rw [if_neg (nI_ge ht (by omega)), r_rank13 hn hh hb ht, xb1_some, hd, if_pos rfl]
/-! the reference's sorting -/
theorem r_in30 {t : Nat} (ht : t < 5) (hh : ∀ k, k ≤ t → xI g0 143 k = nI (h k)) (hb : ∀ k, k ≤ t → h k < 10000) : ∀ k g, k ≤ t → yAg (fun o _ => o = 144) g0 g → (∀ r, r < k → ∃ u, u < t ∧ xI g 144 r = nI u ∧ yCn (yAhd h u) t = r) → (∀ r, k ≤ r → r < t → ∃ u, u < t ∧ xI g 144 (r + 1) = nI u ∧ yCn (yAhd h u) t = r ∧ h u < h t) → ∃ k' g', xlim (S_X12_wet_30 a1 (nI t)) (nI k, g) = some (nI k', g') ∧ k' ≤ t ∧ yAg (fun o _ => o = 144) g0 g' ∧ (∀ r, r < k' → ∃ u, u < t ∧ xI g' 144 r = nI u ∧ yCn (yAhd h u) t = r) ∧ (∀ r, k' ≤ r → r < t → ∃ u, u < t ∧ xI g' 144 (r + 1) = nI u ∧ yCn (yAhd h u) t = r ∧ h u < h t) ∧ (k' = 0 ∨ ∃ u, u < t ∧ yCn (yAhd h u) t + 1 = k' ∧ h t ≤ h u) := by
  intro k
  induction k with
  | zero =>
    intro g _ hg h1 h2
    exact ⟨0, g, xlim_end (if_pos (show nI 0 ≤ (0 : Int32) by decide)), Nat.zero_le _, hg, h1, h2, Or.inl rfl⟩
  | succ k ih =>
    intro g hk hg h1 h2
    obtain ⟨u, hu, e1, e2⟩ := h1 k (by omega)
    have hx : ∀ j, j ≤ t → xI g 143 j = nI (h j) := fun j hj => (hg.2 143 j (show ¬ (143 = 144) by decide)).trans (hh j hj)
    have hk0 : ¬ nI (k + 1) ≤ (0 : Int32) := by
      rw [show (0 : Int32) = nI 0 from rfl, nI_leI (by omega) (by decide)]; omega
    have st : S_X12_wet_30 a1 (nI t) (nI (k + 1), g) = if nI (h t) ≤ nI (h u) then some (.inr (nI (k + 1), g)) else some (.inl (nI k, xWI g 144 (k + 1) (nI u))) := by
      unfold S_X12_wet_30
      simp only [if_neg hk0, nI_pred, xck_nI (show k < 5 by omega) (show (5 : Nat) < 2 ^ 31 by decide), nI_clamp (show k < 2 ^ 31 by omega), e1, xck_nI (show u < 5 by omega) (show (5 : Nat) < 2 ^ 31 by decide), xck_nI ht (show (5 : Nat) < 2 ^ 31 by decide), nI_clamp (show t < 2 ^ 31 by omega), nI_clamp (show u < 2 ^ 31 by omega), hx t (Nat.le_refl _), hx u (by omega), xck_nI (show k + 1 < 5 by omega) (show (5 : Nat) < 2 ^ 31 by decide), nI_clamp (show k + 1 < 2 ^ 31 by omega)]
      rw [show nI (k + 1) + (-1) = nI k by rw [← Int32.sub_eq_add_neg]; exact nI_pred k]
    have hbt := hb t (Nat.le_refl _)
    have hbu := hb u (by omega)
    by_cases c : h t ≤ h u
    · refine ⟨k + 1, g, xlim_end (st.trans (if_pos ((nI_leI (by omega) (by omega)).mpr c))), hk, hg, h1, h2, Or.inr ⟨u, hu, by omega, c⟩⟩
    · have e := xlim_go (st.trans (if_neg (fun z => c ((nI_leI (by omega) (by omega)).mp z))))
      have hX := ih (xWI g 144 (k + 1) (nI u)) (by omega) (hg.wi rfl) (fun r hr => ?_) (fun r hr1 hr2 => ?_)
      · obtain ⟨k', g', r1, r2⟩ := hX
        exact ⟨k', g', e.trans r1, r2⟩
      · obtain ⟨v, v1, v2, v3⟩ := h1 r (by omega)
        exact ⟨v, v1, by rw [yI_wi, if_neg (by omega)]; exact v2, v3⟩
      · by_cases er : r = k
        · subst er
          exact ⟨u, hu, by rw [yI_wi, if_pos ⟨rfl, rfl⟩], e2, by omega⟩
        · obtain ⟨v, v1, v2, v3⟩ := h2 r (by omega) hr2
          exact ⟨v, v1, by rw [yI_wi, if_neg (by omega)]; exact v2, v3⟩
theorem yCn_succ (p : Nat → Bool) (m : Nat) : yCn p (m + 1) = yCn p m + (if p m then 1 else 0) := rfl
theorem r_in23 (hn : n ≤ 5) (hh : ∀ k, k < n → xI g0 143 k = nI (h k)) (hb : ∀ k, k < n → h k < 10000) : ∀ m t g, m + t = n → yAg (fun o _ => o = 144) g0 g → (∀ r, r < t → ∃ u, u < t ∧ xI g 144 r = nI u ∧ yCn (yAhd h u) t = r) → ∃ g', xlim (S_X12_wet_23 (nI n)) (nI t, g) = some g' ∧ yAg (fun o _ => o = 144) g0 g' ∧ ∀ r, r < n → ∃ u, u < n ∧ xI g' 144 r = nI u ∧ yCn (yAhd h u) n = r := by
  intro m
  induction m with
  | zero =>
    intro t g ht hg h1
    have : t = n := by omega
    subst this
    exact ⟨g, xlim_end (if_pos (nI_le (Nat.le_refl _) (by omega))), hg, h1⟩
  | succ m ih =>
    intro t g ht hg h1
    obtain ⟨k, g1, r1, r2, r3, r4, r5, r6⟩ := r_in30 (a1 := nI n) (t := t) (by omega) (fun k hk => hh k (by omega)) (fun k hk => hb k (by omega)) t g (Nat.le_refl _) hg h1 (fun r q1 q2 => by omega)
    have st : S_X12_wet_23 (nI n) (nI t, g) = some (.inl (nI (t + 1), xWI g1 144 k (nI t))) := by
      unfold S_X12_wet_23
      simp only [if_neg (nI_ge (show t < n by omega) (show n < 2 ^ 31 by omega)), r1, xb1_some, xck_nI (show k < 5 by omega) (show (5 : Nat) < 2 ^ 31 by decide), nI_clamp (show k < 2 ^ 31 by omega), nI_1]
    have hX := ih (t + 1) (xWI g1 144 k (nI t)) (by omega) (r3.wi rfl) (fun r hr => ?_)
    · obtain ⟨g', s1, s2⟩ := hX
      exact ⟨g', (xlim_go st).trans s1, s2⟩
    · have ahead : ∀ u, u < t → (yAhd h u t = true ↔ h u < h t) := fun u hu => by rw [yAhd_i]; omega
      rcases Nat.lt_trichotomy r k with c | c | c
      · obtain ⟨u, u1, u2, u3⟩ := r4 r c
        refine ⟨u, by omega, by rw [yI_wi, if_neg (by omega)]; exact u2, ?_⟩
        have : ¬ yAhd h u t = true := by
          rw [ahead u u1]
          intro z
          rcases r6 with q | ⟨v, v1, v2, v3⟩
          · omega
          · have := yRk_lt (h := h) (m := t) (u := u) (v := v) v1 (yAhd_i.mpr (Or.inl (by omega)))
            omega
        rw [yCn_succ, u3, if_neg this, Nat.add_zero]
      · subst c
        refine ⟨t, by omega, by rw [yI_wi, if_pos ⟨rfl, rfl⟩], ?_⟩
        have nt : ¬ yAhd h t t = true := fun z => by have := yAhd_i.mp z; omega
        rw [yCn_succ, if_neg nt, Nat.add_zero]
        have lo : r ≤ yCn (yAhd h t) t := by
          rcases r6 with q | ⟨v, v1, v2, v3⟩
          · omega
          · have := yCn_lt (p := yAhd h v) (q := yAhd h t) (m := t) (u := v) (fun o ho e => yAhd_i.mpr (by have := yAhd_i.mp e; omega)) v1 (fun z => by have := yAhd_i.mp z; omega) (yAhd_i.mpr (by omega))
            omega
        have hi : yCn (yAhd h t) t ≤ r := by
          by_cases c2 : r < t
          · obtain ⟨v, v1, v2, v3, v4⟩ := r5 r (Nat.le_refl _) c2
            rw [← v3]
            exact yCn_mono (fun o ho e => yAhd_i.mpr (by have := yAhd_i.mp e; omega))
          · have := yCn_le (yAhd h t) t
            omega
        omega
      · obtain ⟨u, u1, u2, u3, u4⟩ := r5 (r - 1) (by omega) (by omega)
        rw [show r - 1 + 1 = r by omega] at u2
        refine ⟨u, by omega, by rw [yI_wi, if_neg (by omega)]; exact u2, ?_⟩
        rw [yCn_succ, u3, if_pos ((ahead u u1).mpr u4)]
        omega
end WET
/-- a wet day more: u and l change their weights -/
def yWet (B : yT) (u l s : Nat) : yT := fun r i => if r = 9 ∧ i = 3 then s else if r = 9 ∧ i = 1 then B 9 1 + 1 else if r = 8 ∧ i = l then B 8 u else if r = 8 ∧ i = u then B 8 l else if r = 6 ∧ i = B 9 1 then B 9 2 else if r = 7 ∧ i = B 9 1 then B 9 0 else B r i
section WET2
variable {g g' : xSt} {β n b : Nat} {T B : yT} {u l s : Nat} {a1 a2 a3 a4 a5 : Int32}
theorem yWet_0 (B : yT) (u l s : Nat) : yWet B u l s 9 0 = B 9 0 ∧ yWet B u l s 9 1 = B 9 1 + 1 ∧ yWet B u l s 9 2 = B 9 2 ∧ yWet B u l s 9 3 = s := by unfold yWet; simp
theorem yWet_lo (B : yT) (u l s : Nat) {r i : Nat} (h : r ≤ 5) : yWet B u l s r i = B r i := by
  unfold yWet
  rw [if_neg (by omega), if_neg (by omega), if_neg (by omega), if_neg (by omega), if_neg (by omega), if_neg (by omega)]
theorem yWet_6 (B : yT) (u l s i : Nat) : yWet B u l s 6 i = if i = B 9 1 then B 9 2 else B 6 i := by unfold yWet; simp
theorem yWet_7 (B : yT) (u l s i : Nat) : yWet B u l s 7 i = if i = B 9 1 then B 9 0 else B 7 i := by unfold yWet; simp
theorem yWet_8 (B : yT) (u l s i : Nat) : yWet B u l s 8 i = if i = l then B 8 u else if i = u then B 8 l else B 8 i := by unfold yWet; simp
theorem bkOK.wet (h : bkOK n B) (hu : u < n) (hl : l < n) (hd : B 9 1 < 40) (hs : s ≤ 999) : bkOK n (yWet B u l s) := by
  obtain ⟨w1, w2, w3, w4, w5, w6, w7⟩ := h
  obtain ⟨e0, e1, e2, e3⟩ := yWet_0 B u l s
  unfold bkOK
  rw [e0, e1, e2, e3]
  refine ⟨w1, by omega, w3, hs, fun i hi => ?_, fun w hw => ?_, fun k hk => ?_⟩
  · simp only [yWet_lo B u l s (i := i) (show 0 ≤ 5 by decide), yWet_lo B u l s (i := i) (show 1 ≤ 5 by decide), yWet_lo B u l s (i := i) (show 2 ≤ 5 by decide), yWet_lo B u l s (i := i) (show 3 ≤ 5 by decide), yWet_lo B u l s (i := i) (show 4 ≤ 5 by decide), yWet_lo B u l s (i := i) (show 5 ≤ 5 by decide)]
    obtain ⟨c1, c2, c3, c4, c5, c6, c7⟩ := w5 i hi
    exact ⟨c1, c2, c3, c4, c5, c6, by omega⟩
  · rw [yWet_6, yWet_7]
    by_cases q : w = B 9 1
    · rw [if_pos q, if_pos q]
      refine ⟨Nat.le_refl _, fun v h1 h2 => ?_, Nat.le_refl _, fun i hi => ?_⟩
      · rw [yWet_6, if_pos (by omega)]; exact Nat.le_refl _
      · rw [yWet_lo B u l s (by decide)]
        have := (w5 i hi).2.2.2.2.2.2
        omega
    · rw [if_neg q, if_neg q]
      obtain ⟨c1, c2, c3, c4⟩ := w6 w (by omega)
      refine ⟨c1, fun v h1 h2 => ?_, c3, fun i hi => ?_⟩
      · rw [yWet_6]
        by_cases q2 : v = B 9 1
        · rw [if_pos q2]; exact c1
        · rw [if_neg q2]; exact c2 v h1 (by omega)
      · rw [yWet_lo B u l s (by decide)]; exact c4 i hi
  · rw [yWet_8]
    split
    · exact w7 u hu
    · split
      · exact w7 l hl
      · exact w7 k hk
theorem bkC.wet (h : bkC g b n B) (e : ∀ o k, b ≤ o → o ≤ b + 6 → ¬ (o = b ∧ (k = 1 ∨ k = 3)) → xI g' o k = xI g o k) (h1 : xI g' b 1 = nI (B 9 1 + 1)) (h3 : xI g' b 3 = nI s) (h7 : ∀ w, xI g' (b + 7) w = if w = B 9 1 then nI (B 9 2) else xI g (b + 7) w) (h8 : ∀ k, xI g' (b + 8) k = if k = l then nI (B 8 u) else if k = u then nI (B 8 l) else xI g (b + 8) k) : bkC g' b n (yWet B u l s) := by
  obtain ⟨q0, q1, q2, q3, q4, q5, q6⟩ := h
  obtain ⟨e0, e1, e2, e3⟩ := yWet_0 B u l s
  unfold bkC
  rw [e0, e1, e2, e3]
  refine ⟨(e b 0 (by omega) (by omega) (by omega)).trans q0, h1, (e b 2 (by omega) (by omega) (by omega)).trans q2, h3, fun i hi => ?_, fun w hw => ?_, fun k hk => ?_⟩
  · simp only [yWet_lo B u l s (i := i) (show 0 ≤ 5 by decide), yWet_lo B u l s (i := i) (show 1 ≤ 5 by decide), yWet_lo B u l s (i := i) (show 2 ≤ 5 by decide), yWet_lo B u l s (i := i) (show 3 ≤ 5 by decide), yWet_lo B u l s (i := i) (show 4 ≤ 5 by decide), yWet_lo B u l s (i := i) (show 5 ≤ 5 by decide)]
    obtain ⟨c1, c2, c3, c4, c5, c6⟩ := q4 i hi
    exact ⟨(e _ i (by omega) (by omega) (by omega)).trans c1, (e _ i (by omega) (by omega) (by omega)).trans c2, (e _ i (by omega) (by omega) (by omega)).trans c3, (e _ i (by omega) (by omega) (by omega)).trans c4, (e _ i (by omega) (by omega) (by omega)).trans c5, (e _ i (by omega) (by omega) (by omega)).trans c6⟩
  · rw [yWet_6, h7]
    by_cases q : w = B 9 1
    · rw [if_pos q, if_pos q]
    · rw [if_neg q, if_neg q]; exact q5 w (by omega)
  · rw [yWet_8, h8]
    by_cases q : k = l
    · rw [if_pos q, if_pos q]
    · rw [if_neg q, if_neg q]
      by_cases q2 : k = u
      · rw [if_pos q2, if_pos q2]
      · rw [if_neg q2, if_neg q2]; exact q6 k hk
theorem bkR.wet (h : bkR g n B) (e : ∀ o k, (o = 113 ∨ 136 ≤ o) → ¬ (o = 113 ∧ (k = 46 ∨ k = 47)) → ¬ (141 ≤ o ∧ o ≤ 144) → xI g' o k = xI g o k) (h1 : xI g' 113 46 = nI (B 9 1 + 1)) (h3 : xI g' 113 47 = nI s) (h6 : ∀ w, xI g' 141 w = if w = B 9 1 then nI (B 9 2) else xI g 141 w) (h7 : ∀ w, xI g' 142 w = if w = B 9 1 then nI (B 9 0) else xI g 142 w) (h8 : ∀ k, xI g' 143 k = if k = l then nI (B 8 u) else if k = u then nI (B 8 l) else xI g 143 k) : bkR g' n (yWet B u l s) := by
  obtain ⟨q0, q1, q2, q3, q4, q5, q6⟩ := h
  obtain ⟨e0, e1, e2, e3⟩ := yWet_0 B u l s
  unfold bkR
  rw [e0, e1, e2, e3]
  refine ⟨(e 113 44 (by omega) (by omega) (by omega)).trans q0, h1, (e 113 45 (by omega) (by omega) (by omega)).trans q2, h3, fun i hi => ?_, fun w hw => ?_, fun k hk => ?_⟩
  · simp only [yWet_lo B u l s (i := i) (show 0 ≤ 5 by decide), yWet_lo B u l s (i := i) (show 1 ≤ 5 by decide), yWet_lo B u l s (i := i) (show 2 ≤ 5 by decide), yWet_lo B u l s (i := i) (show 3 ≤ 5 by decide), yWet_lo B u l s (i := i) (show 4 ≤ 5 by decide)]
    obtain ⟨c1, c2, c3, c4, c5⟩ := q4 i hi
    exact ⟨(e _ i (by omega) (by omega) (by omega)).trans c1, (e _ i (by omega) (by omega) (by omega)).trans c2, (e _ i (by omega) (by omega) (by omega)).trans c3, (e _ i (by omega) (by omega) (by omega)).trans c4, (e _ i (by omega) (by omega) (by omega)).trans c5⟩
  · rw [yWet_6, yWet_7, h6, h7]
    by_cases q : w = B 9 1
    · rw [if_pos q, if_pos q, if_pos q, if_pos q]; exact ⟨rfl, rfl⟩
    · rw [if_neg q, if_neg q, if_neg q, if_neg q]; exact q5 w (by omega)
  · rw [yWet_8, h8]
    by_cases q : k = l
    · rw [if_pos q, if_pos q]
    · rw [if_neg q, if_neg q]
      by_cases q2 : k = u
      · rw [if_pos q2, if_pos q2]
      · rw [if_neg q2, if_neg q2]; exact q6 k hk
/-- what rain leaves -/
def yRainC (g : xSt) (b u l D : Nat) (s v w t : Int32) : xSt := xWI (xWI (xWI (xWI (xWI g b 3 s) (b + 8) u v) (b + 8) l w) (b + 7) D t) b 1 (nI (D + 1))
theorem r_rain (hn1 : 2 ≤ n) (hn : n ≤ 5) (h : bkC g b n B) (hw : bkOK n B) (hd : B 9 1 < 40) (hs : s = (137 * B 9 3 + 71) % 1000) (hu : u < n) (hl : l < n) (ru : yCn (yAhd (B 8) u) n = s % (n - 1)) (rl : yCn (yAhd (B 8) l) n = s % (n - 1) + 1) : E_X0_rain b (nI n) g = some (nI (s % (n - 1)), yRainC g b u l (B 9 1) (nI s) (nI (B 8 l)) (nI (B 8 u)) (nI (B 9 2))) := by
  obtain ⟨q0, q1, q2, q3, q4, q5, q6⟩ := h
  obtain ⟨w1, w2, w3, w4, w5, w6, w7⟩ := hw
  have hs0 : (xI g b 3 * 137 + 71) - (xI g b 3 * 137 + 71) / 1000 * 1000 = nI s := by
    rw [q3, show (137 : Int32) = nI 137 from rfl, nI_mul, show (71 : Int32) = nI 71 from rfl, nI_add, show (1000 : Int32) = nI 1000 from rfl, pk_rem (by omega) (by decide) (by decide), hs, Nat.mul_comm]
  have hn2 : ¬ nI n < (2 : Int32) := by rw [show (2 : Int32) = nI 2 from rfl, nI_ltI (by omega) (by decide)]; omega
  have hd2 : nI (B 9 1) < (40 : Int32) := nI_lt hd (by decide)
  have hp : nI n - 1 = nI (n - 1) := by
    obtain ⟨m, rfl⟩ : ∃ m, n = m + 1 := ⟨n - 1, by omega⟩
    exact nI_pred m
  have hnz : ¬ nI (n - 1) = (0 : Int32) := by rw [show (0 : Int32) = nI 0 from rfl, nI_eq (by omega) (by decide)]; omega
  have hs3 : s ≤ 999 := by omega
  have e3 : xI (xWI g b 3 (nI s)) b 3 = nI s := by rw [yI_wi, if_pos ⟨rfl, rfl⟩]
  have hul : ¬ u = l := fun e => by rw [e] at ru; omega
  have hrow : ∀ k, xI (xWI g b 3 (nI s)) (b + 8) k = xI g (b + 8) k := fun k => by rw [yI_wi, if_neg (by omega)]
  have hh : ∀ k, k < n → xI (xWI g b 3 (nI s)) (b + 8) k = nI (B 8 k) := fun k hk => (hrow k).trans (q6 k hk)
  have hb : ∀ k, k < n → B 8 k < 10000 := fun k hk => by have := (w7 k hk).2; omega
  unfold E_X0_rain
  simp only [hs0, if_neg hn2, q1, if_pos hd2, hp, xnz_ne hnz, e3, pk_rem (show s < 2 ^ 31 by omega) (show 0 < n - 1 by omega) (show n - 1 < 2 ^ 31 by omega), nI_1]
  rw [r_atRank hn hh hb hu ru, xb1_some, r_atRank hn hh hb hl rl, xb1_some]
  simp only [xput_nI (show u < 5 by omega) (show (5 : Nat) < 2 ^ 31 by decide), xput_nI (show l < 5 by omega) (show (5 : Nat) < 2 ^ 31 by decide), xat_nI (show u < 5 by omega) (show (5 : Nat) < 2 ^ 31 by decide), xat_nI (show l < 5 by omega) (show (5 : Nat) < 2 ^ 31 by decide), hh u hu, hh l hl]
  unfold yRainC
  simp [yI_wi, q1, q2, xput_nI hd (show (40 : Nat) < 2 ^ 31 by decide), nI_1]
def yRainR (g : xSt) (u l D : Nat) (s v w t m : Int32) : xSt := xWI (xWI (xWI (xWI (xWI (xWI g 113 47 s) 143 u v) 143 l w) 141 D t) 142 D m) 113 46 (nI (D + 1))
theorem yRainC_R {D : Nat} {x v w t : Int32} : xR (yRainC g b u l D x v w t) = xR g := rfl
theorem yRainR_R {D : Nat} {x v w t m : Int32} : xR (yRainR g u l D x v w t m) = xR g := rfl
theorem r_wetR (hn1 : 2 ≤ n) (ht : I_town g β T) (hTn : T 0 0 = n) (h : bkR g n B) (hw : bkOK n B) (hd : B 9 1 < 40) (hs : s = (137 * B 9 3 + 71) % 1000) : ∃ u l e, u < n ∧ l < n ∧ yCn (yAhd (B 8) u) n = s % (n - 1) ∧ yCn (yAhd (B 8) l) n = s % (n - 1) + 1 ∧ yAg (fun o _ => o = 144) g e ∧ E_X12_wet g = some (nI (s % (n - 1)), yRainR e u l (B 9 1) (nI s) (nI (B 8 l)) (nI (B 8 u)) (nI (B 9 2)) (nI (B 9 0))) := by
  obtain ⟨q0, q1, q2, q3, q4, q5, q6⟩ := h
  obtain ⟨w1, w2, w3, w4, w5, w6, w7⟩ := hw
  have hn : n ≤ 5 := by have := ht.1.1; omega
  have hb : ∀ k, k < n → B 8 k < 10000 := fun k hk => by have := (w7 k hk).2; omega
  obtain ⟨e, x1, x2, x3⟩ := r_in23 (g0 := g) (n := n) (h := B 8) hn q6 hb n 0 g (by omega) (yAg.refl _ _) (fun r hr => by omega)
  have hlt : s % (n - 1) < n - 1 := Nat.mod_lt _ (by omega)
  obtain ⟨u, u1, u2, u3⟩ := x3 (s % (n - 1)) (by omega)
  obtain ⟨l, l1, l2, l3⟩ := x3 (s % (n - 1) + 1) (by omega)
  refine ⟨u, l, e, u1, l1, u3, l3, x2, ?_⟩
  have hul : ¬ u = l := fun z => by rw [z] at u3; omega
  have o47 : xI e 113 47 = nI (B 9 3) := (x2.2 _ _ (by decide)).trans q3
  have o46 : xI e 113 46 = nI (B 9 1) := (x2.2 _ _ (by decide)).trans q1
  have o45 : xI e 113 45 = nI (B 9 2) := (x2.2 _ _ (by decide)).trans q2
  have o44 : xI e 113 44 = nI (B 9 0) := (x2.2 _ _ (by decide)).trans q0
  have ou : xI e 143 u = nI (B 8 u) := (x2.2 143 u (show ¬ (143 = 144) by decide)).trans (q6 u u1)
  have ol : xI e 143 l = nI (B 8 l) := (x2.2 143 l (show ¬ (143 = 144) by decide)).trans (q6 l l1)
  have hs0 : (137 * xI e 113 47 + 71) - (137 * xI e 113 47 + 71) / 1000 * 1000 = nI s := by
    rw [o47, show (137 : Int32) = nI 137 from rfl, nI_mul, show (71 : Int32) = nI 71 from rfl, nI_add, show (1000 : Int32) = nI 1000 from rfl, pk_rem (by omega) (by decide) (by decide), hs]
  have hn2 : ¬ nI n < (2 : Int32) := by rw [show (2 : Int32) = nI 2 from rfl, nI_ltI (by omega) (by decide)]; omega
  have hd2 : ¬ nI (B 9 1) = (40 : Int32) := by rw [show (40 : Int32) = nI 40 from rfl, nI_eq (by omega) (by decide)]; omega
  have hp : nI n - 1 = nI (n - 1) := by
    obtain ⟨m, rfl⟩ : ∃ m, n = m + 1 := ⟨n - 1, by omega⟩
    exact nI_pred m
  have hnz : ¬ nI (n - 1) = (0 : Int32) := by rw [show (0 : Int32) = nI 0 from rfl, nI_eq (by omega) (by decide)]; omega
  have hs3 : s ≤ 999 := by omega
  unfold E_X12_wet
  rw [r_thingMany ht, hTn, xb1_some, if_neg hn2, q1, if_neg hd2, show ((0 : Int32), g) = (nI 0, g) from rfl, x1, xb1_some]
  simp only [hs0, hp, xnz_ne hnz, pk_rem (show s < 2 ^ 31 by omega) (show 0 < n - 1 by omega) (show n - 1 < 2 ^ 31 by omega), nI_1, xck_nI (show s % (n - 1) < 5 by omega) (show (5 : Nat) < 2 ^ 31 by decide), xck_nI (show s % (n - 1) + 1 < 5 by omega) (show (5 : Nat) < 2 ^ 31 by decide), nI_clamp (show s % (n - 1) < 2 ^ 31 by omega), nI_clamp (show s % (n - 1) + 1 < 2 ^ 31 by omega), u2, l2, xck_nI (show u < 5 by omega) (show (5 : Nat) < 2 ^ 31 by decide), xck_nI (show l < 5 by omega) (show (5 : Nat) < 2 ^ 31 by decide), nI_clamp (show u < 2 ^ 31 by omega), nI_clamp (show l < 2 ^ 31 by omega), ou, ol]
  unfold yRainR
  simp [yI_wi, l2, o46, o45, o44, xck_nI (show l < 5 by omega) (show (5 : Nat) < 2 ^ 31 by decide), xck_nI (show B 9 1 < 40 by omega) (show (40 : Nat) < 2 ^ 31 by decide), nI_clamp (show l < 2 ^ 31 by omega), nI_clamp (show B 9 1 < 2 ^ 31 by omega), nI_1]
theorem op_7 (W : xWf g) (ht : I_town g β T) (hb : I_book g (T 0 0) B) : ∃ g' B', O_7 a1 a2 a3 a4 a5 g = some (true, g') ∧ I_book g' (T 0 0) B' ∧ yAg (fun o k => (o = 32 ∧ (k = 1 ∨ k = 3)) ∨ o = 39 ∨ o = 40 ∨ (o = 113 ∧ (k = 46 ∨ k = 47)) ∨ (141 ≤ o ∧ o ≤ 144)) g g' := by
  have htw := xtw_lt (xtw W)
  have hn : T 0 0 ≤ 5 := ht.1.1
  have hc := ht.2.1.1
  unfold O_7 E_X11_wet
  rw [hc]
  by_cases c1 : T 0 0 < 2
  · have c2 : nI (T 0 0) < (2 : Int32) := nI_lt c1 (by decide)
    refine ⟨g, B, ?_, hb, yAg.refl _ _⟩
    have e1 : E_X0_rain 32 (nI (T 0 0)) g = some (-1, g) := by unfold E_X0_rain; simp only [if_pos c2]
    have e2 : E_X12_wet g = some (-1, g) := by unfold E_X12_wet; rw [r_thingMany ht, xb1_some, if_pos c2]
    rw [e1, xb2_some, xb2_some, e2, xb2_some]
    simp
  · have c2 : ¬ nI (T 0 0) < (2 : Int32) := by rw [show (2 : Int32) = nI 2 from rfl, nI_ltI (by omega) (by decide)]; omega
    by_cases c3 : B 9 1 < 40
    · obtain ⟨w, b1, b2⟩ := hb
      have hs3 : (137 * B 9 3 + 71) % 1000 ≤ 999 := by omega
      generalize hs : (137 * B 9 3 + 71) % 1000 = s at hs3
      obtain ⟨u, l, e, u1, l1, ru, rl, -, -⟩ := r_wetR (by omega) ht rfl b2 w c3 hs.symm
      have r1 := r_rain (by omega) hn b1 w c3 hs.symm u1 l1 ru rl
      generalize hG : yRainC g 32 u l (B 9 1) (nI s) (nI (B 8 l)) (nI (B 8 u)) (nI (B 9 2)) = G at r1
      have oG : ∀ o k, ¬ ((o = 32 ∧ (k = 1 ∨ k = 3)) ∨ o = 39 ∨ o = 40) → xI G o k = xI g o k := fun o k hk => by
        rw [← hG]; unfold yRainC
        rw [yI_wi, if_neg (by omega), yI_wi, if_neg (by omega), yI_wi, if_neg (by omega), yI_wi, if_neg (by omega), yI_wi, if_neg (by omega)]
      have aG : yAg (fun o k => (o = 32 ∧ (k = 1 ∨ k = 3)) ∨ o = 39 ∨ o = 40) g G := ⟨by rw [← hG]; rfl, fun o k h => oG o k h⟩
      have ht2 : I_town G β T := ht.ag W aG (fun j k hj => by omega) (fun o k h => by simp only [List.mem_cons, List.not_mem_nil, or_false] at h; omega) (by omega)
      have hbr : bkR G (T 0 0) B := b2.ag aG (fun o k h => by simp only [List.mem_cons, List.not_mem_nil, or_false] at h; show ¬ ((o = 32 ∧ (k = 1 ∨ k = 3)) ∨ o = 39 ∨ o = 40); omega) (by omega) (by omega) (by omega) (by omega)
      obtain ⟨u', l', e', v1, v2, v3, v4, v5, v6⟩ := r_wetR (by omega) ht2 rfl hbr w c3 hs.symm
      have eu : u' = u := yRk_inj v1 u1 (v3.trans ru.symm)
      have el : l' = l := yRk_inj v2 l1 (v4.trans rl.symm)
      subst eu el
      have hul : ¬ u' = l' := fun z => by rw [z] at ru; omega
      generalize hH : yRainR e' u' l' (B 9 1) (nI s) (nI (B 8 l')) (nI (B 8 u')) (nI (B 9 2)) (nI (B 9 0)) = H at v6
      have oH : ∀ o k, ¬ ((o = 113 ∧ (k = 46 ∨ k = 47)) ∨ (141 ≤ o ∧ o ≤ 144)) → xI H o k = xI G o k := fun o k hk => by
        rw [← hH]; unfold yRainR
        rw [yI_wi, if_neg (by omega), yI_wi, if_neg (by omega), yI_wi, if_neg (by omega), yI_wi, if_neg (by omega), yI_wi, if_neg (by omega), yI_wi, if_neg (by omega)]
        exact v5.2 o k (by omega)
      refine ⟨H, yWet B u' l' s, ?_, ⟨w.wet v1 v2 c3 hs3, b1.wet (fun o k h1 h2 h3 => ?_) ?_ ?_ (fun k => ?_) (fun k => ?_), b2.wet (fun o k h1 h2 h3 => ?_) ?_ ?_ (fun k => ?_) (fun k => ?_) (fun k => ?_)⟩, ?_, fun o k hk => ?_⟩
      · rw [r1, xb2_some, xb2_some, v6, xb2_some]; simp
      · rw [oH _ _ (by omega), oG _ _ (by omega)]
      · rw [oH _ _ (by omega), ← hG]; unfold yRainC; simp [yI_wi]
      · rw [oH _ _ (by omega), ← hG]; unfold yRainC; simp [yI_wi]
      · rw [oH _ _ (by omega), ← hG]; unfold yRainC; simp [yI_wi]
      · rw [oH _ _ (by omega), ← hG]; unfold yRainC; simp [yI_wi]
      · rw [oH _ _ (by omega), oG _ _ (by omega)]
      · rw [← hH]; unfold yRainR; simp [yI_wi]
      · rw [← hH]; unfold yRainR; simp [yI_wi]
      · rw [← hH]; unfold yRainR; simp [yI_wi, v5.2, oG]
      · rw [← hH]; unfold yRainR; simp [yI_wi, v5.2, oG]
      · rw [← hH]; unfold yRainR; simp [yI_wi, v5.2, oG]
      · rw [← hH, yRainR_R]; exact v5.1.trans aG.1
      · rw [oH _ _ (by omega), oG _ _ (by omega)]
    · have c4 : ¬ nI (B 9 1) < (40 : Int32) := by rw [show (40 : Int32) = nI 40 from rfl, nI_ltI (by have := hb.1.2.1; omega) (by decide)]; omega
      have c5 : B 9 1 = 40 := by have := hb.1.2.1; omega
      refine ⟨g, B, ?_, hb, yAg.refl _ _⟩
      have e1 : E_X0_rain 32 (nI (T 0 0)) g = some (-1, g) := by unfold E_X0_rain; simp only [if_neg c2, hb.2.1.2.1, if_neg c4]
      have e2 : E_X12_wet g = some (-1, g) := by
        unfold E_X12_wet; rw [r_thingMany ht, xb1_some, if_neg c2, hb.2.2.2.1, if_pos (by rw [c5]; rfl)]
      rw [e1, xb2_some, xb2_some, e2, xb2_some]
      simp
end WET2
