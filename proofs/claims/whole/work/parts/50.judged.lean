/-! CALL judged -/
section JG
variable {g g' : xSt} {β n w : Nat} {T B : yT} {L : List Nat} {k a1 a2 a3 a4 a5 : Int32}
theorem r_saidByC (o : I_orders g n w) {i a b : Nat} (hi : i < yN n w) (ha : a < n) (hb : b < n) : F_X5_saidBy g (nI i) (nI a) (nI b) = nI (ySd (yOr n w i) a b) := by
  have hn := o.1
  have p1 := yDg_lt hn o.2.1 hi ha
  have p2 := yDg_lt hn o.2.1 hi hb
  obtain ⟨x1, x2⟩ := r_dif2 (show yDg (yOr n w i) a < 10000 by omega) (show yDg (yOr n w i) b < 10000 by omega)
  unfold F_X5_saidBy
  rw [r_placeOf o hi ha, r_placeOf o hi hb]
  unfold ySd ySf
  by_cases c1 : yDg (yOr n w i) a < yDg (yOr n w i) b
  · rw [if_neg (fun z => by have := x1.mp z; omega), if_pos c1]; rfl
  · rw [if_pos (x1.mpr (by omega)), if_neg c1]
    by_cases c2 : yDg (yOr n w i) b < yDg (yOr n w i) a
    · rw [if_neg (fun z => by have := x2.mp z; omega), if_pos c2]; rfl
    · rw [if_pos (x2.mpr (by omega)), if_neg c2]; rfl
/-- an order's way through a plan: which done it comes to, in how many weighings -/
def yPth (T : yT) (v : Nat) : Nat → Nat → Nat → Nat → Nat × Nat
  | 0, _, d, s => (d, s)
  | f + 1, cur, d, s => if cur = 0 then (d, s) else yPth T v f (T 6 (3 * (cur - 1) + ySd v (T 4 (cur - 1)) (T 5 (cur - 1)))) (3 * (cur - 1) + ySd v (T 4 (cur - 1)) (T 5 (cur - 1))) (s + 1)
theorem yPth_i (ht : twOK T) (v : Nat) : ∀ f cur d s, cur ≤ T 0 4 → d ≤ 180 → (cur = 0 ∨ s + 1 ≤ cur) → s ≤ 60 → (yPth T v f cur d s).1 ≤ 180 ∧ (yPth T v f cur d s).2 ≤ 60 := by
  obtain ⟨-, -, -, -, h4, -, -, -, -, h5, h6⟩ := ht
  intro f
  induction f with
  | zero => intro cur d s _ hd _ hs; exact ⟨hd, hs⟩
  | succ f ih =>
    intro cur d s hc hd hs hs2
    unfold yPth
    by_cases c : cur = 0
    · rw [if_pos c]; exact ⟨hd, hs2⟩
    · rw [if_neg c]
      have h2 := ySd_le v (T 4 (cur - 1)) (T 5 (cur - 1))
      have h6' := h6 (cur - 1) (ySd v (T 4 (cur - 1)) (T 5 (cur - 1))) (by omega) (by omega)
      exact ih _ _ _ (by omega) (by omega) (by omega) (by omega)
theorem r_two1 {cur : Nat} (h : cur ≠ 0) : nI cur - 1 = nI (cur - 1) := by
  obtain ⟨m, rfl⟩ : ∃ m, cur = m + 1 := ⟨cur - 1, by omega⟩
  exact nI_pred m
theorem r_follow18 (C : Cx g β T B) {o : Nat} (ho : o < yN (T 0 0) (T 0 1)) : ∀ f cur d s, (cur = 0 ∨ 61 ≤ f + cur) → cur ≤ T 0 4 → (cur = 0 ∨ s + 1 ≤ cur) → xlim (S_X2_follow_18 (tw g) (nI o) a5) (nI d, nI cur - 1, nI s, g) = some (nI (yPth T (yOr (T 0 0) (T 0 1) o) f cur d s).1, nI (yPth T (yOr (T 0 0) (T 0 1) o) f cur d s).2, g) := by
  obtain ⟨h0, -, -, -, h4, -, -, -, -, h5, h6⟩ := C.2.1.1
  have tc := C.2.1.2.1
  have fin : ∀ d s, xlim (S_X2_follow_18 (tw g) (nI o) a5) (nI d, nI 0 - 1, nI s, g) = some (nI d, nI s, g) := fun d s => xlim_end (by
    unfold S_X2_follow_18
    exact if_pos (show nI 0 - 1 = (-1 : Int32) by decide))
  intro f
  induction f with
  | zero =>
    intro cur d s h1 h2 _
    have : cur = 0 := by omega
    subst this
    exact fin d s
  | succ f ih =>
    intro cur d s h1 h2 h3
    unfold yPth
    by_cases c : cur = 0
    · subst c; rw [if_pos rfl]; exact fin d s
    · rw [if_neg c]
      have ci : cur - 1 < T 0 4 := by omega
      have hs := ySd_le (yOr (T 0 0) (T 0 1) o) (T 4 (cur - 1)) (T 5 (cur - 1))
      have h6' := h6 (cur - 1) (ySd (yOr (T 0 0) (T 0 1) o) (T 4 (cur - 1)) (T 5 (cur - 1))) ci (by omega)
      obtain ⟨t1, t2, t3⟩ := h5 (cur - 1) ci
      have st : S_X2_follow_18 (tw g) (nI o) a5 (nI d, nI cur - 1, nI s, g) = some (.inl (nI (3 * (cur - 1) + ySd (yOr (T 0 0) (T 0 1) o) (T 4 (cur - 1)) (T 5 (cur - 1))), nI (T 6 (3 * (cur - 1) + ySd (yOr (T 0 0) (T 0 1) o) (T 4 (cur - 1)) (T 5 (cur - 1)))) - 1, nI (s + 1), g)) := by
        unfold S_X2_follow_18
        have e1 : ¬ nI (cur - 1) = (-1 : Int32) := fun z => absurd (z ▸ nI_pos (n := cur - 1) (by omega)) (by decide)
        have e2 : ¬ (60 : Int32) < nI s := by rw [show (60 : Int32) = nI 60 from rfl, nI_ltI (by decide) (by omega)]; omega
        simp only [r_two1 c, if_neg e1, if_neg e2, xat_nI (show cur - 1 < 60 by omega) (show (60 : Nat) < 2 ^ 31 by decide), (tc.2.2.2.2.2.2.2.2.1 (cur - 1) ci).1, (tc.2.2.2.2.2.2.2.2.1 (cur - 1) ci).2, r_saidByC C.2.2.2 ho t1 t2, show (3 : Int32) = nI 3 from rfl, nI_mul, nI_add, xat_nI (show 3 * (cur - 1) + ySd (yOr (T 0 0) (T 0 1) o) (T 4 (cur - 1)) (T 5 (cur - 1)) < 180 by omega) (show (180 : Nat) < 2 ^ 31 by decide), tc.2.2.2.2.2.2.2.2.2 (cur - 1) (ySd (yOr (T 0 0) (T 0 1) o) (T 4 (cur - 1)) (T 5 (cur - 1))) ci (by omega), nI_1]
      exact (xlim_go st).trans (ih _ _ _ (by omega) (by omega) (by omega))
/-- the reference's number of a done -/
def yEnd (β e : Nat) : Nat := if e = 180 then 0 else 3 * (60 * β + e / 3) + yway (e % 3) + 1
theorem yEnd_inj {β d e : Nat} (hd : d ≤ 180) (he : e ≤ 180) : yEnd β d = yEnd β e ↔ d = e := by
  unfold yEnd yway
  constructor
  · intro h
    split at h <;> split at h <;> (try split at h) <;> (try split at h) <;> omega
  · intro h; rw [h]
theorem yEnd_lt {β d : Nat} (hd : d ≤ 180) (hβ : β ≤ 1) : yEnd β d < 1000 := by
  unfold yEnd yway
  split <;> (try split) <;> omega
def dTh (j o k : Nat) : Prop := (o = 147 ∨ o = 148) ∧ k = j
theorem r_through (C : Cx g β T B) (q : yLR g L) (hi : yIn (T 0 0) (T 0 1) L) {j : Nat} (hj : j < L.length) : ∀ f cur d s g1, (cur = 0 ∨ 61 ≤ f + cur) → cur ≤ T 0 4 → d ≤ 180 → yAg (dTh j) g g1 → xI g1 147 j = nI (yEnd β d) → xI g1 148 j = nI s → ∃ g', xlim (S_X12_goesThrough_16 (nI j)) (ytwo β cur, g1) = some g' ∧ yAg (dTh j) g g' ∧ xI g' 147 j = nI (yEnd β (yPth T (yPv (T 0 0) (T 0 1) L j) f cur d s).1) ∧ xI g' 148 j = nI (yPth T (yPv (T 0 0) (T 0 1) L j) f cur d s).2 := by
  obtain ⟨h0, -, -, -, h4, -, -, -, -, h5, h6⟩ := C.2.1.1
  have hβ := C.2.1.2.2.1
  have hl := hi.1
  have fin : ∀ g1, xlim (S_X12_goesThrough_16 (nI j)) (ytwo β 0, g1) = some g1 := fun g1 => xlim_end (if_pos (show ytwo β 0 < (0 : Int32) by show (-1 : Int32) < 0; decide))
  intro f
  induction f with
  | zero =>
    intro cur d s g1 h1 h2 _ y e1 e2
    have : cur = 0 := by omega
    subst this
    exact ⟨g1, fin g1, y, e1, e2⟩
  | succ f ih =>
    intro cur d s g1 h1 h2 hd y e1 e2
    unfold yPth
    by_cases c : cur = 0
    · subst c; rw [if_pos rfl]; exact ⟨g1, fin g1, y, e1, e2⟩
    · rw [if_neg c]
      have ci : cur - 1 < T 0 4 := by omega
      have C1 : Cx g1 β T B := C.as (y.up (fun o k h => by unfold dTh at h; unfold dAS dA; omega))
      have q1 : yLR g1 L := q.gl y (by unfold dTh; omega) (fun k => by unfold dTh; omega)
      have tr := C1.2.1.2.2.2.2
      have hs := ySd_le (yPv (T 0 0) (T 0 1) L j) (T 4 (cur - 1)) (T 5 (cur - 1))
      have h6' := h6 (cur - 1) (ySd (yPv (T 0 0) (T 0 1) L j) (T 4 (cur - 1)) (T 5 (cur - 1))) ci (by omega)
      obtain ⟨t1, t2, t3⟩ := h5 (cur - 1) ci
      have tv : ytwo β cur = nI (60 * β + (cur - 1)) := by unfold ytwo; rw [if_neg c]
      have wy : ∀ s, s ≤ 2 → (if nI s = (0 : Int32) then (2 : Int32) else nI s - 1) = nI (yway s) ∧ yway s ≤ 2 := by
        intro s hs
        have : s = 0 ∨ s = 1 ∨ s = 2 := by omega
        rcases this with rfl | rfl | rfl <;> exact ⟨by decide, by decide⟩
      obtain ⟨w1, w2⟩ := wy _ hs
      have sd := r_saidBy C1.2.2.2 (hi.2 j hj) t1 t2
      have st : S_X12_goesThrough_16 (nI j) (ytwo β cur, g1) = some (.inl (ytwo β (T 6 (3 * (cur - 1) + ySd (yPv (T 0 0) (T 0 1) L j) (T 4 (cur - 1)) (T 5 (cur - 1)))), xWI (xWI g1 147 j (nI (3 * (60 * β + (cur - 1)) + yway (ySd (yPv (T 0 0) (T 0 1) L j) (T 4 (cur - 1)) (T 5 (cur - 1))) + 1))) 148 j (nI (s + 1)))) := by
        unfold S_X12_goesThrough_16
        rw [tv]
        simp only [if_neg (nI_pos (n := 60 * β + (cur - 1)) (by omega)), xck_nI (show j < 541 by omega) (show (541 : Nat) < 2 ^ 31 by decide), xck_nI (show 60 * β + (cur - 1) < 120 by omega) (show (120 : Nat) < 2 ^ 31 by decide), nI_clamp (show j < 2 ^ 31 by omega), nI_clamp (show 60 * β + (cur - 1) < 2 ^ 31 by omega), q1.2 j hj, (tr.2.2.2.2.2.2.2.2.1 (cur - 1) ci).1, (tr.2.2.2.2.2.2.2.2.1 (cur - 1) ci).2, sd, xb1_some]
        unfold K_X12_goesThrough_57
        rw [show ySd (yOr (T 0 0) (T 0 1) (L.getD j 0)) (T 4 (cur - 1)) (T 5 (cur - 1)) = ySd (yPv (T 0 0) (T 0 1) L j) (T 4 (cur - 1)) (T 5 (cur - 1)) from rfl, w1, show (3 : Int32) = nI 3 from rfl, nI_mul, nI_add, xck_nI (by omega) (by decide), xck_nI (by omega) (by decide), xck_nI (by omega) (by decide), xck_nI (by omega) (by decide), nI_clamp (by omega), nI_clamp (by omega), tr.2.2.2.2.2.2.2.2.2 (cur - 1) _ ci (by omega), e2, nI_1, nI_1]
      obtain ⟨g', r1, r2⟩ := ih (T 6 (3 * (cur - 1) + ySd (yPv (T 0 0) (T 0 1) L j) (T 4 (cur - 1)) (T 5 (cur - 1)))) (3 * (cur - 1) + ySd (yPv (T 0 0) (T 0 1) L j) (T 4 (cur - 1)) (T 5 (cur - 1))) (s + 1) (xWI (xWI g1 147 j (nI (3 * (60 * β + (cur - 1)) + yway (ySd (yPv (T 0 0) (T 0 1) L j) (T 4 (cur - 1)) (T 5 (cur - 1))) + 1))) 148 j (nI (s + 1))) (by omega) (by omega) (by omega) ((y.wi ⟨Or.inl rfl, rfl⟩).wi ⟨Or.inr rfl, rfl⟩) (by
        rw [yI_wi, if_neg (by omega), yI_wi, if_pos ⟨rfl, rfl⟩]
        unfold yEnd
        rw [if_neg (by omega), show (3 * (cur - 1) + ySd (yPv (T 0 0) (T 0 1) L j) (T 4 (cur - 1)) (T 5 (cur - 1))) / 3 = cur - 1 by omega, show (3 * (cur - 1) + ySd (yPv (T 0 0) (T 0 1) L j) (T 4 (cur - 1)) (T 5 (cur - 1))) % 3 = ySd (yPv (T 0 0) (T 0 1) L j) (T 4 (cur - 1)) (T 5 (cur - 1)) by omega]) (by rw [yI_wi, if_pos ⟨rfl, rfl⟩])
      exact ⟨g', (xlim_go st).trans r1, r2⟩
/-- done and weighings of order v by plan p -/
def yDn (T : yT) (p v : Nat) : Nat := (yPth T v 61 (T 3 p) 180 0).1
def yDs (T : yT) (p v : Nat) : Nat := (yPth T v 61 (T 3 p) 180 0).2
theorem yDn_le (ht : twOK T) {p v : Nat} (hp : p < T 0 3) : yDn T p v ≤ 180 ∧ yDs T p v ≤ 60 := yPth_i ht v 61 _ _ _ (ht.2.2.2.2.2.2.2.2.1 p hp) (Nat.le_refl _) (by omega) (by omega)
/-- two come to one done with unlike goals -/
def yMx (d c : Nat → Nat) (N e : Nat) : Bool := (List.range N).any fun i => (List.range N).any fun j => d i == e && d j == e && !(c i == c j)
theorem yMx_i {d c : Nat → Nat} {N e : Nat} : yMx d c N e = true ↔ ∃ i j, i < N ∧ j < N ∧ d i = e ∧ d j = e ∧ c i ≠ c j := by
  unfold yMx
  simp only [List.any_eq_true, List.mem_range, Bool.and_eq_true, beq_iff_eq, Bool.not_eq_true', beq_eq_false_iff_ne]
  exact ⟨fun ⟨i, h1, j, h2, ⟨h3, h4⟩, h5⟩ => ⟨i, j, h1, h2, h3, h4, h5⟩, fun ⟨i, j, h1, h2, h3, h4, h5⟩ => ⟨i, h1, j, h2, ⟨h3, h4⟩, h5⟩⟩
theorem ySum_add (f h : Nat → Nat) : ∀ m, ySum (fun e => f e + h e) m = ySum f m + ySum h m := by
  intro m
  induction m with
  | zero => rfl
  | succ m ih =>
    show ySum (fun e => f e + h e) m + (f m + h m) = (ySum f m + f m) + (ySum h m + h m)
    omega
theorem ySum_congr {f h : Nat → Nat} : ∀ {m}, (∀ e, e < m → f e = h e) → ySum f m = ySum h m := by
  intro m
  induction m with
  | zero => intro _; rfl
  | succ m ih => intro q; show ySum f m + f m = ySum h m + h m; rw [ih (fun e he => q e (by omega)), q m (by omega)]
theorem ySum_0 : ∀ m, ySum (fun _ => 0) m = 0 := by
  intro m
  induction m with
  | zero => rfl
  | succ m ih => show ySum (fun _ => 0) m + 0 = 0; rw [ih]
theorem ySum_one {x : Nat} (c : Nat) : ∀ m, x < m → ySum (fun e => if e = x then c else 0) m = c := by
  intro m
  induction m with
  | zero => intro h; omega
  | succ m ih =>
    intro h
    show ySum (fun e => if e = x then c else 0) m + (if m = x then c else 0) = c
    by_cases e : m = x
    · subst e
      rw [if_pos rfl, ySum_congr (h := fun _ => 0) (fun e he => if_neg (by omega)), ySum_0, Nat.zero_add]
    · rw [if_neg e, ih (by omega)] <;> rfl
theorem ySum_cn (d : Nat → Nat) (m : Nat → Bool) (M : Nat) : ∀ N, (∀ i, i < N → d i < M) → ySum (fun e => if m e then yCn (fun i => d i == e) N else 0) M = yCn (fun i => m (d i)) N := by
  intro N
  induction N with
  | zero => intro _; rw [ySum_congr (h := fun _ => 0) (fun e _ => by show (if m e then 0 else 0) = 0; split <;> rfl), ySum_0]; rfl
  | succ N ih =>
    intro h
    rw [yCn_succ, ← ih (fun i hi => h i (by omega)), ← ySum_one (if m (d N) = true then 1 else 0) M (h N (by omega)), ← ySum_add]
    refine ySum_congr fun e he => ?_
    rw [yCn_succ]
    by_cases c : e = d N
    · subst c
      by_cases z : m (d N) = true
      · simp [z]
      · simp [z]
    · have c' : ¬ d N = e := fun z => c z.symm
      by_cases z : m e = true
      · simp [z, c, c']
      · simp [z, c]
/-- the most of the first ones, from 0 -/
def yMax (s : Nat → Nat) : Nat → Nat
  | 0 => 0
  | m + 1 => max (yMax s m) (s m)
theorem yMax_le {s : Nat → Nat} {c : Nat} : ∀ m, (∀ i, i < m → s i ≤ c) → yMax s m ≤ c := by
  intro m
  induction m with
  | zero => intro _; exact Nat.zero_le _
  | succ m ih =>
    intro h
    have h1 := ih (fun i hi => h i (by omega))
    have h2 := h m (by omega)
    show max _ _ ≤ c
    omega
theorem ySum_le {s : Nat → Nat} {c : Nat} : ∀ m, (∀ i, i < m → s i ≤ c) → ySum s m ≤ c * m := by
  intro m
  induction m with
  | zero => intro _; exact Nat.zero_le _
  | succ m ih =>
    intro h
    have h1 := ih (fun i hi => h i (by omega))
    have h2 := h m (by omega)
    show ySum s m + s m ≤ c * (m + 1)
    rw [Nat.mul_succ]; omega
/-- what the judge holds behind j orders -/
def yJh (g : xSt) (d s c : Nat → Nat) (j : Nat) : Prop := xI g 94 3 = nI (yMax s j) ∧ xI g 94 4 = nI (ySum s j) ∧ ∀ e, e < 181 → xI g 95 e = nI (yCn (fun i => d i == e) j) ∧ ((xI g 97 e = 0 ∧ ∀ i, i < j → d i = e → xI g 96 e = nI (c i)) ∨ (xI g 97 e = 1 ∧ ∃ i i', i < j ∧ i' < j ∧ d i = e ∧ d i' = e ∧ c i ≠ c i'))
def dJh (o k : Nat) : Prop := o = 95 ∨ o = 96 ∨ o = 97 ∨ (o = 94 ∧ (k = 3 ∨ k = 4))
theorem dJh_A : ∀ o k, dJh o k → dA o k := fun o k h => by unfold dJh at h; unfold dA; omega
theorem r_jcome {t : Nat} {d s c : Nat → Nat} {j : Nat} (hj : j < 541) (hd : ∀ i, i ≤ j → d i ≤ 180) (hs : ∀ i, i ≤ j → s i ≤ 60) (hc : ∀ i, i ≤ j → c i < 100000) (h : yJh g d s c j) : ∃ g', K_X2_follow_87 t (nI (c j)) (nI (d j)) (nI (s j)) g = some g' ∧ yAg dJh g g' ∧ yJh g' d s c (j + 1) := by
  obtain ⟨h1, h2, h3⟩ := h
  have hm := yMax_le (s := s) (c := 60) j (fun i hi => hs i (by omega))
  have hS := ySum_le (s := s) (c := 60) j (fun i hi => hs i (by omega))
  have sj := hs j (Nat.le_refl _)
  have dj := hd j (Nat.le_refl _)
  have e0 : ∀ G : xSt, (imax (xI g 94 3) (nI (s j))) = nI (yMax s (j + 1)) := fun _ => by rw [h1, r_imax (by omega) (by omega)]; rfl
  have e1 : xI g 94 4 + nI (s j) = nI (ySum s (j + 1)) := by rw [h2, nI_add]; rfl
  generalize hG : xWI (xWI g 94 3 (nI (yMax s (j + 1)))) 94 4 (nI (ySum s (j + 1))) = G
  have oG : ∀ o k, o ≠ 94 → xI G o k = xI g o k := fun o k h => by rw [← hG, yI_wi, if_neg (fun z => h z.1), yI_wi, if_neg (fun z => h z.1)]
  have yG : yAg dJh g G := by rw [← hG]; exact ((yAg.refl _ g).wi (by unfold dJh; omega)).wi (by unfold dJh; omega)
  have f3 : xI G 94 3 = nI (yMax s (j + 1)) ∧ xI G 94 4 = nI (ySum s (j + 1)) := by rw [← hG]; simp [yI_wi]
  obtain ⟨x1, x2⟩ := h3 (d j) (by omega)
  have cl := yCn_le (fun i => d i == d j) j
  have st : K_X2_follow_87 t (nI (c j)) (nI (d j)) (nI (s j)) g = xb1 (E_X2_comeTo (nI (d j)) (nI (c j)) G) fun g116_1 => some g116_1 := by
    unfold K_X2_follow_87
    rw [e0 g]
    simp [e1, hG]
  rw [st]
  unfold E_X2_comeTo
  rw [xat_nI (show d j < 181 by omega) (by decide), xat_nI (show d j < 181 by omega) (by decide), oG _ _ (by decide), oG _ _ (by decide), x1]
  have put : ∀ H : xSt, ∀ r : Nat, ∀ v : Int32, xput H r 181 (nI (d j)) v = xWI H r (d j) v := fun H r v => xput_nI (by omega) (by decide)
  have add1 : ∀ H : xSt, xI H 95 (d j) = nI (yCn (fun i => d i == d j) j) → xadd H 95 181 (nI (d j)) 1 = xWI H 95 (d j) (nI (yCn (fun i => d i == d j) j + 1)) := fun H e => by
    unfold xadd
    rw [if_neg (nI_in (by omega) (by decide)), nI_clamp (by omega), e, nI_1]
  have base : xI G 95 (d j) = nI (yCn (fun i => d i == d j) j) := (oG _ _ (by decide)).trans x1
  have cnt : ∀ e, yCn (fun i => d i == e) (j + 1) = yCn (fun i => d i == e) j + (if d j = e then 1 else 0) := fun e => by
    rw [yCn_succ]
    by_cases z : d j = e
    · rw [if_pos (beq_iff_eq.mpr z), if_pos z]
    · rw [if_neg (fun y => z (beq_iff_eq.mp y)), if_neg z]
  -- the other dones
  have others : ∀ H : xSt, (∀ o k, k ≠ d j → xI H o k = xI G o k ∨ o = 94) → ∀ e, e < 181 → e ≠ d j → xI H 95 e = nI (yCn (fun i => d i == e) (j + 1)) ∧ ((xI H 97 e = 0 ∧ ∀ i, i < j + 1 → d i = e → xI H 96 e = nI (c i)) ∨ (xI H 97 e = 1 ∧ ∃ i i', i < j + 1 ∧ i' < j + 1 ∧ d i = e ∧ d i' = e ∧ c i ≠ c i')) := by
    intro H hH e he hne
    have o5 : xI H 95 e = xI g 95 e := ((hH 95 e hne).resolve_right (by decide)).trans (oG _ _ (by decide))
    have o6 : xI H 96 e = xI g 96 e := ((hH 96 e hne).resolve_right (by decide)).trans (oG _ _ (by decide))
    have o7 : xI H 97 e = xI g 97 e := ((hH 97 e hne).resolve_right (by decide)).trans (oG _ _ (by decide))
    obtain ⟨y1, y2⟩ := h3 e he
    rw [o5, o6, o7, cnt, if_neg (fun z => hne z.symm)]
    refine ⟨y1, ?_⟩
    rcases y2 with ⟨z1, z2⟩ | ⟨z1, i, i', z2, z3, z4⟩
    · refine Or.inl ⟨z1, fun i hi hdi => z2 i ?_ hdi⟩
      by_cases q : i = j
      · subst q; exact absurd hdi (fun z => hne z.symm)
      · omega
    · exact Or.inr ⟨z1, i, i', by omega, by omega, z4⟩
  by_cases c0 : yCn (fun i => d i == d j) j = 0
  · have none : ∀ i, i < j → d i ≠ d j := fun i hi z => yCn_zero.mp c0 i hi (beq_iff_eq.mpr z)
    rw [c0, if_pos (show nI 0 = (0 : Int32) from rfl), xb1_some, put, add1 _ (by rw [yI_wi, if_neg (by omega)]; exact base)]
    refine ⟨_, rfl, (yG.wi (by unfold dJh; omega)).wi (by unfold dJh; omega), ?_, ?_, fun e he => ?_⟩
    · rw [yI_wi, if_neg (by omega), yI_wi, if_neg (by omega)]; exact f3.1
    · rw [yI_wi, if_neg (by omega), yI_wi, if_neg (by omega)]; exact f3.2
    · by_cases q : e = d j
      · subst q
        refine ⟨by rw [yI_wi, if_pos ⟨rfl, rfl⟩, cnt, if_pos rfl], Or.inl ⟨?_, fun i hi hdi => ?_⟩⟩
        · rw [yI_wi, if_neg (by omega), yI_wi, if_neg (by omega), oG _ _ (by decide)]
          rcases x2 with z | ⟨-, i, i', z2, -, z4, -⟩
          · exact z.1
          · exact absurd z4 (none i z2)
        · have : i = j := by
            by_cases z : i = j
            · exact z
            · exact absurd hdi (none i (by omega))
          subst this
          rw [yI_wi, if_neg (by omega), yI_wi, if_pos ⟨rfl, rfl⟩]
      · exact others _ (fun o k hk => Or.inl (by rw [yI_wi, if_neg (fun z => hk z.2), yI_wi, if_neg (fun z => hk z.2)])) e he q
  · rw [if_neg (show ¬ nI _ = (0 : Int32) from fun z => c0 ((nI_eq (by omega) (by decide)).mp (show _ = nI 0 from z)))]
    obtain ⟨i0, hi0, di0⟩ := yCn_pos.mp (Nat.pos_of_ne_zero c0)
    have di0 := beq_iff_eq.mp di0
    by_cases c1 : xI g 96 (d j) = nI (c j)
    · rw [if_pos c1, xb1_some, add1 _ base]
      refine ⟨_, rfl, yG.wi (by unfold dJh; omega), ?_, ?_, fun e he => ?_⟩
      · rw [yI_wi, if_neg (by omega)]; exact f3.1
      · rw [yI_wi, if_neg (by omega)]; exact f3.2
      · by_cases q : e = d j
        · subst q
          refine ⟨by rw [yI_wi, if_pos ⟨rfl, rfl⟩, cnt, if_pos rfl], ?_⟩
          rw [yI_wi, if_neg (by omega), yI_wi, if_neg (by omega), oG _ _ (by decide), oG _ _ (by decide)]
          rcases x2 with ⟨z1, z2⟩ | ⟨z1, i, i', z2, z3, z4⟩
          · refine Or.inl ⟨z1, fun i hi hdi => ?_⟩
            by_cases z : i = j
            · subst z; exact c1
            · exact z2 i (by omega) hdi
          · exact Or.inr ⟨z1, i, i', by omega, by omega, z4⟩
        · exact others _ (fun o k hk => Or.inl (by rw [yI_wi, if_neg (fun z => hk z.2)])) e he q
    · rw [if_neg c1, xb1_some, put, add1 _ (by rw [yI_wi, if_neg (by omega)]; exact base)]
      refine ⟨_, rfl, (yG.wi (by unfold dJh; omega)).wi (by unfold dJh; omega), ?_, ?_, fun e he => ?_⟩
      · rw [yI_wi, if_neg (by omega), yI_wi, if_neg (by omega)]; exact f3.1
      · rw [yI_wi, if_neg (by omega), yI_wi, if_neg (by omega)]; exact f3.2
      · by_cases q : e = d j
        · subst q
          refine ⟨by rw [yI_wi, if_pos ⟨rfl, rfl⟩, cnt, if_pos rfl], Or.inr ⟨?_, ?_⟩⟩
          · rw [yI_wi, if_neg (by omega), yI_wi, if_pos ⟨rfl, rfl⟩]
          · rcases x2 with ⟨z1, z2⟩ | ⟨z1, i, i', z2, z3, z4⟩
            · exact ⟨i0, j, by omega, by omega, di0, rfl, fun z => c1 ((z2 i0 hi0 di0).trans (congrArg nI z))⟩
            · exact ⟨i, i', by omega, by omega, z4⟩
        · exact others _ (fun o k hk => Or.inl (by rw [yI_wi, if_neg (fun z => hk z.2), yI_wi, if_neg (fun z => hk z.2)])) e he q
end JG
