/-! WEIGHTS that fit: the class lays them thing by thing -/
def dLy (o k : Nat) : Prop := o = 102 ∨ o = 103
def dGs (o k : Nat) : Prop := (102 ≤ o ∧ o ≤ 106) ∨ o = 109 ∨ o = 110 ∨ (o = 98 ∧ k = 11)
theorem dLy_G : ∀ o k, dLy o k → dGs o k := fun o k h => by unfold dLy at h; unfold dGs; omega
/-- things, sticks, rules and asks as they are loaded -/
def yGx (g : xSt) (n st R : Nat) (rf rs rd : Nat → Nat) (Q : Nat) (qa qb : Nat → Nat) : Prop := xI g 98 0 = nI n ∧ xI g 98 1 = nI st ∧ xI g 98 2 = nI R ∧ (∀ i, i < R → xI g 99 i = nI (rf i) ∧ xI g 100 i = nI (rs i) ∧ xI g 101 i = nI (rd i)) ∧ xI g 98 13 = nI Q ∧ ∀ i, i < Q → xI g 107 i = nI (qa i) ∧ xI g 108 i = nI (qb i)
theorem yGx.ag {g g' : xSt} {n st R Q : Nat} {rf rs rd qa qb : Nat → Nat} (h : yAg dGs g g') (q : yGx g n st R rf rs rd Q qa qb) : yGx g' n st R rf rs rd Q qa qb := by
  obtain ⟨q1, q2, q3, q4, q5, q6⟩ := q
  exact ⟨(h.2 _ _ (by unfold dGs; omega)).trans q1, (h.2 _ _ (by unfold dGs; omega)).trans q2, (h.2 _ _ (by unfold dGs; omega)).trans q3, fun i hi => ⟨(h.2 _ _ (by unfold dGs; omega)).trans (q4 i hi).1, (h.2 _ _ (by unfold dGs; omega)).trans (q4 i hi).2.1, (h.2 _ _ (by unfold dGs; omega)).trans (q4 i hi).2.2⟩, (h.2 _ _ (by unfold dGs; omega)).trans q5, fun i hi => ⟨(h.2 _ _ (by unfold dGs; omega)).trans (q6 i hi).1, (h.2 _ _ (by unfold dGs; omega)).trans (q6 i hi).2⟩⟩
theorem yLay1 : ∀ t, t < 5 → ∀ a, a < 2 ^ t → yWo a t = a ∧ a / 2 ^ t % 2 = 0 ∧ yWo (2 ^ t + a) t = a ∧ (2 ^ t + a) / 2 ^ t % 2 = 1 ∧ 2 ^ t ||| a = 2 ^ t + a := by decide +kernel
section LY
variable {g g' : xSt} {t b x n st R Q : Nat} {rf rs rd qa qb : Nat → Nat} {P : List Nat}
theorem r_layT (ht : t < 5) (hx : x < 6) (hp : yPx g t b) : ∃ g', E_X1_lay (nI t) (nI (x + 1)) g = some g' ∧ yAg dLy g g' ∧ yPx g' (t + 1) (6 * b + x) := by
  have h32 : 2 ^ t ≤ 16 := Nat.pow_le_pow_right (n := 2) (by decide) (show t ≤ 4 by omega)
  have key : ∀ m j g1, m + j = 2 ^ t → yAg dLy g g1 → (∀ i, i < t + 1 → xI g1 103 i = nI (yWt (t + 1) (6 * b + x) i)) → (∀ a, a < 2 ^ t → xI g1 102 a = nI (yHw (yWt t b) a t)) → (∀ s, s < j → xI g1 102 (2 ^ t + s) = nI (yHw (yWt t b) s t + (x + 1))) → ∃ g', xlim (S_X1_lay_16 (nI (x + 1)) (nI (2 ^ t))) (nI j, g1) = some g' ∧ yAg dLy g g' ∧ yPx g' (t + 1) (6 * b + x) := by
    intro m
    induction m with
    | zero =>
      intro j g1 hj y l1 l2 l3
      have : j = 2 ^ t := by omega
      subst this
      refine ⟨g1, xlim_end (if_pos (nI_le (Nat.le_refl _) (by omega))), y, l1, fun a ha => ?_⟩
      rw [yHw_kid ht hx ha]
      by_cases c : a < 2 ^ t
      · obtain ⟨e1, e2, -⟩ := yLay1 t ht a c
        rw [e1, e2, Nat.zero_mul, l2 a c]
        rfl
      · rw [Nat.pow_succ] at ha
        obtain ⟨s, rfl⟩ : ∃ s, a = 2 ^ t + s := ⟨a - 2 ^ t, by omega⟩
        obtain ⟨-, -, e3, e4, -⟩ := yLay1 t ht s (by omega)
        rw [e3, e4, Nat.one_mul, l3 s (by omega)]
    | succ m ih =>
      intro j g1 hj y l1 l2 l3
      have hj2 : j < 2 ^ t := by omega
      obtain ⟨-, -, -, -, e5⟩ := yLay1 t ht j hj2
      have st : S_X1_lay_16 (nI (x + 1)) (nI (2 ^ t)) (nI j, g1) = some (.inl (nI (j + 1), xWI g1 102 (2 ^ t + j) (nI (yHw (yWt t b) j t + (x + 1))))) := by
        unfold S_X1_lay_16
        simp only [if_neg (nI_ge hj2 (show 2 ^ t < 2 ^ 31 by omega)), r_orG, e5, xat_nI (show j < 32 by omega) (show (32 : Nat) < 2 ^ 31 by decide), l2 j hj2, nI_add, xput_nI (show 2 ^ t + j < 32 by omega) (show (32 : Nat) < 2 ^ 31 by decide), nI_1]
      obtain ⟨g', r1, r2⟩ := ih (j + 1) (xWI g1 102 (2 ^ t + j) (nI (yHw (yWt t b) j t + (x + 1)))) (by omega) (y.wi (Or.inl rfl)) (fun i hi => by rw [yI_wi, if_neg (by omega)]; exact l1 i hi) (fun a ha => by rw [yI_wi, if_neg (by omega)]; exact l2 a ha) (fun s hs => by
        rw [yI_wi]
        by_cases e : s = j
        · rw [if_pos ⟨rfl, by rw [e]⟩, e]
        · rw [if_neg (by omega)]; exact l3 s (by omega))
      exact ⟨g', (xlim_go st).trans r1, r2⟩
  obtain ⟨g', r1, r2⟩ := key (2 ^ t) 0 (xWI g 103 t (nI (x + 1))) (by omega) ((yAg.refl _ g).wi (Or.inr rfl)) (fun i hi => by
    rw [yI_wi, yWt_kid hx hi]
    by_cases e : i = t
    · rw [if_pos ⟨rfl, e⟩, if_pos e]
    · rw [if_neg (fun z => e z.2), if_neg e]; exact hp.1 i (by omega)) (fun a ha => by rw [yI_wi, if_neg (by omega)]; exact hp.2 a ha) (fun s hs => by omega)
  refine ⟨g', ?_, r2⟩
  unfold E_X1_lay
  rw [r_1shl t (by omega), xput_nI ht (by decide), show xlim (S_X1_lay_16 (nI (x + 1)) (nI (2 ^ t))) (0, _) = some g' from r1, xb1_some]
theorem yPx_down (hx : x < 6) (hp : yPx g (t + 1) (6 * b + x)) : yPx g t b := by
  refine ⟨fun j hj => ?_, fun a ha => ?_⟩
  · rw [hp.1 j (by omega), yWt_kid hx (by omega), if_neg (by omega)]
  · rw [hp.2 a (by rw [Nat.pow_succ]; omega)]
    congr 1
    rw [yHw_tp ha (Nat.le_succ t)]
    exact yHw_congr a t fun j hj => by rw [yWt_kid hx (by omega), if_neg (by omega)]
theorem yPx.ag {D : Nat → Nat → Prop} (h : yAg D g g') (h1 : ∀ k, ¬ D 103 k) (h2 : ∀ k, ¬ D 102 k) (q : yPx g t b) : yPx g' t b := ⟨fun j hj => (h.2 _ _ (h1 _)).trans (q.1 j hj), fun a ha => (h.2 _ _ (h2 _)).trans (q.2 a ha)⟩
theorem r_hi1 {a c : Nat} (h : (a ||| c) >>> t = 1) : a < 2 ^ (t + 1) ∧ c < 2 ^ (t + 1) := by
  have : (a ||| c) < 2 ^ (t + 1) := by
    rw [Nat.shiftRight_eq_div_pow] at h
    have := Nat.lt_mul_of_div_lt (show (a ||| c) / 2 ^ t < 2 by omega) (Nat.two_pow_pos t)
    rw [Nat.pow_succ]; omega
  exact ⟨Nat.lt_of_le_of_lt Nat.left_le_or this, Nat.lt_of_le_of_lt Nat.right_le_or this⟩
theorem r_holds (ht : t < 5) (hn : n ≤ 5) (hs : st ≤ 99) (hr : yRl n R rf rs rd) (hG : yGx g n st R rf rs rd Q qa qb) (hp : yPx g (t + 1) b) : E_X1_holds (nI t) g = some (if yHt st R rf rs rd (yWt (t + 1) b) (t + 1) t = true then 1 else 0) := by
  obtain ⟨q1, q2, q3, q4, q5, q6⟩ := hG
  have hR := hr.1
  have hpw : 2 ^ n ≤ 32 := Nat.pow_le_pow_right (n := 2) (by decide) hn
  have h32 : 2 ^ (t + 1) ≤ 32 := Nat.pow_le_pow_right (n := 2) (by decide) (show t + 1 ≤ 5 by omega)
  have step : ∀ i, i < R → S_X1_holds_2 (nI t) g (nI i) = if ((rf i ||| rs i) >>> t = 1 → yBl st (yHw (yWt (t + 1) b) (rf i) (t + 1)) (yHw (yWt (t + 1) b) (rs i) (t + 1)) = rd i) then some (.inl (nI (i + 1))) else some (.inr (.inl 0)) := by
    intro i hi
    obtain ⟨e1, e2, e3⟩ := q4 i hi
    obtain ⟨f1, f2, -, f4⟩ := hr.2 i hi
    have hor : rf i ||| rs i < 2 ^ 5 := Nat.or_lt_two_pow (by omega) (by omega)
    unfold S_X1_holds_2
    simp only [q3, if_neg (nI_ge hi (show R < 2 ^ 31 by omega)), xat_nI (show i < 60 by omega) (show (60 : Nat) < 2 ^ 31 by decide), e1, e2, r_orG, r_shr (show rf i ||| rs i < 2 ^ 31 by omega) (show t < 32 by omega)]
    have hsh := Nat.shiftRight_le (rf i ||| rs i) t
    by_cases c : (rf i ||| rs i) >>> t = 1
    · obtain ⟨l1, l2⟩ := r_hi1 c
      have X := yHw_le (w := yWt (t + 1) b) (c := 6) (rf i) (t + 1) (fun j _ => (yWt_i (t + 1) b j).2)
      have Y := yHw_le (w := yWt (t + 1) b) (c := 6) (rs i) (t + 1) (fun j _ => (yWt_i (t + 1) b j).2)
      have bl := (r_bl (show yHw (yWt (t + 1) b) (rf i) (t + 1) < 10000 by omega) (show yHw (yWt (t + 1) b) (rs i) (t + 1) < 10000 by omega) hs).1
      rw [if_pos (show nI _ = (1 : Int32) by rw [c]; rfl), xat_nI (show rf i < 32 by omega) (by decide), xat_nI (show rs i < 32 by omega) (by decide), hp.2 _ l1, hp.2 _ l2, q2]
      have hK : ∀ s, s ≤ 2 → K_X1_holds_87 (nI t) (nI i) (nI s) g = if s = rd i then some (.inl (nI (i + 1))) else some (.inr (.inl 0)) := by
        intro s hs
        unfold K_X1_holds_87
        rw [xat_nI (by omega) (by decide), e3, nI_1]
        by_cases z : s = rd i
        · rw [if_pos z, if_pos (by rw [z])]
        · rw [if_neg z, if_neg (fun y => z ((nI_eq (by omega) (by omega)).mp y))]
      have hb := yBl_le st (yHw (yWt (t + 1) b) (rf i) (t + 1)) (yHw (yWt (t + 1) b) (rs i) (t + 1))
      have hb2 := hK _ hb
      rw [← bl] at hb2
      have fin : (if yBl st (yHw (yWt (t + 1) b) (rf i) (t + 1)) (yHw (yWt (t + 1) b) (rs i) (t + 1)) = rd i then (some (Sum.inl (nI (i + 1))) : Option (Int32 ⊕ (Int32 ⊕ Unit))) else some (.inr (.inl 0))) = (if ((rf i ||| rs i) >>> t = 1 → yBl st (yHw (yWt (t + 1) b) (rf i) (t + 1)) (yHw (yWt (t + 1) b) (rs i) (t + 1)) = rd i) then some (.inl (nI (i + 1))) else some (.inr (.inl 0))) := by
        by_cases z : yBl st (yHw (yWt (t + 1) b) (rf i) (t + 1)) (yHw (yWt (t + 1) b) (rs i) (t + 1)) = rd i
        · rw [if_pos z, if_pos (fun _ => z)]
        · rw [if_neg z, if_neg (fun y => z (y c))]
      rw [← fin, ← hb2]
      split
      · split
        · rfl
        · rfl
      · rfl
    · rw [if_neg (show ¬ nI _ = (1 : Int32) from fun z => c ((nI_eq (by omega) (by decide)).mp (show _ = nI 1 from z))), if_pos (fun z => absurd z c), nI_1]
  obtain ⟨o1, o2⟩ := xlim_all (step := S_X1_holds_2 (nI t) g) (p := fun i => (rf i ||| rs i) >>> t = 1 → yBl st (yHw (yWt (t + 1) b) (rf i) (t + 1)) (yHw (yWt (t + 1) b) (rs i) (t + 1)) = rd i) (v := (0 : Int32)) (N := R) (fun i hi c => by rw [step i hi, if_pos c]) (fun i hi c => by rw [step i hi, if_neg c]) (by
    unfold S_X1_holds_2
    rw [q3]
    exact if_pos (nI_le (Nat.le_refl _) (by omega))) R 0 (by omega)
  unfold E_X1_holds
  by_cases c : yHt st R rf rs rd (yWt (t + 1) b) (t + 1) t = true
  · rw [if_pos c, show xlim (S_X1_holds_2 (nI t) g) 0 = some (.inr ()) from o1 (fun i _ hi => yHt_i.mp c i hi), xbs_inr]
  · rw [if_neg c, show xlim (S_X1_holds_2 (nI t) g) 0 = some (.inl 0) from o2 (fun z => c (yHt_i.mpr fun i hi => z i (Nat.zero_le _) hi)), xbs_inl]
/-! what is gathered of the rows that fit -/
def yMn (n : Nat) (P : List Nat) (t : Nat) : Nat := P.foldl (fun a v => min a (yWt n v t)) 7
def yMa (n : Nat) (P : List Nat) (t : Nat) : Nat := P.foldl (fun a v => max a (yWt n v t)) 0
def yCo (n st a c s : Nat) (P : List Nat) : Nat := (P.filter fun v => ySo n st v a c == s).length
def yAc (g : xSt) (n st : Nat) (P : List Nat) (Q : Nat) (qa qb : Nat → Nat) : Prop := xI g 98 11 = nI P.length ∧ (∀ j, j < n → (P ≠ [] → xI g 104 j = nI (yWt n (P.getD 0 0) j)) ∧ xI g 105 j = nI (yMn n P j) ∧ xI g 106 j = nI (yMa n P j)) ∧ ∀ i, i < Q → xI g 109 i = nI (yCo n st (qa i) (qb i) 1 P) ∧ xI g 110 i = nI (yCo n st (qa i) (qb i) 2 P)
theorem yAc.ag {D : Nat → Nat → Prop} (h : yAg D g g') (h1 : ¬ D 98 11) (h2 : ∀ o k, (104 ≤ o ∧ o ≤ 106) ∨ o = 109 ∨ o = 110 → ¬ D o k) (q : yAc g n st P Q qa qb) : yAc g' n st P Q qa qb := by
  obtain ⟨q1, q2, q3⟩ := q
  exact ⟨(h.2 _ _ h1).trans q1, fun j hj => ⟨fun z => (h.2 _ _ (h2 _ _ (by omega))).trans ((q2 j hj).1 z), (h.2 _ _ (h2 _ _ (by omega))).trans (q2 j hj).2.1, (h.2 _ _ (h2 _ _ (by omega))).trans (q2 j hj).2.2⟩, fun i hi => ⟨(h.2 _ _ (h2 _ _ (by omega))).trans (q3 i hi).1, (h.2 _ _ (h2 _ _ (by omega))).trans (q3 i hi).2⟩⟩
/-- the weights of a mask, less one -/
def yBx (u : Nat) : List Nat := (List.range 6).filter fun x => u.testBit x
def yLo (u : Nat) : Nat := (yBx u).getD 0 0 + 1
def yHu (u : Nat) : Nat → Nat
  | 0 => yLo u
  | w + 1 => if 1 ≤ w ∧ u.testBit (w - 1) = true then w else yHu u w
theorem yMk1 : ∀ u, u < 64 → u ≠ 0 → xlow (Int32.toInt64 (nI u)) + 1 = nI (yLo u) ∧ 1 ≤ yLo u ∧ yLo u ≤ 6 ∧ yHu u (yLo u) = yLo u ∧ yBx u ≠ [] ∧ yHu u 7 ≤ 6 ∧ 1 ≤ yHu u 7 := by decide +kernel
theorem yMk2 : ∀ u, u < 64 → ∀ w, w < 7 → 1 ≤ w → (if xbit (nI u) (nI w - 1) = 0 then nI (yHu u w) else nI w) = nI (yHu u (w + 1)) := by decide +kernel
theorem yMk3 : ∀ u, u < 64 → ∀ a, a < 8 → (yBx u).foldl (fun a x => min a (x + 1)) a = (if u = 0 then a else min a (yLo u)) ∧ (a < 7 → (yBx u).foldl (fun a x => max a (x + 1)) a = (if u = 0 then a else max a (yHu u 7))) := by decide +kernel
theorem yMk4 : ∀ u, u < 64 → xbci (nI u) = nI (yBx u).length ∧ (yBx u).length ≤ 6 := by decide +kernel
theorem yBx_bs {p : Nat → Bool} : yBx (yBs p 6) = (List.range 6).filter p := by
  unfold yBx
  refine List.filter_congr fun x hx => ?_
  rw [List.mem_range] at hx
  rw [Bool.eq_iff_iff, yBs_bit]
  exact ⟨fun z => z.2, fun z => ⟨hx, z⟩⟩
/-- the rows of a block of six by a mask -/
def yBl6 (u b : Nat) : List Nat := (yBx u).map fun x => 6 * b + x
theorem yFold_c {α : Type} (f : α → Nat) (c : Nat) : ∀ (l : List α) (a : Nat), l ≠ [] → (∀ x, x ∈ l → f x = c) → l.foldl (fun a x => min a (f x)) a = min a c ∧ l.foldl (fun a x => max a (f x)) a = max a c := by
  intro l
  induction l with
  | nil => intro a h; exact absurd rfl h
  | cons y l ih =>
    intro a _ h
    have hy := h y (List.mem_cons_self ..)
    simp only [List.foldl_cons, hy]
    by_cases e : l = []
    · subst e; exact ⟨rfl, rfl⟩
    · obtain ⟨i1, i2⟩ := ih (min a c) e (fun x hx => h x (List.mem_cons_of_mem _ hx))
      obtain ⟨i3, i4⟩ := ih (max a c) e (fun x hx => h x (List.mem_cons_of_mem _ hx))
      exact ⟨i1.trans (by omega), i4.trans (by omega)⟩
theorem yMn_le (P : List Nat) (j : Nat) : yMn n P j ≤ 7 := by
  unfold yMn
  have : ∀ (l : List Nat) a, a ≤ 7 → l.foldl (fun a v => min a (yWt n v j)) a ≤ 7 := by
    intro l
    induction l with
    | nil => intro a h; exact h
    | cons y l ih => intro a h; exact ih _ (show min a (yWt n y j) ≤ 7 by omega)
  exact this P 7 (by decide)
theorem yMa_le (P : List Nat) (j : Nat) : yMa n P j ≤ 6 := by
  unfold yMa
  have : ∀ (l : List Nat) a, a ≤ 6 → l.foldl (fun a v => max a (yWt n v j)) a ≤ 6 := by
    intro l
    induction l with
    | nil => intro a h; exact h
    | cons y l ih => intro a h; exact ih _ (show max a (yWt n y j) ≤ 6 by have := (yWt_i n y j).2; omega)
  exact this P 0 (by decide)
theorem yBl6_f {u : Nat} (hu : u < 64) (h0 : u ≠ 0) (hn : n = t + 1) {j : Nat} (hj : j < n) : yMn n (P ++ yBl6 u b) j = min (yMn n P j) (if j = t then yLo u else yWt t b j) ∧ yMa n (P ++ yBl6 u b) j = max (yMa n P j) (if j = t then yHu u 7 else yWt t b j) ∧ ((P ++ yBl6 u b).getD 0 0 = if P = [] then 6 * b + (yLo u - 1) else P.getD 0 0) := by
  subst hn
  obtain ⟨-, m2, m3, -, m5, -⟩ := yMk1 u hu h0
  have mem6 : ∀ x, x ∈ yBx u → x < 6 := fun x hx => List.mem_range.mp (List.mem_filter.mp hx).1
  have hmn := yMn_le (n := t + 1) P j
  have hma := yMa_le (n := t + 1) P j
  refine ⟨?_, ?_, ?_⟩
  · unfold yMn yBl6
    rw [List.foldl_append, List.foldl_map]
    by_cases e : j = t
    · rw [if_pos e]
      have : (yBx u).foldl (fun a x => min a (yWt (t + 1) (6 * b + x) j)) (yMn (t + 1) P j) = (yBx u).foldl (fun a x => min a (x + 1)) (yMn (t + 1) P j) := by
        have key : ∀ (l : List Nat) a, (∀ x, x ∈ l → x < 6) → l.foldl (fun a x => min a (yWt (t + 1) (6 * b + x) j)) a = l.foldl (fun a x => min a (x + 1)) a := by
          intro l
          induction l with
          | nil => intro a _; rfl
          | cons y l ih => intro a h; simp only [List.foldl_cons]; rw [yWt_kid (h y (List.mem_cons_self ..)) hj, if_pos e]; exact ih _ (fun x hx => h x (List.mem_cons_of_mem _ hx))
        exact key _ _ mem6
      refine this.trans ?_
      rw [(yMk3 u hu _ (by omega)).1, if_neg h0]; rfl
    · rw [if_neg e]
      exact (yFold_c (fun x => yWt (t + 1) (6 * b + x) j) (yWt t b j) (yBx u) _ m5 (fun x hx => by rw [yWt_kid (mem6 x hx) hj, if_neg e])).1
  · unfold yMa yBl6
    rw [List.foldl_append, List.foldl_map]
    by_cases e : j = t
    · rw [if_pos e]
      have : (yBx u).foldl (fun a x => max a (yWt (t + 1) (6 * b + x) j)) (yMa (t + 1) P j) = (yBx u).foldl (fun a x => max a (x + 1)) (yMa (t + 1) P j) := by
        have key : ∀ (l : List Nat) a, (∀ x, x ∈ l → x < 6) → l.foldl (fun a x => max a (yWt (t + 1) (6 * b + x) j)) a = l.foldl (fun a x => max a (x + 1)) a := by
          intro l
          induction l with
          | nil => intro a _; rfl
          | cons y l ih => intro a h; simp only [List.foldl_cons]; rw [yWt_kid (h y (List.mem_cons_self ..)) hj, if_pos e]; exact ih _ (fun x hx => h x (List.mem_cons_of_mem _ hx))
        exact key _ _ mem6
      refine this.trans ?_
      rw [(yMk3 u hu _ (by omega)).2 (by omega), if_neg h0]; rfl
    · rw [if_neg e]
      exact (yFold_c (fun x => yWt (t + 1) (6 * b + x) j) (yWt t b j) (yBx u) _ m5 (fun x hx => by rw [yWt_kid (mem6 x hx) hj, if_neg e])).2
  · cases P with
    | nil =>
      rw [if_pos rfl, List.nil_append]
      unfold yBl6 yLo
      cases hb : yBx u with
      | nil => exact absurd hb m5
      | cons y l => simp
    | cons y l => rw [if_neg (by simp)]; rfl
end LY
