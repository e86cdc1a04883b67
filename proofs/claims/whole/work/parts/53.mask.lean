/-! WEIGHTS that fit: the class's masks of the last thing's weights -/
theorem r_bl {x y st : Nat} (hx : x < 10000) (hy : y < 10000) (hs : st ≤ 99) : (if nI x - nI y ≤ nI st then (if -(nI x - nI y) ≤ nI st then (0 : Int32) else 2) else 1) = nI (yBl st x y) ∧ (if nI x - nI y ≤ nI st then (if -nI st ≤ nI x - nI y then (0 : Int32) else 2) else 1) = nI (yBl st x y) := by
  have e := r_diff hx hy
  have e1 : (-(nI x - nI y)).toInt = (y : Int) - x := by
    rw [Int32.toInt_neg, e]
    rw [Int.bmod_eq_of_le] <;> omega
  have e2 : (-nI st).toInt = -(st : Int) := by
    rw [Int32.toInt_neg, nI_toInt (by omega)]
    rw [Int.bmod_eq_of_le] <;> omega
  have k1 : nI x - nI y ≤ nI st ↔ (x : Int) - y ≤ st := by rw [Int32.le_iff_toInt_le, e, nI_toInt (by omega)]
  have k2 : -(nI x - nI y) ≤ nI st ↔ (y : Int) - x ≤ st := by rw [Int32.le_iff_toInt_le, e1, nI_toInt (by omega)]
  have k3 : -nI st ≤ nI x - nI y ↔ -(st : Int) ≤ x - y := by rw [Int32.le_iff_toInt_le, e, e2]
  unfold yBl
  by_cases c1 : y + st < x
  · have n1 : ¬ nI x - nI y ≤ nI st := fun z => by have := k1.mp z; omega
    rw [if_neg n1, if_neg n1, if_pos c1]; exact ⟨rfl, rfl⟩
  · have n1 : nI x - nI y ≤ nI st := k1.mpr (by omega)
    rw [if_pos n1, if_pos n1, if_neg c1]
    by_cases c2 : x + st < y
    · have n2 : ¬ -(nI x - nI y) ≤ nI st := fun z => by have := k2.mp z; omega
      have n3 : ¬ -nI st ≤ nI x - nI y := fun z => by have := k3.mp z; omega
      rw [if_neg n2, if_neg n3, if_pos c2]; exact ⟨rfl, rfl⟩
    · have n2 : -(nI x - nI y) ≤ nI st := k2.mpr (by omega)
      have n3 : -nI st ≤ nI x - nI y := k3.mpr (by omega)
      rw [if_pos n2, if_pos n3, if_neg c2]; exact ⟨rfl, rfl⟩
theorem yBs_of {u m : Nat} {p : Nat → Bool} (hu : u < 2 ^ m) (h : ∀ x, x < m → (u.testBit x = true ↔ p x = true)) : u = yBs p m := by
  refine Nat.eq_of_testBit_eq fun x => ?_
  rw [Bool.eq_iff_iff, yBs_bit]
  by_cases c : x < m
  · exact (h x c).trans ⟨fun z => ⟨c, z⟩, fun z => z.2⟩
  · have : u.testBit x = false := Nat.testBit_lt_two_pow (Nat.lt_of_lt_of_le hu (Nat.pow_le_pow_right (by decide) (by omega)))
    rw [this]
    exact ⟨fun z => (by cases z), fun z => absurd z.1 c⟩
theorem yUpc : ∀ j, j < 6 → 0 < j → ((1 : Int32) <<< (nI j &&& 31)) - 1 = nI (2 ^ j - 1) := by decide +kernel
theorem r_upTo (g : xSt) (i : Int32) : F_X1_upTo g i = nI (yBs (fun x => decide ((x : Int) + 1 ≤ i.toInt)) 6) := by
  unfold F_X1_upTo
  by_cases c1 : 0 < i
  · rw [if_pos c1]
    have c1' : 0 < i.toInt := by rw [Int32.lt_iff_toInt_lt] at c1; exact c1
    by_cases c2 : i < 6
    · rw [if_pos c2]
      have c2' : i.toInt < 6 := by rw [Int32.lt_iff_toInt_lt] at c2; exact c2
      obtain ⟨j, hj, rfl⟩ := nI_of (x := i) (fun z => by rw [Int32.lt_iff_toInt_lt] at z; have : (0 : Int32).toInt = 0 := rfl; omega)
      rw [nI_toInt hj] at c1' c2' ⊢
      rw [yUpc j (by omega) (by omega)]
      congr 1
      have hlt : 2 ^ j - 1 < 2 ^ 6 := by
        have := Nat.pow_lt_pow_right (a := 2) (by decide) (show j < 6 by omega)
        omega
      refine yBs_of hlt fun x hx => ?_
      rw [Nat.testBit_two_pow_sub_one, decide_eq_true_iff, decide_eq_true_iff]
      omega
    · rw [if_neg c2]
      have c2' : ¬ i.toInt < 6 := by rw [Int32.lt_iff_toInt_lt] at c2; exact c2
      show nI 63 = _
      congr 1
      refine yBs_of (by decide) fun x hx => ?_
      rw [show (63 : Nat) = 2 ^ 6 - 1 from rfl, Nat.testBit_two_pow_sub_one, decide_eq_true_iff, decide_eq_true_iff]
      omega
  · rw [if_neg c1]
    have c1' : ¬ 0 < i.toInt := by rw [Int32.lt_iff_toInt_lt] at c1; exact c1
    show nI 0 = _
    congr 1
    refine yBs_of (by decide) fun x hx => ?_
    rw [Nat.zero_testBit, decide_eq_true_iff]
    exact ⟨fun z => (by cases z), fun z => by omega⟩
theorem r_not6 : ∀ u, u < 64 → (63 : Int32) &&& (nI u ^^^ (-1)) = nI (63 - u) ∧ ∀ x, x < 6 → ((63 - u).testBit x = !(u.testBit x)) := by decide +kernel
theorem r_pack6 : ∀ u, u < 64 → ∀ d, d < 64 → ((nI u <<< ((6 : Int32) &&& 31)) ||| nI d) = nI (64 * u + d) := by
  have : ((List.range 64).all fun u => (List.range 64).all fun d => decide (((nI u <<< ((6 : Int32) &&& 31)) ||| nI d) = nI (64 * u + d))) = true := by decide +kernel
  intro u hu d hd
  simp only [List.all_eq_true, List.mem_range, decide_eq_true_eq] at this
  exact this u hu d hd
theorem r_un6 : ∀ u, u < 64 → ∀ d, d < 64 → (63 : Int32) &&& nI (64 * u + d) = nI d ∧ nI (64 * u + d) >>> ((6 : Int32) &&& 31) = nI u := by
  have : ((List.range 64).all fun u => (List.range 64).all fun d => decide ((63 : Int32) &&& nI (64 * u + d) = nI d ∧ nI (64 * u + d) >>> ((6 : Int32) &&& 31) = nI u)) = true := by decide +kernel
  intro u hu d hd
  simp only [List.all_eq_true, List.mem_range, decide_eq_true_eq] at this
  exact this u hu d hd
theorem yBs_not {p : Nat → Bool} : 63 - yBs p 6 = yBs (fun x => !(p x)) 6 := by
  have h : yBs p 6 < 64 := yBs_lt
  refine yBs_of (by omega) fun x hx => ?_
  rw [(r_not6 _ h).2 x hx, Bool.not_eq_true', Bool.not_eq_true']
  constructor
  · intro z
    exact Bool.eq_false_iff.mpr fun y => by
      have := yBs_bit.mpr ⟨hx, y⟩
      rw [this] at z; cases z
  · intro z
    exact Bool.eq_false_iff.mpr fun y => by
      have := (yBs_bit.mp y).2
      rw [z] at this; cases this
theorem yBs_and {p q : Nat → Bool} {m : Nat} : yBs p m &&& yBs q m = yBs (fun x => p x && q x) m := by
  refine yBs_of (Nat.lt_of_le_of_lt Nat.and_le_left yBs_lt) fun x hx => ?_
  rw [Nat.testBit_and, Bool.and_eq_true, Bool.and_eq_true, yBs_bit, yBs_bit]
  exact ⟨fun z => ⟨z.1.2, z.2.2⟩, fun z => ⟨⟨hx, z.1⟩, hx, z.2⟩⟩
/-- the prefix laid: t things' weights by number b -/
def yPx (g : xSt) (t b : Nat) : Prop := (∀ j, j < t → xI g 103 j = nI (yWt t b j)) ∧ ∀ a, a < 2 ^ t → xI g 102 a = nI (yHw (yWt t b) a t)
theorem r_bits : ∀ t, t < 5 → (nI (2 ^ t) ^^^ (-1)) = -1 - nI (2 ^ t) := by decide +kernel
/-- a heap without its thing t, by numbers -/
def yWo (a t : Nat) : Nat := a - a / 2 ^ t % 2 * 2 ^ t
theorem r_wo : ∀ t, t < 5 → ∀ a, a < 2 ^ (t + 1) → nI a &&& (((1 : Int32) <<< (nI t &&& 31)) ^^^ (-1)) = nI (yWo a t) ∧ yWo a t < 2 ^ t ∧ (∀ j, j < t → yWo a t / 2 ^ j % 2 = a / 2 ^ j % 2) ∧ (nI a &&& ((1 : Int32) <<< (nI t &&& 31)) = 0 ↔ a / 2 ^ t % 2 = 0) := by decide +kernel
theorem yHw_wo {w : Nat → Nat} {a b : Nat} : ∀ k, (∀ j, j < k → a / 2 ^ j % 2 = b / 2 ^ j % 2) → yHw w a k = yHw w b k := by
  intro k
  induction k with
  | zero => intro _; rfl
  | succ k ih => intro h; show yHw w a k + a / 2 ^ k % 2 * w k = yHw w b k + b / 2 ^ k % 2 * w k; rw [ih (fun j hj => h j (by omega)), h k (by omega)]
/-- what the balance says of two heaps if the last thing t weighs x + 1 -/
def ySx (st t b x a c : Nat) : Nat := yBl st (yHw (yWt (t + 1) (6 * b + x)) a (t + 1)) (yHw (yWt (t + 1) (6 * b + x)) c (t + 1))
theorem yHw_kid {t b x a : Nat} (ht : t < 5) (hx : x < 6) (ha : a < 2 ^ (t + 1)) : yHw (yWt (t + 1) (6 * b + x)) a (t + 1) = yHw (yWt t b) (yWo a t) t + a / 2 ^ t % 2 * (x + 1) := by
  show yHw (yWt (t + 1) (6 * b + x)) a t + a / 2 ^ t % 2 * yWt (t + 1) (6 * b + x) t = _
  rw [yWt_kid hx (Nat.lt_succ_self t), if_pos rfl]
  congr 1
  rw [yHw_congr a t (u := yWt t b) (fun j hj => by rw [yWt_kid hx (by omega), if_neg (by omega)])]
  exact yHw_wo t (fun j hj => ((r_wo t ht a ha).2.2.1 j hj).symm)
section FT
variable {g : xSt} {t b st : Nat}
theorem r_fitsOf (ht : t < 5) (hs : st ≤ 99) (h1 : xI g 98 1 = nI st) (hp : yPx g t b) {a c : Nat} (ha : a < 2 ^ (t + 1)) (hc : c < 2 ^ (t + 1)) (hac : a &&& c = 0) : E_X1_fitsOf (nI a) (nI c) (nI t) g = some (nI (64 * yBs (fun x => ySx st t b x a c == 2) 6 + yBs (fun x => ySx st t b x a c == 1) 6)) := by
  obtain ⟨a1, a2, a3, a4⟩ := r_wo t ht a ha
  obtain ⟨c1, c2, c3, c4⟩ := r_wo t ht c hc
  have h32 : 2 ^ t ≤ 16 := Nat.pow_le_pow_right (n := 2) (by decide) (show t ≤ 4 by omega)
  have X := yHw_le (w := yWt t b) (c := 6) (yWo a t) t (fun j _ => (yWt_i t b j).2)
  have Y := yHw_le (w := yWt t b) (c := 6) (yWo c t) t (fun j _ => (yWt_i t b j).2)
  have sa : xat (xI g 102) 32 (nI (yWo a t)) = nI (yHw (yWt t b) (yWo a t) t) := by rw [xat_nI (by omega) (by decide), hp.2 _ a2]
  have sc : xat (xI g 102) 32 (nI (yWo c t)) = nI (yHw (yWt t b) (yWo c t) t) := by rw [xat_nI (by omega) (by decide), hp.2 _ c2]
  have kx : ∀ x, x < 6 → ySx st t b x a c = yBl st (yHw (yWt t b) (yWo a t) t + a / 2 ^ t % 2 * (x + 1)) (yHw (yWt t b) (yWo c t) t + c / 2 ^ t % 2 * (x + 1)) := fun x hx => by unfold ySx; rw [yHw_kid ht hx ha, yHw_kid ht hx hc]
  have dis : ¬ (a / 2 ^ t % 2 = 1 ∧ c / 2 ^ t % 2 = 1) := fun z => by
    have e1 : a.testBit t = true := by rw [Nat.testBit_eq_decide_div_mod_eq, decide_eq_true_iff]; exact z.1
    have e2 : c.testBit t = true := by rw [Nat.testBit_eq_decide_div_mod_eq, decide_eq_true_iff]; exact z.2
    have e3 : (a &&& c).testBit t = true := by rw [Nat.testBit_and, e1, e2]; rfl
    rw [hac, Nat.zero_testBit] at e3; cases e3
  unfold E_X1_fitsOf K_X1_fitsOf_49 K_X1_fitsOf_67
  rw [a1, c1, sa, sc, h1]
  generalize hX : yHw (yWt t b) (yWo a t) t = x0 at *
  generalize hY : yHw (yWt t b) (yWo c t) t = y0 at *
  have e := r_diff (show x0 < 10000 by omega) (show y0 < 10000 by omega)
  have eN : (-(nI x0 - nI y0)).toInt = (y0 : Int) - x0 := by
    rw [Int32.toInt_neg, e]
    rw [Int.bmod_eq_of_le] <;> omega
  have sI : (nI st).toInt = (st : Int) := nI_toInt (by omega)
  have fin : ∀ p q : Nat → Bool, (∀ x, x < 6 → p x = (ySx st t b x a c == 2)) → (∀ x, x < 6 → q x = (ySx st t b x a c == 1)) → (nI (yBs p 6) <<< ((6 : Int32) &&& 31)) ||| nI (yBs q 6) = nI (64 * yBs (fun x => ySx st t b x a c == 2) 6 + yBs (fun x => ySx st t b x a c == 1) 6) := by
    intro p q hp hq
    rw [r_pack6 _ yBs_lt _ yBs_lt, yBs_congr hp, yBs_congr hq]
  have ten : ∀ P : Prop, ∀ s n : Nat, ∀ _ : Decidable P, (P ↔ s = n) → (decide P) = (s == n) := fun P s n _ h => by rw [Bool.eq_iff_iff, decide_eq_true_iff, beq_iff_eq]; exact h
  have z63 : ∀ p : Nat → Bool, (∀ x, x < 6 → p x = true) → (63 : Int32) = nI (yBs p 6) := fun p h => by
    show nI 63 = _
    congr 1
    exact yBs_of (by decide) fun x hx => by
      rw [show (63 : Nat) = 2 ^ 6 - 1 from rfl, Nat.testBit_two_pow_sub_one, decide_eq_true_iff]
      exact ⟨fun _ => h x hx, fun _ => hx⟩
  have z0 : ∀ p : Nat → Bool, (∀ x, x < 6 → p x = false) → (0 : Int32) = nI (yBs p 6) := fun p h => by
    show nI 0 = _
    congr 1
    exact yBs_of (by decide) fun x hx => by
      rw [Nat.zero_testBit, h x hx]
  by_cases ca : a / 2 ^ t % 2 = 0
  · rw [if_pos (a4.mpr ca)]
    by_cases cc : c / 2 ^ t % 2 = 0
    · rw [if_pos (c4.mpr cc)]
      have k0 : ∀ x, x < 6 → ySx st t b x a c = yBl st x0 y0 := fun x hx => by rw [kx x hx, ca, cc]; simp only [Nat.zero_mul, Nat.add_zero]
      have up : (if -(nI x0 - nI y0) ≤ nI st then (0 : Int32) else 63) = nI (yBs (fun x => ySx st t b x a c == 2) 6) := by
        by_cases z : x0 + st < y0
        · rw [if_neg (fun y => by rw [Int32.le_iff_toInt_le, eN, sI] at y; omega)]
          exact z63 _ fun x hx => by rw [k0 x hx]; unfold yBl; rw [if_neg (by omega), if_pos z]; rfl
        · rw [if_pos (by rw [Int32.le_iff_toInt_le, eN, sI]; omega)]
          exact z0 _ fun x hx => by rw [k0 x hx]; unfold yBl; rw [if_neg z]; split <;> rfl
      have dn : (if nI x0 - nI y0 ≤ nI st then (0 : Int32) else 63) = nI (yBs (fun x => ySx st t b x a c == 1) 6) := by
        by_cases z : y0 + st < x0
        · rw [if_neg (fun y => by rw [Int32.le_iff_toInt_le, e, sI] at y; omega)]
          exact z63 _ fun x hx => by rw [k0 x hx]; unfold yBl; rw [if_pos z]; rfl
        · rw [if_pos (by rw [Int32.le_iff_toInt_le, e, sI]; omega)]
          exact z0 _ fun x hx => by rw [k0 x hx]; unfold yBl; rw [if_neg z]; split <;> rfl
      rw [up, dn, fin _ _ (fun _ _ => rfl) (fun _ _ => rfl)]
    · have cc1 : c / 2 ^ t % 2 = 1 := by omega
      rw [if_neg (fun z => cc (c4.mp z)), r_upTo, r_upTo, (r_not6 _ yBs_lt).1, yBs_not]
      have k0 : ∀ x, x < 6 → ySx st t b x a c = yBl st x0 (y0 + (x + 1)) := fun x hx => by rw [kx x hx, ca, cc1]; simp only [Nat.zero_mul, Nat.one_mul, Nat.add_zero]
      have i1 : (nI st + (nI x0 - nI y0)).toInt = (st : Int) + (x0 - y0) := by
        rw [Int32.toInt_add, e, sI]
        rw [Int.bmod_eq_of_le] <;> omega
      have i2 : ((nI x0 - nI y0) - nI st - 1).toInt = ((x0 : Int) - y0) - st - 1 := by
        rw [Int32.toInt_sub, Int32.toInt_sub, e, sI, show (1 : Int32).toInt = 1 from rfl]
        rw [show ((x0 : Int) - y0 - st).bmod (2 ^ 32) = (x0 : Int) - y0 - st by rw [Int.bmod_eq_of_le] <;> omega]
        rw [Int.bmod_eq_of_le] <;> omega
      rw [i1, i2]
      refine congrArg some (fin _ _ (fun x hx => ?_) (fun x hx => ?_))
      · rw [k0 x hx, ← decide_not]
        refine ten _ _ _ _ ?_
        unfold yBl
        constructor
        · intro z; rw [if_neg (by omega), if_pos (by omega)]
        · intro z; split at z
          · cases z
          · split at z
            · omega
            · cases z
      · rw [k0 x hx]
        refine ten _ _ _ _ ?_
        unfold yBl
        constructor
        · intro z; rw [if_pos (by omega)]
        · intro z; split at z
          · omega
          · split at z <;> cases z
  · have ca1 : a / 2 ^ t % 2 = 1 := by omega
    have cc0 : c / 2 ^ t % 2 = 0 := by omega
    rw [if_neg (fun z => ca (a4.mp z)), r_upTo, r_upTo, (r_not6 _ yBs_lt).1, yBs_not]
    have k0 : ∀ x, x < 6 → ySx st t b x a c = yBl st (x0 + (x + 1)) y0 := fun x hx => by rw [kx x hx, ca1, cc0]; simp only [Nat.zero_mul, Nat.one_mul, Nat.add_zero]
    have i1 : (nI st - (nI x0 - nI y0)).toInt = (st : Int) - (x0 - y0) := by
      rw [Int32.toInt_sub, e, sI]
      rw [Int.bmod_eq_of_le] <;> omega
    have i2 : (-(nI x0 - nI y0) - nI st - 1).toInt = ((y0 : Int) - x0) - st - 1 := by
      rw [Int32.toInt_sub, Int32.toInt_sub, eN, sI, show (1 : Int32).toInt = 1 from rfl]
      rw [show ((y0 : Int) - x0 - st).bmod (2 ^ 32) = (y0 : Int) - x0 - st by rw [Int.bmod_eq_of_le] <;> omega]
      rw [Int.bmod_eq_of_le] <;> omega
    rw [i1, i2]
    refine congrArg some (fin _ _ (fun x hx => ?_) (fun x hx => ?_))
    · rw [k0 x hx]
      refine ten _ _ _ _ ?_
      unfold yBl
      constructor
      · intro z; rw [if_neg (by omega), if_pos (by omega)]
      · intro z; split at z
        · cases z
        · split at z
          · omega
          · cases z
    · rw [k0 x hx, ← decide_not]
      refine ten _ _ _ _ ?_
      unfold yBl
      constructor
      · intro z; rw [if_pos (by omega)]
      · intro z; split at z
        · omega
        · split at z <;> cases z
theorem r_fitting (ht : t < 5) (hs : st ≤ 99) (h1 : xI g 98 1 = nI st) (hp : yPx g t b) {a c s : Nat} (ha : a < 2 ^ (t + 1)) (hc : c < 2 ^ (t + 1)) (hac : a &&& c = 0) (hs2 : s ≤ 2) : E_X1_fitting (nI a) (nI c) (nI s) (nI t) g = some (nI (yBs (fun x => ySx st t b x a c == s) 6)) := by
  have U : yBs (fun x => ySx st t b x a c == 2) 6 < 64 := yBs_lt
  have D : yBs (fun x => ySx st t b x a c == 1) 6 < 64 := yBs_lt
  obtain ⟨u1, u2⟩ := r_un6 _ U _ D
  unfold E_X1_fitting
  rw [r_fitsOf ht hs h1 hp ha hc hac, xb1_some, u1, u2]
  have hs3 : s = 0 ∨ s = 1 ∨ s = 2 := by omega
  rcases hs3 with rfl | rfl | rfl
  · rw [if_neg (by decide), if_neg (by decide), (r_not6 _ D).1]
    have e : nI (63 - yBs (fun x => ySx st t b x a c == 1) 6) &&& (nI (yBs (fun x => ySx st t b x a c == 2) 6) ^^^ (-1)) = nI (63 - yBs (fun x => ySx st t b x a c == 1) 6) &&& (63 &&& (nI (yBs (fun x => ySx st t b x a c == 2) 6) ^^^ (-1))) := by
      have : ∀ u, u < 64 → ∀ y : Int32, nI u &&& y = nI u &&& (63 &&& y) := by
        intro u hu y
        rw [← Int32.and_assoc, show (63 : Int32) = nI 63 from rfl, r_andG, show (63 : Nat) = 2 ^ 6 - 1 from rfl, Nat.and_two_pow_sub_one_eq_mod, Nat.mod_eq_of_lt (by omega)]
      exact this _ (by omega) _
    rw [e, (r_not6 _ U).1, r_andG, yBs_not, yBs_not, yBs_and]
    refine congrArg (fun z => some (nI z)) (yBs_congr fun x hx => ?_)
    have := yBl_le st (yHw (yWt (t + 1) (6 * b + x)) a (t + 1)) (yHw (yWt (t + 1) (6 * b + x)) c (t + 1))
    have : ySx st t b x a c ≤ 2 := this
    generalize ySx st t b x a c = v at this
    have : v = 0 ∨ v = 1 ∨ v = 2 := by omega
    rcases this with rfl | rfl | rfl <;> rfl
  · rw [if_pos (by decide)]
  · rw [if_neg (by decide), if_pos (by decide)]
end FT
