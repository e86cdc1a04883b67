/-! ORDERS by their places: which places make an order; things swapped; some things put above all others -/
section OD
variable {n w : Nat} {d : Nat → Nat}
theorem yBase_lt {b : Nat} : ∀ {n : Nat} {D : Nat → Nat}, (∀ t, t < n → D t < b) → ySum (fun t => D t * b ^ t) n < b ^ n := by
  intro n
  induction n with
  | zero => intro D _; rw [Nat.pow_zero]; exact Nat.lt_succ_self 0
  | succ n ih =>
    intro D h
    have i1 := ih fun t ht => h t (by omega)
    have i2 : (D n + 1) * b ^ n ≤ b * b ^ n := Nat.mul_le_mul_right _ (h n (by omega))
    show ySum (fun t => D t * b ^ t) n + D n * b ^ n < b ^ (n + 1)
    rw [Nat.pow_succ, Nat.mul_comm (b ^ n) b]
    rw [Nat.succ_mul] at i2
    omega
theorem yBase_dg {b : Nat} : ∀ {n : Nat} {D : Nat → Nat}, (∀ t, t < n → D t < b) → ∀ t, t < n → ySum (fun t => D t * b ^ t) n / b ^ t % b = D t := by
  intro n
  induction n with
  | zero => intro D _ t ht; omega
  | succ n ih =>
    intro D h t ht
    have hb : 0 < b := by have := h t ht; omega
    have i1 := yBase_lt (b := b) (n := n) (D := D) fun t ht => h t (by omega)
    show (ySum (fun t => D t * b ^ t) n + D n * b ^ n) / b ^ t % b = D t
    by_cases e : t = n
    · subst e
      rw [Nat.mul_comm (D t) (b ^ t), Nat.add_mul_div_left _ _ (Nat.pow_pos hb), Nat.div_eq_of_lt i1, Nat.zero_add, Nat.mod_eq_of_lt (h t (by omega))]
    · have e2 : D n * b ^ n = b ^ t * (b * (D n * b ^ (n - t - 1))) := by
        have : b ^ n = b ^ t * (b * b ^ (n - t - 1)) := by
          rw [← Nat.pow_succ', ← Nat.pow_add]
          congr 1
          omega
        rw [this, Nat.mul_left_comm, Nat.mul_left_comm (D n) b]
      rw [e2, Nat.add_mul_div_left _ _ (Nat.pow_pos hb), Nat.add_mul_mod_self_left]
      exact ih (fun t ht => h t (by omega)) t (by omega)
def yPack (D : Nat → Nat) (n : Nat) : Nat := ySum (fun t => D t * 8 ^ t) n
theorem yPack_dg {D : Nat → Nat} (h : ∀ t, t < n → D t < 8) {t : Nat} (ht : t < n) : yDg (yPack D n) t = D t := yBase_dg h t ht
theorem ySum_ifc (a : Nat → Nat) (c : Nat) : ∀ n, ySum (fun o => if a o < c then 1 else 0) n = yCn (fun o => decide (a o < c)) n := by
  intro n
  induction n with
  | zero => rfl
  | succ n ih =>
    rw [yCn_succ, ← ih]
    show ySum (fun o => if a o < c then 1 else 0) n + (if a n < c then 1 else 0) = _
    by_cases e : a n < c
    · rw [if_pos e, if_pos (decide_eq_true e)]
    · rw [if_neg e, if_neg (show ¬ decide (a n < c) = true by rw [decide_eq_true_eq]; exact e)]
/-- places that make an order -/
def zOd (n w : Nat) (d : Nat → Nat) : Prop := ∀ t, t < n → yCn (fun o => decide (d o < d t)) n = d t ∧ (w = 1 ∨ ∀ o, o < n → o ≠ t → d o ≠ d t)
theorem zOd_is {v : Nat} : yIsO n w v = true ↔ zOd n w (yDg v) := by
  unfold yIsO zOd
  rw [List.all_eq_true]
  constructor
  · intro h t ht
    have q := h t (List.mem_range.mpr ht)
    rw [Bool.and_eq_true, beq_iff_eq, ySum_ifc, Bool.or_eq_true, beq_iff_eq, List.all_eq_true] at q
    refine ⟨q.1, q.2.imp id fun z o ho hne e => ?_⟩
    have := z o (List.mem_range.mpr ho)
    rw [Bool.or_eq_true, beq_iff_eq, Bool.not_eq_true', beq_eq_false_iff_ne] at this
    exact this.elim hne (fun y => y e)
  · intro h t ht
    obtain ⟨h1, h2⟩ := h t (List.mem_range.mp ht)
    rw [Bool.and_eq_true, beq_iff_eq, ySum_ifc, Bool.or_eq_true, beq_iff_eq, List.all_eq_true]
    refine ⟨h1, h2.imp id fun z o ho => ?_⟩
    rw [Bool.or_eq_true, beq_iff_eq, Bool.not_eq_true', beq_eq_false_iff_ne]
    by_cases e : o = t
    · exact Or.inl e
    · exact Or.inr (z o (List.mem_range.mp ho) e)
theorem zOd_lt (h : zOd n w d) {t : Nat} (ht : t < n) : d t < n := by
  have e := (h t ht).1
  have := yCn_lt (p := fun o => decide (d o < d t)) (q := fun _ => true) (m := n) (u := t) (fun _ _ _ => rfl) ht (by rw [decide_eq_true_eq]; omega) rfl
  rw [e, yCn_all.mpr (fun _ _ => rfl)] at this
  exact this
theorem zOd_cg {d' : Nat → Nat} (h : zOd n w d) (e : ∀ t, t < n → d' t = d t) : zOd n w d' := fun t ht => by
  obtain ⟨h1, h2⟩ := h t ht
  refine ⟨?_, h2.imp id fun z o ho hne => by rw [e o ho, e t ht]; exact z o ho hne⟩
  rw [e t ht]
  exact (yCn_congr fun o ho => by rw [e o ho]).trans h1
/-- such places are an order's -/
theorem zOd_mem (hn : n ≤ 5) (h : zOd n w d) : ∃ i, i < yN n w ∧ ∀ t, t < n → yDg (yOr n w i) t = d t := by
  have dg : ∀ t, t < n → yDg (yPack d n) t = d t := fun t ht => yPack_dg (fun t ht => by have := zOd_lt h ht; omega) ht
  have is : yIsO n w (yPack d n) = true := zOd_is.mpr (zOd_cg h dg)
  have mem : yPack d n ∈ yO n w := by
    unfold yO yOB
    have l : ySum (fun u => d (n - 1 - u) * n ^ u) n < n ^ n := yBase_lt (b := n) (n := n) (D := fun u => d (n - 1 - u)) fun u hu => zOd_lt h (by omega)
    refine List.mem_filter.mpr ⟨List.mem_map.mpr ⟨ySum (fun u => d (n - 1 - u) * n ^ u) n, List.mem_range.mpr l, ?_⟩, is⟩
    unfold yPk yPack
    refine ySum_congr fun t ht => ?_
    have this : ySum (fun u => d (n - 1 - u) * n ^ u) n / n ^ (n - 1 - t) % n = d (n - 1 - (n - 1 - t)) := yBase_dg (b := n) (n := n) (D := fun u => d (n - 1 - u)) (fun u hu => zOd_lt h (by omega)) (n - 1 - t) (by omega)
    rw [this, show n - 1 - (n - 1 - t) = t by omega]
  obtain ⟨i, hi, e⟩ := List.getElem_of_mem mem
  refine ⟨i, hi, fun t ht => ?_⟩
  unfold yOr
  rw [yGet hi, e]
  exact dg t ht
theorem zOd_or {i : Nat} (hi : i < yN n w) : zOd n w (yDg (yOr n w i)) := by
  have := yOr_mem hi
  unfold yO yOB at this
  exact zOd_is.mp (List.mem_filter.mp this).2
/-! two things swapped -/
def zSw (a b t : Nat) : Nat := if t = a then b else if t = b then a else t
theorem zSw_lt {a b t : Nat} (ha : a < n) (hb : b < n) (ht : t < n) : zSw a b t < n := by unfold zSw; split <;> (try split) <;> omega
theorem zSw_2 (a b t : Nat) : zSw a b (zSw a b t) = t := by
  unfold zSw
  by_cases h1 : t = a
  · rw [if_pos h1]
    by_cases h2 : b = a
    · rw [if_pos h2, h1, h2]
    · rw [if_neg h2, if_pos rfl, h1]
  · rw [if_neg h1]
    by_cases h2 : t = b
    · rw [if_pos h2, if_pos rfl, h2]
    · rw [if_neg h2, if_neg h1, if_neg h2]
theorem zSw_inj {a b t u : Nat} (h : zSw a b t = zSw a b u) : t = u := by
  have := congrArg (zSw a b) h
  rw [zSw_2, zSw_2] at this
  exact this
theorem yCn_sw {a b : Nat} (ha : a < n) (hb : b < n) (p : Nat → Bool) : yCn (fun o => p (zSw a b o)) n = yCn p n := Nat.le_antisymm (yCn_inj (zSw a b) n _ _ (fun i hi pi => ⟨zSw_lt ha hb hi, pi⟩) (fun i j _ _ _ _ e => zSw_inj e)) (yCn_inj (zSw a b) n _ _ (fun i hi pi => ⟨zSw_lt ha hb hi, by
  show p (zSw a b (zSw a b i)) = true
  rw [zSw_2]; exact pi⟩) (fun i j _ _ _ _ e => zSw_inj e))
theorem zOd_sw {a b : Nat} (ha : a < n) (hb : b < n) (h : zOd n w d) : zOd n w (fun t => d (zSw a b t)) := fun t ht => by
  obtain ⟨h1, h2⟩ := h _ (zSw_lt ha hb ht)
  refine ⟨?_, h2.imp id fun z o ho hne => z _ (zSw_lt ha hb ho) fun e => hne (zSw_inj e)⟩
  exact (yCn_sw ha hb (fun o => decide (d o < d (zSw a b t)))).trans h1
/-! the things of C put above all others -/
def zUp (d : Nat → Nat) (n : Nat) (C : Nat → Bool) (t : Nat) : Nat := if C t then yCn (fun u => C u && decide (d u < d t)) n else yCn C n + yCn (fun u => !(C u) && decide (d u < d t)) n
theorem zUp_lt {C : Nat → Bool} {o t : Nat} (ho : o < n) (ht : t < n) : zUp d n C o < zUp d n C t ↔ (C o = C t ∧ d o < d t) ∨ (C o = true ∧ C t = false) := by
  unfold zUp
  by_cases c1 : C o = true
  · rw [if_pos c1]
    by_cases c2 : C t = true
    · rw [if_pos c2]
      constructor
      · intro z
        refine Or.inl ⟨c1.trans c2.symm, Decidable.byContradiction fun y => ?_⟩
        have := yCn_mono (p := fun u => C u && decide (d u < d t)) (q := fun u => C u && decide (d u < d o)) (m := n) fun u _ q => by
          rw [Bool.and_eq_true, decide_eq_true_eq] at q ⊢
          exact ⟨q.1, by omega⟩
        omega
      · rintro (⟨-, z⟩ | ⟨-, z⟩)
        · refine yCn_lt (u := o) (fun u _ q => ?_) ho ?_ ?_
          · rw [Bool.and_eq_true, decide_eq_true_eq] at q ⊢
            exact ⟨q.1, by omega⟩
          · rw [Bool.and_eq_true, decide_eq_true_eq]; omega
          · rw [Bool.and_eq_true, decide_eq_true_eq]; exact ⟨c1, z⟩
        · rw [c2] at z; cases z
    · rw [if_neg c2]
      refine ⟨fun _ => Or.inr ⟨c1, Bool.eq_false_iff.mpr c2⟩, fun _ => ?_⟩
      have : yCn (fun u => C u && decide (d u < d o)) n < yCn C n := yCn_lt (u := o) (fun u _ q => by rw [Bool.and_eq_true] at q; exact q.1) ho (by rw [Bool.and_eq_true, decide_eq_true_eq]; omega) c1
      omega
  · rw [if_neg c1]
    by_cases c2 : C t = true
    · rw [if_pos c2]
      constructor
      · intro z
        have : yCn (fun u => C u && decide (d u < d t)) n ≤ yCn C n := yCn_mono fun u _ q => by rw [Bool.and_eq_true] at q; exact q.1
        omega
      · rintro (⟨z, -⟩ | ⟨z, -⟩)
        · exact absurd (z.trans c2) c1
        · exact absurd z c1
    · rw [if_neg c2]
      constructor
      · intro z
        refine Or.inl ⟨by rw [Bool.eq_false_iff.mpr c1, Bool.eq_false_iff.mpr c2], Decidable.byContradiction fun y => ?_⟩
        have := yCn_mono (p := fun u => !(C u) && decide (d u < d t)) (q := fun u => !(C u) && decide (d u < d o)) (m := n) fun u _ q => by
          rw [Bool.and_eq_true, decide_eq_true_eq] at q ⊢
          exact ⟨q.1, by omega⟩
        omega
      · rintro (⟨-, z⟩ | ⟨z, -⟩)
        · have := yCn_lt (p := fun u => !(C u) && decide (d u < d o)) (q := fun u => !(C u) && decide (d u < d t)) (m := n) (u := o) (fun u _ q => by
            rw [Bool.and_eq_true, decide_eq_true_eq] at q ⊢
            exact ⟨q.1, by omega⟩) ho (by rw [Bool.and_eq_true, decide_eq_true_eq]; omega) (by rw [Bool.and_eq_true, decide_eq_true_eq, Bool.not_eq_true']; exact ⟨Bool.eq_false_iff.mpr c1, z⟩)
          omega
        · exact absurd z c1
theorem zUp_eq {C : Nat → Bool} {o t : Nat} (ho : o < n) (ht : t < n) (e : zUp d n C o = zUp d n C t) : d o = d t ∧ C o = C t := by
  have h1 : ¬ zUp d n C o < zUp d n C t := by omega
  have h2 : ¬ zUp d n C t < zUp d n C o := by omega
  rw [zUp_lt ho ht] at h1
  rw [zUp_lt ht ho] at h2
  cases c1 : C o <;> cases c2 : C t <;> rw [c1, c2] at h1 h2
  · exact ⟨by have : ¬ d o < d t := fun z => h1 (Or.inl ⟨rfl, z⟩); have : ¬ d t < d o := fun z => h2 (Or.inl ⟨rfl, z⟩); omega, rfl⟩
  · exact absurd (Or.inr ⟨rfl, rfl⟩) h2
  · exact absurd (Or.inr ⟨rfl, rfl⟩) h1
  · exact ⟨by have : ¬ d o < d t := fun z => h1 (Or.inl ⟨rfl, z⟩); have : ¬ d t < d o := fun z => h2 (Or.inl ⟨rfl, z⟩); omega, rfl⟩
theorem zOd_up (C : Nat → Bool) (h : zOd n w d) : zOd n w (zUp d n C) := fun t ht => by
  refine ⟨?_, (h t ht).2.imp id fun z o ho hne e => z o ho hne (zUp_eq ho ht e).1⟩
  have e : yCn (fun o => decide (zUp d n C o < zUp d n C t)) n = yCn (fun o => decide ((C o = C t ∧ d o < d t) ∨ (C o = true ∧ C t = false))) n := yCn_congr fun o ho => by rw [decide_eq_decide]; exact zUp_lt ho ht
  rw [e]
  unfold zUp
  by_cases c : C t = true
  · rw [if_pos c]
    refine yCn_congr fun o ho => ?_
    rw [c]
    cases C o <;> simp
  · have c' := Bool.eq_false_iff.mpr c
    rw [if_neg c]
    refine yCn_add fun o ho => ?_
    rw [c']
    cases C o <;> simp
/-- on either side of the others its place differs -/
theorem zUp_ne {C : Nat → Bool} (h1 : ∃ t, t < n ∧ C t = true) (h2 : ∃ t, t < n ∧ C t = false) (t : Nat) : zUp d n C t ≠ zUp d n (fun u => !(C u)) t := by
  have p1 : 0 < yCn C n := yCn_pos.mpr h1
  have p2 : 0 < yCn (fun u => !(C u)) n := yCn_pos.mpr (h2.imp fun t q => ⟨q.1, by rw [q.2]; rfl⟩)
  unfold zUp
  simp only [Bool.not_not]
  cases C t
  · show yCn C n + yCn (fun u => !(C u) && decide (d u < d t)) n ≠ yCn (fun u => !(C u) && decide (d u < d t)) n
    omega
  · show yCn (fun u => C u && decide (d u < d t)) n ≠ yCn (fun u => !(C u)) n + yCn (fun u => C u && decide (d u < d t)) n
    omega
theorem zUp_sf {C : Nat → Bool} {a b : Nat} (ha : a < n) (hb : b < n) (h : C a = C b) : ySf (zUp d n C) a b = ySf d a b := by
  have q : ∀ o t, o < n → t < n → C o = C t → (zUp d n C o < zUp d n C t ↔ d o < d t) := fun o t ho ht e => (zUp_lt ho ht).trans ⟨fun z => z.elim (fun y => y.2) (fun y => by have z1 := y.1; have z2 := y.2; rw [e, z2] at z1; cases z1), fun z => Or.inl ⟨e, z⟩⟩
  unfold ySf
  by_cases c1 : d a < d b
  · rw [if_pos c1, if_pos ((q a b ha hb h).mpr c1)]
  · rw [if_neg c1, if_neg (fun z => c1 ((q a b ha hb h).mp z))]
    by_cases c2 : d b < d a
    · rw [if_pos c2, if_pos ((q b a hb ha h.symm).mpr c2)]
    · rw [if_neg c2, if_neg (fun z => c2 ((q b a hb ha h.symm).mp z))]
/-- places are told by what the balance says -/
theorem zOd_sf {d' : Nat → Nat} (h : zOd n w d) (h' : zOd n w d') (e : ∀ a b, a < b → b < n → ySf d a b = ySf d' a b) {t : Nat} (ht : t < n) : d t = d' t := by
  have lt : ∀ a b, a < n → b < n → (d a < d b ↔ d' a < d' b) := fun a b ha hb => by
    have s1 : ∀ f : Nat → Nat, ySf f a b = 1 ↔ f a < f b := fun f => by
      unfold ySf
      constructor
      · intro z
        refine Decidable.byContradiction fun y => ?_
        rw [if_neg y] at z
        split at z <;> omega
      · intro z; rw [if_pos z]
    have s2 : ∀ f : Nat → Nat, ySf f b a = 2 ↔ f a < f b := fun f => by
      unfold ySf
      constructor
      · intro z
        refine Decidable.byContradiction fun y => ?_
        by_cases q : f b < f a
        · rw [if_pos q] at z; omega
        · rw [if_neg q, if_neg y] at z; omega
      · intro z; rw [if_neg (by omega), if_pos z]
    rcases Nat.lt_trichotomy a b with c | c | c
    · rw [← s1 d, ← s1 d', e a b c hb]
    · subst c; omega
    · rw [← s2 d, ← s2 d', e b a c ha]
  exact (h t ht).1.symm.trans ((yCn_congr fun o ho => by rw [decide_eq_decide]; exact lt o t ho ht).trans (h' t ht).1)
end OD
