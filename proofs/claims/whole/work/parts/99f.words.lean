/-! THE REFERENCE'S TABLE is never full: sets of orders as words, how many there are -/
section WD
variable {n w c P N x x' x0 p : Nat} {mk V : Nat → Nat} {γ : Nat → Int32} {S S' : Nat → Bool}
def zTri : Nat := 18205994057513337889
def zPat : Nat := 7842684994593
def zDg4 (w p : Nat) : Nat := w / 4 ^ p % 4
def zOkw (n w p v : Nat) : Bool := (List.range (zAB n p).1).all fun x => zTri.testBit (zDg4 w (yPr n x (zAB n p).1) + 4 * zDg4 w (yPr n x (zAB n p).2) + 16 * v)
def zFc (f : Nat → Nat) : Nat → Nat
  | 0 => f 0
  | k + 1 => f (k + 1)
theorem zFc_eq (f : Nat → Nat) (k : Nat) : zFc f k = f k := by cases k <;> rfl
/-- how many words go on from w -/
def zCw (n : Nat) : Nat → Nat → Nat → Nat
  | 0, _, _ => 1
  | m + 1, p, w => (if zOkw n w p 0 then zFc (zCw n m (p + 1)) (w + 0 * 4 ^ p) else 0) + (if zOkw n w p 1 then zFc (zCw n m (p + 1)) (w + 1 * 4 ^ p) else 0) + (if zOkw n w p 2 then zFc (zCw n m (p + 1)) (w + 2 * 4 ^ p) else 0) + (if zOkw n w p 3 then zFc (zCw n m (p + 1)) (w + 3 * 4 ^ p) else 0)
set_option maxRecDepth 100000 in
theorem zCw_n : ∀ n, n < 6 → zCw n (n * (n - 1) / 2) 0 0 < 16384 := by decide +kernel
theorem yCn_or4 {q q0 q1 q2 q3 : Nat → Bool} {m : Nat} (h : ∀ o, o < m → q o = true → q0 o = true ∨ q1 o = true ∨ q2 o = true ∨ q3 o = true) : yCn q m ≤ yCn q0 m + yCn q1 m + yCn q2 m + yCn q3 m := by
  induction m with
  | zero => exact Nat.zero_le _
  | succ m ih =>
    have := ih fun o ho => h o (by omega)
    rw [yCn_succ, yCn_succ, yCn_succ, yCn_succ, yCn_succ]
    by_cases d : q m = true
    · rcases h m (by omega) d with e | e | e | e <;> rw [if_pos d, if_pos e] <;> omega
    · rw [if_neg d]; omega
def zGw4 (n w : Nat) : Prop := ∀ p, p < n * (n - 1) / 2 → zOkw n w p (zDg4 w p) = true
theorem zDg4_mod {u q : Nat} (hq : q < p) : zDg4 (u % 4 ^ p) q = zDg4 u q := by
  unfold zDg4
  have e : 4 ^ p = 4 ^ q * (4 * 4 ^ (p - q - 1)) := by
    rw [← Nat.pow_succ', ← Nat.pow_add]
    congr 1
    omega
  rw [e, Nat.mod_mul_right_div_self, Nat.mod_mul_right_mod]
theorem yPr_lt2 : ∀ n, n < 6 → ∀ p, p < n * (n - 1) / 2 → ∀ x, x < (zAB n p).1 → yPr n x (zAB n p).1 < p ∧ yPr n x (zAB n p).2 < p := by decide +kernel
theorem zOkw_mod {u v : Nat} (hn : n < 6) (hp : p < n * (n - 1) / 2) : zOkw n (u % 4 ^ p) p v = zOkw n u p v := by
  unfold zOkw
  rw [Bool.eq_iff_iff, List.all_eq_true, List.all_eq_true]
  have e : ∀ x, x ∈ List.range (zAB n p).1 → zDg4 (u % 4 ^ p) (yPr n x (zAB n p).1) = zDg4 u (yPr n x (zAB n p).1) ∧ zDg4 (u % 4 ^ p) (yPr n x (zAB n p).2) = zDg4 u (yPr n x (zAB n p).2) := fun x hx => by
    obtain ⟨l1, l2⟩ := yPr_lt2 n hn p hp x (List.mem_range.mp hx)
    exact ⟨zDg4_mod l1, zDg4_mod l2⟩
  constructor
  · intro h x hx
    have := h x hx
    rw [(e x hx).1, (e x hx).2] at this
    exact this
  · intro h x hx
    rw [(e x hx).1, (e x hx).2]
    exact h x hx
/-- no more words than are counted -/
theorem zCw_le {W : Nat → Nat} (hn : n < 6) : ∀ (m p w : Nat) (q : Nat → Bool), m + p = n * (n - 1) / 2 → (∀ k, k < N → q k = true → W k % 4 ^ p = w ∧ W k < 4 ^ (n * (n - 1) / 2) ∧ zGw4 n (W k)) → (∀ i j, i < N → j < N → q i = true → q j = true → W i = W j → i = j) → yCn q N ≤ zCw n m p w := by
  intro m
  induction m with
  | zero =>
    intro p w q hp h hi
    have hp : p = n * (n - 1) / 2 := by omega
    subst hp
    refine yCn_inj (c' := 1) (fun _ => 0) N q (fun _ => true) (fun i _ _ => ⟨by decide, rfl⟩) (fun i j a b pi pj _ => hi i j a b pi pj ?_)
    obtain ⟨e1, l1, -⟩ := h i a pi
    obtain ⟨e2, l2, -⟩ := h j b pj
    rw [Nat.mod_eq_of_lt l1] at e1
    rw [Nat.mod_eq_of_lt l2] at e2
    rw [e1, e2]
  | succ m ih =>
    intro p w q hp h hi
    have part : ∀ v, v < 4 → yCn (fun k => q k && (zDg4 (W k) p == v)) N ≤ if zOkw n w p v then zFc (zCw n m (p + 1)) (w + v * 4 ^ p) else 0 := fun v hv => by
      by_cases d : zOkw n w p v = true
      · rw [if_pos d, zFc_eq]
        refine ih (p + 1) (w + v * 4 ^ p) _ (by omega) (fun k hk z => ?_) (fun i j a b pi pj => ?_)
        · rw [Bool.and_eq_true, beq_iff_eq] at z
          obtain ⟨e1, l1, g1⟩ := h k hk z.1
          refine ⟨?_, l1, g1⟩
          rw [Nat.mod_pow_succ, e1, show W k / 4 ^ p % 4 = v from z.2, Nat.mul_comm]
        · rw [Bool.and_eq_true] at pi pj
          exact hi i j a b pi.1 pj.1
      · rw [if_neg d, yCn_zero.mpr (fun k hk z => ?_)]
        · exact Nat.le_refl 0
        · rw [Bool.and_eq_true, beq_iff_eq] at z
          obtain ⟨e1, l1, g1⟩ := h k hk z.1
          have := g1 p (by omega)
          rw [z.2, ← zOkw_mod hn (by omega), e1] at this
          exact d this
    have le := yCn_or4 (q := q) (q0 := fun k => q k && (zDg4 (W k) p == 0)) (q1 := fun k => q k && (zDg4 (W k) p == 1)) (q2 := fun k => q k && (zDg4 (W k) p == 2)) (q3 := fun k => q k && (zDg4 (W k) p == 3)) (m := N) fun k _ z => by
      have l : zDg4 (W k) p < 4 := Nat.mod_lt _ (by decide)
      simp only [z, Bool.true_and, beq_iff_eq]
      omega
    have p0 := part 0 (by decide)
    have p1 := part 1 (by decide)
    have p2 := part 2 (by decide)
    have p3 := part 3 (by decide)
    show yCn q N ≤ (if zOkw n w p 0 then zFc (zCw n m (p + 1)) (w + 0 * 4 ^ p) else 0) + (if zOkw n w p 1 then zFc (zCw n m (p + 1)) (w + 1 * 4 ^ p) else 0) + (if zOkw n w p 2 then zFc (zCw n m (p + 1)) (w + 2 * 4 ^ p) else 0) + (if zOkw n w p 3 then zFc (zCw n m (p + 1)) (w + 3 * 4 ^ p) else 0)
    omega
/-! a set's word -/
def zUn (c : Nat) (mk : Nat → Nat) (S : Nat → Bool) (p s : Nat) : Prop := ∀ i, i < c → S i = true → (mk i).testBit (10 * s + p) = true
noncomputable def zEd (c : Nat) (mk : Nat → Nat) (S : Nat → Bool) (p : Nat) : Nat := @ite _ (zUn c mk S p 0) (Classical.propDecidable _) 0 (@ite _ (zUn c mk S p 1) (Classical.propDecidable _) 1 (@ite _ (zUn c mk S p 2) (Classical.propDecidable _) 2 3))
theorem zEd_1 : zEd c mk S p < 4 ∧ (zEd c mk S p < 3 → zUn c mk S p (zEd c mk S p)) := by
  unfold zEd
  by_cases d0 : zUn c mk S p 0
  · rw [if_pos d0]; exact ⟨by decide, fun _ => d0⟩
  · rw [if_neg d0]
    by_cases d1 : zUn c mk S p 1
    · rw [if_pos d1]; exact ⟨by decide, fun _ => d1⟩
    · rw [if_neg d1]
      by_cases d2 : zUn c mk S p 2
      · rw [if_pos d2]; exact ⟨by decide, fun _ => d2⟩
      · rw [if_neg d2]; exact ⟨by decide, fun z => absurd z (by decide)⟩
theorem zEd_3 {s : Nat} (hs : s < 3) (h : zUn c mk S p s) : zEd c mk S p < 3 := by
  unfold zEd
  by_cases d0 : zUn c mk S p 0
  · rw [if_pos d0]; decide
  · rw [if_neg d0]
    by_cases d1 : zUn c mk S p 1
    · rw [if_pos d1]; decide
    · rw [if_neg d1]
      by_cases d2 : zUn c mk S p 2
      · rw [if_pos d2]; decide
      · have : s = 0 ∨ s = 1 ∨ s = 2 := by omega
        rcases this with e | e | e <;> subst e
        · exact absurd h d0
        · exact absurd h d1
        · exact absurd h d2
noncomputable def zAw (P c : Nat) (mk : Nat → Nat) (S : Nat → Bool) : Nat := ySum (fun p => zEd c mk S p * 4 ^ p) P
theorem zAw_dg (hp : p < P) : zDg4 (zAw P c mk S) p = zEd c mk S p := yBase_dg (b := 4) (fun _ _ => zEd_1.1) p hp
theorem zAw_lt : zAw P c mk S < 4 ^ P := yBase_lt (b := 4) (fun _ _ => zEd_1.1)
/-- sets told apart by their words -/
theorem zAw_inj (ho : zOne P c mk) (h : zCl P c mk x0 x S) (h' : zCl P c mk x0 x' S') (ne : ∃ i, i < c ∧ S i = true) (ne' : ∃ i, i < c ∧ S' i = true) (e : zAw P c mk S = zAw P c mk S') : ∀ i, i < c → S i = S' i := by
  have sub : ∀ (x : Nat) (S S' : Nat → Bool), zCl P c mk x0 x S → (∃ i, i < c ∧ S i = true) → (∃ i, i < c ∧ S' i = true) → (∀ p, p < P → zEd c mk S p = zEd c mk S' p) → ∀ i, i < c → S' i = true → S i = true := fun x S S' h ne ne' e i hi si => by
    obtain ⟨h0, h1, τ, h2, h3⟩ := h
    refine (h3 i hi).mpr fun q hq z => ?_
    have un : zUn c mk S q (τ q) := fun j hj sj => (h3 j hj).mp sj q hq z
    have l := zEd_3 (h2 q hq) un
    have u1 := zEd_1.2 l
    obtain ⟨j, hj, sj⟩ := ne
    obtain ⟨s, hs, o⟩ := ho j hj q hq
    have e1 := (o _ (h2 q hq)).mp (un j hj sj)
    have e2 := (o _ l).mp (u1 j hj sj)
    have l' := l
    rw [e q hq] at l'
    have u2 := zEd_1.2 l' i hi si
    rw [← e q hq, e2, ← e1] at u2
    exact u2
  have ed : ∀ p, p < P → zEd c mk S p = zEd c mk S' p := fun p hp => by rw [← zAw_dg hp, ← zAw_dg (S := S') hp, e]
  intro i hi
  rw [Bool.eq_iff_iff]
  exact ⟨fun z => sub x' S' S h' ne' ne (fun p hp => (ed p hp).symm) i hi z, fun z => sub x S S' h ne ne' ed i hi z⟩
theorem zPat_ok (d : Nat → Nat) (x y z : Nat) : zPat.testBit (ySf d x y + 4 * ySf d x z + 16 * ySf d y z) = true := by
  have h1 : ySf d x y = 0 ∧ d x = d y ∨ ySf d x y = 1 ∧ d x < d y ∨ ySf d x y = 2 ∧ d y < d x := by unfold ySf; split <;> (try split) <;> omega
  have h2 : ySf d x z = 0 ∧ d x = d z ∨ ySf d x z = 1 ∧ d x < d z ∨ ySf d x z = 2 ∧ d z < d x := by unfold ySf; split <;> (try split) <;> omega
  have h3 : ySf d y z = 0 ∧ d y = d z ∨ ySf d y z = 1 ∧ d y < d z ∨ ySf d y z = 2 ∧ d z < d y := by unfold ySf; split <;> (try split) <;> omega
  rcases h1 with ⟨e1, k1⟩ | ⟨e1, k1⟩ | ⟨e1, k1⟩ <;> rcases h2 with ⟨e2, k2⟩ | ⟨e2, k2⟩ | ⟨e2, k2⟩ <;> rcases h3 with ⟨e3, k3⟩ | ⟨e3, k3⟩ | ⟨e3, k3⟩ <;> rw [e1, e2, e3] <;> first | decide +kernel | (exfalso; omega)
/-- a pattern that agrees with what is known -/
def zCp (a b c u v t : Nat) : Bool := (a == 3 || u == a) && ((b == 3 || v == b) && (c == 3 || t == c))
def zAll3 (q : Nat → Nat → Nat → Bool) : Bool := (List.range 3).all fun u => (List.range 3).all fun v => (List.range 3).all fun t => !(zPat.testBit (u + 4 * v + 16 * t)) || q u v t
theorem zTri_ok : ∀ a, a < 4 → ∀ b, b < 4 → ∀ c, c < 4 → (zTri.testBit (a + 4 * b + 16 * c) || (zAll3 (fun u v t => !(zCp a b c u v t)) || ((a == 3 && (List.range 3).any fun s => zAll3 fun u v t => !(zCp a b c u v t) || u == s) || ((b == 3 && (List.range 3).any fun s => zAll3 fun u v t => !(zCp a b c u v t) || v == s) || (c == 3 && (List.range 3).any fun s => zAll3 fun u v t => !(zCp a b c u v t) || t == s))))) = true := by decide +kernel
theorem zAll3_of {q : Nat → Nat → Nat → Bool} (h : zAll3 q = true) (d : Nat → Nat) (x y z : Nat) : q (ySf d x y) (ySf d x z) (ySf d y z) = true := by
  unfold zAll3 at h
  have l1 := ySf_le d x y
  have l2 := ySf_le d x z
  have l3 := ySf_le d y z
  have := List.all_eq_true.mp (List.all_eq_true.mp (List.all_eq_true.mp h _ (List.mem_range.mpr (show ySf d x y < 3 by omega))) _ (List.mem_range.mpr (show ySf d x z < 3 by omega))) _ (List.mem_range.mpr (show ySf d y z < 3 by omega))
  rw [zPat_ok, Bool.not_true, Bool.false_or] at this
  exact this
theorem zAw_good (hn : n ≤ 5) (hw : w ≤ 1) (h : zVo n w c mk V) (ne : ∃ i, i < c ∧ S i = true) : zGw4 n (zAw (n * (n - 1) / 2) c mk S) := fun p hp => by
  unfold zOkw
  rw [List.all_eq_true]
  intro x hx
  have hx := List.mem_range.mp hx
  obtain ⟨a1, a2, a3⟩ := zAB_lt n (by omega) p hp
  generalize hy : (zAB n p).1 = y at *
  generalize hz : (zAB n p).2 = z at *
  have p1 := yPs_1 n (by omega) x (by omega) y (by omega) hx
  have p2 := yPs_1 n (by omega) x (by omega) z (by omega) (show x < z by omega)
  have q1 : yPr n x y < n * (n - 1) / 2 := by rw [← p1.1]; exact p1.2.2
  have q2 : yPr n x z < n * (n - 1) / 2 := by rw [← p2.1]; exact p2.2.2
  rw [zAw_dg q1, zAw_dg q2, zAw_dg hp]
  have sem : ∀ a b, a < b → b < n → ∀ s, s < 3 → (zUn c mk S (yPr n a b) s ↔ ∀ i, i < c → S i = true → ySf (yDg (V i)) a b = s) := fun a b hab hb s hs => ⟨fun u i hi si => (zVo_bit hn hw h hi hab hb hs).mp (u i hi si), fun u i hi si => (zVo_bit hn hw h hi hab hb hs).mpr (u i hi si)⟩
  have ag : ∀ a b, a < b → b < n → ∀ i, i < c → S i = true → (zEd c mk S (yPr n a b) == 3 || ySf (yDg (V i)) a b == zEd c mk S (yPr n a b)) = true := fun a b hab hb i hi si => by
    rw [Bool.or_eq_true, beq_iff_eq, beq_iff_eq]
    have l := (zEd_1 (c := c) (mk := mk) (S := S) (p := yPr n a b)).1
    by_cases d : zEd c mk S (yPr n a b) < 3
    · exact Or.inr ((sem a b hab hb _ d).mp (zEd_1.2 d) i hi si)
    · exact Or.inl (by omega)
  have fr : ∀ a b, a < b → b < n → zEd c mk S (yPr n a b) = 3 → ∀ s, s < 3 → ¬ ∀ i, i < c → S i = true → ySf (yDg (V i)) a b = s := fun a b hab hb e s hs z => by
    have := zEd_3 hs ((sem a b hab hb s hs).mpr z)
    omega
  have cp : ∀ i, i < c → S i = true → zCp (zEd c mk S (yPr n x y)) (zEd c mk S (yPr n x z)) (zEd c mk S (yPr n y z)) (ySf (yDg (V i)) x y) (ySf (yDg (V i)) x z) (ySf (yDg (V i)) y z) = true := fun i hi si => by
    unfold zCp
    rw [ag x y hx (by omega) i hi si, ag x z (by omega) a2 i hi si, ag y z a1 a2 i hi si]
    rfl
  have key := zTri_ok _ (zEd_1 (c := c) (mk := mk) (S := S) (p := yPr n x y)).1 _ (zEd_1 (c := c) (mk := mk) (S := S) (p := yPr n x z)).1 _ (zEd_1 (c := c) (mk := mk) (S := S) (p := yPr n y z)).1
  rw [a3] at cp key
  rw [Bool.or_eq_true, Bool.or_eq_true, Bool.or_eq_true, Bool.or_eq_true] at key
  obtain ⟨i0, hi0, si0⟩ := ne
  rcases key with k | k | k | k | k
  · exact k
  · have := zAll3_of k (yDg (V i0)) x y z
    rw [cp i0 hi0 si0] at this
    exact absurd this (by decide)
  · rw [Bool.and_eq_true, beq_iff_eq] at k
    obtain ⟨s, hs, k2⟩ := List.any_eq_true.mp k.2
    refine absurd (fun i hi si => ?_) (fr x y hx (by omega) k.1 s (List.mem_range.mp hs))
    have := zAll3_of k2 (yDg (V i)) x y z
    rw [cp i hi si, Bool.not_true, Bool.false_or] at this
    exact beq_iff_eq.mp this
  · rw [Bool.and_eq_true, beq_iff_eq] at k
    obtain ⟨s, hs, k2⟩ := List.any_eq_true.mp k.2
    refine absurd (fun i hi si => ?_) (fr x z (by omega) a2 k.1 s (List.mem_range.mp hs))
    have := zAll3_of k2 (yDg (V i)) x y z
    rw [cp i hi si, Bool.not_true, Bool.false_or] at this
    exact beq_iff_eq.mp this
  · rw [Bool.and_eq_true, beq_iff_eq] at k
    obtain ⟨s, hs, k2⟩ := List.any_eq_true.mp k.2
    refine absurd (fun i hi si => ?_) (fr y z a1 a2 (a3 ▸ k.1) s (List.mem_range.mp hs))
    have := zAll3_of k2 (yDg (V i)) x y z
    rw [cp i hi si, Bool.not_true, Bool.false_or] at this
    exact beq_iff_eq.mp this
end WD
