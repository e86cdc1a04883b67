/-! THE START: both sides hold it -/
section IN
variable {L : Nat} {S : Nat → Int32} {g : xSt}
theorem xEx_L : xL (xEx L S g) = xL g := rfl
theorem xEx_tw : tw (xEx L S g) = tw g := by unfold tw; rw [xEx_R]
theorem all_rng {p : Nat → Bool} {n : Nat} (h : ((List.range n).all p) = true) : ∀ k, k < n → p k = true := fun k hk => List.all_eq_true.mp h k (List.mem_range.mpr hk)
theorem s_F {o k : Nat} {v : Int32} (h : (o, k, v) ∈ xIniF) : xI xg2 o k = v := by
  have a := xi2_ints
  rw [Bool.and_eq_true] at a
  exact of_decide_eq_true (List.all_eq_true.mp a.1 (o, k, v) h)
theorem s_A {o n : Nat} {v : Int32} (h : (o, n, v) ∈ xIniA) : ∀ k, k < n → xI xg2 o k = v := fun k hk => by
  have a := xi2_ints
  rw [Bool.and_eq_true, Bool.and_eq_true] at a
  exact of_decide_eq_true (all_rng (List.all_eq_true.mp a.2.1 (o, n, v) h) k hk)
theorem s_W : ∀ k, k < 7 → xL xg2 21 k = zOwn k := fun k hk => by
  have a := xi2_ints
  rw [Bool.and_eq_true, Bool.and_eq_true] at a
  have e := of_decide_eq_true (all_rng a.2.2 k hk)
  have w : ∀ k, k < 7 → xIniW.getD k 0 = zOwn k := by decide +kernel
  rw [e, w k hk]
theorem s_R : ∀ s, s < 4096 → xI xg2 84 s = 0 := fun s hs => by
  by_cases h0 : s < 1024
  · have := of_decide_eq_true (all_rng xi2_rounds0 s h0)
    rw [Nat.zero_add] at this
    exact this
  · by_cases h1 : s < 2048
    · have := of_decide_eq_true (all_rng xi2_rounds1 (s - 1024) (by omega))
      rw [show 1024 + (s - 1024) = s by omega] at this
      exact this
    · by_cases h2 : s < 3072
      · have := of_decide_eq_true (all_rng xi2_rounds2 (s - 2048) (by omega))
        rw [show 2048 + (s - 2048) = s by omega] at this
        exact this
      · have := of_decide_eq_true (all_rng xi2_rounds3 (s - 3072) (by omega))
        rw [show 3072 + (s - 3072) = s by omega] at this
        exact this
theorem s_G : ∀ x, x < 1024 → xI xg2 83 x = 0 := fun x hx => of_decide_eq_true (all_rng xi2_groups x hx)
theorem s_tw : tw xg2 = 2 := by
  have a := xi2_ptr
  rw [Bool.and_eq_true] at a
  have e := of_decide_eq_true a.1
  unfold tw
  rw [e]
/-- the start's cells are enough -/
theorem inv_of (F : ∀ o k v, (o, k, v) ∈ xIniF → xI g o k = v) (A : ∀ o n v, (o, n, v) ∈ xIniA → ∀ k, k < n → xI g o k = v) (own : ∀ k, k < 7 → xL g 21 k = zOwn k) (R : ∀ s, s < 4096 → xI g 84 s = 0) (G : ∀ x, x < 1024 → xI g 83 x = 0) (t : tw g = 2) : zInv 0 g := by
  refine ⟨0, fun _ _ => 0, fun _ _ => 0, fun _ _ _ => 0, ⟨0, by decide, F 0 1 0 (by decide +kernel), F 113 2 0 (by decide +kernel), fun k hk => absurd hk (Nat.not_lt_zero k)⟩, ⟨?_, ?_⟩, ⟨⟨by decide, by decide, by decide, by decide, by decide, fun k hk => absurd hk (Nat.not_lt_zero k), fun k hk => absurd hk (Nat.not_lt_zero k), fun p q hp => absurd hp (Nat.not_lt_zero p), fun k hk => absurd hk (Nat.not_lt_zero k), fun k hk => absurd hk (Nat.not_lt_zero k), fun i s hi => absurd hi (Nat.not_lt_zero i)⟩, ?_, by decide, F 113 30 0 (by decide +kernel), ⟨A 116 2 0 (by decide +kernel) 0 (by decide), A 121 2 0 (by decide +kernel) 0 (by decide), A 117 2 0 (by decide +kernel) 0 (by decide), A 126 2 0 (by decide +kernel) 0 (by decide), A 127 2 0 (by decide +kernel) 0 (by decide), fun k hk => absurd hk (Nat.not_lt_zero k), fun k hk => absurd hk (Nat.not_lt_zero k), fun k hk => absurd hk (Nat.not_lt_zero k), fun k hk => absurd hk (Nat.not_lt_zero k), fun i s hi => absurd hi (Nat.not_lt_zero i)⟩⟩, ⟨⟨by decide, by decide, by decide, by decide, fun k hk => absurd hk (Nat.not_lt_zero k), fun k hk => absurd hk (Nat.not_lt_zero k), fun k hk => absurd hk (Nat.not_lt_zero k)⟩, ⟨F 32 0 0 (by decide +kernel), F 32 1 0 (by decide +kernel), F 32 2 0 (by decide +kernel), F 32 3 0 (by decide +kernel), fun k hk => absurd hk (Nat.not_lt_zero k), fun k hk => absurd hk (Nat.not_lt_zero k), fun k hk => absurd hk (Nat.not_lt_zero k)⟩, ⟨F 113 44 0 (by decide +kernel), F 113 46 0 (by decide +kernel), F 113 45 0 (by decide +kernel), F 113 47 0 (by decide +kernel), fun k hk => absurd hk (Nat.not_lt_zero k), fun k hk => absurd hk (Nat.not_lt_zero k), fun k hk => absurd hk (Nat.not_lt_zero k)⟩⟩, ⟨by decide, by decide, F 69 0 0 (by decide +kernel), ?_, ?_, fun i hi => ?_⟩, ⟨0, by decide, F 111 1 0 (by decide +kernel), F 113 54 0 (by decide +kernel), fun k hk => absurd hk (Nat.not_lt_zero k)⟩, ⟨A 102 1 0 (by decide +kernel) 0 (by decide), Or.inl (F 98 12 (-1) (by decide +kernel))⟩, fun j hj => Or.inl ⟨?_, A 174 3 (-1) (by decide +kernel) j hj⟩, ⟨0, 0, 0, xI g 76 5, 0, fun _ => 0, fun _ => 0, Nat.le_refl _, by decide, Or.inl rfl, by decide, fun i hi => absurd hi (Nat.not_lt_zero i), ⟨F 76 3 0 (by decide +kernel), F 76 4 0 (by decide +kernel), rfl, F 76 2 0 (by decide +kernel), fun i hi => absurd hi (Nat.not_lt_zero i)⟩, ⟨fun a b _ hb => absurd hb (Nat.not_lt_zero b), fun x hx => Or.inl (G x hx)⟩, F 76 15 0 (by decide +kernel), fun h => absurd h (Nat.lt_irrefl 0), fun s hs => ⟨0, Nat.le_refl _, R s hs, fun h => absurd h (Nat.lt_irrefl 0)⟩⟩, own⟩
  · rw [F 0 2 0 (by decide +kernel), F 113 4 0 (by decide +kernel)]
  · rw [F 0 3 (-1) (by decide +kernel), F 113 5 (-1) (by decide +kernel)]
  · rw [t]
    exact ⟨F 2 0 0 (by decide +kernel), F 2 3 0 (by decide +kernel), F 2 5 0 (by decide +kernel), F 2 8 0 (by decide +kernel), F 2 11 0 (by decide +kernel), fun k hk => absurd hk (Nat.not_lt_zero k), fun k hk => absurd hk (Nat.not_lt_zero k), fun k hk => absurd hk (Nat.not_lt_zero k), fun k hk => absurd hk (Nat.not_lt_zero k), fun i s hi => absurd hi (Nat.not_lt_zero i)⟩
  · rw [F 69 1 1 (by decide +kernel)]
    decide +kernel
  · rw [F 113 34 1 (by decide +kernel)]
    decide +kernel
  · have i0 : i = 0 := by
      have : yN 0 0 = 1 := by decide +kernel
      have hi : i < yN 0 0 := hi
      omega
    subst i0
    refine ⟨?_, ?_, fun t ht => absurd ht (Nat.not_lt_zero t)⟩
    · rw [A 70 1 0 (by decide +kernel) 0 (by decide)]
      decide +kernel
    · rw [A 71 1 0 (by decide +kernel) 0 (by decide)]
      decide +kernel
  · have : j = 0 ∨ j = 1 ∨ j = 2 := by omega
    rcases this with e | e | e <;> subst e
    · exact F 42 4 0 (by decide +kernel)
    · exact F 51 4 0 (by decide +kernel)
    · exact F 60 4 0 (by decide +kernel)
theorem inv_0 (L : Nat) (S : Nat → Int32) : zInv 0 (xEx L S xg2) := by
  have big : ∀ o k v, (o, k, v) ∈ xIniF → o ≠ 1000000 := by
    have h : (xIniF.all fun q => decide (q.1 ≠ 1000000)) = true := by decide +kernel
    exact fun o k v m => of_decide_eq_true (List.all_eq_true.mp h (o, k, v) m)
  have big2 : ∀ o k v, (o, k, v) ∈ xIniA → o ≠ 1000000 := by
    have h : (xIniA.all fun q => decide (q.1 ≠ 1000000)) = true := by decide +kernel
    exact fun o k v m => of_decide_eq_true (List.all_eq_true.mp h (o, k, v) m)
  refine inv_of (fun o k v m => ?_) (fun o n v m k hk => ?_) (fun k hk => ?_) (fun s hs => ?_) (fun x hx => ?_) ?_
  · rw [xEx_I (big o k v m)]; exact s_F m
  · rw [xEx_I (big2 o n v m)]; exact s_A m k hk
  · rw [xEx_L]; exact s_W k hk
  · rw [xEx_I (by decide)]; exact s_R s hs
  · rw [xEx_I (by decide)]; exact s_G x hx
  · rw [xEx_tw]; exact s_tw
end IN
