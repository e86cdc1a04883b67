/-! THE SEARCH: a set's slot, the slots kept; the search's state -/
section SK
variable {g g' g1 : xSt} {n c r N lo hi k x x0 u0 P : Nat} {mk : Nat → Nat} {γ : Nat → Int32} {J U : Int32} {S : Nat → Bool}
/-- a slot of its own, or none -/
theorem r_slotK (hr2 : r < 2 ^ 31) (h15 : xI g 76 15 = nI r) (h1 : lo < 2 ^ 60) (h2 : hi < 2 ^ 60) (h : zMe g r n c mk γ) : ∃ s g', E_X8_slotOf (nL lo) (nL hi) g = some (s, g') ∧ yAg dSl g g' ∧ (∀ o j, o ≠ 85 → xL g' o j = xL g o j) ∧ zMe g' r n c mk γ ∧ (s = -1 ∨ ∃ k, s = nI k ∧ zAt g' r k lo hi) ∧ ∀ k lo hi, zAt g r k lo hi → zAt g' r k lo hi := by
  have key : ∀ m t k, m + t = 64 → k < 4096 → xlim (S_X8_slotOf_28 (nL lo) (nL hi)) (nI k, nI t, g) = some (.inr g) ∨ ∃ k' g', k' < 4096 ∧ xlim (S_X8_slotOf_28 (nL lo) (nL hi)) (nI k, nI t, g) = some (.inl (nI k', g')) ∧ (g' = g ∧ zAt g r k' lo hi ∨ (g' = zWr g r k' lo hi ∧ ¬ xI g 84 k' = nI r)) := by
    intro m
    induction m with
    | zero =>
      intro t k ht hk
      refine Or.inl (xlim_end ?_)
      unfold S_X8_slotOf_28
      exact if_pos (show (64 : Int32) ≤ nI t by rw [show (64 : Int32) = nI 64 from rfl]; exact nI_le (by omega) (by omega))
    | succ m ih =>
      intro t k ht hk
      have h64 : ¬ (64 : Int32) ≤ nI t := by rw [show (64 : Int32) = nI 64 from rfl]; exact nI_ge (by omega) (by omega)
      obtain ⟨k2, q1, q2⟩ := r_4095 (nI k + 1)
      rw [nI_1] at q2
      have i1 : (2 : Int32) * nI k = nI (2 * k) := nI_mul 2 k
      have i2 : nI (2 * k) + 1 = nI (2 * k + 1) := nI_1 _
      have go : S_X8_slotOf_28 (nL lo) (nL hi) (nI k, nI t, g) = some (.inl (nI k2, nI (t + 1), g)) → xlim (S_X8_slotOf_28 (nL lo) (nL hi)) (nI k, nI t, g) = some (.inr g) ∨ ∃ k' g', k' < 4096 ∧ xlim (S_X8_slotOf_28 (nL lo) (nL hi)) (nI k, nI t, g) = some (.inl (nI k', g')) ∧ (g' = g ∧ zAt g r k' lo hi ∨ (g' = zWr g r k' lo hi ∧ ¬ xI g 84 k' = nI r)) := fun st => by
        rw [xlim_go st]
        exact ih (t + 1) k2 (by omega) q1
      by_cases c : xI g 84 k = nI r
      · by_cases d : xL g 85 (2 * k) = nL lo
        · by_cases e : xL g 85 (2 * k + 1) = nL hi
          · refine Or.inr ⟨k, g, hk, xlim_end ?_, Or.inl ⟨rfl, hk, c, d, e⟩⟩
            unfold S_X8_slotOf_28
            simp only [if_neg h64, xat_nI hk (show 4096 < 2 ^ 31 by decide), h15, i1, i2, xatL_nI (show 2 * k < 8192 by omega) (show 8192 < 2 ^ 31 by decide), xatL_nI (show 2 * k + 1 < 8192 by omega) (show 8192 < 2 ^ 31 by decide), if_pos c, if_pos ((lg_0 _ _).mpr d), if_pos ((lg_0 _ _).mpr e)]
          · refine go ?_
            unfold S_X8_slotOf_28
            simp only [if_neg h64, xat_nI hk (show 4096 < 2 ^ 31 by decide), h15, i1, i2, xatL_nI (show 2 * k < 8192 by omega) (show 8192 < 2 ^ 31 by decide), xatL_nI (show 2 * k + 1 < 8192 by omega) (show 8192 < 2 ^ 31 by decide), if_pos c, if_pos ((lg_0 _ _).mpr d), if_neg (fun z => e ((lg_0 _ _).mp z)), q2, nI_1]
        · refine go ?_
          unfold S_X8_slotOf_28
          simp only [if_neg h64, xat_nI hk (show 4096 < 2 ^ 31 by decide), h15, i1, xatL_nI (show 2 * k < 8192 by omega) (show 8192 < 2 ^ 31 by decide), if_pos c, if_neg (fun z => d ((lg_0 _ _).mp z)), q2, nI_1]
      · refine Or.inr ⟨k, zWr g r k lo hi, hk, xlim_end ?_, Or.inr ⟨rfl, c⟩⟩
        unfold S_X8_slotOf_28
        simp only [if_neg h64, xat_nI hk (show 4096 < 2 ^ 31 by decide), h15, i1, i2, if_neg c, xput_nI hk (show 4096 < 2 ^ 31 by decide), xputL_nI (show 2 * k < 8192 by omega) (show 8192 < 2 ^ 31 by decide), xputL_nI (show 2 * k + 1 < 8192 by omega) (show 8192 < 2 ^ 31 by decide)]
        rfl
  unfold E_X8_slotOf
  obtain ⟨k0, q1, q2⟩ := r_4095 (Int64.toInt32 ((Int64.toUInt64 (((nL lo * 31) + nL hi) * (-7046029254386353131)) >>> ((Int32.toInt64 40).toUInt64 &&& Int64.toUInt64 63)).toInt64))
  rw [q2]
  rcases key 64 0 k0 (by omega) q1 with e | ⟨k', g', e0, e, f⟩
  · exact ⟨-1, g, by rw [show (nI k0, (0 : Int32), g) = (nI k0, nI 0, g) from rfl, e]; rfl, yAg.refl _ _, fun _ _ _ => rfl, h, Or.inl rfl, fun _ _ _ z => z⟩
  · refine ⟨nI k', g', by rw [show (nI k0, (0 : Int32), g) = (nI k0, nI 0, g) from rfl, e]; rfl, ?_⟩
    rcases f with ⟨rfl, f⟩ | ⟨rfl, f⟩
    · exact ⟨yAg.refl _ _, fun _ _ _ => rfl, h, Or.inr ⟨k', rfl, f⟩, fun _ _ _ z => z⟩
    · refine ⟨zWr_ag, fun o j ho => by rw [zWr_l, if_neg (by omega), if_neg (by omega)], zMe_put e0 h1 h2 h, Or.inr ⟨k', rfl, e0, ?_, ?_, ?_⟩, fun k2 lo2 hi2 ⟨z1, z2, z3, z4⟩ => ?_⟩
      · rw [zWr_i, if_neg (by omega), if_pos ⟨rfl, rfl⟩]
      · rw [zWr_l, if_neg (by omega), if_pos ⟨rfl, rfl⟩]
      · rw [zWr_l, if_pos ⟨rfl, rfl⟩]
      · have ne : k2 ≠ k' := fun z => f (z ▸ z2)
        refine ⟨z1, ?_, ?_, ?_⟩
        · rw [zWr_i, if_neg (by omega), if_neg (by omega)]; exact z2
        · rw [zWr_l, if_neg (by omega), if_neg (by omega)]; exact z3
        · rw [zWr_l, if_neg (by omega), if_neg (by omega)]; exact z4

def dRc (o k : Nat) : Prop := 83 ≤ o ∧ o ≤ 87
/-- what the search's own calls keep -/
def zFr (r : Nat) (g g' : xSt) : Prop := yAg dRc g g' ∧ (∀ o j, o ≠ 85 → xL g' o j = xL g o j) ∧ ∀ k lo hi, zAt g r k lo hi → zAt g' r k lo hi
theorem zFr.refl : zFr r g g := ⟨yAg.refl _ _, fun _ _ _ => rfl, fun _ _ _ z => z⟩
theorem zFr.tr (h : zFr r g g1) (h2 : zFr r g1 g') : zFr r g g' := ⟨h.1.tr h2.1, fun o j ho => (h2.2.1 o j ho).trans (h.2.1 o j ho), fun k lo hi z => h2.2.2 k lo hi (h.2.2 k lo hi z)⟩
/-- the search's state in round r -/
def zQ (r : Nat) (g : xSt) (n : Nat) (J U : Int32) (c : Nat) (mk : Nat → Nat) (γ : Nat → Int32) : Prop := zLd g n J U c mk γ ∧ zCo g n ∧ xI g 76 15 = nI r ∧ zFn g c mk γ ∧ zMe g r n c mk γ
theorem zQ.fr (q : zQ r g n J U c mk γ) (y : yAg dRc g g') (l : ∀ o j, o ≠ 85 → xL g' o j = xL g o j) (hC : zCo g' n) (hM : zMe g' r n c mk γ) : zQ r g' n J U c mk γ := by
  obtain ⟨⟨l1, l2, l3, l4, l5⟩, -, q3, ⟨f1, f2, κ, K, f3, f4, f5, f6, f7⟩, -⟩ := q
  have i : ∀ o k, o < 83 → xI g' o k = xI g o k := fun o k ho => y.2 o k (by unfold dRc; omega)
  exact ⟨⟨(i 76 _ (by omega)).trans l1, (i 76 _ (by omega)).trans l2, (i 76 _ (by omega)).trans l3, (i 76 _ (by omega)).trans l4, fun x hx => ⟨(i 77 _ (by omega)).trans (l5 x hx).1, (i 78 _ (by omega)).trans (l5 x hx).2⟩⟩, hC, (i 76 _ (by omega)).trans q3, ⟨fun b hb => ⟨(l 81 _ (by omega)).trans (f1 b hb).1, (l 81 _ (by omega)).trans (f1 b hb).2⟩, (i 76 _ (by omega)).trans f2, κ, K, f3, (i 76 _ (by omega)).trans f4, fun x hx => ⟨(f5 x hx).1, (i 79 _ (by omega)).trans (f5 x hx).2⟩, f6, fun k hk => ⟨(f7 k hk).1, (l 80 _ (by omega)).trans (f7 k hk).2.1, (l 80 _ (by omega)).trans (f7 k hk).2.2⟩⟩, hM⟩
/-- what is so of the orders loaded -/
def zH (n c : Nat) (mk : Nat → Nat) (γ : Nat → Int32) (J U : Int32) (u0 x0 : Nat) : Prop := n ≤ 5 ∧ c ≤ 120 ∧ (∀ i, i < c → mk i < 2 ^ 30) ∧ zOne (n * (n - 1) / 2) c mk ∧ zDif (n * (n - 1) / 2) c mk γ ∧ u0 < 2 ^ n ∧ (J = 0 ∨ J = 1) ∧ (((1 : Int32) <<< (nI n &&& 31)) - 1) &&& (U ^^^ (-1)) = nI u0 ∧ zYy n c mk γ x0 u0 ∧ zJn n c mk γ x0 J
theorem zH.ql (H : zH n c mk γ J U u0 x0) (q : zQ r g n J U c mk γ) : zQl g n c mk γ := ⟨H.1, H.2.1, q.1.2.2.2.1, q.1.1, q.2.2.2.1, H.2.2.2.1⟩
theorem zOr_ok (q : zQ r g n J U c mk γ) (H : zH n c mk γ J U u0 x0) (hx : x < 1024) : ∃ g', E_X8_joinsFor (nI x) g = some (nI (zJo J n x), g') ∧ zQ r g' n J U c mk γ ∧ zFr r g g' := by
  obtain ⟨g', h1, h2, h3, h4⟩ := r_joinsFor H.1 H.2.2.2.2.2.2.1 q.1.1 q.1.2.1 q.2.1 hx
  have y : yAg dRc g g' := h2.up fun o k e => by unfold dRc; omega
  have at' : ∀ k lo hi, zAt g r k lo hi → zAt g' r k lo hi := fun k lo hi ⟨z1, z2, z3, z4⟩ => ⟨z1, (h2.2 84 k (by omega)).trans z2, by rw [h3]; exact z3, by rw [h3]; exact z4⟩
  refine ⟨g', h1, q.fr y (fun o j _ => by rw [h3]) h4 (fun s hs => ?_), y, fun o j _ => by rw [h3], at'⟩
  obtain ⟨ρ, m1, m2, m3⟩ := q.2.2.2.2 s hs
  refine ⟨ρ, m1, (h2.2 84 s (by omega)).trans m2, fun a b => ?_⟩
  obtain ⟨l', h', s1, s2, s3, s4, s5, s6⟩ := m3 a b
  exact ⟨l', h', s1, s2, by rw [h3]; exact s3, by rw [h3]; exact s4, by rw [h2.2 86 s (by omega)]; exact s5, by rw [h2.2 87 s (by omega)]; exact s6⟩
theorem zSl_ok (q : zQ r g n J U c mk γ) (hr2 : r < 2 ^ 31) (h : zIn c lo hi) : ∃ s g', E_X8_slotOf (nL lo) (nL hi) g = some (s, g') ∧ zQ r g' n J U c mk γ ∧ zFr r g g' ∧ (s = -1 ∨ ∃ k, s = nI k ∧ zAt g' r k lo hi) := by
  obtain ⟨b1, b2⟩ := zIn_lt h
  obtain ⟨s, g', h1, h2, h3, h4, h5, h6⟩ := r_slotK hr2 q.2.2.1 b1 b2 q.2.2.2.2
  have y : yAg dRc g g' := h2.up fun o k e => by unfold dSl at e; unfold dRc; omega
  exact ⟨s, g', h1, q.fr y h3 ⟨fun a b ha hb => (h2.2 82 _ (by unfold dSl; omega)).trans (q.2.1.1 a b ha hb), fun x hx => by rw [h2.2 83 x (by unfold dSl; omega)]; exact q.2.1.2 x hx⟩ h4, ⟨y, h3, h6⟩, h5⟩
/-- what was found is put -/
theorem zPut_ok {o : Nat} {v : Int32} (ho : o = 86 ∨ o = 87) (q : zQ r g n J U c mk γ) (hr : 0 < r) (hr2 : r < 2 ^ 31) (h : zIn c lo hi) {s : Int32} (hs : s = -1 ∨ ∃ k, s = nI k ∧ zAt g r k lo hi) (hv : (o = 86 → zOkW (n * (n - 1) / 2) c mk γ (zSt lo hi) v) ∧ (o = 87 → zOkS (n * (n - 1) / 2) c mk γ (zSt lo hi) v)) : zQ r (xput g o 4096 s v) n J U c mk γ ∧ zFr r g (xput g o 4096 s v) := by
  obtain ⟨b1, b2⟩ := zIn_lt h
  rcases hs with rfl | ⟨k, rfl, a1, a2, a3, a4⟩
  · have : xput g o 4096 (-1) v = g := by unfold xput; rw [if_pos (Or.inl (by decide))]
    rw [this]
    exact ⟨q, zFr.refl⟩
  · rw [xput_nI a1 (by decide)]
    have y : yAg dRc g (xWI g o k v) := (yAg.refl _ g).wi (by unfold dRc; omega)
    have fr : zFr r g (xWI g o k v) := ⟨y, fun _ _ _ => rfl, fun k2 lo2 hi2 ⟨z1, z2, z3, z4⟩ => ⟨z1, by rw [yI_wi, if_neg (by omega)]; exact z2, z3, z4⟩⟩
    refine ⟨q.fr y (fun _ _ _ => rfl) ⟨fun a b ha hb => by rw [yI_wi, if_neg (by omega)]; exact q.2.1.1 a b ha hb, fun x hx => by rw [yI_wi, if_neg (by omega)]; exact q.2.1.2 x hx⟩ (fun s hs => ?_), fr⟩
    obtain ⟨ρ, m1, m2, m3⟩ := q.2.2.2.2 s hs
    refine ⟨ρ, m1, by rw [yI_wi, if_neg (by omega)]; exact m2, fun a b => ?_⟩
    obtain ⟨l', h', s1, s2, s3, s4, s5, s6⟩ := m3 a b
    refine ⟨l', h', s1, s2, s3, s4, ?_, ?_⟩
    · rw [yI_wi]
      by_cases e : 86 = o ∧ s = k
      · rw [if_pos e]
        obtain ⟨e1, e2⟩ := e
        subst e2
        rw [(nL_eq s1 b1).mp (s3.symm.trans a3), (nL_eq s2 b2).mp (s4.symm.trans a4)]
        exact hv.1 e1.symm
      · rw [if_neg e]; exact s5
    · rw [yI_wi]
      by_cases e : 87 = o ∧ s = k
      · rw [if_pos e]
        obtain ⟨e1, e2⟩ := e
        subst e2
        rw [(nL_eq s1 b1).mp (s3.symm.trans a3), (nL_eq s2 b2).mp (s4.symm.trans a4)]
        exact hv.2 e1.symm
      · rw [if_neg e]; exact s6
/-- so many weighings more at least, for a set that isn't alike -/
theorem zJo_W (H : zH n c mk γ J U u0 x0) (hS : zCl (n * (n - 1) / 2) c mk x0 x S) (ha : ¬ zAl c γ S) (h : zCan (n * (n - 1) / 2) c mk γ k S) : zJo J n x ≤ k := by
  obtain ⟨hn, hc, hm, ho, hd, hu, hJ, hU, hY, hj⟩ := H
  have k1 : 1 ≤ k := by
    cases k with
    | zero => exact absurd h ha
    | succ k => omega
  have ne : ∃ i, i < c ∧ S i = true := Decidable.byContradiction fun z => ha fun i j hi hj si sj => absurd ⟨i, hi, si⟩ z
  unfold zJo
  rcases hJ with e | e
  · rw [if_pos e]; exact k1
  · rw [if_neg (by rw [e]; decide)]
    have na : ¬ zAl c γ (fun _ => true) := fun z => ha fun i j hi hj _ _ => z i j hi hj rfl rfl
    have := zJo_can (G := zGroups n) ho (fun x p hx hp => zGroups_or (by omega) hx hp) (hj e na) k x S hS ne h
    omega
theorem zJo_S {f : Nat} (H : zH n c mk γ J U u0 x0) (hS : zCl (n * (n - 1) / 2) c mk x0 x S) (ha : ¬ zAl c γ S) (h : zTot (n * (n - 1) / 2) c mk γ f k S) : yCn S c * zJo J n x ≤ k := by
  obtain ⟨hn, hc, hm, ho, hd, hu, hJ, hU, hY, hj⟩ := H
  have k1 := zTot_one ha h
  unfold zJo
  rcases hJ with e | e
  · rw [if_pos e]; omega
  · rw [if_neg (by rw [e]; decide)]
    have na : ¬ zAl c γ (fun _ => true) := fun z => ha fun i j hi hj _ _ => z i j hi hj rfl rfl
    have := zJo_tot (G := zGroups n) ho (fun x p hx hp => zGroups_or (by omega) hx hp) (hj e na) f k x S hS h
    rcases Nat.le_total 1 (zGroups n x - 1) with y | y
    · rw [Nat.max_eq_right y]; exact this
    · rw [Nat.max_eq_left y]; omega
end SK
