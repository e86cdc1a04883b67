/-! CALL feed: twenty bytes on both tapes -/
/-- a byte of a number, s bits above the lowest -/
def yby (v : Int32) (s : Nat) : Int32 := (Int32.toInt8 ((Int32.toInt8 (v >>> (nI s &&& 31))).toInt32)).toInt32
def yp1 (g : xSt) (m : Nat) (x : Int32) : xSt := xWI (xWI g 1 m x) 0 1 (nI (m + 1))
def ypB (g : xSt) (m : Nat) (a : Int32) : xSt := yp1 (yp1 (yp1 (yp1 g m (yby a 24)) (m + 1) (yby a 16)) (m + 2) (yby a 8)) (m + 3) (yby a 0)
theorem yp1_len (g : xSt) (m : Nat) (x : Int32) : xI (yp1 g m x) 0 1 = nI (m + 1) := by unfold yp1; rw [yI_wi, if_pos ⟨rfl, rfl⟩]
theorem yp1_row (g : xSt) (m : Nat) (x : Int32) (k : Nat) : xI (yp1 g m x) 1 k = if k = m then x else xI g 1 k := by
  unfold yp1
  rw [yI_wi, if_neg (by omega), yI_wi]
  by_cases h : k = m
  · rw [if_pos ⟨rfl, h⟩, if_pos h]
  · rw [if_neg (fun e => h e.2), if_neg h]
theorem yp1_out (g : xSt) (m : Nat) (x : Int32) {o k : Nat} (h : ¬ (o = 1 ∨ (o = 0 ∧ k = 1))) : xI (yp1 g m x) o k = xI g o k := by
  unfold yp1
  rw [yI_wi, if_neg (by omega), yI_wi, if_neg (by omega)]
theorem ypB_len (g : xSt) (m : Nat) (a : Int32) : xI (ypB g m a) 0 1 = nI (m + 4) := yp1_len _ _ _
theorem ypB_out (g : xSt) (m : Nat) (a : Int32) {o k : Nat} (h : ¬ (o = 1 ∨ (o = 0 ∧ k = 1))) : xI (ypB g m a) o k = xI g o k := by
  unfold ypB
  rw [yp1_out _ _ _ h, yp1_out _ _ _ h, yp1_out _ _ _ h, yp1_out _ _ _ h]
theorem ypB_row (g : xSt) (m : Nat) (a : Int32) (k : Nat) : xI (ypB g m a) 1 k = if k = m + 3 then yby a 0 else if k = m + 2 then yby a 8 else if k = m + 1 then yby a 16 else if k = m then yby a 24 else xI g 1 k := by
  unfold ypB
  rw [yp1_row, yp1_row, yp1_row, yp1_row]
theorem r_put {g : xSt} {m : Nat} {a : Int32} (h : xI g 0 1 = nI m) (hm : m + 4 ≤ 1200) : E_X11_putBytes a g = some (ypB g m a) := by
  have st : ∀ (g : xSt) (m s : Nat), xI g 0 1 = nI m → m < 1200 → s < 32 → S_X11_putBytes_3 a (nI s, g) = some (.inl (nI s + (-8), yp1 g m (yby a s))) := by
    intro g m s h hm hs
    unfold S_X11_putBytes_3
    have h0 : ¬ (1200 : Int32) ≤ nI m := by rw [show (1200 : Int32) = nI 1200 from rfl]; exact nI_ge hm (by decide)
    simp only [if_neg (nI_pos (n := s) (by omega)), h, if_neg (nI_pos (n := m) (by omega)), if_neg h0, xck_nI hm (show (1200 : Nat) < 2 ^ 31 by decide), nI_clamp (show m < 2 ^ 31 by omega), nI_1]
    rfl
  unfold E_X11_putBytes
  have e1 := xlim_go (st g m 24 h (by omega) (by decide))
  have e2 := xlim_go (st _ (m + 1) 16 (yp1_len g m (yby a 24)) (by omega) (by decide))
  have e3 := xlim_go (st _ (m + 2) 8 (yp1_len (yp1 g m (yby a 24)) (m + 1) (yby a 16)) (by omega) (by decide))
  have e4 := xlim_go (st _ (m + 3) 0 (yp1_len (yp1 (yp1 g m (yby a 24)) (m + 1) (yby a 16)) (m + 2) (yby a 8)) (by omega) (by decide))
  have e5 : S_X11_putBytes_3 a (nI 0 + (-8), ypB g m a) = some (.inr (ypB g m a)) := if_pos (show nI 0 + (-8) < (0 : Int32) by decide)
  rw [show ((24 : Int32), g) = (nI 24, g) from rfl, e1, show nI 24 + (-8) = nI 16 from by decide, e2, show nI 16 + (-8) = nI 8 from by decide, e3, show nI 8 + (-8) = nI 0 from by decide, e4]
  exact congrArg (fun o => xb1 o fun e_1 => some e_1) (xlim_end e5)
/-- the reference's bytes -/
def yfb (a1 a2 a3 a4 a5 : Int32) (j : Nat) : Int32 := yby (if 4 ≤ j then (if 8 ≤ j then (if 12 ≤ j then (if 16 ≤ j then a5 else a4) else a3) else a2) else a1) (24 - 8 * (j % 4))
def yrB (g : xSt) (m : Nat) (f : Nat → Int32) : Nat → xSt
  | 0 => g
  | j + 1 => xWI (yrB g m f j) 114 (m + j) (f j)
theorem yrB_out (g : xSt) (m : Nat) (f : Nat → Int32) {o k : Nat} (h : o ≠ 114) : ∀ j, xI (yrB g m f j) o k = xI g o k := by
  intro j
  induction j with
  | zero => rfl
  | succ j ih => show xI (xWI _ _ _ _) _ _ = _; rw [yI_wi, if_neg (fun e => h e.1)]; exact ih
theorem yrB_row (g : xSt) (m : Nat) (f : Nat → Int32) (k : Nat) : ∀ j, xI (yrB g m f j) 114 k = if m ≤ k ∧ k < m + j then f (k - m) else xI g 114 k := by
  intro j
  induction j with
  | zero => rw [if_neg (by omega)]; rfl
  | succ j ih =>
    show xI (xWI _ _ _ _) _ _ = _
    rw [yI_wi, ih]
    by_cases h : k = m + j
    · rw [if_pos ⟨rfl, h⟩, if_pos (by omega), show k - m = j by omega]
    · rw [if_neg (fun e => h e.2)]
      by_cases h2 : m ≤ k ∧ k < m + j
      · rw [if_pos h2, if_pos (by omega)]
      · rw [if_neg h2, if_neg (by omega)]
theorem r_shs : ∀ j, j < 20 → ((24 : Int32) - (8 * (nI j &&& 3))) = nI (24 - 8 * (j % 4)) := by decide +kernel
theorem r_feedR {g : xSt} {m : Nat} {a1 a2 a3 a4 a5 : Int32} (h : xI g 113 2 = nI m) (hm : m + 20 ≤ 1200) : xlim (S_X12_feed_18 a1 a2 a3 a4 a5) (0, g) = some (yrB g m (yfb a1 a2 a3 a4 a5) 20) := by
  have e := xlim_of (step := S_X12_feed_18 a1 a2 a3 a4 a5) (fun j => (nI j, yrB g m (yfb a1 a2 a3 a4 a5) j)) 20 (e := yrB g m (yfb a1 a2 a3 a4 a5) 20) (fun j hj => ?_) ?_
  · exact e
  · have hl : ∀ c, c < 2 ^ 31 → ((nI c ≤ nI j) ↔ c ≤ j) := fun c hc => nI_leI hc (by omega)
    have hK : ∀ s : Int32, K_X12_feed_71 a1 a2 a3 a4 a5 (nI j) s (yrB g m (yfb a1 a2 a3 a4 a5) j) = some (.inl (nI (j + 1), xWI (yrB g m (yfb a1 a2 a3 a4 a5) j) 114 (m + j) (yby s (24 - 8 * (j % 4))))) := by
      intro s
      unfold K_X12_feed_71
      rw [yrB_out _ _ _ (by decide), h, nI_add, xck_nI (by omega) (by decide), nI_clamp (by omega), nI_1, r_shs j hj]
      rfl
    unfold S_X12_feed_18
    show (if (20 : Int32) ≤ nI j then _ else if (4 : Int32) ≤ nI j then (if (8 : Int32) ≤ nI j then (if (12 : Int32) ≤ nI j then (if (16 : Int32) ≤ nI j then _ else _) else _) else _) else _) = some (Sum.inl (nI (j + 1), xWI (yrB g m (yfb a1 a2 a3 a4 a5) j) 114 (m + j) (yfb a1 a2 a3 a4 a5 j)))
    have c20 : ¬ (20 : Int32) ≤ nI j := fun q => by have := (hl 20 (by decide)).mp q; omega
    rw [if_neg c20, hK, hK, hK, hK, hK]
    unfold yfb
    have h4 : ((4 : Int32) ≤ nI j) ↔ 4 ≤ j := hl 4 (by decide)
    have h8 : ((8 : Int32) ≤ nI j) ↔ 8 ≤ j := hl 8 (by decide)
    have h12 : ((12 : Int32) ≤ nI j) ↔ 12 ≤ j := hl 12 (by decide)
    have h16 : ((16 : Int32) ≤ nI j) ↔ 16 ≤ j := hl 16 (by decide)
    by_cases c4 : 4 ≤ j
    · rw [if_pos (h4.mpr c4), if_pos c4]
      by_cases c8 : 8 ≤ j
      · rw [if_pos (h8.mpr c8), if_pos c8]
        by_cases c12 : 12 ≤ j
        · rw [if_pos (h12.mpr c12), if_pos c12]
          by_cases c16 : 16 ≤ j
          · rw [if_pos (h16.mpr c16), if_pos c16]
          · rw [if_neg (fun q => c16 (h16.mp q)), if_neg c16]
        · rw [if_neg (fun q => c12 (h12.mp q)), if_neg c12]
      · rw [if_neg (fun q => c8 (h8.mp q)), if_neg c8]
    · rw [if_neg (fun q => c4 (h4.mp q)), if_neg c4]
  · exact if_pos (show (20 : Int32) ≤ nI 20 by decide)
theorem xWI_R (g : xSt) (o k : Nat) (v : Int32) : xR (xWI g o k v) = xR g := rfl
theorem yrB_R (g : xSt) (m : Nat) (f : Nat → Int32) : ∀ j, xR (yrB g m f j) = xR g := by
  intro j
  induction j with
  | zero => rfl
  | succ j ih => exact ih
theorem ypB_R (g : xSt) (m : Nat) (a : Int32) : xR (ypB g m a) = xR g := rfl
theorem ypB_row4 (g : xSt) (m : Nat) (a : Int32) (k : Nat) : xI (ypB g m a) 1 k = if m ≤ k ∧ k < m + 4 then yby a (24 - 8 * ((k - m) % 4)) else xI g 1 k := by
  rw [ypB_row]
  by_cases h : m ≤ k ∧ k < m + 4
  · rw [if_pos h]
    have hc : k - m = 0 ∨ k - m = 1 ∨ k - m = 2 ∨ k - m = 3 := by omega
    rcases hc with q | q | q | q
    · rw [if_neg (by omega), if_neg (by omega), if_neg (by omega), if_pos (by omega), q]
    · rw [if_neg (by omega), if_neg (by omega), if_pos (by omega), q]
    · rw [if_neg (by omega), if_pos (by omega), q]
    · rw [if_pos (by omega), q]
  · rw [if_neg h, if_neg (by omega), if_neg (by omega), if_neg (by omega), if_neg (by omega)]
theorem ypB5_row (g : xSt) (m : Nat) (a1 a2 a3 a4 a5 : Int32) (k : Nat) : xI (ypB (ypB (ypB (ypB (ypB g m a1) (m + 4) a2) (m + 4 + 4) a3) (m + 4 + 4 + 4) a4) (m + 4 + 4 + 4 + 4) a5) 1 k = if m ≤ k ∧ k < m + 20 then yfb a1 a2 a3 a4 a5 (k - m) else xI g 1 k := by
  rw [ypB_row4, ypB_row4, ypB_row4, ypB_row4, ypB_row4]
  by_cases h : m ≤ k ∧ k < m + 20
  · rw [if_pos h]
    obtain ⟨j, hj, rfl⟩ : ∃ j, j < 20 ∧ k = m + j := ⟨k - m, by omega, by omega⟩
    unfold yfb
    rw [show m + j - m = j by omega]
    by_cases c16 : 16 ≤ j
    · rw [if_pos (by omega), if_pos (show 4 ≤ j by omega), if_pos (show 8 ≤ j by omega), if_pos (show 12 ≤ j by omega), if_pos c16, show (m + j - (m + 4 + 4 + 4 + 4)) % 4 = j % 4 by omega]
    · rw [if_neg (by omega)]
      by_cases c12 : 12 ≤ j
      · rw [if_pos (by omega), if_pos (show 4 ≤ j by omega), if_pos (show 8 ≤ j by omega), if_pos c12, if_neg c16, show (m + j - (m + 4 + 4 + 4)) % 4 = j % 4 by omega]
      · rw [if_neg (by omega)]
        by_cases c8 : 8 ≤ j
        · rw [if_pos (by omega), if_pos (show 4 ≤ j by omega), if_pos c8, if_neg c12, show (m + j - (m + 4 + 4)) % 4 = j % 4 by omega]
        · rw [if_neg (by omega)]
          by_cases c4 : 4 ≤ j
          · rw [if_pos (by omega), if_pos c4, if_neg c8, show (m + j - (m + 4)) % 4 = j % 4 by omega]
          · rw [if_neg (by omega), if_pos (by omega), if_neg c4]
  · rw [if_neg h, if_neg (by omega), if_neg (by omega), if_neg (by omega), if_neg (by omega), if_neg (by omega)]
theorem op_0 {g : xSt} {a1 a2 a3 a4 a5 : Int32} (h : I_tape g) : ∃ g', O_0 a1 a2 a3 a4 a5 g = some (true, g') ∧ I_tape g' ∧ yAg (fun o k => o = 1 ∨ o = 114 ∨ (o = 0 ∧ k = 1) ∨ (o = 113 ∧ k = 2)) g g' := by
  obtain ⟨m, hm, h1, h2, h3⟩ := h
  have k20 : ((nI m + 20 : Int32) ≤ 1200) ↔ m + 20 ≤ 1200 := by
    rw [show (20 : Int32) = nI 20 from rfl, nI_add, show (1200 : Int32) = nI 1200 from rfl]
    exact nI_leI (by omega) (by decide)
  unfold O_0 E_X11_feed
  rw [h1]
  by_cases q : m + 20 ≤ 1200
  · rw [if_pos (k20.mpr q), r_put h1 (by omega), xb1_some, r_put (ypB_len g m a1) (by omega), xb1_some, r_put (ypB_len _ (m + 4) a2) (by omega), xb1_some, r_put (ypB_len _ (m + 4 + 4) a3) (by omega), xb1_some, r_put (ypB_len _ (m + 4 + 4 + 4) a4) (by omega), xb1_some, xb2_some]
    generalize hG : ypB (ypB (ypB (ypB (ypB g m a1) (m + 4) a2) (m + 4 + 4) a3) (m + 4 + 4 + 4) a4) (m + 4 + 4 + 4 + 4) a5 = G
    have hlen : xI G 0 1 = nI (m + 20) := by rw [← hG]; exact ypB_len _ _ _
    have hout : ∀ o k, ¬ (o = 1 ∨ (o = 0 ∧ k = 1)) → xI G o k = xI g o k := fun o k hk => by
      rw [← hG, ypB_out _ _ _ hk, ypB_out _ _ _ hk, ypB_out _ _ _ hk, ypB_out _ _ _ hk, ypB_out _ _ _ hk]
    have hrow : ∀ k, xI G 1 k = if m ≤ k ∧ k < m + 20 then yfb a1 a2 a3 a4 a5 (k - m) else xI g 1 k := fun k => by rw [← hG, ypB5_row]
    have hr2 : xI G 113 2 = nI m := (hout _ _ (by omega)).trans h2
    refine ⟨xWI (yrB G m (yfb a1 a2 a3 a4 a5) 20) 113 2 (nI (m + 20)), ?_, ⟨m + 20, q, ?_, ?_, fun k hk => ?_⟩, ⟨?_, fun o k hk => ?_⟩⟩
    · unfold E_X12_feed
      rw [hr2, if_pos (k20.mpr q), r_feedR hr2 q, xb1_some, yrB_out _ _ _ (by decide), hr2, hlen, xb2_some, show (20 : Int32) = nI 20 from rfl, nI_add]
      simp
    · rw [yI_wi, if_neg (by decide), yrB_out _ _ _ (by decide)]; exact hlen
    · rw [yI_wi, if_pos ⟨rfl, rfl⟩]
    · rw [yI_wi, if_neg (by omega), yI_wi, if_neg (by omega), yrB_out _ _ _ (by decide), yrB_row, hrow]
      by_cases hk2 : m ≤ k ∧ k < m + 20
      · rw [if_pos hk2, if_pos hk2]
      · rw [if_neg hk2, if_neg hk2, hout _ _ (by omega)]
        exact h3 k (by omega)
    · rw [xWI_R, yrB_R, ← hG, ypB_R, ypB_R, ypB_R, ypB_R, ypB_R]
    · rw [yI_wi, if_neg (by omega), yrB_out _ _ _ (by omega)]
      exact hout o k (by omega)
  · rw [if_neg (fun e => q (k20.mp e)), xb2_some]
    refine ⟨g, ?_, ⟨m, hm, h1, h2, h3⟩, yAg.refl _ _⟩
    unfold E_X12_feed
    rw [h2, if_neg (fun e => q (k20.mp e)), xb2_some]
    simp
