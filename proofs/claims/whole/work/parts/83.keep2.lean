/-! the search's rows through the boxes -/
section KB
variable {g g' : xSt} {b : Bool} {a1 a2 a3 a4 a5 : Int32}
theorem xbx_k (a : Int32) : xBk (xbx a) ∧ xbx a ≠ 32 ∧ (xbx a = 42 ∨ xbx a = 51 ∨ xbx a = 60) := by
  unfold xbx
  split
  · exact ⟨by unfold xBk; simp, by decide, Or.inl rfl⟩
  · split
    · exact ⟨by unfold xBk; simp, by decide, Or.inr (Or.inl rfl)⟩
    · exact ⟨by unfold xBk; simp, by decide, Or.inr (Or.inr rfl)⟩
theorem xBk_32 : xBk 32 := by unfold xBk; simp
theorem k_39 (W : xWf g) (h : O_39 a1 a2 a3 a4 a5 g = some (b, g')) : zSame g g' := by
  unfold O_39 at h
  exact xbE2 h fun v1 g1 h1 h => xbE2 h fun v2 g2 h2 h => by
    cases h
    have W1 : xWf g1 := (e_X11_image (d := 0) W h1).2.1
    have f2 := (e_X12_image (d := 0) W1 h2).2
    have s1 : zSame g g1 := by
      unfold E_X11_image at h1
      by_cases c : a1 < 0
      · rw [if_pos c] at h1; cases h1; exact zSame.refl _
      · rw [if_neg c] at h1
        by_cases c2 : a1 < 3
        · rw [if_pos c2] at h1
          obtain ⟨k1, k2, k3⟩ := xbx_k a1
          exact xbE1 h1 fun g25 e h1 => by
            cases h1
            have f := (e_X0_copyFrom (d := 0) W k1 xBk_32 k2 e).2
            intro o x y k
            have q := zSame_fr f (fun o x y => by simp only [List.mem_cons, List.not_mem_nil, or_false]; omega) (fun o k x y => by simp only [List.mem_cons, List.not_mem_nil, or_false, Prod.mk.injEq]; omega) o x y k
            exact ⟨by rw [yI_wi, if_neg (by omega)]; exact q.1, q.2⟩
        · rw [if_neg c2] at h1; cases h1; exact zSame.refl _
    exact s1.tr (zSame_fr f2 (fun o x y => by simp only [List.mem_cons, List.not_mem_nil, or_false]; omega) (fun o k x y => List.not_mem_nil))
theorem k_40 (W : xWf g) (h : O_40 a1 a2 a3 a4 a5 g = some (b, g')) : zSame g g' := by
  unfold O_40 at h
  exact xbE2 h fun v1 g1 h1 h => xbE2 h fun v2 g2 h2 h => by
    cases h
    have W1 : xWf g1 := (e_X11_back (d := 0) W h1).2.1
    have f2 := (e_X12_back (d := 0) W1 h2).2
    have s1 : zSame g g1 := by
      unfold E_X11_back at h1
      by_cases c : a1 < 0
      · rw [if_pos c] at h1; cases h1; exact zSame.refl _
      · rw [if_neg c] at h1
        by_cases c2 : 3 ≤ a1
        · rw [if_pos c2] at h1; cases h1; exact zSame.refl _
        · rw [if_neg c2] at h1
          by_cases c3 : xI g (xbx a1) 4 = 0
          · rw [if_pos c3] at h1; cases h1; exact zSame.refl _
          · rw [if_neg c3] at h1
            obtain ⟨k1, k2, k3⟩ := xbx_k a1
            exact xbE1 h1 fun g25 e h1 => by
              cases h1
              have f := (e_X0_copyFrom (d := 0) W xBk_32 k1 (fun z => k2 z.symm) e).2
              exact zSame_fr f (fun o x y => by simp only [List.mem_cons, List.not_mem_nil, or_false]; omega) (fun o k x y => by simp only [List.mem_cons, List.not_mem_nil, or_false, Prod.mk.injEq]; omega)
    exact s1.tr (zSame_fr f2 (fun o x y => by simp only [List.mem_cons, List.not_mem_nil, or_false]; omega) (fun o k x y => by simp only [List.mem_cons, List.not_mem_nil, or_false, Prod.mk.injEq]; omega))
end KB
