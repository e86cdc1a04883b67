/-! the script laid into a store that has none: the same run -/
def xNo (g : xSt) : Prop := xN g ≤ 1000000 ∧ xH g 1000000 = .inr 99
section EX
variable {L : Nat} {S : Nat → Int32} {g g' : xSt} {o : Nat}
theorem xEx_H (h : o ≠ 1000000) : xH (xEx L S g) o = xH g o := if_neg h
theorem xEx_I (h : o ≠ 1000000) : xI (xEx L S g) o = xI g o := by funext b; exact if_neg h
theorem xEx_is (hn : xNo g) (c : Nat) : xIs (xEx L S g) o c = xIs g o c := by
  have e : xN (xEx L S g) = xN g := rfl
  by_cases h : o = 1000000
  · subst h
    have : ¬ 1000000 < xN g := Nat.not_lt.mpr hn.1
    simp [xIs, e, this]
  · simp only [xIs, xEx_H h, e]
theorem xEx_ar (hn : xNo g) (ty : FieldType) (j : Int32) : xAr (xEx L S g) o ty j = xAr g o ty j := by
  have e : xN (xEx L S g) = xN g := rfl
  by_cases h : o = 1000000
  · subst h
    have h1 : ¬ 1000000 < xN g := Nat.not_lt.mpr hn.1
    have e1 : xH (xEx L S g) 1000000 = .inl (.int, L) := (if_pos rfl : (if (1000000 : Nat) = 1000000 then (.inl (.int, L) : xSh) else g.2.1 1000000) = .inl (.int, L))
    simp [xAr, e1, hn.2, e, h1]
  · simp only [xAr, xEx_H h, e]
theorem xNoS (hn : xNo g) (j : Int32) : xArS g o j = false := by
  by_cases h : o = 1000000
  · subst h; simp [xArS, hn.2]
  · unfold xArS
    split
    · simp [h]
    · rfl
theorem xEx_wi (h : o ≠ 1000000) (k : Nat) (v : Int32) : xWI (xEx L S g) o k v = xEx L S (xWI g o k v) := by
  have : x2 (fun a b => if a = 1000000 then S b else g.2.2.1 a b) o k v = fun a b => if a = 1000000 then S b else x2 g.2.2.1 o k v a b := by
    funext a b
    unfold x2
    by_cases h1 : a = o
    · subst h1; simp [h]
    · simp [h1]
  exact congrArg (fun f => ((g.1, (fun a => if a = 1000000 then (.inl (.int, L) : xSh) else g.2.1 a), f, g.2.2.2.1, g.2.2.2.2) : xSt)) this
theorem xSt_2 {a : Nat × Nat} {b b' : Nat → xSh} {c c' : Nat → Nat → Int32} {d : Nat → Nat → Int64} {e : Nat → Nat → Option Nat} (hb : b = b') (hc : c = c') : ((a, b, c, d, e) : xSt) = (a, b', c', d, e) := by rw [hb, hc]
theorem xEx_new (h : xN g ≠ 1000000) (w : xSh) (n : Nat) : xNew (xEx L S g) w n = xEx L S (xNew g w n) := by
  have hg : ¬ 1000000 = g.1.1 := fun e => h e.symm
  have e1 : (fun a => if a = g.1.1 then w else if a = 1000000 then (.inl (.int, L) : xSh) else g.2.1 a) = fun a => if a = 1000000 then (.inl (.int, L) : xSh) else if a = g.1.1 then w else g.2.1 a := by
    funext a
    by_cases h1 : a = 1000000
    · subst h1; simp [hg]
    · simp [h1]
  have e2 : (fun a b => if a = g.1.1 then (0 : Int32) else if a = 1000000 then S b else g.2.2.1 a b) = fun a b => if a = 1000000 then S b else if a = g.1.1 then (0 : Int32) else g.2.2.1 a b := by
    funext a b
    by_cases h1 : a = 1000000
    · subst h1; simp [hg]
    · simp [h1]
  exact xSt_2 e1 e2
theorem xEx_fv (h : o ≠ 1000000) (ty : FieldType) (k : Nat) : xFv ty (xEx L S g) o k = xFv ty g o k := by
  cases ty <;> simp only [xFv, xEx_I h] <;> rfl
theorem xEx_fw (h : o ≠ 1000000) {ty : FieldType} {k : Nat} {v : Value} (hw : xFw ty g o k v = some g') : xFw ty (xEx L S g) o k v = some (xEx L S g') ∧ xH g' = xH g ∧ xN g' = xN g := by
  unfold xFw at hw
  split at hw
  · split at hw
    · cases hw; exact ⟨by simp only [xFw, xEx_wi h], rfl, rfl⟩
    · cases hw
  · split at hw
    · split at hw
      · rename_i hx
        cases hw; exact ⟨by simp only [xFw, if_pos hx, xEx_wi h], rfl, rfl⟩
      · cases hw
    · cases hw
  · split at hw
    · cases hw; exact ⟨rfl, rfl, rfl⟩
    · cases hw
  · split at hw
    · cases hw; exact ⟨rfl, rfl, rfl⟩
    · cases hw
  · split at hw
    · cases hw; exact ⟨rfl, rfl, rfl⟩
    · cases hw
  · cases hw
theorem xNo_wi (hn : xNo g) {k : Nat} {v : Int32} : xNo (xWI g o k v) := hn
theorem xNo_new (hn : xNo g) (hm : xMay g = true) {w : xSh} {n : Nat} : xNo (xNew g w n) := by
  have h1 : xN g < 1000000 := of_decide_eq_true hm
  refine ⟨h1, ?_⟩
  show (if 1000000 = g.1.1 then w else g.2.1 1000000) = _
  rw [if_neg (by show ¬ 1000000 = xN g; omega)]
  exact hn.2
theorem xEx_hp {own : Nat} {ini : Bool} {i : Instr} {st st' : List Value} (hn : xNo g) (h : xHp own ini i st g = some (st', g')) : xHp own ini i st (xEx L S g) = some (st', xEx L S g') ∧ xNo g' := by
  have ne : ∀ {o : Nat}, o < xN g → o ≠ 1000000 := fun h => by have := hn.1; omega
  have may : xMay (xEx L S g) = xMay g := rfl
  have nx : xN (xEx L S g) = xN g := rfl
  have nw : xMay g = true → xN g ≠ 1000000 := fun hm => Nat.ne_of_lt (of_decide_eq_true hm)
  unfold xHp at h
  split at h
  · split at h
    · rename_i hf
      split at h
      · rename_i hc; cases h
        exact ⟨by simp only [xHp, hf, xEx_is hn, hc, if_true, xEx_fv (ne (xIs_iff hc).1)], hn⟩
      · cases h
    · cases h
  · split at h
    · rename_i hf
      split at h
      · rename_i hc
        split at h
        · rename_i hw
          cases h
          obtain ⟨a1, a2, a3⟩ := xEx_fw (L := L) (S := S) (ne (xIs_iff hc.1).1) hw
          refine ⟨?_, by unfold xNo; rw [a2, a3]; exact hn⟩
          simp only [xHp, hf, xEx_is hn]
          rw [if_pos hc]
          simp only [a1]
        · cases h
      · cases h
    · cases h
  · split at h
    · split at h
      · rename_i hc; cases h
        rw [xNoS hn] at hc
        have hc : xAr g _ .int _ = true := hc.resolve_right (by simp)
        obtain ⟨_, _, ho, _⟩ := xAr_iff hc
        exact ⟨by simp only [xHp, xEx_ar hn, hc, true_or, if_true, xEx_I (ne ho)], hn⟩
      · cases h
    · cases h
  · split at h
    · split at h
      · rename_i hc; cases h
        have ho : _ < xN g := hc.elim (fun q => by obtain ⟨_, _, ho, _⟩ := xAr_iff q; exact ho) (fun q => by obtain ⟨_, _, ho, _⟩ := xAr_iff q; exact ho)
        refine ⟨?_, hn⟩
        simp only [xHp, xEx_ar hn, xEx_I (ne ho)]
        rw [if_pos hc]
      · cases h
    · cases h
  · split at h
    · split at h
      · rename_i hc; cases h
        refine ⟨?_, hn⟩
        simp only [xHp, xEx_ar hn]
        rw [if_pos hc]
        rfl
      · cases h
    · cases h
  · split at h
    · split at h
      · rename_i hc; cases h
        refine ⟨?_, hn⟩
        simp only [xHp, xEx_ar hn]
        rw [if_pos hc]
        rfl
      · cases h
    · cases h
  · split at h
    · split at h
      · rename_i hc; cases h
        obtain ⟨_, _, ho, _⟩ := xAr_iff hc
        refine ⟨?_, hn⟩
        simp only [xHp, xEx_ar hn]
        rw [if_pos hc, xEx_wi (ne ho)]
      · cases h
    · cases h
  · split at h
    · split at h
      · rename_i hc; cases h
        obtain ⟨_, _, ho, _⟩ := xAr_iff hc
        refine ⟨?_, hn⟩
        simp only [xHp, xEx_ar hn]
        rw [if_pos hc, xEx_wi (ne ho)]
      · rename_i hc0
        split at h
        · rename_i hc; cases h
          obtain ⟨_, _, ho, _⟩ := xAr_iff hc.1
          refine ⟨?_, hn⟩
          simp only [xHp, xEx_ar hn]
          rw [if_neg hc0, if_pos hc, xEx_wi (ne ho)]
        · cases h
    · cases h
  · split at h
    · split at h
      · rename_i hc; cases h
        refine ⟨?_, hn⟩
        simp only [xHp, xEx_ar hn]
        rw [if_pos hc]
        rfl
      · cases h
    · cases h
  · split at h
    · split at h
      · rename_i hc; cases h
        refine ⟨?_, hn⟩
        simp only [xHp, xEx_ar hn, xEx_is hn]
        rw [if_pos hc]
        rfl
      · cases h
    · cases h
  · split at h
    · rename_i o r
      split at h
      · rename_i ty n hh
        split at h
        · rename_i hc; cases h
          have ho : o < xN g := by
            rcases hc with q | q
            · exact q.1
            · rw [q.2, hn.2] at hh; cases hh
          refine ⟨?_, hn⟩
          simp only [xHp, xEx_H (ne ho), hh, nx]
          rw [if_pos hc]
        · cases h
      · cases h
    · cases h
  · split at h
    · split at h
      · rename_i hc; cases h
        refine ⟨?_, xNo_new hn hc.2.1⟩
        simp only [xHp, may]
        rw [if_pos hc, xEx_new (nw hc.2.1)]
        rfl
      · cases h
    · cases h
  · split at h
    · split at h
      · rename_i hc; cases h
        refine ⟨?_, xNo_new hn hc.2.1⟩
        simp only [xHp, may]
        rw [if_pos hc, xEx_new (nw hc.2.1)]
        rfl
      · cases h
    · cases h
  · split at h
    · rename_i hw
      split at h
      · rename_i hc; cases h
        refine ⟨?_, xNo_new hn hc⟩
        simp only [xHp, hw, may]
        rw [if_pos hc, xEx_new (nw hc)]
        rfl
      · cases h
    · cases h
  · split at h
    · rename_i hk; cases h; exact ⟨by simp only [xHp, hk], hn⟩
    · rename_i hk
      split at h
      · rename_i hk2; cases h; exact ⟨by simp only [xHp, hk, hk2], hn⟩
      · cases h
  · split at h
    · rename_i hk; cases h; exact ⟨by simp only [xHp, hk], hn⟩
    · cases h
  · split at h
    · rename_i hk; cases h; exact ⟨by simp only [xHp, hk], hn⟩
    · cases h
  · split at h
    · rename_i hk
      split at h
      · split at h
        · rename_i hc; cases h
          refine ⟨?_, hn⟩
          simp only [xHp]
          rw [if_pos hk, if_pos hc]
        · cases h
      · cases h
    · cases h
  · split at h
    · rename_i hk
      split at h
      · split at h
        · rename_i hc; cases h
          refine ⟨?_, hn⟩
          simp only [xHp, hk]
          rw [if_pos hc]
        · cases h
      · cases h
    · rename_i hk
      split at h
      · rename_i hk2
        split at h
        · split at h
          · rename_i hc; cases h
            refine ⟨?_, hn⟩
            simp only [xHp, hk]
            rw [if_pos hk2, if_pos hc]
          · cases h
        · cases h
      · cases h
  · cases h
theorem xEx_call (hn : xNo g) (own : Nat) (i : Instr) (len : Nat) (st : List Value) : xCall own i len st (xEx L S g) = xCall own i len st g := by
  unfold xCall
  simp only [xEx_is hn]
theorem xEx_step {y : xMI} {i : Instr} {len pc pc' : Nat} {al al' : xAL} {st st' : List Value} (hn : xNo g) (h : xStep y i len pc al st g = some (pc', al', st', g')) : xStep y i len pc al st (xEx L S g) = some (pc', al', st', xEx L S g') ∧ xNo g' := by
  unfold xStep at h
  split at h
  · rename_i hj; cases h; exact ⟨by simp only [xStep, hj], hn⟩
  · rename_i hj
    split at h
    · rename_i hl
      split at h
      · rename_i ho; cases h; refine ⟨?_, hn⟩; simp only [xStep, hj]; rw [if_pos hl]; simp only [ho]
      · rename_i ho1
        split at h
        · rename_i ho; cases h; refine ⟨?_, hn⟩; simp only [xStep, hj]; rw [if_pos hl]; simp only [ho1, ho]
        · rename_i ho2
          split at h
          · rename_i ho; cases h
            obtain ⟨a1, a2⟩ := xEx_hp (L := L) (S := S) hn ho
            refine ⟨?_, a2⟩
            simp only [xStep, hj]; rw [if_pos hl]; simp only [ho1, ho2, a1]
          · cases h
    · cases h
theorem xEx_run (n : Nat) : ∀ (d : Nat) (y : xMI) (pc : Nat) (al : xAL) (st : List Value) (g : xSt) (v : Option Value) (g' : xSt), xNo g → xRun n d y pc al st g = some (v, g') → xRun n d y pc al st (xEx L S g) = some (v, xEx L S g') ∧ xNo g' := by
  induction n with
  | zero => intro d y pc al st g v g' _ h; cases h
  | succ n ih =>
    intro d y pc al st g v g' hn h
    rw [xRun] at h
    rw [xRun]
    split at h
    · cases h
    · rename_i i len hd
      try simp only [hd]
      split at h
      · rename_i hv; cases h; exact ⟨by try simp only [hv], hn⟩
      · rename_i hv
        try simp only [hv]
        rw [xEx_call hn]
        split at h
        · rename_i hc
          try simp only [hc]
          cases d with
          | zero => cases h
          | succ d =>
            dsimp only at h ⊢
            split at h
            · rename_i h1
              obtain ⟨a1, a2⟩ := ih _ _ _ _ _ _ _ _ hn h1
              try simp only [a1]
              exact ih _ _ _ _ _ _ _ _ a2 h
            · cases h
        · rename_i hc
          try simp only [hc]
          split at h
          · rename_i hs
            obtain ⟨a1, a2⟩ := xEx_step (L := L) (S := S) hn hs
            try simp only [a1]
            exact ih _ _ _ _ _ _ _ _ a2 h
          · cases h
end EX
