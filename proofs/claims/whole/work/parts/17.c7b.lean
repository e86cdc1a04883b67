/-! whole rows written; contracts of Rows' loops -/
def xRowI (g : xSt) (o : Nat) (f : Nat → Int32) : xSt := (g.1, g.2.1, fun a b => if a = o then f b else g.2.2.1 a b, g.2.2.2.1, g.2.2.2.2)
def xRowL (g : xSt) (o : Nat) (f : Nat → Int64) : xSt := (g.1, g.2.1, g.2.2.1, fun a b => if a = o then f b else g.2.2.2.1 a b, g.2.2.2.2)
theorem xI_RowI (g : xSt) (o : Nat) (f : Nat → Int32) (a b : Nat) : xI (xRowI g o f) a b = if a = o then f b else xI g a b := rfl
theorem xI_RowI_own (g : xSt) (o : Nat) (f : Nat → Int32) : xI (xRowI g o f) o = f := by funext b; exact if_pos rfl
theorem xI_RowI_ne (g : xSt) {o a : Nat} (f : Nat → Int32) (h : a ≠ o) : xI (xRowI g o f) a = xI g a := by funext b; exact if_neg h
theorem xL_RowL_own (g : xSt) (o : Nat) (f : Nat → Int64) : xL (xRowL g o f) o = f := by funext b; exact if_pos rfl
theorem xL_RowL_ne (g : xSt) {o a : Nat} (f : Nat → Int64) (h : a ≠ o) : xL (xRowL g o f) a = xL g a := by funext b; exact if_neg h
theorem xWf_RowI {g : xSt} (W : xWf g) (o : Nat) (f : Nat → Int32) : xWf (xRowI g o f) := W
theorem xWf_RowL {g : xSt} (W : xWf g) (o : Nat) (f : Nat → Int64) : xWf (xRowL g o f) := W
theorem xRowI_id (g : xSt) (o : Nat) : xRowI g o (xI g o) = g := by
  have : (fun a b => if a = o then xI g o b else g.2.2.1 a b) = g.2.2.1 := by
    funext a b
    by_cases h : a = o
    · rw [if_pos h, h]; rfl
    · rw [if_neg h]
  unfold xRowI
  rw [this]
theorem xRowI_WI (g : xSt) (o : Nat) (f : Nat → Int32) (k : Nat) (v : Int32) : xWI (xRowI g o f) o k v = xRowI g o (fun j => if j = k then v else f j) := by
  unfold xWI xRowI x2
  congr 2
  congr 1
  funext a b
  by_cases h : a = o
  · subst h; simp
  · simp [h]
theorem xRowI_congr (g : xSt) (o : Nat) {f f' : Nat → Int32} (h : ∀ j, f j = f' j) : xRowI g o f = xRowI g o f' := by rw [show f = f' from funext h]
theorem xWI_row (g : xSt) (o k : Nat) (v : Int32) : xWI g o k v = xRowI g o (fun j => if j = k then v else xI g o j) := by
  conv => lhs; rw [← xRowI_id g o]
  exact xRowI_WI _ _ _ _ _
/-- Rows.fill -/
theorem c_fill {d : Nat} {g : xSt} {o n : Nat} {v : Int32} (ho : xArr g o .int n) (hn : n < 2 ^ 31 := by decide) : xCallM d mX7_fill [.ref o, .int v] g = some (none, xRowI g o (fun j => if j < n then v else xI g o j)) := by
  have loop : ∀ m k : Nat, m + k = n → xX d mX7_fill 2 [some (.ref o), some (.int v), some (.int (nI k))] [] (xRowI g o (fun j => if j < k then v else xI g o j)) = some (none, xRowI g o (fun j => if j < n then v else xI g o j)) := by
    intro m
    induction m with
    | zero =>
      intro k hk
      have : k = n := by omega
      subst this
      exact bX7_fill_2 (o := o) (n := k) ho (fun _ => bX7_fill_18 rfl) (fun q => absurd (nI_le (Nat.le_refl k) hn) q)
    | succ m ih =>
      intro k hk
      refine bX7_fill_2 (o := o) (n := n) ho (fun q => absurd q (nI_ge (by omega) hn)) (fun _ => bX7_fill_8 (o := o) (n := n) ho (vp_in_nI (by omega) hn) ?_)
      rw [nI_1, nI_clamp (by omega), xRowI_WI, xRowI_congr g o (f' := fun j => if j < k + 1 then v else xI g o j) (fun j => ?_)]
      · exact ih (k + 1) (by omega)
      · by_cases h1 : j = k
        · subst h1; simp
        · rw [if_neg h1]
          by_cases h2 : j < k
          · rw [if_pos h2, if_pos (by omega)]
          · rw [if_neg h2, if_neg (by omega)]
  refine bX7_fill_0 ho ?_
  have := loop n 0 (by omega)
  rw [xRowI_congr g o (f' := xI g o) (fun j => by simp), xRowI_id] at this
  exact this
/-- Rows.copy: the first row's values, as many as both rows have -/
theorem c_copy {d : Nat} {g : xSt} {o c n n2 : Nat} (ho : xArr g o .int n) (hc : xArr g c .int n2) (hoc : o ≠ c) (hn : n < 2 ^ 31 := by decide) (hn2 : n2 < 2 ^ 31 := by decide) : xCallM d mX7_copy [.ref o, .ref c] g = some (none, xRowI g c (fun j => if j < n ∧ j < n2 then xI g o j else xI g c j)) := by
  have loop : ∀ m k : Nat, m + k = min n n2 → xX d mX7_copy 2 [some (.ref o), some (.ref c), some (.int (nI k))] [] (xRowI g c (fun j => if j < k then xI g o j else xI g c j)) = some (none, xRowI g c (fun j => if j < n ∧ j < n2 then xI g o j else xI g c j)) := by
    intro m
    induction m with
    | zero =>
      intro k hk
      have fin : xRowI g c (fun j => if j < k then xI g o j else xI g c j) = xRowI g c (fun j => if j < n ∧ j < n2 then xI g o j else xI g c j) := by
        refine xRowI_congr g c (fun j => ?_)
        by_cases h : j < k
        · rw [if_pos h, if_pos (by omega)]
        · rw [if_neg h, if_neg (by omega)]
      rw [fin]
      by_cases h : n ≤ n2
      · exact bX7_copy_2 (o := o) (n := n) (c := c) (n2 := n2) ho hc (fun _ => bX7_copy_26 rfl) (fun q => absurd (nI_le (by omega) (by omega)) q)
      · exact bX7_copy_2 (o := o) (n := n) (c := c) (n2 := n2) ho hc (fun _ => bX7_copy_26 rfl) (fun _ => bX7_copy_8 (o := o) (n := n) (c := c) (n2 := n2) ho hc (fun _ => bX7_copy_26 rfl) (fun q => absurd (nI_le (by omega) (by omega)) q))
    | succ m ih =>
      intro k hk
      refine bX7_copy_2 (o := o) (n := n) (c := c) (n2 := n2) ho hc (fun q => absurd q (nI_ge (by omega) hn)) (fun _ => bX7_copy_8 (o := o) (n := n) (c := c) (n2 := n2) ho hc (fun q => absurd q (nI_ge (by omega) hn2)) (fun _ => bX7_copy_14 (o := o) (n := n) (c := c) (n2 := n2) ho hc (vp_in_nI (by omega) hn) (vp_in_nI (by omega) hn2) ?_))
      rw [nI_1, nI_clamp (by omega), xI_RowI_ne _ _ hoc, xRowI_WI, xRowI_congr g c (f' := fun j => if j < k + 1 then xI g o j else xI g c j) (fun j => ?_)]
      · exact ih (k + 1) (by omega)
      · by_cases h1 : j = k
        · subst h1; simp
        · rw [if_neg h1]
          by_cases h2 : j < k
          · rw [if_pos h2, if_pos (by omega)]
          · rw [if_neg h2, if_neg (by omega)]
  refine bX7_copy_0 ho hc ?_
  have := loop (min n n2) 0 (by omega)
  rw [xRowI_congr g c (f' := xI g c) (fun j => by simp), xRowI_id] at this
  exact this
/-- where a value is first, among the first m of a row -/
def xfind (f : Nat → Int64) (m : Nat) (v : Int64) : Nat → Nat → Int32
  | 0, _ => -1
  | q + 1, k => if k < m ∧ f k = v then nI k else if k < m then xfind f m v q (k + 1) else -1
theorem lg_cmp0 (a b : Int64) : lg_cmp a b = 0 ↔ a = b := by
  unfold lg_cmp
  constructor
  · intro h
    by_cases h1 : a > b
    · rw [if_pos h1] at h; exact absurd h (by decide)
    · rw [if_neg h1] at h
      by_cases h2 : a = b
      · exact h2
      · rw [if_neg h2] at h; exact absurd h (by decide)
  · rintro rfl
    rw [if_neg (by simp), if_pos rfl]
theorem c_find {d : Nat} {g : xSt} {o n m : Nat} {v : Int64} (ho : xArr g o .long n) (hm : m ≤ n) (hn : n < 2 ^ 31 := by decide) : xCallM d mX7_find [.ref o, .int (nI m), .long v] g = some (some (.int (xfind (xL g o) m v m 0)), g) := by
  have loop : ∀ q k : Nat, q + k = m → xX d mX7_find 3 [some (.ref o), some (.int (nI m)), some (.long v), none, some (.int (nI k))] [] g = some (some (.int (xfind (xL g o) m v q k)), g) := by
    intro q
    induction q with
    | zero =>
      intro k hk
      have : k = m := by omega
      subst this
      exact bX7_find_3 ho (fun _ => bX7_find_34 rfl) (fun w => absurd (nI_le (Nat.le_refl k) (by omega)) w)
    | succ q ih =>
      intro k hk
      refine bX7_find_3 ho (fun w => absurd w (nI_ge (by omega) (by omega))) (fun _ => bX7_find_9 ho (fun w => absurd w (nI_ge (by omega) hn)) (fun _ => bX7_find_16 ho (vp_in_nI (by omega) hn) (fun e => ?_) (fun e => ?_)))
      · rw [lg_cmp0, nI_clamp (by omega)] at e
        refine bX7_find_25 ?_
        rw [xfind, if_pos ⟨by omega, e⟩]
      · rw [lg_cmp0, nI_clamp (by omega)] at e
        refine bX7_find_28 ho ?_
        rw [nI_1, xfind, if_neg (fun h => e h.2), if_pos (by omega)]
        exact ih (k + 1) (by omega)
  exact bX7_find_0 ho (loop m 0 (by omega))
/-- how many bits of n are 1, among the first k -/
def xpop : Nat → Nat → Nat
  | 0, _ => 0
  | k + 1, n => n % 2 + xpop k (n / 2)
theorem xbci_small : ∀ n, n < 1024 → xbci (nI n) = nI (xpop 10 n) := by decide +kernel
theorem xlow_mask : ∀ t, t < 63 → xbcl (Int64.ofNat (2 ^ t - 1)) = nI t := by decide +kernel
theorem xlow_small : ∀ n, n < 1024 → 0 < n → xlow (Int32.toInt64 (nI n)) = nI ((List.range 10).findIdx (fun t => n / 2 ^ t % 2 == 1)) := by decide +kernel
