/-! EXTRACTION, its words: a method as a function of the store, none where the machine would throw or go on for ever; loops as limits of their steps; what a method may write -/
section XB
variable {α β γ ε : Type}
abbrev xlt (a : α) (f : α → β) : β := f a
def xb1 (o : Option α) (f : α → Option β) : Option β := match o with
  | none => none
  | some a => f a
def xb2 (o : Option (α × γ)) (f : α → γ → Option β) : Option β := match o with
  | none => none
  | some (a, b) => f a b
def xbs (o : Option (α ⊕ ε)) (f : α → Option β) (k : ε → Option β) : Option β := match o with
  | none => none
  | some (.inl a) => f a
  | some (.inr e) => k e
def xck (n : Nat) (j : Int32) (k : Option β) : Option β := if j < 0 ∨ n ≤ j.toNatClampNeg then none else k
def xnz (y : Int32) (k : Option β) : Option β := if y = 0 then none else k
def xz01 (y : Int32) (k : Option β) : Option β := if y = 0 ∨ y = 1 then k else none
theorem xb1_some (a : α) (f : α → Option β) : xb1 (some a) f = f a := rfl
theorem xb2_some (a : α) (b : γ) (f : α → γ → Option β) : xb2 (some (a, b)) f = f a b := rfl
theorem xbs_inl (a : α) (f : α → Option β) (k : ε → Option β) : xbs (some (.inl a)) f k = f a := rfl
theorem xbs_inr (e : ε) (f : α → Option β) (k : ε → Option β) : xbs (some (.inr e)) f k = k e := rfl
theorem xbE1 {o : Option α} {f : α → Option β} {r : β} (h : xb1 o f = some r) {T : Prop} (k : ∀ a, o = some a → f a = some r → T) : T := by
  cases o with
  | none => cases h
  | some a => exact k a rfl h
theorem xbE2 {o : Option (α × γ)} {f : α → γ → Option β} {r : β} (h : xb2 o f = some r) {T : Prop} (k : ∀ a b, o = some (a, b) → f a b = some r → T) : T := by
  cases o with
  | none => cases h
  | some q => exact k q.1 q.2 rfl h
theorem xbsE {o : Option (α ⊕ ε)} {f : α → Option β} {k : ε → Option β} {r : β} (h : xbs o f k = some r) {T : Prop} (k1 : ∀ a, o = some (.inl a) → f a = some r → T) (k2 : ∀ e, o = some (.inr e) → k e = some r → T) : T := by
  cases o with
  | none => cases h
  | some q => cases q with
    | inl a => exact k1 a rfl h
    | inr e => exact k2 e rfl h
theorem xckE {n : Nat} {j : Int32} {k : Option β} {r : β} (h : xck n j k = some r) {T : Prop} (q : vp_in j n → k = some r → T) : T := by
  unfold xck at h
  by_cases c : j < 0 ∨ n ≤ j.toNatClampNeg
  · rw [if_pos c] at h; cases h
  · rw [if_neg c] at h; exact q c h
theorem xck_in {n : Nat} {j : Int32} {k : Option β} (h : vp_in j n) : xck n j k = k := if_neg h
theorem xck_nI {n i : Nat} {k : Option β} (h : i < n) (hn : n < 2 ^ 31) : xck n (nI i) k = k := if_neg (vp_in_nI h hn)
theorem xnzE {y : Int32} {k : Option β} {r : β} (h : xnz y k = some r) {T : Prop} (q : ¬ y = 0 → k = some r → T) : T := by
  unfold xnz at h
  by_cases c : y = 0
  · rw [if_pos c] at h; cases h
  · rw [if_neg c] at h; exact q c h
theorem xnz_ne {y : Int32} {k : Option β} (h : ¬ y = 0) : xnz y k = k := if_neg h
theorem xz01E {y : Int32} {k : Option β} {r : β} (h : xz01 y k = some r) {T : Prop} (q : y = 0 ∨ y = 1 → k = some r → T) : T := by
  unfold xz01 at h
  by_cases c : y = 0 ∨ y = 1
  · rw [if_pos c] at h; exact q c h
  · rw [if_neg c] at h; cases h
theorem xz01_in {y : Int32} {k : Option β} (h : y = 0 ∨ y = 1) : xz01 y k = k := if_pos h
theorem ifp {c : Prop} {_ : Decidable c} {A B r : α} (h : (if c then A else B) = r) (q : c) : A = r := (if_pos q).symm.trans h
theorem ifn {c : Prop} {_ : Decidable c} {A B r : α} (h : (if c then A else B) = r) (q : ¬ c) : B = r := (if_neg q).symm.trans h
theorem xbr {c A B X P : Prop} (f : (c → A) → (¬ c → B) → X) (h1 : c → A ∧ P) (h2 : ¬ c → B ∧ P) : X ∧ P :=
  (Classical.em c).elim (fun q => ⟨f (fun _ => (h1 q).1) (fun n => absurd q n), (h1 q).2⟩) (fun q => ⟨f (fun p => absurd p q) (fun _ => (h2 q).1), (h2 q).2⟩)
theorem xto {A X P : Prop} (f : A → X) (h : A ∧ P) : X ∧ P := ⟨f h.1, h.2⟩
/-! loops -/
def xloop (step : α → Option (α ⊕ β)) : Nat → α → Option β
  | 0, _ => none
  | n + 1, s => match step s with
    | none => none
    | some (.inl t) => xloop step n t
    | some (.inr e) => some e
theorem xloop_mono (step : α → Option (α ⊕ β)) (n : Nat) : ∀ (s : α) (e : β), xloop step n s = some e → xloop step (n + 1) s = some e := by
  induction n with
  | zero => intro s e h; cases h
  | succ n ih =>
    intro s e h
    rw [xloop] at h ⊢
    split at h
    · cases h
    · exact ih _ _ h
    · exact h
theorem xloop_le {step : α → Option (α ⊕ β)} {n m : Nat} (hnm : n ≤ m) {s : α} {e : β} (h : xloop step n s = some e) : xloop step m s = some e := by
  induction hnm with
  | refl => exact h
  | step _ ih => exact xloop_mono _ _ _ _ ih
noncomputable def xlim (step : α → Option (α ⊕ β)) (s : α) : Option β :=
  @dite _ (∃ e n, xloop step n s = some e) (Classical.propDecidable _) (fun h => some (Classical.choose h)) (fun _ => none)
theorem xlim_iff {step : α → Option (α ⊕ β)} {s : α} {e : β} : xlim step s = some e ↔ ∃ n, xloop step n s = some e := by
  unfold xlim
  by_cases h : ∃ e n, xloop step n s = some e
  · rw [dif_pos h]
    obtain ⟨n, hn⟩ := Classical.choose_spec h
    constructor
    · intro q
      rw [← Option.some.inj q]
      exact ⟨n, hn⟩
    · rintro ⟨m, hm⟩
      exact (xloop_le (Nat.le_max_left n m) hn).symm.trans (xloop_le (Nat.le_max_right n m) hm)
  · rw [dif_neg h]
    exact ⟨fun q => (by cases q), fun q => absurd ⟨e, q⟩ h⟩
theorem xlim_run {step : α → Option (α ⊕ β)} {T : α → Prop} {U : β → Prop} {s : α} {e : β} (h : xlim step s = some e) (k : U e) (hs : ∀ s o, step s = some o → Sum.elim T U o → T s) : T s := by
  obtain ⟨n, hn⟩ := xlim_iff.mp h
  clear h
  induction n generalizing s with
  | zero => cases hn
  | succ n ih =>
    rw [xloop] at hn
    split at hn
    · cases hn
    · rename_i t ht
      exact hs s _ ht (ih hn)
    · rename_i e' he
      cases hn
      exact hs s _ he k
/-- one turn more -/
theorem xlim_go {step : α → Option (α ⊕ β)} {s t : α} (h : step s = some (.inl t)) : xlim step s = xlim step t := by
  have key : ∀ e, xlim step s = some e ↔ xlim step t = some e := by
    intro e
    rw [xlim_iff, xlim_iff]
    constructor
    · rintro ⟨n, hn⟩
      cases n with
      | zero => cases hn
      | succ n => rw [xloop, h] at hn; exact ⟨n, hn⟩
    · rintro ⟨n, hn⟩
      exact ⟨n + 1, by rw [xloop, h]; exact hn⟩
  cases hh : xlim step t with
  | some e => exact (key e).mpr hh
  | none =>
    cases h2 : xlim step s with
    | none => rfl
    | some e => rw [(key e).mp h2] at hh; cases hh
theorem xlim_end {step : α → Option (α ⊕ β)} {s : α} {e : β} (h : step s = some (.inr e)) : xlim step s = some e := xlim_iff.mpr ⟨1, by rw [xloop, h]⟩
/-- N turns by given states, then the end -/
theorem xlim_of {step : α → Option (α ⊕ β)} (St : Nat → α) (N : Nat) {e : β} (h : ∀ j, j < N → step (St j) = some (.inl (St (j + 1)))) (he : step (St N) = some (.inr e)) : xlim step (St 0) = some e := by
  have : ∀ m k, m + k = N → xlim step (St k) = some e := by
    intro m
    induction m with
    | zero => intro k hk; rw [show k = N by omega]; exact xlim_end he
    | succ m ih => intro k hk; rw [xlim_go (h k (by omega))]; exact ih (k + 1) (by omega)
  exact this N 0 (by omega)
theorem xlim_from {step : α → Option (α ⊕ β)} (St : Nat → α) (a N : Nat) (ha : a ≤ N) {e : β} (h : ∀ j, a ≤ j → j < N → step (St j) = some (.inl (St (j + 1)))) (he : step (St N) = some (.inr e)) : xlim step (St a) = some e := by
  have : ∀ m k, m + k = N → a ≤ k → xlim step (St k) = some e := by
    intro m
    induction m with
    | zero => intro k hk _; rw [show k = N by omega]; exact xlim_end he
    | succ m ih => intro k hk hak; rw [xlim_go (h k hak (by omega))]; exact ih (k + 1) (by omega) (by omega)
  exact this (N - a) a (by omega) (Nat.le_refl a)
/-- by an invariant and a measure: it ends, and what the end says -/
theorem xlim_inv {step : α → Option (α ⊕ β)} (P : α → Prop) (Q : β → Prop) (μ : α → Nat) (h : ∀ s, P s → (∃ t, step s = some (.inl t) ∧ P t ∧ μ t < μ s) ∨ ∃ e, step s = some (.inr e) ∧ Q e) {s : α} (hs : P s) : ∃ e, xlim step s = some e ∧ Q e := by
  have : ∀ n s, μ s ≤ n → P s → ∃ e, xlim step s = some e ∧ Q e := by
    intro n
    induction n with
    | zero =>
      intro s hn hp
      rcases h s hp with ⟨t, _, _, h3⟩ | ⟨e, h1, h2⟩
      · omega
      · exact ⟨e, xlim_end h1, h2⟩
    | succ n ih =>
      intro s hn hp
      rcases h s hp with ⟨t, h1, h2, h3⟩ | ⟨e, h1, h2⟩
      · obtain ⟨e, he, hq⟩ := ih t (by omega) h2
        exact ⟨e, (xlim_go h1).trans he, hq⟩
      · exact ⟨e, xlim_end h1, h2⟩
  exact this (μ s) s (Nat.le_refl _) hs
end XB
/-! what may be written: rows A (whole cells), fields B -/
def xFr (A : List Nat) (B : List (Nat × Nat)) (g g' : xSt) : Prop := g'.1 = g.1 ∧ g'.2.1 = g.2.1 ∧ g'.2.2.2.2 = g.2.2.2.2 ∧ ∀ o, o ∉ A → ∀ k, (o, k) ∉ B → xI g' o k = xI g o k ∧ xL g' o k = xL g o k
section XF
variable {A A1 : List Nat} {B B1 : List (Nat × Nat)} {g0 g g1 : xSt} {o : Nat}
theorem xFr.refl (A : List Nat) (B : List (Nat × Nat)) (g : xSt) : xFr A B g g := ⟨rfl, rfl, rfl, fun _ _ _ _ => ⟨rfl, rfl⟩⟩
theorem x2_out {α : Type} (f : Nat → Nat → α) {o k a b : Nat} {v : α} (h : ¬ (a = o ∧ b = k)) : x2 f o k v a b = f a b := by
  unfold x2
  by_cases h1 : a = o
  · rw [if_pos h1, if_neg (fun h2 => h ⟨h1, h2⟩)]
  · rw [if_neg h1]
theorem xFr.wiA (h : xFr A B g0 g) (m : o ∈ A) {k : Nat} {v : Int32} : xFr A B g0 (xWI g o k v) := ⟨h.1, h.2.1, h.2.2.1, fun a ha b hb => ⟨(x2_out _ (fun q => ha (by rw [q.1]; exact m))).trans (h.2.2.2 a ha b hb).1, (h.2.2.2 a ha b hb).2⟩⟩
theorem xFr.wlA (h : xFr A B g0 g) (m : o ∈ A) {k : Nat} {v : Int64} : xFr A B g0 (xWL g o k v) := ⟨h.1, h.2.1, h.2.2.1, fun a ha b hb => ⟨(h.2.2.2 a ha b hb).1, (x2_out _ (fun q => ha (by rw [q.1]; exact m))).trans (h.2.2.2 a ha b hb).2⟩⟩
theorem xFr.wiB {k : Nat} (h : xFr A B g0 g) (m : (o, k) ∈ B) (v : Int32) : xFr A B g0 (xWI g o k v) := ⟨h.1, h.2.1, h.2.2.1, fun a ha b hb => ⟨(x2_out _ (fun q => hb (by rw [q.1, q.2]; exact m))).trans (h.2.2.2 a ha b hb).1, (h.2.2.2 a ha b hb).2⟩⟩
theorem xFr.wlB {k : Nat} (h : xFr A B g0 g) (m : (o, k) ∈ B) (v : Int64) : xFr A B g0 (xWL g o k v) := ⟨h.1, h.2.1, h.2.2.1, fun a ha b hb => ⟨(h.2.2.2 a ha b hb).1, (x2_out _ (fun q => hb (by rw [q.1, q.2]; exact m))).trans (h.2.2.2 a ha b hb).2⟩⟩
theorem xFr.put (h : xFr A B g0 g) (m : o ∈ A) {n : Nat} {i v : Int32} : xFr A B g0 (xput g o n i v) := by
  unfold xput
  split
  · exact h
  · exact h.wiA m
theorem xFr.putL (h : xFr A B g0 g) (m : o ∈ A) {n : Nat} {i : Int32} {v : Int64} : xFr A B g0 (xputL g o n i v) := by
  unfold xputL
  split
  · exact h
  · exact h.wlA m
theorem xFr.add (h : xFr A B g0 g) (m : o ∈ A) {n : Nat} {i v : Int32} : xFr A B g0 (xadd g o n i v) := by
  unfold xadd
  split
  · exact h
  · exact h.wiA m
theorem xsub_nil {α : Type} {P : α → Prop} : ∀ x ∈ ([] : List α), P x := fun _ h => absurd h List.not_mem_nil
theorem xsub_cons {α : Type} {P : α → Prop} {a : α} {l : List α} (h : P a) (hs : ∀ x ∈ l, P x) : ∀ x ∈ a :: l, P x := fun x hx => (List.mem_cons.mp hx).elim (fun e => e ▸ h) (hs x)
theorem xFr.tr (h : xFr A B g0 g) (h1 : xFr A1 B1 g g1) (hA : ∀ x ∈ A1, x ∈ A) (hB : ∀ x ∈ B1, x ∈ B) : xFr A B g0 g1 := ⟨h1.1.trans h.1, h1.2.1.trans h.2.1, h1.2.2.1.trans h.2.2.1, fun a ha b hb => ⟨(h1.2.2.2 a (fun q => ha (hA a q)) b (fun q => hb (hB _ q))).1.trans (h.2.2.2 a ha b hb).1, (h1.2.2.2 a (fun q => ha (hA a q)) b (fun q => hb (hB _ q))).2.trans (h.2.2.2 a ha b hb).2⟩⟩
theorem xFr.wf (h : xFr A B g0 g) (W : xWf g0) : xWf g := by
  obtain ⟨h1, h2, h3, _⟩ := h
  obtain ⟨w1, w2, w3, w4, w5, w6⟩ := W
  have hR : xR g = xR g0 := h3
  have ht : tw g = tw g0 := by unfold tw; rw [hR]
  refine ⟨?_, ?_, ?_, ?_, ?_, ?_⟩
  · show g.1.1 = 181; rw [h1]; exact w1
  · intro o ho; show g.2.1 o = _; rw [h2]; exact w2 o ho
  · intro o k t q; rw [hR]; exact w3 o k t q
  · rw [hR, ht]; exact w4
  · rw [ht]; exact w5
  · rw [hR, ht]; exact w6
theorem xFr.rr (h : xFr A B g0 g) {k t : Nat} (q : xR g0 o k = some t) : xR g o k = some t := by
  have hR : xR g = xR g0 := h.2.2.1
  rw [hR]; exact q
theorem xFr.arr (h : xFr A B g0 g) {ty : FieldType} {n : Nat} (q : xArr g0 o ty n) : xArr g o ty n := by
  refine ⟨?_, ?_⟩
  · show o < g.1.1; rw [h.1]; exact q.1
  · show g.2.1 o = _; rw [h.2.1]; exact q.2
theorem xFr.eq {r : Option Value × xSt} {v : Option Value} (k : r = (v, g)) (h : xFr A B g0 g) : xFr A B g0 r.2 := by rw [k]; exact h
theorem xFr.t_w (h : xFr A B g0 g) : tw g = tw g0 := by
  have hR : xR g = xR g0 := h.2.2.1
  unfold tw; rw [hR]
theorem xFr.i (h : xFr A B g0 g) {k : Nat} (ha : o ∉ A) (hb : (o, k) ∉ B) : xI g o k = xI g0 o k := (h.2.2.2 o ha k hb).1
theorem xFr.l (h : xFr A B g0 g) {k : Nat} (ha : o ∉ A) (hb : (o, k) ∉ B) : xL g o k = xL g0 o k := (h.2.2.2 o ha k hb).2
end XF
theorem z_xbit (b i : Int32) : xbit b i = 0 ∨ xbit b i = 1 := by
  unfold xbit
  (repeat' split) <;> first | exact Or.inl rfl | exact Or.inr rfl
/-- a boolean method answers 0 or 1 -/
theorem xRun_bool (n : Nat) : ∀ (d : Nat) (y : xMI) (pc : Nat) (al : xAL) (st : List Value) (g : xSt) (v : Int32) (g' : xSt), y.2.2.2.1 = some .boolean → xRun n d y pc al st g = some (some (.int v), g') → v = 0 ∨ v = 1 := by
  induction n with
  | zero => intro d y pc al st g v g' _ h; cases h
  | succ n ih =>
    intro d y pc al st g v g' hy h
    rw [xRun] at h
    split at h
    · cases h
    · rename_i i len hd
      split at h
      · rename_i w hv
        cases h
        rw [hy] at hv
        unfold xRet at hv
        split at hv
        · split at hv
          · rename_i h1; cases h1
          · split at hv
            · rename_i hc; cases hv; exact hc.2
            · cases hv
          · cases hv
        · split at hv
          · rename_i h1; cases h1
          · cases hv
        · split at hv
          · rename_i h1; cases h1
          · cases hv
        · cases hv
      · split at h
        · cases d with
          | zero => cases h
          | succ d =>
            dsimp only at h
            split at h
            · exact ih _ _ _ _ _ _ _ _ hy h
            · cases h
        · split at h
          · exact ih _ _ _ _ _ _ _ _ hy h
          · cases h
theorem xcb {d : Nat} {y : xMI} {as : List Value} {g g' : xSt} {v : Int32} (hy : y.2.2.2.1 = some .boolean) (h : xCallM d y as g = some (some (.int v), g')) : v = 0 ∨ v = 1 := by
  obtain ⟨n, hn⟩ := xX_iff.mp h
  exact xRun_bool n _ _ _ _ _ _ _ _ hy hn
/-! Rows.fill, Rows.copy -/
def E_X7_fill (o n : Nat) (a1 : Int32) (g : xSt) : Option xSt := some (xRowI g o (fun j => if j < n then a1 else xI g o j))
theorem xFr.row {A : List Nat} {B : List (Nat × Nat)} {g0 g : xSt} {o : Nat} (h : xFr A B g0 g) (m : o ∈ A) {f : Nat → Int32} : xFr A B g0 (xRowI g o f) := ⟨h.1, h.2.1, h.2.2.1, fun a ha b hb => ⟨(by
  rw [xI_RowI_ne _ _ (fun e => ha (by rw [e]; exact m))]; exact (h.2.2.2 a ha b hb).1), (h.2.2.2 a ha b hb).2⟩⟩
theorem e_X7_fill {d : Nat} {g : xSt} {o n : Nat} {a1 : Int32} {o_ : xSt} (W : xWf g) (ho : xArr g o .int n) (hn : n < 2 ^ 31) (h : E_X7_fill o n a1 g = some o_) : xCallM d mX7_fill [.ref o, .int a1] g = some (none, o_) ∧ xFr [o] [] g o_ := by
  cases h
  exact ⟨c_fill ho hn, (xFr.refl _ _ _).row (.head _)⟩
def E_X7_copy (o c n n2 : Nat) (g : xSt) : Option xSt := some (xRowI g c (fun j => if j < n ∧ j < n2 then xI g o j else xI g c j))
theorem e_X7_copy {d : Nat} {g : xSt} {o c n n2 : Nat} {o_ : xSt} (W : xWf g) (ho : xArr g o .int n) (hc : xArr g c .int n2) (hoc : o ≠ c) (hn : n < 2 ^ 31) (hn2 : n2 < 2 ^ 31) (h : E_X7_copy o c n n2 g = some o_) : xCallM d mX7_copy [.ref o, .ref c] g = some (none, o_) ∧ xFr [c] [] g o_ := by
  cases h
  exact ⟨c_copy ho hc hoc hn hn2, (xFr.refl _ _ _).row (.head _)⟩
theorem xb32 : xBk 32 := Or.inl rfl
/-! the reader's beginning -/
def xRd (g : xSt) (a2 : Int32) (t : Nat) : xSt := xWR (xWI (xWR g 20 1 (some 1)) 20 2 a2) 20 3 (some t)
theorem xR_rd {g : xSt} {a2 : Int32} {t o k : Nat} (h : ¬ (o = 20 ∧ (k = 1 ∨ k = 3))) : xR (xRd g a2 t) o k = xR g o k := by
  show x2 (x2 (xR g) 20 1 (some 1)) 20 3 (some t) o k = _
  rw [x2_out _ (fun q => h ⟨q.1, Or.inr q.2⟩), x2_out _ (fun q => h ⟨q.1, Or.inl q.2⟩)]
theorem xPtr_20 {k t : Nat} (h : xPtr 20 k = some t) : k = 0 := by
  cases k with
  | zero => rfl
  | succ k => cases (show (none : Option Nat) = some t from h)
theorem xWf_rd {g : xSt} {a2 : Int32} {t : Nat} (W : xWf g) (ht : xTw t) : xWf (xRd g a2 t) := by
  obtain ⟨w1, w2, w3, w4, w5, w6⟩ := W
  have h4 : xR (xRd g a2 t) 0 4 = xR g 0 4 := xR_rd (by simp)
  have h5 : xR (xRd g a2 t) 0 5 = xR g 0 5 := xR_rd (by simp)
  have ht : tw (xRd g a2 t) = tw g := by unfold tw; rw [h4]
  refine ⟨w1, w2, ?_, ?_, ?_, ?_⟩
  · intro o k t' q
    rw [xR_rd (fun e => ?_)]
    · exact w3 o k t' q
    · obtain ⟨rfl, e2⟩ := e
      have := xPtr_20 q
      omega
  · rw [h4, ht]; exact w4
  · rw [ht]; exact w5
  · rw [h5, ht]; exact w6
