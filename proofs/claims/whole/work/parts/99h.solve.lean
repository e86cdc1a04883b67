/-! THE REFERENCE'S SEARCH: levels -/
section RL
variable {g g' g1 : xSt} {n w om c lo hi k x x0 v l p s B m1 sm : Nat} {mk V ρ : Nat → Nat} {γ : Nat → Int32} {S : Nat → Bool}
def dLv (l o k : Nat) : Prop := (159 ≤ o ∧ o ≤ 163 ∧ l ≤ k) ∨ o = 156 ∨ (o = 113 ∧ k = 70) ∨ (l = 0 ∧ o = 113 ∧ k = 71)
/-- what levels from l on may change -/
def zLf (l : Nat) (g g' : xSt) : Prop := yAg (dLv l) g g' ∧ ∀ o k, ¬ ((o = 157 ∨ o = 158) ∧ l ≤ k) → o ≠ 154 → o ≠ 155 → xL g' o k = xL g o k
theorem zLf.refl : zLf l g g := ⟨yAg.refl _ _, fun _ _ _ _ _ => rfl⟩
theorem zLf.tr (h : zLf l g g1) (h2 : zLf l g1 g') : zLf l g g' := ⟨h.1.tr h2.1, fun o k a b c => (h2.2 o k a b c).trans (h.2 o k a b c)⟩
theorem zLf.dn (h : zLf (l + 1) g g') : zLf l g g' := ⟨h.1.up fun o k d => by unfold dLv at d ⊢; omega, fun o k a b c => h.2 o k (fun z => a ⟨z.1, by omega⟩) b c⟩
/-- the state of level l -/
def zLev (g : xSt) (l lo hi p s sm m1 B : Nat) : Prop := xI g 113 70 = nI l ∧ xL g 157 l = nL lo ∧ xL g 158 l = nL hi ∧ xI g 159 l = nI p ∧ xI g 160 l = nI s ∧ xI g 161 l = nI sm ∧ xI g 162 l = nI m1 ∧ xI g 163 l = nI B
def zRt (g : xSt) (w n c : Nat) (mk ρ : Nat → Nat) (γ : Nat → Int32) (x0 : Nat) : Prop := zRb g n c mk ρ ∧ zTab g w n c mk γ x0 ∧ xI g 113 72 = nI w
theorem zRb.fr (h : zLf l g g') (b : zRb g n c mk ρ) : zRb g' n c mk ρ := by
  obtain ⟨b1, ⟨b2, b3⟩, b4, b5⟩ := b
  exact ⟨(h.1.2 113 53 (by unfold dLv; omega)).trans b1, ⟨(h.1.2 113 59 (by unfold dLv; omega)).trans b2, fun x y a b c => ⟨(h.1.2 150 _ (by unfold dLv; omega)).trans (b3 x y a b c).1, (h.1.2 151 _ (by unfold dLv; omega)).trans (b3 x y a b c).2⟩⟩, fun p hp s hs => ⟨(h.2 152 _ (by omega) (by omega) (by omega)).trans (b4 p hp s hs).1, (h.2 153 _ (by omega) (by omega) (by omega)).trans (b4 p hp s hs).2⟩, fun i hi => ⟨(h.1.2 146 i (by unfold dLv; omega)).trans (b5 i hi).1, (b5 i hi).2⟩⟩
theorem zTab.same (h1 : ∀ k, xI g' 156 k = xI g 156 k) (h2 : ∀ k, xL g' 154 k = xL g 154 k) (h3 : ∀ k, xL g' 155 k = xL g 155 k) (t : zTab g w n c mk γ x0) : zTab g' w n c mk γ x0 := by
  unfold zTab zEn zWay
  simp only [h1, h2, h3]
  exact t
/-- a step that leaves the table -/
theorem zRt.fr (h : zLf l g g') (h1 : ∀ k, xI g' 156 k = xI g 156 k) (h2 : ∀ k, xL g' 154 k = xL g 154 k) (h3 : ∀ k, xL g' 155 k = xL g 155 k) (t : zRt g w n c mk ρ γ x0) : zRt g' w n c mk ρ γ x0 := ⟨t.1.fr h, t.2.1.same h1 h2 h3, (h.1.2 113 72 (by unfold dLv; omega)).trans t.2.2⟩
/-! the small steps -/
theorem r_takes (hl : l < 12) (hw : w ≤ 1) (h : zLev g l lo hi p s sm m1 B) (t : zRt g w n c mk ρ γ x0) (hv : v ≤ 1000000) (hs : sm ≤ 4000) : ∃ g', E_X12_takes (nI v) g = some g' ∧ zLev g' l lo hi p (s + 1) (if w = 0 then max sm v else sm + v) (m1 + 1) B ∧ zRt g' w n c mk ρ γ x0 ∧ zLf l g g' ∧ (∀ k, k ≠ 70 → xI g' 113 k = xI g 113 k) := by
  obtain ⟨h1, h2, h3, h4, h5, h6, h7, h8⟩ := h
  have l12 : (12 : Nat) < 2 ^ 31 := by decide
  have cl := nI_clamp (show l < 2 ^ 31 by omega)
  have k55 : ∀ u : Nat, K_X12_takes_55 (nI l) (nI u) g = some (xWI (xWI (xWI g 161 l (nI u)) 162 l (nI (m1 + 1))) 160 l (nI (s + 1))) := fun u => by
    unfold K_X12_takes_55
    rw [h1, xck_nI hl l12, xck_nI hl l12, xck_nI hl l12, xck_nI hl l12, xck_nI hl l12, cl, h7, h5, nI_1, nI_1]
  have e : E_X12_takes (nI v) g = some (xWI (xWI (xWI g 161 l (nI (if w = 0 then max sm v else sm + v))) 162 l (nI (m1 + 1))) 160 l (nI (s + 1))) := by
    unfold E_X12_takes
    rw [t.2.2, h1, cl, xck_nI hl l12, xck_nI hl l12, xck_nI hl l12, h6, k55, k55, nI_add, k55]
    by_cases w0 : w = 0
    · rw [if_pos (by rw [w0]; rfl), if_pos w0]
      by_cases d : v ≤ sm
      · rw [if_pos (nI_le d (by omega)), Nat.max_eq_left d]
      · rw [if_neg (nI_ge (by omega) (by omega)), Nat.max_eq_right (by omega)]
    · rw [if_neg (show ¬ nI w = 0 from fun z => w0 ((nI_eq (by omega) (by decide)).mp (show nI w = nI 0 from z))), if_neg w0]
  refine ⟨_, e, ⟨?_, h2, h3, ?_, ?_, ?_, ?_, ?_⟩, ?_, ?_, fun k _ => ?_⟩
  · rw [yI_wi, if_neg (by omega), yI_wi, if_neg (by omega), yI_wi, if_neg (by omega)]; exact h1
  · rw [yI_wi, if_neg (by omega), yI_wi, if_neg (by omega), yI_wi, if_neg (by omega)]; exact h4
  · rw [yI_wi, if_pos ⟨rfl, rfl⟩]
  · rw [yI_wi, if_neg (by omega), yI_wi, if_neg (by omega), yI_wi, if_pos ⟨rfl, rfl⟩]
  · rw [yI_wi, if_neg (by omega), yI_wi, if_pos ⟨rfl, rfl⟩]
  · rw [yI_wi, if_neg (by omega), yI_wi, if_neg (by omega), yI_wi, if_neg (by omega)]; exact h8
  · refine t.fr (l := l) ⟨(((yAg.refl _ g).wi (by unfold dLv; omega)).wi (by unfold dLv; omega)).wi (by unfold dLv; omega), fun _ _ _ _ _ => rfl⟩ (fun k => ?_) (fun _ => rfl) (fun _ => rfl)
    rw [yI_wi, if_neg (by omega), yI_wi, if_neg (by omega), yI_wi, if_neg (by omega)]
  · exact ⟨(((yAg.refl _ g).wi (by unfold dLv; omega)).wi (by unfold dLv; omega)).wi (by unfold dLv; omega), fun _ _ _ _ _ => rfl⟩
  · rw [yI_wi, if_neg (by omega), yI_wi, if_neg (by omega), yI_wi, if_neg (by omega)]
/-- the next pair begun, with a best value b -/
theorem r_begin97 (hl : l < 12) (h1 : xI g 113 70 = nI l) (h4 : xI g 159 l = nI p) : K_X12_endPair_97 g = some (xWI (xWI (xWI (xWI g 159 l (nI (p + 1))) 160 l 0) 161 l 0) 162 l 0) ∧ E_X12_beginPair (xWI g 159 l (nI (p + 1))) = some (xWI (xWI (xWI (xWI g 159 l (nI (p + 1))) 160 l 0) 161 l 0) 162 l 0) := by
  have l12 : (12 : Nat) < 2 ^ 31 := by decide
  have cl := nI_clamp (show l < 2 ^ 31 by omega)
  have b : E_X12_beginPair (xWI g 159 l (nI (p + 1))) = some (xWI (xWI (xWI (xWI g 159 l (nI (p + 1))) 160 l 0) 161 l 0) 162 l 0) := by
    unfold E_X12_beginPair
    rw [yI_wi, if_neg (by omega), h1, xck_nI hl l12, xck_nI hl l12, xck_nI hl l12, cl]
  refine ⟨?_, b⟩
  unfold K_X12_endPair_97
  rw [h1, xck_nI hl l12, xck_nI hl l12, cl, h4, nI_1, b, xb1_some]
theorem zLev_97 (h : zLev g l lo hi p s sm m1 B) : zLev (xWI (xWI (xWI (xWI g 159 l (nI (p + 1))) 160 l 0) 161 l 0) 162 l 0) l lo hi (p + 1) 0 0 0 B ∧ zLf l g (xWI (xWI (xWI (xWI g 159 l (nI (p + 1))) 160 l 0) 161 l 0) 162 l 0) ∧ (∀ k, xI (xWI (xWI (xWI (xWI g 159 l (nI (p + 1))) 160 l 0) 161 l 0) 162 l 0) 156 k = xI g 156 k) ∧ ∀ k, xI (xWI (xWI (xWI (xWI g 159 l (nI (p + 1))) 160 l 0) 161 l 0) 162 l 0) 113 k = xI g 113 k := by
  obtain ⟨h1, h2, h3, h4, h5, h6, h7, h8⟩ := h
  have e : ∀ o k, xI (xWI (xWI (xWI (xWI g 159 l (nI (p + 1))) 160 l 0) 161 l 0) 162 l 0) o k = if (o = 160 ∨ o = 161 ∨ o = 162) ∧ k = l then 0 else if o = 159 ∧ k = l then nI (p + 1) else xI g o k := fun o k => by
    rw [yI_wi, yI_wi, yI_wi, yI_wi]
    by_cases d : k = l
    · subst d
      by_cases c1 : o = 162
      · simp [c1]
      · by_cases c2 : o = 161
        · simp [c2]
        · by_cases c3 : o = 160
          · simp [c3]
          · simp [c1, c2, c3]
    · simp [d]
  refine ⟨⟨?_, h2, h3, ?_, ?_, ?_, ?_, ?_⟩, ⟨⟨rfl, fun o k d => ?_⟩, fun _ _ _ _ _ => rfl⟩, fun k => ?_, fun k => ?_⟩
  · rw [e, if_neg (by omega), if_neg (by omega)]; exact h1
  · rw [e, if_neg (by omega), if_pos ⟨rfl, rfl⟩]
  · rw [e, if_pos ⟨by omega, rfl⟩]; rfl
  · rw [e, if_pos ⟨by omega, rfl⟩]; rfl
  · rw [e, if_pos ⟨by omega, rfl⟩]; rfl
  · rw [e, if_neg (by omega), if_neg (by omega)]; exact h8
  · unfold dLv at d
    rw [e, if_neg (by omega), if_neg (by omega)]
  · rw [e, if_neg (by omega), if_neg (by omega)]
  · rw [e, if_neg (by omega), if_neg (by omega)]
/-- a set entered -/
theorem r_enter (hl : l < 12) (h1 : xI g 113 70 = nI l) (t : zRt g w n c mk ρ γ x0) : ∃ g', E_X12_enter (nL lo) (nL hi) g = some g' ∧ zLev g' l lo hi 0 0 0 0 1000000 ∧ zRt g' w n c mk ρ γ x0 ∧ zLf l g g' ∧ ∀ k, xI g' 113 k = xI g 113 k := by
  have l12 : (12 : Nat) < 2 ^ 31 := by decide
  have cl := nI_clamp (show l < 2 ^ 31 by omega)
  have e : E_X12_enter (nL lo) (nL hi) g = some (xWI (xWI (xWI (xWI (xWI (xWL (xWL g 157 l (nL lo)) 158 l (nL hi)) 159 l 0) 163 l 1000000) 160 l 0) 161 l 0) 162 l 0) := by
    unfold E_X12_enter E_X12_beginPair
    have q : xI (xWI (xWI (xWL (xWL g 157 l (nL lo)) 158 l (nL hi)) 159 l 0) 163 l 1000000) 113 70 = nI l := by
      rw [yI_wi, if_neg (by omega), yI_wi, if_neg (by omega)]; exact h1
    rw [h1, xck_nI hl l12, xck_nI hl l12, xck_nI hl l12, xck_nI hl l12, cl, q, xck_nI hl l12, xck_nI hl l12, xck_nI hl l12, cl, xb1_some]
  have ei : ∀ o k, xI (xWI (xWI (xWI (xWI (xWI (xWL (xWL g 157 l (nL lo)) 158 l (nL hi)) 159 l 0) 163 l 1000000) 160 l 0) 161 l 0) 162 l 0) o k = if (159 ≤ o ∧ o ≤ 162) ∧ k = l then 0 else if o = 163 ∧ k = l then 1000000 else xI g o k := fun o k => by
    rw [yI_wi, yI_wi, yI_wi, yI_wi, yI_wi]
    show (if o = 162 ∧ k = l then 0 else if o = 161 ∧ k = l then 0 else if o = 160 ∧ k = l then 0 else if o = 163 ∧ k = l then 1000000 else if o = 159 ∧ k = l then 0 else xI g o k) = _
    by_cases d : k = l
    · subst d
      by_cases c1 : o = 162
      · simp [c1]
      · by_cases c2 : o = 161
        · simp [c2]
        · by_cases c3 : o = 160
          · simp [c3]
          · by_cases c4 : o = 163
            · simp [c4]
            · by_cases c5 : o = 159
              · simp [c5]
              · rw [if_neg (by omega), if_neg (by omega), if_neg (by omega), if_neg (by omega), if_neg (by omega), if_neg (by omega), if_neg (by omega)]
    · simp [d]
  have el : ∀ o k, xL (xWI (xWI (xWI (xWI (xWI (xWL (xWL g 157 l (nL lo)) 158 l (nL hi)) 159 l 0) 163 l 1000000) 160 l 0) 161 l 0) 162 l 0) o k = if o = 158 ∧ k = l then nL hi else if o = 157 ∧ k = l then nL lo else xL g o k := fun o k => by
    rw [xL_WI, xL_WI, xL_WI, xL_WI, xL_WI, yL_wl, yL_wl]
  have fr : zLf l g (xWI (xWI (xWI (xWI (xWI (xWL (xWL g 157 l (nL lo)) 158 l (nL hi)) 159 l 0) 163 l 1000000) 160 l 0) 161 l 0) 162 l 0) := ⟨⟨rfl, fun o k d => by
    unfold dLv at d
    rw [ei, if_neg (by omega), if_neg (by omega)]⟩, fun o k d _ _ => by rw [el, if_neg (by omega), if_neg (by omega)]⟩
  refine ⟨_, e, ⟨?_, ?_, ?_, ?_, ?_, ?_, ?_, ?_⟩, t.fr fr (fun k => ?_) (fun k => ?_) (fun k => ?_), fr, fun k => ?_⟩
  · rw [ei, if_neg (by omega), if_neg (by omega)]; exact h1
  · rw [el, if_neg (by omega), if_pos ⟨rfl, rfl⟩]
  · rw [el, if_pos ⟨rfl, rfl⟩]
  · rw [ei, if_pos ⟨by omega, rfl⟩]; rfl
  · rw [ei, if_pos ⟨by omega, rfl⟩]; rfl
  · rw [ei, if_pos ⟨by omega, rfl⟩]; rfl
  · rw [ei, if_pos ⟨by omega, rfl⟩]; rfl
  · rw [ei, if_neg (by omega), if_pos ⟨rfl, rfl⟩]; rfl
  · rw [ei, if_neg (by omega), if_neg (by omega)]
  · rw [el, if_neg (by omega), if_neg (by omega)]
  · rw [el, if_neg (by omega), if_neg (by omega)]
  · rw [ei, if_neg (by omega), if_neg (by omega)]
/-! values -/
theorem zVl_un {P v' : Nat} (h : zVl w P c mk γ S v) (h' : zVl w P c mk γ S v') : v = v' := by
  by_cases e : w = 0
  · have a := h.1 e
    have b := h'.1 e
    have := a.2 v' b.1
    have := b.2 v a.1
    omega
  · have a := h.2 e
    have b := h'.2 e
    obtain ⟨f1, a1⟩ := a.1
    obtain ⟨f2, b1⟩ := b.1
    have := a.2 f2 v' b1
    have := b.2 f1 v a1
    omega
theorem zVl_al {P : Nat} (h : zAl c γ S) : zVl w P c mk γ S 0 := ⟨fun _ => ⟨h, fun _ _ => Nat.zero_le _⟩, fun _ => ⟨⟨0, h⟩, fun _ _ _ => Nat.zero_le _⟩⟩
theorem zVl_ex {P : Nat} (hP : P ≤ 10) (hc : c ≤ 120) (hd : zDif P c mk γ) (ho : zOne P c mk) (S : Nat → Bool) : ∃ v, v ≤ 1200 ∧ zVl w P c mk γ S v := by
  by_cases e : w = 0
  · obtain ⟨v, h1, h2, h3⟩ := zCan_min (zCan_ex hd ho S)
    exact ⟨v, by omega, fun _ => ⟨h2, fun k z => Classical.byContradiction fun y => h3 k (by omega) z⟩, fun z => absurd e z⟩
  · obtain ⟨v, h1, h2, h3⟩ := zTot_min (zTot_ex hd ho S)
    have le := yCn_le S c
    have := Nat.mul_le_mul hP (Nat.le_trans le hc)
    exact ⟨v, by omega, fun z => absurd z e, fun _ => ⟨h2, fun f k z => Classical.byContradiction fun y => h3 f k (by omega) z⟩⟩
noncomputable def zNv (w P c : Nat) (mk : Nat → Nat) (γ : Nat → Int32) (S : Nat → Bool) : Nat := @dite _ (∃ v, v ≤ 1200 ∧ zVl w P c mk γ S v) (Classical.propDecidable _) (fun h => Classical.choose h) (fun _ => 0)
theorem zNv_ok {P : Nat} (hP : P ≤ 10) (hc : c ≤ 120) (hd : zDif P c mk γ) (ho : zOne P c mk) (S : Nat → Bool) : zNv w P c mk γ S ≤ 1200 ∧ zVl w P c mk γ S (zNv w P c mk γ S) := by
  have h := zVl_ex (w := w) hP hc hd ho S
  unfold zNv
  rw [dif_pos h]
  exact Classical.choose_spec h
/-- the values of a pair's parts, put together -/
noncomputable def zAc (w P c : Nat) (mk : Nat → Nat) (γ : Nat → Int32) (S : Nat → Bool) (p : Nat) : Nat → Nat
  | 0 => 0
  | s + 1 => if w = 0 then max (zAc w P c mk γ S p s) (zNv w P c mk γ (zPt mk S p s)) else zAc w P c mk γ S p s + zNv w P c mk γ (zPt mk S p s)
noncomputable def zPv (w P c : Nat) (mk : Nat → Nat) (γ : Nat → Int32) (S : Nat → Bool) (p : Nat) : Nat := zAc w P c mk γ S p 3 + (if w = 0 then 1 else yCn S c)
theorem zAc_le {P : Nat} (hP : P ≤ 10) (hc : c ≤ 120) (hd : zDif P c mk γ) (ho : zOne P c mk) : ∀ s, zAc w P c mk γ S p s ≤ 1200 * s := by
  intro s
  induction s with
  | zero => exact Nat.le_refl 0
  | succ s ih =>
    have := (zNv_ok (w := w) hP hc hd ho (zPt mk S p s)).1
    show (if w = 0 then max (zAc w P c mk γ S p s) (zNv w P c mk γ (zPt mk S p s)) else zAc w P c mk γ S p s + zNv w P c mk γ (zPt mk S p s)) ≤ _
    split <;> omega
/-- the least over the pairs is the set's value -/
theorem zVl_of {P p0 : Nat} (hP : P ≤ 10) (hc : c ≤ 120) (hd : zDif P c mk γ) (ho : zOne P c mk) (ha : ¬ zAl c γ S) (hp : p0 < P) (h0 : zSp c mk S p0) (hB : ∀ p, p < P → zSp c mk S p → zPv w P c mk γ S p0 ≤ zPv w P c mk γ S p) : zVl w P c mk γ S (zPv w P c mk γ S p0) := by
  have ok := fun p s => (zNv_ok (w := w) hP hc hd ho (zPt mk S p s)).2
  refine ⟨fun e => ?_, fun e => ?_⟩
  · have pv : ∀ p, zPv w P c mk γ S p = max (max (max 0 (zNv w P c mk γ (zPt mk S p 0))) (zNv w P c mk γ (zPt mk S p 1))) (zNv w P c mk γ (zPt mk S p 2)) + 1 := fun p => by
      unfold zPv zAc zAc zAc zAc
      simp only [e, if_pos]
    refine ⟨?_, fun k hk => ?_⟩
    · rw [pv]
      refine Or.inr ⟨p0, hp, fun s hs => zCan_le ((ok p0 s).1 e).1 ?_⟩
      have : s = 0 ∨ s = 1 ∨ s = 2 := by omega
      rcases this with y | y | y <;> subst y <;> omega
    · obtain ⟨k0, k1, k2, k3⟩ := zCan_min hk
      obtain ⟨k4, p, hp', sp, z⟩ := zCan_least k2 ha k3
      have := hB p hp' sp
      rw [pv p] at this
      have v0 := ((ok p 0).1 e).2 _ (z 0 (by decide))
      have v1 := ((ok p 1).1 e).2 _ (z 1 (by decide))
      have v2 := ((ok p 2).1 e).2 _ (z 2 (by decide))
      omega
  · have pv : ∀ p, zPv w P c mk γ S p = (0 + zNv w P c mk γ (zPt mk S p 0) + zNv w P c mk γ (zPt mk S p 1) + zNv w P c mk γ (zPt mk S p 2)) + yCn S c := fun p => by
      unfold zPv zAc zAc zAc zAc
      simp only [e, if_false]
    refine ⟨?_, fun f k hk => ?_⟩
    · obtain ⟨f0, z0⟩ := ((ok p0 0).2 e).1
      obtain ⟨f1, z1⟩ := ((ok p0 1).2 e).1
      obtain ⟨f2, z2⟩ := ((ok p0 2).2 e).1
      refine ⟨f0 + f1 + f2 + 1, Or.inr ⟨p0, hp, fun s => zNv w P c mk γ (zPt mk S p0 s), ?_, fun s hs => ?_⟩⟩
      · rw [pv]
        show yCn S c + (zNv w P c mk γ (zPt mk S p0 0) + zNv w P c mk γ (zPt mk S p0 1) + zNv w P c mk γ (zPt mk S p0 2)) ≤ _
        omega
      · have : s = 0 ∨ s = 1 ∨ s = 2 := by omega
        rcases this with y | y | y <;> subst y
        · exact zTot_le z0 (by omega) (Nat.le_refl _)
        · exact zTot_le z1 (by omega) (Nat.le_refl _)
        · exact zTot_le z2 (by omega) (Nat.le_refl _)
    · obtain ⟨k0, k1, ⟨f', k2⟩, k3⟩ := zTot_min hk
      obtain ⟨p, hp', sp, t, ht, z⟩ := zTot_least k2 ha k3
      have := hB p hp' sp
      rw [pv p] at this
      obtain ⟨f0, z0⟩ := z 0 (by decide)
      obtain ⟨f1, z1⟩ := z 1 (by decide)
      obtain ⟨f2, z2⟩ := z 2 (by decide)
      have v0 := ((ok p 0).2 e).2 _ _ z0
      have v1 := ((ok p 1).2 e).2 _ _ z1
      have v2 := ((ok p 2).2 e).2 _ _ z2
      omega
end RL
