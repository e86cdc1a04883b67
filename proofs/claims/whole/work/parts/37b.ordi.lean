/-! the orders on both sides -/
theorem yGet {L : List Nat} {i : Nat} (h : i < L.length) : L.getD i 0 = L[i] := by
  rw [List.getD_eq_getElem?_getD, List.getElem?_eq_getElem h, Option.getD_some]
section ORD
variable {n w i : Nat}
theorem yOr_mem (hi : i < yN n w) : yOr n w i ∈ yO n w := by
  unfold yOr
  rw [yGet hi]
  exact List.getElem_mem hi
theorem yOr_chk (hn : n ≤ 5) (hw : w ≤ 1) (hi : i < yN n w) : yMk n (yOr n w i) < 2 ^ 30 ∧ yOr n w i < 2 ^ 15 ∧ (∀ t, t < n → yDg (yOr n w i) t < n) ∧ ∀ a b s, a < n → b < n → a ≠ b → s < 3 → ((yMk n (yOr n w i)).testBit (yBit n a b s) = true ↔ ySd (yOr n w i) a b = s) := by
  have h := List.all_eq_true.mp (yO_chk n (by omega) w (by omega)) _ (yOr_mem hi)
  simp only [Bool.and_eq_true, decide_eq_true_eq, List.all_eq_true, List.mem_range] at h
  exact ⟨yMf_lt hn _, h.1, h.2, fun a b s ha hb hab hs => yMf_bit hn _ ha hb hab hs⟩
theorem ySd_le (v a b : Nat) : ySd v a b ≤ 2 := ySf_le _ _ _
end ORD
/-- both sides hold the orders -/
def I_orders (g : xSt) (n w : Nat) : Prop := n ≤ 5 ∧ w ≤ 1 ∧ xI g 69 0 = nI n ∧ xI g 69 1 = nI (yN n w) ∧ xI g 113 34 = nI (yN n w) ∧ ∀ i, i < yN n w → xI g 70 i = nI (yOr n w i) ∧ xI g 71 i = nI (yMk n (yOr n w i)) ∧ ∀ t, t < n → xI g 134 (5 * i + t) = nI (yDg (yOr n w i) t)
theorem I_orders.ag {D : Nat → Nat → Prop} {g g' : xSt} {n w : Nat} (h : yAg D g g') (h1 : ¬ D 69 0) (h2 : ¬ D 69 1) (h3 : ¬ D 113 34) (hD : ∀ o k, o ∈ [70, 71, 134] → ¬ D o k) (q : I_orders g n w) : I_orders g' n w := by
  have e : ∀ o k, o ∈ [70, 71, 134] → xI g' o k = xI g o k := fun o k ho => h.2 o k (hD o k ho)
  unfold I_orders
  rw [h.2 _ _ h1, h.2 _ _ h2, h.2 _ _ h3]
  simp only [e 70 _ (by decide), e 71 _ (by decide), e 134 _ (by decide)]
  exact q
section ORD2
variable {g : xSt} {n w i : Nat}
theorem r_bitOf : ∀ n, n < 6 → ∀ a, a < n → ∀ b, b < n → ∀ s, s < 3 → a ≠ b → F_X5_bitOf g (nI n) (nI a) (nI b) (nI s) = nI (yBit n a b s) := by
  unfold F_X5_bitOf F_X5_pairOf
  decide +kernel
theorem r_pairOf : ∀ n, n < 6 → ∀ a, a < n → ∀ b, b < n → a ≠ b → F_X5_pairOf g (nI n) (nI a) (nI b) = nI (yPr n a b) := by
  unfold F_X5_pairOf
  decide +kernel
theorem r_placeOf (h : I_orders g n w) {t : Nat} (hi : i < yN n w) (ht : t < n) : F_X5_placeOf g (nI i) (nI t) = nI (yDg (yOr n w i) t) := by
  have hl := (yO_len n (by have := h.1; omega) w (by have := h.2.1; omega)).2
  have c := yOr_chk h.1 h.2.1 hi
  have h1 := h.1
  unfold F_X5_placeOf
  rw [xat_nI (by omega) (by decide), (h.2.2.2.2.2 i hi).1, r_mul3, r_shr (by omega) (by omega), r_7]
  unfold yDg
  rw [Nat.shiftRight_eq_div_pow, Nat.pow_mul]
theorem r_saidBy (h : I_orders g n w) {a b : Nat} (hi : i < yN n w) (ha : a < n) (hb : b < n) : E_X12_saidBy (nI i) (nI a) (nI b) g = some (nI (ySd (yOr n w i) a b)) := by
  have hl := (yO_len n (by have := h.1; omega) w (by have := h.2.1; omega)).2
  have c := yOr_chk h.1 h.2.1 hi
  have h1 := h.1
  have ca := c.2.2.1 a ha
  have cb := c.2.2.1 b hb
  unfold E_X12_saidBy
  rw [show (5 : Int32) = nI 5 from rfl, nI_mul, nI_add, nI_add, xck_nI (by omega) (by decide), xck_nI (by omega) (by decide), nI_clamp (by omega), nI_clamp (by omega), (h.2.2.2.2.2 i hi).2.2 a ha, (h.2.2.2.2.2 i hi).2.2 b hb]
  unfold ySd ySf
  by_cases q1 : yDg (yOr n w i) a < yDg (yOr n w i) b
  · rw [if_neg (fun z => by rw [nI_leI (by omega) (by omega)] at z; omega), if_pos q1]; rfl
  · rw [if_pos ((nI_leI (by omega) (by omega)).mpr (by omega)), if_neg q1]
    by_cases q2 : yDg (yOr n w i) b < yDg (yOr n w i) a
    · rw [if_neg (fun z => by rw [nI_leI (by omega) (by omega)] at z; omega), if_pos q2]; rfl
    · rw [if_pos ((nI_leI (by omega) (by omega)).mpr (by omega)), if_neg q2]; rfl
end ORD2
