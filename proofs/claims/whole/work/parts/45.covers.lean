/-! CALL covers -/
section CV
variable {g g' : xSt} {β n w : Nat} {T B : yT} {L : List Nat} {k a1 a2 a3 a4 a5 : Int32}
def yHv (n w : Nat) (L : List Nat) (a b : Nat) : Bool := decide (a ≠ b) && ySe n w L a b 1
def yCv (n w : Nat) (L : List Nat) (a b : Nat) : Bool := yHv n w L a b && (List.range n).all fun c => !(yHv n w L a c && yHv n w L c b)
theorem yHv_i {a b : Nat} : yHv n w L a b = true ↔ a ≠ b ∧ ySe n w L a b 1 = true := by
  unfold yHv
  rw [Bool.and_eq_true, decide_eq_true_iff]
theorem yCv_i {a b : Nat} : yCv n w L a b = true ↔ yHv n w L a b = true ∧ ∀ c, c < n → ¬ (yHv n w L a c = true ∧ yHv n w L c b = true) := by
  unfold yCv
  simp only [Bool.and_eq_true, List.all_eq_true, List.mem_range, Bool.not_eq_true', Bool.and_eq_false_iff]
  refine and_congr_right fun _ => ⟨fun h c hc z => ?_, fun h c hc => ?_⟩
  · rcases h c hc with y | y
    · rw [z.1] at y; cases y
    · rw [z.2] at y; cases y
  · by_cases z : yHv n w L a c = true
    · exact Or.inr (Bool.eq_false_iff.mpr fun y => h c hc ⟨z, y⟩)
    · exact Or.inl (Bool.eq_false_iff.mpr z)
theorem yCv_self (a : Nat) : yCv n w L a a = false := by
  rw [Bool.eq_false_iff]
  intro h
  exact (yHv_i.mp (yCv_i.mp h).1).1 rfl
theorem r_sureV (o : I_orders g n w) (q : yLC g n w L) (hi : yIn n w L) (h0 : L.length ≠ 0) {a b : Nat} (ha : a < n) (hb : b < n) : F_X5_isSure g (nI a) (nI b) 1 = if yHv n w L a b = true then 1 else 0 := by
  have e : F_X5_isSure g (nI a) (nI b) 1 = _ := r_sure o q hi h0 ha hb (show 1 < 3 by decide)
  rw [e]
  by_cases c : yHv n w L a b = true
  · rw [if_pos c, if_pos (yHv_i.mp c)]
  · rw [if_neg c, if_neg (fun z => c (yHv_i.mpr z))]
theorem r_isHvV (o : I_orders g n w) (q : yLR g L) (hi : yIn n w L) {a b : Nat} (ha : a < n) (hb : b < n) : E_X12_isHeavier (nI a) (nI b) g = some (if yHv n w L a b = true then 1 else 0) := by
  rw [r_isHeavier o q hi ha hb]
  by_cases c : yHv n w L a b = true
  · rw [if_pos c, if_pos (yHv_i.mp c)]
  · rw [if_neg c, if_neg (fun z => c (yHv_i.mpr z))]
theorem r_isCover (o : I_orders g n w) (q : yLC g n w L) (hi : yIn n w L) (h0 : L.length ≠ 0) {a b : Nat} (ha : a < n) (hb : b < n) : E_X5_isCover (nI a) (nI b) g = some (if yCv n w L a b = true then 1 else 0) := by
  have hn := o.1
  have key : ∀ m j, m + j = n → ((∀ c, j ≤ c → c < n → ¬ (yHv n w L a c = true ∧ yHv n w L c b = true)) → xlim (S_X5_isCover_11 (nI a) (nI b) g) (1, nI j) = some 1) ∧ ((¬ ∀ c, j ≤ c → c < n → ¬ (yHv n w L a c = true ∧ yHv n w L c b = true)) → xlim (S_X5_isCover_11 (nI a) (nI b) g) (1, nI j) = some 0) := by
    intro m
    induction m with
    | zero =>
      intro j hj
      refine ⟨fun _ => xlim_end ?_, fun z => absurd (fun c h1 h2 => by omega) z⟩
      unfold S_X5_isCover_11
      simp only [o.2.2.1]
      exact if_pos (nI_le (by omega) (by omega))
    | succ m ih =>
      intro j hj
      have hjn : j < n := by omega
      obtain ⟨i1, i2⟩ := ih (j + 1) (by omega)
      have st : S_X5_isCover_11 (nI a) (nI b) g (1, nI j) = some (.inl (if yHv n w L a j = true ∧ yHv n w L j b = true then 0 else 1, nI (j + 1))) := by
        unfold S_X5_isCover_11
        simp only [o.2.2.1, if_neg (nI_ge hjn (show n < 2 ^ 31 by omega)), if_neg (show ¬ (1 : Int32) = 0 by decide), r_sureV o q hi h0 ha hjn, r_sureV o q hi h0 hjn hb, nI_1]
        by_cases c1 : yHv n w L a j = true <;> by_cases c2 : yHv n w L j b = true <;> simp [c1, c2]
      by_cases c : yHv n w L a j = true ∧ yHv n w L j b = true
      · rw [if_pos c] at st
        refine ⟨fun z => absurd c (z j (Nat.le_refl _) hjn), fun _ => (xlim_go st).trans (xlim_end ?_)⟩
        unfold S_X5_isCover_11
        simp only
        split
        · rfl
        · rfl
      · rw [if_neg c] at st
        have e := xlim_go st
        refine ⟨fun z => e.trans (i1 fun c h1 h2 => z c (by omega) h2), fun z => e.trans (i2 fun y => z fun c' h1 h2 => ?_)⟩
        by_cases e2 : c' = j
        · subst e2; exact c
        · exact y c' (by omega) h2
  unfold E_X5_isCover
  rw [r_sureV o q hi h0 ha hb]
  by_cases c : yHv n w L a b = true
  · obtain ⟨k1, k2⟩ := key n 0 (by omega)
    rw [if_pos c]
    by_cases d : yCv n w L a b = true
    · rw [if_pos d, show xlim (S_X5_isCover_11 (nI a) (nI b) g) (1, 0) = some 1 from k1 (fun c _ hc => (yCv_i.mp d).2 c hc), xb1_some]; exact xz01_in (Or.inr rfl)
    · rw [if_neg d, show xlim (S_X5_isCover_11 (nI a) (nI b) g) (1, 0) = some 0 from k2 (fun z => d (yCv_i.mpr ⟨c, fun c hc => z c (Nat.zero_le _) hc⟩)), xb1_some]; exact xz01_in (Or.inl rfl)
  · rw [if_neg c, if_neg (fun z => c (yCv_i.mp z).1)]
    have e : xlim (S_X5_isCover_11 (nI a) (nI b) g) (0, 0) = some 0 := by
      refine xlim_end ?_
      unfold S_X5_isCover_11
      simp only
      split
      · rfl
      · rfl
    rw [e, xb1_some]; exact xz01_in (Or.inl rfl)
theorem r_isDirect (C : Cx g β T B) (q : yLR g L) (hi : yIn (T 0 0) (T 0 1) L) {a b : Nat} (ha : a < T 0 0) (hb : b < T 0 0) : E_X12_isDirect (nI a) (nI b) g = some (if yCv (T 0 0) (T 0 1) L a b = true then 1 else 0) := by
  have hn := C.2.2.2.1
  have o := C.2.2.2
  unfold E_X12_isDirect
  rw [r_isHvV o q hi ha hb, xb1_some]
  by_cases c : yHv (T 0 0) (T 0 1) L a b = true
  · rw [if_pos c, if_neg (by decide)]
    obtain ⟨k1, k2⟩ := xlim_all (step := S_X12_isDirect_13 (nI a) (nI b) g) (p := fun c => ¬ (yHv (T 0 0) (T 0 1) L a c = true ∧ yHv (T 0 0) (T 0 1) L c b = true)) (v := (0 : Int32)) (N := T 0 0) (fun j hj z => by
        unfold S_X12_isDirect_13
        rw [r_thingMany C.2.1, xb1_some, if_neg (nI_ge hj (show T 0 0 < 2 ^ 31 by omega)), r_isHvV o q hi ha hj, xb1_some, nI_1]
        by_cases c1 : yHv (T 0 0) (T 0 1) L a j = true
        · rw [if_pos c1, if_neg (by decide), r_isHvV o q hi hj hb, xb1_some, if_neg (fun y => z ⟨c1, y⟩), if_pos rfl]
        · rw [if_neg c1, if_pos rfl]) (fun j hj z => by
        have z := Classical.not_not.mp z
        unfold S_X12_isDirect_13
        rw [r_thingMany C.2.1, xb1_some, if_neg (nI_ge hj (show T 0 0 < 2 ^ 31 by omega)), r_isHvV o q hi ha hj, xb1_some, if_pos z.1, if_neg (by decide), r_isHvV o q hi hj hb, xb1_some, if_pos z.2, if_neg (by decide)]) (by
        unfold S_X12_isDirect_13
        rw [r_thingMany C.2.1, xb1_some]
        exact if_pos (nI_le (Nat.le_refl _) (by omega))) (T 0 0) 0 (by omega)
    by_cases d : yCv (T 0 0) (T 0 1) L a b = true
    · rw [if_pos d, show xlim (S_X12_isDirect_13 (nI a) (nI b) g) 0 = some (.inr ()) from k1 (fun c _ hc => (yCv_i.mp d).2 c hc), xbs_inr]
    · rw [if_neg d, show xlim (S_X12_isDirect_13 (nI a) (nI b) g) 0 = some (.inl 0) from k2 (fun z => d (yCv_i.mpr ⟨c, fun c hc => z c (Nat.zero_le _) hc⟩)), xbs_inl]
  · rw [if_neg c, if_neg (fun z => c (yCv_i.mp z).1), if_pos rfl]
/-- the list that is laid -/
def yVi (p : Nat → Nat → Bool) (a : Nat) (l : List Nat) : Nat → List Nat
  | 0 => l
  | b + 1 => yVi p a l b ++ (if p a b then [10 * a + b] else [])
def yVo (p : Nat → Nat → Bool) (n : Nat) : Nat → List Nat
  | 0 => []
  | a + 1 => yVi p a (yVo p n a) n
theorem yVi_len {p : Nat → Nat → Bool} {a : Nat} {l : List Nat} (hp : p a a = false) : ∀ b, (yVi p a l b).length + (if a < b then 1 else 0) ≤ l.length + b := by
  intro b
  induction b with
  | zero => exact Nat.le_refl _
  | succ b ih =>
    show (yVi p a l b ++ (if p a b then [10 * a + b] else [])).length + _ ≤ _
    rw [List.length_append]
    by_cases e : a = b
    · subst e
      rw [if_neg (by rw [hp]; decide), if_pos (by omega)]
      rw [if_neg (by omega)] at ih
      simp only [List.length_nil]; omega
    · have : (if p a b = true then [10 * a + b] else []).length ≤ 1 := by split <;> simp
      by_cases c : a < b
      · rw [if_pos c] at ih; rw [if_pos (show a < b + 1 by omega)]; omega
      · rw [if_neg c] at ih; rw [if_neg (show ¬ a < b + 1 by omega)]; omega
theorem yVo_len {p : Nat → Nat → Bool} {n : Nat} (hn : n ≤ 5) (hp : ∀ a, p a a = false) : ∀ a, a ≤ n → (yVo p n a).length ≤ 4 * a := by
  intro a
  induction a with
  | zero => intro _; exact Nat.le_refl _
  | succ a ih =>
    intro h
    have i := ih (by omega)
    have := yVi_len (l := yVo p n a) (hp a) n
    rw [if_pos (by omega)] at this
    show (yVi p a (yVo p n a) n).length ≤ _
    omega
def ySC (g : xSt) (l : List Nat) : Prop := xI g 111 1 = nI l.length ∧ ∀ j, j < l.length → xI g 112 j = nI (l.getD j 0)
def ySR (g : xSt) (l : List Nat) : Prop := xI g 113 54 = nI l.length ∧ ∀ j, j < l.length → xI g 149 j = nI (l.getD j 0)
theorem ySC_push {l : List Nat} {x : Nat} (h : ySC g l) : ySC (xWI (xWI g 112 l.length (nI x)) 111 1 (nI (l.length + 1))) (l ++ [x]) := by
  refine ⟨by rw [yI_wi, if_pos ⟨rfl, rfl⟩, List.length_append, List.length_singleton], fun j hj => ?_⟩
  rw [yI_wi, if_neg (by omega), yI_wi, yGet_push _ _ _ hj]
  rw [List.length_append, List.length_singleton] at hj
  by_cases e : j = l.length
  · rw [if_pos ⟨rfl, e⟩, if_pos e]
  · rw [if_neg (fun z => e z.2), if_neg e]; exact h.2 j (by omega)
theorem ySR_push {l : List Nat} {x : Nat} (h : ySR g l) : ySR (xWI (xWI g 149 l.length (nI x)) 113 54 (nI (l.length + 1))) (l ++ [x]) := by
  refine ⟨by rw [yI_wi, if_pos ⟨rfl, rfl⟩, List.length_append, List.length_singleton], fun j hj => ?_⟩
  rw [yI_wi, if_neg (by omega), yI_wi, yGet_push _ _ _ hj]
  rw [List.length_append, List.length_singleton] at hj
  by_cases e : j = l.length
  · rw [if_pos ⟨rfl, e⟩, if_pos e]
  · rw [if_neg (fun z => e z.2), if_neg e]; exact h.2 j (by omega)
theorem yLC.sc (h : yAg dSC g g') (q : yLC g n w L) : yLC g' n w L := ⟨(h.2 _ _ (by unfold dSC; omega)).trans q.1, (h.2 _ _ (by unfold dSC; omega)).trans q.2.1, fun j hj => (h.2 _ _ (by unfold dSC; omega)).trans (q.2.2 j hj)⟩
theorem yLR.sr (h : yAg dSR g g') (q : yLR g L) : yLR g' L := ⟨(h.2 _ _ (by unfold dSR; omega)).trans q.1, fun j hj => (h.2 _ _ (by unfold dSR; omega)).trans (q.2 j hj)⟩
theorem r_covC (C : Cx g β T B) (q : yLC g (T 0 0) (T 0 1) L) (hi : yIn (T 0 0) (T 0 1) L) (h0 : L.length ≠ 0) (hs : ySC g []) : ∃ g', xlim (S_X11_covers_26) (0, g) = some g' ∧ yAg dSC g g' ∧ ySC g' (yVo (yCv (T 0 0) (T 0 1) L) (T 0 0) (T 0 0)) := by
  have hn := C.2.2.2.1
  have hp : ∀ a, yCv (T 0 0) (T 0 1) L a a = false := yCv_self
  have inner : ∀ a, a < T 0 0 → ∀ l, l.length ≤ 4 * a → ∀ m b g1, m + b = T 0 0 → yAg dSC g g1 → ySC g1 (yVi (yCv (T 0 0) (T 0 1) L) a l b) → ∃ g', xlim (S_X11_covers_39 (nI a)) (nI b, g1) = some g' ∧ yAg dSC g g' ∧ ySC g' (yVi (yCv (T 0 0) (T 0 1) L) a l (T 0 0)) := by
    intro a ha l hl m
    induction m with
    | zero =>
      intro b g1 hb y s
      have : b = T 0 0 := by omega
      have C1 := C.as (y.up dSC_S)
      refine ⟨g1, xlim_end ?_, y, this ▸ s⟩
      unfold S_X11_covers_39
      simp only [C1.2.1.2.1.1]
      exact if_pos (nI_le (by omega) (by omega))
    | succ m ih =>
      intro b g1 hb y s
      have hbn : b < T 0 0 := by omega
      have C1 := C.as (y.up dSC_S)
      have q1 := q.sc y
      have hlen := yVi_len (l := l) (hp a) b
      by_cases d : yCv (T 0 0) (T 0 1) L a b = true
      · have st : S_X11_covers_39 (nI a) (nI b, g1) = some (.inl (nI (b + 1), xWI (xWI g1 112 (yVi (yCv (T 0 0) (T 0 1) L) a l b).length (nI (10 * a + b))) 111 1 (nI ((yVi (yCv (T 0 0) (T 0 1) L) a l b).length + 1)))) := by
          unfold S_X11_covers_39
          simp only [C1.2.1.2.1.1, if_neg (nI_ge hbn (show T 0 0 < 2 ^ 31 by omega)), r_isCover C1.2.2.2 q1 hi h0 ha hbn, xb1_some, if_pos d, if_neg (show ¬ (1 : Int32) = 0 by decide), r_lay s.1 (show (yVi (yCv (T 0 0) (T 0 1) L) a l b).length < 24 by omega), show (10 : Int32) = nI 10 from rfl, nI_mul, nI_add, nI_1]
        obtain ⟨g', r1, r2⟩ := ih (b + 1) (xWI (xWI g1 112 (yVi (yCv (T 0 0) (T 0 1) L) a l b).length (nI (10 * a + b))) 111 1 (nI ((yVi (yCv (T 0 0) (T 0 1) L) a l b).length + 1))) (by omega) ((y.wi (Or.inl rfl)).wi (Or.inr ⟨rfl, rfl⟩)) (by
          show ySC _ (yVi _ a l b ++ (if yCv (T 0 0) (T 0 1) L a b then [10 * a + b] else []))
          rw [if_pos d]; exact ySC_push s)
        exact ⟨g', (xlim_go st).trans r1, r2⟩
      · have st : S_X11_covers_39 (nI a) (nI b, g1) = some (.inl (nI (b + 1), g1)) := by
          unfold S_X11_covers_39
          simp only [C1.2.1.2.1.1, if_neg (nI_ge hbn (show T 0 0 < 2 ^ 31 by omega)), r_isCover C1.2.2.2 q1 hi h0 ha hbn, xb1_some, if_neg d, nI_1, if_true]
        obtain ⟨g', r1, r2⟩ := ih (b + 1) g1 (by omega) y (by
          show ySC _ (yVi _ a l b ++ (if yCv (T 0 0) (T 0 1) L a b then [10 * a + b] else []))
          rw [if_neg d, List.append_nil]; exact s)
        exact ⟨g', (xlim_go st).trans r1, r2⟩
  have outer : ∀ m a g1, m + a = T 0 0 → yAg dSC g g1 → ySC g1 (yVo (yCv (T 0 0) (T 0 1) L) (T 0 0) a) → ∃ g', xlim (S_X11_covers_26) (nI a, g1) = some g' ∧ yAg dSC g g' ∧ ySC g' (yVo (yCv (T 0 0) (T 0 1) L) (T 0 0) (T 0 0)) := by
    intro m
    induction m with
    | zero =>
      intro a g1 ha y s
      have : a = T 0 0 := by omega
      have C1 := C.as (y.up dSC_S)
      refine ⟨g1, xlim_end ?_, y, this ▸ s⟩
      unfold S_X11_covers_26
      simp only [C1.2.1.2.1.1]
      exact if_pos (nI_le (by omega) (by omega))
    | succ m ih =>
      intro a g1 ha y s
      have han : a < T 0 0 := by omega
      have C1 := C.as (y.up dSC_S)
      obtain ⟨g2, r1, r2, r3⟩ := inner a han _ (yVo_len hn hp a (by omega)) (T 0 0) 0 g1 (by omega) y s
      have st : S_X11_covers_26 (nI a, g1) = some (.inl (nI (a + 1), g2)) := by
        unfold S_X11_covers_26
        simp only [C1.2.1.2.1.1, if_neg (nI_ge han (show T 0 0 < 2 ^ 31 by omega)), nI_1]
        rw [show xlim (S_X11_covers_39 (nI a)) (0, g1) = some g2 from r1, xb1_some]
      obtain ⟨g', r4, r5⟩ := ih (a + 1) g2 (by omega) r2 r3
      exact ⟨g', (xlim_go st).trans r4, r5⟩
  exact outer (T 0 0) 0 g (by omega) (yAg.refl _ _) hs
theorem r_covR (C : Cx g β T B) (q : yLR g L) (hi : yIn (T 0 0) (T 0 1) L) (hs : ySR g []) : ∃ g', xlim (S_X12_covers_17) (0, g) = some g' ∧ yAg dSR g g' ∧ ySR g' (yVo (yCv (T 0 0) (T 0 1) L) (T 0 0) (T 0 0)) := by
  have hn := C.2.2.2.1
  have hp : ∀ a, yCv (T 0 0) (T 0 1) L a a = false := yCv_self
  have inner : ∀ a, a < T 0 0 → ∀ l, l.length ≤ 4 * a → ∀ m b g1, m + b = T 0 0 → yAg dSR g g1 → ySR g1 (yVi (yCv (T 0 0) (T 0 1) L) a l b) → ∃ g', xlim (S_X12_covers_27 (nI a)) (nI b, g1) = some g' ∧ yAg dSR g g' ∧ ySR g' (yVi (yCv (T 0 0) (T 0 1) L) a l (T 0 0)) := by
    intro a ha l hl m
    induction m with
    | zero =>
      intro b g1 hb y s
      have : b = T 0 0 := by omega
      have C1 := C.as (y.up dSR_S)
      refine ⟨g1, xlim_end ?_, y, this ▸ s⟩
      unfold S_X12_covers_27
      simp only [r_thingMany C1.2.1, xb1_some]
      exact if_pos (nI_le (by omega) (by omega))
    | succ m ih =>
      intro b g1 hb y s
      have hbn : b < T 0 0 := by omega
      have C1 := C.as (y.up dSR_S)
      have q1 := q.sr y
      have hlen := yVi_len (l := l) (hp a) b
      by_cases d : yCv (T 0 0) (T 0 1) L a b = true
      · have st : S_X12_covers_27 (nI a) (nI b, g1) = some (.inl (nI (b + 1), xWI (xWI g1 149 (yVi (yCv (T 0 0) (T 0 1) L) a l b).length (nI (10 * a + b))) 113 54 (nI ((yVi (yCv (T 0 0) (T 0 1) L) a l b).length + 1)))) := by
          unfold S_X12_covers_27
          simp only [r_thingMany C1.2.1, xb1_some, if_neg (nI_ge hbn (show T 0 0 < 2 ^ 31 by omega)), r_isDirect C1 q1 hi ha hbn, if_pos d, if_neg (show ¬ (1 : Int32) = 0 by decide), s.1, xck_nI (show (yVi (yCv (T 0 0) (T 0 1) L) a l b).length < 25 by omega) (show (25 : Nat) < 2 ^ 31 by decide), nI_clamp (show (yVi (yCv (T 0 0) (T 0 1) L) a l b).length < 2 ^ 31 by omega), show (10 : Int32) = nI 10 from rfl, nI_mul, nI_add, nI_1]
        obtain ⟨g', r1, r2⟩ := ih (b + 1) (xWI (xWI g1 149 (yVi (yCv (T 0 0) (T 0 1) L) a l b).length (nI (10 * a + b))) 113 54 (nI ((yVi (yCv (T 0 0) (T 0 1) L) a l b).length + 1))) (by omega) ((y.wi (Or.inl rfl)).wi (Or.inr ⟨rfl, rfl⟩)) (by
          show ySR _ (yVi _ a l b ++ (if yCv (T 0 0) (T 0 1) L a b then [10 * a + b] else []))
          rw [if_pos d]; exact ySR_push s)
        exact ⟨g', (xlim_go st).trans r1, r2⟩
      · have st : S_X12_covers_27 (nI a) (nI b, g1) = some (.inl (nI (b + 1), g1)) := by
          unfold S_X12_covers_27
          simp only [r_thingMany C1.2.1, xb1_some, if_neg (nI_ge hbn (show T 0 0 < 2 ^ 31 by omega)), r_isDirect C1 q1 hi ha hbn, if_neg d, nI_1, if_true]
        obtain ⟨g', r1, r2⟩ := ih (b + 1) g1 (by omega) y (by
          show ySR _ (yVi _ a l b ++ (if yCv (T 0 0) (T 0 1) L a b then [10 * a + b] else []))
          rw [if_neg d, List.append_nil]; exact s)
        exact ⟨g', (xlim_go st).trans r1, r2⟩
  have outer : ∀ m a g1, m + a = T 0 0 → yAg dSR g g1 → ySR g1 (yVo (yCv (T 0 0) (T 0 1) L) (T 0 0) a) → ∃ g', xlim (S_X12_covers_17) (nI a, g1) = some g' ∧ yAg dSR g g' ∧ ySR g' (yVo (yCv (T 0 0) (T 0 1) L) (T 0 0) (T 0 0)) := by
    intro m
    induction m with
    | zero =>
      intro a g1 ha y s
      have : a = T 0 0 := by omega
      have C1 := C.as (y.up dSR_S)
      refine ⟨g1, xlim_end ?_, y, this ▸ s⟩
      unfold S_X12_covers_17
      simp only [r_thingMany C1.2.1, xb1_some]
      exact if_pos (nI_le (by omega) (by omega))
    | succ m ih =>
      intro a g1 ha y s
      have han : a < T 0 0 := by omega
      have C1 := C.as (y.up dSR_S)
      obtain ⟨g2, r1, r2, r3⟩ := inner a han _ (yVo_len hn hp a (by omega)) (T 0 0) 0 g1 (by omega) y s
      have st : S_X12_covers_17 (nI a, g1) = some (.inl (nI (a + 1), g2)) := by
        unfold S_X12_covers_17
        simp only [r_thingMany C1.2.1, xb1_some, if_neg (nI_ge han (show T 0 0 < 2 ^ 31 by omega)), nI_1]
        rw [show xlim (S_X12_covers_27 (nI a)) (0, g1) = some g2 from r1, xb1_some]
      obtain ⟨g', r4, r5⟩ := ih (a + 1) g2 (by omega) r2 r3
      exact ⟨g', (xlim_go st).trans r4, r5⟩
  exact outer (T 0 0) 0 g (by omega) (yAg.refl _ _) hs
theorem op_24 (C : Cx g β T B) : ∃ g', O_24 a1 a2 a3 a4 a5 g = some (true, g') ∧ yAg dAS g g' ∧ I_shelf g' := by
  have hn := C.2.2.2.1
  have hp : ∀ a, yCv (T 0 0) (T 0 1) (yLs B a1 (T 0 0) (T 0 1) 0) a a = false := yCv_self
  have hlo := yVo_len hn hp (T 0 0) (Nat.le_refl _)
  have y0 : yAg dSC g (xWI g 111 1 0) := (yAg.refl dSC g).wi (Or.inr ⟨rfl, rfl⟩)
  have C0 := C.as (y0.up dSC_S)
  have s0 : xI (xWI g 111 1 0) 111 1 = nI 0 := by rw [yI_wi, if_pos ⟨rfl, rfl⟩]; rfl
  obtain ⟨g1, r1, r2, r3⟩ := r_know (k := a1) C0
  have C1 := C0.as r2.A
  have w1 : xI g1 111 1 = nI 0 := (r2.2 111 1 (by unfold dA; omega)).trans s0
  have hi := yLs_in (B := B) (k := a1) (lies := 0) C.2.2.2.1 C.2.2.2.2.1
  have ref : ∀ G, Cx G β T B → ∃ g3, E_X12_hasLeft a1 (xWI G 113 54 0) = some (if (yLs B a1 (T 0 0) (T 0 1) 0).length = 0 then 0 else 1, g3) ∧ yAg dAS G g3 ∧ xI g3 113 54 = nI 0 ∧ yLR g3 (yLs B a1 (T 0 0) (T 0 1) 0) ∧ (∀ o, 111 ≤ o → o ≤ 112 → ∀ k, xI g3 o k = xI G o k) := by
    intro G CG
    have z : yAg dAS G (xWI G 113 54 0) := (yAg.refl _ _).wi (by unfold dAS; omega)
    obtain ⟨g3, u1, u2, u3⟩ := r_hasLeft (k := a1) (CG.as z)
    refine ⟨g3, u1, z.tr u2.A, ?_, u3, fun o h1 h2 k => ?_⟩
    · rw [u2.2 113 54 (by unfold dA; omega), yI_wi, if_pos ⟨rfl, rfl⟩]; rfl
    · rw [u2.2 o k (by unfold dA; omega), yI_wi, if_neg (by omega)]
  have hl := hi.1
  generalize yLs B a1 (T 0 0) (T 0 1) 0 = L at *
  by_cases e0 : L.length = 0
  · obtain ⟨g3, u1, u2, u3, u4, u5⟩ := ref g1 C1
    refine ⟨g3, r_O (v := -1) (g1 := g1) ?_ ?_, ((y0.up dSC_S).tr r2.A).tr u2, ⟨0, by decide, by rw [u5 111 (by decide) (by decide)]; exact w1, u3, fun k hk => by omega⟩⟩
    · unfold E_X11_covers E_X9_empty
      rw [xb1_some, r1, xb2_some, if_pos (show nI L.length = (0 : Int32) by rw [e0]; rfl)]
    · unfold E_X12_covers
      rw [u1, xb2_some, if_pos e0, if_pos rfl]
  · obtain ⟨g2, v1, v2, v3, v4⟩ := r_covC C1 r3 hi e0 ⟨w1, fun j hj => absurd hj (Nat.not_lt_zero _)⟩
    have C2 := C1.as (v2.up dSC_S)
    obtain ⟨g3, u1, u2, u3, u4, u5⟩ := ref g2 C2
    obtain ⟨g4, x1, x2, x3, x4⟩ := r_covR (C2.as u2) u4 hi ⟨u3, fun j hj => absurd hj (Nat.not_lt_zero _)⟩
    refine ⟨g4, r_O (v := nI (yVo (yCv (T 0 0) (T 0 1) L) (T 0 0) (T 0 0)).length) (g1 := g2) ?_ ?_, (((y0.up dSC_S).tr r2.A).tr (v2.up dSC_S)).tr (u2.tr (x2.up dSR_S)), ⟨(yVo (yCv (T 0 0) (T 0 1) L) (T 0 0) (T 0 0)).length, by omega, ?_, x3, fun k hk => ?_⟩⟩
    · unfold E_X11_covers E_X9_empty
      rw [xb1_some, r1, xb2_some, if_neg (show ¬ nI L.length = (0 : Int32) from fun z => e0 ((nI_eq (by omega) (by decide)).mp (show _ = nI 0 from z))), v1, xb1_some, v3]
    · unfold E_X12_covers
      rw [u1, xb2_some, if_neg e0, if_neg (by decide), x1, xb1_some, x3]
    · rw [x2.2 111 1 (by unfold dSR; omega), u5 111 (by decide) (by decide)]; exact v3
    · rw [x2.2 112 k (by unfold dSR; omega), u5 112 (by decide) (by decide), v4 k hk, x4 k hk]
end CV
