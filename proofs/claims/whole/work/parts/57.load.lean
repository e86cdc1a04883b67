/-! WEIGHTS that fit: the rules are loaded, what is known stays known -/
/-- the rules: the weighings that count, each once -/
def yRu (B : yT) (k : Int32) : Nat → List (Nat × Nat × Nat)
  | 0 => []
  | m + 1 => if @decide (yCt B m k) (yCtD B m k) && !((yRu B k m).contains (B 0 m, B 1 m, B 2 m)) then yRu B k m ++ [(B 0 m, B 1 m, B 2 m)] else yRu B k m
theorem yRu_len (B : yT) (k : Int32) : ∀ m, (yRu B k m).length ≤ m := by
  intro m
  induction m with
  | zero => exact Nat.le_refl _
  | succ m ih =>
    show (if _ then _ else _ : List (Nat × Nat × Nat)).length ≤ _
    by_cases c : (@decide (yCt B m k) (yCtD B m k) && !((yRu B k m).contains (B 0 m, B 1 m, B 2 m))) = true
    · rw [if_pos c, List.length_append, List.length_singleton]; omega
    · rw [if_neg c]; omega
theorem yRu_mem {B : yT} {k : Int32} {x : Nat × Nat × Nat} : ∀ m, x ∈ yRu B k m ↔ ∃ i, i < m ∧ yCt B i k ∧ x = (B 0 i, B 1 i, B 2 i) := by
  intro m
  induction m with
  | zero => exact ⟨fun h => absurd h List.not_mem_nil, fun ⟨i, h, _⟩ => by omega⟩
  | succ m ih =>
    have hd : yRu B k (m + 1) = if (@decide (yCt B m k) (yCtD B m k) && !((yRu B k m).contains (B 0 m, B 1 m, B 2 m))) = true then yRu B k m ++ [(B 0 m, B 1 m, B 2 m)] else yRu B k m := rfl
    rw [hd]
    have old : (∃ i, i < m ∧ yCt B i k ∧ x = (B 0 i, B 1 i, B 2 i)) → ∃ i, i < m + 1 ∧ yCt B i k ∧ x = (B 0 i, B 1 i, B 2 i) := fun ⟨i, h, r⟩ => ⟨i, by omega, r⟩
    by_cases c1 : yCt B m k
    · by_cases c2 : (yRu B k m).contains (B 0 m, B 1 m, B 2 m) = true
      · rw [if_neg (by rw [c2]; simp), ih]
        refine ⟨old, fun ⟨i, h, r1, r2⟩ => ?_⟩
        by_cases e : i = m
        · subst e
          have := List.contains_iff_mem.mp c2
          exact ih.mp (by rw [r2]; exact this)
        · exact ⟨i, by omega, r1, r2⟩
      · rw [if_pos (by rw [Bool.eq_false_iff.mpr c2]; simp [c1]), List.mem_append, List.mem_singleton, ih]
        refine ⟨fun z => z.elim old (fun e => ⟨m, Nat.lt_succ_self m, c1, e⟩), fun ⟨i, h, r1, r2⟩ => ?_⟩
        by_cases e : i = m
        · subst e; exact Or.inr r2
        · exact Or.inl ⟨i, by omega, r1, r2⟩
    · rw [if_neg (by simp [c1]), ih]
      refine ⟨old, fun ⟨i, h, r1, r2⟩ => ?_⟩
      by_cases e : i = m
      · subst e; exact absurd r1 c1
      · exact ⟨i, by omega, r1, r2⟩
def yF1 (l : List (Nat × Nat × Nat)) (i : Nat) : Nat := (l.getD i (0, 0, 0)).1
def yF2 (l : List (Nat × Nat × Nat)) (i : Nat) : Nat := (l.getD i (0, 0, 0)).2.1
def yF3 (l : List (Nat × Nat × Nat)) (i : Nat) : Nat := (l.getD i (0, 0, 0)).2.2
theorem yGt {α : Type} {l : List α} {i : Nat} {d : α} (h : i < l.length) : l.getD i d = l[i] := by
  rw [List.getD_eq_getElem?_getD, List.getElem?_eq_getElem h, Option.getD_some]
theorem yRu_rl {n : Nat} {B : yT} {k : Int32} (hw : bkOK n B) : yRl n (yRu B k (B 9 0)).length (yF1 (yRu B k (B 9 0))) (yF2 (yRu B k (B 9 0))) (yF3 (yRu B k (B 9 0))) := by
  have h60 := hw.1
  refine ⟨Nat.le_trans (yRu_len B k _) h60, fun i hi => ?_⟩
  have m : (yRu B k (B 9 0))[i] ∈ yRu B k (B 9 0) := List.getElem_mem hi
  obtain ⟨j, hj, -, e⟩ := (yRu_mem _).mp m
  obtain ⟨c1, c2, c3, c4, -⟩ := hw.2.2.2.2.1 j hj
  unfold yF1 yF2 yF3
  rw [yGt hi, e]
  exact ⟨c1, c2, c3, c4⟩
/-- a row fits the rules if it fits all that counts -/
theorem yFr_ru {n st v : Nat} {B : yT} {k : Int32} : yFr n st (yRu B k (B 9 0)).length (yF1 (yRu B k (B 9 0))) (yF2 (yRu B k (B 9 0))) (yF3 (yRu B k (B 9 0))) v = true ↔ ∀ i, i < B 9 0 → yCt B i k → ySo n st v (B 0 i) (B 1 i) = B 2 i := by
  rw [yFr_i]
  constructor
  · intro h i hi c
    have m : (B 0 i, B 1 i, B 2 i) ∈ yRu B k (B 9 0) := (yRu_mem _).mpr ⟨i, hi, c, rfl⟩
    obtain ⟨j, hj, e⟩ := List.getElem_of_mem m
    have := h j hj
    unfold yF1 yF2 yF3 at this
    rw [yGt hj, e] at this
    exact this
  · intro h i hi
    have m : (yRu B k (B 9 0))[i] ∈ yRu B k (B 9 0) := List.getElem_mem hi
    obtain ⟨j, hj, c, e⟩ := (yRu_mem _).mp m
    unfold yF1 yF2 yF3
    rw [yGt hi, e]
    exact h j hj c
section LO
variable {g g' : xSt} {β n st R Q : Nat} {T B : yT} {rf rs rd qa qb : Nat → Nat} {k a1 a2 a3 a4 a5 : Int32}
def dLd (o k : Nat) : Prop := o = 99 ∨ o = 100 ∨ o = 101 ∨ (o = 98 ∧ (k = 0 ∨ k = 1 ∨ k = 2 ∨ k = 12))
/-- the rows of the rules -/
def yRr (g : xSt) (l : List (Nat × Nat × Nat)) : Prop := ∀ i, i < l.length → xI g 99 i = nI (yF1 l i) ∧ xI g 100 i = nI (yF2 l i) ∧ xI g 101 i = nI (yF3 l i)
theorem yF_push (l : List (Nat × Nat × Nat)) (x : Nat × Nat × Nat) {i : Nat} (h : i < l.length + 1) : (l ++ [x]).getD i (0, 0, 0) = if i = l.length then x else l.getD i (0, 0, 0) := by
  by_cases e : i = l.length
  · subst e; rw [if_pos rfl, List.getD_eq_getElem?_getD, List.getElem?_append_right (Nat.le_refl _)]; simp
  · rw [if_neg e, List.getD_eq_getElem?_getD, List.getElem?_append_left (by omega), List.getD_eq_getElem?_getD]
theorem r_ruleAt {a b s : Nat} {i : Nat} (hi : i < 60) : F_X1_isRuleAt g (nI i) (nI a) (nI b) (nI s) = if xI g 99 i = nI a ∧ xI g 100 i = nI b ∧ xI g 101 i = nI s then 1 else 0 := by
  unfold F_X1_isRuleAt
  rw [xat_nI hi (by decide), xat_nI hi (by decide), xat_nI hi (by decide)]
  by_cases c1 : xI g 99 i = nI a <;> by_cases c2 : xI g 100 i = nI b <;> by_cases c3 : xI g 101 i = nI s <;> simp [c1, c2, c3]
theorem r_isRule {l : List (Nat × Nat × Nat)} (hl : l.length ≤ 60) (hr : yRr g l) (hb : ∀ i, i < l.length → yF1 l i < 100 ∧ yF2 l i < 100 ∧ yF3 l i < 100) {a b s : Nat} (ha : a < 100) (hbb : b < 100) (hs : s < 100) : E_X1_isRule (nI a) (nI b) (nI s) (nI l.length) g = some (if l.contains (a, b, s) = true then 1 else 0) := by
  have at_ : ∀ i, i < l.length → (F_X1_isRuleAt g (nI i) (nI a) (nI b) (nI s) = 0 ↔ l.getD i (0, 0, 0) ≠ (a, b, s)) := by
    intro i hi
    obtain ⟨e1, e2, e3⟩ := hr i hi
    obtain ⟨b1, b2, b3⟩ := hb i hi
    rw [r_ruleAt (by omega), e1, e2, e3]
    have key : (nI (yF1 l i) = nI a ∧ nI (yF2 l i) = nI b ∧ nI (yF3 l i) = nI s) ↔ l.getD i (0, 0, 0) = (a, b, s) := by
      rw [nI_eq (by omega) (by omega), nI_eq (by omega) (by omega), nI_eq (by omega) (by omega)]
      unfold yF1 yF2 yF3
      constructor
      · rintro ⟨h1, h2, h3⟩
        rw [← h1, ← h2, ← h3]
      · intro h; rw [h]; exact ⟨rfl, rfl, rfl⟩
    by_cases c : l.getD i (0, 0, 0) = (a, b, s)
    · rw [if_pos (key.mpr c)]; exact ⟨fun z => absurd z (by decide), fun z => absurd c z⟩
    · rw [if_neg (fun z => c (key.mp z))]; exact ⟨fun _ => c, fun _ => rfl⟩
  obtain ⟨o1, o2⟩ := xlim_all (step := S_X1_isRule_3 (nI a) (nI b) (nI s) (nI l.length) g) (p := fun i => l.getD i (0, 0, 0) ≠ (a, b, s)) (v := (1 : Int32)) (N := l.length) (fun i hi c => by
      unfold S_X1_isRule_3
      rw [if_neg (nI_ge hi (by omega)), if_pos ((at_ i hi).mpr c), nI_1]) (fun i hi c => by
      unfold S_X1_isRule_3
      rw [if_neg (nI_ge hi (by omega)), if_neg (fun z => c ((at_ i hi).mp z))]) (by
      unfold S_X1_isRule_3
      exact if_pos (nI_le (Nat.le_refl _) (by omega))) l.length 0 (by omega)
  unfold E_X1_isRule
  by_cases c : l.contains (a, b, s) = true
  · obtain ⟨j, hj, e⟩ := List.getElem_of_mem (List.contains_iff_mem.mp c)
    rw [if_pos c, show xlim (S_X1_isRule_3 (nI a) (nI b) (nI s) (nI l.length) g) 0 = some (.inl 1) from o2 (fun z => z j (Nat.zero_le _) hj (by rw [yGt hj, e])), xbs_inl]
  · rw [if_neg c, show xlim (S_X1_isRule_3 (nI a) (nI b) (nI s) (nI l.length) g) 0 = some (.inr ()) from o1 (fun i _ hi z => c (List.contains_iff_mem.mpr (by rw [yGt hi] at z; rw [← z]; exact List.getElem_mem hi))), xbs_inr]
theorem r_loadL (hn : n ≤ 5) (hw : bkOK n B) (t : Nat) : ∀ m i g0 ch, m + i = B 9 0 → bkC g0 32 n B → (ch = 0 ∨ ch = 1) → yAg (fun o _ => o = 99 ∨ o = 100 ∨ o = 101) g g0 → yRr g0 (yRu B k i) → (ch = (0 : Int32) → ∀ o k, xI g0 o k = xI g o k) → ∃ g' ch', xlim (S_X1_load_51 t k) (nI (yRu B k i).length, ch, nI i, g0) = some (nI (yRu B k (B 9 0)).length, ch', g') ∧ (ch' = 0 ∨ ch' = 1) ∧ yAg (fun o _ => o = 99 ∨ o = 100 ∨ o = 101) g g' ∧ yRr g' (yRu B k (B 9 0)) ∧ (ch' = 0 → ch = 0 ∧ ∀ o k, xI g' o k = xI g o k) := by
  have h60 := hw.1
  have hpw : 2 ^ n ≤ 32 := Nat.pow_le_pow_right (n := 2) (by decide) hn
  intro m
  induction m with
  | zero =>
    intro i g0 ch hi hc hch y hr hz
    have : i = B 9 0 := by omega
    subst this
    refine ⟨g0, ch, xlim_end ?_, hch, y, hr, fun z => ⟨z, hz z⟩⟩
    unfold S_X1_load_51
    simp only [hc.1]
    exact if_pos (nI_le (Nat.le_refl _) (by omega))
  | succ m ih =>
    intro i g0 ch hi hc hch y hr hz
    have him : i < B 9 0 := by omega
    obtain ⟨k1, k2⟩ := r_ctC (k := k) hw hc him
    obtain ⟨d1, d2, d3, -⟩ := hc.2.2.2.2.1 i him
    obtain ⟨c1, c2, c3, c4, -⟩ := hw.2.2.2.2.1 i him
    have hlen := yRu_len B k i
    have c0 : ¬ xI g0 32 0 ≤ nI i := by rw [hc.1]; exact nI_ge him (by omega)
    have bnd : ∀ j, j < (yRu B k i).length → yF1 (yRu B k i) j < 100 ∧ yF2 (yRu B k i) j < 100 ∧ yF3 (yRu B k i) j < 100 := by
      intro j hj
      have mm : (yRu B k i)[j] ∈ yRu B k i := List.getElem_mem hj
      obtain ⟨j', hj', -, e⟩ := (yRu_mem _).mp mm
      obtain ⟨x1, x2, x3, x4, -⟩ := hw.2.2.2.2.1 j' (by omega)
      unfold yF1 yF2 yF3
      rw [yGt hj, e]
      refine ⟨?_, ?_, ?_⟩
      · show B 0 j' < 100; omega
      · show B 1 j' < 100; omega
      · show B 2 j' < 100; omega
    have ir := r_isRule (by omega) hr bnd (show B 0 i < 100 by omega) (show B 1 i < 100 by omega) (show B 2 i < 100 by omega)
    have rows : xat (xI g0 33) 60 (nI i) = nI (B 0 i) ∧ xat (xI g0 34) 60 (nI i) = nI (B 1 i) ∧ xat (xI g0 35) 60 (nI i) = nI (B 2 i) := by
      rw [xat_nI (by omega) (by decide), xat_nI (by omega) (by decide), xat_nI (by omega) (by decide)]
      exact ⟨d1, d2, d3⟩
    have hd : yRu B k (i + 1) = if (@decide (yCt B i k) (yCtD B i k) && !((yRu B k i).contains (B 0 i, B 1 i, B 2 i))) = true then yRu B k i ++ [(B 0 i, B 1 i, B 2 i)] else yRu B k i := rfl
    by_cases q1 : yCt B i k
    · by_cases q2 : (yRu B k i).contains (B 0 i, B 1 i, B 2 i) = true
      · have e : yRu B k (i + 1) = yRu B k i := by rw [hd, if_neg (by rw [q2]; simp)]
        have st : S_X1_load_51 t k (nI (yRu B k i).length, ch, nI i, g0) = some (.inl (nI (yRu B k (i + 1)).length, ch, nI (i + 1), g0)) := by
          unfold S_X1_load_51
          simp only [if_neg c0, k1 q1, if_neg (show ¬ (1 : Int32) = 0 by decide), rows.1, rows.2.1, rows.2.2, ir, if_pos q2, xb1_some, nI_1, e]
        obtain ⟨g', ch', r1, r2⟩ := ih (i + 1) g0 ch (by omega) hc hch y (by rw [e]; exact hr) hz
        exact ⟨g', ch', (xlim_go st).trans r1, r2⟩
      · have e : yRu B k (i + 1) = yRu B k i ++ [(B 0 i, B 1 i, B 2 i)] := by rw [hd, if_pos (by rw [Bool.eq_false_iff.mpr q2]; simp [q1])]
        have el : (yRu B k (i + 1)).length = (yRu B k i).length + 1 := by rw [e, List.length_append, List.length_singleton]
        generalize hL : (yRu B k i).length = l at *
        have ra := r_ruleAt (g := g0) (a := B 0 i) (b := B 1 i) (s := B 2 i) (i := l) (by omega)
        have st : S_X1_load_51 t k (nI l, ch, nI i, g0) = some (.inl (nI (l + 1), ch ||| (if F_X1_isRuleAt g0 (nI l) (nI (B 0 i)) (nI (B 1 i)) (nI (B 2 i)) = 0 then (1 : Int32) else 0), nI (i + 1), xWI (xWI (xWI g0 99 l (nI (B 0 i))) 100 l (nI (B 1 i))) 101 l (nI (B 2 i)))) := by
          unfold S_X1_load_51
          simp only [if_neg c0, k1 q1, if_neg (show ¬ (1 : Int32) = 0 by decide), rows.1, rows.2.1, rows.2.2, ir, if_neg q2, xb1_some, if_true]
          unfold K_X1_load_140
          rw [xput_nI (show l < 60 by omega) (by decide), xput_nI (show l < 60 by omega) (by decide), xput_nI (show l < 60 by omega) (by decide), nI_1, nI_1]
        generalize hG : xWI (xWI (xWI g0 99 l (nI (B 0 i))) 100 l (nI (B 1 i))) 101 l (nI (B 2 i)) = G at st
        have yG : yAg (fun o _ => o = 99 ∨ o = 100 ∨ o = 101) g0 G := by rw [← hG]; exact (((yAg.refl _ g0).wi (Or.inl rfl)).wi (Or.inr (Or.inl rfl))).wi (Or.inr (Or.inr rfl))
        have oG : ∀ o k, ¬ ((o = 99 ∨ o = 100 ∨ o = 101) ∧ k = l) → xI G o k = xI g0 o k := fun o k h => by
          rw [← hG, yI_wi, if_neg (by omega), yI_wi, if_neg (by omega), yI_wi, if_neg (by omega)]
        have fG : xI G 99 l = nI (B 0 i) ∧ xI G 100 l = nI (B 1 i) ∧ xI G 101 l = nI (B 2 i) := by rw [← hG]; simp [yI_wi]
        have cG : bkC G 32 n B := hc.ag yG (fun j k hj _ => by omega)
        have chn : (ch ||| (if F_X1_isRuleAt g0 (nI l) (nI (B 0 i)) (nI (B 1 i)) (nI (B 2 i)) = 0 then (1 : Int32) else 0)) = 0 ∨ (ch ||| (if F_X1_isRuleAt g0 (nI l) (nI (B 0 i)) (nI (B 1 i)) (nI (B 2 i)) = 0 then (1 : Int32) else 0)) = 1 := by
          rcases hch with rfl | rfl <;> split <;> decide
        have z1' : (ch ||| (if F_X1_isRuleAt g0 (nI l) (nI (B 0 i)) (nI (B 1 i)) (nI (B 2 i)) = 0 then (1 : Int32) else 0)) = 0 → ch = 0 := by
          rcases hch with rfl | rfl
          · exact fun _ => rfl
          · split <;> decide
        obtain ⟨g', ch', r1, r2⟩ := ih (i + 1) G _ (by omega) cG chn (y.tr yG) (fun j hj => by
          unfold yF1 yF2 yF3
          rw [el] at hj
          rw [e, yF_push _ _ (by omega), hL]
          by_cases z : j = l
          · rw [if_pos z, z]; exact fG
          · rw [if_neg z, oG _ _ (by omega), oG _ _ (by omega), oG _ _ (by omega)]
            exact hr j (by omega)) (fun z o kk => by
          have z1 : ch = 0 := z1' z
          have z2 : xI g0 99 l = nI (B 0 i) ∧ xI g0 100 l = nI (B 1 i) ∧ xI g0 101 l = nI (B 2 i) := by
            refine Classical.byContradiction fun w => ?_
            rw [if_neg w] at ra
            rw [ra, if_pos rfl, z1] at z
            exact absurd z (by decide)
          refine Eq.trans ?_ (hz z1 o kk)
          by_cases w : (o = 99 ∨ o = 100 ∨ o = 101) ∧ kk = l
          · obtain ⟨w1, rfl⟩ := w
            rcases w1 with rfl | rfl | rfl
            · rw [fG.1, z2.1]
            · rw [fG.2.1, z2.2.1]
            · rw [fG.2.2, z2.2.2]
          · exact oG o kk w)
        rw [el] at r1
        exact ⟨g', ch', (xlim_go st).trans r1, r2.1, r2.2.1, r2.2.2.1, fun z => ⟨z1' (r2.2.2.2 z).1, (r2.2.2.2 z).2⟩⟩
    · have e : yRu B k (i + 1) = yRu B k i := by rw [hd, if_neg (by simp [q1])]
      have st : S_X1_load_51 t k (nI (yRu B k i).length, ch, nI i, g0) = some (.inl (nI (yRu B k (i + 1)).length, ch, nI (i + 1), g0)) := by
        unfold S_X1_load_51
        simp only [if_neg c0, k2 q1, if_true, nI_1, e]
      obtain ⟨g', ch', r1, r2⟩ := ih (i + 1) g0 ch (by omega) hc hch y (by rw [e]; exact hr) hz
      exact ⟨g', ch', (xlim_go st).trans r1, r2⟩
/-- what is loaded; known stays as it was only if all is as it was -/
theorem r_load (C : Cx g β T B) : ∃ g', E_X1_load (tw g) k g = some g' ∧ yAg dLd g g' ∧ xI g' 98 0 = nI (T 0 0) ∧ xI g' 98 1 = nI (T 0 2) ∧ xI g' 98 2 = nI (yRu B k (B 9 0)).length ∧ yRr g' (yRu B k (B 9 0)) ∧ (xI g' 98 12 = -1 ∨ (∀ o j, xI g' o j = xI g o j)) := by
  have hn := C.2.2.2.1
  obtain ⟨hw, hc, -⟩ := C.2.2.1
  have t0 : xI g (tw g) 0 = nI (T 0 0) := C.2.1.2.1.1
  have t5 : xI g (tw g) 5 = nI (T 0 2) := C.2.1.2.1.2.2.1
  have htw := xtw_lt C.1
  generalize hG : xWI (xWI g 98 0 (nI (T 0 0))) 98 1 (nI (T 0 2)) = G
  have yG : yAg dLd g G := by rw [← hG]; exact ((yAg.refl _ g).wi (by unfold dLd; omega)).wi (by unfold dLd; omega)
  have cG : bkC G 32 (T 0 0) B := hc.ag yG (fun j k hj _ => by unfold dLd; omega)
  have f2 : xI G 98 0 = nI (T 0 0) ∧ xI G 98 1 = nI (T 0 2) := by rw [← hG]; simp [yI_wi]
  have hK : ∀ ch : Int32, (ch = 0 ∨ ch = 1) → (ch = 0 → ∀ o j, xI G o j = xI g o j) → ∃ g', K_X1_load_30 (tw g) k 0 ch g = some g' ∧ yAg dLd g g' ∧ xI g' 98 0 = nI (T 0 0) ∧ xI g' 98 1 = nI (T 0 2) ∧ xI g' 98 2 = nI (yRu B k (B 9 0)).length ∧ yRr g' (yRu B k (B 9 0)) ∧ (xI g' 98 12 = -1 ∨ (∀ o j, xI g' o j = xI g o j)) := by
    intro ch hch hz
    obtain ⟨g1, ch', r1, r2, r3, r4, r5⟩ := r_loadL (g := G) (k := k) hn hw (tw g) (B 9 0) 0 G ch (by omega) cG hch (yAg.refl _ _) (fun i hi => absurd hi (Nat.not_lt_zero _)) (fun _ _ _ => rfl)
    have y1 : yAg dLd G g1 := r3.up (fun o k h => by unfold dLd; omega)
    have o1 : ∀ k, xI g1 98 k = xI G 98 k := fun k => r3.2 _ _ (by omega)
    have rr : ∀ X : xSt, (∀ o k, o = 99 ∨ o = 100 ∨ o = 101 → xI X o k = xI g1 o k) → yRr X (yRu B k (B 9 0)) := fun X h i hi => by
      rw [h _ _ (by omega), h _ _ (by omega), h _ _ (by omega)]; exact r4 i hi
    unfold K_X1_load_30
    have e5 : xI (xWI g 98 0 (nI (T 0 0))) (tw g) 5 = nI (T 0 2) := by rw [yI_wi, if_neg (by omega)]; exact t5
    rw [t0, e5, hG, show xlim (S_X1_load_51 (tw g) k) (0, ch, 0, G) = some _ from r1, xb1_some]
    unfold K_X1_load_199
    have stale : ∃ g', (some (xWI (xWI g1 98 12 (-1)) 98 2 (nI (yRu B k (B 9 0)).length)) : Option xSt) = some g' ∧ yAg dLd g g' ∧ xI g' 98 0 = nI (T 0 0) ∧ xI g' 98 1 = nI (T 0 2) ∧ xI g' 98 2 = nI (yRu B k (B 9 0)).length ∧ yRr g' (yRu B k (B 9 0)) ∧ (xI g' 98 12 = -1 ∨ (∀ o j, xI g' o j = xI g o j)) := by
      refine ⟨_, rfl, ((yG.tr y1).wi (by unfold dLd; omega)).wi (by unfold dLd; omega), ?_, ?_, ?_, rr _ (fun o k h => by rw [yI_wi, if_neg (by omega), yI_wi, if_neg (by omega)]), Or.inl ?_⟩
      · rw [yI_wi, if_neg (by omega), yI_wi, if_neg (by omega), o1]; exact f2.1
      · rw [yI_wi, if_neg (by omega), yI_wi, if_neg (by omega), o1]; exact f2.2
      · rw [yI_wi, if_pos ⟨rfl, rfl⟩]
      · rw [yI_wi, if_neg (by omega), yI_wi, if_pos ⟨rfl, rfl⟩]
    by_cases c1 : ch' = 0
    · rw [if_pos c1]
      by_cases c2 : nI (yRu B k (B 9 0)).length = xI g1 98 2
      · rw [if_pos c2]
        refine ⟨_, rfl, (yG.tr y1).wi (by unfold dLd; omega), ?_, ?_, ?_, rr _ (fun o k h => by rw [yI_wi, if_neg (by omega)]), ?_⟩
        · rw [yI_wi, if_neg (by omega), o1]; exact f2.1
        · rw [yI_wi, if_neg (by omega), o1]; exact f2.2
        · rw [yI_wi, if_pos ⟨rfl, rfl⟩]
        · have c3 := (r5 c1).1
          refine Or.inr fun o j => ?_
          rw [yI_wi]
          by_cases w : o = 98 ∧ j = 2
          · obtain ⟨rfl, rfl⟩ := w
            rw [if_pos ⟨rfl, rfl⟩, c2, (r5 c1).2, hz c3]
          · rw [if_neg w, (r5 c1).2, hz c3]
      · rw [if_neg c2]; exact stale
    · rw [if_neg c1]; exact stale
  unfold E_X1_load K_X1_load_25
  rw [t0, t5]
  by_cases e0 : xI g 98 0 = nI (T 0 0)
  · rw [if_pos e0]
    by_cases e1 : xI g 98 1 = nI (T 0 2)
    · rw [if_pos e1]
      exact hK 0 (Or.inl rfl) fun _ o j => by
        rw [← hG, yI_wi, yI_wi]
        by_cases w1 : o = 98 ∧ j = 1
        · rw [if_pos w1, w1.1, w1.2, e1]
        · rw [if_neg w1]
          by_cases w2 : o = 98 ∧ j = 0
          · rw [if_pos w2, w2.1, w2.2, e0]
          · rw [if_neg w2]
    · rw [if_neg e1]
      exact hK 1 (Or.inr rfl) (fun z => absurd z (by decide))
  · rw [if_neg e0]
    exact hK 1 (Or.inr rfl) (fun z => absurd z (by decide))
end LO
