/-! WEIGHTS that fit: the last thing; the recursion -/
section LT
variable {g g' : xSt} {t b x n st R Q : Nat} {rf rs rd qa qb : Nat → Nat} {P : List Nat} {a1 a2 a3 : Int32}
theorem r_note {u : Nat} (hu : u < 64) (h0 : u ≠ 0) (ht : t < 5) (hP : P.length < 9000) (hp : yPx g t b) (ha : yAc g (t + 1) st P 0 qa qb) : ∃ g', E_X1_note (nI u) (nI t) g = some g' ∧ yAg (fun o k => (104 ≤ o ∧ o ≤ 106) ∨ (o = 98 ∧ k = 11)) g g' ∧ yAc g' (t + 1) st (P ++ yBl6 u b) 0 qa qb := by
  obtain ⟨m1, m2, m3, m4, m5, m6, m7⟩ := yMk1 u hu h0
  obtain ⟨q1, q2, -⟩ := ha
  have e := xlim_from (step := S_X1_note_14 (nI u) (nI t) (nI (yLo u))) (fun w => (nI (yHu u w), nI w, g)) (yLo u) 7 (by omega) (e := (nI (yHu u 7), g)) (fun w hw1 hw => ?_) ?_
  · rw [m4] at e
    -- the loop over the things
    have low : ∀ j, j ≤ t → (if nI j = nI t then nI (yLo u) else xat (xI g 103) 5 (nI j)) = nI (if j = t then yLo u else yWt t b j) ∧ (if nI j = nI t then nI (yHu u 7) else xat (xI g 103) 5 (nI j)) = nI (if j = t then yHu u 7 else yWt t b j) := by
      intro j hj
      by_cases c : j = t
      · have c' : nI j = nI t := by rw [c]
        rw [if_pos c', if_pos c', if_pos c, if_pos c]; exact ⟨rfl, rfl⟩
      · have c' : ¬ nI j = nI t := fun z => c ((nI_eq (by omega) (by omega)).mp z)
        rw [if_neg c', if_neg c', if_neg c, if_neg c, xat_nI (by omega) (by decide), hp.1 j (by omega)]; exact ⟨rfl, rfl⟩
    have key : ∀ m j g1, m + j = t + 1 → yAg (fun o _ => 104 ≤ o ∧ o ≤ 106) g g1 → (∀ i, i < j → xI g1 105 i = nI (yMn (t + 1) (P ++ yBl6 u b) i) ∧ xI g1 106 i = nI (yMa (t + 1) (P ++ yBl6 u b) i) ∧ (P = [] → xI g1 104 i = nI (if i = t then yLo u else yWt t b i))) → (∀ i, j ≤ i → xI g1 105 i = xI g 105 i ∧ xI g1 106 i = xI g 106 i) → (P ≠ [] → ∀ i, xI g1 104 i = xI g 104 i) → ∃ g', xlim (S_X1_note_50 (nI u) (nI t) (nI (yLo u)) (nI (yHu u 7))) (nI j, g1) = some g' ∧ yAg (fun o _ => 104 ≤ o ∧ o ≤ 106) g g' ∧ (∀ i, i < t + 1 → xI g' 105 i = nI (yMn (t + 1) (P ++ yBl6 u b) i) ∧ xI g' 106 i = nI (yMa (t + 1) (P ++ yBl6 u b) i) ∧ (P = [] → xI g' 104 i = nI (if i = t then yLo u else yWt t b i))) ∧ (P ≠ [] → ∀ i, xI g' 104 i = xI g 104 i) := by
      intro m
      induction m with
      | zero =>
        intro j g1 hj y l1 l2 l3
        have : j = t + 1 := by omega
        subst this
        refine ⟨g1, xlim_end (if_pos (nI_lt (Nat.lt_succ_self t) (by omega))), y, l1, l3⟩
      | succ m ih =>
        intro j g1 hj y l1 l2 l3
        have hjt : j ≤ t := by omega
        obtain ⟨f1, f2, f3⟩ := yBl6_f (n := t + 1) (P := P) (b := b) hu h0 rfl (show j < t + 1 by omega)
        have e103 : xI g1 103 j = xI g 103 j := y.2 _ _ (by omega)
        have e105 : xI g1 105 j = nI (yMn (t + 1) P j) := ((l2 j (Nat.le_refl _)).1).trans (q2 j (by omega)).2.1
        have e106 : xI g1 106 j = nI (yMa (t + 1) P j) := ((l2 j (Nat.le_refl _)).2).trans (q2 j (by omega)).2.2
        have e11 : xI g1 98 11 = nI P.length := (y.2 _ _ (by omega)).trans q1
        have b1 := yMn_le (n := t + 1) P j
        have b2 := yMa_le (n := t + 1) P j
        have wj := yWt_i t b j
        have lo6 : (if j = t then yLo u else yWt t b j) ≤ 6 := by split <;> omega
        have hi6 : (if j = t then yHu u 7 else yWt t b j) ≤ 6 := by split <;> omega
        -- what a turn leaves
        have stK : ∀ lo hi, lo ≤ 6 → hi ≤ 6 → K_X1_note_97 (nI u) (nI t) (nI (yLo u)) (nI (yHu u 7)) (nI j) (nI lo) (nI hi) g1 = some (.inl (nI (j + 1), if P.length = 0 then xWI (xWI (xWI g1 105 j (nI (min (yMn (t + 1) P j) lo))) 106 j (nI (max (yMa (t + 1) P j) hi))) 104 j (nI lo) else xWI (xWI g1 105 j (nI (min (yMn (t + 1) P j) lo))) 106 j (nI (max (yMa (t + 1) P j) hi)))) := by
          intro lo hi h1 h2
          unfold K_X1_note_97
          simp only [xat_nI (show j < 5 by omega) (show (5 : Nat) < 2 ^ 31 by decide), xput_nI (show j < 5 by omega) (show (5 : Nat) < 2 ^ 31 by decide), e105, r_imin (show yMn (t + 1) P j < 2 ^ 31 by omega) (show lo < 2 ^ 31 by omega), nI_1]
          have r6 : xI (xWI g1 105 j (nI (min (yMn (t + 1) P j) lo))) 106 j = nI (yMa (t + 1) P j) := by rw [yI_wi, if_neg (by omega)]; exact e106
          rw [r6, r_imax (by omega) (by omega)]
          have r11 : xI (xWI (xWI g1 105 j (nI (min (yMn (t + 1) P j) lo))) 106 j (nI (max (yMa (t + 1) P j) hi))) 98 11 = nI P.length := by rw [yI_wi, if_neg (by omega), yI_wi, if_neg (by omega)]; exact e11
          rw [r11]
          by_cases c : P.length = 0
          · rw [if_pos (show nI P.length = (0 : Int32) by rw [c]; rfl), if_pos c]
          · rw [if_neg (show ¬ nI P.length = (0 : Int32) from fun z => c ((nI_eq (by omega) (by decide)).mp (show _ = nI 0 from z))), if_neg c]
        have st : S_X1_note_50 (nI u) (nI t) (nI (yLo u)) (nI (yHu u 7)) (nI j, g1) = some (.inl (nI (j + 1), if P.length = 0 then xWI (xWI (xWI g1 105 j (nI (min (yMn (t + 1) P j) (if j = t then yLo u else yWt t b j)))) 106 j (nI (max (yMa (t + 1) P j) (if j = t then yHu u 7 else yWt t b j)))) 104 j (nI (if j = t then yLo u else yWt t b j)) else xWI (xWI g1 105 j (nI (min (yMn (t + 1) P j) (if j = t then yLo u else yWt t b j)))) 106 j (nI (max (yMa (t + 1) P j) (if j = t then yHu u 7 else yWt t b j))))) := by
          unfold S_X1_note_50 K_X1_note_75
          have c0 : ¬ nI t < nI j := by rw [nI_ltI (by omega) (by omega)]; omega
          simp only [if_neg c0]
          by_cases c : j = t
          · have c' : nI j = nI t := by rw [c]
            rw [if_pos c', if_pos c', stK _ _ m3 m6, if_pos c, if_pos c]
          · have c' : ¬ nI j = nI t := fun z => c ((nI_eq (by omega) (by omega)).mp z)
            rw [if_neg c', if_neg c', xat_nI (by omega) (by decide), e103, hp.1 j (by omega), stK _ _ (by omega) (by omega), if_neg c, if_neg c]
        rw [← f1, ← f2] at st
        obtain ⟨g', r1, r2⟩ := ih (j + 1) (if P.length = 0 then xWI (xWI (xWI g1 105 j (nI (yMn (t + 1) (P ++ yBl6 u b) j))) 106 j (nI (yMa (t + 1) (P ++ yBl6 u b) j))) 104 j (nI (if j = t then yLo u else yWt t b j)) else xWI (xWI g1 105 j (nI (yMn (t + 1) (P ++ yBl6 u b) j))) 106 j (nI (yMa (t + 1) (P ++ yBl6 u b) j))) (by omega) (by
          split
          · exact ((y.wi (by decide)).wi (by decide)).wi (by decide)
          · exact (y.wi (by decide)).wi (by decide)) (fun i hi => by
          by_cases c : i = j
          · subst c
            by_cases d : P.length = 0
            · rw [if_pos d]
              refine ⟨?_, ?_, fun _ => ?_⟩
              · rw [yI_wi, if_neg (by omega), yI_wi, if_neg (by omega), yI_wi, if_pos ⟨rfl, rfl⟩]
              · rw [yI_wi, if_neg (by omega), yI_wi, if_pos ⟨rfl, rfl⟩]
              · rw [yI_wi, if_pos ⟨rfl, rfl⟩]
            · rw [if_neg d]
              refine ⟨?_, ?_, fun z => absurd (by rw [z]; rfl) d⟩
              · rw [yI_wi, if_neg (by omega), yI_wi, if_pos ⟨rfl, rfl⟩]
              · rw [yI_wi, if_pos ⟨rfl, rfl⟩]
          · obtain ⟨l4, l5, l6⟩ := l1 i (by omega)
            by_cases d : P.length = 0
            · rw [if_pos d]
              refine ⟨?_, ?_, fun z => ?_⟩
              · rw [yI_wi, if_neg (by omega), yI_wi, if_neg (by omega), yI_wi, if_neg (by omega)]; exact l4
              · rw [yI_wi, if_neg (by omega), yI_wi, if_neg (by omega), yI_wi, if_neg (by omega)]; exact l5
              · rw [yI_wi, if_neg (by omega), yI_wi, if_neg (by omega), yI_wi, if_neg (by omega)]; exact l6 z
            · rw [if_neg d]
              refine ⟨?_, ?_, fun z => absurd (by rw [z]; rfl) d⟩
              · rw [yI_wi, if_neg (by omega), yI_wi, if_neg (by omega)]; exact l4
              · rw [yI_wi, if_neg (by omega), yI_wi, if_neg (by omega)]; exact l5) (fun i hi => by
          obtain ⟨l4, l5⟩ := l2 i (by omega)
          by_cases d : P.length = 0
          · rw [if_pos d]
            refine ⟨?_, ?_⟩
            · rw [yI_wi, if_neg (by omega), yI_wi, if_neg (by omega), yI_wi, if_neg (by omega)]; exact l4
            · rw [yI_wi, if_neg (by omega), yI_wi, if_neg (by omega), yI_wi, if_neg (by omega)]; exact l5
          · rw [if_neg d]
            refine ⟨?_, ?_⟩
            · rw [yI_wi, if_neg (by omega), yI_wi, if_neg (by omega)]; exact l4
            · rw [yI_wi, if_neg (by omega), yI_wi, if_neg (by omega)]; exact l5) (fun z i => by
          have d : ¬ P.length = 0 := fun y => z (List.eq_nil_of_length_eq_zero y)
          rw [if_neg d, yI_wi, if_neg (by omega), yI_wi, if_neg (by omega)]; exact l3 z i)
        exact ⟨g', (xlim_go st).trans r1, r2⟩
    obtain ⟨g1, r1, r2, r3, r4⟩ := key (t + 1) 0 g (by omega) (yAg.refl _ _) (fun i hi => by omega) (fun i _ => ⟨rfl, rfl⟩) (fun _ _ => rfl)
    have pc := yMk4 u hu
    have e11 : xI g1 98 11 = nI P.length := (r2.2 _ _ (by omega)).trans q1
    have len : (P ++ yBl6 u b).length = P.length + (yBx u).length := by rw [List.length_append]; unfold yBl6; rw [List.length_map]
    refine ⟨xWI g1 98 11 (nI (P ++ yBl6 u b).length), ?_, ⟨r2.1, fun o k h => ?_⟩, ⟨by rw [yI_wi, if_pos ⟨rfl, rfl⟩], fun j hj => ?_, fun i hi => by omega⟩⟩
    · unfold E_X1_note
      rw [m1, e, xb1_some, show xlim (S_X1_note_50 (nI u) (nI t) (nI (yLo u)) (nI (yHu u 7))) (0, g) = some g1 from r1, xb1_some, e11, pc.1, nI_add, len]
    · rw [yI_wi, if_neg (fun z => h (Or.inr z))]
      exact r2.2 o k (fun z => h (Or.inl z))
    · obtain ⟨f1, f2, f3⟩ := yBl6_f (n := t + 1) (P := P) (b := b) hu h0 rfl hj
      obtain ⟨l4, l5, l6⟩ := r3 j hj
      refine ⟨fun _ => ?_, ?_, ?_⟩
      · rw [yI_wi, if_neg (by omega), f3]
        by_cases z : P = []
        · rw [if_pos z, l6 z, yWt_kid (show yLo u - 1 < 6 by omega) hj]
          by_cases w : j = t
          · rw [if_pos w, if_pos w, show yLo u - 1 + 1 = yLo u by omega]
          · rw [if_neg w, if_neg w]
        · rw [if_neg z, r4 z j]; exact (q2 j hj).1 z
      · rw [yI_wi, if_neg (by omega)]; exact l4
      · rw [yI_wi, if_neg (by omega)]; exact l5
  · unfold S_X1_note_14
    have c0 : ¬ (6 : Int32) < nI w := by rw [show (6 : Int32) = nI 6 from rfl, nI_ltI (by decide) (by omega)]; omega
    simp only [if_neg c0, nI_1]
    rw [yMk2 u hu w hw (by omega)]
  · unfold S_X1_note_14
    exact if_pos (show (6 : Int32) < nI 7 by decide)
/-- the asks as they can be -/
def yQl (n Q : Nat) (qa qb : Nat → Nat) : Prop := Q ≤ 90 ∧ ∀ i, i < Q → qa i < 2 ^ n ∧ qb i < 2 ^ n ∧ qa i &&& qb i = 0
/-- the mask behind i rules -/
def yPm (st t b : Nat) (rf rs rd : Nat → Nat) (i x : Nat) : Bool := (List.range i).all fun i' => !((rf i' ||| rs i') >>> t == 1) || ySx st t b x (rf i') (rs i') == rd i'
theorem yPm_succ {st t b : Nat} {rf rs rd : Nat → Nat} {i x : Nat} : yPm st t b rf rs rd (i + 1) x = (yPm st t b rf rs rd i x && (!((rf i ||| rs i) >>> t == 1) || ySx st t b x (rf i) (rs i) == rd i)) := by
  unfold yPm
  rw [List.range_succ, List.all_append]
  simp
/-- the rules within the first t things hold -/
def yOk (st R : Nat) (rf rs rd : Nat → Nat) (t b : Nat) : Prop := ∀ i, i < R → (rf i ||| rs i) < 2 ^ t → yBl st (yHw (yWt t b) (rf i) t) (yHw (yWt t b) (rs i) t) = rd i
theorem yHw_dn {w u : Nat → Nat} {a t : Nat} (ha : a < 2 ^ t) (h : ∀ j, j < t → w j = u j) : yHw w a (t + 1) = yHw u a t := by
  rw [yHw_tp ha (Nat.le_succ t)]
  exact yHw_congr a t h
theorem yOr_lo {a c t : Nat} (h : a ||| c < 2 ^ t) : a < 2 ^ t ∧ c < 2 ^ t := ⟨Nat.lt_of_le_of_lt Nat.left_le_or h, Nat.lt_of_le_of_lt Nat.right_le_or h⟩
theorem yOk_kid (hr : yRl n R rf rs rd) (hx : x < 6) : yOk st R rf rs rd (t + 1) (6 * b + x) ↔ yOk st R rf rs rd t b ∧ yHt st R rf rs rd (yWt (t + 1) (6 * b + x)) (t + 1) t = true := by
  have same : ∀ i, (rf i ||| rs i) < 2 ^ t → yHw (yWt (t + 1) (6 * b + x)) (rf i) (t + 1) = yHw (yWt t b) (rf i) t ∧ yHw (yWt (t + 1) (6 * b + x)) (rs i) (t + 1) = yHw (yWt t b) (rs i) t := fun i h => by
    obtain ⟨h1, h2⟩ := yOr_lo h
    exact ⟨yHw_dn h1 fun j hj => by rw [yWt_kid hx (by omega), if_neg (by omega)], yHw_dn h2 fun j hj => by rw [yWt_kid hx (by omega), if_neg (by omega)]⟩
  constructor
  · intro h
    refine ⟨fun i hi hlt => ?_, yHt_i.mpr fun i hi e => h i hi ?_⟩
    · have := h i hi (by rw [Nat.pow_succ]; omega)
      rw [(same i hlt).1, (same i hlt).2] at this
      exact this
    · obtain ⟨h1, h2⟩ := r_hi1 e
      exact Nat.or_lt_two_pow h1 h2
  · rintro ⟨h1, h2⟩ i hi hlt
    by_cases c : (rf i ||| rs i) < 2 ^ t
    · rw [(same i c).1, (same i c).2]; exact h1 i hi c
    · refine yHt_i.mp h2 i hi ?_
      rw [Nat.shiftRight_eq_div_pow]
      refine Nat.div_eq_of_lt_le (by omega) ?_
      rw [Nat.pow_succ] at hlt; omega
theorem yFr_ok {v : Nat} (hr : yRl n R rf rs rd) : yFr n st R rf rs rd v = true ↔ yOk st R rf rs rd n v := by
  rw [yFr_i]
  constructor
  · intro h i hi _; exact h i hi
  · intro h i hi
    obtain ⟨h1, h2, -, -⟩ := hr.2 i hi
    exact h i hi (Nat.or_lt_two_pow h1.2 h2.2)
theorem yFb_last (hn : n = t + 1) (hr : yRl n R rf rs rd) (ok : yOk st R rf rs rd t b) : yFb n st R rf rs rd t b = yBl6 (yBs (yPm st t b rf rs rd R) 6) b := by
  subst hn
  unfold yFb yBl6
  rw [yBx_bs, show t + 1 - t = 1 by omega, Nat.pow_one, List.range'_eq_map_range, List.filter_map, show b * 6 = 6 * b by omega]
  refine congrArg (List.map (fun x => 6 * b + x)) (List.filter_congr fun x hx => ?_)
  rw [List.mem_range] at hx
  rw [Bool.eq_iff_iff]
  show yFr (t + 1) st R rf rs rd (6 * b + x) = true ↔ _
  rw [yFr_ok hr, yOk_kid hr hx, yHt_i]
  unfold yPm
  simp only [List.all_eq_true, List.mem_range, Bool.or_eq_true, Bool.not_eq_true', beq_eq_false_iff_ne, beq_iff_eq]
  constructor
  · rintro ⟨-, h⟩ i hi
    by_cases e : (rf i ||| rs i) >>> t = 1
    · exact Or.inr (h i hi e)
    · exact Or.inl e
  · intro h
    exact ⟨ok, fun i hi e => (h i hi).resolve_left (fun z => z e)⟩
theorem yCo_app {a c s u : Nat} {p : Nat → Bool} (hn : n = t + 1) (hu : u = yBs p 6) : yCo n st a c s (P ++ yBl6 u b) = yCo n st a c s P + (yBx (yBs (fun x => p x && (ySx st t b x a c == s)) 6)).length := by
  subst hn
  subst hu
  unfold yCo yBl6
  rw [List.filter_append, List.length_append, List.filter_map, List.length_map, yBx_bs, yBx_bs, List.filter_filter]
  congr 2
  refine List.filter_congr fun x _ => ?_
  rw [Bool.and_comm]
  rfl
theorem r_and63 : ∀ u, u < 64 → ∀ y : Int32, nI u &&& y = nI u &&& (63 &&& y) := by
  intro u hu y
  rw [← Int32.and_assoc, show (63 : Int32) = nI 63 from rfl, r_andG, show (63 : Nat) = 2 ^ 6 - 1 from rfl, Nat.and_two_pow_sub_one_eq_mod, Nat.mod_eq_of_lt (by omega)]
theorem r_asks {p : Nat → Bool} (ht : t < 5) (hs : st ≤ 99) (hQ : yQl (t + 1) Q qa qb) (hG : yGx g (t + 1) st R rf rs rd Q qa qb) (hp : yPx g t b) (hc : ∀ i, i < Q → xI g 109 i = nI (yCo (t + 1) st (qa i) (qb i) 1 P) ∧ xI g 110 i = nI (yCo (t + 1) st (qa i) (qb i) 2 P)) : ∃ g', xlim (S_X1_layLast_87 (nI t) (nI (yBs p 6))) (0, g) = some g' ∧ yAg (fun o _ => o = 109 ∨ o = 110) g g' ∧ ∀ i, i < Q → xI g' 109 i = nI (yCo (t + 1) st (qa i) (qb i) 1 (P ++ yBl6 (yBs p 6) b)) ∧ xI g' 110 i = nI (yCo (t + 1) st (qa i) (qb i) 2 (P ++ yBl6 (yBs p 6) b)) := by
  have hQ90 := hQ.1
  have h32 : 2 ^ (t + 1) ≤ 32 := Nat.pow_le_pow_right (n := 2) (by decide) (show t + 1 ≤ 5 by omega)
  have U6 : yBs p 6 < 64 := yBs_lt
  have key : ∀ m j g1, m + j = Q → yAg (fun o _ => o = 109 ∨ o = 110) g g1 → (∀ i, i < j → xI g1 109 i = nI (yCo (t + 1) st (qa i) (qb i) 1 (P ++ yBl6 (yBs p 6) b)) ∧ xI g1 110 i = nI (yCo (t + 1) st (qa i) (qb i) 2 (P ++ yBl6 (yBs p 6) b))) → (∀ i, j ≤ i → i < Q → xI g1 109 i = nI (yCo (t + 1) st (qa i) (qb i) 1 P) ∧ xI g1 110 i = nI (yCo (t + 1) st (qa i) (qb i) 2 P)) → ∃ g', xlim (S_X1_layLast_87 (nI t) (nI (yBs p 6))) (nI j, g1) = some g' ∧ yAg (fun o _ => o = 109 ∨ o = 110) g g' ∧ ∀ i, i < Q → xI g' 109 i = nI (yCo (t + 1) st (qa i) (qb i) 1 (P ++ yBl6 (yBs p 6) b)) ∧ xI g' 110 i = nI (yCo (t + 1) st (qa i) (qb i) 2 (P ++ yBl6 (yBs p 6) b)) := by
    intro m
    induction m with
    | zero =>
      intro j g1 hj y l1 l2
      have : j = Q := by omega
      subst this
      have G1 : yGx g1 (t + 1) st R rf rs rd j qa qb := hG.ag (y.up (fun o k h => by unfold dGs; omega))
      refine ⟨g1, xlim_end ?_, y, l1⟩
      unfold S_X1_layLast_87
      simp only [G1.2.2.2.2.1]
      exact if_pos (nI_le (Nat.le_refl _) (by omega))
    | succ m ih =>
      intro j g1 hj y l1 l2
      have hjQ : j < Q := by omega
      have G1 : yGx g1 (t + 1) st R rf rs rd Q qa qb := hG.ag (y.up (fun o k h => by unfold dGs; omega))
      have p1 : yPx g1 t b := hp.ag y (fun k => by omega) (fun k => by omega)
      obtain ⟨w1, w2, w3⟩ := hQ.2 j hjQ
      obtain ⟨e1, e2⟩ := l2 j (Nat.le_refl _) hjQ
      have fo := r_fitsOf ht hs G1.2.1 p1 w1 w2 w3
      have U : yBs (fun x => ySx st t b x (qa j) (qb j) == 2) 6 < 64 := yBs_lt
      have D : yBs (fun x => ySx st t b x (qa j) (qb j) == 1) 6 < 64 := yBs_lt
      obtain ⟨u1, u2⟩ := r_un6 _ U _ D
      have d1 : xbci (nI (yBs p 6) &&& nI (64 * yBs (fun x => ySx st t b x (qa j) (qb j) == 2) 6 + yBs (fun x => ySx st t b x (qa j) (qb j) == 1) 6)) = nI (yBx (yBs (fun x => p x && (ySx st t b x (qa j) (qb j) == 1)) 6)).length := by
        rw [r_and63 _ U6, u1, r_andG, yBs_and]
        exact (yMk4 _ yBs_lt).1
      have d2 : xbci (nI (yBs p 6) &&& (nI (64 * yBs (fun x => ySx st t b x (qa j) (qb j) == 2) 6 + yBs (fun x => ySx st t b x (qa j) (qb j) == 1) 6) >>> ((6 : Int32) &&& 31))) = nI (yBx (yBs (fun x => p x && (ySx st t b x (qa j) (qb j) == 2)) 6)).length := by
        rw [u2, r_andG, yBs_and]
        exact (yMk4 _ yBs_lt).1
      have stp : S_X1_layLast_87 (nI t) (nI (yBs p 6)) (nI j, g1) = some (.inl (nI (j + 1), xWI (xWI g1 109 j (nI (yCo (t + 1) st (qa j) (qb j) 1 (P ++ yBl6 (yBs p 6) b)))) 110 j (nI (yCo (t + 1) st (qa j) (qb j) 2 (P ++ yBl6 (yBs p 6) b))))) := by
        unfold S_X1_layLast_87
        simp only [G1.2.2.2.2.1, if_neg (nI_ge hjQ (show Q < 2 ^ 31 by omega)), xat_nI (show j < 90 by omega) (show (90 : Nat) < 2 ^ 31 by decide), (G1.2.2.2.2.2 j hjQ).1, (G1.2.2.2.2.2 j hjQ).2, fo, xb1_some, d1, d2, nI_1]
        unfold xadd
        rw [if_neg (nI_in (show j < 90 by omega) (by decide)), if_neg (nI_in (show j < 90 by omega) (by decide)), nI_clamp (by omega), e1, nI_add, yI_wi, if_neg (by omega), e2, nI_add, yCo_app rfl rfl, yCo_app rfl rfl]
      obtain ⟨g', r1, r2⟩ := ih (j + 1) (xWI (xWI g1 109 j (nI (yCo (t + 1) st (qa j) (qb j) 1 (P ++ yBl6 (yBs p 6) b)))) 110 j (nI (yCo (t + 1) st (qa j) (qb j) 2 (P ++ yBl6 (yBs p 6) b)))) (by omega) ((y.wi (Or.inl rfl)).wi (Or.inr rfl)) (fun i hi => by
        by_cases c : i = j
        · subst c
          refine ⟨?_, ?_⟩
          · rw [yI_wi, if_neg (by omega), yI_wi, if_pos ⟨rfl, rfl⟩]
          · rw [yI_wi, if_pos ⟨rfl, rfl⟩]
        · obtain ⟨z1, z2⟩ := l1 i (by omega)
          refine ⟨?_, ?_⟩
          · rw [yI_wi, if_neg (by omega), yI_wi, if_neg (by omega)]; exact z1
          · rw [yI_wi, if_neg (by omega), yI_wi, if_neg (by omega)]; exact z2) (fun i hi hi2 => by
        obtain ⟨z1, z2⟩ := l2 i (by omega) hi2
        refine ⟨?_, ?_⟩
        · rw [yI_wi, if_neg (by omega), yI_wi, if_neg (by omega)]; exact z1
        · rw [yI_wi, if_neg (by omega), yI_wi, if_neg (by omega)]; exact z2)
      exact ⟨g', (xlim_go stp).trans r1, r2⟩
  exact key Q 0 g (by omega) (yAg.refl _ _) (fun i hi => by omega) (fun i _ hi => hc i hi)
theorem r_last (ht : t < 5) (hs : st ≤ 99) (hr : yRl (t + 1) R rf rs rd) (hQ : yQl (t + 1) Q qa qb) (hG : yGx g (t + 1) st R rf rs rd Q qa qb) (hp : yPx g t b) (ok : yOk st R rf rs rd t b) (hP : P.length < 9000) (ha : yAc g (t + 1) st P Q qa qb) : ∃ g', E_X1_layLast (nI t) g = some g' ∧ yAg dGs g g' ∧ yPx g' t b ∧ yAc g' (t + 1) st (P ++ yFb (t + 1) st R rf rs rd t b) Q qa qb := by
  have hR := hr.1
  have h32 : 2 ^ (t + 1) ≤ 32 := Nat.pow_le_pow_right (n := 2) (by decide) (show t + 1 ≤ 5 by omega)
  obtain ⟨q1, q2, q3, q4, q5, q6⟩ := id hG
  have key : ∀ m i, m + i = R → xlim (S_X1_layLast_5 (nI t)) (nI (yBs (yPm st t b rf rs rd i) 6), nI i, g) = some (nI (yBs (yPm st t b rf rs rd R) 6), g) := by
    intro m
    induction m with
    | zero =>
      intro i hi
      have : i = R := by omega
      subst this
      refine xlim_end ?_
      unfold S_X1_layLast_5
      simp only [q3]
      exact if_pos (nI_le (Nat.le_refl _) (by omega))
    | succ m ih =>
      intro i hi
      have hiR : i < R := by omega
      have U : yBs (yPm st t b rf rs rd i) 6 < 64 := yBs_lt
      obtain ⟨e1, e2, e3⟩ := q4 i hiR
      obtain ⟨f1, f2, f3, f4⟩ := hr.2 i hiR
      have hor : rf i ||| rs i < 2 ^ 5 := Nat.or_lt_two_pow (by omega) (by omega)
      by_cases z : yBs (yPm st t b rf rs rd i) 6 = 0
      · have zR : yBs (yPm st t b rf rs rd R) 6 = 0 := by
          have : ∀ m, yBs (yPm st t b rf rs rd (i + m)) 6 = 0 := by
            intro m
            induction m with
            | zero => exact z
            | succ m ih =>
              have e : yBs (yPm st t b rf rs rd (i + (m + 1))) 6 = yBs (fun x => yPm st t b rf rs rd (i + m) x && (!((rf (i + m) ||| rs (i + m)) >>> t == 1) || ySx st t b x (rf (i + m)) (rs (i + m)) == rd (i + m))) 6 := yBs_congr (fun x _ => yPm_succ)
              rw [e, ← yBs_and, ih, Nat.zero_and]
          have := this (R - i)
          rw [show i + (R - i) = R by omega] at this
          exact this
        rw [zR, z]
        refine xlim_end ?_
        unfold S_X1_layLast_5
        simp only [q3, if_neg (nI_ge hiR (show R < 2 ^ 31 by omega))]
        exact if_pos rfl
      · have stp : S_X1_layLast_5 (nI t) (nI (yBs (yPm st t b rf rs rd i) 6), nI i, g) = some (.inl (nI (yBs (yPm st t b rf rs rd (i + 1)) 6), nI (i + 1), g)) := by
          unfold S_X1_layLast_5
          have hsh := Nat.shiftRight_le (rf i ||| rs i) t
          simp only [q3, if_neg (nI_ge hiR (show R < 2 ^ 31 by omega)), if_neg (show ¬ nI (yBs (yPm st t b rf rs rd i) 6) = (0 : Int32) from fun y => z ((nI_eq (by omega) (by decide)).mp (show _ = nI 0 from y))), xat_nI (show i < 60 by omega) (show (60 : Nat) < 2 ^ 31 by decide), e1, e2, e3, r_orG, r_shr (show rf i ||| rs i < 2 ^ 31 by omega) (show t < 32 by omega), nI_1]
          have e : yBs (yPm st t b rf rs rd (i + 1)) 6 = yBs (fun x => yPm st t b rf rs rd i x && (!((rf i ||| rs i) >>> t == 1) || ySx st t b x (rf i) (rs i) == rd i)) 6 := yBs_congr (fun x _ => yPm_succ)
          rw [e]
          by_cases c : (rf i ||| rs i) >>> t = 1
          · obtain ⟨l1, l2⟩ := r_hi1 c
            rw [if_pos (show nI _ = (1 : Int32) by rw [c]; rfl), r_fitting ht hs q2 hp l1 l2 f3 f4, xb1_some, r_andG, yBs_and]
            refine congrArg (fun u => some (Sum.inl (nI u, nI (i + 1), g))) (yBs_congr fun x _ => ?_)
            rw [c]; simp
          · rw [if_neg (show ¬ nI _ = (1 : Int32) from fun y => c ((nI_eq (by omega) (by decide)).mp (show _ = nI 1 from y)))]
            refine congrArg (fun u => some (Sum.inl (nI u, nI (i + 1), g))) (yBs_congr fun x _ => ?_)
            simp [c]
        exact (xlim_go stp).trans (ih (i + 1) (by omega))
  have k0 := key R 0 (by omega)
  have u0 : yBs (yPm st t b rf rs rd 0) 6 = 63 := by
    have : (63 : Nat) = yBs (yPm st t b rf rs rd 0) 6 := yBs_of (by decide) fun x hx => by
      rw [show (63 : Nat) = 2 ^ 6 - 1 from rfl, Nat.testBit_two_pow_sub_one, decide_eq_true_iff]
      exact ⟨fun _ => rfl, fun _ => hx⟩
    exact this.symm
  rw [u0] at k0
  rw [yFb_last rfl hr ok]
  have U : yBs (yPm st t b rf rs rd R) 6 < 64 := yBs_lt
  unfold E_X1_layLast
  rw [show xlim (S_X1_layLast_5 (nI t)) (63, 0, g) = _ from k0, xb1_some]
  unfold K_X1_layLast_74
  by_cases z : yBs (yPm st t b rf rs rd R) 6 = 0
  · rw [z, if_pos (show nI 0 = (0 : Int32) from rfl)]
    refine ⟨g, rfl, yAg.refl _ _, hp, ?_⟩
    have : yBl6 0 b = [] := by
      unfold yBl6
      have : yBx 0 = [] := by decide +kernel
      rw [this]; rfl
    rw [this, List.append_nil]; exact ha
  · obtain ⟨g1, n1, n2, n3⟩ := r_note (st := st) (qa := qa) (qb := qb) U z ht hP hp ⟨ha.1, ha.2.1, fun i hi => by omega⟩
    have y1 : yAg dGs g g1 := n2.up (fun o k h => by unfold dGs; omega)
    have p1 : yPx g1 t b := hp.ag n2 (fun k => by omega) (fun k => by omega)
    obtain ⟨g2, m1, m2, m3⟩ := r_asks (p := yPm st t b rf rs rd R) ht hs hQ (hG.ag y1) p1 (P := P) (fun i hi => ⟨(n2.2 _ _ (by omega)).trans (ha.2.2 i hi).1, (n2.2 _ _ (by omega)).trans (ha.2.2 i hi).2⟩)
    refine ⟨g2, ?_, y1.tr (m2.up (fun o k h => by unfold dGs; omega)), p1.ag m2 (fun k => by omega) (fun k => by omega), ⟨(m2.2 _ _ (by omega)).trans n3.1, fun j hj => ⟨fun w => (m2.2 _ _ (by omega)).trans ((n3.2.1 j hj).1 w), (m2.2 _ _ (by omega)).trans (n3.2.1 j hj).2.1, (m2.2 _ _ (by omega)).trans (n3.2.1 j hj).2.2⟩, m3⟩⟩
    rw [if_neg (show ¬ nI (yBs (yPm st t b rf rs rd R) 6) = (0 : Int32) from fun y => z ((nI_eq (by omega) (by decide)).mp (show _ = nI 0 from y))), n1, xb1_some, m1, xb1_some]
end LT
