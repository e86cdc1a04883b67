/-! CALLS on who is left: left, struck, place, stand -/
theorem r_imin {a b : Nat} (ha : a < 2 ^ 31) (hb : b < 2 ^ 31) : imin (nI a) (nI b) = nI (min a b) := by
  unfold imin
  by_cases c : b < a
  · rw [if_pos ((nI_ltI hb ha).mpr c), Nat.min_eq_right (by omega)]
  · rw [if_neg (fun z => c ((nI_ltI hb ha).mp z)), Nat.min_eq_left (by omega)]
theorem r_imax {a b : Nat} (ha : a < 2 ^ 31) (hb : b < 2 ^ 31) : imax (nI a) (nI b) = nI (max a b) := by
  unfold imax
  by_cases c : a < b
  · rw [if_pos ((nI_ltI ha hb).mpr c), Nat.max_eq_right (by omega)]
  · rw [if_neg (fun z => c ((nI_ltI ha hb).mp z)), Nat.max_eq_left (by omega)]
section SH
variable {g g' : xSt} {β n w : Nat} {T B : yT} {L : List Nat} {k a1 a2 a3 a4 a5 : Int32}
def dSC (o k : Nat) : Prop := o = 112 ∨ (o = 111 ∧ k = 1)
def dSR (o k : Nat) : Prop := o = 149 ∨ (o = 113 ∧ k = 54)
theorem dSC_S : ∀ o k, dSC o k → dAS o k := fun o k h => by unfold dSC at h; unfold dAS; omega
theorem dSR_S : ∀ o k, dSR o k → dAS o k := fun o k h => by unfold dSR at h; unfold dAS; omega
theorem r_lay {m : Nat} {v : Int32} (h : xI g 111 1 = nI m) (hm : m < 24) : E_X9_lay v g = some (xWI (xWI g 112 m v) 111 1 (nI (m + 1))) := by
  have h24 : ¬ (24 : Int32) ≤ nI m := by rw [show (24 : Int32) = nI 24 from rfl]; exact nI_ge hm (by decide)
  unfold E_X9_lay
  rw [h, if_neg (nI_pos (by omega)), if_neg h24, xck_nI hm (by decide), nI_clamp (by omega), nI_1]
theorem r_shelve (C : Cx g β T B) {o : Nat} (ho : o < yN (T 0 0) (T 0 1)) : ∃ g', E_X11_shelvePlaces (nI o) g = some g' ∧ yAg dSC g g' ∧ xI g' 111 1 = nI (T 0 0) ∧ ∀ j, j < T 0 0 → xI g' 112 j = nI (yDg (yOr (T 0 0) (T 0 1) o) j) := by
  have hn := C.2.2.2.1
  have key : ∀ m j g1, m + j = T 0 0 → yAg dSC g g1 → xI g1 111 1 = nI j → (∀ i, i < j → xI g1 112 i = nI (yDg (yOr (T 0 0) (T 0 1) o) i)) → ∃ g', xlim (S_X11_shelvePlaces_9 (nI o)) (nI j, g1) = some g' ∧ yAg dSC g g' ∧ xI g' 111 1 = nI (T 0 0) ∧ ∀ j, j < T 0 0 → xI g' 112 j = nI (yDg (yOr (T 0 0) (T 0 1) o) j) := by
    intro m
    induction m with
    | zero =>
      intro j g1 hj a q1 q2
      have : j = T 0 0 := by omega
      have C1 := C.as (a.up dSC_S)
      refine ⟨g1, xlim_end ?_, a, this ▸ q1, this ▸ q2⟩
      unfold S_X11_shelvePlaces_9
      simp only [C1.2.1.2.1.1]
      exact if_pos (nI_le (by omega) (by omega))
    | succ m ih =>
      intro j g1 hj a q1 q2
      have C1 := C.as (a.up dSC_S)
      have st : S_X11_shelvePlaces_9 (nI o) (nI j, g1) = some (.inl (nI (j + 1), xWI (xWI g1 112 j (nI (yDg (yOr (T 0 0) (T 0 1) o) j))) 111 1 (nI (j + 1)))) := by
        unfold S_X11_shelvePlaces_9
        simp only [C1.2.1.2.1.1, if_neg (nI_ge (show j < T 0 0 by omega) (show T 0 0 < 2 ^ 31 by omega)), r_placeOf C1.2.2.2 ho (show j < T 0 0 by omega), r_lay q1 (show j < 24 by omega), xb1_some, nI_1]
      obtain ⟨g', r1, r2⟩ := ih (j + 1) (xWI (xWI g1 112 j (nI (yDg (yOr (T 0 0) (T 0 1) o) j))) 111 1 (nI (j + 1))) (by omega) ((a.wi (Or.inl rfl)).wi (Or.inr ⟨rfl, rfl⟩)) (by rw [yI_wi, if_pos ⟨rfl, rfl⟩]) (fun i hi => by
        rw [yI_wi, if_neg (by omega), yI_wi]
        by_cases e : i = j
        · rw [if_pos ⟨rfl, e⟩, e]
        · rw [if_neg (fun z => e z.2)]; exact q2 i (by omega))
      exact ⟨g', (xlim_go st).trans r1, r2⟩
  obtain ⟨g', r1, r2⟩ := key (T 0 0) 0 (xWI g 111 1 0) (by omega) ((yAg.refl dSC g).wi (Or.inr ⟨rfl, rfl⟩)) (by rw [yI_wi, if_pos ⟨rfl, rfl⟩]; rfl) (fun i hi => by omega)
  refine ⟨g', ?_, r2⟩
  unfold E_X11_shelvePlaces E_X9_empty
  rw [xb1_some, show ((0 : Int32), xWI g 111 1 0) = (nI 0, xWI g 111 1 0) from rfl, r1, xb1_some]
theorem r_layPl (C : Cx g β T B) {o : Nat} (ho : o < yN (T 0 0) (T 0 1)) : ∃ g', E_X12_layPlaces (nI o) g = some g' ∧ yAg dSR g g' ∧ xI g' 113 54 = nI (T 0 0) ∧ ∀ j, j < T 0 0 → xI g' 149 j = nI (yDg (yOr (T 0 0) (T 0 1) o) j) := by
  have hn := C.2.2.2.1
  have hyl := (yO_len (T 0 0) (by omega) (T 0 1) (by have := C.2.2.2.2.1; omega)).2
  have key : ∀ m j g1, m + j = T 0 0 → yAg dSR g g1 → (∀ i, i < j → xI g1 149 i = nI (yDg (yOr (T 0 0) (T 0 1) o) i)) → ∃ g', xlim (S_X12_layPlaces_2 (nI o)) (nI j, g1) = some g' ∧ yAg dSR g g' ∧ ∀ j, j < T 0 0 → xI g' 149 j = nI (yDg (yOr (T 0 0) (T 0 1) o) j) := by
    intro m
    induction m with
    | zero =>
      intro j g1 hj a q2
      have : j = T 0 0 := by omega
      have C1 := C.as (a.up dSR_S)
      refine ⟨g1, xlim_end ?_, a, this ▸ q2⟩
      unfold S_X12_layPlaces_2
      simp only [r_thingMany C1.2.1, xb1_some]
      exact if_pos (nI_le (by omega) (by omega))
    | succ m ih =>
      intro j g1 hj a q2
      have C1 := C.as (a.up dSR_S)
      have st : S_X12_layPlaces_2 (nI o) (nI j, g1) = some (.inl (nI (j + 1), xWI g1 149 j (nI (yDg (yOr (T 0 0) (T 0 1) o) j)))) := by
        unfold S_X12_layPlaces_2
        simp only [r_thingMany C1.2.1, xb1_some, if_neg (nI_ge (show j < T 0 0 by omega) (show T 0 0 < 2 ^ 31 by omega)), show (5 : Int32) = nI 5 from rfl, nI_mul, nI_add, xck_nI (show 5 * o + j < 2705 by omega) (show (2705 : Nat) < 2 ^ 31 by decide), xck_nI (show j < 25 by omega) (show (25 : Nat) < 2 ^ 31 by decide), nI_clamp (show j < 2 ^ 31 by omega), nI_clamp (show 5 * o + j < 2 ^ 31 by omega), (C1.2.2.2.2.2.2.2.2 o ho).2.2 j (by omega), nI_1]
      obtain ⟨g', r1, r2⟩ := ih (j + 1) (xWI g1 149 j (nI (yDg (yOr (T 0 0) (T 0 1) o) j))) (by omega) (a.wi (Or.inl rfl)) (fun i hi => by
        rw [yI_wi]
        by_cases e : i = j
        · rw [if_pos ⟨rfl, e⟩, e]
        · rw [if_neg (fun z => e z.2)]; exact q2 i (by omega))
      exact ⟨g', (xlim_go st).trans r1, r2⟩
  obtain ⟨g', r1, r2, r3⟩ := key (T 0 0) 0 g (by omega) (yAg.refl _ _) (fun i hi => by omega)
  have C1 := C.as (r2.up dSR_S)
  refine ⟨xWI g' 113 54 (nI (T 0 0)), ?_, r2.wi (Or.inr ⟨rfl, rfl⟩), by rw [yI_wi, if_pos ⟨rfl, rfl⟩], fun j hj => by rw [yI_wi, if_neg (by omega)]; exact r3 j hj⟩
  unfold E_X12_layPlaces
  rw [show ((0 : Int32), g) = (nI 0, g) from rfl, r1, xb1_some, r_thingMany C1.2.1, xb1_some]
theorem r_le0 {x : Nat} (hx : x < 2 ^ 31) : nI x ≤ (0 : Int32) ↔ x = 0 := by
  rw [show (0 : Int32) = nI 0 from rfl, nI_leI hx (by decide)]; omega
theorem r_inN {m : Nat} (hm : m < 2 ^ 31) : (F_X12_isIn g a1 0 (nI m) = 0 ∧ (a1 < 0 ∨ ¬ a1 ≤ nI m)) ∨ ∃ j, j ≤ m ∧ a1 = nI j ∧ F_X12_isIn g a1 0 (nI m) = 1 ∧ ¬ a1 < 0 ∧ a1 ≤ nI m := by
  unfold F_X12_isIn
  by_cases q : a1 < 0
  · exact Or.inl ⟨if_pos q, Or.inl q⟩
  · rw [if_neg q]
    obtain ⟨j, hj, rfl⟩ := nI_of q
    by_cases q1 : nI m < nI j
    · exact Or.inl ⟨if_pos q1, Or.inr fun z => by rw [nI_ltI hm hj] at q1; rw [nI_leI hj hm] at z; omega⟩
    · have : j ≤ m := by rw [nI_ltI hm hj] at q1; omega
      exact Or.inr ⟨j, this, rfl, if_neg q1, q, nI_le this hm⟩
theorem op_10 (C : Cx g β T B) : ∃ g', O_10 a1 a2 a3 a4 a5 g = some (true, g') ∧ yAg dAS g g' ∧ I_shelf g' := by
  have hn := C.2.2.2.1
  have y0 : yAg dSC g (xWI g 111 1 0) := (yAg.refl dSC g).wi (Or.inr ⟨rfl, rfl⟩)
  have C0 := C.as (y0.up dSC_S)
  have s0 : xI (xWI g 111 1 0) 111 1 = nI 0 := by rw [yI_wi, if_pos ⟨rfl, rfl⟩]; rfl
  have emp : ∀ g1 g2 : xSt, xI g1 111 1 = nI 0 → xI g1 113 54 = nI 0 → I_shelf g1 := fun g1 _ h1 h2 => ⟨0, by decide, h1, h2, fun k hk => by omega⟩
  rcases r_inN (g := g) (a1 := a1) (m := 60) (by decide) with ⟨i1, i2⟩ | ⟨lies, hl, rfl, i1, i2, i3⟩
  · refine ⟨xWI (xWI g 111 1 0) 113 54 0, r_O (v := -1) (g1 := xWI g 111 1 0) ?_ ?_, (y0.up dSC_S).wi (by unfold dAS; omega), emp _ g ?_ ?_⟩
    · unfold E_X11_left E_X9_empty
      rw [xb1_some]
      by_cases q : a1 < 0
      · rw [if_pos q]
      · rw [if_neg q, if_neg]
        exact i2.resolve_left q
    · unfold E_X12_left
      exact if_pos i1
    · rw [yI_wi, if_neg (by omega)]; exact s0
    · rw [yI_wi, if_pos ⟨rfl, rfl⟩]; rfl
  · obtain ⟨-, -, c3, c4⟩ := id C0
    obtain ⟨g1, h1, h2, h3⟩ := r_heed (k := a2) c4.1 c3.1 c3.2.1 c4.2.2.1
    have C1 := C0.as (h2.up dHd_A).A
    obtain ⟨g2, t1, t2, t3⟩ := r_sift hl c3.1 C1.2.2.2 h3
    have C2 := C1.as (t2.up dLC_A).A
    have hi := yLs_in (B := B) (k := a2) (lies := lies) C.2.2.2.1 C.2.2.2.2.1
    have y2 : yAg dA (xWI g 111 1 0) g2 := (h2.up dHd_A).tr (t2.up dLC_A)
    have hlen := hi.1
    have w2 : xI g2 111 1 = nI 0 := (y2.2 111 1 (by unfold dA; omega)).trans s0
    -- the reference behind a store
    have ref : ∀ G, Cx G β T B → ∃ g3, E_X12_layLeft (nI lies) a2 (xWI G 113 54 0) = some g3 ∧ yAg dAS G g3 ∧ xI g3 113 54 = nI 0 ∧ yLR g3 (yLs B a2 (T 0 0) (T 0 1) lies) ∧ (∀ o, 111 ≤ o → o ≤ 112 → ∀ k, xI g3 o k = xI G o k) := by
      intro G CG
      have z : yAg dAS G (xWI G 113 54 0) := (yAg.refl _ _).wi (by unfold dAS; omega)
      obtain ⟨-, -, d3, d4⟩ := CG.as z
      obtain ⟨g3, u1, u2, u3⟩ := r_layLeft (k := a2) hl d3.1 d4 d3.2.2
      refine ⟨g3, u1, z.tr (u2.up dLR_A).A, ?_, u3, fun o h1 h2 k => ?_⟩
      · rw [u2.2 113 54 (by unfold dLR; omega), yI_wi, if_pos ⟨rfl, rfl⟩]; rfl
      · rw [u2.2 o k (by unfold dLR; omega), yI_wi, if_neg (by omega)]
    by_cases e0 : (yLs B a2 (T 0 0) (T 0 1) lies).length = 0
    · obtain ⟨g3, u1, u2, u3, u4, u5⟩ := ref g2 C2
      refine ⟨g3, r_O (v := nI 0) (g1 := g2) ?_ ?_, ((y0.up dSC_S).tr y2.A).tr u2, emp _ g ?_ u3⟩
      · unfold E_X11_left E_X9_empty
        rw [xb1_some, if_neg i2, if_pos (show nI lies ≤ (60 : Int32) from i3), h1, xb1_some, t1, xb1_some, t3.1, if_pos ((r_le0 (by omega)).mpr e0), e0]
      · unfold E_X12_left
        rw [show F_X12_isIn (xWI g2 113 54 0) (nI lies) 0 60 = 1 from i1, if_neg (by decide), u1, xb1_some, u4.1, if_pos ((r_le0 (by omega)).mpr e0), e0]
      · rw [u5 111 (by decide) (by decide)]; exact w2
    · have h0 : (yLs B a2 (T 0 0) (T 0 1) lies).getD 0 0 < yN (T 0 0) (T 0 1) := hi.2 0 (by omega)
      obtain ⟨g3, v1, v2, v3, v4⟩ := r_shelve C2 h0
      have C3 := C2.as (v2.up dSC_S)
      obtain ⟨g4, u1, u2, u3, u4, u5⟩ := ref g3 C3
      have C4 := C3.as u2
      obtain ⟨g5, x1, x2, x3, x4⟩ := r_layPl C4 h0
      refine ⟨g5, r_O (v := nI (yLs B a2 (T 0 0) (T 0 1) lies).length) (g1 := g3) ?_ ?_, (((y0.up dSC_S).tr y2.A).tr (v2.up dSC_S)).tr (u2.tr (x2.up dSR_S)), ⟨T 0 0, by omega, ?_, x3, fun k hk => ?_⟩⟩
      · unfold E_X11_left E_X9_empty
        rw [xb1_some, if_neg i2, if_pos (show nI lies ≤ (60 : Int32) from i3), h1, xb1_some, t1, xb1_some, t3.1, if_neg (fun z => e0 ((r_le0 (by omega)).mp z)), show (0 : Int32) = nI 0 from rfl, r_leftAt t3 hi (by omega), v1, xb1_some, v2.2 69 5 (by unfold dSC; omega), t3.1]
      · unfold E_X12_left
        rw [show F_X12_isIn (xWI g3 113 54 0) (nI lies) 0 60 = 1 from i1, if_neg (by decide), u1, xb1_some, u4.1, if_neg (fun z => e0 ((r_le0 (by omega)).mp z)), show xI g4 145 (0 : Int32).toNatClampNeg = xI g4 145 0 from rfl, u4.2 0 (by omega), x1, xb1_some, x2.2 113 53 (by unfold dSR; omega), u4.1]
      · rw [x2.2 111 1 (by unfold dSR; omega), u5 111 (by decide) (by decide)]; exact v3
      · rw [x2.2 112 k (by unfold dSR; omega), u5 112 (by decide) (by decide), v4 k hk, x4 k hk]
/-- the first of those that miss the fewest -/
def yBst (f : Nat → Nat) : Nat → Nat
  | 0 => 0
  | j + 1 => if f (yBst f j) ≤ f j then yBst f j else j
theorem yBst_lt (f : Nat → Nat) : ∀ j, 0 < j → yBst f j < j := by
  intro j
  induction j with
  | zero => intro h; omega
  | succ j ih =>
    intro _
    show (if f (yBst f j) ≤ f j then yBst f j else j) < _
    split
    · by_cases e : j = 0
      · subst e; exact Nat.lt_succ_self 0
      · have := ih (by omega); omega
    · exact Nat.lt_succ_self j
theorem yBst_0 (f : Nat → Nat) {j : Nat} (h : f (yBst f j) = 0) : ∀ m, yBst f (j + m) = yBst f j := by
  intro m
  induction m with
  | zero => rfl
  | succ m ih =>
    show (if f (yBst f (j + m)) ≤ f (j + m) then yBst f (j + m) else j + m) = _
    rw [ih, h, if_pos (Nat.zero_le _)]
theorem yBst_1 (f : Nat → Nat) : yBst f 1 = 0 := by show (if f 0 ≤ f 0 then 0 else 0) = 0; split <;> rfl
theorem r_bestC (o : I_orders g n w) (hb : bkOK n B) (hh : yHd B k n (B 9 0) g) : E_X5_firstOfFewestMisses g = some (nI (yBst (fun i => yWr B k (yOr n w i) (B 9 0)) (yN n w))) := by
  have hn := o.1
  have hyl := yO_len n (by omega) w (by have := o.2.1; omega)
  have hcn : ∀ i, yWr B k (yOr n w i) (B 9 0) ≤ B 9 0 := fun i => yCn_le _ _
  have h60 := hb.1
  have ms : ∀ i, i < yN n w → E_X5_missesOf (nI i) g = some (nI (yWr B k (yOr n w i) (B 9 0))) := fun i hi => r_missesOf hn hb o hi hh
  generalize hf : (fun i => yWr B k (yOr n w i) (B 9 0)) = f
  have hf' : ∀ i, yWr B k (yOr n w i) (B 9 0) = f i := fun i => congrFun hf i
  simp only [hf'] at ms hcn
  have key : ∀ m j, m + j = yN n w → 0 < j → xlim (S_X5_firstOfFewestMisses_10 g) (nI (yBst f j), nI (f (yBst f j)), nI j) = some (nI (yBst f (yN n w))) := by
    intro m
    induction m with
    | zero =>
      intro j hj _
      have : j = yN n w := by omega
      subst this
      refine xlim_end ?_
      unfold S_X5_firstOfFewestMisses_10
      simp only [o.2.2.2.1]
      exact if_pos (nI_le (Nat.le_refl _) (by omega))
    | succ m ih =>
      intro j hj h0
      have hjm : j < yN n w := by omega
      have hc := hcn (yBst f j)
      have hc2 := hcn j
      have hc := Nat.le_trans hc h60
      have hc2 := Nat.le_trans hc2 h60
      by_cases z : f (yBst f j) = 0
      · have e : S_X5_firstOfFewestMisses_10 g (nI (yBst f j), nI (f (yBst f j)), nI j) = some (.inr (nI (yBst f j))) := by
          unfold S_X5_firstOfFewestMisses_10
          simp only [o.2.2.2.1, if_neg (nI_ge hjm (show yN n w < 2 ^ 31 by omega))]
          exact if_pos ((r_le0 (by omega)).mpr z)
        rw [xlim_end e, ← yBst_0 f z (m + 1), show j + (m + 1) = yN n w by omega]
      · have e : S_X5_firstOfFewestMisses_10 g (nI (yBst f j), nI (f (yBst f j)), nI j) = some (.inl (nI (yBst f (j + 1)), nI (f (yBst f (j + 1))), nI (j + 1))) := by
          unfold S_X5_firstOfFewestMisses_10
          simp only [o.2.2.2.1, if_neg (nI_ge hjm (show yN n w < 2 ^ 31 by omega)), if_neg (fun y => z ((r_le0 (by omega)).mp y)), ms j hjm, xb1_some, nI_1]
          have hd : yBst f (j + 1) = if f (yBst f j) ≤ f j then yBst f j else j := rfl
          by_cases c : f (yBst f j) ≤ f j
          · rw [if_pos (nI_le c (by omega)), hd, if_pos c]
          · rw [if_neg (fun y => c ((nI_leI (by omega) (by omega)).mp y)), hd, if_neg c]
        exact (xlim_go e).trans (ih (j + 1) (by omega) (by omega))
  have k1 := key (yN n w - 1) 1 (by omega) (by decide)
  rw [yBst_1] at k1
  unfold E_X5_firstOfFewestMisses
  rw [show E_X5_missesOf 0 g = some (nI (f 0)) from ms 0 (by omega), xb1_some]
  exact congrArg (fun o => xb1 o fun e_2 => some e_2) k1
theorem op_11 (C : Cx g β T B) : ∃ g', O_11 a1 a2 a3 a4 a5 g = some (true, g') ∧ yAg dAS g g' ∧ I_shelf g' := by
  have hn := C.2.2.2.1
  have hyl := yO_len (T 0 0) (by omega) (T 0 1) (by have := C.2.2.2.2.1; omega)
  obtain ⟨c1, c2, c3, c4⟩ := id C
  obtain ⟨g1, h1, h2, h3⟩ := r_heed (k := a1) c4.1 c3.1 c3.2.1 c4.2.2.1
  have C1 := C.as (h2.up dHd_A).A
  have hbc := r_bestC C1.2.2.2 c3.1 h3
  have hcn : ∀ i, yWr B a1 (yOr (T 0 0) (T 0 1) i) (B 9 0) ≤ B 9 0 := fun i => yCn_le _ _
  have h60 := c3.1.1
  have bl := yBst_lt (fun i => yWr B a1 (yOr (T 0 0) (T 0 1) i) (B 9 0)) (yN (T 0 0) (T 0 1)) (by omega)
  generalize hX : yBst (fun i => yWr B a1 (yOr (T 0 0) (T 0 1) i) (B 9 0)) (yN (T 0 0) (T 0 1)) = X at *
  obtain ⟨g2, v1, v2, v3, v4⟩ := r_shelve C1 bl
  have C2 := C1.as (v2.up dSC_S)
  have h3' : yHd B a1 (T 0 0) (B 9 0) g2 := ⟨fun b hb => (v2.2 _ _ (by unfold dSC; omega)).trans (h3.1 b hb), (v2.2 _ _ (by unfold dSC; omega)).trans h3.2.1, (v2.2 _ _ (by unfold dSC; omega)).trans h3.2.2⟩
  have ms := r_missesOf hn c3.1 C2.2.2.2 bl h3'
  -- the reference's loop
  have wb : ∀ i, i < yN (T 0 0) (T 0 1) → E_X12_wrongBy (nI i) a1 g2 = some (nI (yWr B a1 (yOr (T 0 0) (T 0 1) i) (B 9 0))) := fun i hi => r_wrongBy c3.1 C2.2.2.1.2.2 C2.2.2.2 hi
  have e := xlim_from (step := S_X12_struck_4 a1) (fun j => (nI (yBst (fun i => yWr B a1 (yOr (T 0 0) (T 0 1) i) (B 9 0)) j), nI j, g2)) 1 (yN (T 0 0) (T 0 1)) hyl.1 (e := (nI X, g2)) (fun j hj1 hj => ?_) ?_
  · obtain ⟨g3, x1, x2, x3, x4⟩ := r_layPl C2 bl
    have C3 := C2.as (x2.up dSR_S)
    refine ⟨g3, r_O (v := nI (yWr B a1 (yOr (T 0 0) (T 0 1) X) (B 9 0))) (g1 := g2) ?_ ?_, ((h2.up dHd_A).A.tr (v2.up dSC_S)).tr (x2.up dSR_S), ⟨T 0 0, by omega, (x2.2 111 1 (by unfold dSR; omega)).trans v3, x3, fun k hk => ?_⟩⟩
    · unfold E_X11_struck
      rw [h1, xb1_some, hbc, xb1_some, v1, xb1_some, ms, xb1_some]
    · unfold E_X12_struck
      rw [yBst_1] at e
      rw [show ((0 : Int32), (1 : Int32), g2) = (nI 0, nI 1, g2) from rfl, e, xb1_some, x1, xb1_some, r_wrongBy c3.1 C3.2.2.1.2.2 C3.2.2.2 bl, xb1_some]
    · rw [x2.2 112 k (by unfold dSR; omega), v4 k hk, x4 k hk]
  · unfold S_X12_struck_4
    have hbj := yBst_lt (fun i => yWr B a1 (yOr (T 0 0) (T 0 1) i) (B 9 0)) j (by omega)
    have q1 := hcn j
    have q2 := hcn (yBst (fun i => yWr B a1 (yOr (T 0 0) (T 0 1) i) (B 9 0)) j)
    simp only [C2.2.2.2.2.2.2.2.1, if_neg (nI_ge hj (show yN (T 0 0) (T 0 1) < 2 ^ 31 by omega)), wb j hj, wb _ (Nat.lt_trans hbj hj), xb1_some, nI_1]
    have hd : yBst (fun i => yWr B a1 (yOr (T 0 0) (T 0 1) i) (B 9 0)) (j + 1) = if yWr B a1 (yOr (T 0 0) (T 0 1) (yBst (fun i => yWr B a1 (yOr (T 0 0) (T 0 1) i) (B 9 0)) j)) (B 9 0) ≤ yWr B a1 (yOr (T 0 0) (T 0 1) j) (B 9 0) then yBst (fun i => yWr B a1 (yOr (T 0 0) (T 0 1) i) (B 9 0)) j else j := rfl
    by_cases c : yWr B a1 (yOr (T 0 0) (T 0 1) (yBst (fun i => yWr B a1 (yOr (T 0 0) (T 0 1) i) (B 9 0)) j)) (B 9 0) ≤ yWr B a1 (yOr (T 0 0) (T 0 1) j) (B 9 0)
    · rw [if_pos (nI_le c (by omega)), hd, if_pos c]
    · rw [if_neg (fun y => c ((nI_leI (by omega) (by omega)).mp y)), hd, if_neg c]
  · unfold S_X12_struck_4
    simp only [C2.2.2.2.2.2.2.2.1]
    rw [if_pos (nI_le (Nat.le_refl _) (by omega)), hX]
end SH
