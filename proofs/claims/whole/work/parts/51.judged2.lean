/-! CALL judged, both sides together -/
section JD
variable {g g' : xSt} {β n w : Nat} {T B : yT} {L : List Nat} {k a1 a2 a3 a4 a5 : Int32}
theorem yLC.jh {D : Nat → Nat → Prop} (h : yAg D g g') (h1 : ∀ k, ¬ D 69 k) (h2 : ∀ k, ¬ D 72 k) (q : yLC g n w L) : yLC g' n w L := ⟨(h.2 _ _ (h1 _)).trans q.1, (h.2 _ _ (h1 _)).trans q.2.1, fun j hj => (h.2 _ _ (h2 _)).trans (q.2.2 j hj)⟩
theorem r_jloop (C : Cx g β T B) (q : yLC g (T 0 0) (T 0 1) L) (hi : yIn (T 0 0) (T 0 1) L) {p : Nat} (hp : p < T 0 3) (hG : yGd (T 0 0) a2 a3) : ∃ g', (xb1 (E_X2_begin g) fun g58_7 => xlim (S_X11_judged_64 (nI p) a2 a3 a4) (0, g58_7)) = some g' ∧ yAg dJh g g' ∧ yJh g' (fun i => yDn T p (yPv (T 0 0) (T 0 1) L i)) (fun i => yDs T p (yPv (T 0 0) (T 0 1) L i)) (fun i => yGc (T 0 0) a2 a3 (yPv (T 0 0) (T 0 1) L i)) L.length := by
  have hn := C.2.2.2.1
  have hw := C.2.2.2.2.1
  have hl := hi.1
  have ht := C.2.1.1
  have htw := xtw_lt C.1
  have dle : ∀ i, yDn T p (yPv (T 0 0) (T 0 1) L i) ≤ 180 ∧ yDs T p (yPv (T 0 0) (T 0 1) L i) ≤ 60 := fun i => yDn_le ht hp
  have y0 : yAg dJh g (xRowI g 95 (fun j => if j < 181 then 0 else xI g 95 j)) := ⟨rfl, fun o k hk => congrFun (xI_RowI_ne g _ (fun e => hk (Or.inl e))) k⟩
  generalize hG1 : xRowI g 95 (fun j => if j < 181 then 0 else xI g 95 j) = G1 at y0
  have y1 : yAg dJh G1 (xRowI G1 97 (fun j => if j < 181 then 0 else xI G1 97 j)) := ⟨rfl, fun o k hk => congrFun (xI_RowI_ne G1 _ (fun e => hk (Or.inr (Or.inr (Or.inl e))))) k⟩
  have e95 : ∀ e, e < 181 → xI G1 95 e = 0 := fun e he => by rw [← hG1, xI_RowI, if_pos rfl, if_pos he]
  generalize hG2 : xRowI G1 97 (fun j => if j < 181 then 0 else xI G1 97 j) = G2 at y1
  have f95 : ∀ e, e < 181 → xI G2 95 e = 0 := fun e he => by rw [← hG2, xI_RowI, if_neg (by decide)]; exact e95 e he
  have f97 : ∀ e, e < 181 → xI G2 97 e = 0 := fun e he => by rw [← hG2, xI_RowI, if_pos rfl, if_pos he]
  have y2 : yAg dJh g (xWI (xWI G2 94 3 0) 94 4 0) := ((y0.tr y1).wi (by unfold dJh; omega)).wi (by unfold dJh; omega)
  have key : ∀ m j g1, m + j = L.length → yAg dJh g g1 → yJh g1 (fun i => yDn T p (yPv (T 0 0) (T 0 1) L i)) (fun i => yDs T p (yPv (T 0 0) (T 0 1) L i)) (fun i => yGc (T 0 0) a2 a3 (yPv (T 0 0) (T 0 1) L i)) j → ∃ g', xlim (S_X11_judged_64 (nI p) a2 a3 a4) (nI j, g1) = some g' ∧ yAg dJh g g' ∧ yJh g' (fun i => yDn T p (yPv (T 0 0) (T 0 1) L i)) (fun i => yDs T p (yPv (T 0 0) (T 0 1) L i)) (fun i => yGc (T 0 0) a2 a3 (yPv (T 0 0) (T 0 1) L i)) L.length := by
    intro m
    induction m with
    | zero =>
      intro j g1 hj y s
      have : j = L.length := by omega
      refine ⟨g1, xlim_end ?_, y, this ▸ s⟩
      unfold S_X11_judged_64
      simp only [y.2 69 5 (by unfold dJh; omega), q.1]
      exact if_pos (nI_le (by omega) (by omega))
    | succ m ih =>
      intro j g1 hj y s
      have hjl : j < L.length := by omega
      have C1 := C.as (y.up dJh_A).A
      have q1 : yLC g1 (T 0 0) (T 0 1) L := q.jh y (fun k => by unfold dJh; omega) (fun k => by unfold dJh; omega)
      have cb : ∀ i, i ≤ j → yGc (T 0 0) a2 a3 (yPv (T 0 0) (T 0 1) L i) < 100000 := fun i h => yGc_lt hn hw (hi.2 i (by omega)) hG
      obtain ⟨g2, r1, r2, r3⟩ := r_jcome (t := tw g1) (j := j) (by omega) (fun i _ => (dle i).1) (fun i _ => (dle i).2) cb s
      have path := r_follow18 (a5 := nI (yGc (T 0 0) a2 a3 (yPv (T 0 0) (T 0 1) L j))) C1 (hi.2 j hjl) 61 (T 3 p) 180 0 (by omega) (ht.2.2.2.2.2.2.2.2.1 p hp) (by omega)
      have st : S_X11_judged_64 (nI p) a2 a3 a4 (nI j, g1) = some (.inl (nI (j + 1), g2)) := by
        unfold S_X11_judged_64
        simp only [q1.1, if_neg (nI_ge hjl (show L.length < 2 ^ 31 by omega)), r_leftAt q1 hi hjl, r_goalOf C1.2.2.2 (hi.2 j hjl) hG, xb1_some]
        unfold E_X2_follow
        have e5 : xI g1 (tw g1 + 5) p = nI (T 3 p) - 1 := C1.2.1.2.1.2.2.2.2.2.2.2.1 p hp
        have hp3 : p < 3 := by have := ht.2.2.2.1; omega
        rw [xat_nI hp3 (by decide), e5]
        rw [show xlim (S_X2_follow_18 (tw g1) (nI (L.getD j 0)) (nI (yGc (T 0 0) a2 a3 (yOr (T 0 0) (T 0 1) (L.getD j 0))))) (180, nI (T 3 p) - 1, 0, g1) = some (nI (yDn T p (yPv (T 0 0) (T 0 1) L j)), nI (yDs T p (yPv (T 0 0) (T 0 1) L j)), g1) from path, xb1_some]
        rw [show K_X2_follow_87 (tw g1) (nI (yGc (T 0 0) a2 a3 (yOr (T 0 0) (T 0 1) (L.getD j 0)))) (nI (yDn T p (yPv (T 0 0) (T 0 1) L j))) (nI (yDs T p (yPv (T 0 0) (T 0 1) L j))) g1 = some g2 from r1, xb1_some, nI_1]
      obtain ⟨g', r4, r5⟩ := ih (j + 1) g2 (by omega) (y.tr r2) r3
      exact ⟨g', (xlim_go st).trans r4, r5⟩
  obtain ⟨g', r1, r2⟩ := key L.length 0 (xWI (xWI G2 94 3 0) 94 4 0) (by omega) y2 ⟨by simp [yI_wi]; rfl, by simp [yI_wi]; rfl, fun e he => ⟨by rw [yI_wi, if_neg (by omega), yI_wi, if_neg (by omega), f95 e he]; rfl, Or.inl ⟨by rw [yI_wi, if_neg (by omega), yI_wi, if_neg (by omega), f97 e he], fun i hi => by omega⟩⟩⟩
  refine ⟨g', ?_, r2⟩
  unfold E_X2_begin E_X7_fill
  rw [xb1_some, hG1, xb1_some, hG2, xb1_some]
  exact r1
theorem yMx_self {d c : Nat → Nat} {N i : Nat} (hi : i < N) : yMx d c N (d i) = true ↔ ∃ j, j < N ∧ d j = d i ∧ c j ≠ c i := by
  rw [yMx_i]
  constructor
  · rintro ⟨a, b, h1, h2, h3, h4, h5⟩
    by_cases e : c a = c i
    · exact ⟨b, h2, h4, fun z => h5 (e.trans z.symm)⟩
    · exact ⟨a, h1, h3, e⟩
  · rintro ⟨j, h1, h2, h3⟩
    exact ⟨j, i, h1, hi, h2, rfl, h3⟩
theorem r_unknown {d s c : Nat → Nat} {N : Nat} (hN : N ≤ 541) (hd : ∀ i, i < N → d i ≤ 180) (hc : ∀ i, i < N → c i < 100000) (h : yJh g d s c N) : E_X2_unknown g = some (nI (yCn (fun i => yMx d c N (d i)) N)) := by
  obtain ⟨-, -, h3⟩ := h
  have mx : ∀ e, e < 181 → (xI g 97 e = 0 ↔ ¬ yMx d c N e = true) := by
    intro e he
    rw [yMx_i]
    rcases (h3 e he).2 with ⟨z1, z2⟩ | ⟨z1, i, i', z2, z3, z4, z5, z6⟩
    · refine ⟨fun _ ⟨i, j, y1, y2, y3, y4, y5⟩ => y5 ?_, fun _ => z1⟩
      have := (z2 i y1 y3).symm.trans (z2 j y2 y4)
      exact (nI_eq (by have := hc i y1; omega) (by have := hc j y2; omega)).mp this
    · exact ⟨fun y => absurd (z1.symm.trans y) (by decide), fun y => absurd ⟨i, i', z2, z3, z4, z5, z6⟩ y⟩
  have e := xlim_of (step := S_X2_unknown_4 g) (fun e => (nI (ySum (fun e => if yMx d c N e then yCn (fun i => d i == e) N else 0) e), nI e)) 181 (e := nI (yCn (fun i => yMx d c N (d i)) N)) (fun e he => ?_) ?_
  · unfold E_X2_unknown
    exact congrArg (fun o => xb1 o fun e_1 => some e_1) e
  · unfold S_X2_unknown_4
    have h181 : ¬ (181 : Int32) ≤ nI e := by rw [show (181 : Int32) = nI 181 from rfl]; exact nI_ge he (by decide)
    show _ = some (Sum.inl (nI (ySum (fun e => if yMx d c N e then yCn (fun i => d i == e) N else 0) e + (if yMx d c N e then yCn (fun i => d i == e) N else 0)), nI (e + 1)))
    simp only [if_neg h181, xat_nI he (show (181 : Nat) < 2 ^ 31 by decide), nI_1]
    by_cases z : yMx d c N e = true
    · rw [if_neg (fun y => (mx e he).mp y z), xck_nI he (by decide), nI_clamp (by omega), (h3 e he).1, if_pos z, nI_add]
    · rw [if_pos ((mx e he).mpr z), if_neg z, Int32.add_zero] <;> rfl
  · unfold S_X2_unknown_4
    rw [ySum_cn d (yMx d c N) 181 N (fun i hi => by have := hd i hi; omega)]
    exact if_pos (show (181 : Int32) ≤ nI 181 by decide)
/-! the reference -/
def dTw (o k : Nat) : Prop := o = 147 ∨ o = 148
theorem dTw_A : ∀ o k, dTw o k → dA o k := fun o k h => by unfold dTw at h; unfold dA; omega
theorem r_jall (C : Cx g β T B) (q : yLR g L) (hi : yIn (T 0 0) (T 0 1) L) {p : Nat} (hp : p < T 0 3) {x1 x2 x3 x4 : Int32} : ∃ g', xlim (S_X12_judged_65 (nI p) x1 x2 x3 x4) (0, g) = some g' ∧ yAg dTw g g' ∧ ∀ i, i < L.length → xI g' 147 i = nI (yEnd β (yDn T p (yPv (T 0 0) (T 0 1) L i))) ∧ xI g' 148 i = nI (yDs T p (yPv (T 0 0) (T 0 1) L i)) := by
  have hl := hi.1
  have ht := C.2.1.1
  have hβ := C.2.1.2.2.1
  have hp3 : p < 3 := by have := ht.2.2.2.1; omega
  have key : ∀ m j g1, m + j = L.length → yAg dTw g g1 → (∀ i, i < j → xI g1 147 i = nI (yEnd β (yDn T p (yPv (T 0 0) (T 0 1) L i))) ∧ xI g1 148 i = nI (yDs T p (yPv (T 0 0) (T 0 1) L i))) → ∃ g', xlim (S_X12_judged_65 (nI p) x1 x2 x3 x4) (nI j, g1) = some g' ∧ yAg dTw g g' ∧ ∀ i, i < L.length → xI g' 147 i = nI (yEnd β (yDn T p (yPv (T 0 0) (T 0 1) L i))) ∧ xI g' 148 i = nI (yDs T p (yPv (T 0 0) (T 0 1) L i)) := by
    intro m
    induction m with
    | zero =>
      intro j g1 hj y s
      have : j = L.length := by omega
      refine ⟨g1, xlim_end ?_, y, this ▸ s⟩
      unfold S_X12_judged_65
      simp only [y.2 113 53 (by unfold dTw; omega), q.1]
      exact if_pos (nI_le (by omega) (by omega))
    | succ m ih =>
      intro j g1 hj y s
      have hjl : j < L.length := by omega
      have C1 := C.as (y.up dTw_A).A
      have q1 : yLR g1 L := q.gl y (by unfold dTw; omega) (fun k => by unfold dTw; omega)
      have tr := C1.2.1.2.2.2.2
      generalize hG : xWI (xWI g1 147 j 0) 148 j 0 = G
      have yG : yAg dTw g1 G := by rw [← hG]; exact ((yAg.refl _ g1).wi (Or.inl rfl)).wi (Or.inr rfl)
      have CG := C1.as (yG.up dTw_A).A
      have qG : yLR G L := q1.gl yG (by unfold dTw; omega) (fun k => by unfold dTw; omega)
      have z1 : xI G 147 j = nI (yEnd β 180) := by rw [← hG, yI_wi, if_neg (by omega), yI_wi, if_pos ⟨rfl, rfl⟩]; rfl
      have z2 : xI G 148 j = nI 0 := by rw [← hG, yI_wi, if_pos ⟨rfl, rfl⟩]; rfl
      obtain ⟨g2, r1, r2, r3, r4⟩ := r_through CG qG hi hjl 61 (T 3 p) 180 0 G (by omega) (ht.2.2.2.2.2.2.2.2.1 p hp) (Nat.le_refl _) (yAg.refl _ _) z1 z2
      have st : S_X12_judged_65 (nI p) x1 x2 x3 x4 (nI j, g1) = some (.inl (nI (j + 1), g2)) := by
        unfold S_X12_judged_65
        simp only [q1.1, if_neg (nI_ge hjl (show L.length < 2 ^ 31 by omega)), C1.2.1.2.2.2.1, show (3 : Int32) = nI 3 from rfl, nI_mul, nI_add, xck_nI (show 3 * β + p < 6 by omega) (show (6 : Nat) < 2 ^ 31 by decide), nI_clamp (show 3 * β + p < 2 ^ 31 by omega), tr.2.2.2.2.2.2.2.1 p hp]
        unfold E_X12_goesThrough
        rw [xck_nI (by omega) (by decide), xck_nI (by omega) (by decide), nI_clamp (by omega), hG, r1, xb1_some, xb1_some, nI_1]
      obtain ⟨g', r5, r6⟩ := ih (j + 1) g2 (by omega) ((y.tr yG).tr (r2.up (fun o k h => h.1))) (fun i hi' => by
        by_cases e : i = j
        · subst e; exact ⟨r3, r4⟩
        · obtain ⟨s1, s2⟩ := s i (by omega)
          have o1 : ∀ o, o = 147 ∨ o = 148 → xI g2 o i = xI g1 o i := fun o ho => by
            rw [r2.2 o i (by unfold dTh; omega), ← hG, yI_wi, if_neg (by omega), yI_wi, if_neg (by omega)]
          exact ⟨(o1 147 (Or.inl rfl)).trans s1, (o1 148 (Or.inr rfl)).trans s2⟩)
      exact ⟨g', (xlim_go st).trans r5, r6⟩
  exact key L.length 0 g (by omega) (yAg.refl _ _) (fun i hi => by omega)
theorem r_jR (q : yLR g L) (hl : L.length ≤ 541) {d s r : Nat → Nat} (hβ : β ≤ 1) (hd : ∀ i, i < L.length → d i ≤ 180) (hs : ∀ i, i < L.length → s i ≤ 60) (h1 : ∀ i, i < L.length → xI g 147 i = nI (yEnd β (d i)) ∧ xI g 148 i = nI (s i)) (h2 : ∀ i, i < L.length → xI g 146 i = nI (r i) ∧ r i < 600) : xlim (S_X12_judged_102 a4) (0, 0, 0, 0, g) = some (nI (yCn (fun i => yMx d r L.length (d i)) L.length), nI (yMax s L.length), nI (ySum s L.length), g) := by
  have e := xlim_of (step := S_X12_judged_102 a4) (fun i => (nI (yCn (fun i => yMx d r L.length (d i)) i), nI (yMax s i), nI (ySum s i), nI i, g)) L.length (e := (nI (yCn (fun i => yMx d r L.length (d i)) L.length), nI (yMax s L.length), nI (ySum s L.length), g)) (fun i hi => ?_) ?_
  · exact e
  · have inn : ∀ x y z : Int32, xlim (S_X12_judged_117 a4 x y z (nI i)) (1, 0, g) = some (if yMx d r L.length (d i) = true then 0 else 1, g) := by
      intro x y z
      have e := xlim_of (step := S_X12_judged_117 a4 x y z (nI i)) (fun j => (if yCn (fun j => d j == d i && !(r j == r i)) j = 0 then (1 : Int32) else 0, nI j, g)) L.length (e := (if yMx d r L.length (d i) = true then 0 else 1, g)) (fun j hj => ?_) ?_
      · exact e
      · unfold S_X12_judged_117
        obtain ⟨e1, e2⟩ := h1 j hj
        obtain ⟨e3, e4⟩ := h1 i hi
        obtain ⟨f1, f2⟩ := h2 j hj
        obtain ⟨f3, f4⟩ := h2 i hi
        have b1 := yEnd_lt (β := β) (hd j hj) hβ
        have b2 := yEnd_lt (β := β) (hd i hi) hβ
        simp only [q.1, if_neg (nI_ge hj (show L.length < 2 ^ 31 by omega)), xck_nI (show j < 541 by omega) (show (541 : Nat) < 2 ^ 31 by decide), xck_nI (show i < 541 by omega) (show (541 : Nat) < 2 ^ 31 by decide), nI_clamp (show j < 2 ^ 31 by omega), nI_clamp (show i < 2 ^ 31 by omega), e1, e3, f1, f3, nI_1]
        have ie : (nI (yEnd β (d j)) = nI (yEnd β (d i))) ↔ d j = d i := (nI_eq (by omega) (by omega)).trans (yEnd_inj (hd j hj) (hd i hi))
        have ir : (nI (r j) = nI (r i)) ↔ r j = r i := nI_eq (by omega) (by omega)
        rw [yCn_succ]
        by_cases c : yCn (fun j => d j == d i && !(r j == r i)) j = 0
        · rw [if_pos c, if_neg (by decide), c]
          by_cases c1 : d j = d i
          · rw [if_pos (ie.mpr c1)]
            by_cases c2 : r j = r i
            · rw [if_pos (ir.mpr c2)]; simp [c1, c2]
            · rw [if_neg (fun y => c2 (ir.mp y))]; simp [c1, c2]
          · rw [if_neg (fun y => c1 (ie.mp y))]; simp [c1]
        · rw [if_neg c, if_pos rfl, if_neg (by omega)]
      · unfold S_X12_judged_117
        simp only [q.1]
        rw [if_pos (nI_le (Nat.le_refl _) (by omega))]
        have key : yMx d r L.length (d i) = true ↔ ¬ yCn (fun j => d j == d i && !(r j == r i)) L.length = 0 := by
          rw [yMx_self hi, yCn_zero]
          constructor
          · rintro ⟨j, j1, j2, j3⟩ z
            exact z j j1 (by simp [j2, j3])
          · intro z
            refine Classical.byContradiction fun y => z fun j hj hp => y ⟨j, hj, ?_⟩
            simpa using hp
        by_cases c : yMx d r L.length (d i) = true
        · rw [if_neg (key.mp c), if_pos c]
        · rw [if_pos (Classical.not_not.mp fun y => c (key.mpr y)), if_neg c]
    have hm := yMax_le (s := s) (c := 60) i (fun j hj => hs j (by omega))
    have hsi := hs i hi
    unfold S_X12_judged_102
    simp only [q.1, if_neg (nI_ge hi (show L.length < 2 ^ 31 by omega)), inn, xb1_some]
    unfold K_X12_judged_190
    simp only [xck_nI (show i < 541 by omega) (show (541 : Nat) < 2 ^ 31 by decide), nI_clamp (show i < 2 ^ 31 by omega), (h1 i hi).2, nI_1, nI_add]
    show _ = some (Sum.inl (nI (yCn (fun i => yMx d r L.length (d i)) i + (if yMx d r L.length (d i) = true then 1 else 0)), nI (max (yMax s i) (s i)), nI (ySum s i + s i), nI (i + 1), g))
    have p1 : nI (yCn (fun i => yMx d r L.length (d i)) i) + (if (if yMx d r L.length (d i) = true then (0 : Int32) else 1) = 0 then (1 : Int32) else 0) = nI (yCn (fun i => yMx d r L.length (d i)) i + (if yMx d r L.length (d i) = true then 1 else 0)) := by
      by_cases c : yMx d r L.length (d i) = true
      · rw [if_pos c, if_pos rfl, if_pos c, nI_1]
      · rw [if_neg c, if_neg (by decide), if_neg c, Int32.add_zero] <;> rfl
    rw [p1]
    by_cases c : s i ≤ yMax s i
    · rw [if_pos (nI_le c (by omega)), Nat.max_eq_left c]
    · rw [if_neg (fun z => c ((nI_leI (by omega) (by omega)).mp z)), Nat.max_eq_right (by omega)]
  · unfold S_X12_judged_102
    simp only [q.1]
    exact if_pos (nI_le (Nat.le_refl _) (by omega))
theorem op_20 (C : Cx g β T B) (hs : I_shelf g) : ∃ g', O_20 a1 a2 a3 a4 a5 g = some (true, g') ∧ yAg dAS g g' ∧ I_shelf g' := by
  have hn := C.2.2.2.1
  have hw := C.2.2.2.2.1
  have ht := C.2.1.1
  have hβ := C.2.1.2.2.1
  have hp3 := ht.2.2.2.1
  -- the reference's head
  have hd0 : ∀ G, Cx G β T B → E_X12_judged a1 a2 a3 a4 a5 G = if F_X12_isIn G a1 0 (nI (T 0 3) - 1) = 0 then some ((-1), G) else xb1 (E_X12_isGoal a2 a3 G) fun r22_3 => if r22_3 = 0 then some ((-1), G) else if (F_X12_isIn G a4 0 2) = 0 then some ((-1), G) else xb1 (E_X12_layLeft 0 a5 G) fun g44_6 => xb1 (E_X12_layGoals a2 a3 g44_6) fun g50_7 => xb1 (xlim (S_X12_judged_65 a1 a4 0 0 0) (0, g50_7)) fun e_8 => xb1 (xlim (S_X12_judged_102 a4) (0, 0, 0, 0, e_8)) fun e_9 => if a4 = 0 then some (e_9.1, e_9.2.2.2) else if a4 = 1 then some (e_9.2.1, e_9.2.2.2) else some (e_9.2.2.1, e_9.2.2.2) := by
    intro G CG
    unfold E_X12_judged
    rw [CG.2.1.2.2.2.1, xck_nI (by omega) (by decide), nI_clamp (by omega), CG.2.1.2.2.2.2.2.2.2.1]
  have t8 : xI g (tw g) 8 = nI (T 0 3) := C.2.1.2.1.2.2.2.1
  by_cases q0 : a1 < 0
  · refine ⟨g, r_O (v := -1) (by unfold E_X11_judged; rw [if_pos q0]) ?_, yAg.refl _ _, hs⟩
    rw [hd0 g C, if_pos (show F_X12_isIn g a1 0 (nI (T 0 3) - 1) = 0 from if_pos q0)]
  · by_cases q1 : nI (T 0 3) ≤ a1
    · refine ⟨g, r_O (v := -1) (by unfold E_X11_judged; rw [if_neg q0, t8, if_pos q1]) ?_, yAg.refl _ _, hs⟩
      rw [hd0 g C, if_pos ((r_isIn (by omega)).mpr fun ⟨j, hj, e⟩ => by rw [e] at q1; exact nI_ge hj (by omega) q1)]
    · obtain ⟨p, hp, rfl⟩ := r_lt (by omega) q0 q1
      have in1 : ∀ G, ¬ F_X12_isIn G (nI p) 0 (nI (T 0 3) - 1) = 0 := fun G => r_isIn1 (by omega) hp
      rcases r_hasGoal0 (a1 := a2) (a2 := a3) C with ⟨p1, p2⟩ | hG
      · refine ⟨g, r_O (v := -1) ?_ (by rw [hd0 g C, if_neg (in1 g), p2, xb1_some, if_pos rfl]), yAg.refl _ _, hs⟩
        unfold E_X11_judged
        rw [if_neg q0, t8, if_neg q1]
        by_cases z1 : a4 < 0
        · rw [if_pos z1]
        · rw [if_neg z1]
          by_cases z2 : 2 < a4
          · rw [if_pos z2]
          · rw [if_neg z2, if_pos p1]
      · obtain ⟨p1, p2⟩ := r_hasGoal1 C hG
        rcases r_ans02 (g := g) (a3 := a4) with ⟨i1, i2⟩ | ⟨i1, i2, i3⟩
        · refine ⟨g, r_O (v := -1) ?_ (by rw [hd0 g C, if_neg (in1 g), p2, xb1_some, if_neg (by decide), if_pos i1]), yAg.refl _ _, hs⟩
          unfold E_X11_judged
          rw [if_neg q0, t8, if_neg q1]
          by_cases z1 : a4 < 0
          · rw [if_pos z1]
          · rw [if_neg z1, if_pos (i2.resolve_left z1)]
        · obtain ⟨g1, r1, r2, r3⟩ := r_know (k := a5) C
          have C1 := C.as r2.A
          have hi := yLs_in (B := B) (k := a5) (lies := 0) hn hw
          have hu : yUp (yLs B a5 (T 0 0) (T 0 1) 0) := yUp_ls
          obtain ⟨g2, s1, s2, s3⟩ := r_jloop (a4 := a4) C1 r3 hi hp hG
          have C2 := C1.as (s2.up dJh_A).A
          obtain ⟨g3, u1, u2, u3⟩ := r_layLeft (k := a5) (lies := 0) (by decide) C2.2.2.1.1 C2.2.2.2 C2.2.2.1.2.2
          have C3 := C2.as (u2.up dLR_A).A
          obtain ⟨g4, v1, v2, v3⟩ := r_layGoals C3 u3 hi hG
          have C4 := C3.as (v2.up dGl_A).A
          have q4 : yLR g4 (yLs B a5 (T 0 0) (T 0 1) 0) := u3.gl v2 (by unfold dGl; omega) (fun k => by unfold dGl; omega)
          obtain ⟨g5, x1, x2, x3⟩ := r_jall (x1 := a4) (x2 := 0) (x3 := 0) (x4 := 0) C4 q4 hi hp
          have q5 : yLR g5 (yLs B a5 (T 0 0) (T 0 1) 0) := q4.gl x2 (by unfold dTw; omega) (fun k => by unfold dTw; omega)
          have hl := hi.1
          generalize yLs B a5 (T 0 0) (T 0 1) 0 = L at *
          have dle : ∀ i, yDn T p (yPv (T 0 0) (T 0 1) L i) ≤ 180 ∧ yDs T p (yPv (T 0 0) (T 0 1) L i) ≤ 60 := fun i => yDn_le ht hp
          have fin := r_jR (a4 := a4) q5 hl hβ (d := fun i => yDn T p (yPv (T 0 0) (T 0 1) L i)) (s := fun i => yDs T p (yPv (T 0 0) (T 0 1) L i)) (r := fun i => yGr (T 0 0) a2 a3 i (yPv (T 0 0) (T 0 1) L i)) (fun i _ => (dle i).1) (fun i _ => (dle i).2) x3 (fun i hi' => ⟨(x2.2 146 i (by unfold dTw; omega)).trans (v3 i hi'), yGr_lt hn hw hi hi' hG⟩)
          have unk := r_unknown hl (fun i _ => (dle i).1) (fun i hi' => yGc_lt hn hw (hi.2 i hi') hG) s3
          have same : yCn (fun i => yMx (fun i => yDn T p (yPv (T 0 0) (T 0 1) L i)) (fun i => yGr (T 0 0) a2 a3 i (yPv (T 0 0) (T 0 1) L i)) L.length (yDn T p (yPv (T 0 0) (T 0 1) L i))) L.length = yCn (fun i => yMx (fun i => yDn T p (yPv (T 0 0) (T 0 1) L i)) (fun i => yGc (T 0 0) a2 a3 (yPv (T 0 0) (T 0 1) L i)) L.length (yDn T p (yPv (T 0 0) (T 0 1) L i))) L.length := by
            refine yCn_congr fun i hi' => ?_
            rw [Bool.eq_iff_iff]
            have a := yMx_self (d := fun i => yDn T p (yPv (T 0 0) (T 0 1) L i)) (c := fun i => yGr (T 0 0) a2 a3 i (yPv (T 0 0) (T 0 1) L i)) hi'
            have b := yMx_self (d := fun i => yDn T p (yPv (T 0 0) (T 0 1) L i)) (c := fun i => yGc (T 0 0) a2 a3 (yPv (T 0 0) (T 0 1) L i)) hi'
            try dsimp only at a b
            rw [a, b]
            exact ⟨fun ⟨j, j1, j2, j3⟩ => ⟨j, j1, j2, fun z => j3 ((yG_iff hn hw hi hu j1 hi').mp z)⟩, fun ⟨j, j1, j2, j3⟩ => ⟨j, j1, j2, fun z => j3 ((yG_iff hn hw hi hu j1 hi').mpr z)⟩⟩
          have y12 := r2.tr (s2.up dJh_A)
          have y := y12.tr (((u2.up dLR_A).tr (v2.up dGl_A)).tr (x2.up dTw_A))
          have hC : E_X11_judged (nI p) a2 a3 a4 a5 g = some (if a4 = 0 then nI (yCn (fun i => yMx (fun i => yDn T p (yPv (T 0 0) (T 0 1) L i)) (fun i => yGc (T 0 0) a2 a3 (yPv (T 0 0) (T 0 1) L i)) L.length (yDn T p (yPv (T 0 0) (T 0 1) L i))) L.length) else if a4 = 1 then nI (yMax (fun i => yDs T p (yPv (T 0 0) (T 0 1) L i)) L.length) else nI (ySum (fun i => yDs T p (yPv (T 0 0) (T 0 1) L i)) L.length), g2) := by
            unfold E_X11_judged
            rw [if_neg q0, t8, if_neg q1, if_neg i2, if_neg i3, p1, if_neg (by decide), r1, xb2_some]
            cases hb : E_X2_begin g1 with
            | none => rw [hb] at s1; cases s1
            | some gb =>
              rw [hb, xb1_some] at s1
              rw [xb1_some, s1, xb1_some]
              by_cases z0 : a4 = 0
              · rw [if_pos z0, if_pos z0, unk, xb1_some] <;> rfl
              · rw [if_neg z0, if_neg z0]
                by_cases z1 : a4 = 1
                · rw [if_pos z1, if_pos z1, s3.1]
                · rw [if_neg z1, if_neg z1, s3.2.1]
          refine ⟨g5, r_O hC ?_, y.A, hs.aA y⟩
          rw [hd0 g2 C2, if_neg (in1 g2), (r_hasGoal1 C2 hG).2, xb1_some, if_neg (by decide), r_isInG (g := g), i1, if_neg (by decide), show E_X12_layLeft 0 a5 g2 = some g3 from u1, xb1_some, v1, xb1_some, x1, xb1_some, fin, xb1_some]
          dsimp only at same ⊢
          rw [same]
          by_cases z0 : a4 = 0
          · rw [if_pos z0, if_pos z0]
          · rw [if_neg z0, if_neg z0]
            by_cases z1 : a4 = 1
            · rw [if_pos z1, if_pos z1]
            · rw [if_neg z1, if_neg z1]
end JD
