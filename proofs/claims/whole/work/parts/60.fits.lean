/-! CALLS weights, weight, could -/
def dASG (o k : Nat) : Prop := dAS o k ∨ dGu o k
section FC
variable {g g' : xSt} {β n st R Q v : Nat} {T B : yT} {P : List Nat} {k a1 a2 a3 a4 a5 : Int32}
theorem Cx.asg (C : Cx g β T B) (h : yAg dASG g g') : Cx g' β T B := by
  obtain ⟨c1, ⟨q1, q2, q3, q4, q5⟩, c3, c4⟩ := C
  have htw := xtw_lt c1
  have et : tw g' = tw g := by unfold tw; rw [h.1]
  have no : ∀ {o k : Nat}, (o ≤ 68 ∨ o = 70 ∨ o = 71 ∨ (o = 69 ∧ k < 5) ∨ (76 ≤ o ∧ o ≤ 87) ∨ (114 ≤ o ∧ o ≤ 134) ∨ (136 ≤ o ∧ o ≤ 143) ∨ 174 ≤ o ∨ (o = 113 ∧ (k ≤ 52 ∨ (55 ≤ k ∧ k ≤ 58) ∨ (60 ≤ k ∧ k ≤ 69) ∨ 73 ≤ k))) → ¬ dASG o k := fun h z => z.elim (dAS_no (by omega)) (fun y => by unfold dGu at y; omega)
  refine ⟨by rw [et]; exact c1, ⟨q1, ?_, q3, (h.2 _ _ (no (by omega))).trans q4, q5.ag h (fun o k m => no (by simp only [List.mem_cons, List.not_mem_nil, or_false] at m; omega))⟩, c3.ag h (fun j k hj _ => no (by omega)) (fun o k m => no (by simp only [List.mem_cons, List.not_mem_nil, or_false] at m; omega)) (no (by omega)) (no (by omega)) (no (by omega)) (no (by omega)), c4.ag h (no (by omega)) (no (by omega)) (no (by omega)) (fun o k m => no (by simp only [List.mem_cons, List.not_mem_nil, or_false] at m; omega))⟩
  rw [et]
  exact q2.ag h (fun j k hj => no (by omega))
theorem dGu_G : ∀ o k, dGu o k → dASG o k := fun o k h => Or.inr h
theorem yAg.S (h : yAg dAS g g') : yAg dASG g g' := h.up (fun _ _ q => Or.inl q)
theorem I_shelf.gu (q : I_shelf g) (h : yAg dGu g g') : I_shelf g' := q.ag h (fun o k m => by simp only [List.mem_cons, List.not_mem_nil, or_false] at m; unfold dGu; omega) (by unfold dGu; omega) (by unfold dGu; omega)
theorem I_guess.aS (q : I_guess g) (h : yAg dAS g g') : I_guess g' := q.ag h (fun o k h1 h2 => dAS_no (by omega))
/-- load, with the loaded state and the memory -/
theorem r_loadG (C : Cx g β T B) (q : I_guess g) : ∃ g', E_X1_load (tw g) k g = some g' ∧ yAg dGu g g' ∧ yLo2 g' (T 0 0) (T 0 2) (yRu B k (B 9 0)) ∧ I_guess g' := by
  obtain ⟨g', r1, r2, r3, r4, r5, r6, r7⟩ := r_load (k := k) C
  refine ⟨g', r1, r2.up dLd_U, ⟨r3, r4, r5, r6⟩, ?_⟩
  rcases r7 with z | z
  · exact ⟨(r2.2 _ _ (by unfold dLd; omega)).trans q.1, Or.inl z⟩
  · exact q.eq fun o j _ _ => z o j
theorem r_known (C : Cx g β T B) (q : I_guess g) : ∃ g1 g2 Q qa qb, E_X1_load (tw g) k g = some g1 ∧ E_X1_guessAll g1 = some g2 ∧ yAg dGu g g2 ∧ I_guess g2 ∧ yAc g2 (T 0 0) (T 0 2) (yFw T B k (6 ^ T 0 0)) Q qa qb := by
  obtain ⟨g1, r1, r2, r3, r4⟩ := r_loadG (k := k) C q
  obtain ⟨g2, Q, qa, qb, s1, s2, s3, s4⟩ := r_guessAll C.2.2.2.1 C.2.1.1.2.2.1 (yRu_rl C.2.2.1.1) r3 r4
  exact ⟨g1, g2, Q, qa, qb, r1, s1, r2.tr s2, s3, s4⟩
theorem op_34 (C : Cx g β T B) (hs : I_shelf g) (q : I_guess g) : ∃ g', O_34 a1 a2 a3 a4 a5 g = some (true, g') ∧ yAg dASG g g' ∧ I_shelf g' ∧ I_guess g' := by
  have hn := C.2.2.2.1
  have h6 := r_6n C
  unfold O_34
  generalize xb01 a2 = m
  rcases r_thing (a1 := a1) C with ⟨p1, p2⟩ | ⟨t, ht, rfl⟩
  · exact ⟨g, r_O (v := -1) (by unfold E_X11_weight; rw [if_pos p1]) (by unfold E_X12_weight; rw [p2, xb1_some, if_pos rfl]), yAg.refl _ _, hs, q⟩
  · obtain ⟨g1, g2, Q, qa, qb, r1, r2, r3, r4, r5⟩ := r_known (k := a3) C q
    have C2 := C.asg (r3.up dGu_G)
    obtain ⟨g3, s1, s2, s3⟩ := r_countW (k := a3) C2
    have hlen := yFw_len (T := T) (B := B) (k := a3) (v := 6 ^ T 0 0)
    have y := (r3.up dGu_G).tr (s2.up dRe_A).A.S
    have sh := (hs.gu r3).aA (s2.up dRe_A)
    have ig := r4.aS (s2.up dRe_A).A
    generalize yFw T B a3 (6 ^ T 0 0) = P at *
    obtain ⟨z1, z2, z3⟩ := r5
    by_cases c : P = []
    · refine ⟨g3, r_O (v := -1) (g1 := g2) ?_ ?_, y, sh, ig⟩
      · unfold E_X11_weight
        rw [(r_th1 C ht).1, if_neg (by decide), r1, xb1_some, r2, xb1_some, z1, c, if_pos (show nI ([] : List Nat).length = (0 : Int32) from rfl)]
      · unfold E_X12_weight
        rw [(r_th1 C2 ht).2, xb1_some, if_neg (by decide), s1, xb2_some, c, if_pos (show nI ([] : List Nat).length = (0 : Int32) from rfl)]
    · have hne : ¬ nI P.length = (0 : Int32) := fun z => c (List.eq_nil_of_length_eq_zero ((nI_eq (by omega) (by decide)).mp (show _ = nI 0 from z)))
      obtain ⟨x1, x2, x3⟩ := s3 c t ht
      obtain ⟨-, w2, w3⟩ := z2 t ht
      refine ⟨g3, r_O (v := if m = 0 then nI (yMn (T 0 0) P t) else nI (yMa (T 0 0) P t)) (g1 := g2) ?_ ?_, y, sh, ig⟩
      · unfold E_X11_weight E_X1_extremeOf
        rw [(r_th1 C ht).1, if_neg (by decide), r1, xb1_some, r2, xb1_some, z1, if_neg hne, xb1_some, xat_nI (by omega) (by decide), xat_nI (by omega) (by decide), w2, w3]
      · unfold E_X12_weight
        rw [(r_th1 C2 ht).2, xb1_some, if_neg (by decide), s1, xb2_some, if_neg hne, xck_nI (show t < 5 by omega) (by decide), xck_nI (show t < 5 by omega) (by decide), nI_clamp (by omega), x1, x2]
        by_cases z : m = 0
        · rw [if_pos z, if_pos z]
        · rw [if_neg z, if_neg z]
theorem op_33 (C : Cx g β T B) (q : I_guess g) : ∃ g', O_33 a1 a2 a3 a4 a5 g = some (true, g') ∧ yAg dASG g g' ∧ I_shelf g' ∧ I_guess g' := by
  have hn := C.2.2.2.1
  have h6 := r_6n C
  have y0 : yAg dSC g (xWI g 111 1 0) := (yAg.refl dSC g).wi (Or.inr ⟨rfl, rfl⟩)
  have C0 := C.as (y0.up dSC_S)
  have q0 := q.aS (y0.up dSC_S)
  have s0 : xI (xWI g 111 1 0) 111 1 = nI 0 := by rw [yI_wi, if_pos ⟨rfl, rfl⟩]; rfl
  obtain ⟨g1, g2, Q, qa, qb, r1, r2, r3, r4, r5⟩ := r_known (k := a1) C0 q0
  have C2 := C0.asg (r3.up dGu_G)
  have w2 : xI g2 111 1 = nI 0 := (r3.2 _ _ (by unfold dGu; omega)).trans s0
  have hlen := yFw_len (T := T) (B := B) (k := a1) (v := 6 ^ T 0 0)
  -- the reference behind a store
  have ref : ∀ G, Cx G β T B → ∃ g3, E_X12_countWeights a1 (xWI G 113 54 0) = some (nI (yFw T B a1 (6 ^ T 0 0)).length, g3) ∧ yAg dAS G g3 ∧ xI g3 113 54 = nI 0 ∧ yRe g3 (T 0 0) (yFw T B a1 (6 ^ T 0 0)) ∧ (∀ o, 111 ≤ o → o ≤ 112 → ∀ k, xI g3 o k = xI G o k) := by
    intro G CG
    have z : yAg dAS G (xWI G 113 54 0) := (yAg.refl _ _).wi (by unfold dAS; omega)
    obtain ⟨g3, u1, u2, u3⟩ := r_countW (k := a1) (CG.as z)
    refine ⟨g3, u1, z.tr (u2.up dRe_A).A, ?_, u3, fun o h1 h2 k => ?_⟩
    · rw [u2.2 113 54 (by unfold dRe; omega), yI_wi, if_pos ⟨rfl, rfl⟩]; rfl
    · rw [u2.2 o k (by unfold dRe; omega), yI_wi, if_neg (by omega)]
  generalize yFw T B a1 (6 ^ T 0 0) = P at *
  obtain ⟨z1, z2, z3⟩ := r5
  have hun : ∀ g4, xlim (S_X11_weights_32) (0, g2) = some g4 → xI g4 98 11 = nI P.length → E_X11_weights a1 g = some (nI P.length, g4) := by
    intro g4 h h2
    unfold E_X11_weights E_X9_empty
    rw [xb1_some, r1, xb1_some, r2, xb1_some, h, xb1_some, h2]
  by_cases c : P = []
  · have l0 : xlim (S_X11_weights_32) (0, g2) = some g2 := xlim_end (by
      unfold S_X11_weights_32
      simp only [z1]
      exact if_pos (by rw [c]; decide))
    obtain ⟨g3, u1, u2, u3, u4, u5⟩ := ref g2 C2
    refine ⟨g3, r_O (v := nI P.length) (g1 := g2) (hun g2 l0 z1) ?_, (((y0.up dSC_S).S).tr (r3.up dGu_G)).tr u2.S, ⟨0, by decide, (u5 111 (by decide) (by decide) 1).trans w2, u3, fun k hk => by omega⟩, r4.aS u2⟩
    unfold E_X12_weights
    rw [u1, xb2_some, c, if_pos (show nI ([] : List Nat).length = (0 : Int32) from rfl)]; rfl
  · have hpos : ¬ P.length = 0 := fun z => c (List.eq_nil_of_length_eq_zero z)
    have hne : ¬ nI P.length = (0 : Int32) := fun z => hpos ((nI_eq (by omega) (by decide)).mp (show _ = nI 0 from z))
    have hle : ¬ nI P.length ≤ (0 : Int32) := fun z => hpos ((r_le0 (by omega)).mp z)
    have key : ∀ m j G, m + j = T 0 0 → yAg dSC g2 G → xI G 111 1 = nI j → (∀ i, i < j → xI G 112 i = nI (yWt (T 0 0) (P.getD 0 0) i)) → ∃ g', xlim (S_X11_weights_32) (nI j, G) = some g' ∧ yAg dSC g2 g' ∧ xI g' 111 1 = nI (T 0 0) ∧ ∀ i, i < T 0 0 → xI g' 112 i = nI (yWt (T 0 0) (P.getD 0 0) i) := by
      intro m
      induction m with
      | zero =>
        intro j G hj y s1 s2
        have : j = T 0 0 := by omega
        have CG := C2.as (y.up dSC_S)
        refine ⟨G, xlim_end ?_, y, this ▸ s1, this ▸ s2⟩
        unfold S_X11_weights_32
        simp only [y.2 98 11 (by unfold dSC; omega), z1, if_neg hle, CG.2.1.2.1.1]
        exact if_pos (nI_le (by omega) (by omega))
      | succ m ih =>
        intro j G hj y s1 s2
        have CG := C2.as (y.up dSC_S)
        have f : F_X1_firstOf G (nI j) = nI (yWt (T 0 0) (P.getD 0 0) j) := by
          unfold F_X1_firstOf
          rw [xat_nI (by omega) (by decide), y.2 104 j (by unfold dSC; omega)]
          exact (z2 j (by omega)).1 c
        have st : S_X11_weights_32 (nI j, G) = some (.inl (nI (j + 1), xWI (xWI G 112 j (nI (yWt (T 0 0) (P.getD 0 0) j))) 111 1 (nI (j + 1)))) := by
          unfold S_X11_weights_32
          simp only [y.2 98 11 (by unfold dSC; omega), z1, if_neg hle, CG.2.1.2.1.1, if_neg (nI_ge (show j < T 0 0 by omega) (show T 0 0 < 2 ^ 31 by omega)), f, r_lay s1 (show j < 24 by omega), xb1_some, nI_1]
        obtain ⟨g', x1, x2⟩ := ih (j + 1) (xWI (xWI G 112 j (nI (yWt (T 0 0) (P.getD 0 0) j))) 111 1 (nI (j + 1))) (by omega) ((y.wi (Or.inl rfl)).wi (Or.inr ⟨rfl, rfl⟩)) (by rw [yI_wi, if_pos ⟨rfl, rfl⟩]) (fun i hi => by
          rw [yI_wi, if_neg (by omega), yI_wi]
          by_cases e : i = j
          · rw [if_pos ⟨rfl, e⟩, e]
          · rw [if_neg (fun z => e z.2)]; exact s2 i (by omega))
        exact ⟨g', (xlim_go st).trans x1, x2⟩
    obtain ⟨g3, x1, x2, x3, x4⟩ := key (T 0 0) 0 g2 (by omega) (yAg.refl _ _) w2 (fun i hi => by omega)
    have C3 := C2.as (x2.up dSC_S)
    obtain ⟨g4, u1, u2, u3, u4, u5⟩ := ref g3 C3
    have C4 := C3.as u2
    have key2 : ∀ m j G, m + j = T 0 0 → yAg dSR g4 G → (∀ i, i < j → xI G 149 i = nI (yWt (T 0 0) (P.getD 0 0) i)) → ∃ g', xlim (S_X12_weights_19 (nI P.length)) (nI j, G) = some g' ∧ yAg dSR g4 g' ∧ ∀ i, i < T 0 0 → xI g' 149 i = nI (yWt (T 0 0) (P.getD 0 0) i) := by
      intro m
      induction m with
      | zero =>
        intro j G hj y s2
        have : j = T 0 0 := by omega
        have CG := C4.as (y.up dSR_S)
        refine ⟨G, xlim_end ?_, y, this ▸ s2⟩
        unfold S_X12_weights_19
        simp only [r_thingMany CG.2.1, xb1_some]
        exact if_pos (nI_le (by omega) (by omega))
      | succ m ih =>
        intro j G hj y s2
        have CG := C4.as (y.up dSR_S)
        have e9 : xI G 169 j = nI (yWt (T 0 0) (P.getD 0 0) j) := (y.2 _ _ (by unfold dSR; omega)).trans (u4 c j (by omega)).2.2
        have st : S_X12_weights_19 (nI P.length) (nI j, G) = some (.inl (nI (j + 1), xWI G 149 j (nI (yWt (T 0 0) (P.getD 0 0) j)))) := by
          unfold S_X12_weights_19
          simp only [r_thingMany CG.2.1, xb1_some, if_neg (nI_ge (show j < T 0 0 by omega) (show T 0 0 < 2 ^ 31 by omega)), xck_nI (show j < 5 by omega) (show (5 : Nat) < 2 ^ 31 by decide), xck_nI (show j < 25 by omega) (show (25 : Nat) < 2 ^ 31 by decide), nI_clamp (show j < 2 ^ 31 by omega), e9, nI_1]
        obtain ⟨g', v1, v2⟩ := ih (j + 1) (xWI G 149 j (nI (yWt (T 0 0) (P.getD 0 0) j))) (by omega) (y.wi (Or.inl rfl)) (fun i hi => by
          rw [yI_wi]
          by_cases e : i = j
          · rw [if_pos ⟨rfl, e⟩, e]
          · rw [if_neg (fun z => e z.2)]; exact s2 i (by omega))
        exact ⟨g', (xlim_go st).trans v1, v2⟩
    obtain ⟨g5, v1, v2, v3⟩ := key2 (T 0 0) 0 g4 (by omega) (yAg.refl _ _) (fun i hi => by omega)
    have C5 := C4.as (v2.up dSR_S)
    have y5 : yAg dAS g4 (xWI g5 113 54 (nI (T 0 0))) := (v2.up dSR_S).wi (by unfold dAS; omega)
    refine ⟨xWI g5 113 54 (nI (T 0 0)), r_O (v := nI P.length) (g1 := g3) (hun g3 x1 ((x2.2 _ _ (by unfold dSC; omega)).trans z1)) ?_, ((((y0.up dSC_S).S).tr (r3.up dGu_G)).tr (x2.up dSC_S).S).tr (u2.tr y5).S, ⟨T 0 0, by omega, ?_, by rw [yI_wi, if_pos ⟨rfl, rfl⟩], fun k hk => ?_⟩, ((r4.aS (x2.up dSC_S)).aS u2).aS y5⟩
    · unfold E_X12_weights
      rw [u1, xb2_some, if_neg hne, show xlim (S_X12_weights_19 (nI P.length)) (0, g4) = some g5 from v1, xb1_some, r_thingMany C5.2.1, xb1_some]
    · rw [yI_wi, if_neg (by omega), v2.2 111 1 (by unfold dSR; omega), u5 111 (by decide) (by decide)]; exact x3
    · rw [yI_wi, if_neg (by omega), yI_wi, if_neg (by omega), v2.2 112 k (by unfold dSR; omega), u5 112 (by decide) (by decide), x4 k hk, v3 k hk]
/-! could -/
theorem yCo_sum (n st a c : Nat) : ∀ P : List Nat, P.length = yCo n st a c 0 P + yCo n st a c 1 P + yCo n st a c 2 P := by
  intro P
  unfold yCo
  induction P with
  | nil => rfl
  | cons v P ih =>
    have h := yBl_le st (yHw (yWt n v) a n) (yHw (yWt n v) c n)
    have h : ySo n st v a c ≤ 2 := h
    have : ySo n st v a c = 0 ∨ ySo n st v a c = 1 ∨ ySo n st v a c = 2 := by omega
    simp only [List.filter_cons, List.length_cons]
    rcases this with e | e | e <;> rw [e] <;> simp <;> omega
theorem yBs_3 (p : Nat → Bool) : yBs p 3 = ((if p 0 then 1 else 0) + (if p 1 then 2 else 0)) + (if p 2 then 4 else 0) := by
  show (((0 ||| (if p 0 then 2 ^ 0 else 0)) ||| (if p 1 then 2 ^ 1 else 0)) ||| (if p 2 then 2 ^ 2 else 0)) = _
  cases p 0 <;> cases p 1 <;> cases p 2 <;> decide
theorem yCo_push (n st a c s : Nat) (P : List Nat) (v : Nat) : yCo n st a c s (P ++ [v]) = yCo n st a c s P + (if ySo n st v a c = s then 1 else 0) := by
  unfold yCo
  rw [List.filter_append, List.length_append]
  congr 1
  by_cases e : ySo n st v a c = s
  · rw [if_pos e]; simp [e]
  · rw [if_neg e]; simp [e]
theorem r_couldR (C : Cx g β T B) {a b : Nat} (ha : a < 32) (hb : b < 32) : ∃ g', xlim (S_X12_could_17 (nI a) (nI b) k) (0, 0, g) = some (nI (yBs (fun s => decide (0 < yCo (T 0 0) (T 0 2) a b s (yFw T B k (6 ^ T 0 0)))) 3), g') ∧ yAg dWt g g' := by
  have h6 := r_6n C
  have key : ∀ m v g1, m + v = 6 ^ T 0 0 → yAg dWt g g1 → ∃ g', xlim (S_X12_could_17 (nI a) (nI b) k) (nI (yBs (fun s => decide (0 < yCo (T 0 0) (T 0 2) a b s (yFw T B k v))) 3), nI v, g1) = some (nI (yBs (fun s => decide (0 < yCo (T 0 0) (T 0 2) a b s (yFw T B k (6 ^ T 0 0)))) 3), g') ∧ yAg dWt g g' := by
    intro m
    induction m with
    | zero =>
      intro v g1 hv y
      have : v = 6 ^ T 0 0 := by omega
      subst this
      have C1 := C.as (y.up dWt_A).A
      refine ⟨g1, xlim_end ?_, y⟩
      unfold S_X12_could_17
      simp only [r_wRows C1, xb1_some]
      exact if_pos (nI_le (Nat.le_refl _) (by omega))
    | succ m ih =>
      intro v g1 hv y
      have hv6 : v < 6 ^ T 0 0 := by omega
      have C1 := C.as (y.up dWt_A).A
      obtain ⟨g2, w1, w2, w3⟩ := r_layW (v := v) C1 (by omega)
      have C2 := C1.as (w2.up dWt_A).A
      have fit := r_doFit (k := k) C2 w3
      have so := r_saysOf C2 w3 ha hb
      have hle : ySo (T 0 0) (T 0 2) v a b ≤ 2 := yBl_le _ _ _
      by_cases c : yFv T B k v = true
      · have e : yFw T B k (v + 1) = yFw T B k v ++ [v] := by rw [yFw_succ, if_pos c]
        have bits : yBs (fun s => decide (0 < yCo (T 0 0) (T 0 2) a b s (yFw T B k (v + 1)))) 3 = yBs (fun s => decide (0 < yCo (T 0 0) (T 0 2) a b s (yFw T B k v))) 3 ||| 2 ^ ySo (T 0 0) (T 0 2) v a b := by
          refine (yBs_of (Nat.or_lt_two_pow yBs_lt (Nat.pow_lt_pow_right (by decide) (by omega))) fun s hs => ?_).symm
          rw [Nat.testBit_or, Bool.or_eq_true, yBs_bit, Nat.testBit_two_pow, decide_eq_true_iff, decide_eq_true_iff, decide_eq_true_iff, e, yCo_push]
          by_cases z : ySo (T 0 0) (T 0 2) v a b = s
          · rw [if_pos z]; exact ⟨fun _ => Nat.succ_pos _, fun _ => Or.inr z⟩
          · rw [if_neg z, Nat.add_zero]; exact ⟨fun w => w.elim (fun w => w.2) (fun w => absurd w z), fun w => Or.inl ⟨hs, w⟩⟩
        have st : S_X12_could_17 (nI a) (nI b) k (nI (yBs (fun s => decide (0 < yCo (T 0 0) (T 0 2) a b s (yFw T B k v))) 3), nI v, g1) = some (.inl (nI (yBs (fun s => decide (0 < yCo (T 0 0) (T 0 2) a b s (yFw T B k (v + 1)))) 3), nI (v + 1), g2)) := by
          unfold S_X12_could_17
          simp only [r_wRows C1, xb1_some, if_neg (nI_ge hv6 (show 6 ^ T 0 0 < 2 ^ 31 by omega)), w1, fit, if_pos c, if_neg (show ¬ (1 : Int32) = 0 by decide), so, r_1shl _ (show ySo (T 0 0) (T 0 2) v a b < 31 by omega), r_orG, nI_1, bits]
        obtain ⟨g', r1, r2⟩ := ih (v + 1) g2 (by omega) (y.tr w2)
        exact ⟨g', (xlim_go st).trans r1, r2⟩
      · have e : yFw T B k (v + 1) = yFw T B k v := by rw [yFw_succ, if_neg c, List.append_nil]
        have st : S_X12_could_17 (nI a) (nI b) k (nI (yBs (fun s => decide (0 < yCo (T 0 0) (T 0 2) a b s (yFw T B k v))) 3), nI v, g1) = some (.inl (nI (yBs (fun s => decide (0 < yCo (T 0 0) (T 0 2) a b s (yFw T B k (v + 1)))) 3), nI (v + 1), g2)) := by
          unfold S_X12_could_17
          simp only [r_wRows C1, xb1_some, if_neg (nI_ge hv6 (show 6 ^ T 0 0 < 2 ^ 31 by omega)), w1, fit, if_neg c, if_true, nI_1, e]
        obtain ⟨g', r1, r2⟩ := ih (v + 1) g2 (by omega) (y.tr w2)
        exact ⟨g', (xlim_go st).trans r1, r2⟩
  obtain ⟨g', r1, r2⟩ := key (6 ^ T 0 0) 0 g (by omega) (yAg.refl _ _)
  have z : yBs (fun s => decide (0 < yCo (T 0 0) (T 0 2) a b s (yFw T B k 0))) 3 = 0 := by
    rw [yBs_3]; rfl
  rw [z] at r1
  exact ⟨g', r1, r2⟩
theorem op_35 (C : Cx g β T B) (hs : I_shelf g) (q : I_guess g) : ∃ g', O_35 a1 a2 a3 a4 a5 g = some (true, g') ∧ yAg dASG g g' ∧ I_shelf g' ∧ I_guess g' := by
  have hn := C.2.2.2.1
  have h6 := r_6n C
  have hpw : 2 ^ T 0 0 ≤ 32 := Nat.pow_le_pow_right (n := 2) (by decide) hn
  rcases r_heaps (a1 := a1) (a2 := a2) C.2.1 with ⟨p1, p2⟩ | ⟨a, b, rfl, rfl, ha, hbb, hab, p1, p2⟩
  · exact ⟨g, r_O (v := -1) (by unfold E_X11_could; rw [if_pos p1]) (by unfold E_X12_could; rw [p2, xb1_some, if_pos rfl]), yAg.refl _ _, hs, q⟩
  · obtain ⟨g1, r1, r2, r3, r4⟩ := r_loadG (k := a3) C q
    obtain ⟨h1, h2, h3, h4⟩ := r3
    have e13 : xI (xWI g1 98 13 0) 98 13 = nI 0 := by rw [yI_wi, if_pos ⟨rfl, rfl⟩]; rfl
    have ak := r_askG e13 (by decide) (nI a) (nI b)
    generalize hG : xWI (xWI (xWI (xWI g1 98 13 0) 107 0 (nI a)) 108 0 (nI b)) 98 13 (nI (0 + 1)) = G at ak
    have oG : ∀ o k, ¬ (o = 107 ∨ o = 108 ∨ (o = 98 ∧ k = 13)) → xI G o k = xI g1 o k := fun o k h => by rw [← hG, yI_wi, if_neg (by omega), yI_wi, if_neg (by omega), yI_wi, if_neg (by omega), yI_wi, if_neg (by omega)]
    have yG : yAg dGu g1 G := ⟨by rw [← hG]; rfl, fun o k h => oG o k (fun z => h (by unfold dGu; omega))⟩
    have loG : yLo2 G (T 0 0) (T 0 2) (yRu B a3 (B 9 0)) := ⟨(oG _ _ (by omega)).trans h1, (oG _ _ (by omega)).trans h2, (oG _ _ (by omega)).trans h3, fun i hi => ⟨(oG _ _ (by omega)).trans (h4 i hi).1, (oG _ _ (by omega)).trans (h4 i hi).2.1, (oG _ _ (by omega)).trans (h4 i hi).2.2⟩⟩
    obtain ⟨g2, s1, s2, s3, s4, s5, s6⟩ := r_guess2 (Q := 1) (qa := fun _ => a) (qb := fun _ => b) (kn := 1) hn C.2.1.1.2.2.1 (yRu_rl C.2.2.1.1) loG ((oG _ _ (by omega)).trans r4.1) ⟨by decide, fun i hi => ⟨ha.2, hbb.2, hab⟩⟩ (by rw [← hG, yI_wi, if_pos ⟨rfl, rfl⟩]) (fun i hi => by
      have : i = 0 := by omega
      subst this
      rw [← hG]; simp [yI_wi]) (Or.inl (Or.inr rfl))
    obtain ⟨z1, z2, z3⟩ := s5
    obtain ⟨d1, d2⟩ := z3 0 (by decide)
    have y2 : yAg dGu g (xWI g2 98 12 1) := ((r2.tr yG).tr (s2.up dGs_U)).wi ⟨by decide, by decide⟩
    have C2 := C.asg (y2.up dGu_G)
    obtain ⟨g3, u1, u2⟩ := r_couldR (k := a3) C2 (show a < 32 by omega) (show b < 32 by omega)
    have hlen := yFw_len (T := T) (B := B) (k := a3) (v := 6 ^ T 0 0)
    rw [yFw_all] at u1 hlen
    generalize yFa (T 0 0) (T 0 2) (yRu B a3 (B 9 0)).length (yF1 (yRu B a3 (B 9 0))) (yF2 (yRu B a3 (B 9 0))) (yF3 (yRu B a3 (B 9 0))) = P at *
    have sum := yCo_sum (T 0 0) (T 0 2) a b P
    refine ⟨g3, r_O (v := nI (yBs (fun s => decide (0 < yCo (T 0 0) (T 0 2) a b s P)) 3)) (g1 := xWI g2 98 12 1) ?_ ?_, (y2.up dGu_G).tr (u2.up dWt_A).A.S, (hs.gu y2).aA (u2.up dWt_A), s4.aS (u2.up dWt_A).A⟩
    · unfold E_X11_could E_X1_sayings
      rw [p1, if_neg (by decide), r1, xb1_some, show E_X1_ask (nI a) (nI b) (xWI g1 98 13 0) = some G from ak, xb1_some, s1, xb1_some]
      unfold K_X1_sayings_55 K_X1_sayings_64
      rw [show xat (xI g2 109) 90 0 = nI (yCo (T 0 0) (T 0 2) a b 1 P) from d1, show xat (xI g2 110) 90 0 = nI (yCo (T 0 0) (T 0 2) a b 2 P) from d2, z1, nI_add, xb2_some, yBs_3]
      have c0 : (if nI P.length ≤ nI (yCo (T 0 0) (T 0 2) a b 1 P + yCo (T 0 0) (T 0 2) a b 2 P) then (0 : Int32) else 1) = nI (if decide (0 < yCo (T 0 0) (T 0 2) a b 0 P) = true then 1 else 0) := by
        by_cases z : 0 < yCo (T 0 0) (T 0 2) a b 0 P
        · rw [if_neg (fun w => by rw [nI_leI (by omega) (by omega)] at w; omega), if_pos (decide_eq_true z)]; rfl
        · rw [if_pos (nI_le (by omega) (by omega)), if_neg (by simpa using z)]; rfl
      have c1 : (if nI (yCo (T 0 0) (T 0 2) a b 1 P) ≤ (0 : Int32) then (0 : Int32) else 2) = nI (if decide (0 < yCo (T 0 0) (T 0 2) a b 1 P) = true then 2 else 0) := by
        by_cases z : 0 < yCo (T 0 0) (T 0 2) a b 1 P
        · rw [if_neg (fun w => by have := (r_le0 (by omega)).mp w; omega), if_pos (decide_eq_true z)]; rfl
        · rw [if_pos ((r_le0 (by omega)).mpr (by omega)), if_neg (by simpa using z)]; rfl
      have c2 : (if nI (yCo (T 0 0) (T 0 2) a b 2 P) ≤ (0 : Int32) then (0 : Int32) else 4) = nI (if decide (0 < yCo (T 0 0) (T 0 2) a b 2 P) = true then 4 else 0) := by
        by_cases z : 0 < yCo (T 0 0) (T 0 2) a b 2 P
        · rw [if_neg (fun w => by have := (r_le0 (by omega)).mp w; omega), if_pos (decide_eq_true z)]; rfl
        · rw [if_pos ((r_le0 (by omega)).mpr (by omega)), if_neg (by simpa using z)]; rfl
      rw [c0, c1, c2, nI_add, nI_add]
    · unfold E_X12_could
      rw [r_heapsE C.2.1 C2.2.1, p2, xb1_some, if_neg (by decide), u1, xb1_some]
end FC
