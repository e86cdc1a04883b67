/-! all at once: the least set, the reference's closing -/
section OO
variable {g g' : xSt} {n w c o M P : Nat} {L : List Nat} {mk : Nat → Nat} {γ : Nat → Int32} {Q Q' : Nat → Prop} {a1 a2 : Int32}
noncomputable def zLs (ok : Nat → Prop) : Nat → Option Nat
  | 0 => none
  | m + 1 => @ite (Option Nat) (ok m) (Classical.propDecidable (ok m)) (match zLs ok m with
    | none => some m
    | some b => if yPop b ≤ yPop m then some b else some m) (zLs ok m)
def zO : Option Nat → Int32
  | none => -1
  | some b => nI b
theorem zLs_lt {ok : Nat → Prop} : ∀ m b, zLs ok m = some b → b < m := by
  intro m
  induction m with
  | zero => intro b h; exact absurd h (by unfold zLs; simp)
  | succ m ih =>
    intro b h
    unfold zLs at h
    by_cases c : ok m
    · rw [if_pos c] at h
      cases e : zLs ok m with
      | none => rw [e] at h; simp only [Option.some.injEq] at h; omega
      | some x =>
        rw [e] at h
        have := ih x e
        by_cases d : yPop x ≤ yPop m
        · simp only [if_pos d, Option.some.injEq] at h; omega
        · simp only [if_neg d, Option.some.injEq] at h; omega
    · rw [if_neg c] at h
      have := ih b h
      omega
theorem zLs_congr {ok ok' : Nat → Prop} : ∀ m, (∀ s, s < m → (ok s ↔ ok' s)) → zLs ok m = zLs ok' m := by
  intro m
  induction m with
  | zero => intro _; rfl
  | succ m ih =>
    intro h
    unfold zLs
    rw [ih fun s hs => h s (by omega)]
    by_cases c : ok m
    · rw [if_pos c, if_pos ((h m (by omega)).mp c)]
    · rw [if_neg c, if_neg fun z => c ((h m (by omega)).mpr z)]
set_option maxRecDepth 100000 in
theorem r_bci10 : ∀ x, x < 1024 → xbci (nI x) = nI (yPop x) ∧ yPop x ≤ 31 ∧ ¬ nI x = -1 ∧ ¬ nI x < 0 := by decide +kernel
theorem r_leastC (hP : P ≤ 10) (h : zB g 89 1024 Q) : E_X4_leastSet (nI (2 ^ P - 1)) g = some (zO (zLs (fun s => ¬ Q ((2 ^ P - 1) ^^^ s)) (2 ^ P))) := by
  have h2 : 2 ^ P ≤ 2 ^ 10 := Nat.pow_le_pow_right (by decide) hP
  have h1 : 0 < 2 ^ P := Nat.two_pow_pos P
  unfold E_X4_leastSet
  have e := xlim_of (step := S_X4_leastSet_4 (nI (2 ^ P - 1)) g) (fun j => (zO (zLs (fun s => ¬ Q ((2 ^ P - 1) ^^^ s)) j), nI j)) (2 ^ P) (e := zO (zLs (fun s => ¬ Q ((2 ^ P - 1) ^^^ s)) (2 ^ P))) (fun j hj => ?_) ?_
  · rw [show ((-1 : Int32), (0 : Int32)) = (zO (zLs (fun s => ¬ Q ((2 ^ P - 1) ^^^ s)) 0), nI 0) from rfl, e, xb1_some]
  · have hx : (2 ^ P - 1) ^^^ j < 2 ^ 10 := Nat.xor_lt_two_pow (by omega) (by omega)
    unfold S_X4_leastSet_4
    have nlt : ¬ nI (2 ^ P - 1) < nI j := by rw [nI_ltI (by omega) (by omega)]; omega
    simp only [if_neg nlt, nI_xor, xat_nI (show (2 ^ P - 1) ^^^ j < 1024 by omega) (show 1024 < 2 ^ 31 by decide)]
    unfold K_X4_leastSet_27
    have z := h.zero (show (2 ^ P - 1) ^^^ j < 1024 by omega)
    rw [nI_1]
    by_cases c : Q ((2 ^ P - 1) ^^^ j)
    · rw [if_neg (show ¬ xI g 89 ((2 ^ P - 1) ^^^ j) = 0 from fun y => z.mp y c), if_pos rfl]
      have : zLs (fun s => ¬ Q ((2 ^ P - 1) ^^^ s)) (j + 1) = zLs (fun s => ¬ Q ((2 ^ P - 1) ^^^ s)) j := by
        conv => lhs; unfold zLs
        exact if_neg (fun y => y c)
      rw [this]
    · rw [if_pos (z.mpr c), if_neg (show ¬ (1 : Int32) = 0 by decide)]
      have u : zLs (fun s => ¬ Q ((2 ^ P - 1) ^^^ s)) (j + 1) = (match zLs (fun s => ¬ Q ((2 ^ P - 1) ^^^ s)) j with
        | none => some j
        | some b => if yPop b ≤ yPop j then some b else some j) := by
        conv => lhs; unfold zLs
        exact if_pos c
      rw [u]
      cases e : zLs (fun s => ¬ Q ((2 ^ P - 1) ^^^ s)) j with
      | none => exact if_pos rfl
      | some b =>
        have hb := zLs_lt j b e
        obtain ⟨b1, b2, b3, b4⟩ := r_bci10 b (by omega)
        obtain ⟨j1, j2, -, -⟩ := r_bci10 j (by omega)
        show (if nI b = -1 then _ else if xbci (nI b) ≤ xbci (nI j) then some (Sum.inl (nI b, nI (j + 1))) else some (Sum.inl (nI j, nI (j + 1)))) = _
        rw [if_neg b3, b1, j1]
        by_cases d : yPop b ≤ yPop j
        · rw [if_pos (nI_le d (by omega))]; simp only [if_pos d]; rfl
        · rw [if_neg (nI_ge (show yPop j < yPop b by omega) (by omega))]; simp only [if_neg d]; rfl
  · unfold S_X4_leastSet_4
    have lt : nI (2 ^ P - 1) < nI (2 ^ P) := by rw [nI_ltI (by omega) (by omega)]; omega
    exact if_pos lt
theorem r_fewestPairs (hn : n ≤ 5) (hc : c ≤ 120) (h2 : xI g 76 2 = nI c) (h3 : xI g 76 3 = nI n) (hm : ∀ i, i < c → mk i < 2 ^ 30) (hr : ∀ i, i < c → xI g 77 i = nI (mk i) ∧ xI g 78 i = γ i) : ∃ g', E_X4_fewestPairs g = some (zO (zLs (fun s => ¬ zV (zBs (fun i j => zXr (mk i ^^^ mk j)) γ c) (n * (n - 1) / 2) ((2 ^ (n * (n - 1) / 2) - 1) ^^^ s)) (2 ^ (n * (n - 1) / 2))), g') ∧ yAg d89 g g' ∧ xL g' = xL g := by
  have hP := (yPs_3 n (by omega)).2.2
  have hF : ∀ g1, yAg d89 g g1 → F_X8_pairs g1 = nI (n * (n - 1) / 2) := fun g1 y => by
    unfold F_X8_pairs
    rw [y.2 76 3 (by unfold d89; omega), h3, r_pairs8 n (by omega)]
  generalize n * (n - 1) / 2 = P at hP hF
  have yR : yAg d89 g (xRowI g 89 (fun j => if j < 1024 then 0 else xI g 89 j)) := ⟨rfl, fun o k hk => congrFun (xI_RowI_ne g _ (fun e => hk e)) k⟩
  have z0 : zB (xRowI g 89 (fun j => if j < 1024 then 0 else xI g 89 j)) 89 1024 (zBs (fun i j => zXr (mk i ^^^ mk j)) γ 0) := fun s hs => by
    rw [xI_RowI, if_pos rfl, if_pos hs]
    exact ⟨Or.inl rfl, fun z => absurd z (by decide), fun ⟨i, j, h, _⟩ => absurd h (by omega)⟩
  obtain ⟨g1, r1, r2, r3, r4⟩ := r_fp10 hc h2 hm hr c 0 _ (by omega) yR rfl z0
  obtain ⟨g2, s1, s2, s3, s4⟩ := r_fp103 (g := g) (Q := zBs (fun i j => zXr (mk i ^^^ mk j)) γ c) hP hF P 0 g1 (by omega) r2 r3 r4
  refine ⟨g2, ?_, s2, s3⟩
  unfold E_X4_fewestPairs E_X7_fill
  rw [xb1_some, show ((0 : Int32), xRowI g 89 (fun j => if j < 1024 then 0 else xI g 89 j)) = (nI 0, xRowI g 89 (fun j => if j < 1024 then 0 else xI g 89 j)) from rfl, r1, xb1_some, show ((0 : Int32), g1) = (nI 0, g1) from rfl, s1, xb1_some, hF g2 s2, r_all8 P (by omega), r_leastC hP s4, xb1_some]
theorem r_bitsOf2 {x : Nat} (hx : x < 2 ^ 31) : E_X12_bitsOf (nI x) g = some (nI (yPop x)) := by
  unfold E_X12_bitsOf
  have e := xlim_of (step := S_X12_bitsOf_4 (nI x) g) (fun j => (nI (ySum (fun t => if x.testBit t then 1 else 0) j), nI j)) 31 (e := nI (yPop x)) (fun j hj => ?_) ?_
  · rw [show ((0 : Int32), (0 : Int32)) = (nI (ySum (fun t => if x.testBit t then 1 else 0) 0), nI 0) from rfl, e, xb1_some]
  · unfold S_X12_bitsOf_4
    have h31 : ¬ (31 : Int32) ≤ nI j := by rw [show (31 : Int32) = nI 31 from rfl]; exact nI_ge hj (by decide)
    simp only [if_neg h31, r_bitG hx (show j < 32 by omega), nI_1]
    show some (Sum.inl (nI (ySum (fun t => if x.testBit t then 1 else 0) j) + (if x.testBit j then 1 else 0), nI (j + 1))) = some (Sum.inl (nI (ySum (fun t => if x.testBit t then 1 else 0) j + (if x.testBit j then 1 else 0)), nI (j + 1)))
    by_cases q : x.testBit j = true
    · rw [if_pos q, if_pos q, nI_1]
    · rw [if_neg q, if_neg q, Int32.add_zero]; rfl
  · unfold S_X12_bitsOf_4
    exact if_pos (show (31 : Int32) ≤ nI 31 by decide)
def d164 (o k : Nat) : Prop := o = 164
theorem r_ao37 (hP : P ≤ 10) : ∀ m s g1, m + s = 2 ^ P → yAg d164 g g1 → xL g1 = xL g → (∀ x, x < s → xI g1 164 x = 0) → ∃ g', xlim (S_X12_atOnce_37 (nI (2 ^ P - 1))) (nI s, g1) = some g' ∧ yAg d164 g g' ∧ xL g' = xL g ∧ ∀ x, x < 2 ^ P → xI g' 164 x = 0 := by
  have h2 : 2 ^ P ≤ 2 ^ 10 := Nat.pow_le_pow_right (by decide) hP
  have h1 : 0 < 2 ^ P := Nat.two_pow_pos P
  intro m
  induction m with
  | zero =>
    intro s g1 hs y hL z
    refine ⟨g1, xlim_end ?_, y, hL, fun x hx => z x (by omega)⟩
    unfold S_X12_atOnce_37
    exact if_pos (by rw [nI_ltI (by omega) (by omega)]; omega)
  | succ m ih =>
    intro s g1 hs y hL z
    have nlt : ¬ nI (2 ^ P - 1) < nI s := by rw [nI_ltI (by omega) (by omega)]; omega
    have st : S_X12_atOnce_37 (nI (2 ^ P - 1)) (nI s, g1) = some (.inl (nI (s + 1), xWI g1 164 s 0)) := by
      unfold S_X12_atOnce_37
      simp only [if_neg nlt]
      rw [xck_nI (by omega) (by decide), nI_clamp (by omega), nI_1]
    rw [xlim_go st]
    refine ih (s + 1) _ (by omega) (y.wi rfl) hL (fun x hx => ?_)
    rw [yI_wi]
    by_cases d : x = s
    · rw [if_pos ⟨rfl, d⟩]
    · rw [if_neg (fun z => d z.2)]; exact z x (by omega)
set_option maxRecDepth 100000 in
theorem r_notX : ∀ P, P < 11 → ∀ X, X < 2 ^ P → nI (2 ^ P - 1) &&& (nI X ^^^ (-1)) = nI ((2 ^ P - 1) ^^^ X) := by decide +kernel
/-- what is not asked: the pairs by which i and j are alike -/
def zRs (X : Nat → Nat → Nat) (ρ : Nat → Nat) (P c s : Nat) : Prop := ∃ i j, i < c ∧ j < i ∧ ρ i ≠ ρ j ∧ (2 ^ P - 1) ^^^ X i j = s
theorem zX_lt2 {i j : Nat} (hn : n ≤ 5) : zX n w L i j < 2 ^ (n * (n - 1) / 2) := Nat.lt_pow_two_of_testBit _ fun p hp => Bool.eq_false_iff.mpr fun z => by have := zX_lt hn z; omega
theorem r_ao73 {ρ : Nat → Nat} (ho : I_orders g n w) (q : yLR g L) (hi : yIn n w L) (hp : zPa g n (n * (n - 1) / 2)) (hρ : ∀ j, j < L.length → xI g 146 j = nI (ρ j) ∧ ρ j < 100000) {i : Nat} (hI : i < L.length) : ∀ m j g1, m + j = i → yAg d164 g g1 → xL g1 = xL g → zB g1 164 (2 ^ (n * (n - 1) / 2)) (fun s => zRs (zX n w L) ρ (n * (n - 1) / 2) i s ∨ ∃ j', j' < j ∧ ρ i ≠ ρ j' ∧ (2 ^ (n * (n - 1) / 2) - 1) ^^^ zX n w L i j' = s) → ∃ g', xlim (S_X12_atOnce_73 (nI (2 ^ (n * (n - 1) / 2) - 1)) (nI i)) (nI j, g1) = some g' ∧ yAg d164 g g' ∧ xL g' = xL g ∧ zB g' 164 (2 ^ (n * (n - 1) / 2)) (zRs (zX n w L) ρ (n * (n - 1) / 2) (i + 1)) := by
  have hn := ho.1
  have hl := hi.1
  have hP := (yPs_3 n (by omega)).2.2
  have h2 : 2 ^ (n * (n - 1) / 2) ≤ 2 ^ 10 := Nat.pow_le_pow_right (by decide) hP
  intro m
  induction m with
  | zero =>
    intro j g1 hj y hL z
    have : j = i := by omega
    subst this
    refine ⟨g1, xlim_end ?_, y, hL, z.congr fun s _ => ⟨fun h => ?_, fun ⟨x, x', h1, h2, h3, h4⟩ => ?_⟩⟩
    · unfold S_X12_atOnce_73
      exact if_pos (nI_le (Nat.le_refl _) (by omega))
    · rcases h with ⟨x, x', h1, h2, h3⟩ | ⟨x, h1, h2⟩
      · exact ⟨x, x', by omega, h2, h3⟩
      · exact ⟨j, x, by omega, h1, h2⟩
    · by_cases d : x = j
      · subst d; exact Or.inr ⟨x', h2, h3, h4⟩
      · exact Or.inl ⟨x, x', by omega, h2, h3, h4⟩
  | succ m ih =>
    intro j g1 hj y hL z
    have f : ∀ o k, o ≠ 164 → xI g1 o k = xI g o k := fun o k ho => y.2 o k ho
    obtain ⟨a1, a2⟩ := hρ i hI
    obtain ⟨b1, b2⟩ := hρ j (by omega)
    have ho1 : I_orders g1 n w := ho.ag y (by unfold d164; omega) (by unfold d164; omega) (by unfold d164; omega) (fun o k m => by simp only [List.mem_cons, List.not_mem_nil, or_false] at m; unfold d164; omega)
    have q1 : yLR g1 L := q.gl y (by unfold d164; omega) (fun k => by unfold d164; omega)
    have hp1 : zPa g1 n (n * (n - 1) / 2) := ⟨(f 113 59 (by decide)).trans hp.1, fun x y h1 h2 h3 => ⟨(f 150 _ (by decide)).trans (hp.2 x y h1 h2 h3).1, (f 151 _ (by decide)).trans (hp.2 x y h1 h2 h3).2⟩⟩
    by_cases d : ρ i = ρ j
    · have st : S_X12_atOnce_73 (nI (2 ^ (n * (n - 1) / 2) - 1)) (nI i) (nI j, g1) = some (.inl (nI (j + 1), g1)) := by
        unfold S_X12_atOnce_73
        simp only [if_neg (nI_ge (show j < i by omega) (show i < 2 ^ 31 by omega)), xck_nI (show i < 541 by omega) (show 541 < 2 ^ 31 by decide), xck_nI (show j < 541 by omega) (show 541 < 2 ^ 31 by decide), nI_clamp (show i < 2 ^ 31 by omega), nI_clamp (show j < 2 ^ 31 by omega), f 146 i (by decide), f 146 j (by decide), a1, b1, d, nI_1]
        exact if_pos trivial
      rw [xlim_go st]
      refine ih (j + 1) g1 (by omega) y hL (z.congr fun s _ => ?_)
      refine or_congr Iff.rfl ⟨fun ⟨x, h1, h2⟩ => ⟨x, by omega, h2⟩, fun ⟨x, h1, h2, h3⟩ => ?_⟩
      by_cases e : x = j
      · subst e; exact absurd d h2
      · exact ⟨x, by omega, h2, h3⟩
    · have ne : ¬ nI (ρ i) = nI (ρ j) := fun z => d ((nI_eq (by omega) (by omega)).mp z)
      have hx := zX_lt2 (w := w) (L := L) (i := i) (j := j) hn
      have hy : (2 ^ (n * (n - 1) / 2) - 1) ^^^ zX n w L i j < 2 ^ (n * (n - 1) / 2) := Nat.xor_lt_two_pow (by omega) hx
      have st : S_X12_atOnce_73 (nI (2 ^ (n * (n - 1) / 2) - 1)) (nI i) (nI j, g1) = some (.inl (nI (j + 1), xWI g1 164 ((2 ^ (n * (n - 1) / 2) - 1) ^^^ zX n w L i j) 1)) := by
        unfold S_X12_atOnce_73
        simp only [if_neg (nI_ge (show j < i by omega) (show i < 2 ^ 31 by omega)), xck_nI (show i < 541 by omega) (show 541 < 2 ^ 31 by decide), xck_nI (show j < 541 by omega) (show 541 < 2 ^ 31 by decide), nI_clamp (show i < 2 ^ 31 by omega), nI_clamp (show j < 2 ^ 31 by omega), f 146 i (by decide), f 146 j (by decide), a1, b1, if_neg ne, nI_1, r_unlikeBy ho1 q1 hi hp1 hI (show j < L.length by omega), xb1_some, r_notX _ (show n * (n - 1) / 2 < 11 by omega) _ hx]
        rw [xck_nI (by omega) (by decide), nI_clamp (by omega)]
      rw [xlim_go st]
      refine ih (j + 1) _ (by omega) (y.wi rfl) hL (z.put.congr fun s _ => ?_)
      rw [or_assoc]
      refine or_congr Iff.rfl ⟨fun h => ?_, fun ⟨x, h1, h2, h3⟩ => ?_⟩
      · rcases h with ⟨x, h1, h2⟩ | h
        · exact ⟨x, by omega, h2⟩
        · exact ⟨j, by omega, d, h.symm⟩
      · by_cases e : x = j
        · subst e; exact Or.inr h3.symm
        · exact Or.inl ⟨x, by omega, h2, h3⟩
theorem r_ao61 {ρ : Nat → Nat} (ho : I_orders g n w) (q : yLR g L) (hi : yIn n w L) (hp : zPa g n (n * (n - 1) / 2)) (hρ : ∀ j, j < L.length → xI g 146 j = nI (ρ j) ∧ ρ j < 100000) : ∀ m i g1, m + i = L.length → yAg d164 g g1 → xL g1 = xL g → zB g1 164 (2 ^ (n * (n - 1) / 2)) (zRs (zX n w L) ρ (n * (n - 1) / 2) i) → ∃ g', xlim (S_X12_atOnce_61 (nI (2 ^ (n * (n - 1) / 2) - 1))) (nI i, g1) = some g' ∧ yAg d164 g g' ∧ xL g' = xL g ∧ zB g' 164 (2 ^ (n * (n - 1) / 2)) (zRs (zX n w L) ρ (n * (n - 1) / 2) L.length) := by
  have hl := hi.1
  intro m
  induction m with
  | zero =>
    intro i g1 hm y hL z
    have : i = L.length := by omega
    subst this
    refine ⟨g1, xlim_end ?_, y, hL, z⟩
    unfold S_X12_atOnce_61
    simp only [(y.2 113 53 (by unfold d164; omega)).trans q.1]
    exact if_pos (nI_le (Nat.le_refl _) (by omega))
  | succ m ih =>
    intro i g1 hm y hL z
    obtain ⟨g2, r1, r2, r3, r4⟩ := r_ao73 ho q hi hp hρ (show i < L.length by omega) i 0 g1 (by omega) y hL (z.congr fun s _ => ⟨Or.inl, fun h => h.elim id (fun ⟨x, h1, _⟩ => absurd h1 (by omega))⟩)
    have st : S_X12_atOnce_61 (nI (2 ^ (n * (n - 1) / 2) - 1)) (nI i, g1) = some (.inl (nI (i + 1), g2)) := by
      unfold S_X12_atOnce_61
      simp only [(y.2 113 53 (by unfold d164; omega)).trans q.1, if_neg (nI_ge (show i < L.length by omega) (show L.length < 2 ^ 31 by omega)), nI_1]
      rw [show ((0 : Int32), g1) = (nI 0, g1) from rfl, r1, xb1_some]
    rw [xlim_go st]
    exact ih (i + 1) g2 (by omega) r2 r3 r4
end OO
