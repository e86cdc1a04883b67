/-! with one lie: the reference's rounds -/
section LB
variable {g g' : xSt} {β n w c o M P N k : Nat} {L : List Nat} {mk ρ : Nat → Nat} {al good : Nat → Prop}
def d165 (o k : Nat) : Prop := o = 165
def zLR (g : xSt) (n w : Nat) (L : List Nat) (β : Nat) (ρ : Nat → Nat) : Prop := I_orders g n w ∧ yLR g L ∧ zPa g n (n * (n - 1) / 2) ∧ (xI g 113 30 = nI β ∧ β ≤ 1) ∧ xI g 121 β = nI w ∧ ∀ j, j < L.length → xI g 146 j = nI (ρ j) ∧ ρ j < 100000
theorem zLR.ag (h : zLR g n w L β ρ) (y : yAg d165 g g') : zLR g' n w L β ρ := by
  obtain ⟨h1, h2, h3, h4, h5, h6⟩ := h
  exact ⟨h1.ag y (by unfold d165; omega) (by unfold d165; omega) (by unfold d165; omega) (fun o k m => by simp only [List.mem_cons, List.not_mem_nil, or_false] at m; unfold d165; omega), h2.gl y (by unfold d165; omega) (fun k => by unfold d165; omega), ⟨(y.2 113 59 (by unfold d165; omega)).trans h3.1, fun x y' a b c => ⟨(y.2 150 _ (by unfold d165; omega)).trans (h3.2 x y' a b c).1, (y.2 151 _ (by unfold d165; omega)).trans (h3.2 x y' a b c).2⟩⟩, ⟨(y.2 113 30 (by unfold d165; omega)).trans h4.1, h4.2⟩, (y.2 121 β (by unfold d165; omega)).trans h5, fun j hj => ⟨(y.2 146 j (by unfold d165; omega)).trans (h6 j hj).1, (h6 j hj).2⟩⟩
def zs0 (w : Nat) : Nat := if w = 0 then 1 else 0
def zGd (g : xSt) (good : Nat → Prop) (k r : Nat) : Prop := (r = 0 → good r) ∧ (r ≠ 0 → (xI g 165 r = -1 ∧ ¬ good r) ∨ ∃ v, v ≤ 13 ∧ xI g 165 r = nI v ∧ (good r ↔ v < k))
theorem zBh_lt {t st : Nat} : zBh c t st < 3 ^ c := ySum_lt3 (zBd_lt t st) c
theorem r_cb32 {st p : Nat} (h : zLR g n w L β ρ) (hi : yIn n w L) (hc : L.length ≤ 6) (hm : ∀ i, i < L.length → mk i = yMk n (yPv n w L i)) (hst : st < 729) (hpp : p < n * (n - 1) / 2) (hk : k ≤ 13) (hG : ∀ r, r < 3 ^ L.length → zGd g good k r) : ∀ m s, m + s = 3 → ((∀ s', s ≤ s' → s' < 3 → good (zBh L.length (zTr mk L.length p s') st)) → xlim (S_X12_canBy_32 (nI st) (nI k) (nI p) g) (1, nI s) = some 1) ∧ ((¬ ∀ s', s ≤ s' → s' < 3 → good (zBh L.length (zTr mk L.length p s') st)) → xlim (S_X12_canBy_32 (nI st) (nI k) (nI p) g) (1, nI s) = some 0) := by
  have pw : 3 ^ L.length ≤ 729 := Nat.pow_le_pow_right (n := 3) (by decide) (show L.length ≤ 6 from hc)
  intro m
  induction m with
  | zero =>
    intro s hs
    have : s = 3 := by omega
    subst this
    refine ⟨fun _ => xlim_end ?_, fun z => absurd (fun s' a b => by omega) z⟩
    unfold S_X12_canBy_32
    exact if_pos (by decide)
  | succ m ih =>
    intro s hs
    have n3 : ¬ (3 : Int32) ≤ nI s := by rw [show (3 : Int32) = nI 3 from rfl]; exact nI_ge (by omega) (by omega)
    have hb := r_behind (st := st) (p := p) (s := s) h.1 h.2.1 hi h.2.2.1 hc hm hst hpp (by omega)
    have rl : zBh L.length (zTr mk L.length p s) st < 3 ^ L.length := zBh_lt
    obtain ⟨q0, q1⟩ := hG _ rl
    have dec : (good (zBh L.length (zTr mk L.length p s) st) ∧ S_X12_canBy_32 (nI st) (nI k) (nI p) g (1, nI s) = some (.inl (1, nI (s + 1)))) ∨ (¬ good (zBh L.length (zTr mk L.length p s) st) ∧ S_X12_canBy_32 (nI st) (nI k) (nI p) g (1, nI s) = some (.inl (0, nI (s + 1)))) := by
      unfold S_X12_canBy_32
      simp only [if_neg n3, if_neg (show ¬ (1 : Int32) = 0 by decide), hb, xb1_some, nI_1]
      generalize zBh L.length (zTr mk L.length p s) st = r at rl q0 q1
      by_cases d : r = 0
      · refine Or.inl ⟨q0 d, ?_⟩
        rw [if_pos (by rw [d]; rfl)]
      · have nr : ¬ nI r = 0 := fun z => d ((nI_eq (by omega) (by decide)).mp (show nI r = nI 0 from z))
        rw [if_neg nr, xck_nI (by omega) (by decide), nI_clamp (by omega)]
        rcases q1 d with ⟨e1, e2⟩ | ⟨v, v1, v2, v3⟩
        · refine Or.inr ⟨e2, ?_⟩
          rw [e1, if_pos (by decide)]
        · rw [v2, if_neg (r_bci10 v (by omega)).2.2.2, xck_nI (by omega) (by decide)]
          by_cases e : v < k
          · refine Or.inl ⟨v3.mpr e, ?_⟩
            rw [if_neg (nI_ge e (by omega))]
          · refine Or.inr ⟨fun z => e (v3.mp z), ?_⟩
            rw [if_pos (nI_le (by omega) (by omega))]
    obtain ⟨i1, i2⟩ := ih (s + 1) (by omega)
    rcases dec with ⟨d1, d2⟩ | ⟨d1, d2⟩
    · rw [xlim_go d2]
      refine ⟨fun z => i1 fun s' a b => z s' (by omega) b, fun z => i2 fun z' => z fun s' a b => ?_⟩
      by_cases e : s' = s
      · rw [e]; exact d1
      · exact z' s' (by omega) b
    · rw [xlim_go d2]
      refine ⟨fun z => absurd (z s (Nat.le_refl _) (by omega)) d1, fun _ => xlim_end ?_⟩
      unfold S_X12_canBy_32
      by_cases e : (3 : Int32) ≤ nI (s + 1)
      · simp only [if_pos e]
      · simp only [if_neg e]
        exact if_pos trivial
theorem r_canBy {st : Nat} (h : zLR g n w L β ρ) (hi : yIn n w L) (hc : L.length ≤ 6) (hm : ∀ i, i < L.length → mk i = yMk n (yPv n w L i)) (hst : st < 729) (hk : k ≤ 13) (hG : ∀ r, r < 3 ^ L.length → zGd g good k r) : ∃ v, E_X12_canBy (nI st) (nI k) g = some v ∧ (v = 0 ∨ v = 1) ∧ (v = 1 ↔ ∃ p, p < n * (n - 1) / 2 ∧ ∀ s, zs0 w ≤ s → s < 3 → good (zBh L.length (zTr mk L.length p s) st)) := by
  have hn := h.1.1
  have hw := h.1.2.1
  have hP := (yPs_3 n (by omega)).2.2
  obtain ⟨⟨hb1, hb2⟩, h121, -⟩ := h.2.2.2
  have s0 : (if nI w = 0 then (1 : Int32) else 0) = nI (zs0 w) := by
    unfold zs0
    by_cases e : w = 0
    · rw [if_pos e, e, if_pos (show nI 0 = 0 from rfl)]; rfl
    · rw [if_neg e, if_neg (show ¬ nI w = 0 from fun z => e ((nI_eq (by omega) (by decide)).mp (show nI w = nI 0 from z)))]; rfl
  have s3 : zs0 w ≤ 3 := by unfold zs0; split <;> decide
  have one : ∀ j, j < n * (n - 1) / 2 → S_X12_canBy_2 (nI st) (nI k) g (nI j) = xb1 (xlim (S_X12_canBy_32 (nI st) (nI k) (nI j) g) (1, nI (zs0 w))) fun e_1 => K_X12_canBy_92 (nI st) (nI k) (nI j) e_1 g := fun j hj => by
    unfold S_X12_canBy_2 K_X12_canBy_30
    rw [h.2.2.1.1, if_neg (nI_ge hj (by omega)), hb1, xck_nI (by omega) (by decide), nI_clamp (by omega), h121, s0]
  unfold E_X12_canBy
  have key := xlim_all (step := S_X12_canBy_2 (nI st) (nI k) g) (p := fun p => ¬ ∀ s, zs0 w ≤ s → s < 3 → good (zBh L.length (zTr mk L.length p s) st)) (v := (1 : Int32)) (N := n * (n - 1) / 2) (fun j hj hp => ?_) (fun j hj hp => ?_) ?_
  · obtain ⟨k1, k2⟩ := key (n * (n - 1) / 2) 0 (by omega)
    by_cases d : ∃ p, p < n * (n - 1) / 2 ∧ ∀ s, zs0 w ≤ s → s < 3 → good (zBh L.length (zTr mk L.length p s) st)
    · refine ⟨1, ?_, Or.inr rfl, fun _ => d, fun _ => rfl⟩
      obtain ⟨p, d1, d2⟩ := d
      rw [show (0 : Int32) = nI 0 from rfl, k2 fun z => z p (Nat.zero_le _) d1 d2]
      rfl
    · refine ⟨0, ?_, Or.inl rfl, fun z => absurd z (by decide), fun z => absurd z d⟩
      rw [show (0 : Int32) = nI 0 from rfl, k1 fun j _ hj z => d ⟨j, hj, z⟩]
      rfl
  · obtain ⟨-, i2⟩ := r_cb32 (st := st) (p := j) h hi hc hm hst hj hk hG (3 - zs0 w) (zs0 w) (by omega)
    rw [one j hj, i2 hp, xb1_some]
    unfold K_X12_canBy_92
    rw [if_pos rfl, nI_1]
  · obtain ⟨i1, -⟩ := r_cb32 (st := st) (p := j) h hi hc hm hst hj hk hG (3 - zs0 w) (zs0 w) (by omega)
    rw [one j hj, i1 (Classical.byContradiction hp), xb1_some]
    unfold K_X12_canBy_92
    rw [if_neg (by decide)]
  · unfold S_X12_canBy_2
    rw [h.2.2.1.1]
    exact if_pos (nI_le (Nat.le_refl _) (by omega))
/-- a row of the table behind K rounds -/
def zGs (mk ρ : Nat → Nat) (n w c j st : Nat) : Prop := zG (zTr mk c) (zAr ρ c) (n * (n - 1) / 2) (zs0 w) j (zCx c st) (zCy c st)
def zRw (mk ρ : Nat → Nat) (n w c K st : Nat) (v : Int32) : Prop := (v = -1 ∧ ∀ j, j ≤ K → ¬ zGs mk ρ n w c j st) ∨ ∃ u, u ≤ K ∧ v = nI u ∧ zGs mk ρ n w c u st ∧ ∀ j, j < u → ¬ zGs mk ρ n w c j st
theorem zGs_le {j j' st : Nat} (h : j ≤ j') (q : zGs mk ρ n w c j st) : zGs mk ρ n w c j' st := by
  have := zG_le q (j' - j)
  rw [show j + (j' - j) = j' by omega] at this
  exact this
theorem zCx_0 : zCx c 0 ||| zCy c 0 = 0 := by
  apply Nat.eq_of_testBit_eq
  intro i
  rw [Nat.zero_testBit]
  refine Bool.eq_false_iff.mpr fun z => (zC_or.mp z).2 ?_
  unfold zdg
  rw [Nat.zero_div]
theorem zGs_0 {j : Nat} : zGs mk ρ n w c j 0 := zG_al (by rw [zCx_0]; intro a b _ _ h; rw [Nat.zero_testBit] at h; exact absurd h (by decide))
/-- rows of this round or the last tell the game of the last -/
theorem zRw_gd {r : Nat} (hk : k ≤ 12) (h : zRw mk ρ n w c k r (xI g 165 r) ∨ zRw mk ρ n w c (k + 1) r (xI g 165 r)) : zGd g (fun r => zGs mk ρ n w c k r) (k + 1) r := by
  refine ⟨fun e => by rw [e]; exact zGs_0, fun _ => ?_⟩
  rcases h with (⟨h1, h2⟩ | ⟨u, h1, h2, h3, h4⟩) | (⟨h1, h2⟩ | ⟨u, h1, h2, h3, h4⟩)
  · exact Or.inl ⟨h1, h2 k (Nat.le_refl _)⟩
  · exact Or.inr ⟨u, by omega, h2, fun _ => by omega, fun _ => zGs_le h1 h3⟩
  · exact Or.inl ⟨h1, h2 k (by omega)⟩
  · exact Or.inr ⟨u, by omega, h2, fun z => Classical.byContradiction fun e => h4 k (by omega) z, fun z => zGs_le (by omega) h3⟩
theorem zGs_succ {st : Nat} (hc : c ≤ 6) : zGs mk ρ n w c (k + 1) st ↔ (zAr ρ c (zCx c st ||| zCy c st) ∨ ∃ p, p < n * (n - 1) / 2 ∧ ∀ s, zs0 w ≤ s → s < 3 → zGs mk ρ n w c k (zBh c (zTr mk c p s) st)) := by
  have e : ∀ p s, zGs mk ρ n w c k (zBh c (zTr mk c p s) st) ↔ zG (zTr mk c) (zAr ρ c) (n * (n - 1) / 2) (zs0 w) k (zCx c st &&& zTr mk c p s) (zLy (zTr mk c p s) (zCx c st) (zCy c st)) := fun p s => by
    obtain ⟨e1, e2⟩ := zBh_x (t := zTr mk c p s) (st := st) hc
    unfold zGs
    rw [e1, e2]
  simp only [e]
  exact Iff.rfl
theorem r_tr136 (h : zLR g n w L β ρ) (hi : yIn n w L) (hc : L.length ≤ 6) (hm : ∀ i, i < L.length → mk i = yMk n (yPv n w L i)) (hk : k < 12) {a5 : Int32} : ∀ m st g1, m + st = 3 ^ L.length → yAg d165 g g1 → (∀ r, r < 3 ^ L.length → zRw mk ρ n w L.length (if r < st then k + 1 else k) r (xI g1 165 r)) → ∃ g', xlim (S_X12_trusty_136 (nI (3 ^ L.length)) a5 (nI (k + 1))) (nI st, g1) = some g' ∧ yAg d165 g g' ∧ ∀ r, r < 3 ^ L.length → zRw mk ρ n w L.length (k + 1) r (xI g' 165 r) := by
  have pw : 3 ^ L.length ≤ 729 := Nat.pow_le_pow_right (n := 3) (by decide) (show L.length ≤ 6 from hc)
  intro m
  induction m with
  | zero =>
    intro st g1 hm' y z
    refine ⟨g1, xlim_end ?_, y, fun r hr => by have := z r hr; rw [if_pos (by omega)] at this; exact this⟩
    unfold S_X12_trusty_136
    exact if_pos (nI_le (by omega) (by omega))
  | succ m ih =>
    intro st g1 hm' y z
    have hst : st < 3 ^ L.length := by omega
    have next : ∀ g2 : xSt, zRw mk ρ n w L.length (k + 1) st (xI g2 165 st) → (∀ r, r ≠ st → xI g2 165 r = xI g1 165 r) → ∀ r, r < 3 ^ L.length → zRw mk ρ n w L.length (if r < st + 1 then k + 1 else k) r (xI g2 165 r) := fun g2 a b r hr => by
      by_cases e : r = st
      · subst e; rw [if_pos (by omega)]; exact a
      · rw [b r e]
        have := z r hr
        by_cases f : r < st
        · rw [if_pos f] at this; rw [if_pos (by omega)]; exact this
        · rw [if_neg f] at this; rw [if_neg (by omega)]; exact this
    have zs := z st hst
    rw [if_neg (by omega)] at zs
    have nle : ¬ nI (3 ^ L.length) ≤ nI st := nI_ge hst (by omega)
    rcases zs with ⟨s1, s2⟩ | ⟨u, s1, s2, s3, s4⟩
    · have al0 : ¬ zAr ρ L.length (zCx L.length st ||| zCy L.length st) := s2 0 (by omega)
      obtain ⟨v, v1, v2, v3⟩ := r_canBy (g := g1) (good := fun r => zGs mk ρ n w L.length k r) (st := st) (k := k + 1) (h.ag y) hi hc hm (by omega) (by omega) (fun r hr => zRw_gd (by omega) (by
        have := z r hr
        by_cases f : r < st
        · rw [if_pos f] at this; exact Or.inr this
        · rw [if_neg f] at this; exact Or.inl this))
      rcases v2 with rfl | rfl
      · have ng : ¬ zGs mk ρ n w L.length (k + 1) st := fun q => by
          rcases (zGs_succ hc).mp q with q | q
          · exact al0 q
          · exact absurd (v3.mpr q) (by decide)
        have st1 : S_X12_trusty_136 (nI (3 ^ L.length)) a5 (nI (k + 1)) (nI st, g1) = some (.inl (nI (st + 1), g1)) := by
          unfold S_X12_trusty_136
          simp only [if_neg nle, xck_nI (show st < 729 by omega) (show 729 < 2 ^ 31 by decide), nI_clamp (show st < 2 ^ 31 by omega), s1, v1, xb1_some, nI_1]
          rw [if_neg (by decide), if_pos trivial]
        rw [xlim_go st1]
        refine ih (st + 1) g1 (by omega) y (next g1 (Or.inl ⟨s1, fun j hj => ?_⟩) (fun _ _ => rfl))
        by_cases e : j = k + 1
        · rw [e]; exact ng
        · exact s2 j (by omega)
      · have yg : zGs mk ρ n w L.length (k + 1) st := (zGs_succ hc).mpr (Or.inr (v3.mp rfl))
        have st1 : S_X12_trusty_136 (nI (3 ^ L.length)) a5 (nI (k + 1)) (nI st, g1) = some (.inl (nI (st + 1), xWI g1 165 st (nI (k + 1)))) := by
          unfold S_X12_trusty_136
          simp only [if_neg nle, xck_nI (show st < 729 by omega) (show 729 < 2 ^ 31 by decide), nI_clamp (show st < 2 ^ 31 by omega), s1, v1, xb1_some, nI_1]
          rw [if_neg (by decide), if_neg (by decide)]
        rw [xlim_go st1]
        exact ih (st + 1) _ (by omega) (y.wi rfl) (next _ (Or.inr ⟨k + 1, Nat.le_refl _, by rw [yI_wi, if_pos ⟨rfl, rfl⟩], yg, fun j hj => s2 j (by omega)⟩) (fun r hr => by rw [yI_wi, if_neg (fun q => hr q.2)]))
    · have st1 : S_X12_trusty_136 (nI (3 ^ L.length)) a5 (nI (k + 1)) (nI st, g1) = some (.inl (nI (st + 1), g1)) := by
        unfold S_X12_trusty_136
        simp only [if_neg nle, xck_nI (show st < 729 by omega) (show 729 < 2 ^ 31 by decide), nI_clamp (show st < 2 ^ 31 by omega), s2, nI_1]
        exact if_pos (show (0 : Int32) ≤ nI u by rw [show (0 : Int32) = nI 0 from rfl]; exact nI_le (by omega) (by omega))
      rw [xlim_go st1]
      exact ih (st + 1) g1 (by omega) y (next g1 (Or.inr ⟨u, by omega, s2, s3, s4⟩) (fun _ _ => rfl))
end LB
