/-! THE SEARCH: what the loaded orders are like -/
section HY
variable {n w P c k f x0 x u0 : Nat} {mk : Nat → Nat} {γ : Nat → Int32} {S S' : Nat → Bool} {V : Nat → Nat} {J a1 a2 : Int32}
/-- pair p' is as good as pair p for a set -/
def zSm (P c : Nat) (mk : Nat → Nat) (γ : Nat → Int32) (S : Nat → Bool) (p p' : Nat) : Prop := (∀ k, (∀ s, s < 3 → zCan P c mk γ k (zPt mk S p s)) → ∀ s, s < 3 → zCan P c mk γ k (zPt mk S p' s)) ∧ ∀ t : Nat → Nat, (∀ s, s < 3 → ∃ f, zTot P c mk γ f (t s) (zPt mk S p s)) → ∃ t' : Nat → Nat, t' 0 + t' 1 + t' 2 = t 0 + t 1 + t 2 ∧ ∀ s, s < 3 → ∃ f, zTot P c mk γ f (t' s) (zPt mk S p' s)
theorem zSm_refl {p : Nat} : zSm P c mk γ S p p := ⟨fun _ q => q, fun t q => ⟨t, rfl, q⟩⟩
theorem zSm_tr {p q r : Nat} (h1 : zSm P c mk γ S p q) (h2 : zSm P c mk γ S q r) : zSm P c mk γ S p r := ⟨fun k z => h2.1 k (h1.1 k z), fun t z => by
  obtain ⟨t1, e1, z1⟩ := h1.2 t z
  obtain ⟨t2, e2, z2⟩ := h2.2 t1 z1
  exact ⟨t2, e2.trans e1, z2⟩⟩
theorem zSm_of {ρ : Nat → Nat} {p p' : Nat} (h : zMp P c mk γ ρ) (hS : ∀ i, i < c → S i = true → S (ρ i) = true) {σ : Nat → Nat} (hσ : ∀ s, s < 3 → σ s < 3 ∧ ∀ i, i < c → (mk i).testBit (10 * s + p') = true → (mk (ρ i)).testBit (10 * σ s + p) = true) (ht : ∀ t : Nat → Nat, t (σ 0) + t (σ 1) + t (σ 2) = t 0 + t 1 + t 2) : zSm P c mk γ S p p' := by
  have sub : ∀ s, s < 3 → ∀ i, i < c → zPt mk S p' s i = true → zPt mk S p (σ s) (ρ i) = true := fun s hs i hi z => zPt_bit.mpr ⟨hS i hi (zPt_bit.mp z).1, (hσ s hs).2 i hi (zPt_bit.mp z).2⟩
  refine ⟨fun k q s hs => zCan_map h k _ _ (sub s hs) (q (σ s) (hσ s hs).1), fun t q => ⟨fun s => t (σ s), ht t, fun s hs => ?_⟩⟩
  obtain ⟨f, z⟩ := q (σ s) (hσ s hs).1
  exact ⟨f, zTot_map h f _ _ _ (sub s hs) z⟩
/-! orders loaded -/
/-- V's orders, all unlike, with their marks -/
def zVo (n w c : Nat) (mk V : Nat → Nat) : Prop := (∀ i, i < c → ∃ o, o < yN n w ∧ V i = yOr n w o) ∧ (∀ i, i < c → mk i = yMk n (V i)) ∧ ∀ i j, i < c → j < c → (∀ t, t < n → yDg (V i) t = yDg (V j) t) → i = j
theorem zVo_bit (hn : n ≤ 5) (hw : w ≤ 1) (h : zVo n w c mk V) {i a b s : Nat} (hi : i < c) (hab : a < b) (hb : b < n) (hs : s < 3) : (mk i).testBit (10 * s + yPr n a b) = true ↔ ySf (yDg (V i)) a b = s := by
  obtain ⟨o, ho, e⟩ := h.1 i hi
  have := (yOr_chk hn hw ho).2.2.2 a b s (by omega) hb (by omega) hs
  rw [h.2.1 i hi, e]
  have eb : yBit n a b s = 10 * s + yPr n a b := by unfold yBit; rw [if_pos (Or.inr hab)]
  rw [← eb]
  exact this
theorem zVo_od (h : zVo n w c mk V) {i : Nat} (hi : i < c) : zOd n w (yDg (V i)) := by
  obtain ⟨o, ho, e⟩ := h.1 i hi
  rw [e]
  exact zOd_or ho
theorem zVo_one (hn : n ≤ 5) (hw : w ≤ 1) (h : zVo n w c mk V) : zOne (n * (n - 1) / 2) c mk := fun i hi p hp => by
  obtain ⟨a, ha, b, hb, hab, e⟩ := yPr_on n (by omega) p hp
  subst e
  refine ⟨ySf (yDg (V i)) a b, by have := ySf_le (yDg (V i)) a b; omega, fun s' hs' => ?_⟩
  rw [zVo_bit hn hw h hi hab hb hs']
  exact ⟨fun z => z.symm, fun z => z.symm⟩
theorem zVo_dif (hn : n ≤ 5) (hw : w ≤ 1) (h : zVo n w c mk V) : zDif (n * (n - 1) / 2) c mk γ := fun i j hi hj q => by
  have e : i = j := h.2.2 i j hi hj fun t ht => zOd_sf (zVo_od h hi) (zVo_od h hj) (fun a b hab hb => by
    have pl := (yPs_1 n (by omega) a (by omega) b hb hab)
    have := (q (yPr n a b) (by rw [← pl.1]; exact pl.2.2) (ySf (yDg (V i)) a b) (by have := ySf_le (yDg (V i)) a b; omega)).mp ((zVo_bit hn hw h hi hab hb (by have := ySf_le (yDg (V i)) a b; omega)).mpr rfl)
    exact ((zVo_bit hn hw h hj hab hb (by have := ySf_le (yDg (V i)) a b; omega)).mp this).symm) ht
  rw [e]
/-- all orders are there that say the same of the sure pairs as one that is there -/
def zFu (n w c : Nat) (V : Nat → Nat) (x0 : Nat) : Prop := ∀ D, zOd n w D → ∀ i, i < c → (∀ a b, a < b → b < n → x0.testBit (yPr n a b) = true → ySf D a b = ySf (yDg (V i)) a b) → ∃ j, j < c ∧ ∀ t, t < n → yDg (V j) t = D t
theorem ySf_cg {d d' : Nat → Nat} {a b : Nat} (ha : d a = d' a) (hb : d b = d' b) : ySf d a b = ySf d' a b := by unfold ySf; rw [ha, hb]
theorem zFull (hn : n ≤ 5) (hw : w ≤ 1) (h : zVo n w c mk V) (hF : zFu n w c V x0) (hc : zCl (n * (n - 1) / 2) c mk x0 x S) {D : Nat → Nat} (hD : zOd n w D) {i : Nat} (hi : i < c) (si : S i = true) (q : ∀ a b, a < b → b < n → x.testBit (yPr n a b) = true → ySf D a b = ySf (yDg (V i)) a b) : ∃ j, j < c ∧ S j = true ∧ ∀ t, t < n → yDg (V j) t = D t := by
  obtain ⟨c1, c2, τ, c3, c4⟩ := hc
  obtain ⟨j, hj, e⟩ := hF D hD i hi fun a b hab hb z => by
    have pl := yPs_1 n (by omega) a (by omega) b hb hab
    exact q a b hab hb (c2 _ (by rw [← pl.1]; exact pl.2.2) z)
  refine ⟨j, hj, (c4 j hj).mpr fun p hp z => ?_, e⟩
  have b1 := (c4 i hi).mp si p hp z
  obtain ⟨a, ha, b, hb, hab, ep⟩ := yPr_on n (by omega) p hp
  subst ep
  rw [zVo_bit hn hw h hi hab hb (c3 _ hp)] at b1
  rw [zVo_bit hn hw h hj hab hb (c3 _ hp), ← b1, ← q a b hab hb z]
  exact ySf_cg (e a (by omega)) (e b hb)
/-! goals -/
theorem yDec_cg {v v' : Nat} : ∀ m, (∀ t, t < m → yDg v t = yDg v' t) → yDec v m = yDec v' m := by
  intro m
  induction m with
  | zero => intro _; rfl
  | succ m ih => intro h; show 10 * yDec v m + yDg v m = 10 * yDec v' m + yDg v' m; rw [ih fun t ht => h t (by omega), h m (by omega)]
theorem yDec_dg {v v' : Nat} : ∀ m, (∀ t, t < m → yDg v t < 10 ∧ yDg v' t < 10) → yDec v m = yDec v' m → ∀ t, t < m → yDg v t = yDg v' t := by
  intro m
  induction m with
  | zero => intro _ _ t ht; omega
  | succ m ih =>
    intro h e t ht
    have e' : 10 * yDec v m + yDg v m = 10 * yDec v' m + yDg v' m := e
    have hm := h m (by omega)
    by_cases d : t = m
    · subst d; omega
    · exact ih (fun t ht => h t (by omega)) (by omega) t (by omega)
theorem yAt_eq {v v' p : Nat} (h : yAt n v p = yAt n v' p) {t : Nat} (ht : t < n) : yDg v t = p ↔ yDg v' t = p := by
  unfold yAt at h
  have a : ∀ u : Nat, (yBs (fun t => yDg u t == p) n).testBit t = true ↔ yDg u t = p := fun u => by
    rw [yBs_bit, beq_iff_eq]
    exact ⟨fun z => z.2, fun z => ⟨ht, z⟩⟩
  rw [← a v, ← a v', h]
theorem yAt_cg {v v' p : Nat} (h : ∀ t, t < n → (yDg v t = p ↔ yDg v' t = p)) : yAt n v p = yAt n v' p := yBs_congr fun t ht => by
  rw [Bool.eq_iff_iff, beq_iff_eq, beq_iff_eq]
  exact h t ht
/-- goals of two orders, when two things are swapped in both -/
theorem yGc_sw (hn : n ≤ 5) {v v' u u' a b : Nat} (hg : yGd n a1 a2) (ha : a < n) (hb : b < n) (hv : ∀ t, t < n → yDg v t < n ∧ yDg v' t < n) (h2 : ∀ p, a1 = 2 → p < n → a2 = nI p → a ≠ p ∧ b ≠ p) (e : ∀ t, t < n → yDg u t = yDg v (zSw a b t)) (e' : ∀ t, t < n → yDg u' t = yDg v' (zSw a b t)) (q : yGc n a1 a2 u = yGc n a1 a2 u') : yGc n a1 a2 v = yGc n a1 a2 v' := by
  have same : (∀ t, t < n → yDg u t = yDg u' t) → ∀ t, t < n → yDg v t = yDg v' t := fun z t ht => by
    have hs := zSw_lt ha hb ht
    have z1 := z _ hs
    rw [e _ hs, e' _ hs, zSw_2] at z1
    exact z1
  unfold yGc yGv at q ⊢
  rcases hg with rfl | ⟨rfl, p, hp, rfl⟩ | ⟨rfl, p, hp, rfl⟩
  · rw [if_pos rfl, if_pos rfl] at q
    rw [if_pos rfl, if_pos rfl]
    refine yDec_cg n (same (yDec_dg n (fun t ht => ?_) q))
    have hs := zSw_lt ha hb ht
    have := hv _ hs
    rw [e t ht, e' t ht]
    omega
  · rw [if_neg (by decide), if_pos rfl, if_neg (by decide), if_pos rfl, nI_clamp (by omega)] at q
    rw [if_neg (by decide), if_pos rfl, if_neg (by decide), if_pos rfl, nI_clamp (by omega)]
    refine yAt_cg fun t ht => ?_
    have hs := zSw_lt ha hb ht
    have := yAt_eq q hs
    rw [e _ hs, e' _ hs, zSw_2] at this
    exact this
  · rw [if_neg (by decide), if_neg (by decide), if_neg (by decide), if_neg (by decide), nI_clamp (by omega)] at q
    rw [if_neg (by decide), if_neg (by decide), if_neg (by decide), if_neg (by decide), nI_clamp (by omega)]
    obtain ⟨n1, n2⟩ := h2 p rfl hp rfl
    have ep : zSw a b p = p := by unfold zSw; rw [if_neg (fun z => n1 z.symm), if_neg (fun z => n2 z.symm)]
    rw [e p hp, e' p hp, ep] at q
    exact q
/-! two free things swapped -/
def zFree (n u0 x t : Nat) : Prop := t < n ∧ u0.testBit t = true ∧ ∀ u, u < n → u ≠ t → ¬ x.testBit (yPr n t u) = true
theorem yPr_comm (n a b : Nat) : yPr n a b = yPr n b a := by unfold yPr; rw [Nat.min_comm, Nat.max_comm]
theorem zFree_no {a t u : Nat} (h : zFree n u0 x a) (ht : t < n) (hu : u < n) (htu : t < u) (hx : x.testBit (yPr n t u) = true) : t ≠ a ∧ u ≠ a := by
  refine ⟨fun e => ?_, fun e => ?_⟩
  · subst e; exact h.2.2 u hu (by omega) hx
  · subst e; rw [yPr_comm] at hx; exact h.2.2 t ht (by omega) hx
theorem zSm_sw (hn : n ≤ 5) (hw : w ≤ 1) (h : zVo n w c mk V) (hF : zFu n w c V x0) (hg : yGd n a1 a2) (hγ : ∀ i, i < c → γ i = nI (yGc n a1 a2 (V i))) (hu : ∀ p, a1 = 2 → p < n → a2 = nI p → ¬ u0.testBit p = true) (hc : zCl (n * (n - 1) / 2) c mk x0 x S) {a b : Nat} (hab : a ≠ b) (fa : zFree n u0 x a) (fb : zFree n u0 x b) {a' b' x1 y1 : Nat} (hab' : a' < b') (hb' : b' < n) (hxy : x1 < y1) (hy : y1 < n) (hsw : (x1 = zSw a b a' ∧ y1 = zSw a b b') ∨ (x1 = zSw a b b' ∧ y1 = zSw a b a')) : zSm (n * (n - 1) / 2) c mk γ S (yPr n a' b') (yPr n x1 y1) := by
  have ha := fa.1
  have hb := fb.1
  have keep : ∀ X : Nat, (∀ q, q < n * (n - 1) / 2 → X.testBit q = true → x.testBit q = true) → ∀ (d : Nat → Nat) (t u : Nat), t < u → u < n → X.testBit (yPr n t u) = true → ySf (fun t => d (zSw a b t)) t u = ySf d t u := fun X hX d t u htu hu z => by
    have pl := yPs_1 n (by omega) t (by omega) u hu htu
    have zx := hX _ (by rw [← pl.1]; exact pl.2.2) z
    obtain ⟨p1, p2⟩ := zFree_no fa (by omega) hu htu zx
    obtain ⟨p3, p4⟩ := zFree_no fb (by omega) hu htu zx
    have e1 : zSw a b t = t := by unfold zSw; rw [if_neg p1, if_neg p3]
    have e2 : zSw a b u = u := by unfold zSw; rw [if_neg p2, if_neg p4]
    exact ySf_cg (by show d (zSw a b t) = d t; rw [e1]) (by show d (zSw a b u) = d u; rw [e2])
  have ex : ∀ i, ∃ j, i < c → j < c ∧ ∀ t, t < n → yDg (V j) t = yDg (V i) (zSw a b t) := fun i => by
    by_cases hi : i < c
    · obtain ⟨j, hj, e⟩ := hF _ (zOd_sw ha hb (zVo_od h hi)) i hi fun t u htu hu z => keep x0 hc.2.1 _ t u htu hu z
      exact ⟨j, fun _ => ⟨hj, e⟩⟩
    · exact ⟨0, fun z => absurd z hi⟩
  let ρ : Nat → Nat := fun i => Classical.choose (ex i)
  have hρ : ∀ i, i < c → ρ i < c ∧ ∀ t, t < n → yDg (V (ρ i)) t = yDg (V i) (zSw a b t) := fun i hi => Classical.choose_spec (ex i) hi
  have hS : ∀ i, i < c → S i = true → S (ρ i) = true := fun i hi si => by
    obtain ⟨j, hj, sj, e⟩ := zFull hn hw h hF hc (zOd_sw ha hb (zVo_od h hi)) hi si fun t u htu hu z => keep x (fun _ _ z => z) _ t u htu hu z
    have : ρ i = j := h.2.2 _ _ (hρ i hi).1 hj fun t ht => by rw [(hρ i hi).2 t ht, e t ht]
    rw [this]; exact sj
  have lt : ∀ i, i < c → ∀ t, t < n → yDg (V i) t < n := fun i hi t ht => zOd_lt (zVo_od h hi) ht
  have glt : ∀ i, i < c → yGc n a1 a2 (V i) < 100000 := fun i hi => by
    obtain ⟨o, ho, e⟩ := h.1 i hi
    rw [e]; exact yGc_lt hn hw ho hg
  have pair : ∀ a' b' x1 y1 : Nat, a' < b' → b' < n → x1 < y1 → y1 < n → ((x1 = zSw a b a' ∧ y1 = zSw a b b') ∨ (x1 = zSw a b b' ∧ y1 = zSw a b a')) → ∃ σ : Nat → Nat, (∀ s, s < 3 → σ s < 3 ∧ ∀ i, i < c → (mk i).testBit (10 * s + yPr n x1 y1) = true → (mk (ρ i)).testBit (10 * σ s + yPr n a' b') = true) ∧ ∀ t : Nat → Nat, t (σ 0) + t (σ 1) + t (σ 2) = t 0 + t 1 + t 2 := fun a' b' x1 y1 q1 q2 q3 q4 q5 => by
    have sf : ∀ i, i < c → ySf (yDg (V (ρ i))) a' b' = ySf (yDg (V i)) (zSw a b a') (zSw a b b') := fun i hi => by
      unfold ySf
      rw [(hρ i hi).2 a' (by omega), (hρ i hi).2 b' q2]
    rcases q5 with ⟨e1, e2⟩ | ⟨e1, e2⟩
    · refine ⟨fun s => s, fun s hs => ⟨hs, fun i hi z => ?_⟩, fun _ => rfl⟩
      rw [zVo_bit hn hw h hi q3 q4 hs] at z
      rw [zVo_bit hn hw h (hρ i hi).1 q1 q2 hs, sf i hi, ← e1, ← e2]
      exact z
    · refine ⟨fun s => if s = 0 then 0 else 3 - s, fun s hs => ?_, fun t => ?_⟩
      · have hs' : (if s = 0 then 0 else 3 - s) < 3 := by split <;> omega
        refine ⟨hs', fun i hi z => ?_⟩
        rw [zVo_bit hn hw h hi q3 q4 hs] at z
        show (mk (ρ i)).testBit (10 * (if s = 0 then 0 else 3 - s) + yPr n a' b') = true
        rw [zVo_bit hn hw h (hρ i hi).1 q1 q2 hs', sf i hi, ← e1, ← e2, ySf_flip, z]
      · show t 0 + t 2 + t 1 = t 0 + t 1 + t 2
        omega
  have mp : zMp (n * (n - 1) / 2) c mk γ ρ := by
    refine ⟨fun i hi => (hρ i hi).1, fun i j hi hj e => h.2.2 i j hi hj fun t ht => ?_, fun i j hi hj e => ?_, fun p' hp' => ?_⟩
    · have hs := zSw_lt ha hb ht
      have z1 := (hρ i hi).2 _ hs
      have z2 := (hρ j hj).2 _ hs
      rw [zSw_2] at z1 z2
      rw [← z1, ← z2, e]
    · rw [hγ i hi, hγ j hj]
      rw [hγ _ (hρ i hi).1, hγ _ (hρ j hj).1] at e
      have g1 := glt _ (hρ i hi).1
      have g2 := glt _ (hρ j hj).1
      have e' := (nI_eq (by omega) (by omega)).mp e
      rw [yGc_sw hn hg ha hb (fun t ht => ⟨lt i hi t ht, lt j hj t ht⟩) (fun p z1 z2 z3 => ⟨fun z => hu p z1 z2 z3 (z ▸ fa.2.1), fun z => hu p z1 z2 z3 (z ▸ fb.2.1)⟩) (hρ i hi).2 (hρ j hj).2 e']
    · obtain ⟨c', hc', d', hd', hcd, ep⟩ := yPr_on n (by omega) p' hp'
      subst ep
      have l1 := zSw_lt ha hb hc'
      have l2 := zSw_lt ha hb hd'
      rcases Nat.lt_trichotomy (zSw a b c') (zSw a b d') with z | z | z
      · obtain ⟨σ, s1, s2⟩ := pair c' d' _ _ hcd hd' z l2 (Or.inl ⟨rfl, rfl⟩)
        have pl := yPs_1 n (by omega) _ l1 _ l2 z
        exact ⟨_, by rw [← pl.1]; exact pl.2.2, σ, s1, s2⟩
      · have := zSw_inj z; omega
      · obtain ⟨σ, s1, s2⟩ := pair c' d' _ _ hcd hd' z l1 (Or.inr ⟨rfl, rfl⟩)
        have pl := yPs_1 n (by omega) _ l2 _ l1 z
        exact ⟨_, by rw [← pl.1]; exact pl.2.2, σ, s1, s2⟩
  obtain ⟨σ, s1, s2⟩ := pair a' b' x1 y1 hab' hb' hxy hy hsw
  exact zSm_of mp hS s1 s2
/-! of free things it is enough to try the first ones -/
def zLw (f : Nat) : Nat := (List.range 10).findIdx (fun t => f / 2 ^ t % 2 == 1)
def zFi (f a b : Nat) : Bool := (!(f.testBit a) || zLw f == a) && (!(f.testBit b) || zLw (f &&& (31 ^^^ 2 ^ a)) == b)
def zSk (n f a b : Nat) (q : Nat → Nat → Bool) : Bool := (List.range n).any fun u => (List.range n).any fun v => f.testBit u && (f.testBit v && (!(u == v) && q (min (zSw u v a) (zSw u v b)) (max (zSw u v a) (zSw u v b))))
theorem zFi_2 : ∀ n, n < 6 → ∀ f, f < 2 ^ n → ∀ b, b < n → ∀ a, a < b → (zFi f a b || (zSk n f a b (zFi f) || zSk n f a b fun a b => zSk n f a b (zFi f))) = true := by decide +kernel
def zFm (n u0 x : Nat) : Nat := yBs (fun t => u0.testBit t && (List.range n).all fun u => u == t || !(x.testBit (yPr n t u))) n
theorem zFm_bit {t : Nat} : (zFm n u0 x).testBit t = true ↔ zFree n u0 x t := by
  unfold zFm zFree
  rw [yBs_bit, Bool.and_eq_true, List.all_eq_true]
  refine and_congr Iff.rfl (and_congr Iff.rfl ⟨fun z u hu hne y => ?_, fun z u hu => ?_⟩)
  · have := z u (List.mem_range.mpr hu)
    rw [y, Bool.not_true, Bool.or_false, beq_iff_eq] at this
    exact hne this
  · rw [Bool.or_eq_true, beq_iff_eq, Bool.not_eq_true']
    by_cases e : u = t
    · exact Or.inl e
    · exact Or.inr (Bool.eq_false_iff.mpr (z u (List.mem_range.mp hu) e))
def zYy (n c : Nat) (mk : Nat → Nat) (γ : Nat → Int32) (x0 u0 : Nat) : Prop := ∀ x S, zCl (n * (n - 1) / 2) c mk x0 x S → ∀ p, p < n * (n - 1) / 2 → ∃ p', p' < n * (n - 1) / 2 ∧ zFi (zFm n u0 x) (zAB n p').1 (zAB n p').2 = true ∧ zSm (n * (n - 1) / 2) c mk γ S p p'
theorem zSk_of {q : Nat → Nat → Bool} {a b : Nat} (hn : n ≤ 5) (hw : w ≤ 1) (h : zVo n w c mk V) (hF : zFu n w c V x0) (hg : yGd n a1 a2) (hγ : ∀ i, i < c → γ i = nI (yGc n a1 a2 (V i))) (hu : ∀ p, a1 = 2 → p < n → a2 = nI p → ¬ u0.testBit p = true) (hc : zCl (n * (n - 1) / 2) c mk x0 x S) (hab : a < b) (hb : b < n) (hq : zSk n (zFm n u0 x) a b q = true) : ∃ a' b', a' < b' ∧ b' < n ∧ q a' b' = true ∧ zSm (n * (n - 1) / 2) c mk γ S (yPr n a b) (yPr n a' b') := by
  unfold zSk at hq
  obtain ⟨u, hu', hq⟩ := List.any_eq_true.mp hq
  obtain ⟨v, hv', hq⟩ := List.any_eq_true.mp hq
  rw [Bool.and_eq_true, Bool.and_eq_true, Bool.and_eq_true, Bool.not_eq_true', beq_eq_false_iff_ne] at hq
  obtain ⟨f1, f2, f3, f4⟩ := hq
  have g1 := zFm_bit.mp f1
  have g2 := zFm_bit.mp f2
  have l1 := zSw_lt (a := u) (b := v) g1.1 g2.1 (show a < n by omega)
  have l2 := zSw_lt (a := u) (b := v) g1.1 g2.1 hb
  have ne : zSw u v a ≠ zSw u v b := fun e => by have := zSw_inj e; omega
  refine ⟨_, _, ?_, ?_, f4, zSm_sw hn hw h hF hg hγ hu hc f3 g1 g2 hab hb ?_ ?_ ?_⟩
  · omega
  · omega
  · omega
  · omega
  · rcases Nat.lt_or_ge (zSw u v a) (zSw u v b) with z | z
    · exact Or.inl ⟨Nat.min_eq_left (by omega), Nat.max_eq_right (by omega)⟩
    · exact Or.inr ⟨Nat.min_eq_right (by omega), Nat.max_eq_left (by omega)⟩
theorem zYy_of (hn : n ≤ 5) (hw : w ≤ 1) (h : zVo n w c mk V) (hF : zFu n w c V x0) (hg : yGd n a1 a2) (hγ : ∀ i, i < c → γ i = nI (yGc n a1 a2 (V i))) (hu : ∀ p, a1 = 2 → p < n → a2 = nI p → ¬ u0.testBit p = true) : zYy n c mk γ x0 u0 := fun x S hc p hp => by
  obtain ⟨a, ha, b, hb, hab, e⟩ := yPr_on n (by omega) p hp
  subst e
  have fl : zFm n u0 x < 2 ^ n := yBs_lt
  have idx : ∀ a b, a < b → b < n → yPr n a b < n * (n - 1) / 2 ∧ zAB n (yPr n a b) = (a, b) := fun a b hab hb => by
    have pl := yPs_1 n (by omega) a (by omega) b hb hab
    exact ⟨by rw [← pl.1]; exact pl.2.2, zAB_on n (by omega) a (by omega) b hb hab⟩
  have q := zFi_2 n (by omega) _ fl b hb a hab
  rw [Bool.or_eq_true, Bool.or_eq_true] at q
  rcases q with q | q | q
  · exact ⟨_, (idx a b hab hb).1, by rw [(idx a b hab hb).2]; exact q, zSm_refl⟩
  · obtain ⟨a', b', h1, h2, h3, h4⟩ := zSk_of hn hw h hF hg hγ hu hc hab hb q
    exact ⟨_, (idx a' b' h1 h2).1, by rw [(idx a' b' h1 h2).2]; exact h3, h4⟩
  · obtain ⟨a', b', h1, h2, h3, h4⟩ := zSk_of hn hw h hF hg hγ hu hc hab hb q
    obtain ⟨a3, b3, h5, h6, h7, h8⟩ := zSk_of hn hw h hF hg hγ hu hc h1 h2 h3
    exact ⟨_, (idx a3 b3 h5 h6).1, by rw [(idx a3 b3 h5 h6).2]; exact h7, zSm_tr h4 h8⟩
/-! joined things -/
theorem yCut_0 : ∀ n, n < 6 → (List.range (2 ^ n)).all (fun C => !(decide (0 < C) && decide (C < 2 ^ n - 1)) || ((List.range n).any (fun t => C.testBit t) && (List.range n).any fun t => !(C.testBit t))) = true := by decide +kernel
theorem yCut_2 (n : Nat) (hn : n < 6) (C : Nat) (h1 : 0 < C) (h2 : C < 2 ^ n - 1) : (∃ t, t < n ∧ C.testBit t = true) ∧ ∃ t, t < n ∧ C.testBit t = false := by
  have q := List.all_eq_true.mp (yCut_0 n hn) C (List.mem_range.mpr (by omega))
  rw [decide_eq_true h1, decide_eq_true h2, Bool.and_self, Bool.not_true, Bool.false_or, Bool.and_eq_true, List.any_eq_true, List.any_eq_true] at q
  obtain ⟨⟨t, t1, t2⟩, ⟨u, u1, u2⟩⟩ := q
  rw [Bool.not_eq_true'] at u2
  exact ⟨⟨t, List.mem_range.mp t1, t2⟩, ⟨u, List.mem_range.mp u1, u2⟩⟩
set_option maxRecDepth 100000 in
theorem yAt_on : ∀ n, n < 6 → (yO n 0).all (fun v => (List.range n).all fun p => (List.range n).any fun t => yDg v t == p) = true := by decide +kernel
def zJn (n c : Nat) (mk : Nat → Nat) (γ : Nat → Int32) (x0 : Nat) (J : Int32) : Prop := J = 1 → ¬ zAl c γ (fun _ => true) → ∀ x S, zCl (n * (n - 1) / 2) c mk x0 x S → (∃ i, i < c ∧ S i = true) → zAl c γ S → zGroups n x ≤ 1
theorem zJn_of (hn : n ≤ 5) (hw : w ≤ 1) (h : zVo n w c mk V) (hF : zFu n w c V x0) (hg : yGd n a1 a2) (hγ : ∀ i, i < c → γ i = nI (yGc n a1 a2 (V i))) (hJ : J = 1 → a1 = 2 ∨ (a1 = 1 ∧ w = 0)) : zJn n c mk γ x0 J := fun j1 na x S hc ⟨i, hi, si⟩ al => by
  refine Decidable.byContradiction fun ng => ?_
  obtain ⟨C, c1, c2, c3⟩ := zGroups_cut (show n < 6 by omega) hc.1 ng
  obtain ⟨t1, t2⟩ := yCut_2 n (by omega) C c1 c2
  have cut : ∀ a b, a < b → b < n → x.testBit (yPr n a b) = true → C.testBit a = C.testBit b := fun a b hab hb z => by
    have pl := yPs_1 n (by omega) a (by omega) b hb hab
    have := c3 _ (by rw [← pl.1]; exact pl.2.2) z
    rw [zAB_on n (by omega) a (by omega) b hb hab] at this
    exact this
  have od := zVo_od h hi
  obtain ⟨j, hj, sj, ej⟩ := zFull hn hw h hF hc (zOd_up (fun t => C.testBit t) od) hi si fun a b hab hb z => zUp_sf (by omega) hb (cut a b hab hb z)
  obtain ⟨m, hm, sm, em⟩ := zFull hn hw h hF hc (zOd_up (fun t => !(C.testBit t)) od) hi si fun a b hab hb z => zUp_sf (by omega) hb (by rw [cut a b hab hb z])
  have ne : ∀ t, t < n → yDg (V j) t ≠ yDg (V m) t := fun t ht => by
    rw [ej t ht, em t ht]
    exact zUp_ne t1 t2 t
  have e := al j m hj hm sj sm
  rw [hγ j hj, hγ m hm] at e
  have glt : ∀ i, i < c → yGc n a1 a2 (V i) < 100000 := fun i hi => by
    obtain ⟨o, ho, e⟩ := h.1 i hi
    rw [e]; exact yGc_lt hn hw ho hg
  have g1 := glt j hj
  have g2 := glt m hm
  have e' := (nI_eq (by omega) (by omega)).mp e
  unfold yGc yGv at e'
  rcases hg with rfl | ⟨rfl, p, hp, rfl⟩ | ⟨rfl, p, hp, rfl⟩
  · exact (hJ j1).elim (fun z => absurd z (by decide)) (fun z => absurd z.1 (by decide))
  · rw [if_neg (by decide), if_pos rfl, if_neg (by decide), if_pos rfl, nI_clamp (by omega)] at e'
    have w0 : w = 0 := (hJ j1).elim (fun z => absurd z (by decide)) (fun z => z.2)
    by_cases pn : p < n
    · obtain ⟨o, ho, eo⟩ := h.1 j hj
      have mem := yOr_mem ho
      rw [w0] at mem
      have q := List.all_eq_true.mp (List.all_eq_true.mp (yAt_on n (by omega)) _ mem) p (List.mem_range.mpr pn)
      obtain ⟨t, ht, et⟩ := List.any_eq_true.mp q
      have ht := List.mem_range.mp ht
      have et : yDg (V j) t = p := by rw [eo, w0]; exact beq_iff_eq.mp et
      exact ne t ht (et.trans ((yAt_eq e' ht).mp et).symm)
    · refine na fun a b ha hb _ _ => ?_
      rw [hγ a ha, hγ b hb]
      have z : ∀ i, i < c → yGc n 1 (nI p) (V i) = 0 := fun i hi => by
        unfold yGc yGv
        rw [if_neg (by decide), if_pos rfl, nI_clamp (by omega)]
        refine yBs_no fun t ht => beq_false_of_ne fun y => ?_
        have := zOd_lt (zVo_od h hi) ht
        omega
      rw [z a ha, z b hb]
  · rw [if_neg (by decide), if_neg (by decide), if_neg (by decide), if_neg (by decide), nI_clamp (by omega)] at e'
    exact ne p hp e'
end HY
