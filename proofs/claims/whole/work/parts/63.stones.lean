/-! CALL stones -/
theorem ySl_app : ∀ l m : List Nat, ySl (l ++ m) = ySl l + ySl m := by
  intro l m
  induction l with
  | nil => show ySl m = 0 + ySl m; omega
  | cons a l ih => show a + ySl (l ++ m) = a + ySl l + ySl m; omega
theorem ySl_rev : ∀ l : List Nat, ySl l.reverse = ySl l := by
  intro l
  induction l with
  | nil => rfl
  | cons a l ih => rw [List.reverse_cons, ySl_app, ih]; show ySl l + (a + 0) = a + ySl l; omega
theorem ySl_take {L : List Nat} {j : Nat} (h : j < L.length) : ySl (L.take (j + 1)) = ySl (L.take j) + L.getD j 0 := by
  rw [List.take_succ_eq_append_getElem h, ySl_app, yGet h]; rfl
theorem ySl_le {c : Nat} : ∀ l : List Nat, (∀ x, x ∈ l → x ≤ c) → ySl l ≤ c * l.length := by
  intro l
  induction l with
  | nil => intro _; exact Nat.zero_le _
  | cons a l ih =>
    intro h
    have h1 := ih (fun x hx => h x (List.mem_cons_of_mem _ hx))
    have h2 := h a (List.mem_cons_self ..)
    show a + ySl l ≤ c * (l.length + 1)
    rw [Nat.mul_succ]; omega
theorem ySl_tk (L : List Nat) (j : Nat) : ySl (L.take j) ≤ ySl L := by
  have := ySl_app (L.take j) (L.drop j)
  rw [List.take_append_drop] at this
  omega
def ySm (both : Bool) (m s : Nat) : Nat := if both then (m ||| m <<< s) ||| (m ||| m <<< s) >>> s else m ||| m <<< s
theorem yMd_app (both : Bool) (s : Nat) : ∀ l m, yMd both (l ++ [s]) m = ySm both (yMd both l m) s := by
  intro l
  induction l with
  | nil => intro m; rfl
  | cons a l ih => intro m; exact ih _
theorem yMd_take {both : Bool} {L : List Nat} {j m : Nat} (h : j < L.length) : yMd both (L.take (j + 1)) m = ySm both (yMd both (L.take j) m) (L.getD j 0) := by
  rw [List.take_succ_eq_append_getElem h, yMd_app, yGet h]
theorem ySm_lt {both : Bool} {m s e : Nat} (h : m < 2 ^ e) : ySm both m s < 2 ^ (e + s) := by
  have h1 : m <<< s < 2 ^ (e + s) := by rw [Nat.shiftLeft_eq, Nat.pow_add]; exact Nat.mul_lt_mul_of_pos_right h (Nat.two_pow_pos s)
  have h2 : m < 2 ^ (e + s) := Nat.lt_of_lt_of_le h (Nat.pow_le_pow_right (by decide) (by omega))
  have h3 : m ||| m <<< s < 2 ^ (e + s) := Nat.or_lt_two_pow h2 h1
  unfold ySm
  split
  · exact Nat.or_lt_two_pow h3 (Nat.lt_of_le_of_lt (Nat.shiftRight_le _ _) h3)
  · exact h3
theorem yMd_lt (both : Bool) (L : List Nat) (A : Nat) : ∀ j, j ≤ L.length → yMd both (L.take j) (2 ^ A) < 2 ^ (A + 1 + ySl (L.take j)) := by
  intro j
  induction j with
  | zero => intro _; show 2 ^ A < 2 ^ (A + 1 + 0); exact Nat.pow_lt_pow_right (by decide) (by omega)
  | succ j ih =>
    intro h
    rw [yMd_take (by omega), ySl_take (by omega), ← Nat.add_assoc]
    exact ySm_lt (ih (by omega))
section STN
variable {g g' : xSt} {w n A N M : Nat} {L : List Nat} {both : Bool} {a1 a2 a3 a4 a5 m : Int32}
def dSt (o k : Nat) : Prop := o = 171 ∨ o = 172
def dMd (o k : Nat) : Prop := o = 172
theorem dSt_A : ∀ o k, dSt o k → dA o k := fun o k h => by unfold dSt at h; unfold dA; omega
theorem dMd_St : ∀ o k, dMd o k → dSt o k := fun o k h => Or.inr h
/-- the stones laid; what is made -/
def yLd2 (g : xSt) (L : List Nat) : Prop := ∀ i, i < L.length → xI g 171 i = nI (L.getD i 0)
def yMm (g : xSt) (M N : Nat) : Prop := ∀ v, v ≤ N → xI g 172 v = if M.testBit v then 1 else 0
theorem yLd2.md (h : yAg dMd g g') (q : yLd2 g L) : yLd2 g' L := fun i hi => (h.2 _ _ (by unfold dMd; omega)).trans (q i hi)
theorem r_md90 {k s : Nat} (hN : N < 1300) (hk : k < 8) (hs1 : 1 ≤ s) (hsN : s ≤ N) (hr : xI g 171 k = nI s) (hM : yMm g M N) : ∃ g', xlim (S_X12_doReach_90 a1 a2 a3 a4 (nI k)) (nI N, g) = some g' ∧ yAg dMd g g' ∧ yMm g' (M ||| M <<< s) N := by
  have key : ∀ d x g1, x + 1 = s + d → x ≤ N → yAg dMd g g1 → (∀ v, x < v → v ≤ N → xI g1 172 v = if (M ||| M <<< s).testBit v then 1 else 0) → (∀ v, v ≤ x → xI g1 172 v = if M.testBit v then 1 else 0) → ∃ g', xlim (S_X12_doReach_90 a1 a2 a3 a4 (nI k)) (nI x, g1) = some g' ∧ yAg dMd g g' ∧ yMm g' (M ||| M <<< s) N := by
    intro d
    induction d with
    | zero =>
      intro x g1 hx hxN y l1 l2
      have r1 : xI g1 171 k = nI s := (y.2 _ _ (by unfold dMd; omega)).trans hr
      refine ⟨g1, xlim_end ?_, y, fun v hv => ?_⟩
      · unfold S_X12_doReach_90
        simp only [xck_nI hk (show (8 : Nat) < 2 ^ 31 by decide), nI_clamp (show k < 2 ^ 31 by omega), r1]
        exact if_pos (nI_lt (by omega) (by omega))
      · by_cases c : x < v
        · exact l1 v c hv
        · rw [l2 v (by omega), Nat.testBit_or, Nat.testBit_shiftLeft, decide_eq_false (show ¬ v ≥ s by omega), Bool.false_and, Bool.or_false]
    | succ d ih =>
      intro x g1 hx hxN y l1 l2
      have r1 : xI g1 171 k = nI s := (y.2 _ _ (by unfold dMd; omega)).trans hr
      have xs : nI x - nI s = nI (x - s) := by
        have : nI x = nI (x - s) + nI s := by rw [nI_add]; congr 1; omega
        rw [this]
        generalize nI (x - s) = p
        generalize nI s = q
        grind
      have xm : nI x + (-1) = nI (x - 1) := by
        obtain ⟨z, rfl⟩ : ∃ z, x = z + 1 := ⟨x - 1, by omega⟩
        rw [← Int32.sub_eq_add_neg]; exact nI_pred z
      have nb : (M ||| M <<< s).testBit x = (M.testBit x || M.testBit (x - s)) := by
        rw [Nat.testBit_or, Nat.testBit_shiftLeft, decide_eq_true (show x ≥ s by omega), Bool.true_and]
      have st : S_X12_doReach_90 a1 a2 a3 a4 (nI k) (nI x, g1) = some (.inl (nI (x - 1), xWI g1 172 x (if (M ||| M <<< s).testBit x then 1 else 0))) := by
        unfold S_X12_doReach_90
        have c0 : ¬ nI x < nI s := by rw [nI_ltI (by omega) (by omega)]; omega
        simp only [xck_nI hk (show (8 : Nat) < 2 ^ 31 by decide), nI_clamp (show k < 2 ^ 31 by omega), r1, if_neg c0, xck_nI (show x < 1300 by omega) (show (1300 : Nat) < 2 ^ 31 by decide), nI_clamp (show x < 2 ^ 31 by omega), l2 x (Nat.le_refl _), xs, xck_nI (show x - s < 1300 by omega) (show (1300 : Nat) < 2 ^ 31 by decide), nI_clamp (show x - s < 2 ^ 31 by omega), l2 (x - s) (by omega), xm, nb]
        by_cases c : M.testBit x = true
        · unfold K_X12_doReach_136
          rw [c, if_pos rfl, if_neg (by decide), xck_nI (by omega) (by decide), nI_clamp (by omega), xm]
          simp
        · rw [Bool.eq_false_iff.mpr c]
          by_cases e : M.testBit (x - s) = true
          · rw [e]; simp [xz01]
          · rw [Bool.eq_false_iff.mpr e]; simp [xz01]
      obtain ⟨g', r2, r3⟩ := ih (x - 1) (xWI g1 172 x (if (M ||| M <<< s).testBit x then 1 else 0)) (by omega) (by omega) (y.wi rfl) (fun v h1 h2 => by
        rw [yI_wi]
        by_cases e : v = x
        · rw [if_pos ⟨rfl, e⟩, e]
        · rw [if_neg (fun z => e z.2)]; exact l1 v (by omega) h2) (fun v hv => by rw [yI_wi, if_neg (by omega)]; exact l2 v (by omega))
      exact ⟨g', (xlim_go st).trans r2, r3⟩
  exact key (N + 1 - s) N g (by omega) (Nat.le_refl _) (yAg.refl _ _) (fun v h1 h2 => by omega) hM
theorem r_md158 {k s : Nat} (hN : 2 * A < 1300) (hk : k < 8) (hs1 : 1 ≤ s) (hsN : s ≤ 2 * A) (hr : xI g 171 k = nI s) (hM : yMm g M (2 * A)) (hlt : M < 2 ^ (2 * A + 1)) : ∃ g', xlim (S_X12_doReach_158 a1 a2 a3 (nI A) (nI k)) (0, g) = some g' ∧ yAg dMd g g' ∧ yMm g' (M ||| M >>> s) (2 * A) := by
  have hi0 : ∀ v, 2 * A < v → M.testBit v = false := fun v hv => Nat.testBit_lt_two_pow (Nat.lt_of_lt_of_le hlt (Nat.pow_le_pow_right (by decide) (by omega)))
  have nb : ∀ x, (M ||| M >>> s).testBit x = (M.testBit x || M.testBit (x + s)) := fun x => by
    rw [Nat.testBit_or, Nat.testBit_shiftRight, Nat.add_comm s x]
  have a2A : (2 : Int32) * nI A = nI (2 * A) := by rw [show (2 : Int32) = nI 2 from rfl, nI_mul]
  have key : ∀ d x g1, x + s + d = 2 * A + 1 → yAg dMd g g1 → (∀ v, v < x → xI g1 172 v = if (M ||| M >>> s).testBit v then 1 else 0) → (∀ v, x ≤ v → v ≤ 2 * A → xI g1 172 v = if M.testBit v then 1 else 0) → ∃ g', xlim (S_X12_doReach_158 a1 a2 a3 (nI A) (nI k)) (nI x, g1) = some g' ∧ yAg dMd g g' ∧ yMm g' (M ||| M >>> s) (2 * A) := by
    intro d
    induction d with
    | zero =>
      intro x g1 hx y l1 l2
      have r1 : xI g1 171 k = nI s := (y.2 _ _ (by unfold dMd; omega)).trans hr
      refine ⟨g1, xlim_end ?_, y, fun v hv => ?_⟩
      · unfold S_X12_doReach_158
        simp only [xck_nI hk (show (8 : Nat) < 2 ^ 31 by decide), nI_clamp (show k < 2 ^ 31 by omega), r1, a2A, nI_add]
        exact if_pos (nI_lt (by omega) (by omega))
      · by_cases c : v < x
        · exact l1 v c
        · rw [l2 v (by omega) hv, nb, hi0 (v + s) (by omega), Bool.or_false]
    | succ d ih =>
      intro x g1 hx y l1 l2
      have r1 : xI g1 171 k = nI s := (y.2 _ _ (by unfold dMd; omega)).trans hr
      have st : S_X12_doReach_158 a1 a2 a3 (nI A) (nI k) (nI x, g1) = some (.inl (nI (x + 1), xWI g1 172 x (if (M ||| M >>> s).testBit x then 1 else 0))) := by
        unfold S_X12_doReach_158
        have c0 : ¬ nI (2 * A) < nI (x + s) := by rw [nI_ltI (by omega) (by omega)]; omega
        simp only [xck_nI hk (show (8 : Nat) < 2 ^ 31 by decide), nI_clamp (show k < 2 ^ 31 by omega), r1, a2A, nI_add, if_neg c0, xck_nI (show x < 1300 by omega) (show (1300 : Nat) < 2 ^ 31 by decide), nI_clamp (show x < 2 ^ 31 by omega), l2 x (Nat.le_refl _) (by omega), xck_nI (show x + s < 1300 by omega) (show (1300 : Nat) < 2 ^ 31 by decide), nI_clamp (show x + s < 2 ^ 31 by omega), l2 (x + s) (by omega) (by omega), nI_1, nb]
        by_cases c : M.testBit x = true
        · unfold K_X12_doReach_209
          rw [c, if_pos rfl, if_neg (by decide), xck_nI (by omega) (by decide), nI_clamp (by omega), nI_1]
          simp
        · rw [Bool.eq_false_iff.mpr c]
          by_cases e : M.testBit (x + s) = true
          · rw [e]; simp [xz01]
          · rw [Bool.eq_false_iff.mpr e]; simp [xz01]
      obtain ⟨g', r2, r3⟩ := ih (x + 1) (xWI g1 172 x (if (M ||| M >>> s).testBit x then 1 else 0)) (by omega) (y.wi rfl) (fun v h1 => by
        rw [yI_wi]
        by_cases e : v = x
        · rw [if_pos ⟨rfl, e⟩, e]
        · rw [if_neg (fun z => e z.2)]; exact l1 v (by omega)) (fun v hv hv2 => by rw [yI_wi, if_neg (by omega)]; exact l2 v (by omega) hv2)
      exact ⟨g', (xlim_go st).trans r2, r3⟩
  exact key (2 * A + 1 - s) 0 g (by omega) (yAg.refl _ _) (fun v h => by omega) (fun v _ hv => hM v hv)
/-- the stones as they can be -/
def ySk (L : List Nat) : Prop := L.length ≤ 6 ∧ ∀ x, x ∈ L → 1 ≤ x ∧ x ≤ 81
theorem r_reach (hL : ySk L) (hw : w ≤ 40) (hm : m = 0 ↔ both = false) (hl : yLd2 g L) : ∃ g', E_X12_doReach (nI L.length) (nI w) m g = some (if yRc w both L then 1 else 0, g') ∧ yAg dMd g g' := by
  obtain ⟨hn, hx⟩ := hL
  have hA := ySl_le L (c := 81) (fun x h => (hx x h).2)
  have hA : ySl L ≤ 486 := by
    have : 81 * L.length ≤ 81 * 6 := Nat.mul_le_mul_left 81 hn
    omega
  have e6 := xlim_of (step := S_X12_doReach_6 (nI L.length) (nI w) m) (fun j => (nI (ySl (L.take j)), nI j, g)) L.length (e := (nI (ySl L), g)) (fun j hj => ?_) ?_
  · unfold E_X12_doReach
    rw [show xlim (S_X12_doReach_6 (nI L.length) (nI w) m) (0, 0, g) = _ from e6, xb1_some]
    unfold yRc
    by_cases c : w ≤ ySl L
    · rw [if_pos (nI_le c (by omega)), decide_eq_true c, Bool.true_and]
      have a2A : (2 : Int32) * nI (ySl L) = nI (2 * ySl L) := by rw [show (2 : Int32) = nI 2 from rfl, nI_mul]
      -- the beginning
      have k41 : ∀ d x g1, x + d = 2 * ySl L + 1 → yAg dMd g g1 → (∀ v, v < x → xI g1 172 v = if (2 ^ ySl L).testBit v then 1 else 0) → ∃ g', xlim (S_X12_doReach_41 (nI L.length) (nI w) m (nI (ySl L))) (nI x, g1) = some g' ∧ yAg dMd g g' ∧ yMm g' (2 ^ ySl L) (2 * ySl L) := by
        intro d
        induction d with
        | zero =>
          intro x g1 hx y l1
          refine ⟨g1, xlim_end ?_, y, fun v hv => l1 v (by omega)⟩
          unfold S_X12_doReach_41
          simp only [a2A]
          exact if_pos (nI_lt (by omega) (by omega))
        | succ d ih =>
          intro x g1 hx y l1
          have st : S_X12_doReach_41 (nI L.length) (nI w) m (nI (ySl L)) (nI x, g1) = some (.inl (nI (x + 1), xWI g1 172 x (if (2 ^ ySl L).testBit x then 1 else 0))) := by
            unfold S_X12_doReach_41
            have c0 : ¬ nI (2 * ySl L) < nI x := by rw [nI_ltI (by omega) (by omega)]; omega
            simp only [a2A, if_neg c0, xck_nI (show x < 1300 by omega) (show (1300 : Nat) < 2 ^ 31 by decide), nI_clamp (show x < 2 ^ 31 by omega), nI_1, Nat.testBit_two_pow]
            by_cases e : x = ySl L
            · rw [if_pos (show nI x = nI (ySl L) by rw [e]), e, decide_eq_true rfl]; exact xz01_in (Or.inr rfl)
            · rw [if_neg (show ¬ nI x = nI (ySl L) from fun z => e ((nI_eq (by omega) (by omega)).mp z)), decide_eq_false (fun z => e z.symm)]; exact xz01_in (Or.inl rfl)
          obtain ⟨g', r1, r2⟩ := ih (x + 1) (xWI g1 172 x (if (2 ^ ySl L).testBit x then 1 else 0)) (by omega) (y.wi rfl) (fun v hv => by
            rw [yI_wi]
            by_cases e : v = x
            · rw [if_pos ⟨rfl, e⟩, e]
            · rw [if_neg (fun z => e z.2)]; exact l1 v (by omega))
          exact ⟨g', (xlim_go st).trans r1, r2⟩
      obtain ⟨g1, b1, b2, b3⟩ := k41 (2 * ySl L + 1) 0 g (by omega) (yAg.refl _ _) (fun v hv => by omega)
      -- stone by stone
      have k78 : ∀ d j G, j + d = L.length → yAg dMd g G → yMm G (yMd both (L.take j) (2 ^ ySl L)) (2 * ySl L) → ∃ g', xlim (S_X12_doReach_78 (nI L.length) (nI w) m (nI (ySl L))) (nI j, G) = some g' ∧ yAg dMd g g' ∧ yMm g' (yMd both L (2 ^ ySl L)) (2 * ySl L) := by
        intro d
        induction d with
        | zero =>
          intro j G hj y s
          have : j = L.length := by omega
          subst this
          rw [List.take_length] at s
          exact ⟨G, xlim_end (if_pos (nI_le (Nat.le_refl _) (by omega))), y, s⟩
        | succ d ih =>
          intro j G hj y s
          have hjl : j < L.length := by omega
          have memj : L.getD j 0 ∈ L := by rw [yGet hjl]; exact List.getElem_mem hjl
          obtain ⟨s1, s2⟩ := hx _ memj
          have tk := ySl_take hjl
          have tle := ySl_tk L (j + 1)
          have rk : xI G 171 j = nI (L.getD j 0) := (hl.md y) j hjl
          have blt := yMd_lt both L (ySl L) j (by omega)
          obtain ⟨G1, p1, p2, p3⟩ := r_md90 (a1 := nI L.length) (a2 := nI w) (a3 := m) (a4 := nI (ySl L)) (k := j) (s := L.getD j 0) (show 2 * ySl L < 1300 by omega) (by omega) s1 (by omega) rk s
          have yG1 := y.tr p2
          have step : yMd both (L.take (j + 1)) (2 ^ ySl L) = ySm both (yMd both (L.take j) (2 ^ ySl L)) (L.getD j 0) := yMd_take hjl
          cases hb : both with
          | false =>
            have hm0 : m = 0 := hm.mpr hb
            subst hb
            have st : S_X12_doReach_78 (nI L.length) (nI w) m (nI (ySl L)) (nI j, G) = some (.inl (nI (j + 1), G1)) := by
              unfold S_X12_doReach_78
              simp only [if_neg (nI_ge hjl (show L.length < 2 ^ 31 by omega)), a2A, p1, xb1_some, if_pos hm0, nI_1]
            obtain ⟨g', r1, r2⟩ := ih (j + 1) G1 (by omega) yG1 (by rw [step]; exact p3)
            exact ⟨g', (xlim_go st).trans r1, r2⟩
          | true =>
            subst hb
            have hm0 : ¬ m = 0 := fun z => by have := hm.mp z; cases this
            have lt2 : yMd true (L.take j) (2 ^ ySl L) ||| yMd true (L.take j) (2 ^ ySl L) <<< L.getD j 0 < 2 ^ (2 * ySl L + 1) := by
              have h0 := ySm_lt (both := false) (s := L.getD j 0) blt
              have h0 : yMd true (L.take j) (2 ^ ySl L) ||| yMd true (L.take j) (2 ^ ySl L) <<< L.getD j 0 < 2 ^ (ySl L + 1 + ySl (L.take j) + L.getD j 0) := h0
              exact Nat.lt_of_lt_of_le h0 (Nat.pow_le_pow_right (by decide) (by omega))
            obtain ⟨G2, t1, t2, t3⟩ := r_md158 (a1 := nI L.length) (a2 := nI w) (a3 := m) (A := ySl L) (k := j) (s := L.getD j 0) (by omega) (by omega) s1 (by omega) ((hl.md yG1) j hjl) p3 lt2
            have st : S_X12_doReach_78 (nI L.length) (nI w) m (nI (ySl L)) (nI j, G) = some (.inl (nI (j + 1), G2)) := by
              unfold S_X12_doReach_78
              simp only [if_neg (nI_ge hjl (show L.length < 2 ^ 31 by omega)), a2A, p1, xb1_some, if_neg hm0, t1, nI_1]
            obtain ⟨g', r1, r2⟩ := ih (j + 1) G2 (by omega) (yG1.tr t2) (by rw [step]; exact t3)
            exact ⟨g', (xlim_go st).trans r1, r2⟩
      obtain ⟨g2, c1, c2, c3⟩ := k78 L.length 0 g1 (by omega) b2 b3
      -- the look
      have bit : (yMd both L (2 ^ ySl L) >>> (ySl L + 1)) % 2 ^ w = 2 ^ w - 1 ↔ ∀ v, v < w → (yMd both L (2 ^ ySl L)).testBit (ySl L + 1 + v) = true := by
        constructor
        · intro h v hv
          have := congrArg (fun z => Nat.testBit z v) h
          simp only [Nat.testBit_mod_two_pow, Nat.testBit_two_pow_sub_one, decide_eq_true hv, Bool.true_and, Nat.testBit_shiftRight] at this
          exact this
        · intro h
          refine Nat.eq_of_testBit_eq fun v => ?_
          rw [Nat.testBit_mod_two_pow, Nat.testBit_two_pow_sub_one, Nat.testBit_shiftRight]
          by_cases e : v < w
          · rw [decide_eq_true e, Bool.true_and]; exact h v e
          · rw [decide_eq_false e, Bool.false_and]
      have look : ∀ d v, v + d = w + 1 → 1 ≤ v → ((∀ u, v ≤ u → u ≤ w → (yMd both L (2 ^ ySl L)).testBit (ySl L + u) = true) → xlim (S_X12_doReach_230 (nI w) (nI (ySl L))) (nI v, g2) = some (.inr g2)) ∧ ((¬ ∀ u, v ≤ u → u ≤ w → (yMd both L (2 ^ ySl L)).testBit (ySl L + u) = true) → xlim (S_X12_doReach_230 (nI w) (nI (ySl L))) (nI v, g2) = some (.inl (0, g2))) := by
        intro d
        induction d with
        | zero =>
          intro v hv h1
          refine ⟨fun _ => xlim_end (if_pos (nI_lt (by omega) (by omega))), fun z => absurd (fun u h1 h2 => by omega) z⟩
        | succ d ih =>
          intro v hv h1
          obtain ⟨i1, i2⟩ := ih (v + 1) (by omega) (by omega)
          have st : S_X12_doReach_230 (nI w) (nI (ySl L)) (nI v, g2) = if (yMd both L (2 ^ ySl L)).testBit (ySl L + v) then some (.inl (nI (v + 1), g2)) else some (.inr (.inl (0, g2))) := by
            unfold S_X12_doReach_230
            have c0 : ¬ nI w < nI v := by rw [nI_ltI (by omega) (by omega)]; omega
            simp only [if_neg c0, nI_add, xck_nI (show ySl L + v < 1300 by omega) (show (1300 : Nat) < 2 ^ 31 by decide), nI_clamp (show ySl L + v < 2 ^ 31 by omega), c3 (ySl L + v) (by omega), nI_1]
            by_cases e : (yMd both L (2 ^ ySl L)).testBit (ySl L + v) = true
            · rw [if_pos e, if_neg (by decide), if_pos e]
            · rw [if_neg e, if_pos rfl, if_neg e]
          by_cases e : (yMd both L (2 ^ ySl L)).testBit (ySl L + v) = true
          · rw [if_pos e] at st
            have go := xlim_go st
            refine ⟨fun z => go.trans (i1 fun u h1 h2 => z u (by omega) h2), fun z => go.trans (i2 fun y => z fun u h1 h2 => ?_)⟩
            by_cases q : u = v
            · subst q; exact e
            · exact y u (by omega) h2
          · rw [if_neg e] at st
            exact ⟨fun z => absurd (z v (Nat.le_refl _) (by omega)) e, fun _ => xlim_end st⟩
      obtain ⟨lk1, lk2⟩ := look w 1 (by omega) (Nat.le_refl _)
      rw [show xlim (S_X12_doReach_41 (nI L.length) (nI w) m (nI (ySl L))) (0, g) = some g1 from b1, xb1_some, show xlim (S_X12_doReach_78 (nI L.length) (nI w) m (nI (ySl L))) (0, g1) = some g2 from c1, xb1_some]
      by_cases e : (yMd both L (2 ^ ySl L) >>> (ySl L + 1)) % 2 ^ w = 2 ^ w - 1
      · refine ⟨g2, ?_, c2⟩
        have all := bit.mp e
        rw [beq_iff_eq.mpr e, show xlim (S_X12_doReach_230 (nI w) (nI (ySl L))) (1, g2) = some (.inr g2) from lk1 (fun u h1 h2 => by
          have := all (u - 1) (by omega)
          rw [show ySl L + 1 + (u - 1) = ySl L + u by omega] at this
          exact this), xbs_inr, if_pos rfl]
      · refine ⟨g2, ?_, c2⟩
        rw [Bool.eq_false_iff.mpr (fun z => e (beq_iff_eq.mp z)), show xlim (S_X12_doReach_230 (nI w) (nI (ySl L))) (1, g2) = some (.inl (0, g2)) from lk2 (fun z => e (bit.mpr fun v hv => by
          have := z (v + 1) (by omega) (by omega)
          rw [show ySl L + (v + 1) = ySl L + 1 + v by omega] at this
          exact this)), xbs_inl, if_neg (by decide)]
    · refine ⟨g, ?_, yAg.refl _ _⟩
      rw [if_neg (fun z => c ((nI_leI (by omega) (by omega)).mp z)), decide_eq_false c, Bool.false_and, if_neg (by decide)]
  · unfold S_X12_doReach_6
    simp only [if_neg (nI_ge hj (show L.length < 2 ^ 31 by omega)), xck_nI (show j < 8 by omega) (show (8 : Nat) < 2 ^ 31 by decide), nI_clamp (show j < 2 ^ 31 by omega), hl j hj, nI_add, nI_1, ySl_take hj]
  · unfold S_X12_doReach_6
    simp only []
    rw [if_pos (nI_le (Nat.le_refl _) (by omega)), List.take_length]
end STN
