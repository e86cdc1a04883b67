/-! CALLS image, back -/
section BX
variable {g g' : xSt} {β n b c : Nat} {T B : yT} {X : Nat → yT} {a1 a2 a3 a4 a5 : Int32}
theorem r_copyFrom (hd : c + 8 < b ∨ b + 8 < c) : ∃ g', E_X0_copyFrom b c g = some g' ∧ xR g' = xR g ∧ (∀ o k, ¬ (b ≤ o ∧ o ≤ b + 8) → xI g' o k = xI g o k) ∧ (∀ k, 4 ≤ k → xI g' b k = xI g b k) ∧ (∀ k, k < 4 → xI g' b k = xI g c k) ∧ (∀ j k, 1 ≤ j → j ≤ 6 → k < 60 → xI g' (b + j) k = xI g (c + j) k) ∧ (∀ k, k < 40 → xI g' (b + 7) k = xI g (c + 7) k) ∧ ∀ k, k < 5 → xI g' (b + 8) k = xI g (c + 8) k := by
  unfold E_X0_copyFrom E_X7_copy
  refine ⟨_, rfl, rfl, fun o k h => ?_, fun k h => ?_, fun k h => ?_, fun j k h1 h2 h => ?_, fun k h => ?_, fun k h => ?_⟩
  · repeat (first | rw [xI_RowI, if_neg (by omega)] | rw [yI_wi, if_neg (by omega)])
  · repeat (first | rw [xI_RowI, if_neg (by omega)] | rw [yI_wi, if_neg (by omega)])
  · have hk : k = 0 ∨ k = 1 ∨ k = 2 ∨ k = 3 := by omega
    rcases hk with rfl | rfl | rfl | rfl
    · repeat (first | rw [xI_RowI, if_neg (by omega)] | rw [yI_wi, if_neg (by omega)] | rw [yI_wi, if_pos ⟨rfl, rfl⟩])
    · repeat (first | rw [xI_RowI, if_neg (by omega)] | rw [yI_wi, if_neg (by omega)] | rw [yI_wi, if_pos ⟨rfl, rfl⟩])
    · repeat (first | rw [xI_RowI, if_neg (by omega)] | rw [yI_wi, if_neg (by omega)] | rw [yI_wi, if_pos ⟨rfl, rfl⟩])
    · repeat (first | rw [xI_RowI, if_neg (by omega)] | rw [yI_wi, if_neg (by omega)] | rw [yI_wi, if_pos ⟨rfl, rfl⟩])
  · have hj : j = 1 ∨ j = 2 ∨ j = 3 ∨ j = 4 ∨ j = 5 ∨ j = 6 := by omega
    rcases hj with rfl | rfl | rfl | rfl | rfl | rfl
    · repeat (first | rw [xI_RowI, if_neg (by omega)] | rw [yI_wi, if_neg (by omega)] | rw [xI_RowI, if_pos rfl, if_pos ⟨h, h⟩])
    · repeat (first | rw [xI_RowI, if_neg (by omega)] | rw [yI_wi, if_neg (by omega)] | rw [xI_RowI, if_pos rfl, if_pos ⟨h, h⟩])
    · repeat (first | rw [xI_RowI, if_neg (by omega)] | rw [yI_wi, if_neg (by omega)] | rw [xI_RowI, if_pos rfl, if_pos ⟨h, h⟩])
    · repeat (first | rw [xI_RowI, if_neg (by omega)] | rw [yI_wi, if_neg (by omega)] | rw [xI_RowI, if_pos rfl, if_pos ⟨h, h⟩])
    · repeat (first | rw [xI_RowI, if_neg (by omega)] | rw [yI_wi, if_neg (by omega)] | rw [xI_RowI, if_pos rfl, if_pos ⟨h, h⟩])
    · repeat (first | rw [xI_RowI, if_neg (by omega)] | rw [yI_wi, if_neg (by omega)] | rw [xI_RowI, if_pos rfl, if_pos ⟨h, h⟩])
  · repeat (first | rw [xI_RowI, if_neg (by omega)] | rw [yI_wi, if_neg (by omega)] | rw [xI_RowI, if_pos rfl, if_pos ⟨h, h⟩])
  · repeat (first | rw [xI_RowI, if_neg (by omega)] | rw [yI_wi, if_neg (by omega)] | rw [xI_RowI, if_pos rfl, if_pos ⟨h, h⟩])
theorem bkC.copy (hw : bkOK n B) (hn : n ≤ 5) (h : bkC g c n B) (e0 : ∀ k, k < 4 → xI g' b k = xI g c k) (e1 : ∀ j k, 1 ≤ j → j ≤ 6 → k < 60 → xI g' (b + j) k = xI g (c + j) k) (e7 : ∀ k, k < 40 → xI g' (b + 7) k = xI g (c + 7) k) (e8 : ∀ k, k < 5 → xI g' (b + 8) k = xI g (c + 8) k) : bkC g' b n B := by
  obtain ⟨q0, q1, q2, q3, q4, q5, q6⟩ := h
  obtain ⟨w1, w2, -⟩ := hw
  refine ⟨(e0 0 (by decide)).trans q0, (e0 1 (by decide)).trans q1, (e0 2 (by decide)).trans q2, (e0 3 (by decide)).trans q3, fun i hi => ?_, fun w hw => (e7 w (by omega)).trans (q5 w hw), fun k hk => (e8 k (by omega)).trans (q6 k hk)⟩
  obtain ⟨c1, c2, c3, c4, c5, c6⟩ := q4 i hi
  exact ⟨(e1 1 i (by decide) (by decide) (by omega)).trans c1, (e1 2 i (by decide) (by decide) (by omega)).trans c2, (e1 3 i (by decide) (by decide) (by omega)).trans c3, (e1 4 i (by decide) (by decide) (by omega)).trans c4, (e1 5 i (by decide) (by decide) (by omega)).trans c5, (e1 6 i (by decide) (by decide) (by omega)).trans c6⟩
/-- the cells of box a with the reference -/
def dX (a o k : Nat) : Prop := ((o = 174 ∨ o = 175 ∨ o = 177 ∨ o = 178) ∧ k = a) ∨ (o = 179 ∧ 5 * a ≤ k ∧ k < 5 * a + 5) ∨ (o = 180 ∧ 80 * a ≤ k ∧ k < 80 * a + 80) ∨ (o = 176 ∧ 300 * a ≤ k ∧ k < 300 * a + 300)
theorem bkX.ne {a j : Nat} (h : yAg (dX a) g g') (hj : j ≠ a) (hw : bkOK n B) (hn : n ≤ 5) (q : bkX g j n B) : bkX g' j n B := by
  obtain ⟨q0, q1, q2, q3, q4, q5, q6⟩ := q
  obtain ⟨w1, w2, -⟩ := hw
  refine ⟨(h.2 _ _ (by unfold dX; omega)).trans q0, (h.2 _ _ (by unfold dX; omega)).trans q1, (h.2 _ _ (by unfold dX; omega)).trans q2, (h.2 _ _ (by unfold dX; omega)).trans q3, fun i hi => ?_, fun w hw => ?_, fun k hk => (h.2 _ _ (by unfold dX; omega)).trans (q6 k hk)⟩
  · obtain ⟨c1, c2, c3, c4, c5⟩ := q4 i hi
    exact ⟨(h.2 _ _ (by unfold dX; omega)).trans c1, (h.2 _ _ (by unfold dX; omega)).trans c2, (h.2 _ _ (by unfold dX; omega)).trans c3, (h.2 _ _ (by unfold dX; omega)).trans c4, (h.2 _ _ (by unfold dX; omega)).trans c5⟩
  · exact ⟨(h.2 _ _ (by unfold dX; omega)).trans (q5 w hw).1, (h.2 _ _ (by unfold dX; omega)).trans (q5 w hw).2⟩
theorem r_img53 {a : Nat} (ha : a < 3) : ∀ m t g1, m + t = 5 → yAg (dX a) g g1 → (∀ o k, o ≠ 179 → xI g1 o k = xI g o k) → (∀ i, i < t → xI g1 179 (5 * a + i) = xI g 143 i) → ∃ g', xlim (S_X12_image_53 (nI a)) (nI t, g1) = some g' ∧ yAg (dX a) g g' ∧ (∀ o k, o ≠ 179 → xI g' o k = xI g o k) ∧ ∀ i, i < 5 → xI g' 179 (5 * a + i) = xI g 143 i := by
  intro m
  induction m with
  | zero =>
    intro t g1 ht y e s
    have : t = 5 := by omega
    subst this
    exact ⟨g1, xlim_end (if_pos (show (5 : Int32) ≤ nI 5 by decide)), y, e, s⟩
  | succ m ih =>
    intro t g1 ht y e s
    have h5 : ¬ (5 : Int32) ≤ nI t := by rw [show (5 : Int32) = nI 5 from rfl]; exact nI_ge (by omega) (by decide)
    have st : S_X12_image_53 (nI a) (nI t, g1) = some (.inl (nI (t + 1), xWI g1 179 (5 * a + t) (xI g 143 t))) := by
      unfold S_X12_image_53
      simp only [if_neg h5]
      rw [show (5 : Int32) * nI a = nI (5 * a) by rw [show (5 : Int32) = nI 5 from rfl, nI_mul], nI_add, xck_nI (by omega) (by decide), xck_nI (by omega) (by decide), nI_clamp (by omega), nI_clamp (by omega), e 143 t (by decide), nI_1]
    obtain ⟨g', r1, r2⟩ := ih (t + 1) (xWI g1 179 (5 * a + t) (xI g 143 t)) (by omega) (y.wi (by unfold dX; omega)) (fun o k ho => by rw [yI_wi, if_neg (fun z => ho z.1)]; exact e o k ho) (fun i hi => by
      rw [yI_wi]
      by_cases z : i = t
      · rw [if_pos ⟨rfl, by omega⟩, z]
      · rw [if_neg (by omega)]; exact s i (by omega))
    exact ⟨g', (xlim_go st).trans r1, r2⟩
theorem r_img82 {a D : Nat} (ha : a < 3) (hD : xI g 113 46 = nI D) (hD4 : D ≤ 40) : ∀ m t g1, m + t = D → yAg (dX a) g g1 → (∀ o k, o ≠ 180 → xI g1 o k = xI g o k) → (∀ i, i < t → xI g1 180 (80 * a + i) = xI g 141 i ∧ xI g1 180 (80 * a + 40 + i) = xI g 142 i) → ∃ g', xlim (S_X12_image_82 (nI a)) (nI t, g1) = some g' ∧ yAg (dX a) g g' ∧ (∀ o k, o ≠ 180 → xI g' o k = xI g o k) ∧ ∀ i, i < D → xI g' 180 (80 * a + i) = xI g 141 i ∧ xI g' 180 (80 * a + 40 + i) = xI g 142 i := by
  intro m
  induction m with
  | zero =>
    intro t g1 ht y e s
    have : t = D := by omega
    subst this
    refine ⟨g1, xlim_end ?_, y, e, s⟩
    unfold S_X12_image_82
    simp only [e 113 46 (by decide), hD]
    exact if_pos (nI_le (Nat.le_refl _) (by omega))
  | succ m ih =>
    intro t g1 ht y e s
    have st : S_X12_image_82 (nI a) (nI t, g1) = some (.inl (nI (t + 1), xWI (xWI g1 180 (80 * a + t) (xI g 141 t)) 180 (80 * a + 40 + t) (xI g 142 t))) := by
      unfold S_X12_image_82
      simp only [e 113 46 (by decide), hD, if_neg (nI_ge (show t < D by omega) (show D < 2 ^ 31 by omega)), show (80 : Int32) = nI 80 from rfl, show (40 : Int32) = nI 40 from rfl, nI_mul, nI_add, xck_nI (show t < 40 by omega) (show (40 : Nat) < 2 ^ 31 by decide), xck_nI (show 80 * a + t < 240 by omega) (show (240 : Nat) < 2 ^ 31 by decide), xck_nI (show 80 * a + 40 + t < 240 by omega) (show (240 : Nat) < 2 ^ 31 by decide), nI_clamp (show t < 2 ^ 31 by omega), nI_clamp (show 80 * a + t < 2 ^ 31 by omega), nI_clamp (show 80 * a + 40 + t < 2 ^ 31 by omega), e 141 t (by decide), e 142 t (by decide), nI_1]
    obtain ⟨g', r1, r2⟩ := ih (t + 1) (xWI (xWI g1 180 (80 * a + t) (xI g 141 t)) 180 (80 * a + 40 + t) (xI g 142 t)) (by omega) ((y.wi (by unfold dX; omega)).wi (by unfold dX; omega)) (fun o k ho => by rw [yI_wi, if_neg (fun z => ho z.1), yI_wi, if_neg (fun z => ho z.1)]; exact e o k ho) (fun i hi => by
      rw [yI_wi, yI_wi, yI_wi, yI_wi]
      by_cases z : i = t
      · subst z
        rw [if_neg (by omega), if_pos ⟨rfl, rfl⟩, if_pos ⟨rfl, rfl⟩]; exact ⟨rfl, rfl⟩
      · rw [if_neg (by omega), if_neg (by omega), if_neg (by omega), if_neg (by omega)]; exact s i (by omega))
    exact ⟨g', (xlim_go st).trans r1, r2⟩
/-- the five numbers of weighing i -/
def y5 (g : xSt) (a i : Nat) (h : xSt) : Prop := xI g 176 (300 * a + 5 * i) = xI h 136 i ∧ xI g 176 (300 * a + 5 * i + 1) = xI h 137 i ∧ xI g 176 (300 * a + 5 * i + 2) = xI h 138 i ∧ xI g 176 (300 * a + 5 * i + 3) = xI h 139 i ∧ xI g 176 (300 * a + 5 * i + 4) = xI h 140 i
theorem r_img135 {a D : Nat} (ha : a < 3) (hD : xI g 113 44 = nI D) (hD4 : D ≤ 60) : ∀ m t g1, m + t = D → yAg (dX a) g g1 → (∀ o k, o ≠ 176 → xI g1 o k = xI g o k) → (∀ i, i < t → y5 g1 a i g) → ∃ g', xlim (S_X12_image_135 (nI a)) (nI t, g1) = some g' ∧ yAg (dX a) g g' ∧ (∀ o k, o ≠ 176 → xI g' o k = xI g o k) ∧ ∀ i, i < D → y5 g' a i g := by
  intro m
  induction m with
  | zero =>
    intro t g1 ht y e s
    have : t = D := by omega
    subst this
    refine ⟨g1, xlim_end ?_, y, e, s⟩
    unfold S_X12_image_135
    simp only [e 113 44 (by decide), hD]
    exact if_pos (nI_le (Nat.le_refl _) (by omega))
  | succ m ih =>
    intro t g1 ht y e s
    have st : S_X12_image_135 (nI a) (nI t, g1) = some (.inl (nI (t + 1), xWI (xWI (xWI (xWI (xWI g1 176 (300 * a + 5 * t) (xI g 136 t)) 176 (300 * a + 5 * t + 1) (xI g 137 t)) 176 (300 * a + 5 * t + 2) (xI g 138 t)) 176 (300 * a + 5 * t + 3) (xI g 139 t)) 176 (300 * a + 5 * t + 4) (xI g 140 t))) := by
      unfold S_X12_image_135
      simp only [e 113 44 (by decide), hD, if_neg (nI_ge (show t < D by omega) (show D < 2 ^ 31 by omega)), show (300 : Int32) = nI 300 from rfl, show (5 : Int32) = nI 5 from rfl, show (2 : Int32) = nI 2 from rfl, show (3 : Int32) = nI 3 from rfl, show (4 : Int32) = nI 4 from rfl, nI_mul, nI_add, nI_1, xck_nI (show t < 60 by omega) (show (60 : Nat) < 2 ^ 31 by decide), xck_nI (show 300 * a + 5 * t < 900 by omega) (show (900 : Nat) < 2 ^ 31 by decide), xck_nI (show 300 * a + 5 * t + 1 < 900 by omega) (show (900 : Nat) < 2 ^ 31 by decide), xck_nI (show 300 * a + 5 * t + 2 < 900 by omega) (show (900 : Nat) < 2 ^ 31 by decide), xck_nI (show 300 * a + 5 * t + 3 < 900 by omega) (show (900 : Nat) < 2 ^ 31 by decide), xck_nI (show 300 * a + 5 * t + 4 < 900 by omega) (show (900 : Nat) < 2 ^ 31 by decide), nI_clamp (show t < 2 ^ 31 by omega), nI_clamp (show 300 * a + 5 * t < 2 ^ 31 by omega), nI_clamp (show 300 * a + 5 * t + 1 < 2 ^ 31 by omega), nI_clamp (show 300 * a + 5 * t + 2 < 2 ^ 31 by omega), nI_clamp (show 300 * a + 5 * t + 3 < 2 ^ 31 by omega), nI_clamp (show 300 * a + 5 * t + 4 < 2 ^ 31 by omega), e 136 t (by decide), e 137 t (by decide), e 138 t (by decide), e 139 t (by decide)]
      simp [yI_wi, e 140 t (by decide)]
    obtain ⟨g', r1, r2⟩ := ih (t + 1) (xWI (xWI (xWI (xWI (xWI g1 176 (300 * a + 5 * t) (xI g 136 t)) 176 (300 * a + 5 * t + 1) (xI g 137 t)) 176 (300 * a + 5 * t + 2) (xI g 138 t)) 176 (300 * a + 5 * t + 3) (xI g 139 t)) 176 (300 * a + 5 * t + 4) (xI g 140 t)) (by omega) (((((y.wi (by unfold dX; omega)).wi (by unfold dX; omega)).wi (by unfold dX; omega)).wi (by unfold dX; omega)).wi (by unfold dX; omega)) (fun o k ho => by rw [yI_wi, if_neg (fun z => ho z.1), yI_wi, if_neg (fun z => ho z.1), yI_wi, if_neg (fun z => ho z.1), yI_wi, if_neg (fun z => ho z.1), yI_wi, if_neg (fun z => ho z.1)]; exact e o k ho) (fun i hi => by
      by_cases z : i = t
      · subst z
        unfold y5
        simp [yI_wi]
      · obtain ⟨s1, s2, s3, s4, s5⟩ := s i (by omega)
        unfold y5
        refine ⟨?_, ?_, ?_, ?_, ?_⟩
        · repeat rw [yI_wi, if_neg (by omega)]
          exact s1
        · repeat rw [yI_wi, if_neg (by omega)]
          exact s2
        · repeat rw [yI_wi, if_neg (by omega)]
          exact s3
        · repeat rw [yI_wi, if_neg (by omega)]
          exact s4
        · repeat rw [yI_wi, if_neg (by omega)]
          exact s5)
    exact ⟨g', (xlim_go st).trans r1, r2⟩
theorem r_imageR {a : Nat} (ha : a < 3) (hn : n ≤ 5) (hw : bkOK n B) (h : bkR g n B) : ∃ g', E_X12_image (nI a) g = some (nI (B 9 0), g') ∧ yAg (dX a) g g' ∧ bkX g' a n B ∧ xI g' 174 a = nI (B 9 0) := by
  obtain ⟨q0, q1, q2, q3, q4, q5, q6⟩ := h
  obtain ⟨w1, w2, -⟩ := id hw
  generalize hG : xWI (xWI (xWI (xWI g 174 a (xI g 113 44)) 175 a (xI g 113 45)) 177 a (xI g 113 46)) 178 a (xI g 113 47) = G
  have oG : ∀ o k, ¬ (o = 174 ∨ o = 175 ∨ o = 177 ∨ o = 178) → xI G o k = xI g o k := fun o k h => by
    rw [← hG, yI_wi, if_neg (by omega), yI_wi, if_neg (by omega), yI_wi, if_neg (by omega), yI_wi, if_neg (by omega)]
  have yG : yAg (dX a) g G := by
    rw [← hG]
    exact ((((yAg.refl _ g).wi (by unfold dX; omega)).wi (by unfold dX; omega)).wi (by unfold dX; omega)).wi (by unfold dX; omega)
  have f4 : xI G 174 a = nI (B 9 0) ∧ xI G 175 a = nI (B 9 2) ∧ xI G 177 a = nI (B 9 1) ∧ xI G 178 a = nI (B 9 3) := by
    rw [← hG]; simp [yI_wi, q0, q1, q2, q3]
  obtain ⟨g1, r1, r2, r3, r4⟩ := r_img53 (g := G) ha 5 0 G (by omega) (yAg.refl _ _) (fun _ _ _ => rfl) (fun i hi => by omega)
  have h46 : xI g1 113 46 = nI (B 9 1) := (r3 _ _ (by decide)).trans ((oG _ _ (by decide)).trans q1)
  obtain ⟨g2, s1, s2, s3, s4⟩ := r_img82 (g := g1) ha h46 w2 (B 9 1) 0 g1 (by omega) (yAg.refl _ _) (fun _ _ _ => rfl) (fun i hi => by omega)
  have h44 : xI g2 113 44 = nI (B 9 0) := (s3 _ _ (by decide)).trans ((r3 _ _ (by decide)).trans ((oG _ _ (by decide)).trans q0))
  obtain ⟨g3, t1, t2, t3, t4⟩ := r_img135 (g := g2) ha h44 w1 (B 9 0) 0 g2 (by omega) (yAg.refl _ _) (fun _ _ _ => rfl) (fun i hi => by omega)
  have go : ∀ o k, o ≠ 176 → o ≠ 179 → o ≠ 180 → xI g3 o k = xI G o k := fun o k h1 h2 h3 => (t3 o k h1).trans ((s3 o k h3).trans (r3 o k h2))
  have src : ∀ o k, 136 ≤ o → o ≤ 143 → xI g2 o k = xI g o k := fun o k h1 h2 => (s3 o k (by omega)).trans ((r3 o k (by omega)).trans (oG o k (by omega)))
  refine ⟨g3, ?_, ((yG.tr r2).tr s2).tr t2, ⟨?_, ?_, ?_, ?_, fun i hi => ?_, fun w hw => ?_, fun k hk => ?_⟩, ?_⟩
  · unfold E_X12_image
    rw [show F_X12_isIn g (nI a) 0 2 = 1 by
      unfold F_X12_isIn
      rw [if_neg (nI_pos (by omega)), if_neg (fun z => by rw [show (2 : Int32) = nI 2 from rfl, nI_ltI (by decide) (by omega)] at z; omega)], if_neg (by decide), xck_nI ha (by decide), xck_nI ha (by decide), xck_nI ha (by decide), xck_nI ha (by decide), nI_clamp (by omega)]
    rw [hG, show xlim (S_X12_image_53 (nI a)) (0, G) = some g1 from r1, xb1_some, show xlim (S_X12_image_82 (nI a)) (0, g1) = some g2 from s1, xb1_some, show xlim (S_X12_image_135 (nI a)) (0, g2) = some g3 from t1, xb1_some, t3 113 44 (by decide), h44]
  · exact (go _ _ (by decide) (by decide) (by decide)).trans f4.1
  · exact (go _ _ (by decide) (by decide) (by decide)).trans f4.2.2.1
  · exact (go _ _ (by decide) (by decide) (by decide)).trans f4.2.1
  · exact (go _ _ (by decide) (by decide) (by decide)).trans f4.2.2.2
  · obtain ⟨c1, c2, c3, c4, c5⟩ := t4 i hi
    obtain ⟨d1, d2, d3, d4, d5⟩ := q4 i hi
    exact ⟨c1.trans ((src _ _ (by decide) (by decide)).trans d1), c2.trans ((src _ _ (by decide) (by decide)).trans d2), c3.trans ((src _ _ (by decide) (by decide)).trans d3), c4.trans ((src _ _ (by decide) (by decide)).trans d4), c5.trans ((src _ _ (by decide) (by decide)).trans d5)⟩
  · have s1 := s4 w hw
    have x1 : xI g1 141 w = xI g 141 w := (r3 _ _ (by decide)).trans (oG _ _ (by decide))
    have x2 : xI g1 142 w = xI g 142 w := (r3 _ _ (by decide)).trans (oG _ _ (by decide))
    exact ⟨(t3 _ _ (by decide)).trans (s1.1.trans (x1.trans (q5 w hw).1)), (t3 _ _ (by decide)).trans (s1.2.trans (x2.trans (q5 w hw).2))⟩
  · exact (t3 _ _ (by decide)).trans ((s3 _ _ (by decide)).trans ((r4 k (by omega)).trans ((oG _ _ (by decide)).trans (q6 k hk))))
  · exact (go _ _ (by decide) (by decide) (by decide)).trans f4.1
theorem r_bk62 {a : Nat} (ha : a < 3) : ∀ m t g1, m + t = 5 → (∀ o k, o ≠ 143 → xI g1 o k = xI g o k) → xR g1 = xR g → (∀ i, i < t → xI g1 143 i = xI g 179 (5 * a + i)) → ∃ g', xlim (S_X12_back_62 (nI a)) (nI t, g1) = some g' ∧ xR g' = xR g ∧ (∀ o k, o ≠ 143 → xI g' o k = xI g o k) ∧ ∀ i, i < 5 → xI g' 143 i = xI g 179 (5 * a + i) := by
  intro m
  induction m with
  | zero =>
    intro t g1 ht e y s
    have : t = 5 := by omega
    subst this
    exact ⟨g1, xlim_end (if_pos (show (5 : Int32) ≤ nI 5 by decide)), y, e, s⟩
  | succ m ih =>
    intro t g1 ht e y s
    have h5 : ¬ (5 : Int32) ≤ nI t := by rw [show (5 : Int32) = nI 5 from rfl]; exact nI_ge (by omega) (by decide)
    have st : S_X12_back_62 (nI a) (nI t, g1) = some (.inl (nI (t + 1), xWI g1 143 t (xI g 179 (5 * a + t)))) := by
      unfold S_X12_back_62
      simp only [if_neg h5]
      rw [show (5 : Int32) * nI a = nI (5 * a) by rw [show (5 : Int32) = nI 5 from rfl, nI_mul], nI_add, xck_nI (by omega) (by decide), xck_nI (by omega) (by decide), nI_clamp (by omega), nI_clamp (by omega), e 179 _ (by decide), nI_1]
    obtain ⟨g', r1, r2⟩ := ih (t + 1) (xWI g1 143 t (xI g 179 (5 * a + t))) (by omega) (fun o k ho => by rw [yI_wi, if_neg (fun z => ho z.1)]; exact e o k ho) y (fun i hi => by
      rw [yI_wi]
      by_cases z : i = t
      · rw [if_pos ⟨rfl, z⟩, z]
      · rw [if_neg (by omega)]; exact s i (by omega))
    exact ⟨g', (xlim_go st).trans r1, r2⟩
theorem r_bk91 {a D : Nat} (ha : a < 3) (hD : xI g 113 46 = nI D) (hD4 : D ≤ 40) : ∀ m t g1, m + t = D → (∀ o k, ¬ (o = 141 ∨ o = 142) → xI g1 o k = xI g o k) → xR g1 = xR g → (∀ i, i < t → xI g1 141 i = xI g 180 (80 * a + i) ∧ xI g1 142 i = xI g 180 (80 * a + 40 + i)) → ∃ g', xlim (S_X12_back_91 (nI a)) (nI t, g1) = some g' ∧ xR g' = xR g ∧ (∀ o k, ¬ (o = 141 ∨ o = 142) → xI g' o k = xI g o k) ∧ ∀ i, i < D → xI g' 141 i = xI g 180 (80 * a + i) ∧ xI g' 142 i = xI g 180 (80 * a + 40 + i) := by
  intro m
  induction m with
  | zero =>
    intro t g1 ht e y s
    have : t = D := by omega
    subst this
    refine ⟨g1, xlim_end ?_, y, e, s⟩
    unfold S_X12_back_91
    simp only [e 113 46 (by decide), hD]
    exact if_pos (nI_le (Nat.le_refl _) (by omega))
  | succ m ih =>
    intro t g1 ht e y s
    have st : S_X12_back_91 (nI a) (nI t, g1) = some (.inl (nI (t + 1), xWI (xWI g1 141 t (xI g 180 (80 * a + t))) 142 t (xI g 180 (80 * a + 40 + t)))) := by
      unfold S_X12_back_91
      simp only [e 113 46 (by decide), hD, if_neg (nI_ge (show t < D by omega) (show D < 2 ^ 31 by omega)), show (80 : Int32) = nI 80 from rfl, show (40 : Int32) = nI 40 from rfl, nI_mul, nI_add, xck_nI (show t < 40 by omega) (show (40 : Nat) < 2 ^ 31 by decide), xck_nI (show 80 * a + t < 240 by omega) (show (240 : Nat) < 2 ^ 31 by decide), xck_nI (show 80 * a + 40 + t < 240 by omega) (show (240 : Nat) < 2 ^ 31 by decide), nI_clamp (show t < 2 ^ 31 by omega), nI_clamp (show 80 * a + t < 2 ^ 31 by omega), nI_clamp (show 80 * a + 40 + t < 2 ^ 31 by omega), e 180 (80 * a + t) (by decide), e 180 (80 * a + 40 + t) (by decide), nI_1]
    obtain ⟨g', r1, r2⟩ := ih (t + 1) (xWI (xWI g1 141 t (xI g 180 (80 * a + t))) 142 t (xI g 180 (80 * a + 40 + t))) (by omega) (fun o k ho => by rw [yI_wi, if_neg (by omega), yI_wi, if_neg (by omega)]; exact e o k ho) y (fun i hi => by
      rw [yI_wi, yI_wi, yI_wi, yI_wi]
      by_cases z : i = t
      · subst z
        rw [if_neg (by omega), if_pos ⟨rfl, rfl⟩, if_pos ⟨rfl, rfl⟩]; exact ⟨rfl, rfl⟩
      · rw [if_neg (by omega), if_neg (by omega), if_neg (by omega), if_neg (by omega)]; exact s i (by omega))
    exact ⟨g', (xlim_go st).trans r1, r2⟩
def y5b (g : xSt) (a i : Nat) (h : xSt) : Prop := xI g 136 i = xI h 176 (300 * a + 5 * i) ∧ xI g 137 i = xI h 176 (300 * a + 5 * i + 1) ∧ xI g 138 i = xI h 176 (300 * a + 5 * i + 2) ∧ xI g 139 i = xI h 176 (300 * a + 5 * i + 3) ∧ xI g 140 i = xI h 176 (300 * a + 5 * i + 4)
theorem r_bk144 {a D : Nat} (ha : a < 3) (hD : xI g 113 44 = nI D) (hD4 : D ≤ 60) : ∀ m t g1, m + t = D → (∀ o k, ¬ (136 ≤ o ∧ o ≤ 140) → xI g1 o k = xI g o k) → xR g1 = xR g → (∀ i, i < t → y5b g1 a i g) → ∃ g', xlim (S_X12_back_144 (nI a)) (nI t, g1) = some g' ∧ xR g' = xR g ∧ (∀ o k, ¬ (136 ≤ o ∧ o ≤ 140) → xI g' o k = xI g o k) ∧ ∀ i, i < D → y5b g' a i g := by
  intro m
  induction m with
  | zero =>
    intro t g1 ht e y s
    have : t = D := by omega
    subst this
    refine ⟨g1, xlim_end ?_, y, e, s⟩
    unfold S_X12_back_144
    simp only [e 113 44 (by decide), hD]
    exact if_pos (nI_le (Nat.le_refl _) (by omega))
  | succ m ih =>
    intro t g1 ht e y s
    have st : S_X12_back_144 (nI a) (nI t, g1) = some (.inl (nI (t + 1), xWI (xWI (xWI (xWI (xWI g1 136 t (xI g 176 (300 * a + 5 * t))) 137 t (xI g 176 (300 * a + 5 * t + 1))) 138 t (xI g 176 (300 * a + 5 * t + 2))) 139 t (xI g 176 (300 * a + 5 * t + 3))) 140 t (xI g 176 (300 * a + 5 * t + 4)))) := by
      unfold S_X12_back_144
      simp only [e 113 44 (by decide), hD, if_neg (nI_ge (show t < D by omega) (show D < 2 ^ 31 by omega)), show (300 : Int32) = nI 300 from rfl, show (5 : Int32) = nI 5 from rfl, show (2 : Int32) = nI 2 from rfl, show (3 : Int32) = nI 3 from rfl, show (4 : Int32) = nI 4 from rfl, nI_mul, nI_add, nI_1, xck_nI (show t < 60 by omega) (show (60 : Nat) < 2 ^ 31 by decide), xck_nI (show 300 * a + 5 * t < 900 by omega) (show (900 : Nat) < 2 ^ 31 by decide), xck_nI (show 300 * a + 5 * t + 1 < 900 by omega) (show (900 : Nat) < 2 ^ 31 by decide), xck_nI (show 300 * a + 5 * t + 2 < 900 by omega) (show (900 : Nat) < 2 ^ 31 by decide), xck_nI (show 300 * a + 5 * t + 3 < 900 by omega) (show (900 : Nat) < 2 ^ 31 by decide), xck_nI (show 300 * a + 5 * t + 4 < 900 by omega) (show (900 : Nat) < 2 ^ 31 by decide), nI_clamp (show t < 2 ^ 31 by omega), nI_clamp (show 300 * a + 5 * t < 2 ^ 31 by omega), nI_clamp (show 300 * a + 5 * t + 1 < 2 ^ 31 by omega), nI_clamp (show 300 * a + 5 * t + 2 < 2 ^ 31 by omega), nI_clamp (show 300 * a + 5 * t + 3 < 2 ^ 31 by omega), nI_clamp (show 300 * a + 5 * t + 4 < 2 ^ 31 by omega), e 176 (300 * a + 5 * t) (by decide), e 176 (300 * a + 5 * t + 1) (by decide), e 176 (300 * a + 5 * t + 2) (by decide), e 176 (300 * a + 5 * t + 3) (by decide)]
      simp [yI_wi, e 176 (300 * a + 5 * t + 4) (by decide)]
    obtain ⟨g', r1, r2⟩ := ih (t + 1) (xWI (xWI (xWI (xWI (xWI g1 136 t (xI g 176 (300 * a + 5 * t))) 137 t (xI g 176 (300 * a + 5 * t + 1))) 138 t (xI g 176 (300 * a + 5 * t + 2))) 139 t (xI g 176 (300 * a + 5 * t + 3))) 140 t (xI g 176 (300 * a + 5 * t + 4))) (by omega) (fun o k ho => by rw [yI_wi, if_neg (by omega), yI_wi, if_neg (by omega), yI_wi, if_neg (by omega), yI_wi, if_neg (by omega), yI_wi, if_neg (by omega)]; exact e o k ho) y (fun i hi => by
      by_cases z : i = t
      · subst z
        unfold y5b
        simp [yI_wi]
      · obtain ⟨s1, s2, s3, s4, s5⟩ := s i (by omega)
        unfold y5b
        refine ⟨?_, ?_, ?_, ?_, ?_⟩
        · repeat rw [yI_wi, if_neg (by omega)]
          exact s1
        · repeat rw [yI_wi, if_neg (by omega)]
          exact s2
        · repeat rw [yI_wi, if_neg (by omega)]
          exact s3
        · repeat rw [yI_wi, if_neg (by omega)]
          exact s4
        · repeat rw [yI_wi, if_neg (by omega)]
          exact s5)
    exact ⟨g', (xlim_go st).trans r1, r2⟩
def dBk (o k : Nat) : Prop := (136 ≤ o ∧ o ≤ 143) ∨ (o = 113 ∧ 44 ≤ k ∧ k ≤ 47)
theorem r_backR {a : Nat} (ha : a < 3) (hn : n ≤ 5) (hw : bkOK n B) (h : bkX g a n B) : ∃ g', E_X12_back (nI a) g = some (nI (B 9 0), g') ∧ yAg dBk g g' ∧ bkR g' n B := by
  obtain ⟨q0, q1, q2, q3, q4, q5, q6⟩ := h
  obtain ⟨w1, w2, -⟩ := id hw
  generalize hG : xWI (xWI (xWI (xWI g 113 44 (xI g 174 a)) 113 45 (xI g 175 a)) 113 46 (xI g 177 a)) 113 47 (xI g 178 a) = G
  have oG : ∀ o k, ¬ (o = 113 ∧ 44 ≤ k ∧ k ≤ 47) → xI G o k = xI g o k := fun o k h => by
    rw [← hG, yI_wi, if_neg (by omega), yI_wi, if_neg (by omega), yI_wi, if_neg (by omega), yI_wi, if_neg (by omega)]
  have f4 : xI G 113 44 = nI (B 9 0) ∧ xI G 113 45 = nI (B 9 2) ∧ xI G 113 46 = nI (B 9 1) ∧ xI G 113 47 = nI (B 9 3) := by
    rw [← hG]; simp [yI_wi, q0, q1, q2, q3]
  obtain ⟨g1, r1, r2, r3, r4⟩ := r_bk62 (g := G) ha 5 0 G (by omega) (fun _ _ _ => rfl) rfl (fun i hi => by omega)
  have h46 : xI g1 113 46 = nI (B 9 1) := (r3 _ _ (by decide)).trans f4.2.2.1
  obtain ⟨g2, s1, s2, s3, s4⟩ := r_bk91 (g := g1) ha h46 w2 (B 9 1) 0 g1 (by omega) (fun _ _ _ => rfl) rfl (fun i hi => by omega)
  have h44 : xI g2 113 44 = nI (B 9 0) := (s3 _ _ (by decide)).trans ((r3 _ _ (by decide)).trans f4.1)
  obtain ⟨g3, t1, t2, t3, t4⟩ := r_bk144 (g := g2) ha h44 w1 (B 9 0) 0 g2 (by omega) (fun _ _ _ => rfl) rfl (fun i hi => by omega)
  have go : ∀ o k, ¬ (136 ≤ o ∧ o ≤ 143) → xI g3 o k = xI G o k := fun o k h1 => (t3 o k (by omega)).trans ((s3 o k (by omega)).trans (r3 o k (by omega)))
  have src : ∀ o k, 144 ≤ o → xI g2 o k = xI g o k := fun o k h1 => (s3 o k (by omega)).trans ((r3 o k (by omega)).trans (oG o k (by omega)))
  refine ⟨g3, ?_, ⟨t2.trans (s2.trans (r2.trans (by rw [← hG]; rfl))), fun o k h => ?_⟩, ⟨?_, ?_, ?_, ?_, fun i hi => ?_, fun w hw => ?_, fun k hk => ?_⟩⟩
  · unfold E_X12_back
    rw [show F_X12_isIn g (nI a) 0 2 = 1 by
      unfold F_X12_isIn
      rw [if_neg (nI_pos (by omega)), if_neg (fun z => by rw [show (2 : Int32) = nI 2 from rfl, nI_ltI (by decide) (by omega)] at z; omega)], if_neg (by decide), xck_nI ha (by decide), nI_clamp (by omega), if_pos (show (0 : Int32) ≤ xI g 174 a by rw [q0]; exact nI_le (a := 0) (Nat.zero_le _) (by omega)), xck_nI ha (by decide), xck_nI ha (by decide), xck_nI ha (by decide), xck_nI ha (by decide)]
    rw [hG, show xlim (S_X12_back_62 (nI a)) (0, G) = some g1 from r1, xb1_some, show xlim (S_X12_back_91 (nI a)) (0, g1) = some g2 from s1, xb1_some, show xlim (S_X12_back_144 (nI a)) (0, g2) = some g3 from t1, xb1_some, t3 113 44 (by decide), h44]
  · unfold dBk at h
    exact (go o k (by omega)).trans (oG o k (by omega))
  · exact (go _ _ (by decide)).trans f4.1
  · exact (go _ _ (by decide)).trans f4.2.2.1
  · exact (go _ _ (by decide)).trans f4.2.1
  · exact (go _ _ (by decide)).trans f4.2.2.2
  · obtain ⟨c1, c2, c3, c4, c5⟩ := t4 i hi
    obtain ⟨d1, d2, d3, d4, d5⟩ := q4 i hi
    exact ⟨c1.trans ((src _ _ (by decide)).trans d1), c2.trans ((src _ _ (by decide)).trans d2), c3.trans ((src _ _ (by decide)).trans d3), c4.trans ((src _ _ (by decide)).trans d4), c5.trans ((src _ _ (by decide)).trans d5)⟩
  · have s1 := s4 w hw
    have x1 : ∀ k, xI g1 180 k = xI g 180 k := fun k => (r3 _ _ (by decide)).trans (oG _ _ (by omega))
    exact ⟨(t3 _ _ (by omega)).trans (s1.1.trans ((x1 _).trans (q5 w hw).1)), (t3 _ _ (by omega)).trans (s1.2.trans ((x1 _).trans (q5 w hw).2))⟩
  · exact (t3 _ _ (by omega)).trans ((s3 _ _ (by omega)).trans ((r4 k (by omega)).trans ((oG _ _ (by omega)).trans (q6 k hk))))
theorem r_boxN {a : Nat} (ha : a < 3) : xbx (nI a) = ybx a := by
  have : ∀ a, a < 3 → xbx (nI a) = ybx a := by decide +kernel
  exact this a ha
theorem ybx_b (a : Nat) : 42 ≤ ybx a ∧ ybx a ≤ 60 := by
  unfold ybx
  split
  · decide
  · split <;> decide
theorem ybx_ne {a j : Nat} (ha : a < 3) (hj : j < 3) (h : j ≠ a) : ybx j + 8 < ybx a ∨ ybx a + 8 < ybx j := by
  have : ∀ a, a < 3 → ∀ j, j < 3 → j ≠ a → ybx j + 8 < ybx a ∨ ybx a + 8 < ybx j := by decide
  exact this a ha j hj h
theorem r_box (g : xSt) : (F_X12_isIn g a1 0 2 = 0 ∧ (a1 < 0 ∨ (¬ a1 < 0 ∧ ¬ a1 < 3 ∧ 3 ≤ a1))) ∨ ∃ a, a < 3 ∧ a1 = nI a ∧ ¬ a1 < 0 ∧ a1 < 3 ∧ ¬ 3 ≤ a1 := by
  rcases r_inN (g := g) (a1 := a1) (m := 2) (by decide) with ⟨i1, i2⟩ | ⟨a, ha, rfl, -, i2, -⟩
  · refine Or.inl ⟨i1, ?_⟩
    by_cases q : a1 < 0
    · exact Or.inl q
    · have := i2.resolve_left q
      rw [Int32.le_iff_toInt_le, nI_toInt (by decide)] at this
      refine Or.inr ⟨q, ?_, ?_⟩
      · rw [Int32.lt_iff_toInt_lt, show (3 : Int32).toInt = 3 from rfl]; omega
      · rw [Int32.le_iff_toInt_le, show (3 : Int32).toInt = 3 from rfl]; omega
  · refine Or.inr ⟨a, by omega, rfl, i2, nI_lt (show a < 3 by omega) (by decide), fun z => ?_⟩
    rw [show (3 : Int32) = nI 3 from rfl, nI_leI (by decide) (by omega)] at z; omega
def dIm (o k : Nat) : Prop := (42 ≤ o ∧ o ≤ 68) ∨ 174 ≤ o
theorem op_39 (hb : I_book g n B) (hx : I_boxes g n X) (hn : n ≤ 5) : ∃ g' X', O_39 a1 a2 a3 a4 a5 g = some (true, g') ∧ I_boxes g' n X' ∧ yAg dIm g g' := by
  rcases r_box (a1 := a1) g with ⟨i1, i2⟩ | ⟨a, ha, rfl, i2, i3, i4⟩
  · refine ⟨g, X, r_O (v := -1) ?_ (by unfold E_X12_image; exact if_pos i1), hx, yAg.refl _ _⟩
    unfold E_X11_image
    rcases i2 with q | ⟨q, q2, q3⟩
    · exact if_pos q
    · rw [if_neg q, if_neg q2]
  · obtain ⟨w, b1, b2⟩ := hb
    have yb := ybx_b a
    obtain ⟨g1, r1, r2, r3, r4, r5, r6, r7, r8⟩ := r_copyFrom (g := g) (b := ybx a) (c := 32) (by omega)
    generalize hG : xWI g1 (ybx a) 4 1 = G
    have oG : ∀ o k, ¬ (o = ybx a ∧ k = 4) → xI G o k = xI g1 o k := fun o k h => by rw [← hG, yI_wi, if_neg h]
    have rG : xR G = xR g := by rw [← hG]; exact r2
    have out : ∀ o k, ¬ (ybx a ≤ o ∧ o ≤ ybx a + 8) → xI G o k = xI g o k := fun o k h => (oG o k (by omega)).trans (r3 o k h)
    have bc : bkC G (ybx a) n B := b1.copy w hn (fun k hk => (oG _ _ (by omega)).trans (r5 k hk)) (fun j k h1 h2 h3 => (oG _ _ (by omega)).trans (r6 j k h1 h2 h3)) (fun k hk => (oG _ _ (by omega)).trans (r7 k hk)) (fun k hk => (oG _ _ (by omega)).trans (r8 k hk))
    have b2' : bkR G n B := b2.ag (D := fun o k => 42 ≤ o ∧ o ≤ 68) ⟨rG, fun o k h => out o k (by omega)⟩ (fun o k m => by simp only [List.mem_cons, List.not_mem_nil, or_false] at m; omega) (by omega) (by omega) (by omega) (by omega)
    obtain ⟨g2, s1, s2, s3, s4⟩ := r_imageR (g := G) ha hn w b2'
    have o2 : ∀ o k, o < 174 → xI g2 o k = xI G o k := fun o k h => s2.2 o k (by unfold dX; omega)
    refine ⟨g2, fun j => if j = a then B else X j, r_O (v := nI (B 9 0)) (g1 := G) ?_ s1, fun j hj => ?_, ⟨s2.1.trans rG, fun o k h => ?_⟩⟩
    · unfold E_X11_image
      rw [if_neg i2, if_pos i3, r_boxN ha, r1, xb1_some, hG, out 32 0 (by omega), b1.1]
    · by_cases e : j = a
      · subst e
        dsimp only
        rw [if_pos rfl]
        refine Or.inr ⟨(o2 _ _ (by omega)).trans (by rw [← hG, yI_wi, if_pos ⟨rfl, rfl⟩]), w, bc.ag s2 (fun i k hi _ => by unfold dX; omega), s3⟩
      · dsimp only
        rw [if_neg e]
        have nb := ybx_b j
        have ne := ybx_ne ha hj e
        have e4 : xI g2 (ybx j) 4 = xI g (ybx j) 4 := (o2 _ _ (by omega)).trans (out _ _ (by omega))
        have e5 : xI g2 174 j = xI g 174 j := (s2.2 _ _ (by unfold dX; omega)).trans (out _ _ (by omega))
        rcases hx j hj with q | ⟨q1, q2, q3, q4⟩
        · exact Or.inl ⟨e4.trans q.1, e5.trans q.2⟩
        · refine Or.inr ⟨e4.trans q1, q2, q3.ag (D := fun o k => (ybx a ≤ o ∧ o ≤ ybx a + 8) ∨ dX a o k) ⟨s2.1.trans rG, fun o k h => ?_⟩ (fun i k hi _ => by unfold dX; omega), ?_⟩
          · exact (s2.2 o k (fun z => h (Or.inr z))).trans (out o k (fun z => h (Or.inl z)))
          · have : bkX G j n (X j) := q4.ag (D := fun o k => 42 ≤ o ∧ o ≤ 68) ⟨rG, fun o k h => out o k (by omega)⟩ (fun o k m => by simp only [List.mem_cons, List.not_mem_nil, or_false] at m; omega)
            exact this.ne s2 e q2 hn
    · unfold dIm at h
      exact (s2.2 o k (by unfold dX; omega)).trans (out o k (by omega))
def dBb (o k : Nat) : Prop := (33 ≤ o ∧ o ≤ 40) ∨ (o = 32 ∧ k < 4) ∨ dBk o k
theorem op_40 (hb : I_book g n B) (hx : I_boxes g n X) (hn : n ≤ 5) : ∃ g' B', O_40 a1 a2 a3 a4 a5 g = some (true, g') ∧ I_book g' n B' ∧ yAg dBb g g' := by
  rcases r_box (a1 := a1) g with ⟨i1, i2⟩ | ⟨a, ha, rfl, i2, i3, i4⟩
  · refine ⟨g, B, r_O (v := -1) ?_ (by unfold E_X12_back; exact if_pos i1), hb, yAg.refl _ _⟩
    unfold E_X11_back
    rcases i2 with q | ⟨q, q2, q3⟩
    · exact if_pos q
    · rw [if_neg q, if_pos q3]
  · have yb := ybx_b a
    have i1 : F_X12_isIn g (nI a) 0 2 = 1 := by
      unfold F_X12_isIn
      rw [if_neg (nI_pos (by omega)), if_neg (fun z => by rw [show (2 : Int32) = nI 2 from rfl, nI_ltI (by decide) (by omega)] at z; omega)]
    rcases hx a ha with ⟨q1, q2⟩ | ⟨q1, w, q3, q4⟩
    · refine ⟨g, B, r_O (v := -1) (g1 := g) ?_ ?_, hb, yAg.refl _ _⟩
      · unfold E_X11_back
        rw [if_neg i2, if_neg i4, r_boxN ha, if_pos q1]
      · unfold E_X12_back
        rw [i1, if_neg (by decide), xck_nI ha (by decide), nI_clamp (by omega), q2, if_neg (by decide)]
    · obtain ⟨g1, r1, r2, r3, r4, r5, r6, r7, r8⟩ := r_copyFrom (g := g) (b := 32) (c := ybx a) (by omega)
      have bc : bkC g1 32 n (X a) := q3.copy w hn (fun k hk => r5 k hk) (fun j k h1 h2 h3 => r6 j k h1 h2 h3) (fun k hk => r7 k hk) (fun k hk => r8 k hk)
      have bx : bkX g1 a n (X a) := q4.ag (D := fun o k => 32 ≤ o ∧ o ≤ 40) ⟨r2, fun o k h => r3 o k (by omega)⟩ (fun o k m => by simp only [List.mem_cons, List.not_mem_nil, or_false] at m; omega)
      obtain ⟨g2, s1, s2, s3⟩ := r_backR ha hn w bx
      refine ⟨g2, X a, r_O (v := nI (X a 9 0)) (g1 := g1) ?_ s1, ⟨w, bc.ag s2 (fun i k hi h => by unfold dBk; omega), s3⟩, ⟨s2.1.trans r2, fun o k h => ?_⟩⟩
      · unfold E_X11_back
        rw [if_neg i2, if_neg i4, r_boxN ha, if_neg (by rw [q1]; decide), r1, xb1_some, bc.1]
      · unfold dBb at h
        refine (s2.2 o k (fun z => h (Or.inr (Or.inr z)))).trans ?_
        by_cases c : 32 ≤ o ∧ o ≤ 40
        · have : o = 32 := by omega
          subst this
          exact r4 k (by omega)
        · exact r3 o k (by omega)
end BX
