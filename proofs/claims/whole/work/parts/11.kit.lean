/-! THE SHAPE of the store behind the two constructors (181 cells), and rules for its fields and rows -/
def xShT : List xSh := [.inr 10, .inl (.byte, 1200), .inr 9, .inl (.long, 5), .inl (.int, 5), .inl (.int, 5), .inl (.long, 3), .inl (.int, 3), .inl (.int, 60), .inl (.int, 60), .inl (.int, 180), .inr 9, .inl (.long, 5), .inl (.int, 5), .inl (.int, 5), .inl (.long, 3), .inl (.int, 3), .inl (.int, 60), .inl (.int, 60), .inl (.int, 180), .inr 6, .inl (.long, 7), .inl (.byte, 0), .inr 9, .inl (.long, 5), .inl (.int, 5), .inl (.int, 5), .inl (.long, 3), .inl (.int, 3), .inl (.int, 60), .inl (.int, 60), .inl (.int, 180), .inr 0, .inl (.int, 60), .inl (.int, 60), .inl (.int, 60), .inl (.int, 60), .inl (.int, 60), .inl (.int, 60), .inl (.int, 40), .inl (.int, 5), .inl (.object RX0, 3), .inr 0, .inl (.int, 60), .inl (.int, 60), .inl (.int, 60), .inl (.int, 60), .inl (.int, 60), .inl (.int, 60), .inl (.int, 40), .inl (.int, 5), .inr 0, .inl (.int, 60), .inl (.int, 60), .inl (.int, 60), .inl (.int, 60), .inl (.int, 60), .inl (.int, 60), .inl (.int, 40), .inl (.int, 5), .inr 0, .inl (.int, 60), .inl (.int, 60), .inl (.int, 60), .inl (.int, 60), .inl (.int, 60), .inl (.int, 60), .inl (.int, 40), .inl (.int, 5), .inr 5, .inl (.int, 541), .inl (.int, 541), .inl (.int, 541), .inl (.int, 30), .inl (.int, 32), .inl (.int, 5), .inr 7, .inl (.int, 120), .inl (.int, 120), .inl (.int, 120), .inl (.long, 240), .inl (.long, 60), .inl (.int, 10), .inl (.int, 1024), .inl (.int, 4096), .inl (.long, 8192), .inl (.int, 4096), .inl (.int, 4096), .inr 4, .inl (.int, 1024), .inr 3, .inl (.int, 4096), .inl (.int, 64), .inl (.int, 30), .inr 2, .inl (.int, 181), .inl (.int, 181), .inl (.int, 181), .inr 1, .inl (.int, 60), .inl (.int, 60), .inl (.int, 60), .inl (.int, 32), .inl (.int, 5), .inl (.int, 5), .inl (.int, 5), .inl (.int, 5), .inl (.int, 90), .inl (.int, 90), .inl (.int, 90), .inl (.int, 90), .inr 8, .inl (.int, 24), .inr 11, .inl (.byte, 1220), .inl (.byte, 1200), .inl (.int, 2), .inl (.int, 2), .inl (.int, 2), .inl (.int, 10), .inl (.int, 10), .inl (.boolean, 2), .inl (.boolean, 2), .inl (.boolean, 2), .inl (.long, 10), .inl (.long, 6), .inl (.int, 2), .inl (.int, 2), .inl (.int, 6), .inl (.int, 120), .inl (.int, 120), .inl (.int, 360), .inl (.int, 12), .inl (.int, 12), .inl (.int, 2705), .inl (.int, 5), .inl (.int, 60), .inl (.int, 60), .inl (.int, 60), .inl (.int, 60), .inl (.int, 60), .inl (.int, 40), .inl (.int, 40), .inl (.int, 5), .inl (.int, 5), .inl (.int, 541), .inl (.int, 541), .inl (.int, 541), .inl (.int, 541), .inl (.int, 25), .inl (.int, 10), .inl (.int, 10), .inl (.long, 30), .inl (.long, 30), .inl (.long, 16384), .inl (.long, 16384), .inl (.int, 16384), .inl (.long, 12), .inl (.long, 12), .inl (.int, 12), .inl (.int, 12), .inl (.int, 12), .inl (.int, 12), .inl (.int, 12), .inl (.boolean, 1024), .inl (.int, 729), .inl (.int, 5), .inl (.int, 5), .inl (.int, 5), .inl (.int, 5), .inl (.int, 3), .inl (.int, 8), .inl (.boolean, 1300), .inl (.int, 7776), .inl (.int, 3), .inl (.int, 3), .inl (.int, 900), .inl (.int, 3), .inl (.int, 3), .inl (.int, 15), .inl (.int, 240)]
def xShp (o : Nat) : xSh := xShT.getD o (.inr 0)
def xPtr (o k : Nat) : Option Nat := match o with
  | 0 => ([some 1, none, none, none, none, none, some 20, some 32, some 41, some 69, some 76, some 88, some 90, some 94, some 98, some 111] : List (Option Nat)).getD k none
  | 2 => ([none, some 3, some 4, none, none, none, none, some 5, none, some 6, some 7, none, some 8, some 9, some 10] : List (Option Nat)).getD k none
  | 11 => ([none, some 12, some 13, none, none, none, none, some 14, none, some 15, some 16, none, some 17, some 18, some 19] : List (Option Nat)).getD k none
  | 20 => ([some 21] : List (Option Nat)).getD k none
  | 23 => ([none, some 24, some 25, none, none, none, none, some 26, none, some 27, some 28, none, some 29, some 30, some 31] : List (Option Nat)).getD k none
  | 32 => ([none, none, none, none, none, some 33, some 34, some 35, some 36, some 37, some 38, some 39, some 40] : List (Option Nat)).getD k none
  | 41 => ([some 42, some 51, some 60] : List (Option Nat)).getD k none
  | 42 => ([none, none, none, none, none, some 43, some 44, some 45, some 46, some 47, some 48, some 49, some 50] : List (Option Nat)).getD k none
  | 51 => ([none, none, none, none, none, some 52, some 53, some 54, some 55, some 56, some 57, some 58, some 59] : List (Option Nat)).getD k none
  | 60 => ([none, none, none, none, none, some 61, some 62, some 63, some 64, some 65, some 66, some 67, some 68] : List (Option Nat)).getD k none
  | 69 => ([none, none, some 70, some 71, some 72, none, none, none, none, some 73, some 74, some 75] : List (Option Nat)).getD k none
  | 76 => ([some 77, some 78, none, none, none, none, none, none, none, none, some 79, some 80, some 81, some 82, some 83, none, some 84, some 85, some 86, some 87] : List (Option Nat)).getD k none
  | 88 => ([some 89] : List (Option Nat)).getD k none
  | 90 => ([some 91, some 92, some 93] : List (Option Nat)).getD k none
  | 94 => ([some 95, some 96, some 97] : List (Option Nat)).getD k none
  | 98 => ([none, none, none, some 99, some 100, some 101, some 102, some 103, some 104, some 105, some 106, none, none, none, some 107, some 108, some 109, some 110] : List (Option Nat)).getD k none
  | 111 => ([some 112] : List (Option Nat)).getD k none
  | 113 => ([some 114, some 115, none, none, none, none, none, none, none, none, none, some 116, some 117, some 118, some 119, some 120, some 121, some 122, some 123, some 124, some 125, some 126, some 127, some 128, some 129, some 130, some 131, some 132, some 133, none, none, none, some 134, some 135, none, some 136, some 137, some 138, some 139, some 140, some 141, some 142, some 143, some 144, none, none, none, none, some 145, some 146, some 147, some 148, some 149, none, none, some 150, some 151, some 152, some 153, none, some 154, some 155, some 156, some 157, some 158, some 159, some 160, some 161, some 162, some 163, none, none, none, some 164, some 165, some 166, some 167, some 168, some 169, some 170, some 171, some 172, some 173, some 174, some 175, some 176, some 177, some 178, some 179, some 180] : List (Option Nat)).getD k none
  | _ => none
def xTw (t : Nat) : Prop := t = 2 ∨ t = 11
def xBk (b : Nat) : Prop := b = 32 ∨ b = 42 ∨ b = 51 ∨ b = 60
/-- the street in force -/
def tw (g : xSt) : Nat := match xR g 0 4 with
  | some t => t
  | none => 0
def xWf (g : xSt) : Prop := xN g = 181 ∧ (∀ o : Nat, o < 181 → xH g o = xShp o) ∧ (∀ o k t : Nat, xPtr o k = some t → xR g o k = some t) ∧ xR g 0 4 = some (tw g) ∧ xTw (tw g) ∧ xR g 0 5 = some (13 - tw g)
def xArr (g : xSt) (o : Nat) (ty : FieldType) (n : Nat) : Prop := o < xN g ∧ xH g o = .inl (ty, n)
theorem xis {g : xSt} (W : xWf g) (o c : Nat) (h : xShp o = .inr c) (ho : o < 181) : xIs g o c = true := by
  have := W.2.1 o ho
  simp [xIs, W.1, ho, this, h]
theorem xarr {g : xSt} (W : xWf g) {o n : Nat} {ty : FieldType} (h : xShp o = .inl (ty, n)) (ho : o < 181) : xArr g o ty n := ⟨by rw [W.1]; exact ho, by rw [W.2.1 o ho]; exact h⟩
theorem xptr {g : xSt} (W : xWf g) (o k : Nat) {t : Nat} (h : xPtr o k = some t) : xR g o k = some t := W.2.2.1 o k t h
theorem xisB {g : xSt} (W : xWf g) {b : Nat} (h : xBk b) : xIs g b 0 = true := by rcases h with rfl | rfl | rfl | rfl <;> exact xis W _ _ rfl (by decide)
theorem xisS {g : xSt} (W : xWf g) {t : Nat} (h : xTw t) : xIs g t 9 = true := by rcases h with rfl | rfl <;> exact xis W _ _ rfl (by decide)
theorem xarrB {g : xSt} (W : xWf g) {b : Nat} (hb : xBk b) (j : Nat) {n : Nat} {ty : FieldType} (h : (if 1 ≤ j ∧ j ≤ 8 then xShp (32 + j) else .inr 0) = .inl (ty, n)) : xArr g (b + j) ty n := by
  by_cases hj : 1 ≤ j ∧ j ≤ 8
  · rw [if_pos hj] at h
    have e : ∀ j, j ≤ 8 → 1 ≤ j → xShp (42 + j) = xShp (32 + j) ∧ xShp (51 + j) = xShp (32 + j) ∧ xShp (60 + j) = xShp (32 + j) := by decide +kernel
    obtain ⟨e1, e2, e3⟩ := e j hj.2 hj.1
    rcases hb with rfl | rfl | rfl | rfl
    · exact xarr W h (by omega)
    · exact xarr W (e1.trans h) (by omega)
    · exact xarr W (e2.trans h) (by omega)
    · exact xarr W (e3.trans h) (by omega)
  · rw [if_neg hj] at h; cases h
theorem xarrS {g : xSt} (W : xWf g) {t : Nat} (ht : xTw t) (j : Nat) {n : Nat} {ty : FieldType} (h : (if 1 ≤ j ∧ j ≤ 8 then xShp (2 + j) else .inr 0) = .inl (ty, n)) : xArr g (t + j) ty n := by
  by_cases hj : 1 ≤ j ∧ j ≤ 8
  · rw [if_pos hj] at h
    have e : ∀ j, j ≤ 8 → 1 ≤ j → xShp (11 + j) = xShp (2 + j) := by decide +kernel
    rcases ht with rfl | rfl
    · exact xarr W h (by omega)
    · exact xarr W ((e j hj.2 hj.1).trans h) (by omega)
  · rw [if_neg hj] at h; cases h
theorem xptrB {g : xSt} (W : xWf g) {b : Nat} (hb : xBk b) (k : Nat) {q : Nat} (h : (xPtr 32 k).map (fun x => b + (x - 32)) = some q) : xR g b k = some q := by
  have e : ∀ k, k < 13 → ∀ x, xPtr 32 k = some x → xPtr 42 k = some (42 + (x - 32)) ∧ xPtr 51 k = some (51 + (x - 32)) ∧ xPtr 60 k = some (60 + (x - 32)) ∧ 32 ≤ x := by
    intro k hk x
    match k, hk with
    | 0, _ => intro h; cases h
    | 1, _ => intro h; cases h
    | 2, _ => intro h; cases h
    | 3, _ => intro h; cases h
    | 4, _ => intro h; cases h
    | 5, _ => intro h; cases h; decide
    | 6, _ => intro h; cases h; decide
    | 7, _ => intro h; cases h; decide
    | 8, _ => intro h; cases h; decide
    | 9, _ => intro h; cases h; decide
    | 10, _ => intro h; cases h; decide
    | 11, _ => intro h; cases h; decide
    | 12, _ => intro h; cases h; decide
    | k + 13, hk => exact absurd hk (by omega)
  have hk : k < 13 := by
    rcases Nat.lt_or_ge k 13 with h1 | h1
    · exact h1
    · have : xPtr 32 k = none := by
        show ([none, none, none, none, none, some 33, some 34, some 35, some 36, some 37, some 38, some 39, some 40] : List (Option Nat)).getD k none = none
        rw [List.getD_eq_getElem?_getD, List.getElem?_eq_none (by simpa using h1)]; rfl
      rw [this] at h; cases h
  cases hx : xPtr 32 k with
  | none => rw [hx] at h; cases h
  | some x =>
    rw [hx] at h
    cases h
    obtain ⟨e1, e2, e3, e4⟩ := e k hk x hx
    rcases hb with rfl | rfl | rfl | rfl
    · show xR g 32 k = some (32 + (x - 32)); rw [show 32 + (x - 32) = x by omega]; exact xptr W _ _ hx
    · exact xptr W _ _ e1
    · exact xptr W _ _ e2
    · exact xptr W _ _ e3
theorem xptrS {g : xSt} (W : xWf g) {t : Nat} (ht : xTw t) (k : Nat) {q : Nat} (h : (xPtr 2 k).map (fun x => t + (x - 2)) = some q) : xR g t k = some q := by
  have e : ∀ k, k < 15 → ∀ x, xPtr 2 k = some x → xPtr 11 k = some (11 + (x - 2)) ∧ 2 ≤ x := by
    intro k hk x
    match k, hk with
    | 0, _ => intro h; cases h
    | 1, _ => intro h; cases h; decide
    | 2, _ => intro h; cases h; decide
    | 3, _ => intro h; cases h
    | 4, _ => intro h; cases h
    | 5, _ => intro h; cases h
    | 6, _ => intro h; cases h
    | 7, _ => intro h; cases h; decide
    | 8, _ => intro h; cases h
    | 9, _ => intro h; cases h; decide
    | 10, _ => intro h; cases h; decide
    | 11, _ => intro h; cases h
    | 12, _ => intro h; cases h; decide
    | 13, _ => intro h; cases h; decide
    | 14, _ => intro h; cases h; decide
    | k + 15, hk => exact absurd hk (by omega)
  have hk : k < 15 := by
    rcases Nat.lt_or_ge k 15 with h1 | h1
    · exact h1
    · have : xPtr 2 k = none := by
        show ([none, some 3, some 4, none, none, none, none, some 5, none, some 6, some 7, none, some 8, some 9, some 10] : List (Option Nat)).getD k none = none
        rw [List.getD_eq_getElem?_getD, List.getElem?_eq_none (by simpa using h1)]; rfl
      rw [this] at h; cases h
  cases hx : xPtr 2 k with
  | none => rw [hx] at h; cases h
  | some x =>
    rw [hx] at h
    cases h
    obtain ⟨e1, e4⟩ := e k hk x hx
    rcases ht with rfl | rfl
    · show xR g 2 k = some (2 + (x - 2)); rw [show 2 + (x - 2) = x by omega]; exact xptr W _ _ hx
    · exact xptr W _ _ e1
theorem xtw {g : xSt} (W : xWf g) : xTw (tw g) := W.2.2.2.2.1
theorem xtw2 {g : xSt} (W : xWf g) : xTw (13 - tw g) := by rcases W.2.2.2.2.1 with h | h <;> rw [h] <;> simp [xTw]
theorem xtwR {g : xSt} (W : xWf g) : xR g 0 4 = some (tw g) := W.2.2.2.1
theorem xspR {g : xSt} (W : xWf g) : xR g 0 5 = some (13 - tw g) := W.2.2.2.2.2
/-! steps on fields and rows -/
def imax (x y : Int32) : Int32 := if x < y then y else x
def imin (x y : Int32) : Int32 := if y < x then y else x
def xRefTy (ty : FieldType) : Bool := match ty with
  | .object _ => true
  | .array _ => true
  | _ => false
section HP
variable {own idx c k o n : Nat} {ini : Bool} {r : List Value} {g : xSt} {v : Value} {x j : Int32} {z : Int64} {ty : FieldType}
theorem hpG (hf : xFld own idx = some (c, k)) (ho : xIs g o c = true) (hv : xFv (xFt c k) g o k = v) : xHp own ini (.getfield idx) (.ref o :: r) g = some (v :: r, g) := by
  simp only [xHp, hf, ho, if_true, hv]
theorem hpGr {t : Nat} (hf : xFld own idx = some (c, k)) (ho : xIs g o c = true) (hty : xRefTy (xFt c k) = true) (hp : xR g o k = some t) : xHp own ini (.getfield idx) (.ref o :: r) g = some (.ref t :: r, g) := by
  refine hpG hf ho ?_
  cases h : xFt c k <;> rw [h] at hty <;> simp [xRefTy] at hty <;> simp [xFv, hp, va_rf]
theorem hpPI (hf : xFld own idx = some (c, k)) (hn : xFin c k = false) (ho : xIs g o c = true) (hty : xFt c k = .int) : xHp own ini (.putfield idx) (.int x :: .ref o :: r) g = some (r, xWI g o k x) := by
  simp [xHp, hf, ho, hn, hty, xFw]
theorem hpPL (hf : xFld own idx = some (c, k)) (hn : xFin c k = false) (ho : xIs g o c = true) (hty : xFt c k = .long) : xHp own ini (.putfield idx) (.long z :: .ref o :: r) g = some (r, xWL g o k z) := by
  simp [xHp, hf, ho, hn, hty, xFw]
theorem hpPZ (hf : xFld own idx = some (c, k)) (hn : xFin c k = false) (ho : xIs g o c = true) (hty : xFt c k = .boolean) (hv : x = 0 ∨ x = 1) : xHp own ini (.putfield idx) (.int x :: .ref o :: r) g = some (r, xWI g o k x) := by
  simp [xHp, hf, ho, hn, hty, xFw, hv]
theorem hpPR {t : Nat} (hf : xFld own idx = some (c, k)) (hn : xFin c k = false) (ho : xIs g o c = true) (hty : xRefTy (xFt c k) = true) : xHp own ini (.putfield idx) (.ref t :: .ref o :: r) g = some (r, xWR g o k (some t)) := by
  cases h : xFt c k <;> rw [h] at hty <;> simp [xRefTy] at hty <;> simp [xHp, hf, ho, hn, h, xFw]
theorem xArr.ar (ha : xArr g o ty n) (hi : vp_in j n) : xAr g o ty j = true := by
  have h1 : ¬ j < 0 := fun q => hi (Or.inl q)
  have h2 : ¬ n ≤ j.toNatClampNeg := fun q => hi (Or.inr q)
  simp only [xAr, ha.2, ha.1, h1, h2, decide_true, decide_false, Bool.or_false, Bool.not_false, Bool.and_true]
theorem hpIA (ha : xArr g o .int n) (hi : vp_in j n) : xHp own ini .iaload (.int j :: .ref o :: r) g = some (.int (xI g o j.toNatClampNeg) :: r, g) := by
  simp only [xHp, ha.ar hi, true_or, if_true]
theorem hpBA (ha : xArr g o .byte n) (hi : vp_in j n) : xHp own ini .baload (.int j :: .ref o :: r) g = some (.int (xI g o j.toNatClampNeg) :: r, g) := by
  simp only [xHp, ha.ar hi, true_or, if_true]
theorem hpZA (ha : xArr g o .boolean n) (hi : vp_in j n) : xHp own ini .baload (.int j :: .ref o :: r) g = some (.int (xI g o j.toNatClampNeg) :: r, g) := by
  simp only [xHp, ha.ar hi, or_true, if_true]
theorem hpLA (ha : xArr g o .long n) (hi : vp_in j n) : xHp own ini .laload (.int j :: .ref o :: r) g = some (.long (xL g o j.toNatClampNeg) :: r, g) := by
  simp only [xHp, ha.ar hi, if_true]
theorem hpIS (ha : xArr g o .int n) (hi : vp_in j n) : xHp own ini .iastore (.int x :: .int j :: .ref o :: r) g = some (r, xWI g o j.toNatClampNeg x) := by
  simp only [xHp, ha.ar hi, if_true]
theorem hpLS (ha : xArr g o .long n) (hi : vp_in j n) : xHp own ini .lastore (.long z :: .int j :: .ref o :: r) g = some (r, xWL g o j.toNatClampNeg z) := by
  simp only [xHp, ha.ar hi, if_true]
theorem hpBS (ha : xArr g o .byte n) (hi : vp_in j n) : xHp own ini .bastore (.int x :: .int j :: .ref o :: r) g = some (r, xWI g o j.toNatClampNeg x.toInt8.toInt32) := by
  simp only [xHp, ha.ar hi, if_true]
theorem hpZS (ha : xArr g o .boolean n) (hi : vp_in j n) (hv : x = 0 ∨ x = 1) : xHp own ini .bastore (.int x :: .int j :: .ref o :: r) g = some (r, xWI g o j.toNatClampNeg x) := by
  have h0 : xAr g o .byte j = false := by simp [xAr, ha.2]
  simp only [xHp, ha.ar hi, h0, hv, if_true, true_and, Bool.false_eq_true, if_false]
theorem hpN {m : Int32} (ha : xArr g o ty n) (hn : Int32.ofNat n = m) (hty : xTyOk ty = true := by rfl) : xHp own ini .arraylength (.ref o :: r) g = some (.int m :: r, g) := by
  simp [xHp, ha.2, ha.1, hty, hn]
theorem hpMx {a b : Int32} (hm : xMm own idx = some true) (hs : (r.map fun v => v.category).sum ≤ 8) : xHp own ini (.invokestatic idx) (.int b :: .int a :: r) g = some (.int (imax a b) :: r, g) := by
  simp only [xHp, hm, if_pos hs, if_true]; rfl
theorem hpMn {a b : Int32} (hm : xMm own idx = some false) (hs : (r.map fun v => v.category).sum ≤ 8) : xHp own ini (.invokestatic idx) (.int b :: .int a :: r) g = some (.int (imin a b) :: r, g) := by
  simp only [xHp, hm, if_pos hs, Bool.false_eq_true, if_false]; rfl
end HP
theorem xdiv {i : Instr} {x y z : Int32} {r : List Value} (h : ¬ y = 0) (hi : (i = .idiv ∧ z = x / y) ∨ (i = .irem ∧ z = x - x / y * y)) : xOp2 i (.int y :: .int x :: r) = some (.int z :: r) := by
  rcases hi with ⟨rfl, rfl⟩ | ⟨rfl, rfl⟩ <;> simp [xOp2, xBI, h]
theorem xcS {own idx n : Nat} {y : xMI} {st : List Value} {g : xSt} (hcl : xCl own idx = some (0, y, n)) (h1 : n ≤ st.length) (h2 : ((st.drop n).map fun v => v.category).sum ≤ 8) (h3 : (xEnt (st.take n).reverse).length ≤ y.2.2.1) : xCall own (.invokestatic idx) 3 st g = some (y, (st.take n).reverse, st.drop n) := by
  simp only [xCall, hcl]
  rw [if_pos ⟨trivial, h1, h2, h3⟩]
theorem xcV {own idx n o : Nat} {y : xMI} {st r : List Value} {g : xSt} (hcl : xCl own idx = some (2, y, n)) (hd : st.drop n = .ref o :: r) (ho : xIs g o y.2.2.2.2 = true) (h1 : n ≤ st.length) (h2 : (r.map fun v => v.category).sum ≤ 8) (h3 : (xEnt (.ref o :: (st.take n).reverse)).length ≤ y.2.2.1) : xCall own (.invokevirtual idx) 3 st g = some (y, .ref o :: (st.take n).reverse, r) := by
  simp only [xCall, hcl, hd]
  rw [if_pos ⟨trivial, h1, ho, h2, h3⟩]
/-! forgetting locals -/
def xLeA (al al' : xAL) : Prop := al.length = al'.length ∧ ∀ (i : Nat) (v : Value), al[i]? = some (some v) → al'[i]? = some (some v)
theorem xle_0 : xLeA [] [] := ⟨rfl, fun _ _ h => h⟩
theorem xle_n {w : Option Value} {al al' : xAL} (h : xLeA al al') : xLeA (none :: al) (w :: al') := ⟨congrArg (· + 1) h.1, fun i v hi => by
  cases i with
  | zero => simp at hi
  | succ i => simp at hi ⊢; exact h.2 i v hi⟩
theorem xle_s {v : Option Value} {al al' : xAL} (h : xLeA al al') : xLeA (v :: al) (v :: al') := ⟨congrArg (· + 1) h.1, fun i w hi => by
  cases i with
  | zero => exact hi
  | succ i => simp at hi ⊢; exact h.2 i w hi⟩
theorem xLeA.ld {al al' : xAL} (h : xLeA al al') {i : Nat} {v : Value} (hv : xLd al i = some v) : xLd al' i = some v := xLd_of (h.2 i v (xLd_some hv))
theorem xKill_of {al : xAL} {i j : Nat} {w : Value} (h : al[j]? = some (some w)) (hc : j + 1 = i → w.category ≠ 2) : (xKill al i)[j]? = some (some w) := by
  unfold xKill
  split
  · exact h
  · rename_i k
    split
    · rename_i q hq
      by_cases e : k = j
      · subst e; rw [h] at hq; cases hq; exact absurd rfl (hc rfl)
      · rw [List.getElem?_set, if_neg e]; exact h
    · rename_i q hq
      by_cases e : k = j
      · subst e; rw [h] at hq; cases hq; exact absurd rfl (hc rfl)
      · rw [List.getElem?_set, if_neg e]; exact h
    · exact h
theorem xLeA.set1 {al al' : xAL} (h : xLeA al al') (i : Nat) (v : Value) : xLeA (xSet1 al i v) (xSet1 al' i v) := by
  refine ⟨by simp [xSet1, xKill_len, h.1], fun j w hj => ?_⟩
  rw [xSet1, List.getElem?_set] at hj ⊢
  rw [xKill_len] at hj ⊢
  by_cases e : i = j
  · subst e
    rw [if_pos rfl] at hj ⊢
    rw [← h.1]; exact hj
  · rw [if_neg e] at hj ⊢
    obtain ⟨h1, h2⟩ := xKill_get hj
    exact xKill_of (h.2 j w h1) h2
theorem xLeA.set2 {al al' : xAL} (h : xLeA al al') (i : Nat) (v : Value) : xLeA (xSet2 al i v) (xSet2 al' i v) := by
  have h1 := h.set1 i v
  refine ⟨by simp [xSet2, xKill_len, h.1], fun j w hj => ?_⟩
  have e1 : ∀ a : xAL, xSet2 a i v = (xSet1 a i v).set (i + 1) none := fun _ => rfl
  rw [e1, List.getElem?_set] at hj ⊢
  split at hj
  · split at hj <;> simp at hj
  · rename_i e
    rw [if_neg e]
    exact h1.2 j w hj
def xIs1 (i : Instr) : Bool := match i with
  | .iconst _ => true
  | .bipush _ => true
  | .sipush _ => true
  | .lconst _ => true
  | .iload _ => true
  | .iload_n _ => true
  | .lload _ => true
  | .lload_n _ => true
  | .aload _ => true
  | .aload_n _ => true
  | .istore _ => true
  | .istore_n _ => true
  | .lstore _ => true
  | .lstore_n _ => true
  | .astore _ => true
  | .astore_n _ => true
  | .iinc _ _ => true
  | .dup => true
  | .dup2 => true
  | .pop => true
  | _ => false
theorem xOp1_le {i : Instr} {al al' al1 : xAL} {st st1 : List Value} (h : xLeA al al') (ho : xOp1 i al st = some (al1, st1)) : ∃ al1', xOp1 i al' st = some (al1', st1) ∧ xLeA al1 al1' := by
  unfold xOp1 at ho
  split at ho
  · cases ho; exact ⟨_, rfl, h⟩
  · cases ho; exact ⟨_, rfl, h⟩
  · cases ho; exact ⟨_, rfl, h⟩
  · cases ho; exact ⟨_, rfl, h⟩
  · unfold xLdI at ho; split at ho
    · rename_i hv; cases ho; exact ⟨al', by simp only [xOp1, xLdI, h.ld hv], h⟩
    · cases ho
  · unfold xLdI at ho; split at ho
    · rename_i hv; cases ho; exact ⟨al', by simp only [xOp1, xLdI, h.ld hv], h⟩
    · cases ho
  · unfold xLdL at ho; split at ho
    · rename_i hv; cases ho; exact ⟨al', by simp only [xOp1, xLdL, h.ld hv], h⟩
    · cases ho
  · unfold xLdL at ho; split at ho
    · rename_i hv; cases ho; exact ⟨al', by simp only [xOp1, xLdL, h.ld hv], h⟩
    · cases ho
  · unfold xLdA at ho; split at ho
    · rename_i hv; cases ho; exact ⟨al', by simp only [xOp1, xLdA, h.ld hv], h⟩
    · cases ho
  · unfold xLdA at ho; split at ho
    · rename_i hv; cases ho; exact ⟨al', by simp only [xOp1, xLdA, h.ld hv], h⟩
    · cases ho
  · unfold xStI at ho; split at ho
    · split at ho
      · rename_i hi; cases ho; exact ⟨_, by simp only [xOp1, xStI, ← h.1, if_pos hi], h.set1 _ _⟩
      · cases ho
    · cases ho
  · unfold xStI at ho; split at ho
    · split at ho
      · rename_i hi; cases ho; exact ⟨_, by simp only [xOp1, xStI, ← h.1, if_pos hi], h.set1 _ _⟩
      · cases ho
    · cases ho
  · unfold xStL at ho; split at ho
    · split at ho
      · rename_i hi; cases ho; exact ⟨_, by simp only [xOp1, xStL, ← h.1, if_pos hi], h.set2 _ _⟩
      · cases ho
    · cases ho
  · unfold xStL at ho; split at ho
    · split at ho
      · rename_i hi; cases ho; exact ⟨_, by simp only [xOp1, xStL, ← h.1, if_pos hi], h.set2 _ _⟩
      · cases ho
    · cases ho
  · unfold xStA at ho; split at ho
    · split at ho
      · rename_i hi; cases ho; exact ⟨_, by simp only [xOp1, xStA, ← h.1, if_pos hi], h.set1 _ _⟩
      · cases ho
    · cases ho
  · unfold xStA at ho; split at ho
    · split at ho
      · rename_i hi; cases ho; exact ⟨_, by simp only [xOp1, xStA, ← h.1, if_pos hi], h.set1 _ _⟩
      · cases ho
    · cases ho
  · split at ho
    · rename_i hv
      split at ho
      · rename_i hi; cases ho; exact ⟨_, by simp only [xOp1, h.ld hv, ← h.1, if_pos hi], h.set1 _ _⟩
      · cases ho
    · cases ho
  · split at ho
    · split at ho
      · rename_i hi; cases ho; exact ⟨al', by simp only [xOp1, if_pos hi], h⟩
      · cases ho
    · cases ho
  · split at ho
    · split at ho
      · rename_i hi; cases ho; exact ⟨al', by simp only [xOp1, if_pos hi], h⟩
      · rename_i hi
        split at ho
        · split at ho
          · rename_i hj; cases ho; exact ⟨al', by simp only [xOp1, if_neg hi, if_pos hj], h⟩
          · cases ho
        · cases ho
    · cases ho
  · split at ho
    · split at ho
      · rename_i hi; cases ho; exact ⟨al', by simp only [xOp1, if_pos hi], h⟩
      · cases ho
    · cases ho
  · cases ho
theorem xOp1_other {i : Instr} (hi : xIs1 i = false) (al : xAL) (st : List Value) : xOp1 i al st = none := by
  cases i <;> first | rfl | (simp [xIs1] at hi)
theorem xOp2_is1 {i : Instr} (hi : xIs1 i = true) (st : List Value) : xOp2 i st = none := by
  cases i <;> first | (simp [xIs1] at hi; done) | (unfold xOp2; simp only [xBI, xBL, xBS]; split <;> rfl)
theorem xHp_is1 {own : Nat} {ini : Bool} {i : Instr} {g : xSt} (hi : xIs1 i = true) (st : List Value) : xHp own ini i st g = none := by
  cases i <;> first | rfl | (simp [xIs1] at hi; done)
theorem xStep_le {y : xMI} {i : Instr} {len pc pc' : Nat} {al al' al1 : xAL} {st st1 : List Value} {g g1 : xSt} (h : xLeA al al') (hs : xStep y i len pc al st g = some (pc', al1, st1, g1)) : ∃ al1', xStep y i len pc al' st g = some (pc', al1', st1, g1) ∧ xLeA al1 al1' := by
  unfold xStep at hs ⊢
  cases hj : xJp i len pc st with
  | some q =>
    rw [hj] at hs
    cases hs
    exact ⟨al', rfl, h⟩
  | none =>
    rw [hj] at hs
    dsimp only at hs ⊢
    by_cases hl : len = xLen i
    · rw [if_pos hl] at hs ⊢
      cases ho : xOp1 i al st with
      | some q =>
        obtain ⟨a2, s2⟩ := q
        rw [ho] at hs
        cases hs
        obtain ⟨a3, h3, h4⟩ := xOp1_le h ho
        rw [h3]
        exact ⟨a3, rfl, h4⟩
      | none =>
        rw [ho] at hs
        dsimp only at hs
        cases hi : xIs1 i with
        | true => rw [xOp2_is1 hi, xHp_is1 hi] at hs; cases hs
        | false =>
          rw [xOp1_other hi]
          dsimp only
          cases h2 : xOp2 i st with
          | some q =>
            rw [h2] at hs
            cases hs
            exact ⟨al', rfl, h⟩
          | none =>
            rw [h2] at hs
            dsimp only at hs ⊢
            cases h3 : xHp y.2.2.2.2 (y.1.name == "<init>") i st g with
            | some q =>
              rw [h3] at hs
              cases hs
              exact ⟨al', rfl, h⟩
            | none => rw [h3] at hs; cases hs
    · rw [if_neg hl] at hs; cases hs
theorem xRun_leA (n : Nat) : ∀ (d : Nat) (y : xMI) (pc : Nat) (al al' : xAL) (st : List Value) (g : xSt) (r : Option Value × xSt), xLeA al al' → xRun n d y pc al st g = some r → xRun n d y pc al' st g = some r := by
  induction n with
  | zero => intro d y pc al al' st g r _ h; cases h
  | succ n ih =>
    intro d y pc al al' st g r hle h
    rw [xRun] at h
    rw [xRun]
    cases hd : decode y.2.1 pc with
    | error e => rw [hd] at h; cases h
    | ok q =>
      obtain ⟨i, len⟩ := q
      rw [hd] at h
      dsimp only at h ⊢
      cases hv : xRet y.2.2.2.1 i len st with
      | some v => rw [hv] at h; exact h
      | none =>
        rw [hv] at h
        dsimp only at h ⊢
        cases hc : xCall y.2.2.2.2 i len st g with
        | some q =>
          obtain ⟨y', as, r'⟩ := q
          rw [hc] at h
          dsimp only at h ⊢
          cases d with
          | zero => cases h
          | succ d =>
            dsimp only at h ⊢
            cases h1 : xRun n d y' 0 (xEntry as y'.2.2.1) [] g with
            | none => rw [h1] at h; cases h
            | some q =>
              obtain ⟨v, g'⟩ := q
              rw [h1] at h
              exact ih _ _ _ _ _ _ _ _ hle h
        | none =>
          rw [hc] at h
          dsimp only at h ⊢
          cases hs : xStep y i len pc al st g with
          | none => rw [hs] at h; cases h
          | some q =>
            obtain ⟨pc', a1, s1, g1⟩ := q
            rw [hs] at h
            obtain ⟨a2, h2, h3⟩ := xStep_le hle hs
            rw [h2]
            exact ih _ _ _ _ _ _ _ _ h3 h
theorem X_le {d : Nat} {y : xMI} {pc : Nat} {al al' : xAL} {st : List Value} {g : xSt} {r : Option Value × xSt} (h : xLeA al al') (k : xX d y pc al st g = some r) : xX d y pc al' st g = some r := by
  obtain ⟨n, hn⟩ := xX_iff.mp k
  exact xX_iff.mpr ⟨n, xRun_leA _ _ _ _ _ _ _ _ _ h hn⟩
theorem x_ite {c : Prop} [Decidable c] {A B : xRes} {r : Option Value × xSt} (h1 : c → A = some r) (h2 : ¬ c → B = some r) : (if c then A else B) = some r := by
  by_cases q : c
  · rw [if_pos q]; exact h1 q
  · rw [if_neg q]; exact h2 q
theorem xretZ {v : Int32} (h : v = 0 ∨ v = 1) : xRet (some .boolean) .ireturn 1 [.int v] = some (some (.int v)) := by simp [xRet, h]
/-! rows read and written at any index -/
def xat (f : Nat → Int32) (n : Nat) (i : Int32) : Int32 := if i < 0 ∨ n ≤ i.toNatClampNeg then 0 else f i.toNatClampNeg
def xatL (f : Nat → Int64) (n : Nat) (i : Int32) : Int64 := if i < 0 ∨ n ≤ i.toNatClampNeg then 0 else f i.toNatClampNeg
def xput (g : xSt) (o n : Nat) (i v : Int32) : xSt := if i < 0 ∨ n ≤ i.toNatClampNeg then g else xWI g o i.toNatClampNeg v
def xputL (g : xSt) (o n : Nat) (i : Int32) (v : Int64) : xSt := if i < 0 ∨ n ≤ i.toNatClampNeg then g else xWL g o i.toNatClampNeg v
def xadd (g : xSt) (o n : Nat) (i v : Int32) : xSt := if i < 0 ∨ n ≤ i.toNatClampNeg then g else xWI g o i.toNatClampNeg (xI g o i.toNatClampNeg + v)
def xbit (b i : Int32) : Int32 := if i < 0 then 0 else if 31 ≤ i then 0 else if (b >>> (i &&& 31)) &&& 1 = 0 then 0 else 1
theorem xWf_I {g : xSt} (W : xWf g) (o k : Nat) (v : Int32) : xWf (xWI g o k v) := W
theorem xWf_L {g : xSt} (W : xWf g) (o k : Nat) (v : Int64) : xWf (xWL g o k v) := W
theorem xWf_put {g : xSt} (W : xWf g) {o n : Nat} {i v : Int32} : xWf (xput g o n i v) := by unfold xput; split <;> exact W
theorem xWf_putL {g : xSt} (W : xWf g) {o n : Nat} {i : Int32} {v : Int64} : xWf (xputL g o n i v) := by unfold xputL; split <;> exact W
theorem xWf_add {g : xSt} (W : xWf g) {o n : Nat} {i v : Int32} : xWf (xadd g o n i v) := by unfold xadd; split <;> exact W
