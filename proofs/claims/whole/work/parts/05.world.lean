/-! THE ABSTRACT STORE IN THE REAL HEAP: cell o lies at base + o; what lies below base (the script, the String constants) is left as it was. -/
def xAd (base : Nat) (ext : Nat → Nat) (i : Nat) : Nat := if i < 1000000 then base + i else ext (i - 1000000)
def xTr (ad : Nat → Nat) : Value → Value
  | .ref a => .ref (ad a)
  | v => v
/-- the surroundings: classes and their slots, array classes, the first address of ours, the addresses of the script and of the String constants, of these' bytes, the script's length and values -/
abbrev xEnv : Type := va_G × (FieldType → ClassId) × Nat × (Nat → Nat) × (Nat → Nat) × Nat × (Nat → Int32)
def eD (E : xEnv) : va_G := E.1
def eA (E : xEnv) : FieldType → ClassId := E.2.1
def eB (E : xEnv) : Nat := E.2.2.1
def eX (E : xEnv) : Nat → Nat := E.2.2.2.1
def eV (E : xEnv) : Nat → Nat := E.2.2.2.2.1
def eL (E : xEnv) : Nat := E.2.2.2.2.2.1
def eS (E : xEnv) : Nat → Int32 := E.2.2.2.2.2.2
def eT (E : xEnv) : Nat → Nat := xAd (eB E) (eX E)
def xArc (ad : Nat → Nat) (ty : FieldType) (g : xSt) (o : Nat) : (Nat → Int32) ⊕ (Nat → Int64) ⊕ (Nat → UInt32) ⊕ (Nat → UInt64) ⊕ (Nat → Option Nat) := match ty with
  | .long => .inr (.inl (xL g o))
  | .object _ => .inr (.inr (.inr (.inr (fun j => (xR g o j).map ad))))
  | _ => .inl (xI g o)
def xFs (ad : Nat → Nat) (c : Nat) (g : xSt) (o : Nat) : List Value := (List.range (xNf c)).map fun k => xTr ad (xFv (xFt c k) g o k)
def xEl (ad : Nat → Nat) (dA : FieldType → ClassId) (g : xSt) (o : Nat) : va_E := match xH g o with
  | .inl q => .inl (dA q.1, q.2, xArc ad q.1 g o)
  | .inr c => .inr (c, xFs ad c g o)
def xRep (E : xEnv) (g : xSt) (H : Heap) : Prop := H.size = eB E + xN g ∧ ∀ o : Nat, o < xN g → va_at (eD E) xCL (eB E + o, xEl (eT E) (eA E) g o) H
def xSc (E : xEnv) (g : xSt) : Prop := xH g 1000000 = .inl (.int, eL E) ∧ xI g 1000000 = eS E ∧ xN g ≤ 1000000
/-- reading and writing -/
theorem xI_WI (g : xSt) (o k : Nat) (v : Int32) : xI (xWI g o k v) = x2 (xI g) o k v := rfl
theorem xL_WI (g : xSt) (o k : Nat) (v : Int32) : xL (xWI g o k v) = xL g := rfl
theorem xR_WI (g : xSt) (o k : Nat) (v : Int32) : xR (xWI g o k v) = xR g := rfl
theorem xH_WI (g : xSt) (o k : Nat) (v : Int32) : xH (xWI g o k v) = xH g := rfl
theorem xN_WI (g : xSt) (o k : Nat) (v : Int32) : xN (xWI g o k v) = xN g := rfl
theorem xU_WI (g : xSt) (o k : Nat) (v : Int32) : xU (xWI g o k v) = xU g := rfl
theorem xI_WL (g : xSt) (o k : Nat) (v : Int64) : xI (xWL g o k v) = xI g := rfl
theorem xL_WL (g : xSt) (o k : Nat) (v : Int64) : xL (xWL g o k v) = x2 (xL g) o k v := rfl
theorem xR_WL (g : xSt) (o k : Nat) (v : Int64) : xR (xWL g o k v) = xR g := rfl
theorem xH_WL (g : xSt) (o k : Nat) (v : Int64) : xH (xWL g o k v) = xH g := rfl
theorem xN_WL (g : xSt) (o k : Nat) (v : Int64) : xN (xWL g o k v) = xN g := rfl
theorem xU_WL (g : xSt) (o k : Nat) (v : Int64) : xU (xWL g o k v) = xU g := rfl
theorem xI_WR (g : xSt) (o k : Nat) (v : Option Nat) : xI (xWR g o k v) = xI g := rfl
theorem xL_WR (g : xSt) (o k : Nat) (v : Option Nat) : xL (xWR g o k v) = xL g := rfl
theorem xR_WR (g : xSt) (o k : Nat) (v : Option Nat) : xR (xWR g o k v) = x2 (xR g) o k v := rfl
theorem xH_WR (g : xSt) (o k : Nat) (v : Option Nat) : xH (xWR g o k v) = xH g := rfl
theorem xN_WR (g : xSt) (o k : Nat) (v : Option Nat) : xN (xWR g o k v) = xN g := rfl
theorem xU_WR (g : xSt) (o k : Nat) (v : Option Nat) : xU (xWR g o k v) = xU g := rfl
theorem x2_row {α : Type} (f : Nat → Nat → α) {o a : Nat} (k : Nat) (v : α) (h : a ≠ o) : x2 f o k v a = f a := by funext b; simp [x2, h]
theorem x2_own {α : Type} (f : Nat → Nat → α) (o k : Nat) (v : α) : x2 f o k v o = fun b => if b = k then v else f o b := by funext b; simp [x2]
theorem xEl_of (ad : Nat → Nat) (dA : FieldType → ClassId) {g g' : xSt} {o o' : Nat} (hH : xH g' o' = xH g o) (hI : xI g' o' = xI g o) (hL : xL g' o' = xL g o) (hR : xR g' o' = xR g o) : xEl ad dA g' o' = xEl ad dA g o := by
  have hf : ∀ ty k, xFv ty g' o' k = xFv ty g o k := by intro ty k; cases ty <;> simp [xFv, hI, hL, hR]
  unfold xEl
  rw [hH]
  cases xH g o with
  | inl q =>
    obtain ⟨ty, n⟩ := q
    have : xArc ad ty g' o' = xArc ad ty g o := by cases ty <;> simp [xArc, hI, hL, hR]
    simp only [this]
  | inr c => simp only [xFs, hf]
theorem xEl_WI (ad : Nat → Nat) (dA : FieldType → ClassId) (g : xSt) {o o' : Nat} (k : Nat) (v : Int32) (h : o' ≠ o) : xEl ad dA (xWI g o k v) o' = xEl ad dA g o' :=
  xEl_of ad dA rfl (by rw [xI_WI, x2_row _ _ _ h]) rfl rfl
theorem xEl_WL (ad : Nat → Nat) (dA : FieldType → ClassId) (g : xSt) {o o' : Nat} (k : Nat) (v : Int64) (h : o' ≠ o) : xEl ad dA (xWL g o k v) o' = xEl ad dA g o' :=
  xEl_of ad dA rfl rfl (by rw [xL_WL, x2_row _ _ _ h]) rfl
theorem xEl_WR (ad : Nat → Nat) (dA : FieldType → ClassId) (g : xSt) {o o' : Nat} (k : Nat) (v : Option Nat) (h : o' ≠ o) : xEl ad dA (xWR g o k v) o' = xEl ad dA g o' :=
  xEl_of ad dA rfl rfl rfl (by rw [xR_WR, x2_row _ _ _ h])
theorem xEl_New (ad : Nat → Nat) (dA : FieldType → ClassId) (g : xSt) (h : xSh) (n : Nat) {o : Nat} (ho : o ≠ xN g) : xEl ad dA (xNew g h n) o = xEl ad dA g o := by
  refine xEl_of ad dA ?_ ?_ ?_ ?_
  · show (if o = g.1.1 then h else g.2.1 o) = g.2.1 o
    exact if_neg ho
  · funext b
    show (if o = g.1.1 then 0 else g.2.2.1 o b) = g.2.2.1 o b
    exact if_neg ho
  · funext b
    show (if o = g.1.1 then 0 else g.2.2.2.1 o b) = g.2.2.2.1 o b
    exact if_neg ho
  · funext b
    show (if o = g.1.1 then none else g.2.2.2.2 o b) = g.2.2.2.2 o b
    exact if_neg ho
theorem xN_New (g : xSt) (h : xSh) (n : Nat) : xN (xNew g h n) = xN g + 1 := rfl
theorem xU_New (g : xSt) (h : xSh) (n : Nat) : xU (xNew g h n) = xU g + n := rfl
theorem xH_New (g : xSt) (h : xSh) (n : Nat) : xH (xNew g h n) (xN g) = h := by show (if g.1.1 = g.1.1 then h else g.2.1 _) = h; exact if_pos rfl
theorem xI_New (g : xSt) (h : xSh) (n : Nat) : xI (xNew g h n) (xN g) = fun _ => 0 := by funext b; show (if g.1.1 = g.1.1 then (0 : Int32) else g.2.2.1 _ b) = 0; exact if_pos rfl
theorem xL_New (g : xSt) (h : xSh) (n : Nat) : xL (xNew g h n) (xN g) = fun _ => 0 := by funext b; show (if g.1.1 = g.1.1 then (0 : Int64) else g.2.2.2.1 _ b) = 0; exact if_pos rfl
theorem xR_New (g : xSt) (h : xSh) (n : Nat) : xR (xNew g h n) (xN g) = fun _ => none := by funext b; show (if g.1.1 = g.1.1 then none else g.2.2.2.2 _ b) = none; exact if_pos rfl
/-- one cell has changed -/
theorem xRep.upd {E : xEnv} {g g' : xSt} {H H' : Heap} {o : Nat} (h : xRep E g H) (hN : xN g' = xN g) (hel : ∀ o' : Nat, o' ≠ o → xEl (eT E) (eA E) g' o' = xEl (eT E) (eA E) g o') (hat : va_at (eD E) xCL (eB E + o, xEl (eT E) (eA E) g' o) H') (hsz : H'.size = H.size) (hq : ∀ q : Nat, q ≠ eB E + o → H'[q]? = H[q]?) : xRep E g' H' := by
  refine ⟨by rw [hsz, h.1, hN], fun o' ho' => ?_⟩
  by_cases he : o' = o
  · subst he; exact hat
  · rw [hel o' he]
    exact (h.2 o' (by rw [← hN]; exact ho')).kept (hq _ (by show eB E + o' ≠ eB E + o; omega))
/-- a new cell -/
theorem xRep.new {E : xEnv} {g : xSt} {h : xSh} {n : Nat} {H H' : Heap} (hR : xRep E g H) (hat : va_at (eD E) xCL (eB E + xN g, xEl (eT E) (eA E) (xNew g h n) (xN g)) H') (hsz : H'.size = H.size + 1) (hq : ∀ q : Nat, q < H.size → H'[q]? = H[q]?) : xRep E (xNew g h n) H' := by
  refine ⟨by rw [hsz, hR.1, xN_New]; omega, fun o ho => ?_⟩
  by_cases he : o = xN g
  · subst he; exact hat
  · have ho : o < xN g := by rw [xN_New] at ho; omega
    rw [xEl_New _ _ _ _ _ he]
    exact (hR.2 o ho).kept (hq _ (by rw [hR.1]; show eB E + o < _; omega))
theorem xSc.WI {E : xEnv} {g : xSt} (h : xSc E g) {o : Nat} (k : Nat) (v : Int32) (ho : o < xN g) : xSc E (xWI g o k v) := ⟨h.1, by rw [xI_WI, x2_row _ _ _ (by have := h.2.2; omega)]; exact h.2.1, h.2.2⟩
theorem xSc.WL {E : xEnv} {g : xSt} (h : xSc E g) (o k : Nat) (v : Int64) : xSc E (xWL g o k v) := h
theorem xSc.WR {E : xEnv} {g : xSt} (h : xSc E g) (o k : Nat) (v : Option Nat) : xSc E (xWR g o k v) := h
theorem xSc.new {E : xEnv} {g : xSt} (h : xSc E g) (w : xSh) (n : Nat) (ho : xN g < 1000000) : xSc E (xNew g w n) := by
  refine ⟨?_, ?_, by rw [xN_New]; omega⟩
  · show (if 1000000 = g.1.1 then w else g.2.1 1000000) = _
    rw [if_neg (by show ¬ 1000000 = xN g; omega)]; exact h.1
  · funext b
    show (if 1000000 = g.1.1 then 0 else g.2.2.1 1000000 b) = _
    rw [if_neg (by show ¬ 1000000 = xN g; omega)]; exact congrFun h.2.1 b
/-- the tables as they stand, and what lies below base -/
def xKA (dA : FieldType → ClassId) (U : State) : Prop := ∀ ty : FieldType, (xTyOk ty = true ∨ ty = .object RX0) → ArrOfT U (dA ty) ty ∧ va_RA U (dA ty) ty
def xNst : List Cond := lw_tbl.filter fun w => match w with
  | .methodLinkNest .. => true
  | _ => false
def xCsT (j : Nat) : String := (xKSL.getD j (0, 0, "", 0, 0)).2.2.1
def xCsI (j : Nat) : Nat := (xKSL.getD j (0, 0, "", 0, 0)).2.1
def xCsB (j : Nat) : List Int32 := (xCsT j).toList.map fun ch => Int32.ofNat ch.toNat
def xTb (E : xEnv) (U : State) : Prop := va_K (eD E) xCL [] U ∧ xKA (eA E) U ∧ (∀ w ∈ xNst, va_Nw w U) ∧ va_AO RX0 U ∧ ∀ j : Nat, j < 7 → vk_R RX6 (xCsI j) (xCsT j) (eX E (j + 1)) U
def xLow (E : xEnv) (U : State) (H : Heap) : Prop := vk_S 7 ((List.range 7).map fun j => (xCsB j).length) ((List.range 7).map xCsB) (fun i => eX E (i + 1)) (eV E) (fun q => eB E ≤ q) U H ∧ va_X (eX E 0) (eL E) (eS E) U H ∧ (∀ i : Nat, i < 8 → eX E i < eB E) ∧ eL E < 2 ^ 31 ∧ va_Z "java/lang/String" "COMPACT_STRINGS" "Z" (.int 1) (fun q => eB E ≤ q) U H ∧ va_Zq "jdk/internal/util/Preconditions" "SIOOBE_FORMATTER" "Ljava/util/function/BiFunction;" (fun q => eB E ≤ q) U H
theorem xKA.moved {dA : FieldType → ClassId} {u U : State} (hvm : u.vm.Alike U.vm) (h : xKA dA u) : xKA dA U := fun ty hty => ⟨arrOfT_moved hvm (h ty hty).1, (h ty hty).2.moved hvm⟩
theorem xNst_nest {w : Cond} (h : w ∈ xNst) : ∃ a i x b, w = .methodLinkNest a i x b := by
  have h2 := (List.mem_filter.mp h).2
  cases w <;> simp at h2 ⊢
theorem xTb.moved {E : xEnv} {u U : State} (hW : u.WarmedH U.vm) (h : xTb E u) : xTb E U := by
  refine ⟨va_K.moved hW.alike h.1, h.2.1.moved hW.alike, fun w hw => ?_, h.2.2.2.1.moved hW.alike, fun j hj => vk_R.warm hW (h.2.2.2.2 j hj)⟩
  obtain ⟨a, i, x, b, rfl⟩ := xNst_nest hw
  exact va_Nw.warmM hW (h.2.2.1 _ hw)
theorem xLow.moved {E : xEnv} {u U : State} {H : Heap} (hvm : u.vm.Alike U.vm) (h : xLow E u H) : xLow E U H := ⟨h.1.moved hvm, h.2.1.moved hvm, h.2.2.1, h.2.2.2.1, h.2.2.2.2.1.moved hvm, h.2.2.2.2.2.moved hvm⟩
theorem xLow.kept {E : xEnv} {U : State} {H H1 : Heap} (h : xLow E U H) (hq : ∀ q : Nat, q < eB E → H1[q]? = H[q]?) : xLow E U H1 :=
  ⟨h.1.kept (fun a _ ha => hq a (Nat.not_le.mp ha)), h.2.1.kept (hq _ (h.2.2.1 0 (by decide))), h.2.2.1, h.2.2.2.1, h.2.2.2.2.1.kept (fun a _ ha => hq a (Nat.not_le.mp ha)), h.2.2.2.2.2.kept (fun a _ ha => hq a (Nat.not_le.mp ha))⟩
