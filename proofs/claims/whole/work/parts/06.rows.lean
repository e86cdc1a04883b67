/-! ONE INSTRUCTION of the abstract machine is one of the real one: fields, arrays, making. -/
theorem xNw_ok {own idx c : Nat} (h : xNw own idx = some c) : Cond.classLink (xNm own) idx (xNm c) ∈ xws ∧ c < 12 := by
  unfold xNw at h
  split at h
  · rename_i e he
    have h1 := xNw_all e (List.mem_of_find?_eq_some he)
    have h2 := List.find?_some he
    simp only [Bool.and_eq_true, beq_iff_eq] at h2
    cases h
    rw [← h2.1, ← h2.2]
    exact h1
  · cases h
theorem xKI_ok {own idx : Nat} {v : Int32} (h : xKI own idx = some v) : Cond.constant (xNm own) idx v ∈ xws := by
  unfold xKI at h
  split at h
  · rename_i e he
    have h1 := xKI_all e (List.mem_of_find?_eq_some he)
    have h2 := List.find?_some he
    simp only [Bool.and_eq_true, beq_iff_eq] at h2
    cases h
    rw [← h2.1, ← h2.2]
    exact h1
  · cases h
theorem xKL_ok {own idx : Nat} {v : Int64} (h : xKL own idx = some v) : Cond.constantLong (xNm own) idx v ∈ xws := by
  unfold xKL at h
  split at h
  · rename_i e he
    have h1 := xKL_all e (List.mem_of_find?_eq_some he)
    have h2 := List.find?_some he
    simp only [Bool.and_eq_true, beq_iff_eq] at h2
    cases h
    rw [← h2.1, ← h2.2]
    exact h1
  · cases h
theorem xOb_ok {own idx : Nat} (h : xOb own idx = true) : Cond.methodLink (xNm own) idx objectInit ∈ xws := by
  unfold xOb at h
  obtain ⟨e, he, h2⟩ := List.any_eq_true.mp h
  simp only [Bool.and_eq_true, beq_iff_eq] at h2
  have h1 := xOb_all e he
  rw [← h2.1, ← h2.2]
  exact h1
theorem xMm_ok {own idx : Nat} {b : Bool} (h : xMm own idx = some b) : Cond.methodLink (xNm own) idx (if b = true then Lib.Math.max.name else Lib.Math.min.name) ∈ xws := by
  unfold xMm at h
  split at h
  · rename_i e he
    have h1 := xMm_all e (List.mem_of_find?_eq_some he)
    have h2 := List.find?_some he
    simp only [Bool.and_eq_true, beq_iff_eq] at h2
    cases h
    rw [← h2.1, ← h2.2]
    exact h1
  · cases h
theorem xIs_iff {g : xSt} {o c : Nat} (h : xIs g o c = true) : o < xN g ∧ xH g o = .inr c := by
  simpa [xIs] using h
theorem xAr_iff {g : xSt} {o : Nat} {ty : FieldType} {j : Int32} (h : xAr g o ty j = true) : ∃ n : Nat, xH g o = .inl (ty, n) ∧ o < xN g ∧ vp_in j n := by
  unfold xAr at h
  split at h
  · rename_i t n hn
    simp only [Bool.and_eq_true, decide_eq_true_eq, Bool.not_eq_true', Bool.or_eq_false_iff, decide_eq_false_iff_not] at h
    obtain ⟨rfl, h1, h2, h3⟩ := h
    exact ⟨n, hn, h1, fun q => q.elim h2 h3⟩
  · cases h
theorem xArS_iff {g : xSt} {o : Nat} {j : Int32} (h : xArS g o j = true) : ∃ n : Nat, xH g o = .inl (.int, n) ∧ o = 1000000 ∧ vp_in j n := by
  unfold xArS at h
  split at h
  · rename_i t n hn
    simp only [Bool.and_eq_true, decide_eq_true_eq, Bool.not_eq_true', Bool.or_eq_false_iff, decide_eq_false_iff_not] at h
    obtain ⟨rfl, h1, h2, h3⟩ := h
    exact ⟨n, hn, h1, fun q => q.elim h2 h3⟩
  · cases h
theorem eT_lt {E : xEnv} {o : Nat} (h : o < 1000000) : eT E o = eB E + o := if_pos h
theorem va_P1 {D : va_G} {cl : List vw_C} {q : Nat × va_E} {H : Heap} (h : va_at D cl q H) : va_P D cl [q] H := by
  intro k x hx
  have hz : k < 1 := (List.getElem?_eq_some_iff.mp hx).1
  rw [show k = 0 by omega] at hx
  cases hx
  exact h
theorem xK1 {E : xEnv} {U : State} (hT : xTb E U) {ty : FieldType} (hty : xTyOk ty = true ∨ ty = .object RX0) : va_K (eD E) xCL [(eA E ty, ty)] U := by
  refine ⟨hT.1.1, fun k q hk => ?_⟩
  have hz : k < 1 := (List.getElem?_eq_some_iff.mp hk).1
  rw [show k = 0 by omega] at hk
  cases hk
  exact hT.2.1 ty hty
theorem xEl_obj {ad : Nat → Nat} {dA : FieldType → ClassId} {g : xSt} {o c : Nat} (h : xH g o = .inr c) : xEl ad dA g o = .inr (c, xFs ad c g o) := by simp only [xEl, h]
theorem xEl_arr {ad : Nat → Nat} {dA : FieldType → ClassId} {g : xSt} {o n : Nat} {ty : FieldType} (h : xH g o = .inl (ty, n)) : xEl ad dA g o = .inl (dA ty, n, xArc ad ty g o) := by simp only [xEl, h]
theorem xFs_get {ad : Nat → Nat} {c k : Nat} {g : xSt} {o : Nat} (h : k < xNf c) : (xFs ad c g o)[k]? = some (xTr ad (xFv (xFt c k) g o k)) := by simp [xFs, h]
theorem xTr_rf (ad : Nat → Nat) (r : Option Nat) : xTr ad (va_rf r) = va_rf (r.map ad) := by cases r <;> rfl
/-- what a write to a field does -/
theorem xFw_spec {ty : FieldType} {g g' : xSt} {o k : Nat} {v : Value} (h : xFw ty g o k v = some g') (ad : Nat → Nat) (dA : FieldType → ClassId) :
    xFv ty g' o k = v ∧ (∀ (t : FieldType) (j : Nat), j ≠ k → xFv t g' o j = xFv t g o j) ∧ (∀ o' : Nat, o' ≠ o → xEl ad dA g' o' = xEl ad dA g o') ∧ xH g' = xH g ∧ xN g' = xN g ∧ xU g' = xU g ∧ narrow ty (xTr ad v) = xTr ad v ∧ fits ty (xTr ad v) = true ∧ ((∃ x, g' = xWI g o k x) ∨ (∃ x, g' = xWL g o k x) ∨ ∃ x, g' = xWR g o k x) := by
  have own : ∀ {α : Type} (f : Nat → Nat → α) (x : α), x2 f o k x o k = x := fun f x => by simp [x2]
  have oth : ∀ {α : Type} (f : Nat → Nat → α) (x : α) (j : Nat), j ≠ k → x2 f o k x o j = f o j := fun f x j hj => by simp [x2, hj]
  cases ty with
  | int =>
    cases v <;> simp [xFw] at h
    subst h
    exact ⟨congrArg Value.int (own _ _), fun t j hj => by cases t <;> simp [xFv, xI_WI, xL_WI, xR_WI, oth, hj], fun o' ho => xEl_WI _ _ _ _ _ ho, rfl, rfl, rfl, rfl, rfl, Or.inl ⟨_, rfl⟩⟩
  | boolean =>
    cases v with
    | int x =>
      simp only [xFw] at h
      split at h
      · rename_i hx
        cases h
        exact ⟨congrArg Value.int (own _ _), fun t j hj => by cases t <;> simp [xFv, xI_WI, xL_WI, xR_WI, oth, hj], fun o' ho => xEl_WI _ _ _ _ _ ho, rfl, rfl, rfl, by rcases hx with rfl | rfl <;> (show narrow .boolean (.int _) = .int _; decide), by rcases hx with rfl | rfl <;> (show fits .boolean (.int _) = true; decide), Or.inl ⟨_, rfl⟩⟩
      · cases h
    | _ => simp [xFw] at h
  | long =>
    cases v <;> simp [xFw] at h
    subst h
    exact ⟨congrArg Value.long (own _ _), fun t j hj => by cases t <;> simp [xFv, xI_WL, xL_WL, xR_WL, oth, hj], fun o' ho => xEl_WL _ _ _ _ _ ho, rfl, rfl, rfl, rfl, rfl, Or.inr (Or.inl ⟨_, rfl⟩)⟩
  | object C =>
    cases v <;> simp [xFw] at h
    subst h
    exact ⟨congrArg va_rf (own _ _), fun t j hj => by cases t <;> simp [xFv, xI_WR, xL_WR, xR_WR, oth, hj], fun o' ho => xEl_WR _ _ _ _ _ ho, rfl, rfl, rfl, rfl, rfl, Or.inr (Or.inr ⟨_, rfl⟩)⟩
  | array C =>
    cases v <;> simp [xFw] at h
    subst h
    exact ⟨congrArg va_rf (own _ _), fun t j hj => by cases t <;> simp [xFv, xI_WR, xL_WR, xR_WR, oth, hj], fun o' ho => xEl_WR _ _ _ _ _ ho, rfl, rfl, rfl, rfl, rfl, Or.inr (Or.inr ⟨_, rfl⟩)⟩
  | _ => simp [xFw] at h
theorem xFs_set {ty : FieldType} {g g' : xSt} {o k c : Nat} {v : Value} {ad : Nat → Nat} (hty : xFt c k = ty) (h1 : xFv ty g' o k = v) (h2 : ∀ (t : FieldType) (j : Nat), j ≠ k → xFv t g' o j = xFv t g o j) : xFs ad c g' o = (xFs ad c g o).set k (xTr ad v) := by
  refine List.ext_getElem? fun j => ?_
  rw [List.getElem?_set]
  by_cases hj : k = j
  · subst hj
    rw [if_pos rfl]
    by_cases hk : k < xNf c
    · rw [xFs_get hk, if_pos (by simpa [xFs] using hk), hty, h1]
    · rw [if_neg (by simpa [xFs] using hk)]
      simp [xFs, hk]
  · rw [if_neg hj]
    by_cases hk : j < xNf c
    · rw [xFs_get hk, xFs_get hk, h2 _ _ (fun e => hj e.symm)]
    · simp [xFs, hk]
section XR
variable {p : Program} {l : Launch} {e : Env} {R : Room} {s : State} {m : MethodId} {args : Array Value} {below : List Frame} {meth : Method} {c : Code} {H : Heap} {locs : List Loc} {cells slots : Nat} {Q : State → Prop}
variable {cc : ByteArray} {pc : Nat} {ls : Array Slot} {rest : List Value} {E : xEnv} {g : xSt}
theorem xr_get (hexec : p.tables.exec = Jvm.exec) (hb : c.code = cc) (hts : ∀ w ∈ xws, w.before args s = true) {own idx cN k o : Nat} (hown : s.vm.findClass (xNm own) = some m.cls) (hT : xTb E s) (hR : xRep E g H) (hS : xSc E g) (hf : xFld own idx = some (cN, k)) (ho : xIs g o cN = true) (hdg : decode cc pc = .ok (.getfield idx, 3))
    (kk : W p l e R s m args below meth c H locs cells slots Q (F0 m (pc + 3) ls (xTr (eT E) (xFv (xFt cN k) g o k) :: rest))) : W p l e R s m args below meth c H locs cells slots Q (F0 m pc ls (.ref (eT E o) :: rest)) := by
  obtain ⟨h1, h2⟩ := xIs_iff ho
  obtain ⟨hw, hc, hk⟩ := xFld_ok hf
  obtain ⟨x1, x2, -, -⟩ := xin cN hc
  rw [eT_lt (Nat.lt_of_lt_of_le h1 hS.2.2)]
  have hat := hR.2 o h1
  rw [xEl_obj h2] at hat
  exact va_get (C := xNm cN) (T := xTT cN) (N := xNf cN) (ref := (xTT cN k).1) (index := idx) (ws := [(eB E + o, .inr (cN, xFs (eT E) cN g o))]) hexec hb hts x2 hown hT.1 (va_P1 hat) 0 rfl x1 k hk (hts _ hw) (fun x hx => hx) (xFs_get hk) hdg kk
theorem xr_put (hexec : p.tables.exec = Jvm.exec) (hb : c.code = cc) (hts : ∀ w ∈ xws, w.before args s = true) {own idx cN k o : Nat} {v : Value} {g' : xSt} (hown : s.vm.findClass (xNm own) = some m.cls) (hT : xTb E s) (hR : xRep E g H) (hS : xSc E g) (hf : xFld own idx = some (cN, k)) (ho : xIs g o cN = true) (hfin : xFin cN k = true → meth.name = "<init>" ∧ own = cN) (hown1 : (xTT cN k).1 = xNm cN) (hw : xFw (xFt cN k) g o k v = some g') (hdg : decode cc pc = .ok (.putfield idx, 3))
    (kk : ∀ (H' : Heap) (locs' : List Loc), xRep E g' H' → H'.size = H.size → (∀ q : Nat, q ≠ eB E + o → H'[q]? = H[q]?) → (∀ x ∈ locs', x ∈ locs ∨ x.base = eB E + o) → W p l e R s m args below meth c H' locs' cells slots Q (F0 m (pc + 3) ls rest)) : W p l e R s m args below meth c H locs cells slots Q (F0 m pc ls (xTr (eT E) v :: .ref (eT E o) :: rest)) := by
  obtain ⟨h1, h2⟩ := xIs_iff ho
  obtain ⟨hlw, hc, hk⟩ := xFld_ok hf
  obtain ⟨x1, x2, x3, x4⟩ := xin cN hc
  rw [eT_lt (Nat.lt_of_lt_of_le h1 hS.2.2)]
  obtain ⟨f1, f2, f3, f4, f5, -, f6, f7, -⟩ := xFw_spec hw (eT E) (eA E)
  have hK := hT.1
  have hap := va_apart (own := xNm own) hts x2 (xFt cN) x3 x4 hK x1
  have hat := hR.2 o h1
  rw [xEl_obj h2] at hat
  obtain ⟨r, hr1, cell, q1, q2, q3, q4⟩ := hat
  have hr : r = (xNm cN, xTT cN, xNf cN) := Option.some.inj (hr1.symm.trans x1)
  subst hr
  obtain ⟨hSl, hfc, kC, hkC, hkind⟩ := hK.1 cN _ x1
  obtain ⟨cf, kf, fi, f, hi, hsl⟩ := hSl k hk
  have fin : ∀ H' : Heap, H'[eB E + o]? = some (cell.setSlot f.slot (xTr (eT E) v)) → H'.size = H.size → (∀ q : Nat, q ≠ eB E + o → H'[q]? = H[q]?) → xRep E g' H' := by
    intro H' e1 e2 e3
    rw [hsl] at e1
    refine hR.upd f5 f3 ?_ e2 e3
    rw [xEl_obj (by rw [f4]; exact h2), xFs_set rfl f1 f2]
    exact ⟨_, x1, t_OB.to (V := updV (vp_V (xFs (eT E) cN g o)) k (xTr (eT E) v)) ⟨_, e1, q2, q3, t_set q4 hap hk _⟩ (fun j _ => vp_updV_set (by simpa [xFs] using hk) _ j)⟩
  have hlay := hts _ (x2 _ (u_in_lay hk))
  unfold u_lay at hlay
  have hst := (u_facts hfc hkC (u_lays hts x2 hk) hi).1
  by_cases hfn : xFin cN k = true
  · obtain ⟨hin2, hoc⟩ := hfin hfn
    rw [if_pos (show (xTT cN k).2.2.2 = true from hfn)] at hlay
    have hcf : m.cls = cf := by
      obtain ⟨_, _, c', _, _, _, -, -, hf', -, -, -, hown2, -⟩ := Cond.laysFinal_spec hlay
      have e1 : c' = cf := by have := hi.symm.trans hf'; simp at this; exact this.1.symm
      rw [hown1, ← hoc] at hown2
      rw [← e1]; exact Option.some.inj (hown.symm.trans hown2)
    have h6 := u_fits hfc hkC hkind (Or.inr hlay) hi (x3 k hk) f6 f7
    refine W.putFinK hexec hb hown (hts _ hlw) hi hst hcf hin2 (by rw [q2]; exact h6) q1 q3 (by rw [hsl]; exact k2_hasslot (q4 k hk)) rfl rfl hdg fun H' e1 e2 e3 => ?_
    exact kk H' _ (fin H' e1 e2 e3) e2 e3 (fun x hx => by
      rcases List.mem_append.mp hx with h | h
      · exact Or.inl h
      · rw [List.mem_singleton.mp h]; exact Or.inr rfl)
  · rw [if_neg (show ¬ (xTT cN k).2.2.2 = true from hfn)] at hlay
    have h6 := u_store hfc hkC hkind hlay hi (x3 k hk) f6 f7
    refine W.putK hexec hb (f := f) ⟨hown, hts _ hlw, ⟨_, _, _, hi⟩, hst⟩ (by rw [q2]; exact h6) q1 q3 (by rw [hsl]; exact k2_hasslot (q4 k hk)) rfl rfl hdg fun H' e1 e2 e3 => ?_
    exact kk H' _ (fin H' e1 e2 e3) e2 e3 (fun x hx => by
      rcases List.mem_append.mp hx with h | h
      · exact Or.inl h
      · rw [List.mem_singleton.mp h]; exact Or.inr rfl)
/-- arrays: reading -/
theorem xr_iald (hexec : p.tables.exec = Jvm.exec) (hb : c.code = cc) (hT : xTb E s) (hR : xRep E g H) (hS : xSc E g) {o : Nat} {j : Int32} (ho : xAr g o .int j = true) (hdg : decode cc pc = .ok (.iaload, 1))
    (kk : W p l e R s m args below meth c H locs cells slots Q (F0 m (pc + 1) ls (.int (xI g o j.toNatClampNeg) :: rest))) : W p l e R s m args below meth c H locs cells slots Q (F0 m pc ls (.int j :: .ref (eT E o) :: rest)) := by
  obtain ⟨n, h1, h2, h3⟩ := xAr_iff ho
  rw [eT_lt (Nat.lt_of_lt_of_le h2 hS.2.2)]
  have hat := hR.2 o h2
  rw [xEl_arr h1] at hat
  exact va_iald hexec hb (xK1 hT (Or.inl rfl)) (va_P1 hat) 0 0 rfl rfl h3 hdg kk
theorem xr_bald (hexec : p.tables.exec = Jvm.exec) (hb : c.code = cc) (hT : xTb E s) (hR : xRep E g H) (hS : xSc E g) {o : Nat} {j : Int32} (ho : xAr g o .byte j = true ∨ xAr g o .boolean j = true) (hdg : decode cc pc = .ok (.baload, 1))
    (kk : W p l e R s m args below meth c H locs cells slots Q (F0 m (pc + 1) ls (.int (xI g o j.toNatClampNeg) :: rest))) : W p l e R s m args below meth c H locs cells slots Q (F0 m pc ls (.int j :: .ref (eT E o) :: rest)) := by
  rcases ho with ho | ho
  · obtain ⟨n, h1, h2, h3⟩ := xAr_iff ho
    rw [eT_lt (Nat.lt_of_lt_of_le h2 hS.2.2)]
    have hat := hR.2 o h2
    rw [xEl_arr h1] at hat
    exact va_bald hexec hb (xK1 hT (Or.inl rfl)) (va_P1 hat) 0 0 rfl rfl h3 hdg kk
  · obtain ⟨n, h1, h2, h3⟩ := xAr_iff ho
    rw [eT_lt (Nat.lt_of_lt_of_le h2 hS.2.2)]
    have hat := hR.2 o h2
    rw [xEl_arr h1] at hat
    exact va_zald hexec hb (xK1 hT (Or.inl rfl)) (va_P1 hat) 0 0 rfl rfl h3 hdg kk
theorem xr_lald (hexec : p.tables.exec = Jvm.exec) (hb : c.code = cc) (hT : xTb E s) (hR : xRep E g H) (hS : xSc E g) {o : Nat} {j : Int32} (ho : xAr g o .long j = true) (hdg : decode cc pc = .ok (.laload, 1))
    (kk : W p l e R s m args below meth c H locs cells slots Q (F0 m (pc + 1) ls (.long (xL g o j.toNatClampNeg) :: rest))) : W p l e R s m args below meth c H locs cells slots Q (F0 m pc ls (.int j :: .ref (eT E o) :: rest)) := by
  obtain ⟨n, h1, h2, h3⟩ := xAr_iff ho
  rw [eT_lt (Nat.lt_of_lt_of_le h2 hS.2.2)]
  have hat := hR.2 o h2
  rw [xEl_arr h1] at hat
  exact va_lald hexec hb (xK1 hT (Or.inl rfl)) (va_P1 hat) 0 0 rfl rfl h3 hdg kk
theorem xr_aald (hexec : p.tables.exec = Jvm.exec) (hb : c.code = cc) (hT : xTb E s) (hR : xRep E g H) (hS : xSc E g) {o : Nat} {j : Int32} (ho : xAr g o (.object RX0) j = true) (hdg : decode cc pc = .ok (.aaload, 1))
    (kk : W p l e R s m args below meth c H locs cells slots Q (F0 m (pc + 1) ls (xTr (eT E) (va_rf (xR g o j.toNatClampNeg)) :: rest))) : W p l e R s m args below meth c H locs cells slots Q (F0 m pc ls (.int j :: .ref (eT E o) :: rest)) := by
  obtain ⟨n, h1, h2, h3⟩ := xAr_iff ho
  rw [eT_lt (Nat.lt_of_lt_of_le h2 hS.2.2)]
  rw [xTr_rf] at kk
  have hat := hR.2 o h2
  rw [xEl_arr h1] at hat
  exact va_aldq (C := RX0) hexec hb (xK1 hT (Or.inr rfl)) (va_P1 hat) 0 0 rfl rfl h3 hdg kk
/-- the script -/
theorem xr_sld (hexec : p.tables.exec = Jvm.exec) (hb : c.code = cc) (hX : xLow E s H) (hlo : ∀ x ∈ locs, eB E ≤ x.base) (hS : xSc E g) {o : Nat} {j : Int32} (ho : xArS g o j = true) (hdg : decode cc pc = .ok (.iaload, 1))
    (kk : W p l e R s m args below meth c H locs cells slots Q (F0 m (pc + 1) ls (.int (xI g o j.toNatClampNeg) :: rest))) : W p l e R s m args below meth c H locs cells slots Q (F0 m pc ls (.int j :: .ref (eT E o) :: rest)) := by
  obtain ⟨n, h1, rfl, h3⟩ := xArS_iff ho
  have hn : n = eL E := by have := h1.symm.trans hS.1; simpa using this
  subst hn
  rw [hS.2.1] at kk
  exact va_sld (A := fun q => q ≠ eX E 0) (H0 := H) hexec hb hX.2.1 ((Array.getElem?_eq_some_iff.mp hX.2.1.choose_spec.1).1) (fun h => h rfl) ⟨Nat.le_refl _, fun _ _ _ => rfl, fun x h => by have := hlo x h; have := hX.2.2.1 0 (by decide); omega⟩ h3 hdg kk
theorem xr_alen (hexec : p.tables.exec = Jvm.exec) (hb : c.code = cc) (hT : xTb E s) (hR : xRep E g H) (hS : xSc E g) {o n : Nat} {ty : FieldType} (h1 : xH g o = .inl (ty, n)) (h2 : o < xN g) (hty : xTyOk ty = true ∨ ty = .object RX0) (hdg : decode cc pc = .ok (.arraylength, 1))
    (kk : W p l e R s m args below meth c H locs cells slots Q (F0 m (pc + 1) ls (.int (Int32.ofNat n) :: rest))) : W p l e R s m args below meth c H locs cells slots Q (F0 m pc ls (.ref (eT E o) :: rest)) := by
  rw [eT_lt (Nat.lt_of_lt_of_le h2 hS.2.2)]
  have hat := hR.2 o h2
  rw [xEl_arr h1] at hat
  exact va_alen hexec hb (xK1 hT hty) (va_P1 hat) 0 0 rfl rfl rfl hdg kk
/-- arrays: writing -/
theorem x_locs {locs : List Loc} {b : Nat} {x : Loc} (hx : x.base = b) : ∀ y ∈ locs ++ [x], y ∈ locs ∨ y.base = b := fun y hy => by
  rcases List.mem_append.mp hy with h | h
  · exact Or.inl h
  · rw [List.mem_singleton.mp h]; exact Or.inr hx
theorem xr_iast (hexec : p.tables.exec = Jvm.exec) (hb : c.code = cc) (hT : xTb E s) (hR : xRep E g H) (hS : xSc E g) {o : Nat} {j x : Int32} (ho : xAr g o .int j = true) (hdg : decode cc pc = .ok (.iastore, 1))
    (kk : ∀ (H' : Heap) (locs' : List Loc), xRep E (xWI g o j.toNatClampNeg x) H' → H'.size = H.size → (∀ q : Nat, q ≠ eB E + o → H'[q]? = H[q]?) → (∀ x ∈ locs', x ∈ locs ∨ x.base = eB E + o) → W p l e R s m args below meth c H' locs' cells slots Q (F0 m (pc + 1) ls rest)) : W p l e R s m args below meth c H locs cells slots Q (F0 m pc ls (.int x :: .int j :: .ref (eT E o) :: rest)) := by
  obtain ⟨n, h1, h2, h3⟩ := xAr_iff ho
  rw [eT_lt (Nat.lt_of_lt_of_le h2 hS.2.2)]
  have hat := hR.2 o h2
  rw [xEl_arr h1] at hat
  have hK := xK1 hT (ty := .int) (Or.inl rfl)
  refine W.iast hexec hb hat ((hK.2 0 _ rfl).1 n (fun j => .int (xI g o j))) (fun q => by cases q) (by show ¬ (j < 0 ∨ (arrV _ _ _).slots.size ≤ _); rw [arrV_size]; exact h3) rfl rfl hdg fun H1 e1 z oq => ?_
  refine kk H1 _ (hR.upd rfl (fun o' h => xEl_WI _ _ _ _ _ h) ?_ z oq) z oq (x_locs rfl)
  rw [xEl_arr (g := xWI g o j.toNatClampNeg x) h1]
  show H1[_]? = some (vp_cell _ _)
  rw [e1]
  show _ = some (vp_cell _ (n, .inl _))
  rw [vp_cell_i]
  show some ((vp_cell _ (n, .inl _)).setSlot _ _) = _
  rw [vp_cell_i, arrV_store]
  congr 2
  funext q
  rw [xI_WI, x2_own]
  by_cases hq : q = j.toNatClampNeg <;> simp [updV, hq]
theorem xr_zast (hexec : p.tables.exec = Jvm.exec) (hb : c.code = cc) (hT : xTb E s) (hR : xRep E g H) (hS : xSc E g) {o : Nat} {j x : Int32} (ho : xAr g o .boolean j = true) (hx : x = 0 ∨ x = 1) (hdg : decode cc pc = .ok (.bastore, 1))
    (kk : ∀ (H' : Heap) (locs' : List Loc), xRep E (xWI g o j.toNatClampNeg x) H' → H'.size = H.size → (∀ q : Nat, q ≠ eB E + o → H'[q]? = H[q]?) → (∀ x ∈ locs', x ∈ locs ∨ x.base = eB E + o) → W p l e R s m args below meth c H' locs' cells slots Q (F0 m (pc + 1) ls rest)) : W p l e R s m args below meth c H locs cells slots Q (F0 m pc ls (.int x :: .int j :: .ref (eT E o) :: rest)) := by
  obtain ⟨n, h1, h2, h3⟩ := xAr_iff ho
  rw [eT_lt (Nat.lt_of_lt_of_le h2 hS.2.2)]
  have hat := hR.2 o h2
  rw [xEl_arr h1] at hat
  have hK := xK1 hT (ty := .boolean) (Or.inl rfl)
  refine W.zast hexec hb hat ((hK.2 0 _ rfl).1 n (fun j => .int (xI g o j))) (fun q => by cases q) (by show ¬ (j < 0 ∨ (arrV _ _ _).slots.size ≤ _); rw [arrV_size]; exact h3) rfl rfl hdg fun H1 e1 z oq => ?_
  rw [show narrow .boolean (.int x) = .int x by rcases hx with rfl | rfl <;> decide] at e1
  refine kk H1 _ (hR.upd rfl (fun o' h => xEl_WI _ _ _ _ _ h) ?_ z oq) z oq (x_locs rfl)
  rw [xEl_arr (g := xWI g o j.toNatClampNeg x) h1]
  show H1[_]? = some (vp_cell _ _)
  rw [e1]
  show _ = some (vp_cell _ (n, .inl _))
  rw [vp_cell_i]
  show some ((vp_cell _ (n, .inl _)).setSlot _ _) = _
  rw [vp_cell_i, arrV_store]
  congr 2
  funext q
  rw [xI_WI, x2_own]
  by_cases hq : q = j.toNatClampNeg <;> simp [updV, hq]
theorem xr_bast (hexec : p.tables.exec = Jvm.exec) (hb : c.code = cc) (hT : xTb E s) (hR : xRep E g H) (hS : xSc E g) {o : Nat} {j x : Int32} (ho : xAr g o .byte j = true) (hdg : decode cc pc = .ok (.bastore, 1))
    (kk : ∀ (H' : Heap) (locs' : List Loc), xRep E (xWI g o j.toNatClampNeg x.toInt8.toInt32) H' → H'.size = H.size → (∀ q : Nat, q ≠ eB E + o → H'[q]? = H[q]?) → (∀ x ∈ locs', x ∈ locs ∨ x.base = eB E + o) → W p l e R s m args below meth c H' locs' cells slots Q (F0 m (pc + 1) ls rest)) : W p l e R s m args below meth c H locs cells slots Q (F0 m pc ls (.int x :: .int j :: .ref (eT E o) :: rest)) := by
  obtain ⟨n, h1, h2, h3⟩ := xAr_iff ho
  rw [eT_lt (Nat.lt_of_lt_of_le h2 hS.2.2)]
  have hat := hR.2 o h2
  rw [xEl_arr h1] at hat
  have hK := xK1 hT (ty := .byte) (Or.inl rfl)
  refine W.bast hexec hb hat ((hK.2 0 _ rfl).1 n (fun j => .int (xI g o j))) (fun q => by cases q) (by show ¬ (j < 0 ∨ (arrV _ _ _).slots.size ≤ _); rw [arrV_size]; exact h3) rfl rfl hdg fun H1 e1 z oq => ?_
  rw [show narrow .byte (.int x) = .int x.toInt8.toInt32 from rfl] at e1
  refine kk H1 _ (hR.upd rfl (fun o' h => xEl_WI _ _ _ _ _ h) ?_ z oq) z oq (x_locs rfl)
  rw [xEl_arr (g := xWI g o j.toNatClampNeg x.toInt8.toInt32) h1]
  show H1[_]? = some (vp_cell _ _)
  rw [e1]
  show _ = some (vp_cell _ (n, .inl _))
  rw [vp_cell_i]
  show some ((vp_cell _ (n, .inl _)).setSlot _ _) = _
  rw [vp_cell_i, arrV_store]
  congr 2
  funext q
  rw [xI_WI, x2_own]
  by_cases hq : q = j.toNatClampNeg <;> simp [updV, hq]
theorem xr_last (hexec : p.tables.exec = Jvm.exec) (hb : c.code = cc) (hT : xTb E s) (hR : xRep E g H) (hS : xSc E g) {o : Nat} {j : Int32} {x : Int64} (ho : xAr g o .long j = true) (hdg : decode cc pc = .ok (.lastore, 1))
    (kk : ∀ (H' : Heap) (locs' : List Loc), xRep E (xWL g o j.toNatClampNeg x) H' → H'.size = H.size → (∀ q : Nat, q ≠ eB E + o → H'[q]? = H[q]?) → (∀ x ∈ locs', x ∈ locs ∨ x.base = eB E + o) → W p l e R s m args below meth c H' locs' cells slots Q (F0 m (pc + 1) ls rest)) : W p l e R s m args below meth c H locs cells slots Q (F0 m pc ls (.long x :: .int j :: .ref (eT E o) :: rest)) := by
  obtain ⟨n, h1, h2, h3⟩ := xAr_iff ho
  rw [eT_lt (Nat.lt_of_lt_of_le h2 hS.2.2)]
  have hat := hR.2 o h2
  rw [xEl_arr h1] at hat
  have hK := xK1 hT (ty := .long) (Or.inl rfl)
  refine W.last hexec hb hat ((hK.2 0 _ rfl).1 n (fun j => .long (xL g o j))) (fun q => by cases q) (by show ¬ (j < 0 ∨ (arrV _ _ _).slots.size ≤ _); rw [arrV_size]; exact h3) rfl rfl hdg fun H1 e1 z oq => ?_
  refine kk H1 _ (hR.upd rfl (fun o' h => xEl_WL _ _ _ _ _ h) ?_ z oq) z oq (x_locs rfl)
  rw [xEl_arr (g := xWL g o j.toNatClampNeg x) h1]
  show H1[_]? = some (vp_cell _ _)
  rw [e1]
  show _ = some (vp_cell _ (n, .inr (.inl _)))
  rw [vp_cell_l]
  show some ((vp_cell _ (n, .inr (.inl _))).setSlot _ _) = _
  rw [vp_cell_l, arrV_store]
  congr 2
  funext q
  rw [xL_WL, x2_own]
  by_cases hq : q = j.toNatClampNeg <;> simp [updV, hq]
theorem xr_aast (hexec : p.tables.exec = Jvm.exec) (hb : c.code = cc) (hT : xTb E s) (hR : xRep E g H) (hS : xSc E g) {o v : Nat} {j : Int32} (ho : xAr g o (.object RX0) j = true) (hv : xIs g v 0 = true) (hdg : decode cc pc = .ok (.aastore, 1))
    (kk : ∀ (H' : Heap) (locs' : List Loc), xRep E (xWR g o j.toNatClampNeg (some v)) H' → H'.size = H.size → (∀ q : Nat, q ≠ eB E + o → H'[q]? = H[q]?) → (∀ x ∈ locs', x ∈ locs ∨ x.base = eB E + o) → W p l e R s m args below meth c H' locs' cells slots Q (F0 m (pc + 1) ls rest)) : W p l e R s m args below meth c H locs cells slots Q (F0 m pc ls (.ref (eT E v) :: .int j :: .ref (eT E o) :: rest)) := by
  obtain ⟨n, h1, h2, h3⟩ := xAr_iff ho
  obtain ⟨v1, v2⟩ := xIs_iff hv
  have hev := eT_lt (E := E) (Nat.lt_of_lt_of_le v1 hS.2.2)
  rw [eT_lt (Nat.lt_of_lt_of_le h2 hS.2.2), hev]
  have hat := hR.2 o h2
  rw [xEl_arr h1] at hat
  have hav := hR.2 v v1
  rw [xEl_obj v2] at hav
  have hK := xK1 hT (ty := .object RX0) (Or.inr rfl)
  have hlt : j.toNatClampNeg < n := Nat.not_le.mp fun q => h3 (Or.inr q)
  have h0 : ¬ j < 0 := fun q => h3 (Or.inl q)
  obtain ⟨r', hr', cellV, g1, g2, g3, -⟩ := hav
  have hcls := (hK.1 0 _ rfl).2
  obtain ⟨kA, comp, k1, k2, k3, -⟩ := (hK.2 0 _ rfl).2
  have hcomp : comp = (eD E).1 0 := Option.some.inj (k3.symm.trans hcls.1)
  subst hcomp
  obtain ⟨kC, hkC, -⟩ := hcls.2
  refine W.aast hexec hb hat (fun q h => by cases h) (fun h => by cases h) k1 k2 rfl hkC ⟨h0, by show _ < (arrV _ _ _).slots.size; rw [arrV_size]; exact hlt⟩ g1 (fun q h => by rw [g3] at h; cases h) (by rw [g2]; exact hkC) (by rw [g2]; exact va_assign hcls) rfl rfl hdg fun H1 e1 z oq => ?_
  refine kk H1 _ (hR.upd rfl (fun o' h => xEl_WR _ _ _ _ _ h) ?_ z oq) z oq (x_locs rfl)
  rw [xEl_arr (g := xWR g o j.toNatClampNeg (some v)) h1]
  show H1[_]? = some (vp_cell _ _)
  rw [e1]
  show _ = some (vp_cell _ (n, .inr (.inr (.inr (.inr _)))))
  rw [vp_cell_q]
  show some ((vp_cell _ (n, .inr (.inr (.inr (.inr _))))).setSlot _ _) = _
  rw [vp_cell_q, arrV_store]
  congr 2
  funext q
  rw [xR_WR, x2_own]
  by_cases hq : q = j.toNatClampNeg <;> simp [updV, hq, va_rf, hev]
/-- making -/
theorem xr_newa (hexec : p.tables.exec = Jvm.exec) (hb : c.code = cc) (hts : ∀ w ∈ xws, w.before args s = true) (hT : xTb E s) (hR : xRep E g H) {at_ : ArrayType} {n : Int32} (hty : xTyOk (newarray.typeOf at_) = true) (hm : xMay g = true) (hn : ¬ n < 0) (hn2 : n.toNatClampNeg ≤ 100000) (hcells : cells + 1 ≤ R.cells) (hslots : slots + n.toNatClampNeg ≤ R.slots) (hdg : decode cc pc = .ok (.newarray at_, 2))
    (kk : ∀ H' : Heap, xRep E (xNew g (.inl (newarray.typeOf at_, n.toNatClampNeg)) n.toNatClampNeg) H' → (∀ q : Nat, q < H.size → H'[q]? = H[q]?) → W p l e R s m args below meth c H' locs (cells + 1) (slots + n.toNatClampNeg) Q (F0 m (pc + 2) ls (.ref (eT E (xN g)) :: rest))) : W p l e R s m args below meth c H locs cells slots Q (F0 m pc ls (.int n :: rest)) := by
  have hm : xN g < 1000000 := by simpa [xMay] using hm
  rw [eT_lt hm] at kk
  refine va_newaK hexec hb (hts _ (xAC hty)) rfl hdg rfl hn rfl (by have : componentBytes (newarray.typeOf at_) ≤ 8 := (by cases at_ <;> decide); exact Nat.le_trans (Nat.mul_le_mul hn2 this) (by decide)) hcells hslots hR.1 fun H1 cA e1 z1 o1 hAr hNm => ?_
  have hcA : eA E (newarray.typeOf at_) = cA := by
    have h := (hT.2.1 _ (Or.inl hty)).2
    have h : s.vm.findClass ("[" ++ (newarray.typeOf at_).toString) = some (eA E (newarray.typeOf at_)) := by cases at_ <;> exact h
    exact Option.some.inj (h.symm.trans hNm)
  refine kk H1 (hR.new ?_ (by rw [z1, hR.1]) (fun q hq => o1 q (by rw [← hR.1]; exact hq))) (fun q hq => o1 q (by rw [← hR.1]; exact hq))
  rw [xEl_arr (xH_New _ _ _)]
  show H1[_]? = some (vp_cell _ _)
  rw [e1, hcA]
  have hd : ∀ ty : FieldType, xTyOk ty = true → vp_cell cA (n.toNatClampNeg, xArc (eT E) ty (xNew g (.inl (ty, n.toNatClampNeg)) n.toNatClampNeg) (xN g)) = arrV cA n.toNatClampNeg (fun _ => defaultValue ty) := by
    intro ty h
    cases ty <;> simp [xTyOk] at h <;> simp [xArc, xI_New, xL_New, vp_cell_i, vp_cell_l, defaultValue]
  rw [← hd _ hty]
theorem xr_newq (hexec : p.tables.exec = Jvm.exec) (hb : c.code = cc) (hts : ∀ w ∈ xws, w.before args s = true) (hT : xTb E s) (hR : xRep E g H) {own idx : Nat} {n : Int32} (hown : s.vm.findClass (xNm own) = some m.cls) (ha : xAnw own idx = true) (hm : xMay g = true) (hn : ¬ n < 0) (hn2 : n.toNatClampNeg ≤ 100000) (hcells : cells + 1 ≤ R.cells) (hslots : slots + n.toNatClampNeg ≤ R.slots) (hdg : decode cc pc = .ok (.anewarray idx, 3))
    (kk : ∀ H' : Heap, xRep E (xNew g (.inl (.object RX0, n.toNatClampNeg)) n.toNatClampNeg) H' → (∀ q : Nat, q < H.size → H'[q]? = H[q]?) → W p l e R s m args below meth c H' locs (cells + 1) (slots + n.toNatClampNeg) Q (F0 m (pc + 3) ls (.ref (eT E (xN g)) :: rest))) : W p l e R s m args below meth c H locs cells slots Q (F0 m pc ls (.int n :: rest)) := by
  have hm : xN g < 1000000 := by simpa [xMay] using hm
  rw [eT_lt hm] at kk
  simp only [xAnw, Bool.and_eq_true, beq_iff_eq] at ha
  obtain ⟨rfl, rfl⟩ := ha
  refine W.anew hexec hb hown (hts _ xAOw.2) (va_AO.use hT.2.2.2.1) rfl hdg rfl hn (by omega) hcells hslots fun cA kA comp f1 f2 f3 f4 => ?_
  generalize hH1 : H.push ({ cls := cA, slots := Array.replicate n.toNatClampNeg .null, vm := .none } : Cell) = H1
  have z1 : H1.size = H.size + 1 := by rw [← hH1, Array.size_push]
  have e1 : H1[H.size]? = some (arrV cA n.toNatClampNeg (fun _ => .null)) := by rw [← hH1, Array.getElem?_push_size, ← arrV_new]
  have o1 : ∀ q : Nat, q < H.size → H1[q]? = H[q]? := fun q hq => by rw [← hH1, Array.getElem?_push, if_neg (Nat.ne_of_lt hq)]
  have hcA : eA E (.object RX0) = cA := by
    obtain ⟨_, _, _, _, _, h⟩ := (hT.2.1 _ (Or.inr rfl)).2
    exact Option.some.inj (h.symm.trans f1)
  rw [hR.1] at e1 ⊢
  refine kk H1 (hR.new ?_ z1 o1) o1
  rw [xEl_arr (xH_New _ _ _)]
  show H1[_]? = some (vp_cell _ _)
  rw [e1, hcA]
  simp [xArc, xR_New, vp_cell_q, va_rf]
theorem xr_new (hexec : p.tables.exec = Jvm.exec) (hb : c.code = cc) (hts : ∀ w ∈ xws, w.before args s = true) (hT : xTb E s) (hR : xRep E g H) {own idx cN : Nat} (hown : s.vm.findClass (xNm own) = some m.cls) (ha : xNw own idx = some cN) (hm : xMay g = true) (hcells : cells + 1 ≤ R.cells) (hslots : slots + xNf cN ≤ R.slots) (hdg : decode cc pc = .ok (.new idx, 3))
    (kk : ∀ H' : Heap, xRep E (xNew g (.inr cN) (xNf cN)) H' → (∀ q : Nat, q < H.size → H'[q]? = H[q]?) → W p l e R s m args below meth c H' locs (cells + 1) (slots + xNf cN) Q (F0 m (pc + 3) ls (.ref (eT E (xN g)) :: rest))) : W p l e R s m args below meth c H locs cells slots Q (F0 m pc ls rest) := by
  have hm : xN g < 1000000 := by simpa [xMay] using hm
  rw [eT_lt hm] at kk
  obtain ⟨hw, hc⟩ := xNw_ok ha
  obtain ⟨x1, x2, x3, x4⟩ := xin cN hc
  have hKn := hT.1.1 cN _ x1
  refine W.newcK hexec hb hown (hts _ hw) (hts _ (xIns_all cN hc).1) (hts _ (xIns_all cN hc).2) rfl hdg hcells hslots hKn.2.1 hR.1 fun H1 kC hkC e1 z1 o1 => ?_
  refine kk H1 (hR.new ?_ (by rw [z1, hR.1]) (fun q hq => o1 q (by rw [← hR.1]; exact hq))) (fun q hq => o1 q (by rw [← hR.1]; exact hq))
  rw [xEl_obj (xH_New _ _ _)]
  refine ⟨_, x1, (u_born (xFt cN) hts x2 hKn hkC e1 x3).to (fun j hj => ?_)⟩
  show defaultValue (xFt cN j) = (xFs _ _ _ _).getD j .null
  rw [List.getD_eq_getElem?_getD, xFs_get hj]
  have ok : ∀ c, c < 12 → ∀ j, j < xNf c → defaultValue (xFt c j) = (match xFt c j with
    | .long => .long 0
    | .object _ => .null
    | .array _ => .null
    | _ => .int 0) := by decide +kernel
  rw [ok cN hc j hj]
  cases xFt cN j <;> simp [xFv, xI_New, xL_New, xR_New, va_rf, xTr]
end XR
