/-! THE WHOLE RUN -/
/-- a frame's standing facts -/
def xCx (E : xEnv) (p : Program) (s : State) (m : MethodId) (args : Array Value) (meth : Method) (c : Code) (y : xMI) : Prop :=
  p.tables.exec = Jvm.exec ∧ c.code = y.2.1 ∧ c.maxLocals = y.2.2.1 ∧ s.vm.findClass (xNm y.2.2.2.2) = some m.cls ∧ (∀ w ∈ xws, w.before args s = true) ∧ xTb E s ∧ (y.1.name = "<init>" → meth.name = "<init>")
/-- the heap now -/
def xHs (E : xEnv) (s : State) (g : xSt) (H : Heap) (locs : List Loc) : Prop := xRep E g H ∧ xSc E g ∧ xLow E s H ∧ (∀ x ∈ locs, eB E ≤ x.base) ∧ ∀ q : Nat, q < eB E → H[q]? = s.heap[q]?
/-- the one JDK text method that is called: what it answers of a constant -/
def xPkOK (E : xEnv) (l : Launch) : Prop := ∀ j : Nat, j < 7 → Met l mX6_packed.1 (Cond.code mX6_packed.1 mX6_packed.2.1 mX6_packed.2.2.1 mX6_packed.2.2.2.1 :: xws) { frames := 8, cells := 0, slots := 0, locals := 400 } (va_Pc [.ref (eX E (j + 1))] (fun U => xTb E U ∧ xLow E U U.heap)) (fun _ st oc t => oc = .returned (some (.long (xPv j))) ∧ t.heap = st.heap) 0 0 (fun _ => False)
theorem xHs.write {E : xEnv} {s : State} {g g' : xSt} {H H' : Heap} {locs locs' : List Loc} {o : Nat} (h : xHs E s g H locs) (hR : xRep E g' H') (hS : xSc E g') (hq : ∀ q : Nat, q ≠ eB E + o → H'[q]? = H[q]?) (hl : ∀ x ∈ locs', x ∈ locs ∨ x.base = eB E + o) : xHs E s g' H' locs' := by
  obtain ⟨h1, h2, h3, h4, h5⟩ := h
  refine ⟨hR, hS, h3.kept (fun q hlt => hq q (by omega)), fun x hx => ?_, fun q hlt => (hq q (by omega)).trans (h5 q hlt)⟩
  rcases hl x hx with h | h
  · exact h4 x h
  · rw [h]; exact Nat.le_add_right _ _
theorem xHs.make {E : xEnv} {s : State} {g g' : xSt} {H H' : Heap} {locs : List Loc} (h : xHs E s g H locs) (hR : xRep E g' H') (hS : xSc E g') (hq : ∀ q : Nat, q < H.size → H'[q]? = H[q]?) : xHs E s g' H' locs := by
  obtain ⟨h1, h2, h3, h4, h5⟩ := h
  have : eB E ≤ H.size := by rw [h1.1]; exact Nat.le_add_right _ _
  exact ⟨hR, hS, h3.kept (fun q hlt => hq q (by omega)), h4, fun q hlt => (hq q (by omega)).trans (h5 q hlt)⟩
theorem xHs.call {E : xEnv} {s : State} {g g' : xSt} {H H' : Heap} {locs locs' : List Loc} (h : xHs E s g H locs) (hR : xRep E g' H') (hS : xSc E g') (hq : ∀ q : Nat, q < eB E → H'[q]? = H[q]?) (hl : ∀ x ∈ locs', x ∈ locs ∨ eB E ≤ x.base) : xHs E s g' H' locs' := by
  obtain ⟨h1, h2, h3, h4, h5⟩ := h
  exact ⟨hR, hS, h3.kept hq, fun x hx => (hl x hx).elim (h4 x) id, fun q hlt => (hq q hlt).trans (h5 q hlt)⟩
/-- what a step does to the store: it grows, the script stays -/
theorem xHp_grow {own : Nat} {ini : Bool} {i : Instr} {st st' : List Value} {g g' : xSt} (h : xHp own ini i st g = some (st', g')) : xN g ≤ xN g' ∧ xU g ≤ xU g' ∧ ∀ E, xSc E g → xSc E g' := by
  have keep : xN g ≤ xN g ∧ xU g ≤ xU g ∧ ∀ E, xSc E g → xSc E g := ⟨Nat.le_refl _, Nat.le_refl _, fun _ h => h⟩
  have mk : ∀ (w : xSh) (n : Nat), xMay g = true → xN g ≤ xN (xNew g w n) ∧ xU g ≤ xU (xNew g w n) ∧ ∀ E, xSc E g → xSc E (xNew g w n) := fun w n hm => ⟨Nat.le_succ _, Nat.le_add_right _ _, fun E h => h.new w n (by simpa [xMay] using hm)⟩
  have wi : ∀ (o k : Nat) (v : Int32), o < xN g → xN g ≤ xN (xWI g o k v) ∧ xU g ≤ xU (xWI g o k v) ∧ ∀ E, xSc E g → xSc E (xWI g o k v) := fun o k v ho => ⟨Nat.le_refl _, Nat.le_refl _, fun E h => h.WI k v ho⟩
  unfold xHp at h
  split at h
  · split at h
    · split at h
      · cases h; exact keep
      · cases h
    · cases h
  · split at h
    · split at h
      · rename_i hc
        split at h
        · rename_i hw
          cases h
          obtain ⟨-, -, -, h4, h5, h6, -, -, h9⟩ := xFw_spec hw id (fun _ => 0)
          refine ⟨Nat.le_of_eq h5.symm, Nat.le_of_eq h6.symm, fun E hE => ?_⟩
          rcases h9 with ⟨x, rfl⟩ | ⟨x, rfl⟩ | ⟨x, rfl⟩
          · exact hE.WI _ _ (xIs_iff hc.1).1
          · exact hE.WL _ _ _
          · exact hE.WR _ _ _
        · cases h
      · cases h
    · cases h
  · split at h
    · split at h
      · cases h; exact keep
      · cases h
    · cases h
  · split at h
    · split at h
      · cases h; exact keep
      · cases h
    · cases h
  · split at h
    · split at h
      · cases h; exact keep
      · cases h
    · cases h
  · split at h
    · split at h
      · cases h; exact keep
      · cases h
    · cases h
  · split at h
    · split at h
      · rename_i hc; cases h
        obtain ⟨_, _, ho, _⟩ := xAr_iff hc
        exact wi _ _ _ ho
      · cases h
    · cases h
  · split at h
    · split at h
      · rename_i hc; cases h
        obtain ⟨_, _, ho, _⟩ := xAr_iff hc
        exact wi _ _ _ ho
      · split at h
        · rename_i hc; cases h
          obtain ⟨_, _, ho, _⟩ := xAr_iff hc.1
          exact wi _ _ _ ho
        · cases h
    · cases h
  · split at h
    · split at h
      · cases h; exact ⟨Nat.le_refl _, Nat.le_refl _, fun E h => h.WL _ _ _⟩
      · cases h
    · cases h
  · split at h
    · split at h
      · cases h; exact ⟨Nat.le_refl _, Nat.le_refl _, fun E h => h.WR _ _ _⟩
      · cases h
    · cases h
  · split at h
    · split at h
      · split at h
        · cases h; exact keep
        · cases h
      · cases h
    · cases h
  · split at h
    · split at h
      · rename_i hc; cases h; exact mk _ _ hc.2.1
      · cases h
    · cases h
  · split at h
    · split at h
      · rename_i hc; cases h; exact mk _ _ hc.2.1
      · cases h
    · cases h
  · split at h
    · split at h
      · rename_i hc; cases h; exact mk _ _ hc
      · cases h
    · cases h
  · split at h
    · cases h; exact keep
    · split at h
      · cases h; exact keep
      · cases h
  · split at h
    · cases h; exact keep
    · cases h
  · split at h
    · cases h; exact keep
    · cases h
  · split at h
    · split at h
      · split at h
        · cases h; exact keep
        · cases h
      · cases h
    · cases h
  · split at h
    · split at h
      · split at h
        · cases h; exact keep
        · cases h
      · cases h
    · split at h
      · split at h
        · split at h
          · cases h; exact keep
          · cases h
        · cases h
      · cases h
  · cases h
theorem xStep_grow {y : xMI} {i : Instr} {len pc pc' : Nat} {al al' : xAL} {st st' : List Value} {g g' : xSt} (h : xStep y i len pc al st g = some (pc', al', st', g')) : xN g ≤ xN g' ∧ xU g ≤ xU g' ∧ ∀ E, xSc E g → xSc E g' := by
  have keep : xN g ≤ xN g ∧ xU g ≤ xU g ∧ ∀ E, xSc E g → xSc E g := ⟨Nat.le_refl _, Nat.le_refl _, fun _ h => h⟩
  unfold xStep at h
  split at h
  · cases h; exact keep
  · split at h
    · split at h
      · cases h; exact keep
      · split at h
        · cases h; exact keep
        · split at h
          · rename_i hh; cases h; exact xHp_grow hh
          · cases h
    · cases h
theorem xRun_grow (n : Nat) : ∀ (d : Nat) (y : xMI) (pc : Nat) (al : xAL) (st : List Value) (g : xSt) (v : Option Value) (g' : xSt), xRun n d y pc al st g = some (v, g') → xN g ≤ xN g' ∧ xU g ≤ xU g' ∧ ∀ E, xSc E g → xSc E g' := by
  induction n with
  | zero => intro d y pc al st g v g' h; cases h
  | succ n ih =>
    intro d y pc al st g v g' h
    rw [xRun] at h
    split at h
    · cases h
    · split at h
      · cases h; exact ⟨Nat.le_refl _, Nat.le_refl _, fun _ h => h⟩
      · split at h
        · cases d with
          | zero => cases h
          | succ d =>
            dsimp only at h
            split at h
            · rename_i h1
              obtain ⟨a1, a2, a3⟩ := ih _ _ _ _ _ _ _ _ h1
              obtain ⟨b1, b2, b3⟩ := ih _ _ _ _ _ _ _ _ h
              exact ⟨Nat.le_trans a1 b1, Nat.le_trans a2 b2, fun E hE => b3 E (a3 E hE)⟩
            · cases h
        · split at h
          · rename_i hs
            obtain ⟨a1, a2, a3⟩ := xStep_grow hs
            obtain ⟨b1, b2, b3⟩ := ih _ _ _ _ _ _ _ _ h
            exact ⟨Nat.le_trans a1 b1, Nat.le_trans a2 b2, fun E hE => b3 E (a3 E hE)⟩
          · cases h
section XT
variable {p : Program} {l : Launch} {e : Env} {R : Room} {s : State} {m : MethodId} {args : Array Value} {below : List Frame} {meth : Method} {c : Code} {H : Heap} {locs : List Loc} {cells slots : Nat} {Q : State → Prop}
variable {pc : Nat} {ls : Array Slot} {E : xEnv} {g g' : xSt} {st st' : List Value} {n len : Nat} {i : Instr} {y : xMI}
/-- what comes back from a call -/
theorem x_call {v : Option Value} {rest st0 : List Value} {mc ms : Nat} {free : Addr → Prop} {Qa : State → Outcome → State → Prop} {P : Heap → Prop}
    (hr : va_Run p l e R s m args below meth c H locs cells slots mc ms (F0 m pc ls st0) rest Qa free) (hQ : ∀ (st : State) (oc : Outcome) (t : State), st.heap = H → Qa st oc t → oc = .returned v ∧ P t.heap ∧ ∀ q : Nat, q < eB E → t.heap[q]? = st.heap[q]?) (hf : ∀ q, free q → eB E ≤ q)
    (kk : ∀ (H1 : Heap) (locs1 : List Loc), P H1 → (∀ q : Nat, q < eB E → H1[q]? = H[q]?) → (∀ x ∈ locs1, x ∈ locs ∨ eB E ≤ x.base) → W p l e R s m args below meth c H1 locs1 (cells + mc) (slots + ms) Q (F0 m (pc + 3) ls (v.toList ++ rest))) : W p l e R s m args below meth c H locs cells slots Q (F0 m pc ls st0) := by
  intro T hT X
  obtain ⟨v', st₀, t, T', L, h0, X', hL, e1, e2, hq, st⟩ := hr T hT X
  obtain ⟨hv, hP, hk⟩ := hQ _ _ _ h0 hq
  cases hv
  rw [h0] at hk
  obtain ⟨t2, a1, b1⟩ := kk T'.heap (locs ++ L) (by rw [e1]; exact hP) (fun q h => by rw [e1]; exact hk q h) (fun x hx => (List.mem_append.mp hx).imp id (fun h => hf _ (hL x h))) T' rfl X'
  exact ⟨t2, st t2 a1, b1⟩
theorem xBlind {av : List Value} {E : xEnv} {g : xSt} : FrameBlind (va_Pc av (fun U => xTb E U ∧ xLow E U U.heap ∧ xRep E g U.heap)) := fun a U fr mk q => ⟨q.1, xTb.moved (u := U) (U := U.calling fr mk a) (State.WarmedH.refl U) q.2.1, xLow.moved (u := U) (U := U.calling fr mk a) (Vm.Alike.refl U.vm) q.2.2.1, q.2.2.2⟩
theorem xGI0 {w : Cond} (hy : w ∈ xws) : GoodIn xws (w :: xws) := fun w hw => by
  have h : w ∈ xws := (List.mem_cons.mp hw).elim (fun e => e ▸ hy) id
  exact ⟨h, good_of_word (List.mem_filter.mp h).2⟩
theorem eT_str {E : xEnv} (j : Nat) : eT E (1000001 + j) = eX E (j + 1) := by
  show (if 1000001 + j < 1000000 then _ else _) = _
  rw [if_neg (by omega), show 1000001 + j - 1000000 = j + 1 by omega]
theorem xKS_ok {own idx j : Nat} (h : xKS own idx = some j) : own = 6 ∧ idx = xCsI j ∧ j < 7 := by
  have all : ∀ e ∈ xKSL, e.1 = 6 ∧ e.2.1 = xCsI e.2.2.2.1 ∧ e.2.2.2.1 < 7 := by decide +kernel
  unfold xKS at h
  split at h
  · rename_i e he
    have h1 := all e (List.mem_of_find?_eq_some he)
    have h2 := List.find?_some he
    simp only [Bool.and_eq_true, beq_iff_eq] at h2
    cases h
    rw [← h2.1, ← h2.2]
    exact h1
  · cases h
theorem xGI {y : xMI} (hy : xMok y) : GoodIn xws (Cond.code y.1 y.2.1 y.2.2.1 y.2.2.2.1 :: xws) := fun w hw => by
  have h : w ∈ xws := (List.mem_cons.mp hw).elim (fun e => e ▸ hy.1) id
  exact ⟨h, good_of_word (List.mem_filter.mp h).2⟩
theorem xs_hp (hC : xCx E p s m args meth c y) (hH : xHs E s g H locs) (hPk : xPkOK E l) (h : xHp y.2.2.2.2 (y.1.name == "<init>") i st g = some (st', g')) (hlen : len = xLen i) (hdg : decode y.2.1 pc = .ok (i, len)) (hsize : ls.size = y.2.2.1)
    (hfr : 12 ≤ R.frames) (hlo : 1000 ≤ R.locals) (hcells : cells + (xN g' - xN g) ≤ R.cells) (hslots : slots + (xU g' - xU g) ≤ R.slots)
    (kk : ∀ (H' : Heap) (locs' : List Loc), xHs E s g' H' locs' → W p l e R s m args below meth c H' locs' (cells + (xN g' - xN g)) (slots + (xU g' - xU g)) Q (F0 m (pc + xLen i) ls (st'.map (xTr (eT E))))) : W p l e R s m args below meth c H locs cells slots Q (F0 m pc ls (st.map (xTr (eT E)))) := by
  obtain ⟨hx, hb, hml, hown, hts, hT, hnm⟩ := hC
  have hSc' := fun hs => (xHp_grow h).2.2 E hs
  have hH0 := hH
  obtain ⟨hR, hS, hLow, hLo, hFr⟩ := hH
  have same : ∀ {st' : List Value}, (∀ (H' : Heap) (locs' : List Loc), xHs E s g H' locs' → W p l e R s m args below meth c H' locs' (cells + (xN g - xN g)) (slots + (xU g - xU g)) Q (F0 m (pc + xLen i) ls (st'.map (xTr (eT E))))) → W p l e R s m args below meth c H locs cells slots Q (F0 m (pc + xLen i) ls (st'.map (xTr (eT E)))) := by
    intro st' k
    have := k H locs hH0
    rwa [Nat.sub_self, Nat.sub_self] at this
  have wr : ∀ {g' : xSt} {rest : List Value}, (∀ (H' : Heap) (locs' : List Loc), xHs E s g' H' locs' → W p l e R s m args below meth c H' locs' (cells + (xN g' - xN g)) (slots + (xU g' - xU g)) Q (F0 m (pc + xLen i) ls rest)) → xN g' = xN g → xU g' = xU g → ∀ (H' : Heap) (locs' : List Loc), xHs E s g' H' locs' → W p l e R s m args below meth c H' locs' cells slots Q (F0 m (pc + xLen i) ls rest) := by
    intro g' rest k h1 h2 H' locs' hh
    have := k H' locs' hh
    rwa [h1, h2, Nat.sub_self, Nat.sub_self] at this
  unfold xHp at h
  split at h
  · -- getfield
    split at h
    · rename_i hf
      split at h
      · rename_i hc
        subst hlen; cases h
        exact xr_get hx hb hts hown hT hR hS hf hc hdg (same kk)
      · cases h
    · cases h
  · -- putfield
    split at h
    · rename_i hf
      split at h
      · rename_i hc
        split at h
        · rename_i hw
          subst hlen; cases h
          obtain ⟨-, -, -, h4, h5, h6, -, -, -⟩ := xFw_spec hw id (fun _ => 0)
          refine xr_put hx hb hts hown hT hR hS hf hc.1 (fun q => ⟨hnm (by simpa using (hc.2 q).1), (hc.2 q).2⟩) (xown _ (xFld_ok hf).2.1 _ (xFld_ok hf).2.2) hw hdg fun H' locs' k1 k2 k3 k4 => ?_
          exact wr kk h5 h6 H' locs' (hH0.write k1 (hSc' hS) k3 k4)
        · cases h
      · cases h
    · cases h
  · -- iaload
    split at h
    · split at h
      · rename_i hc
        subst hlen; cases h
        rcases hc with hc | hc
        · exact xr_iald hx hb hT hR hS hc hdg (same kk)
        · exact xr_sld hx hb hLow hLo hS hc hdg (same kk)
      · cases h
    · cases h
  · -- baload
    split at h
    · split at h
      · rename_i hc
        subst hlen; cases h
        exact xr_bald hx hb hT hR hS hc hdg (same kk)
      · cases h
    · cases h
  · -- laload
    split at h
    · split at h
      · rename_i hc
        subst hlen; cases h
        exact xr_lald hx hb hT hR hS hc hdg (same kk)
      · cases h
    · cases h
  · -- aaload
    split at h
    · split at h
      · rename_i hc
        subst hlen; cases h
        exact xr_aald hx hb hT hR hS hc hdg (same kk)
      · cases h
    · cases h
  · -- iastore
    split at h
    · split at h
      · rename_i hc
        subst hlen; cases h
        exact xr_iast hx hb hT hR hS hc hdg fun H' locs' k1 k2 k3 k4 => wr kk rfl rfl H' locs' (hH0.write k1 (hSc' hS) k3 k4)
      · cases h
    · cases h
  · -- bastore
    split at h
    · split at h
      · rename_i hc
        subst hlen; cases h
        exact xr_bast hx hb hT hR hS hc hdg fun H' locs' k1 k2 k3 k4 => wr kk rfl rfl H' locs' (hH0.write k1 (hSc' hS) k3 k4)
      · split at h
        · rename_i hc
          subst hlen; cases h
          exact xr_zast hx hb hT hR hS hc.1 hc.2 hdg fun H' locs' k1 k2 k3 k4 => wr kk rfl rfl H' locs' (hH0.write k1 (hSc' hS) k3 k4)
        · cases h
    · cases h
  · -- lastore
    split at h
    · split at h
      · rename_i hc
        subst hlen; cases h
        exact xr_last hx hb hT hR hS hc hdg fun H' locs' k1 k2 k3 k4 => wr kk rfl rfl H' locs' (hH0.write k1 (hSc' hS) k3 k4)
      · cases h
    · cases h
  · -- aastore
    split at h
    · split at h
      · rename_i hc
        subst hlen; cases h
        exact xr_aast hx hb hT hR hS hc.1 hc.2 hdg fun H' locs' k1 k2 k3 k4 => wr kk rfl rfl H' locs' (hH0.write k1 (hSc' hS) k3 k4)
      · cases h
    · cases h
  · -- arraylength
    split at h
    · split at h
      · rename_i hh
        split at h
        · rename_i hc
          subst hlen; cases h
          rcases hc with hc | ⟨rfl, rfl⟩
          · exact xr_alen hx hb hT hR hS hh hc.1 hc.2 hdg (same kk)
          · have hn := hh.symm.trans hS.1
            simp only [Sum.inl.injEq, Prod.mk.injEq, true_and] at hn
            subst hn
            obtain ⟨scr, k1, k2, k3, k4, -⟩ := hLow.2.1
            exact W.alen hx hb k1 k2 (by first | (rw [k4]; done) | (rw [k4]; rfl)) rfl rfl hdg (same kk)
        · cases h
      · cases h
    · cases h
  · -- newarray
    split at h
    · split at h
      · rename_i hc
        subst hlen; cases h
        simp only [xN_New, xU_New, Nat.add_sub_cancel_left] at hcells hslots kk
        exact xr_newa hx hb hts hT hR hc.1 hc.2.1 hc.2.2.1 hc.2.2.2 hcells hslots hdg fun H' k1 k2 => kk H' locs (hH0.make k1 (hSc' hS) k2)
      · cases h
    · cases h
  · -- anewarray
    split at h
    · split at h
      · rename_i hc
        subst hlen; cases h
        simp only [xN_New, xU_New, Nat.add_sub_cancel_left] at hcells hslots kk
        exact xr_newq hx hb hts hT hR hown hc.1 hc.2.1 hc.2.2.1 hc.2.2.2 hcells hslots hdg fun H' k1 k2 => kk H' locs (hH0.make k1 (hSc' hS) k2)
      · cases h
    · cases h
  · -- new
    split at h
    · rename_i hf
      split at h
      · rename_i hc
        subst hlen; cases h
        simp only [xN_New, xU_New, Nat.add_sub_cancel_left] at hcells hslots kk
        exact xr_new hx hb hts hT hR hown hf hc hcells hslots hdg fun H' k1 k2 => kk H' locs (hH0.make k1 (hSc' hS) k2)
      · cases h
    · cases h
  · -- ldc
    split at h
    · rename_i hv
      subst hlen; cases h
      exact lv_ldc hx hb hown (hts _ (xKI_ok hv)) hdg (same kk)
    · split at h
      · rename_i j hv
        subst hlen; cases h
        obtain ⟨ho, hi, hj⟩ := xKS_ok hv
        have hk := same kk
        simp only [List.map_cons, xTr, eT_str] at hk
        exact va_ldcS (own := RX6) (tx := xCsT j) hx hb (by rw [ho] at hown; exact hown) (by rw [hi]; exact hT.2.2.2.2 j hj) hdg hk
      · cases h
  · -- ldc_w
    split at h
    · rename_i hv
      subst hlen; cases h
      exact lv_ldcw hx hb hown (hts _ (xKI_ok hv)) hdg (same kk)
    · cases h
  · -- ldc2_w
    split at h
    · rename_i hv
      subst hlen; cases h
      exact lv_ldc2 hx hb hown (hts _ (xKL_ok hv)) hdg (same kk)
    · cases h
  · -- Object.<init>
    split at h
    · rename_i ho
      split at h
      · split at h
        · rename_i hc
          subst hlen; cases h
          refine W.objInit hx hb hown (hts _ (xOb_ok ho)) (hts _ xOb_words.1) (hts _ xOb_words.2) rfl (by rw [hml]; exact hsize) rfl hdg (by omega) ?_ (same kk)
          have hcat : ((List.map (xTr (eT E)) st').map fun v => v.category).sum ≤ 8 := by
            rw [List.map_map, show (fun v : Value => v.category) ∘ xTr (eT E) = fun v => v.category from funext fun v => xTr_cat _ v]; exact hc
          show 2 * 0 + _ + 12 ≤ R.locals
          omega
        · cases h
      · cases h
    · cases h
  · -- static: Math, packed
    split at h
    · rename_i b hm
      split at h
      · split at h
        · rename_i rest hc
          subst hlen; cases h
          have hcat : ((List.map (xTr (eT E)) rest).map fun v => v.category).sum ≤ 8 := by
            rw [List.map_map, show (fun v : Value => v.category) ∘ xTr (eT E) = fun v => v.category from funext fun v => xTr_cat _ v]; exact hc
          have hlk := hts _ (xMm_ok hm)
          cases b with
          | true => exact va_mmax hx hb (hml.trans hsize.symm) hown hlk (hts _ xMm_words.1.1) (hts _ xMm_words.1.2.1) (hts _ xMm_words.1.2.2) (by omega) (by omega) (by omega) (by omega) hdg (same kk)
          | false => exact va_mmin hx hb (hml.trans hsize.symm) hown hlk (hts _ xMm_words.2.1) (hts _ xMm_words.1.2.1) (hts _ xMm_words.2.2) (by omega) (by omega) (by omega) (by omega) hdg (same kk)
        · cases h
      · cases h
    · split at h
      · rename_i hp
        split at h
        · split at h
          · rename_i a rest hc
            subst hlen; cases h
            have hc1 : (1000001 : Nat) ≤ (a : Nat) := hc.1
            have hc2 : (a : Nat) < 1000008 := hc.2.1
            obtain ⟨j, rfl⟩ : ∃ j : Nat, a = 1000001 + j := ⟨(a : Nat) - 1000001, (Nat.add_sub_cancel' hc1).symm⟩
            have hj : j < 7 := Nat.lt_of_add_lt_add_left (show 1000001 + j < 1000001 + 7 from hc2)
            have hcat : ((List.map (xTr (eT E)) rest).map fun v => v.category).sum ≤ 8 := by
              rw [List.map_map, show (fun v : Value => v.category) ∘ xTr (eT E) = fun v => v.category from funext fun v => xTr_cat _ v]; exact hc.2.2
            simp only [xPk, Bool.and_eq_true, beq_iff_eq] at hp
            have hk := same kk
            simp only [List.map_cons, xTr, Nat.add_sub_cancel_left] at hk
            simp only [List.map_cons, xTr, eT_str]
            obtain ⟨w1, w2, w3, w4⟩ := xPk_words
            have hown6 : s.vm.findClass (xNm 6) = some m.cls := by rw [hp.1] at hown; exact hown
            have hw1 := hts _ w1
            rw [← hp.2] at hw1
            refine x_call (v := some (.long (xPv j))) (P := fun H1 => H1 = H) (mc := 0) (ms := 0) (E := E) (va_runS (Ts := xws) (own := xNm 6) (As := [.ref (eX E (j + 1))]) (n := 1) ⟨hx, hb, hml, hown6, hts⟩ (hPk j hj) ⟨callB_of 1 hts (xGI0 w4) rfl rfl rfl (hts _ w3) hw1 (by decide +kernel) ⟨by show 8 + 1 ≤ _; omega, Nat.le_trans (show 8 + (mX6_packed.2.2.1 + 11) + 400 ≤ 1000 by decide +kernel) hlo⟩, hts _ w2⟩ ⟨fun a U fr mk q => ⟨q.1, xTb.moved (u := U) (U := U.calling fr mk a) (State.WarmedH.refl U) q.2.1, xLow.moved (u := U) (U := U.calling fr mk a) (Vm.Alike.refl U.vm) q.2.2⟩, fun U hU hW => ⟨rfl, hT.moved hW, by rw [hU]; exact hLow.moved hW.alike⟩⟩ rfl rfl hsize rfl (lv_room hcat) hdg ⟨by omega, by omega⟩) (fun st oc t h0 hq => ⟨hq.1, hq.2.trans h0, fun q _ => by rw [hq.2]⟩) (fun q h => h.elim) fun H1 locs1 e1 e2 e3 => ?_
            subst e1
            have := kk H1 locs1 (hH0.call hR hS e2 e3)
            rw [Nat.sub_self, Nat.sub_self] at this
            simp only [List.map_cons, xTr, Nat.add_sub_cancel_left] at this
            exact this
          · cases h
        · cases h
      · cases h
  · cases h
end XT
