/-! THE START: from what the Statement gives to a run of the abstract machine (the first rows are kit/laws/SKELETON's, given for pasting) -/
def R_law : String := "HeavierRowLaw"
def lw_P (b : Addr) (xs : List Int32) (args : Array Value) (s : State) : Prop := args = #[.ref b] ∧ s.IntsAt b xs ∧ xs.length ≤ 3072 ∧ (Jvm.Cond.and given_1 narrow_1).before args s = true
def lw_Q (_ : Array Value) (s : State) (o : Outcome) (t : State) : Prop := o = .returned (some (.int 1)) ∧ Framed s o t [] 600000 7302250
def lw_Z (below : List Frame) (a : Array Value) (s : State) : State → Prop := fun t => ∃ o, t.status = .running ∧ Ended t below o ∧ lw_Q a s o t
/-- the law's own end, with 1 on the stack, nothing written that was there before, its room as the claim has it -/
theorem lw_ret {p : Program} {l : Launch} {e : Env} {s : State} {m : MethodId} {below : List Frame} {meth : Method} {c : Code} {b : Nat} (hx : p.tables.exec = Jvm.exec) (hb : c.code = code) (hr : meth.sig.returnType = ret) (hlocks : meth.locks = false) {pc : Nat} {H : Heap} {ls : Array Slot} (hdg : decode code pc = .ok (.ireturn, 1)) : W p l e room_1 s m #[Value.ref b] below meth c H [] 600000 7302250 (lw_Z below #[Value.ref b] s) (F0 m pc ls [.int 1]) := by
  intro T hT X
  obtain ⟨fs, hret, hrun, hended, hW, hframe⟩ := X.leave (v := some (.int 1)) (hlocks := hlocks) (fun h => by rw [hr] at h; cases h)
  have hmeth' : T.vm.method? m = some meth := X.method'
  refine ⟨T.setFrames fs, ?_, .returned (some (.int 1)), hrun, hended, rfl, ⟨_, rfl⟩, hW, hframe⟩
  jvm_step X.here [X.here.top, hx, hb, hdg, hmeth', hr, ret, narrow_b1]
  (try refine ⟨rfl, ?_⟩); (try refine ⟨rfl, ?_⟩)
  first | (intro acts; rw [hret _ acts rfl rfl rfl]) | rw [hret _ _ rfl rfl rfl]
  exact Steps.refl _
/-- what holds at the law's entry: the machine, the code, the tables' words (any of lw_tbl by 'hts w (by decide +kernel)'), the script of L ints xs at the cell b, what the Statement gives of the start (any of its parts by flat_of_before) -/
def lw_At (p : Program) (s : State) (m : MethodId) (meth : Method) (c : Code) (b L : Nat) (xs : Nat → Int32) : Prop :=
  p.tables.exec = Jvm.exec ∧ c.code = code ∧ meth.sig.returnType = ret ∧ c.maxLocals = 4 ∧ s.vm.findClass R_law = some m.cls ∧ (∀ w ∈ lw_tbl, w.before #[Value.ref b] s = true) ∧ va_X b L xs s s.heap ∧ b < s.heap.size ∧ meth.locks = false ∧ (Jvm.Cond.and given_1 narrow_1).before #[Value.ref b] s = true
set_option maxRecDepth 20000 in
theorem xLay_words : Cond.laysStatic "java/lang/String" "COMPACT_STRINGS" "Z" ∈ lw_tbl ∧ Cond.laysStatic "jdk/internal/util/Preconditions" "SIOOBE_FORMATTER" "Ljava/util/function/BiFunction;" ∈ lw_tbl := ⟨xc1 _ (List.mem_of_getElem? (i := 126) rfl), xc1 _ (List.mem_of_getElem? (i := 142) rfl)⟩
theorem xws_tbl {w : Cond} (h : w ∈ xws) : w ∈ lw_tbl := (List.mem_filter.mp h).1
def xFl : List Cond := flatC (Jvm.Cond.and given_1 narrow_1)
theorem xFl_ex : ∀ i, i < 7 → Cond.exactly (.string RX6 (xCsI i)) "java/lang/String" ∈ xFl := by decide +kernel
theorem xFl_co : ∀ i, i < 7 → Cond.eq (.field (.string RX6 (xCsI i)) "java/lang/String" "coder" "B") (.int 0) ∈ xFl := by decide +kernel
theorem xFl_ar : ∀ i, i < 7 → Cond.arrayOf (.field (.string RX6 (xCsI i)) "java/lang/String" "value" "[B") .byte ∈ xFl := by decide +kernel
theorem xFl_le : ∀ i, i < 7 → Cond.eq (.length (.field (.string RX6 (xCsI i)) "java/lang/String" "value" "[B")) (.int (Int32.ofNat (xLn i))) ∈ xFl := by decide +kernel
theorem xFl_el : ∀ i, i < 7 → ∀ j, j < xLn i → Cond.eq (.elem (.field (.string RX6 (xCsI i)) "java/lang/String" "value" "[B") (.int (Int32.ofNat j))) (.int (xBy i j)) ∈ xFl := by decide +kernel
theorem xFl_ne : ∀ i, i < 7 → ∀ j, j < 7 → i ≠ j → Cond.not (Cond.eq (.string RX6 (xCsI i)) (.string RX6 (xCsI j))) ∈ xFl ∨ Cond.not (Cond.eq (.string RX6 (xCsI j)) (.string RX6 (xCsI i))) ∈ xFl := by decide +kernel
theorem xFl_st : Cond.eq (Term.static "java/lang/String" "COMPACT_STRINGS" "Z") (.int 1) ∈ xFl ∧ Cond.isRef (Term.static "jdk/internal/util/Preconditions" "SIOOBE_FORMATTER" "Ljava/util/function/BiFunction;") ∈ xFl := by decide +kernel
theorem xKS_word : ∀ j, j < 7 → Cond.stringRef RX6 (xCsI j) (xCsT j) ∈ lw_tbl := by
  intro j hj
  have all : ∀ j, j < 7 → (6, xCsI j, xCsT j, j) ∈ xKSL.map fun e => (e.1, e.2.1, e.2.2.1, e.2.2.2.1) := by decide +kernel
  obtain ⟨e, he, h2⟩ := List.mem_map.mp (all j hj)
  have h3 := (xKS_all e he).1
  have e1 : e.1 = 6 := congrArg (fun q => q.1) h2
  have e2 : e.2.1 = xCsI j := congrArg (fun q => q.2.1) h2
  have e3 : e.2.2.1 = xCsT j := congrArg (fun q => q.2.2.1) h2
  rw [e1, e2, e3] at h3
  exact h3
section ST
variable {p : Program} {e : Env} {s : State} {m : MethodId} {below : List Frame} {meth : Method} {c : Code} {b L : Nat} {xs : Nat → Int32}
/-- the surroundings at the law's entry -/
theorem x_env (hL : L ≤ 3072) (C0 : lw_At p s m meth c b L xs) : ∃ E : xEnv, eB E = s.heap.size ∧ eX E 0 = b ∧ eL E = L ∧ eS E = xs ∧ xTb E s ∧ xLow E s s.heap := by
  obtain ⟨hx, hb, hr, hml, hown, hts, hX, hbl, hlocks, hgv⟩ := id C0
  have hw : ∀ w ∈ xws, w.before #[Value.ref b] s = true := fun w h => hts w (xws_tbl h)
  have hn : ∀ w ∈ xFl, w.before #[Value.ref b] s = true := flat_of_before _ hgv
  have hA : ∀ a : Nat, a < s.heap.size → ¬ s.heap.size ≤ a := fun a h => Nat.not_le.mpr h
  have hc : ∀ c : Nat, ∃ z : ClassId × (Nat → Nat), c < 12 → u_Kn s (xNm c) (xTT c) (xNf c) z.1 z.2 := by
    intro c
    by_cases h : c < 12
    · obtain ⟨-, h2, -, -⟩ := xin c h
      obtain ⟨cC, iS, hk⟩ := u_known (args := #[Value.ref b]) hw h2 (hw _ (xIns_all c h).1)
      exact ⟨(cC, iS), fun _ => hk⟩
    · exact ⟨(0, fun _ => 0), fun q => absurd q h⟩
  obtain ⟨dz, hdz⟩ := Classical.axiomOfChoice hc
  have ha : ∀ ty : FieldType, ∃ cA : ClassId, (xTyOk ty = true ∨ ty = .object RX0) → ArrOfT s cA ty ∧ va_RA s cA ty := by
    intro ty
    by_cases h : xTyOk ty = true
    · obtain ⟨cA, kA, comp, f1, f2, f3⟩ := Cond.arrayClass_spec (hw _ (xAC h))
      refine ⟨cA, fun _ => ⟨fun N z => ⟨(fun k q => by cases q), kA, f2, comp, f3⟩, ?_⟩⟩
      cases ty <;> simp [xTyOk] at h <;> exact f1
    · by_cases h2 : ty = .object RX0
      · subst h2
        obtain ⟨comp, cA, kA, f1, f2, f3, f4, f5⟩ := Cond.arrayOver_spec (hts _ xAOw.1)
        exact ⟨cA, fun _ => ⟨fun N z => ⟨(fun k q => by cases q), kA, f3, comp, f4⟩, kA, comp, f3, f4, f1, f5⟩⟩
      · exact ⟨0, fun q => absurd q (fun q => q.elim h h2)⟩
  obtain ⟨dA, hdA⟩ := Classical.axiomOfChoice ha
  obtain ⟨adK, adV, hS, hev⟩ := vk_Sof (args := #[Value.ref b]) (s := s) (N := 7) (tm := fun i => .string RX6 (xCsI i)) (len := (List.range 7).map fun j => (xCsB j).length) (byt := (List.range 7).map xCsB) (A := fun q => s.heap.size ≤ q)
    (fun i hi => Nat.lt_trans (xBy_ok i hi).1 (by decide)) (fun i hi => hn _ (xFl_ex i hi)) (fun i hi => hn _ (xFl_co i hi)) (fun i hi => hn _ (xFl_ar i hi)) (fun i hi => hn _ (xFl_le i hi)) (fun i hi j hj => hn _ (xFl_el i hi j hj)) (fun i j hi hj hij => (xFl_ne i hi j hj hij).imp (fun q => hn _ q) (fun q => hn _ q)) hA
  refine ⟨((fun k => (dz k).1, fun k => (dz k).2), dA, s.heap.size, fun i => match i with
    | 0 => b
    | j + 1 => adK j, adV, L, xs), rfl, rfl, rfl, rfl, ⟨⟨fun k q hq => ?_, fun k q h => by simp at h⟩, fun ty h => hdA ty h, fun w h => ?_, va_AO.of (hts _ xAOw.1), fun j hj => vk_R.of (hts _ (xKS_word j hj)) (hev j hj)⟩, hS, hX, fun i hi => ?_, (show L < 2 ^ 31 by omega), ?_, ?_⟩
  · by_cases h : k < 12
    · rw [(xin k h).1] at hq
      cases hq
      exact hdz k h
    · rw [List.getElem?_eq_none (by simp [xCL]; omega)] at hq
      cases hq
  · obtain ⟨a, i, x, h', rfl⟩ := xNst_nest h
    exact va_Nw.of rfl (hts _ (List.mem_filter.mp h).1)
  · match i, hi with
    | 0, _ => exact hbl
    | j + 1, hi =>
      obtain ⟨cell, h1, -⟩ := (hS.1 j (by omega)).1
      exact (Array.getElem?_eq_some_iff.mp h1).1
  · exact va_Zof (args := #[Value.ref b]) (hts _ xLay_words.1) (hw _ pw_ini_J0) (va_eqt (hn _ xFl_st.1)) hA
  · exact va_Zqof (args := #[Value.ref b]) (hts _ xLay_words.2) (hw _ pw_ini_J3) (hn _ xFl_st.2) hA
def xEx (L : Nat) (S : Nat → Int32) (g : xSt) : xSt := (g.1, fun a => if a = 1000000 then .inl (.int, L) else g.2.1 a, fun a b => if a = 1000000 then S b else g.2.2.1 a b, g.2.2.2.1, g.2.2.2.2)
def x0 : xSt := ((0, 0), fun _ => .inr 99, fun _ _ => 0, fun _ _ => 0, fun _ _ => none)
/-- the claim's walk out of one run of the abstract machine -/
theorem x_start (l : Launch) (hL : L ≤ 3072) (C0 : lw_At p s m meth c b L xs) (hrun : ∃ (n : Nat) (g' : xSt), xRun n 200 mL_law 0 [some (.ref 1000000), none, none, none] [] (xEx L xs x0) = some (some (.int 1), g') ∧ xN g' ≤ 600000 ∧ xU g' ≤ 7302250) : W p l e room_1 s m #[Value.ref b] below meth c s.heap [] 0 0 (lw_Z below #[Value.ref b] s) (entryFrame m ([Value.ref b] : List Value).toArray 4) := by
  obtain ⟨n, g', hr0, hN, hU⟩ := hrun
  obtain ⟨E, e1, e2, e3, e4, hT, hLow⟩ := x_env hL C0
  obtain ⟨hx, hb, hr, hml, hown, hts, hX, hbl, hlocks, hgv⟩ := id C0
  have hw : ∀ w ∈ xws, w.before #[Value.ref b] s = true := fun w h => hts w (xws_tbl h)
  have hs : eT E 1000000 = b := by
    show (if (1000000 : Nat) < 1000000 then eB E + 1000000 else eX E (1000000 - 1000000)) = b
    rw [if_neg (by decide)]
    exact e2
  have hls := xLs_entry (eT E) [.ref 1000000] (n := 4) (Nat.le_of_ble_eq_true rfl)
  rw [show ([Value.ref 1000000].map (xTr (eT E))) = [Value.ref b] by simp [xTr, hs]] at hls
  rw [lg_entry_eq]
  generalize (lg_sl [Value.ref b] ++ List.replicate (4 - (lg_sl [Value.ref b]).length) Slot.unset).toArray = ls at hls ⊢
  have hC : xCx E p s m #[Value.ref b] meth c mL_law := ⟨hx, hb, hml, hown, hw, hT, fun h => absurd h (by decide)⟩
  have hSc : xSc E (xEx L xs x0) := by
    refine ⟨?_, ?_, Nat.zero_le _⟩
    · rw [e3]; exact (if_pos rfl : (if (1000000 : Nat) = 1000000 then (.inl (.int, L) : xSh) else x0.2.1 1000000) = .inl (.int, L))
    · rw [e4]; funext k; exact (if_pos rfl : (if (1000000 : Nat) = 1000000 then xs k else x0.2.2.1 1000000 k) = xs k)
  have hH : xHs E s (xEx L xs x0) s.heap [] := ⟨⟨by rw [e1]; rfl, fun o ho => absurd ho (Nat.not_lt_zero _)⟩, hSc, hLow, fun x h => absurd h List.not_mem_nil, fun q _ => rfl⟩
  refine xSound (E := E) (l := l) xPk_all n 200 mL_law 0 [some (.ref 1000000), none, none, none] [] (xEx L xs x0) (some (.int 1)) g' hr0 (R := room_1) ls (xN g') (xU g') hC hH hls (by show 200 + 12 ≤ 2048; decide) (by show 100 * 200 + 1000 ≤ 84000; decide) (Nat.zero_add _).symm (Nat.zero_add _).symm hN hU ?_
  intro H' locs' pc' ls' i' st' hh hd hret
  have hi : i' = .ireturn ∧ st' = [.int 1] := by
    unfold xRet at hret
    split at hret
    · split at hret
      · rename_i h1; cases h1
      · split at hret
        · cases hret; exact ⟨rfl, rfl⟩
        · cases hret
      · cases hret
    · split at hret
      · rename_i h1; cases h1
      · cases hret
    · split at hret
      · rename_i h1; cases h1
      · cases hret
    · cases hret
  obtain ⟨rfl, rfl⟩ := hi
  refine va_forget (fun q h => by rw [← e1]; exact hh.2.2.2.1 q h) ?_
  refine W.widen hN hU ?_
  exact lw_ret hx hb hr hlocks hd
end ST
