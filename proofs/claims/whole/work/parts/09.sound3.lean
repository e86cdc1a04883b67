/-! CALLS, and the theorem -/
section XU
variable {p : Program} {l : Launch} {e : Env} {R : Room} {s : State} {m : MethodId} {args : Array Value} {below : List Frame} {meth : Method} {c : Code} {H : Heap} {locs : List Loc} {cells slots : Nat} {Q : State → Prop}
variable {pc : Nat} {ls : Array Slot} {E : xEnv} {g g' : xSt} {st st' : List Value} {n len : Nat} {i : Instr} {y : xMI}
theorem xcat (ad : Nat → Nat) (r : List Value) : ((r.map (xTr ad)).map fun v => v.category).sum = (r.map fun v => v.category).sum := by
  rw [List.map_map, show (fun v : Value => v.category) ∘ xTr ad = fun v => v.category from funext fun v => xTr_cat _ v]
theorem xv_list (ad : Nat → Nat) (v : Option Value) (r : List Value) : (v.toList ++ r).map (xTr ad) = (v.map (xTr ad)).toList ++ r.map (xTr ad) := by cases v <;> simp
abbrev xQc (E : xEnv) (v : Option Value) (g1 : xSt) : Array Value → State → Outcome → State → Prop := fun _ st oc t => oc = .returned (v.map (xTr (eT E))) ∧ xRep E g1 t.heap ∧ ∀ q : Nat, q < eB E → t.heap[q]? = st.heap[q]?
abbrev xPc (E : xEnv) (as : List Value) (g : xSt) : Array Value → State → Prop := va_Pc (as.map (xTr (eT E))) (fun U => xTb E U ∧ xLow E U U.heap ∧ xRep E g U.heap)
theorem xs_call {y' : xMI} {as r : List Value} {v : Option Value} {g1 : xSt} {rm : Room} {mc ms : Nat} (hC : xCx E p s m args meth c y) (hH : xHs E s g H locs) (h : xCall y.2.2.2.2 i len st g = some (y', as, r)) (hdg : decode y.2.1 pc = .ok (i, len)) (hsize : ls.size = y.2.2.1)
    (hM : Met l y'.1 (Cond.code y'.1 y'.2.1 y'.2.2.1 y'.2.2.2.1 :: xws) rm (xPc E as g) (xQc E v g1) mc ms (fun q => eB E ≤ q)) (hrc : rm.cells = mc) (hrs : rm.slots = ms) (hfr : rm.frames + 1 ≤ R.frames) (hlo : rm.locals + 100 ≤ R.locals) (hS1 : xSc E g1) (hf : cells + mc ≤ R.cells ∧ slots + ms ≤ R.slots)
    (kk : ∀ (H' : Heap) (locs' : List Loc), xHs E s g1 H' locs' → W p l e R s m args below meth c H' locs' (cells + mc) (slots + ms) Q (F0 m (pc + 3) ls ((v.toList ++ r).map (xTr (eT E))))) : W p l e R s m args below meth c H locs cells slots Q (F0 m pc ls (st.map (xTr (eT E)))) := by
  obtain ⟨hx, hb, hml, hown, hts, hT, hnm⟩ := hC
  have hH0 := hH
  obtain ⟨hR, hS, hLow, hLo, hFr⟩ := hH
  have hPre : FrameBlind (xPc E as g) ∧ ∀ U : State, U.heap = H → s.WarmedH U.vm → xPc E as g (as.map (xTr (eT E))).toArray U := ⟨xBlind, fun U hU hW => ⟨rfl, hT.moved hW, by rw [hU]; exact hLow.moved hW.alike, by rw [hU]; exact hR⟩⟩
  have fin : ∀ {free : Addr → Prop}, (∀ q, free q → eB E ≤ q) → va_Run p l e R s m args below meth c H locs cells slots mc ms (F0 m pc ls (st.map (xTr (eT E)))) (r.map (xTr (eT E))) (xQc E v g1 (as.map (xTr (eT E))).toArray) free → W p l e R s m args below meth c H locs cells slots Q (F0 m pc ls (st.map (xTr (eT E)))) := by
    intro free hfree hr
    refine x_call (v := v.map (xTr (eT E))) (P := xRep E g1) hr (fun st oc t _ hq => hq) hfree fun H1 locs1 e1 e2 e3 => ?_
    have := kk H1 locs1 (hH0.call e1 hS1 e2 e3)
    rwa [xv_list] at this
  have rc : ∀ {o cN : Nat}, cN < 12 → xIs g o cN = true → ∃ cellB : Cell, H[eT E o]? = some cellB ∧ cellB.vm.isStatics = false ∧ s.vm.findClass (xNm cN) = some cellB.cls := by
    intro o cN hc ho
    obtain ⟨h1, h2⟩ := xIs_iff ho
    rw [eT_lt (Nat.lt_of_lt_of_le h1 hS.2.2)]
    have hat := hR.2 o h1
    rw [xEl_obj h2] at hat
    exact va_recv hT.1 (va_P1 hat) (xin cN hc).1 (q0 := 0) rfl
  unfold xCall at h
  split at h
  · -- static
    split at h
    · rename_i idx y0 n0 hcl
      split at h
      · rename_i hc
        obtain ⟨rfl, hn, h8, -⟩ := hc
        cases h
        obtain ⟨hM0, hpd, hk⟩ := xCl_ok hcl
        obtain ⟨k1, k2, k3, k4, k5, k6, k7⟩ := hM0
        rcases hk with ⟨-, hlk, hst⟩ | ⟨h0, -⟩ | ⟨h0, -⟩ | ⟨h0, -⟩
        · refine fin (fun q h => h) (va_runS (Ts := xws) (own := xNm y.2.2.2.2) (As := (st.take n0).reverse.map (xTr (eT E))) (n := n0) ⟨hx, hb, hml, hown, hts⟩ hM ⟨callB_of n0 hts (xGI0 k1) rfl hrc hrs (hts _ k2) (hts _ hlk) ⟨k3.1, k3.2, hpd⟩ ⟨hfr, ?_⟩, hts _ hst⟩ hPre rfl (by simp; omega) hsize ?_ (lv_room (by rw [xcat]; exact h8)) hdg hf)
          · dsimp only at k5 ⊢; omega
          · show st.map (xTr (eT E)) = (((st.take n0).reverse.map (xTr (eT E))).reverse ++ (st.drop n0).map (xTr (eT E)))
            rw [List.map_reverse, List.reverse_reverse, ← List.map_append, List.take_append_drop]
        · cases h0
        · cases h0
        · cases h0
      · cases h
    · cases h
  · -- special
    split at h
    · rename_i idx kd y0 n0 hcl
      split at h
      · rename_i o r0 hdr
        split at h
        · rename_i hc
          obtain ⟨hkd, rfl, hn, ho, h8, -⟩ := hc
          cases h
          obtain ⟨hM0, hpd, hk⟩ := xCl_ok hcl
          obtain ⟨k1, k2, k3, k4, k5, k6, k7⟩ := hM0
          have hstk : st.map (xTr (eT E)) = (((st.take n0).reverse.map (xTr (eT E))).reverse ++ .ref (eT E o) :: r.map (xTr (eT E))) := by
            rw [List.map_reverse, List.reverse_reverse]
            show _ = _ ++ (Value.ref o :: r).map (xTr (eT E))
            rw [← hdr, ← List.map_append, List.take_append_drop]
          rcases hk with ⟨h0, -⟩ | ⟨-, hlk, hin, hnmi, hret, h12⟩ | ⟨h0, -⟩ | ⟨-, hlk, hin, hnmi, hret, h12⟩
          · rcases hkd with h | h <;> (rw [h] at h0; cases h0)
          · obtain ⟨y1, y2, y3, y4, y5⟩ := y'
            dsimp only at hret
            subst hret
            refine fin (fun q h => h) (va_runI (Ts := xws) (own := xNm y.2.2.2.2) (As := (st.take n0).reverse.map (xTr (eT E))) (n := n0) ⟨hx, hb, hml, hown, hts⟩ hM ⟨callB_of n0 hts (xGI0 k1) rfl hrc hrs (hts _ k2) (hts _ hlk) ⟨k3.1, k3.2, hpd⟩ ⟨hfr, ?_⟩, hnmi, hts _ hin⟩ hPre rfl (by simp; omega) hsize hstk (lv_room (by rw [xcat]; exact h8)) hdg hf)
            dsimp only at k5 ⊢; omega
          · rcases hkd with h | h <;> (rw [h] at h0; cases h0)
          · obtain ⟨y1, y2, y3, y4, y5⟩ := y'
            dsimp only at hret
            subst hret
            refine fin (fun q h => h) (va_runIN (host := "HeavierRow") (Ts := xws) (own := xNm y.2.2.2.2) (As := (st.take n0).reverse.map (xTr (eT E))) (n := n0) ⟨hx, hb, hml, hown, hts⟩ hM ⟨va_cnB n0 hts (xGI0 k1) rfl hrc hrs (hT.2.2.1 _ (List.mem_filter.mpr ⟨hlk, rfl⟩)) (hts _ k2) ⟨k3.1, k3.2, hpd⟩ ⟨hfr, ?_⟩, hnmi, hts _ hin⟩ hPre rfl (by simp; omega) hsize hstk (lv_room (by rw [xcat]; exact h8)) hdg hf)
            dsimp only at k5 ⊢; omega
        · cases h
      · cases h
    · cases h
  · -- virtual
    split at h
    · rename_i idx y0 n0 hcl
      split at h
      · rename_i o r0 hdr
        split at h
        · rename_i hc
          obtain ⟨rfl, hn, ho, h8, -⟩ := hc
          cases h
          obtain ⟨hM0, hpd, hk⟩ := xCl_ok hcl
          obtain ⟨k1, k2, k3, k4, k5, k6, k7⟩ := hM0
          have hstk : st.map (xTr (eT E)) = (((st.take n0).reverse.map (xTr (eT E))).reverse ++ .ref (eT E o) :: r.map (xTr (eT E))) := by
            rw [List.map_reverse, List.reverse_reverse]
            show _ = _ ++ (Value.ref o :: r).map (xTr (eT E))
            rw [← hdr, ← List.map_append, List.take_append_drop]
          rcases hk with ⟨h0, -⟩ | ⟨h0, -⟩ | ⟨-, hlk, hin, hsel, h12⟩ | ⟨h0, -⟩
          · cases h0
          · cases h0
          · refine fin (fun q h => h) (va_runV (Ts := xws) (own := xNm y.2.2.2.2) (C := xNm y'.2.2.2.2) (b := eT E o) (As := (st.take n0).reverse.map (xTr (eT E))) (n := n0) ⟨hx, hb, hml, hown, hts⟩ hM ⟨callB_of n0 hts (xGI0 k1) rfl hrc hrs (hts _ k2) (hts _ hlk) ⟨k3.1, k3.2, hpd⟩ ⟨hfr, ?_⟩, hts _ hin, hts _ hsel⟩ ⟨hPre.1, rc h12 ho, hPre.2⟩ rfl (by simp; omega) hsize hstk (lv_room (by rw [xcat]; exact h8)) hdg hf)
            dsimp only at k5 ⊢; omega
          · cases h0
        · cases h
      · cases h
    · cases h
  · cases h
/-- whom a call may reach, and with how much -/
theorem xCall_ok {own : Nat} {y' : xMI} {as r : List Value} (h : xCall own i len st g = some (y', as, r)) : xMok y' ∧ (xEnt as).length ≤ y'.2.2.1 := by
  unfold xCall at h
  split at h
  · split at h
    · rename_i hcl
      split at h
      · rename_i hc; cases h; exact ⟨(xCl_ok hcl).1, hc.2.2.2⟩
      · cases h
    · cases h
  · split at h
    · rename_i hcl
      split at h
      · split at h
        · rename_i hc; cases h; exact ⟨(xCl_ok hcl).1, hc.2.2.2.2.2⟩
        · cases h
      · cases h
    · cases h
  · split at h
    · rename_i hcl
      split at h
      · split at h
        · rename_i hc; cases h; exact ⟨(xCl_ok hcl).1, hc.2.2.2.2⟩
        · cases h
      · cases h
    · cases h
  · cases h
end XU
theorem xEnt_len (ad : Nat → Nat) (vs : List Value) : (lg_sl (vs.map (xTr ad))).length = (xEnt vs).length := by
  induction vs with
  | nil => rfl
  | cons v vs ih => cases v <;> simp_all [lg_sl, xEnt, xTr, Value.category]
theorem xEnt_args (ad : Nat → Nat) (vs : List Value) : ∀ (k j : Nat) (v : Value), (xEnt vs)[j]? = some (some v) → (k + j, xTr ad v) ∈ lv_args k (vs.map (xTr ad)) := by
  induction vs with
  | nil => intro k j v h; simp [xEnt] at h
  | cons w vs ih =>
    intro k j v h
    have two : (xEnt (w :: vs) = some w :: none :: xEnt vs ∧ w.category = 2) ∨ (xEnt (w :: vs) = some w :: xEnt vs ∧ w.category ≠ 2) := by
      cases w <;> simp [xEnt, Value.category]
    show _ ∈ (k, xTr ad w) :: lv_args (if (xTr ad w).category = 2 then k + 2 else k + 1) (vs.map (xTr ad))
    rw [xTr_cat]
    rcases two with ⟨e, hc⟩ | ⟨e, hc⟩
    · rw [if_pos hc]
      rw [e] at h
      match j, h with
      | 0, h => simp at h; subst h; exact List.mem_cons_self
      | 1, h => simp at h
      | j + 2, h =>
        simp at h
        have := ih (k + 2) j v h
        rw [show k + (j + 2) = k + 2 + j by omega]
        exact List.mem_cons_of_mem _ this
    · rw [if_neg hc]
      rw [e] at h
      match j, h with
      | 0, h => simp at h; subst h; exact List.mem_cons_self
      | j + 1, h =>
        simp at h
        have := ih (k + 1) j v h
        rw [show k + (j + 1) = k + 1 + j by omega]
        exact List.mem_cons_of_mem _ this
theorem xLs_entry (ad : Nat → Nat) (as : List Value) {n : Nat} (h : (xEnt as).length ≤ n) : xLs ad (xEntry as n) ((lg_sl (as.map (xTr ad)) ++ List.replicate (n - (lg_sl (as.map (xTr ad))).length) Slot.unset).toArray) n := by
  have hl := lv_entry (as.map (xTr ad)) (n := n) (by rw [xEnt_len]; exact h)
  refine ⟨by simp [xEntry]; omega, hl.1, hl.2.1, fun i v hi => ?_⟩
  unfold xEntry at hi
  by_cases hlt : i < (xEnt as).length
  · rw [List.getElem?_append_left hlt] at hi
    have := hl.2.2 _ (xEnt_args ad as 0 i v hi)
    rwa [Nat.zero_add] at this
  · rw [List.getElem?_append_right (by omega), List.getElem?_replicate] at hi
    split at hi <;> simp at hi
theorem xRet_len {ret : Option FieldType} {i : Instr} {len : Nat} {st : List Value} {v : Option Value} (h : xRet ret i len st = some v) : len = 1 := by
  unfold xRet at h
  split at h
  · split at h
    · split at h
      · assumption
      · cases h
    · split at h
      · rename_i hc; exact hc.1
      · cases h
    · cases h
  · split at h
    · split at h
      · assumption
      · cases h
    · cases h
  · split at h
    · split at h
      · assumption
      · cases h
    · cases h
  · cases h
/-- a method's end -/
theorem x_ret {p : Program} {l : Launch} {e : Env} {R : Room} {s : State} {m : MethodId} {args : Array Value} {below : List Frame} {meth : Method} {c : Code} {H : Heap} {locs : List Loc} {cells slots : Nat} {cc : ByteArray} {ret : Option FieldType} {i : Instr} {pc : Nat} {ls : Array Slot} {st : List Value} {v : Option Value} {ad : Nat → Nat} {Qc : Array Value → State → Outcome → State → Prop} {free : Addr → Prop}
    (hx : p.tables.exec = Jvm.exec) (hb : c.code = cc) (hr : meth.sig.returnType = ret) (hlocks : meth.locks = false) (hdg : decode cc pc = .ok (i, 1)) (h : xRet ret i 1 st = some v) (hq : ∀ t : State, t.heap = H → s.WarmedH t.vm → Qc args s (.returned (v.map (xTr ad))) t) (hf : ∀ q ∈ locs, free q.base) :
    W p l e R s m args below meth c H locs cells slots (MQ below Qc args s cells slots free) (F0 m pc ls (st.map (xTr ad))) := by
  unfold xRet at h
  split at h
  · split at h
    · split at h
      · cases h; exact W.iret hx hb hr hq hf hdg hlocks
      · cases h
    · split at h
      · rename_i hc; cases h
        exact W.zret hx hb hr (by rcases hc.2 with rfl | rfl <;> decide) hq hf hdg hlocks
      · cases h
    · cases h
  · split at h
    · split at h
      · cases h; exact W.lret hx hb hr hq hf hdg hlocks
      · cases h
    · cases h
  · split at h
    · split at h
      · cases h; exact W.vret hx hb hr hq hf hdg hlocks
      · cases h
    · cases h
  · cases h
/-- what is claimed of runs of at most n steps -/
def xSnd (E : xEnv) (l : Launch) (n : Nat) : Prop := ∀ (d : Nat) (y : xMI) (pc : Nat) (al : xAL) (st : List Value) (g : xSt) (v : Option Value) (g' : xSt), xRun n d y pc al st g = some (v, g') →
  ∀ {p : Program} {e : Env} {R : Room} {s : State} {m : MethodId} {args : Array Value} {below : List Frame} {meth : Method} {c : Code} {H : Heap} {locs : List Loc} {cells slots : Nat} {Q : State → Prop} (ls : Array Slot) (c1 s1 : Nat),
  xCx E p s m args meth c y → xHs E s g H locs → xLs (eT E) al ls y.2.2.1 → d + 12 ≤ R.frames → 100 * d + 1000 ≤ R.locals → c1 = cells + (xN g' - xN g) → s1 = slots + (xU g' - xU g) → c1 ≤ R.cells → s1 ≤ R.slots →
  (∀ (H' : Heap) (locs' : List Loc) (pc' : Nat) (ls' : Array Slot) (i' : Instr) (st' : List Value), xHs E s g' H' locs' → decode y.2.1 pc' = .ok (i', 1) → xRet y.2.2.2.1 i' 1 st' = some v → W p l e R s m args below meth c H' locs' c1 s1 Q (F0 m pc' ls' (st'.map (xTr (eT E))))) →
  W p l e R s m args below meth c H locs cells slots Q (F0 m pc ls (st.map (xTr (eT E))))
/-- a method's contract out of its run -/
theorem xMet {E : xEnv} {l : Launch} {n : Nat} (ih : xSnd E l n) {d : Nat} {y : xMI} {as : List Value} {g : xSt} {v : Option Value} {g' : xSt} (hrun : xRun n d y 0 (xEntry as y.2.2.1) [] g = some (v, g')) (hy : xMok y) (hlen : (xEnt as).length ≤ y.2.2.1) (hS : xSc E g) :
    Met l y.1 (Cond.code y.1 y.2.1 y.2.2.1 y.2.2.2.1 :: xws) { frames := d + 12, cells := xN g' - xN g, slots := xU g' - xU g, locals := 100 * d + 1000 } (xPc E as g) (xQc E v g') (xN g' - xN g) (xU g' - xU g) (fun q => eB E ≤ q) := by
  obtain ⟨k1, k2, k3, k4, k5, k6, k7⟩ := hy
  refine Met.ofW (cc := y.2.1) (maxL := y.2.2.1) (ret := y.2.2.2.1) k4 rfl ?_
  intro p e s m args below meth c s₁ B hml hv
  obtain ⟨rfl, hTb, hLow, hRep⟩ := hv
  have hts := atoms_spec (ws := Cond.code y.1 y.2.1 y.2.2.1 y.2.2.2.1 :: xws) B.pre
  have hown : s.vm.findClass y.1.cls = some m.cls := findClass_of_methodNamed B.named
  rw [k6] at hown
  have hin : meth.name = y.1.name := (name_of_methodNamed B.named B.method).1
  rw [lg_entry_eq]
  refine ih d y 0 (xEntry as y.2.2.1) [] g v g' hrun (R := { frames := d + 12, cells := xN g' - xN g, slots := xU g' - xU g, locals := 100 * d + 1000 }) _ (xN g' - xN g) (xU g' - xU g) ⟨B.exec, B.bytes, hml, hown, fun w hw => hts w (List.mem_cons_of_mem _ hw), hTb, fun h => hin.trans h⟩ ⟨hRep, hS, hLow, fun x hx => (by cases hx), fun q _ => rfl⟩ (xLs_entry (eT E) as hlen) (Nat.le_refl _) (Nat.le_refl _) (Nat.zero_add _).symm (Nat.zero_add _).symm (Nat.le_refl _) (Nat.le_refl _) ?_
  intro H' locs' pc' ls' i' st' hh hd hret
  exact x_ret B.exec B.bytes B.returns B.notSynchronized hd hret (fun t ht _ => ⟨rfl, by rw [ht]; exact hh.1, fun q hq => by rw [ht]; exact hh.2.2.2.2 q hq⟩) (fun q hq => hh.2.2.2.1 q hq)
theorem xSound {E : xEnv} {l : Launch} (hPk : xPkOK E l) (n : Nat) : xSnd E l n := by
  induction n with
  | zero => intro d y pc al st g v g' h; cases h
  | succ n ih =>
    intro d y pc al st g v g' h p e R s m args below meth c H locs cells slots Q ls c1 s1 hC hH hL hfr hlo hc1 hs1 hcR hsR kret
    rw [xRun] at h
    split at h
    · cases h
    · rename_i i len hdg
      split at h
      · rename_i v' hv
        cases h
        have hl1 := xRet_len hv
        subst hl1
        rw [Nat.sub_self, Nat.add_zero] at hc1 hs1
        subst hc1; subst hs1
        exact kret H locs pc ls i st hH hdg hv
      · split at h
        · rename_i y' as r hcl
          cases d with
          | zero => cases h
          | succ d =>
            dsimp only at h
            split at h
            · rename_i v1 g1 h1
              obtain ⟨hy', hlen'⟩ := xCall_ok hcl
              obtain ⟨a1, a2, a3⟩ := xRun_grow _ _ _ _ _ _ _ _ _ h1
              obtain ⟨b1, b2, b3⟩ := xRun_grow _ _ _ _ _ _ _ _ _ h
              refine xs_call hC hH hcl hdg hL.2.1 (xMet ih h1 hy' hlen' hH.2.1) rfl rfl (by show d + 12 + 1 ≤ _; omega) (by show 100 * d + 1000 + 100 ≤ _; omega) (a3 E hH.2.1) ⟨by omega, by omega⟩ fun H' locs' hh => ?_
              exact ih _ _ _ _ _ _ _ _ h ls c1 s1 hC hh hL hfr hlo (by omega) (by omega) hcR hsR kret
            · cases h
        · split at h
          · rename_i pc' al' st' g1 hst
            obtain ⟨a1, a2, a3⟩ := xStep_grow hst
            obtain ⟨b1, b2, b3⟩ := xRun_grow _ _ _ _ _ _ _ _ _ h
            unfold xStep at hst
            split at hst
            · rename_i hj
              cases hst
              exact xs_jp hC.1 hC.2.1 hj hdg (ih _ _ _ _ _ _ _ _ h ls c1 s1 hC hH hL hfr hlo hc1 hs1 hcR hsR kret)
            · split at hst
              · rename_i hlen
                split at hst
                · rename_i ho
                  cases hst
                  exact xs_op1 hC.1 hC.2.1 ho hlen hdg hL fun ls' hL' => ih _ _ _ _ _ _ _ _ h ls' c1 s1 hC hH hL' hfr hlo hc1 hs1 hcR hsR kret
                · split at hst
                  · rename_i ho
                    cases hst
                    exact xs_op2 hC.1 hC.2.1 ho hlen hdg (ih _ _ _ _ _ _ _ _ h ls c1 s1 hC hH hL hfr hlo hc1 hs1 hcR hsR kret)
                  · split at hst
                    · rename_i ho
                      cases hst
                      exact xs_hp hC hH hPk ho hlen hdg hL.2.1 (by omega) (by omega) (by omega) (by omega) fun H' locs' hh => ih _ _ _ _ _ _ _ _ h ls c1 s1 hC hh hL hfr hlo (by omega) (by omega) hcR hsR kret
                    · cases hst
              · cases hst
          · cases h
