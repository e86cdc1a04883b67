/-! WHAT THE ABSTRACT MACHINE ANSWERS HOLDS OF THE REAL ONE. -/
/-- the locals -/
def xLs (ad : Nat → Nat) (al : xAL) (ls : Array Slot) (n : Nat) : Prop := al.length = n ∧ ls.size = n ∧ lv_wf ls ∧ ∀ (i : Nat) (v : Value), al[i]? = some (some v) → ls[i]? = some (.val (xTr ad v))
def xAs (ad : Nat → Nat) (al : xAL) : List (Nat × Value) := (List.range al.length).filterMap fun i => (xLd al i).map fun v => (i, xTr ad v)
theorem xLd_some {al : xAL} {i : Nat} {v : Value} (h : xLd al i = some v) : al[i]? = some (some v) := by
  unfold xLd at h
  split at h
  · rename_i w hw; rw [hw, h]
  · cases h
theorem xLd_of {al : xAL} {i : Nat} {v : Value} (h : al[i]? = some (some v)) : xLd al i = some v := by unfold xLd; rw [h]
theorem xTr_cat (ad : Nat → Nat) (v : Value) : (xTr ad v).category = v.category := by cases v <;> rfl
theorem xAs_mem {ad : Nat → Nat} {al : xAL} {i : Nat} {v : Value} (h : al[i]? = some (some v)) : (i, xTr ad v) ∈ xAs ad al :=
  List.mem_filterMap.mpr ⟨i, List.mem_range.mpr (List.getElem?_eq_some_iff.mp h).1, by rw [xLd_of h]; rfl⟩
theorem xLs.has {ad : Nat → Nat} {al : xAL} {ls : Array Slot} {n : Nat} (h : xLs ad al ls n) : lv_has ls n (xAs ad al) := by
  refine ⟨h.2.1, h.2.2.1, fun q hq => ?_⟩
  obtain ⟨i, -, h2⟩ := List.mem_filterMap.mp hq
  cases hv : xLd al i with
  | none => rw [hv] at h2; cases h2
  | some v =>
    rw [hv] at h2
    cases h2
    exact h.2.2.2 i v (xLd_some hv)
theorem xKill_len (al : xAL) (i : Nat) : (xKill al i).length = al.length := by
  unfold xKill
  split
  · rfl
  · split <;> simp
theorem xKill_get {al : xAL} {i j : Nat} {w : Value} (h : (xKill al i)[j]? = some (some w)) : al[j]? = some (some w) ∧ (j + 1 = i → w.category ≠ 2) := by
  unfold xKill at h
  split at h
  · exact ⟨h, fun e => by omega⟩
  · rename_i k
    split at h
    · rw [List.getElem?_set] at h
      split at h
      · split at h <;> simp at h
      · exact ⟨h, fun e => by omega⟩
    · rw [List.getElem?_set] at h
      split at h
      · split at h <;> simp at h
      · exact ⟨h, fun e => by omega⟩
    · rename_i h1 h2
      refine ⟨h, fun e => ?_⟩
      have e : j = k := by omega
      subst e
      intro hc
      cases w <;> simp [Value.category] at hc
      · exact h1 _ h
      · exact h2 _ h
theorem xLs.set1 {ad : Nat → Nat} {al : xAL} {ls ls' : Array Slot} {n i : Nat} {v : Value} (h : xLs ad al ls n) (h' : lv_has ls' n ((i, xTr ad v) :: (xAs ad al).filter (fun q => !(q.1 == i) && !(q.1 + 1 == i && q.2.category == 2)))) : xLs ad (xSet1 al i v) ls' n := by
  refine ⟨by rw [xSet1, List.length_set, xKill_len]; exact h.1, h'.1, h'.2.1, fun j w hj => ?_⟩
  rw [xSet1, List.getElem?_set] at hj
  split at hj
  · rename_i e
    split at hj
    · cases hj
      rw [← e]
      exact h'.2.2 _ List.mem_cons_self
    · cases hj
  · rename_i e
    obtain ⟨h1, h2⟩ := xKill_get hj
    refine h'.2.2 (j, xTr ad w) (List.mem_cons_of_mem _ (List.mem_filter.mpr ⟨xAs_mem h1, ?_⟩))
    simp only [Bool.and_eq_true, Bool.not_eq_true', beq_eq_false_iff_ne, xTr_cat, Bool.and_eq_false_iff]
    refine ⟨fun q => e q.symm, ?_⟩
    by_cases q : j + 1 = i
    · exact Or.inr (h2 q)
    · exact Or.inl q
theorem xLs.set2 {ad : Nat → Nat} {al : xAL} {ls ls' : Array Slot} {n i : Nat} {v : Value} (h : xLs ad al ls n) (h' : lv_has ls' n ((i, xTr ad v) :: (xAs ad al).filter (fun q => !(q.1 == i) && (!(q.1 == i + 1) && !(q.1 + 1 == i && q.2.category == 2))))) : xLs ad (xSet2 al i v) ls' n := by
  refine ⟨by rw [xSet2, List.length_set, List.length_set, xKill_len]; exact h.1, h'.1, h'.2.1, fun j w hj => ?_⟩
  rw [xSet2, List.getElem?_set] at hj
  split at hj
  · split at hj <;> simp at hj
  · rename_i e2
    rw [List.getElem?_set] at hj
    split at hj
    · rename_i e
      split at hj
      · cases hj
        rw [← e]
        exact h'.2.2 _ List.mem_cons_self
      · cases hj
    · rename_i e
      obtain ⟨h1, h2⟩ := xKill_get hj
      refine h'.2.2 (j, xTr ad w) (List.mem_cons_of_mem _ (List.mem_filter.mpr ⟨xAs_mem h1, ?_⟩))
      simp only [Bool.and_eq_true, Bool.not_eq_true', beq_eq_false_iff_ne, xTr_cat, Bool.and_eq_false_iff]
      refine ⟨fun q => e q.symm, fun q => e2 q.symm, ?_⟩
      by_cases q : j + 1 = i
      · exact Or.inr (h2 q)
      · exact Or.inl q
section XS
variable {p : Program} {l : Launch} {e : Env} {R : Room} {s : State} {m : MethodId} {args : Array Value} {below : List Frame} {meth : Method} {c : Code} {H : Heap} {locs : List Loc} {cells slots : Nat} {Q : State → Prop}
variable {cc : ByteArray} {pc : Nat} {ls : Array Slot} {E : xEnv} {g : xSt} {ad : Nat → Nat} {al al' : xAL} {st st' : List Value} {n len : Nat} {i : Instr}
theorem xs_op1 (hx : p.tables.exec = Jvm.exec) (hb : c.code = cc) (h : xOp1 i al st = some (al', st')) (hlen : len = xLen i) (hdg : decode cc pc = .ok (i, len)) (hL : xLs ad al ls n)
    (kk : ∀ ls' : Array Slot, xLs ad al' ls' n → W p l e R s m args below meth c H locs cells slots Q (F0 m (pc + xLen i) ls' (st'.map (xTr ad)))) : W p l e R s m args below meth c H locs cells slots Q (F0 m pc ls (st.map (xTr ad))) := by
  have hLd : ∀ {k : Nat} {v : Value}, xLd al k = some v → ls[k]? = some (.val (xTr ad v)) := fun h => hL.2.2.2 _ _ (xLd_some h)
  unfold xOp1 at h
  split at h
  · subst hlen; cases h; exact lv_iconst hx hb hdg rfl (kk _ hL)
  · subst hlen; cases h; exact lv_bipush hx hb hdg rfl (kk _ hL)
  · subst hlen; cases h; exact lv_sipush hx hb hdg rfl (kk _ hL)
  · subst hlen; cases h; exact lv_lconst hx hb hdg rfl (kk _ hL)
  · subst hlen; unfold xLdI at h; split at h
    · rename_i hv; cases h; exact lv_iload hx hb hdg (hLd hv) (kk _ hL)
    · cases h
  · subst hlen; unfold xLdI at h; split at h
    · rename_i hv; cases h; exact lv_iload_n hx hb hdg rfl (hLd hv) (kk _ hL)
    · cases h
  · subst hlen; unfold xLdL at h; split at h
    · rename_i hv; cases h; exact lv_lload hx hb hdg (hLd hv) (kk _ hL)
    · cases h
  · subst hlen; unfold xLdL at h; split at h
    · rename_i hv; cases h; exact lv_lload_n hx hb hdg rfl (hLd hv) (kk _ hL)
    · cases h
  · subst hlen; unfold xLdA at h; split at h
    · rename_i hv; cases h; exact lv_aload hx hb hdg (hLd hv) (kk _ hL)
    · cases h
  · subst hlen; unfold xLdA at h; split at h
    · rename_i hv; cases h; exact lv_aload_n hx hb hdg rfl (hLd hv) (kk _ hL)
    · cases h
  · subst hlen; unfold xStI at h; split at h
    · split at h
      · rename_i hi; cases h
        exact lv_istore hx hb hdg hL.has (by rw [← hL.1]; exact hi) rfl fun ls' h' => kk ls' (hL.set1 (v := .int _) h')
      · cases h
    · cases h
  · subst hlen; unfold xStI at h; split at h
    · split at h
      · rename_i hi; cases h
        exact lv_istore_n hx hb hdg rfl hL.has (by rw [← hL.1]; exact hi) rfl fun ls' h' => kk ls' (hL.set1 (v := .int _) h')
      · cases h
    · cases h
  · subst hlen; unfold xStL at h; split at h
    · split at h
      · rename_i hi; cases h
        exact lv_lstore hx hb hdg hL.has (by rw [← hL.1]; exact hi) rfl fun ls' h' => kk ls' (hL.set2 (v := .long _) h')
      · cases h
    · cases h
  · subst hlen; unfold xStL at h; split at h
    · split at h
      · rename_i hi; cases h
        exact lv_lstore_n hx hb hdg rfl hL.has (by rw [← hL.1]; exact hi) rfl fun ls' h' => kk ls' (hL.set2 (v := .long _) h')
      · cases h
    · cases h
  · subst hlen; unfold xStA at h; split at h
    · split at h
      · rename_i hi; cases h
        exact lv_astore hx hb hdg hL.has (by rw [← hL.1]; exact hi) rfl fun ls' h' => kk ls' (hL.set1 (v := .ref _) h')
      · cases h
    · cases h
  · subst hlen; unfold xStA at h; split at h
    · split at h
      · rename_i hi; cases h
        exact lv_astore_n hx hb hdg rfl hL.has (by rw [← hL.1]; exact hi) rfl fun ls' h' => kk ls' (hL.set1 (v := .ref _) h')
      · cases h
    · cases h
  · rename_i k q
    subst hlen; split at h
    · rename_i x hv
      split at h
      · rename_i hi; cases h
        obtain ⟨y, hy, hy2⟩ := List.getElem_of_mem (xAs_mem (ad := ad) (xLd_some hv))
        exact lv_iinc hx hb hdg hL.has (k := y) (by rw [List.getElem?_eq_getElem hy, hy2]; rfl) rfl (by rw [← hL.1]; exact hi) rfl fun ls' h' => kk ls' (hL.set1 (v := .int _) h')
      · cases h
    · cases h
  · subst hlen; split at h
    · split at h
      · rename_i hc; cases h
        exact lv_dup hx hb hdg (by rw [xTr_cat]; exact hc) (kk _ hL)
      · cases h
    · cases h
  · subst hlen; split at h
    · split at h
      · rename_i hc; cases h
        exact lv_dup2_2 hx hb hdg (by rw [xTr_cat]; exact hc) (kk _ hL)
      · split at h
        · split at h
          · rename_i hc; cases h
            exact lv_dup2_11 hx hb hdg (by rw [xTr_cat]; exact hc.1) (by rw [xTr_cat]; exact hc.2) (kk _ hL)
          · cases h
        · cases h
    · cases h
  · subst hlen; split at h
    · split at h
      · rename_i hc; cases h
        exact lv_pop hx hb hdg (by rw [xTr_cat]; exact hc) (kk _ hL)
      · cases h
    · cases h
  · cases h
theorem xs_bi {z x y : Int32} {rest : List Value} (hx : p.tables.exec = Jvm.exec) (hb : c.code = cc) (h : xBI i x y = some z) (hlen : len = xLen i) (hdg : decode cc pc = .ok (i, len))
    (kk : W p l e R s m args below meth c H locs cells slots Q (F0 m (pc + xLen i) ls (.int z :: rest))) : W p l e R s m args below meth c H locs cells slots Q (F0 m pc ls (.int y :: .int x :: rest)) := by
  unfold xBI at h
  split at h
  · subst hlen; cases h; exact lv_iadd hx hb hdg kk
  · subst hlen; cases h; exact lv_isub hx hb hdg kk
  · subst hlen; cases h; exact lv_imul hx hb hdg kk
  · subst hlen; cases h; exact lv_iand hx hb hdg kk
  · subst hlen; cases h; exact lv_ior hx hb hdg kk
  · subst hlen; cases h; exact lv_ixor hx hb hdg kk
  · subst hlen; cases h; exact lv_ishl hx hb hdg kk
  · subst hlen; cases h; exact lv_ishr hx hb hdg kk
  · subst hlen; cases h; exact lv_iushr hx hb hdg rfl kk
  · subst hlen; split at h
    · cases h
    · rename_i hy; cases h; exact lv_idiv hx hb hdg hy kk
  · subst hlen; split at h
    · cases h
    · rename_i hy; cases h; exact lv_irem hx hb hdg hy kk
  · cases h
theorem xs_bl {z x y : Int64} {rest : List Value} (hx : p.tables.exec = Jvm.exec) (hb : c.code = cc) (h : xBL i x y = some z) (hlen : len = xLen i) (hdg : decode cc pc = .ok (i, len))
    (kk : W p l e R s m args below meth c H locs cells slots Q (F0 m (pc + xLen i) ls (.long z :: rest))) : W p l e R s m args below meth c H locs cells slots Q (F0 m pc ls (.long y :: .long x :: rest)) := by
  unfold xBL at h
  split at h
  · subst hlen; cases h; exact lv_ladd hx hb hdg kk
  · subst hlen; cases h; exact lv_lsub hx hb hdg kk
  · subst hlen; cases h; exact lv_lmul hx hb hdg kk
  · subst hlen; cases h; exact lv_land hx hb hdg kk
  · subst hlen; cases h; exact lv_lor hx hb hdg kk
  · subst hlen; cases h; exact lv_lxor hx hb hdg kk
  · cases h
theorem xs_bs {z x : Int64} {y : Int32} {rest : List Value} (hx : p.tables.exec = Jvm.exec) (hb : c.code = cc) (h : xBS i x y = some z) (hlen : len = xLen i) (hdg : decode cc pc = .ok (i, len))
    (kk : W p l e R s m args below meth c H locs cells slots Q (F0 m (pc + xLen i) ls (.long z :: rest))) : W p l e R s m args below meth c H locs cells slots Q (F0 m pc ls (.int y :: .long x :: rest)) := by
  unfold xBS at h
  split at h
  · subst hlen; cases h; exact lv_lshl hx hb hdg rfl kk
  · subst hlen; cases h; exact lv_lshr hx hb hdg rfl kk
  · subst hlen; cases h; exact lv_lushr hx hb hdg rfl kk
  · cases h
theorem xs_op2 (hx : p.tables.exec = Jvm.exec) (hb : c.code = cc) (h : xOp2 i st = some st') (hlen : len = xLen i) (hdg : decode cc pc = .ok (i, len))
    (kk : W p l e R s m args below meth c H locs cells slots Q (F0 m (pc + xLen i) ls (st'.map (xTr ad)))) : W p l e R s m args below meth c H locs cells slots Q (F0 m pc ls (st.map (xTr ad))) := by
  unfold xOp2 at h
  split at h
  · subst hlen; split at h
    · cases h; exact lv_ineg hx hb hdg kk
    · cases h
  · subst hlen; split at h
    · cases h; exact lv_i2l hx hb hdg rfl kk
    · cases h
  · subst hlen; split at h
    · cases h; exact lv_i2b hx hb hdg rfl kk
    · cases h
  · subst hlen; split at h
    · cases h; exact lv_l2i hx hb hdg rfl kk
    · cases h
  · subst hlen; split at h
    · cases h; exact lv_lneg hx hb hdg kk
    · cases h
  · subst hlen; split at h
    · cases h; exact W.lcmp hx hb hdg kk
    · cases h
  · split at h
    · split at h
      · rename_i hz; cases h; exact xs_bi hx hb hz hlen hdg kk
      · cases h
    · split at h
      · rename_i hz; cases h; exact xs_bl hx hb hz hlen hdg kk
      · cases h
    · split at h
      · rename_i hz; cases h; exact xs_bs hx hb hz hlen hdg kk
      · cases h
    · cases h
theorem xs_jp {pc' : Nat} (hx : p.tables.exec = Jvm.exec) (hb : c.code = cc) (h : xJp i len pc st = some (pc', st')) (hdg : decode cc pc = .ok (i, len))
    (kk : W p l e R s m args below meth c H locs cells slots Q (F0 m pc' ls (st'.map (xTr ad)))) : W p l e R s m args below meth c H locs cells slots Q (F0 m pc ls (st.map (xTr ad))) := by
  have hto : ∀ {off : Int}, 0 ≤ (pc : Int) + off → (pc : Int) + off = ((((pc : Int) + off).toNat : Nat) : Int) := fun h => (Int.toNat_of_nonneg h).symm
  unfold xJp at h
  split at h
  · split at h
    · rename_i hc; obtain ⟨rfl, h0⟩ := hc; cases h; exact lv_goto hx hb hdg (hto h0) kk
    · cases h
  · split at h
    · split at h
      · rename_i hc; obtain ⟨rfl, h0⟩ := hc
        split at h
        · exact lv_if_eq hx hb hdg (hto h0) (fun q => by rw [if_pos q] at h; cases h; exact kk) (fun q => by rw [if_neg q] at h; cases h; exact kk)
        · exact lv_if_ne hx hb hdg (hto h0) (fun q => by rw [if_neg q] at h; cases h; exact kk) (fun q => by rw [if_pos q] at h; cases h; exact kk)
        · exact lv_if_lt hx hb hdg (hto h0) (fun q => by rw [if_pos q] at h; cases h; exact kk) (fun q => by rw [if_neg q] at h; cases h; exact kk)
        · exact lv_if_ge hx hb hdg (hto h0) (fun q => by rw [if_pos q] at h; cases h; exact kk) (fun q => by rw [if_neg q] at h; cases h; exact kk)
        · exact lv_if_gt hx hb hdg (hto h0) (fun q => by rw [if_pos q] at h; cases h; exact kk) (fun q => by rw [if_neg q] at h; cases h; exact kk)
        · exact lv_if_le hx hb hdg (hto h0) (fun q => by rw [if_pos q] at h; cases h; exact kk) (fun q => by rw [if_neg q] at h; cases h; exact kk)
      · cases h
    · cases h
  · split at h
    · split at h
      · rename_i hc; obtain ⟨rfl, h0⟩ := hc
        split at h
        · exact lv_icmp_eq hx hb hdg (hto h0) (fun q => by rw [if_pos q] at h; cases h; exact kk) (fun q => by rw [if_neg q] at h; cases h; exact kk)
        · exact lv_icmp_ne hx hb hdg (hto h0) (fun q => by rw [if_neg q] at h; cases h; exact kk) (fun q => by rw [if_pos q] at h; cases h; exact kk)
        · exact lv_icmp_lt hx hb hdg (hto h0) (fun q => by rw [if_pos q] at h; cases h; exact kk) (fun q => by rw [if_neg q] at h; cases h; exact kk)
        · exact lv_icmp_ge hx hb hdg (hto h0) (fun q => by rw [if_pos q] at h; cases h; exact kk) (fun q => by rw [if_neg q] at h; cases h; exact kk)
        · exact lv_icmp_gt hx hb hdg (hto h0) (fun q => by rw [if_pos q] at h; cases h; exact kk) (fun q => by rw [if_neg q] at h; cases h; exact kk)
        · exact lv_icmp_le hx hb hdg (hto h0) (fun q => by rw [if_pos q] at h; cases h; exact kk) (fun q => by rw [if_neg q] at h; cases h; exact kk)
      · cases h
    · cases h
  · split at h
    · split at h
      · rename_i hr
        split at h
        · rename_i h0; cases h; exact lv_tableOut hx hb hdg hr (hto h0) kk
        · cases h
      · rename_i hr
        split at h
        · rename_i off ho
          split at h
          · rename_i h0; cases h
            exact lv_tableIn hx hb hdg (fun q => hr (Or.inl q)) (fun q => hr (Or.inr q)) ho (hto h0) kk
          · cases h
        · cases h
    · cases h
  · cases h
end XS
