/-! CONTRACTS of HeavierRow$Rows -/
theorem x_oor {n : Nat} {i : Int32} (hn : n < 2 ^ 31) (h0 : ¬ i < 0) : (Int32.ofNat n ≤ i) ↔ n ≤ i.toNatClampNeg := by
  obtain ⟨j, hj, rfl⟩ := nI_of h0
  rw [show Int32.ofNat n = nI n from rfl, nI_leI hn hj, nI_clamp hj]
theorem c_at {d : Nat} {g : xSt} {o n : Nat} {i : Int32} (ho : xArr g o .int n) (hn : n < 2 ^ 31 := by decide) : xCallM d mX7_at [.ref o, .int i] g = some (some (.int (xat (xI g o) n i)), g) := by
  have z : ∀ q : i < 0 ∨ n ≤ i.toNatClampNeg, xat (xI g o) n i = 0 := fun q => if_pos q
  refine bX7_at_0 ho (fun q => ?_) (fun q => bX7_at_4 ho (fun w => ?_) (fun w => ?_))
  · exact bX7_at_16 (bX7_at_17 (by rw [z (Or.inl q)]))
  · exact bX7_at_16 (bX7_at_17 (by rw [z (Or.inr ((x_oor hn q).mp w))]))
  · have hin : vp_in i n := fun e => e.elim q (fun e => w ((x_oor hn q).mpr e))
    exact bX7_at_10 ho hin (bX7_at_17 (by rw [show xat (xI g o) n i = xI g o i.toNatClampNeg from if_neg hin]))
theorem c_atL {d : Nat} {g : xSt} {o n : Nat} {i : Int32} (ho : xArr g o .long n) (hn : n < 2 ^ 31 := by decide) : xCallM d mX7_at_ [.ref o, .int i] g = some (some (.long (xatL (xL g o) n i)), g) := by
  have z : ∀ q : i < 0 ∨ n ≤ i.toNatClampNeg, xatL (xL g o) n i = 0 := fun q => if_pos q
  refine bX7_at__0 ho (fun q => ?_) (fun q => bX7_at__4 ho (fun w => ?_) (fun w => ?_))
  · exact bX7_at__16 (bX7_at__17 (by rw [z (Or.inl q)]))
  · exact bX7_at__16 (bX7_at__17 (by rw [z (Or.inr ((x_oor hn q).mp w))]))
  · have hin : vp_in i n := fun e => e.elim q (fun e => w ((x_oor hn q).mpr e))
    exact bX7_at__10 ho hin (bX7_at__17 (by rw [show xatL (xL g o) n i = xL g o i.toNatClampNeg from if_neg hin]))
theorem c_put {d : Nat} {g : xSt} {o n : Nat} {i v : Int32} (ho : xArr g o .int n) (hn : n < 2 ^ 31 := by decide) : xCallM d mX7_put [.ref o, .int i, .int v] g = some (none, xput g o n i v) := by
  have z : ∀ q : i < 0 ∨ n ≤ i.toNatClampNeg, xput g o n i v = g := fun q => if_pos q
  refine bX7_put_0 ho (fun q => ?_) (fun q => bX7_put_4 ho (fun w => ?_) (fun w => ?_))
  · exact bX7_put_14 (by rw [z (Or.inl q)])
  · exact bX7_put_14 (by rw [z (Or.inr ((x_oor hn q).mp w))])
  · have hin : vp_in i n := fun e => e.elim q (fun e => w ((x_oor hn q).mpr e))
    exact bX7_put_10 ho hin (bX7_put_14 (by rw [show xput g o n i v = xWI g o i.toNatClampNeg v from if_neg hin]))
theorem c_putL {d : Nat} {g : xSt} {o n : Nat} {i : Int32} {v : Int64} (ho : xArr g o .long n) (hn : n < 2 ^ 31 := by decide) : xCallM d mX7_put_ [.ref o, .int i, .long v] g = some (none, xputL g o n i v) := by
  have z : ∀ q : i < 0 ∨ n ≤ i.toNatClampNeg, xputL g o n i v = g := fun q => if_pos q
  refine bX7_put__0 ho (fun q => ?_) (fun q => bX7_put__4 ho (fun w => ?_) (fun w => ?_))
  · exact bX7_put__14 (by rw [z (Or.inl q)])
  · exact bX7_put__14 (by rw [z (Or.inr ((x_oor hn q).mp w))])
  · have hin : vp_in i n := fun e => e.elim q (fun e => w ((x_oor hn q).mpr e))
    exact bX7_put__10 ho hin (bX7_put__14 (by rw [show xputL g o n i v = xWL g o i.toNatClampNeg v from if_neg hin]))
theorem c_add {d : Nat} {g : xSt} {o n : Nat} {i v : Int32} (ho : xArr g o .int n) (hn : n < 2 ^ 31 := by decide) : xCallM d mX7_add [.ref o, .int i, .int v] g = some (none, xadd g o n i v) := by
  have z : ∀ q : i < 0 ∨ n ≤ i.toNatClampNeg, xadd g o n i v = g := fun q => if_pos q
  refine bX7_add_0 ho (fun q => ?_) (fun q => bX7_add_4 ho (fun w => ?_) (fun w => ?_))
  · exact bX7_add_17 (by rw [z (Or.inl q)])
  · exact bX7_add_17 (by rw [z (Or.inr ((x_oor hn q).mp w))])
  · have hin : vp_in i n := fun e => e.elim q (fun e => w ((x_oor hn q).mpr e))
    exact bX7_add_10 ho hin hin (bX7_add_17 (by rw [show xadd g o n i v = xWI g o i.toNatClampNeg (xI g o i.toNatClampNeg + v) from if_neg hin]))
theorem c_xbit {d : Nat} {g : xSt} {a i : Int32} : xCallM d mX7_hasBit [.int a, .int i] g = some (some (.int (xbit a i)), g) := by
  refine bX7_hasBit_0 (fun q => ?_) (fun q => bX7_hasBit_4 (fun w => ?_) (fun w => bX7_hasBit_10 (fun e => ?_) (fun e => ?_)))
  · exact bX7_hasBit_22 (bX7_hasBit_23 (Or.inl rfl) (by rw [xbit, if_pos q]))
  · exact bX7_hasBit_22 (bX7_hasBit_23 (Or.inl rfl) (by rw [xbit, if_neg q, if_pos w]))
  · exact bX7_hasBit_22 (bX7_hasBit_23 (Or.inl rfl) (by rw [xbit, if_neg q, if_neg w, if_pos e]))
  · exact bX7_hasBit_18 (bX7_hasBit_23 (Or.inr rfl) (by rw [xbit, if_neg q, if_neg w, if_neg e]))
