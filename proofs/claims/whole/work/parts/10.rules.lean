/-! RULES for runs without number (xX): an instruction a row -/
section RULES
variable {d : Nat} {y : xMI} {pc : Nat} {al al' : xAL} {st st' : List Value} {g g' : xSt} {i : Instr} {len : Nat}
theorem X_ret {v : Option Value} (hd : decode y.2.1 pc = .ok (i, len)) (h : xRet y.2.2.2.1 i len st = some v) : xX d y pc al st g = some (v, g) := by
  rw [xX_next]; unfold xNext; simp only [hd, h]
theorem X_op1 (hd : decode y.2.1 pc = .ok (i, len)) (h0 : xRet y.2.2.2.1 i len st = none) (h1 : xCall y.2.2.2.2 i len st g = none) (h2 : xJp i len pc st = none) (h3 : len = xLen i) (h : xOp1 i al st = some (al', st')) : xX d y pc al st g = xX d y (pc + len) al' st' g := by
  rw [xX_next]; unfold xNext; simp only [hd, h0, h1, xStep, h2, ← h3, if_true, h]
theorem X_op2 (hd : decode y.2.1 pc = .ok (i, len)) (h0 : xRet y.2.2.2.1 i len st = none) (h1 : xCall y.2.2.2.2 i len st g = none) (h2 : xJp i len pc st = none) (h3 : len = xLen i) (h4 : xOp1 i al st = none) (h : xOp2 i st = some st') : xX d y pc al st g = xX d y (pc + len) al st' g := by
  rw [xX_next]; unfold xNext; simp only [hd, h0, h1, xStep, h2, ← h3, if_true, h4, h]
theorem X_hp (hd : decode y.2.1 pc = .ok (i, len)) (h0 : xRet y.2.2.2.1 i len st = none) (h1 : xCall y.2.2.2.2 i len st g = none) (h2 : xJp i len pc st = none) (h3 : len = xLen i) (h4 : xOp1 i al st = none) (h5 : xOp2 i st = none) (h : xHp y.2.2.2.2 (y.1.name == "<init>") i st g = some (st', g')) : xX d y pc al st g = xX d y (pc + len) al st' g' := by
  rw [xX_next]; unfold xNext; simp only [hd, h0, h1, xStep, h2, ← h3, if_true, h4, h5, h]
theorem X_jp {pc' : Nat} (hd : decode y.2.1 pc = .ok (i, len)) (h0 : xRet y.2.2.2.1 i len st = none) (h1 : xCall y.2.2.2.2 i len st g = none) (h : xJp i len pc st = some (pc', st')) : xX d y pc al st g = xX d y pc' al st' g := by
  rw [xX_next]; unfold xNext; simp only [hd, h0, h1, xStep, h]
theorem X_goto {off : Int} (pc' : Nat) (hd : decode y.2.1 pc = .ok (.goto off, 3)) (h : (pc : Int) + off = (pc' : Int)) : xX d y pc al st g = xX d y pc' al st g := by
  refine X_jp hd rfl rfl ?_
  simp only [xJp, h, Int.toNat_natCast]
  simp
theorem X_if {c : Prop} [hc : Decidable c] {a b : Nat} {r : List Value} (hd : decode y.2.1 pc = .ok (i, len)) (h0 : xRet y.2.2.2.1 i len st = none) (h1 : xCall y.2.2.2.2 i len st g = none) (h : xJp i len pc st = if c then some (a, r) else some (b, r)) : xX d y pc al st g = if c then xX d y a al r g else xX d y b al r g := by
  by_cases q : c
  · rw [if_pos q]; rw [if_pos q] at h; exact X_jp hd h0 h1 h
  · rw [if_neg q]; rw [if_neg q] at h; exact X_jp hd h0 h1 h
theorem X_call {y' : xMI} {as r : List Value} (hd : decode y.2.1 pc = .ok (i, len)) (h0 : xRet y.2.2.2.1 i len st = none) (h : xCall y.2.2.2.2 i len st g = some (y', as, r)) : xX (d + 1) y pc al st g = (match xCallM d y' as g with
    | some (v, g') => xX (d + 1) y (pc + 3) al (v.toList ++ r) g'
    | none => none) := by
  rw [xX_next]; unfold xNext; simp only [hd, h0, h]; rfl
theorem X_called {y' : xMI} {as r : List Value} {v : Option Value} (hd : decode y.2.1 pc = .ok (i, len)) (h0 : xRet y.2.2.2.1 i len st = none) (h : xCall y.2.2.2.2 i len st g = some (y', as, r)) (hm : xCallM d y' as g = some (v, g')) : xX (d + 1) y pc al st g = xX (d + 1) y (pc + 3) al (v.toList ++ r) g' := by
  rw [X_call hd h0 h, hm]
/-- conditional jumps, a row each -/
theorem X_if0 {cc : Jvm.ClassFile.Cond} {off : Int} {x : Int32} (pc' : Nat) (hd : decode y.2.1 pc = .ok (.ifCond cc off, 3)) (h : (pc : Int) + off = (pc' : Int)) : xX d y pc al (.int x :: st) g = (match cc with
    | .eq => if x = 0 then xX d y pc' al st g else xX d y (pc + 3) al st g
    | .ne => if x = 0 then xX d y (pc + 3) al st g else xX d y pc' al st g
    | .lt => if x < 0 then xX d y pc' al st g else xX d y (pc + 3) al st g
    | .ge => if 0 ≤ x then xX d y pc' al st g else xX d y (pc + 3) al st g
    | .gt => if 0 < x then xX d y pc' al st g else xX d y (pc + 3) al st g
    | .le => if x ≤ 0 then xX d y pc' al st g else xX d y (pc + 3) al st g) := by
  cases cc <;> exact X_if hd rfl rfl (by simp only [xJp, h, Int.toNat_natCast]; simp)
theorem X_if2 {cc : Jvm.ClassFile.Cond} {off : Int} {x z : Int32} (pc' : Nat) (hd : decode y.2.1 pc = .ok (.if_icmp cc off, 3)) (h : (pc : Int) + off = (pc' : Int)) : xX d y pc al (.int z :: .int x :: st) g = (match cc with
    | .eq => if x = z then xX d y pc' al st g else xX d y (pc + 3) al st g
    | .ne => if x = z then xX d y (pc + 3) al st g else xX d y pc' al st g
    | .lt => if x < z then xX d y pc' al st g else xX d y (pc + 3) al st g
    | .ge => if z ≤ x then xX d y pc' al st g else xX d y (pc + 3) al st g
    | .gt => if z < x then xX d y pc' al st g else xX d y (pc + 3) al st g
    | .le => if x ≤ z then xX d y pc' al st g else xX d y (pc + 3) al st g) := by
  cases cc <;> exact X_if hd rfl rfl (by simp only [xJp, h, Int.toNat_natCast]; simp)
end RULES
