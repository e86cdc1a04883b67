/-! the length of the row of books -/
theorem Y_alenq {d : Nat} {y : xMI} {pc : Nat} {al : xAL} {st : List Value} {g : xSt} {r : Option Value × xSt} {o n : Nat} (m : Int32) (hd : decode y.2.1 pc = .ok (.arraylength, 1)) (ha : xArr g o (.object RX0) n) (hm : Int32.ofNat n = m) (k : xX d y (pc + 1) al (.int m :: st) g = some r) : xX d y pc al (.ref o :: st) g = some r :=
  (X_hp hd rfl rfl rfl rfl rfl rfl (by simp [xHp, ha.2, ha.1, hm])).trans k
