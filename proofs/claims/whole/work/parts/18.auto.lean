/-! contracts of loop-free methods, by program (wip/whole/autoc.py) -/
def F_X5_pairOf (g : xSt) (a0 : Int32) (a1 : Int32) (a2 : Int32) : Int32 := (((((imin a1 a2) * a0) - (((imin a1 a2) * ((imin a1 a2) + 1)) / 2)) + (imax a1 a2)) - (imin a1 a2)) - 1
theorem c_X5_pairOf {d : Nat} {g : xSt} {a0 : Int32} {a1 : Int32} {a2 : Int32} (W : xWf g) : xCallM d mX5_pairOf [.int a0, .int a1, .int a2] g = some (some (.int (F_X5_pairOf g a0 a1 a2)), g) := by
  unfold F_X5_pairOf
  exact bX5_pairOf_0 rfl
def F_X11_end (g : xSt) (a1 : Int32) : Int32 × xSt := if a1 < 0 then ((-1), g) else if a1 ≤ (xI g 0 1) then (a1, xWI g 0 1 a1) else ((-1), g)
theorem c_X11_end {d : Nat} {g : xSt} {a1 : Int32} (W : xWf g) : xCallM d mX11_end [.ref 0, .int a1] g = some (some (.int (F_X11_end g a1).1), (F_X11_end g a1).2) := by
  unfold F_X11_end
  exact bX11_end_0 (fun q1 => bX11_end_12 (by first | (simp only [if_pos q1]; done) | rfl)) (fun q1 => bX11_end_4 W (fun q2 => bX11_end_14 W (by first | (simp only [if_neg q1, if_pos q2]; done) | rfl)) (fun q2 => bX11_end_12 (by first | (simp only [if_neg q1, if_neg q2]; done) | rfl)))
def F_X10_empty (g : xSt) (t : Nat) : xSt := xWI (xWI (xWI (xWI (xWI (xWI (xWI g t 0 0) t 3 0) t 4 0) t 5 0) t 6 0) t 8 0) t 11 0
theorem c_X10_empty {d : Nat} {g : xSt} {t : Nat} (W : xWf g) (ht : xTw t) : xCallM d mX10_empty [.ref t] g = some (none, F_X10_empty g t) := by
  unfold F_X10_empty
  exact bX10_empty_0 W ht rfl
def F_X6_isLetter (g : xSt) (a0 : Int32) : Int32 := if a0 < 97 then 0 else if 122 < a0 then 0 else 1
theorem c_X6_isLetter {d : Nat} {g : xSt} {a0 : Int32} (W : xWf g) : xCallM d mX6_isLetter [.int a0] g = some (some (.int (F_X6_isLetter g a0)), g) := by
  unfold F_X6_isLetter
  exact bX6_isLetter_0 (fun q1 => bX6_isLetter_16 <| bX6_isLetter_17 (Or.inl rfl) (by first | (simp only [if_pos q1]; done) | rfl)) (fun q1 => bX6_isLetter_6 (fun q2 => bX6_isLetter_16 <| bX6_isLetter_17 (Or.inl rfl) (by first | (simp only [if_neg q1, if_pos q2]; done) | rfl)) (fun q2 => bX6_isLetter_12 <| bX6_isLetter_17 (Or.inr rfl) (by first | (simp only [if_neg q1, if_neg q2]; done) | rfl)))
theorem z_X6_isLetter {g : xSt} {a0 : Int32} : F_X6_isLetter g a0 = 0 ∨ F_X6_isLetter g a0 = 1 := by
  unfold F_X6_isLetter
  (repeat' split) <;> first | exact Or.inl rfl | exact Or.inr rfl | assumption
def F_X6_isDigit (g : xSt) (a0 : Int32) : Int32 := if a0 < 48 then 0 else if 57 < a0 then 0 else 1
theorem c_X6_isDigit {d : Nat} {g : xSt} {a0 : Int32} (W : xWf g) : xCallM d mX6_isDigit [.int a0] g = some (some (.int (F_X6_isDigit g a0)), g) := by
  unfold F_X6_isDigit
  exact bX6_isDigit_0 (fun q1 => bX6_isDigit_16 <| bX6_isDigit_17 (Or.inl rfl) (by first | (simp only [if_pos q1]; done) | rfl)) (fun q1 => bX6_isDigit_6 (fun q2 => bX6_isDigit_16 <| bX6_isDigit_17 (Or.inl rfl) (by first | (simp only [if_neg q1, if_pos q2]; done) | rfl)) (fun q2 => bX6_isDigit_12 <| bX6_isDigit_17 (Or.inr rfl) (by first | (simp only [if_neg q1, if_neg q2]; done) | rfl)))
theorem z_X6_isDigit {g : xSt} {a0 : Int32} : F_X6_isDigit g a0 = 0 ∨ F_X6_isDigit g a0 = 1 := by
  unfold F_X6_isDigit
  (repeat' split) <;> first | exact Or.inl rfl | exact Or.inr rfl | assumption
def F_X6_isSign (g : xSt) (a0 : Int32) : Int32 := if a0 = 59 then 1 else if a0 = 40 then 1 else if a0 = 41 then 1 else if a0 = 47 then 1 else 0
theorem c_X6_isSign {d : Nat} {g : xSt} {a0 : Int32} (W : xWf g) : xCallM d mX6_isSign [.int a0] g = some (some (.int (F_X6_isSign g a0)), g) := by
  unfold F_X6_isSign
  exact bX6_isSign_0 (fun q1 => bX6_isSign_24 <| bX6_isSign_29 (Or.inr rfl) (by first | (simp only [if_pos q1]; done) | rfl)) (fun q1 => bX6_isSign_6 (fun q2 => bX6_isSign_24 <| bX6_isSign_29 (Or.inr rfl) (by first | (simp only [if_neg q1, if_pos q2]; done) | rfl)) (fun q2 => bX6_isSign_12 (fun q3 => bX6_isSign_24 <| bX6_isSign_29 (Or.inr rfl) (by first | (simp only [if_neg q1, if_neg q2, if_pos q3]; done) | rfl)) (fun q3 => bX6_isSign_18 (fun q4 => bX6_isSign_24 <| bX6_isSign_29 (Or.inr rfl) (by first | (simp only [if_neg q1, if_neg q2, if_neg q3, if_pos q4]; done) | rfl)) (fun q4 => bX6_isSign_28 <| bX6_isSign_29 (Or.inl rfl) (by first | (simp only [if_neg q1, if_neg q2, if_neg q3, if_neg q4]; done) | rfl)))))
theorem z_X6_isSign {g : xSt} {a0 : Int32} : F_X6_isSign g a0 = 0 ∨ F_X6_isSign g a0 = 1 := by
  unfold F_X6_isSign
  (repeat' split) <;> first | exact Or.inl rfl | exact Or.inr rfl | assumption
def F_X6_isOwn (g : xSt) (a1 : Int32) : Int32 := if (xI g 20 6) = 1 then if (xI g 20 9) = a1 then 1 else 0 else 0
theorem c_X6_isOwn {d : Nat} {g : xSt} {a1 : Int32} (W : xWf g) : xCallM d mX6_isOwn [.ref 20, .int a1] g = some (some (.int (F_X6_isOwn g a1)), g) := by
  unfold F_X6_isOwn
  exact bX6_isOwn_0 W (fun q1 => bX6_isOwn_8 W (fun q2 => bX6_isOwn_16 <| bX6_isOwn_21 (Or.inr rfl) (by first | (simp only [if_pos q1, if_pos q2]; done) | rfl)) (fun q2 => bX6_isOwn_20 <| bX6_isOwn_21 (Or.inl rfl) (by first | (simp only [if_pos q1, if_neg q2]; done) | rfl))) (fun q1 => bX6_isOwn_20 <| bX6_isOwn_21 (Or.inl rfl) (by first | (simp only [if_neg q1]; done) | rfl))
theorem z_X6_isOwn {g : xSt} {a1 : Int32} : F_X6_isOwn g a1 = 0 ∨ F_X6_isOwn g a1 = 1 := by
  unfold F_X6_isOwn
  (repeat' split) <;> first | exact Or.inl rfl | exact Or.inr rfl | assumption
def F_X6_fail (g : xSt) (a1 : Int32) : xSt := if (xI g 20 10) = 0 then if (xI g 20 6) = 3 then xWI (xWI (xWI (xWI g 20 10 (1 : Int32)) 20 11 (xI g 20 4)) 20 6 0) 20 5 (xI g 20 2) else xWI (xWI (xWI (xWI g 20 10 a1) 20 11 (xI g 20 4)) 20 6 0) 20 5 (xI g 20 2) else g
theorem c_X6_fail {d : Nat} {g : xSt} {a1 : Int32} (W : xWf g) : xCallM d mX6_fail [.ref 20, .int a1] g = some (none, F_X6_fail g a1) := by
  unfold F_X6_fail
  exact bX6_fail_0 W (fun q1 => bX6_fail_7 W (fun q2 => bX6_fail_16 <| bX6_fail_21 W <| bX6_fail_45 (by first | (simp only [if_pos q1, if_pos q2]; done) | rfl)) (fun q2 => bX6_fail_20 <| bX6_fail_21 W <| bX6_fail_45 (by first | (simp only [if_pos q1, if_neg q2]; done) | rfl))) (fun q1 => bX6_fail_45 (by first | (simp only [if_neg q1]; done) | rfl))
def F_X6_isName (g : xSt)  : Int32 := if (xI g 20 6) = 1 then if (xI g 20 9) = (-1) then 1 else 0 else 0
theorem c_X6_isName {d : Nat} {g : xSt}  (W : xWf g) : xCallM d mX6_isName [.ref 20] g = some (some (.int (F_X6_isName g)), g) := by
  unfold F_X6_isName
  exact bX6_isName_0 W (fun q1 => bX6_isName_8 W (fun q2 => bX6_isName_16 <| bX6_isName_21 (Or.inr rfl) (by first | (simp only [if_pos q1, if_pos q2]; done) | rfl)) (fun q2 => bX6_isName_20 <| bX6_isName_21 (Or.inl rfl) (by first | (simp only [if_pos q1, if_neg q2]; done) | rfl))) (fun q1 => bX6_isName_20 <| bX6_isName_21 (Or.inl rfl) (by first | (simp only [if_neg q1]; done) | rfl))
theorem z_X6_isName {g : xSt}  : F_X6_isName g  = 0 ∨ F_X6_isName g  = 1 := by
  unfold F_X6_isName
  (repeat' split) <;> first | exact Or.inl rfl | exact Or.inr rfl | assumption
def F_X10_addThing (g : xSt) (t : Nat) (a1 : Int64) (a3 : Int32) : xSt := xWI (xput (xputL g (t + 1) 5 (xI g t 0) a1) (t + 2) 5 (xI (xputL g (t + 1) 5 (xI g t 0) a1) t 0) a3) t 0 ((xI (xput (xputL g (t + 1) 5 (xI g t 0) a1) (t + 2) 5 (xI (xputL g (t + 1) 5 (xI g t 0) a1) t 0) a3) t 0) + 1)
theorem c_X10_addThing {d : Nat} {g : xSt} {t : Nat} {a1 : Int64} {a3 : Int32} (W : xWf g) (ht : xTw t) : xCallM (d + 1) mX10_addThing [.ref t, .long a1, .int a3] g = some (none, F_X10_addThing g t a1 a3) := by
  unfold F_X10_addThing
  exact bX10_addThing_0 W ht rfl
def F_X10_addToRow (g : xSt) (t : Nat) (a1 : Int32) : xSt := xWI (xput g (t + 3) 5 (xI g t 6) a1) t 6 ((xI (xput g (t + 3) 5 (xI g t 6) a1) t 6) + 1)
theorem c_X10_addToRow {d : Nat} {g : xSt} {t : Nat} {a1 : Int32} (W : xWf g) (ht : xTw t) : xCallM (d + 1) mX10_addToRow [.ref t, .int a1] g = some (none, F_X10_addToRow g t a1) := by
  unfold F_X10_addToRow
  exact bX10_addToRow_0 W ht rfl
def F_X10_addTwo (g : xSt) (t : Nat) (a1 : Int32) (a2 : Int32) : Int32 × xSt := ((xI (xWI (xput (xput g (t + 6) 60 (xI g t 11) a1) (t + 7) 60 (xI (xput g (t + 6) 60 (xI g t 11) a1) t 11) a2) t 11 ((xI (xput (xput g (t + 6) 60 (xI g t 11) a1) (t + 7) 60 (xI (xput g (t + 6) 60 (xI g t 11) a1) t 11) a2) t 11) + 1)) t 11) - 1, xWI (xput (xput g (t + 6) 60 (xI g t 11) a1) (t + 7) 60 (xI (xput g (t + 6) 60 (xI g t 11) a1) t 11) a2) t 11 ((xI (xput (xput g (t + 6) 60 (xI g t 11) a1) (t + 7) 60 (xI (xput g (t + 6) 60 (xI g t 11) a1) t 11) a2) t 11) + 1))
theorem c_X10_addTwo {d : Nat} {g : xSt} {t : Nat} {a1 : Int32} {a2 : Int32} (W : xWf g) (ht : xTw t) : xCallM (d + 1) mX10_addTwo [.ref t, .int a1, .int a2] g = some (some (.int (F_X10_addTwo g t a1 a2).1), (F_X10_addTwo g t a1 a2).2) := by
  unfold F_X10_addTwo
  exact bX10_addTwo_0 W ht rfl
def F_X10_setWay (g : xSt) (t : Nat) (a1 : Int32) (a2 : Int32) (a3 : Int32) : xSt := xput g (t + 8) 180 ((3 * a1) + a2) a3
theorem c_X10_setWay {d : Nat} {g : xSt} {t : Nat} {a1 : Int32} {a2 : Int32} {a3 : Int32} (W : xWf g) (ht : xTw t) : xCallM (d + 1) mX10_setWay [.ref t, .int a1, .int a2, .int a3] g = some (none, F_X10_setWay g t a1 a2 a3) := by
  unfold F_X10_setWay
  exact bX10_setWay_0 W ht rfl
def F_X10_addPlan (g : xSt) (t : Nat) (a1 : Int64) (a3 : Int32) : xSt := xWI (xput (xputL g (t + 4) 3 (xI g t 8) a1) (t + 5) 3 (xI (xputL g (t + 4) 3 (xI g t 8) a1) t 8) a3) t 8 ((xI (xput (xputL g (t + 4) 3 (xI g t 8) a1) (t + 5) 3 (xI (xputL g (t + 4) 3 (xI g t 8) a1) t 8) a3) t 8) + 1)
theorem c_X10_addPlan {d : Nat} {g : xSt} {t : Nat} {a1 : Int64} {a3 : Int32} (W : xWf g) (ht : xTw t) : xCallM (d + 1) mX10_addPlan [.ref t, .long a1, .int a3] g = some (none, F_X10_addPlan g t a1 a3) := by
  unfold F_X10_addPlan
  exact bX10_addPlan_0 W ht rfl
def F_X9_empty (g : xSt)  : xSt := xWI g 111 1 0
theorem c_X9_empty {d : Nat} {g : xSt}  (W : xWf g) : xCallM d mX9_empty [.ref 111] g = some (none, F_X9_empty g) := by
  unfold F_X9_empty
  exact bX9_empty_0 W rfl
def F_X11_fault (g : xSt) (a1 : Int32) : Int32 := if a1 = 0 then xI g 0 2 else if a1 = 1 then xI g 0 3 else (-1)
theorem c_X11_fault {d : Nat} {g : xSt} {a1 : Int32} (W : xWf g) : xCallM d mX11_fault [.ref 0, .int a1] g = some (some (.int (F_X11_fault g a1)), g) := by
  unfold F_X11_fault
  exact bX11_fault_0 (fun q1 => bX11_fault_4 W <| bX11_fault_24 (by first | (simp only [if_pos q1]; done) | rfl)) (fun q1 => bX11_fault_11 (fun q2 => bX11_fault_16 W <| bX11_fault_24 (by first | (simp only [if_neg q1, if_pos q2]; done) | rfl)) (fun q2 => bX11_fault_23 <| bX11_fault_24 (by first | (simp only [if_neg q1, if_neg q2]; done) | rfl)))
def F_X10_isHeap (g : xSt) (t : Nat) (a1 : Int32) : Int32 := if a1 ≤ 0 then 0 else if (1 <<< ((xI g t 0) &&& 31)) ≤ a1 then 0 else 1
theorem c_X10_isHeap {d : Nat} {g : xSt} {t : Nat} {a1 : Int32} (W : xWf g) (ht : xTw t) : xCallM d mX10_isHeap [.ref t, .int a1] g = some (some (.int (F_X10_isHeap g t a1)), g) := by
  unfold F_X10_isHeap
  exact bX10_isHeap_0 ht (fun q1 => bX10_isHeap_18 <| bX10_isHeap_19 (Or.inl rfl) (by first | (simp only [if_pos q1]; done) | rfl)) (fun q1 => bX10_isHeap_4 W ht (fun q2 => bX10_isHeap_18 <| bX10_isHeap_19 (Or.inl rfl) (by first | (simp only [if_neg q1, if_pos q2]; done) | rfl)) (fun q2 => bX10_isHeap_14 <| bX10_isHeap_19 (Or.inr rfl) (by first | (simp only [if_neg q1, if_neg q2]; done) | rfl)))
theorem z_X10_isHeap {g : xSt} {t : Nat} {a1 : Int32} : F_X10_isHeap g t a1 = 0 ∨ F_X10_isHeap g t a1 = 1 := by
  unfold F_X10_isHeap
  (repeat' split) <;> first | exact Or.inl rfl | exact Or.inr rfl | assumption
def F_X0_isFull (g : xSt) (b : Nat) : Int32 := if (xI g b 0) < 60 then 0 else 1
theorem c_X0_isFull {d : Nat} {g : xSt} {b : Nat} (W : xWf g) (hb : xBk b) : xCallM d mX0_isFull [.ref b] g = some (some (.int (F_X0_isFull g b)), g) := by
  unfold F_X0_isFull
  exact bX0_isFull_0 W hb (fun q1 => bX0_isFull_13 <| bX0_isFull_14 (Or.inl rfl) (by first | (simp only [if_pos q1]; done) | rfl)) (fun q1 => bX0_isFull_9 <| bX0_isFull_14 (Or.inr rfl) (by first | (simp only [if_neg q1]; done) | rfl))
theorem z_X0_isFull {g : xSt} {b : Nat} : F_X0_isFull g b = 0 ∨ F_X0_isFull g b = 1 := by
  unfold F_X0_isFull
  (repeat' split) <;> first | exact Or.inl rfl | exact Or.inr rfl | assumption
def F_X0_write (g : xSt) (b : Nat) (a1 : Int32) (a2 : Int32) (a3 : Int32) : Int32 × xSt := (xI g b 0, xWI (xput (xput (xput (xput (xput (xput g (b + 1) 60 (xI g b 0) a1) (b + 2) 60 (xI g b 0) a2) (b + 3) 60 (xI g b 0) a3) (b + 4) 60 (xI g b 0) (xI (xput (xput (xput g (b + 1) 60 (xI g b 0) a1) (b + 2) 60 (xI g b 0) a2) (b + 3) 60 (xI g b 0) a3) b 2)) (b + 5) 60 (xI g b 0) (-1)) (b + 6) 60 (xI g b 0) (xI (xput (xput (xput (xput (xput g (b + 1) 60 (xI g b 0) a1) (b + 2) 60 (xI g b 0) a2) (b + 3) 60 (xI g b 0) a3) (b + 4) 60 (xI g b 0) (xI (xput (xput (xput g (b + 1) 60 (xI g b 0) a1) (b + 2) 60 (xI g b 0) a2) (b + 3) 60 (xI g b 0) a3) b 2)) (b + 5) 60 (xI g b 0) (-1)) b 1)) b 0 ((xI (xput (xput (xput (xput (xput (xput g (b + 1) 60 (xI g b 0) a1) (b + 2) 60 (xI g b 0) a2) (b + 3) 60 (xI g b 0) a3) (b + 4) 60 (xI g b 0) (xI (xput (xput (xput g (b + 1) 60 (xI g b 0) a1) (b + 2) 60 (xI g b 0) a2) (b + 3) 60 (xI g b 0) a3) b 2)) (b + 5) 60 (xI g b 0) (-1)) (b + 6) 60 (xI g b 0) (xI (xput (xput (xput (xput (xput g (b + 1) 60 (xI g b 0) a1) (b + 2) 60 (xI g b 0) a2) (b + 3) 60 (xI g b 0) a3) (b + 4) 60 (xI g b 0) (xI (xput (xput (xput g (b + 1) 60 (xI g b 0) a1) (b + 2) 60 (xI g b 0) a2) (b + 3) 60 (xI g b 0) a3) b 2)) (b + 5) 60 (xI g b 0) (-1)) b 1)) b 0) + 1))
theorem c_X0_write {d : Nat} {g : xSt} {b : Nat} {a1 : Int32} {a2 : Int32} {a3 : Int32} (W : xWf g) (hb : xBk b) : xCallM (d + 1) mX0_write [.ref b, .int a1, .int a2, .int a3] g = some (some (.int (F_X0_write g b a1 a2 a3).1), (F_X0_write g b a1 a2 a3).2) := by
  unfold F_X0_write
  exact bX0_write_0 W hb <| bX0_write_59 (xWf_put (xWf_put (xWf_put (xWf_put (xWf_put W))))) hb rfl
def F_X0_has (g : xSt) (b : Nat) (a1 : Int32) : Int32 := if a1 < 0 then 0 else if (xI g b 0) ≤ a1 then 0 else 1
theorem c_X0_has {d : Nat} {g : xSt} {b : Nat} {a1 : Int32} (W : xWf g) (hb : xBk b) : xCallM d mX0_has [.ref b, .int a1] g = some (some (.int (F_X0_has g b a1)), g) := by
  unfold F_X0_has
  exact bX0_has_0 hb (fun q1 => bX0_has_16 <| bX0_has_17 (Or.inl rfl) (by first | (simp only [if_pos q1]; done) | rfl)) (fun q1 => bX0_has_4 W hb (fun q2 => bX0_has_16 <| bX0_has_17 (Or.inl rfl) (by first | (simp only [if_neg q1, if_pos q2]; done) | rfl)) (fun q2 => bX0_has_12 <| bX0_has_17 (Or.inr rfl) (by first | (simp only [if_neg q1, if_neg q2]; done) | rfl)))
theorem z_X0_has {g : xSt} {b : Nat} {a1 : Int32} : F_X0_has g b a1 = 0 ∨ F_X0_has g b a1 = 1 := by
  unfold F_X0_has
  (repeat' split) <;> first | exact Or.inl rfl | exact Or.inr rfl | assumption
def F_X0_isUntold (g : xSt) (b : Nat) (a1 : Int32) : Int32 := if (xat (xI g (b + 5)) 60 a1) = (-1) then 0 else 1
theorem c_X0_isUntold {d : Nat} {g : xSt} {b : Nat} {a1 : Int32} (W : xWf g) (hb : xBk b) : xCallM (d + 1) mX0_isUntold [.ref b, .int a1] g = some (some (.int (F_X0_isUntold g b a1)), g) := by
  unfold F_X0_isUntold
  exact bX0_isUntold_0 W hb (fun q1 => bX0_isUntold_16 <| bX0_isUntold_17 (Or.inl rfl) (by first | (simp only [if_pos q1]; done) | rfl)) (fun q1 => bX0_isUntold_12 <| bX0_isUntold_17 (Or.inr rfl) (by first | (simp only [if_neg q1]; done) | rfl))
theorem z_X0_isUntold {g : xSt} {b : Nat} {a1 : Int32} : F_X0_isUntold g b a1 = 0 ∨ F_X0_isUntold g b a1 = 1 := by
  unfold F_X0_isUntold
  (repeat' split) <;> first | exact Or.inl rfl | exact Or.inr rfl | assumption
def F_X0_strike (g : xSt) (b : Nat) (a1 : Int32) : Int32 × xSt := if (F_X0_has g b a1) = 0 then (0, g) else if (F_X0_isUntold g b a1) = 0 then (1, xput g (b + 5) 60 a1 (xI g b 2)) else (0, g)
theorem c_X0_strike {d : Nat} {g : xSt} {b : Nat} {a1 : Int32} (W : xWf g) (hb : xBk b) : xCallM (d + 2) mX0_strike [.ref b, .int a1] g = some (some (.int (F_X0_strike g b a1).1), (F_X0_strike g b a1).2) := by
  unfold F_X0_strike
  exact bX0_strike_0 W hb (c_X0_has W hb) W (fun q1 => bX0_strike_16 (by first | (simp only [if_pos q1]; done) | rfl)) (fun q1 => bX0_strike_8 W hb (c_X0_isUntold W hb) W (fun q2 => bX0_strike_18 W hb (by first | (simp only [if_neg q1, if_pos q2]; done) | rfl)) (fun q2 => bX0_strike_16 (by first | (simp only [if_neg q1, if_neg q2]; done) | rfl)))
def F_X0_pass (g : xSt) (b : Nat) (a1 : Int32) : Int32 × xSt := if a1 < 0 then ((-1), g) else if 1000 < a1 then ((-1), g) else if ((xI g b 2) + a1) ≤ 100000 then (xI (xWI g b 2 ((xI g b 2) + a1)) b 2, xWI g b 2 ((xI g b 2) + a1)) else ((-1), g)
theorem c_X0_pass {d : Nat} {g : xSt} {b : Nat} {a1 : Int32} (W : xWf g) (hb : xBk b) : xCallM d mX0_pass [.ref b, .int a1] g = some (some (.int (F_X0_pass g b a1).1), (F_X0_pass g b a1).2) := by
  unfold F_X0_pass
  exact bX0_pass_0 hb (fun q1 => bX0_pass_22 (by first | (simp only [if_pos q1]; done) | rfl)) (fun q1 => bX0_pass_4 hb (fun q2 => bX0_pass_22 (by first | (simp only [if_neg q1, if_pos q2]; done) | rfl)) (fun q2 => bX0_pass_11 W hb (fun q3 => bX0_pass_24 W hb (by first | (simp only [if_neg q1, if_neg q2, if_pos q3]; done) | rfl)) (fun q3 => bX0_pass_22 (by first | (simp only [if_neg q1, if_neg q2, if_neg q3]; done) | rfl))))
def F_X0_counts (g : xSt) (b : Nat) (a1 : Int32) (a2 : Int32) : Int32 := if (xI g b 1) ≤ (xat (xI g (b + 6)) 60 a1) then if (F_X0_isUntold g b a1) = 0 then if a2 < (xat (xI g (b + 4)) 60 a1) then 0 else 1 else if a2 < (xat (xI g (b + 5)) 60 a1) then if a2 < (xat (xI g (b + 4)) 60 a1) then 0 else 1 else if a2 < (xat (xI g (b + 4)) 60 a1) then 0 else 0 else if a2 < (xat (xI g (b + 7)) 40 (xat (xI g (b + 6)) 60 a1)) then if (F_X0_isUntold g b a1) = 0 then if a2 < (xat (xI g (b + 4)) 60 a1) then 0 else 1 else if a2 < (xat (xI g (b + 5)) 60 a1) then if a2 < (xat (xI g (b + 4)) 60 a1) then 0 else 1 else if a2 < (xat (xI g (b + 4)) 60 a1) then 0 else 0 else if (F_X0_isUntold g b a1) = 0 then if a2 < (xat (xI g (b + 4)) 60 a1) then 0 else 0 else if a2 < (xat (xI g (b + 5)) 60 a1) then if a2 < (xat (xI g (b + 4)) 60 a1) then 0 else 0 else if a2 < (xat (xI g (b + 4)) 60 a1) then 0 else 0
theorem c_X0_counts {d : Nat} {g : xSt} {b : Nat} {a1 : Int32} {a2 : Int32} (W : xWf g) (hb : xBk b) : xCallM (d + 2) mX0_counts [.ref b, .int a1, .int a2] g = some (some (.int (F_X0_counts g b a1 a2)), g) := by
  unfold F_X0_counts
  exact bX0_counts_0 W hb (fun q1 => bX0_counts_33 hb <| bX0_counts_34 W hb (c_X0_isUntold W hb) W (fun q2 => bX0_counts_60 hb <| bX0_counts_61 W hb (fun q3 => bX0_counts_89 <| bX0_counts_90 (Or.inl rfl) (by first | (simp only [if_pos q1, if_pos q2, if_pos q3]; done) | rfl)) (fun q3 => bX0_counts_75 (fun _ => bX0_counts_80 (fun _ => bX0_counts_85 <| bX0_counts_90 (Or.inr rfl) (by first | (simp only [if_pos q1, if_pos q2, if_neg q3]; done) | rfl)) (fun q => absurd (by decide) q)) (fun q => absurd (by decide) q))) (fun q2 => bX0_counts_44 W hb (fun q6 => bX0_counts_60 hb <| bX0_counts_61 W hb (fun q7 => bX0_counts_89 <| bX0_counts_90 (Or.inl rfl) (by first | (simp only [if_pos q1, if_neg q2, if_pos q6, if_pos q7]; done) | rfl)) (fun q7 => bX0_counts_75 (fun _ => bX0_counts_80 (fun _ => bX0_counts_85 <| bX0_counts_90 (Or.inr rfl) (by first | (simp only [if_pos q1, if_neg q2, if_pos q6, if_neg q7]; done) | rfl)) (fun q => absurd (by decide) q)) (fun q => absurd (by decide) q))) (fun q6 => bX0_counts_56 hb <| bX0_counts_61 W hb (fun q10 => bX0_counts_89 <| bX0_counts_90 (Or.inl rfl) (by first | (simp only [if_pos q1, if_neg q2, if_neg q6, if_pos q10]; done) | rfl)) (fun q10 => bX0_counts_75 (fun _ => bX0_counts_80 (fun q => absurd q (by decide)) (fun _ => bX0_counts_89 <| bX0_counts_90 (Or.inl rfl) (by first | (simp only [if_pos q1, if_neg q2, if_neg q6, if_neg q10]; done) | rfl))) (fun q => absurd (by decide) q))))) (fun q1 => bX0_counts_17 W hb (fun q13 => bX0_counts_33 hb <| bX0_counts_34 W hb (c_X0_isUntold W hb) W (fun q14 => bX0_counts_60 hb <| bX0_counts_61 W hb (fun q15 => bX0_counts_89 <| bX0_counts_90 (Or.inl rfl) (by first | (simp only [if_neg q1, if_pos q13, if_pos q14, if_pos q15]; done) | rfl)) (fun q15 => bX0_counts_75 (fun _ => bX0_counts_80 (fun _ => bX0_counts_85 <| bX0_counts_90 (Or.inr rfl) (by first | (simp only [if_neg q1, if_pos q13, if_pos q14, if_neg q15]; done) | rfl)) (fun q => absurd (by decide) q)) (fun q => absurd (by decide) q))) (fun q14 => bX0_counts_44 W hb (fun q18 => bX0_counts_60 hb <| bX0_counts_61 W hb (fun q19 => bX0_counts_89 <| bX0_counts_90 (Or.inl rfl) (by first | (simp only [if_neg q1, if_pos q13, if_neg q14, if_pos q18, if_pos q19]; done) | rfl)) (fun q19 => bX0_counts_75 (fun _ => bX0_counts_80 (fun _ => bX0_counts_85 <| bX0_counts_90 (Or.inr rfl) (by first | (simp only [if_neg q1, if_pos q13, if_neg q14, if_pos q18, if_neg q19]; done) | rfl)) (fun q => absurd (by decide) q)) (fun q => absurd (by decide) q))) (fun q18 => bX0_counts_56 hb <| bX0_counts_61 W hb (fun q22 => bX0_counts_89 <| bX0_counts_90 (Or.inl rfl) (by first | (simp only [if_neg q1, if_pos q13, if_neg q14, if_neg q18, if_pos q22]; done) | rfl)) (fun q22 => bX0_counts_75 (fun _ => bX0_counts_80 (fun q => absurd q (by decide)) (fun _ => bX0_counts_89 <| bX0_counts_90 (Or.inl rfl) (by first | (simp only [if_neg q1, if_pos q13, if_neg q14, if_neg q18, if_neg q22]; done) | rfl))) (fun q => absurd (by decide) q))))) (fun q13 => bX0_counts_29 hb <| bX0_counts_34 W hb (c_X0_isUntold W hb) W (fun q25 => bX0_counts_60 hb <| bX0_counts_61 W hb (fun q26 => bX0_counts_89 <| bX0_counts_90 (Or.inl rfl) (by first | (simp only [if_neg q1, if_neg q13, if_pos q25, if_pos q26]; done) | rfl)) (fun q26 => bX0_counts_75 (fun q => absurd q (by decide)) (fun _ => bX0_counts_89 <| bX0_counts_90 (Or.inl rfl) (by first | (simp only [if_neg q1, if_neg q13, if_pos q25, if_neg q26]; done) | rfl)))) (fun q25 => bX0_counts_44 W hb (fun q28 => bX0_counts_60 hb <| bX0_counts_61 W hb (fun q29 => bX0_counts_89 <| bX0_counts_90 (Or.inl rfl) (by first | (simp only [if_neg q1, if_neg q13, if_neg q25, if_pos q28, if_pos q29]; done) | rfl)) (fun q29 => bX0_counts_75 (fun q => absurd q (by decide)) (fun _ => bX0_counts_89 <| bX0_counts_90 (Or.inl rfl) (by first | (simp only [if_neg q1, if_neg q13, if_neg q25, if_pos q28, if_neg q29]; done) | rfl)))) (fun q28 => bX0_counts_56 hb <| bX0_counts_61 W hb (fun q31 => bX0_counts_89 <| bX0_counts_90 (Or.inl rfl) (by first | (simp only [if_neg q1, if_neg q13, if_neg q25, if_neg q28, if_pos q31]; done) | rfl)) (fun q31 => bX0_counts_75 (fun q => absurd q (by decide)) (fun _ => bX0_counts_89 <| bX0_counts_90 (Or.inl rfl) (by first | (simp only [if_neg q1, if_neg q13, if_neg q25, if_neg q28, if_neg q31]; done) | rfl)))))))
theorem z_X0_counts {g : xSt} {b : Nat} {a1 : Int32} {a2 : Int32} : F_X0_counts g b a1 a2 = 0 ∨ F_X0_counts g b a1 a2 = 1 := by
  unfold F_X0_counts
  (repeat' split) <;> first | exact Or.inl rfl | exact Or.inr rfl | assumption
def F_X0_isSingle (g : xSt) (b : Nat) (a1 : Int32) : Int32 := if (xbci (xat (xI g (b + 1)) 60 a1)) = 1 then if (xbci (xat (xI g (b + 2)) 60 a1)) = 1 then 1 else 0 else 0
theorem c_X0_isSingle {d : Nat} {g : xSt} {b : Nat} {a1 : Int32} (W : xWf g) (hb : xBk b) : xCallM (d + 1) mX0_isSingle [.ref b, .int a1] g = some (some (.int (F_X0_isSingle g b a1)), g) := by
  unfold F_X0_isSingle
  exact bX0_isSingle_0 W hb (fun q1 => bX0_isSingle_15 W hb (fun q2 => bX0_isSingle_30 <| bX0_isSingle_35 (Or.inr rfl) (by first | (simp only [if_pos q1, if_pos q2]; done) | rfl)) (fun q2 => bX0_isSingle_34 <| bX0_isSingle_35 (Or.inl rfl) (by first | (simp only [if_pos q1, if_neg q2]; done) | rfl))) (fun q1 => bX0_isSingle_34 <| bX0_isSingle_35 (Or.inl rfl) (by first | (simp only [if_neg q1]; done) | rfl))
theorem z_X0_isSingle {g : xSt} {b : Nat} {a1 : Int32} : F_X0_isSingle g b a1 = 0 ∨ F_X0_isSingle g b a1 = 1 := by
  unfold F_X0_isSingle
  (repeat' split) <;> first | exact Or.inl rfl | exact Or.inr rfl | assumption
def F_X5_leftAt (g : xSt) (a1 : Int32) : Int32 := xat (xI g 72) 541 a1
theorem c_X5_leftAt {d : Nat} {g : xSt} {a1 : Int32} (W : xWf g) : xCallM (d + 1) mX5_leftAt [.ref 69, .int a1] g = some (some (.int (F_X5_leftAt g a1)), g) := by
  unfold F_X5_leftAt
  exact bX5_leftAt_0 W rfl
def F_X5_placeOf (g : xSt) (a1 : Int32) (a2 : Int32) : Int32 := ((xat (xI g 70) 541 a1) >>> ((3 * a2) &&& 31)) &&& 7
theorem c_X5_placeOf {d : Nat} {g : xSt} {a1 : Int32} {a2 : Int32} (W : xWf g) : xCallM (d + 1) mX5_placeOf [.ref 69, .int a1, .int a2] g = some (some (.int (F_X5_placeOf g a1 a2)), g) := by
  unfold F_X5_placeOf
  exact bX5_placeOf_0 W rfl
def F_X5_markOf (g : xSt) (a1 : Int32) : Int32 := xat (xI g 71) 541 a1
theorem c_X5_markOf {d : Nat} {g : xSt} {a1 : Int32} (W : xWf g) : xCallM (d + 1) mX5_markOf [.ref 69, .int a1] g = some (some (.int (F_X5_markOf g a1)), g) := by
  unfold F_X5_markOf
  exact bX5_markOf_0 W rfl
def F_X10_hasThing (g : xSt) (t : Nat) (a1 : Int32) : Int32 := if a1 < 0 then 0 else if (xI g t 0) ≤ a1 then 0 else 1
theorem c_X10_hasThing {d : Nat} {g : xSt} {t : Nat} {a1 : Int32} (W : xWf g) (ht : xTw t) : xCallM d mX10_hasThing [.ref t, .int a1] g = some (some (.int (F_X10_hasThing g t a1)), g) := by
  unfold F_X10_hasThing
  exact bX10_hasThing_0 ht (fun q1 => bX10_hasThing_16 <| bX10_hasThing_17 (Or.inl rfl) (by first | (simp only [if_pos q1]; done) | rfl)) (fun q1 => bX10_hasThing_4 W ht (fun q2 => bX10_hasThing_16 <| bX10_hasThing_17 (Or.inl rfl) (by first | (simp only [if_neg q1, if_pos q2]; done) | rfl)) (fun q2 => bX10_hasThing_12 <| bX10_hasThing_17 (Or.inr rfl) (by first | (simp only [if_neg q1, if_neg q2]; done) | rfl)))
theorem z_X10_hasThing {g : xSt} {t : Nat} {a1 : Int32} : F_X10_hasThing g t a1 = 0 ∨ F_X10_hasThing g t a1 = 1 := by
  unfold F_X10_hasThing
  (repeat' split) <;> first | exact Or.inl rfl | exact Or.inr rfl | assumption
def F_X10_hasTwo (g : xSt) (t : Nat) (a1 : Int32) (a2 : Int32) : Int32 := if (F_X10_hasThing g t a1) = 0 then 0 else if (F_X10_hasThing g t a2) = 0 then 0 else if a1 = a2 then 0 else 1
theorem c_X10_hasTwo {d : Nat} {g : xSt} {t : Nat} {a1 : Int32} {a2 : Int32} (W : xWf g) (ht : xTw t) : xCallM (d + 1) mX10_hasTwo [.ref t, .int a1, .int a2] g = some (some (.int (F_X10_hasTwo g t a1 a2)), g) := by
  unfold F_X10_hasTwo
  exact bX10_hasTwo_0 W ht (c_X10_hasThing W ht) W (fun q1 => bX10_hasTwo_25 <| bX10_hasTwo_26 (Or.inl rfl) (by first | (simp only [if_pos q1]; done) | rfl)) (fun q1 => bX10_hasTwo_8 W ht (c_X10_hasThing W ht) W (fun q2 => bX10_hasTwo_25 <| bX10_hasTwo_26 (Or.inl rfl) (by first | (simp only [if_neg q1, if_pos q2]; done) | rfl)) (fun q2 => bX10_hasTwo_16 (fun q3 => bX10_hasTwo_25 <| bX10_hasTwo_26 (Or.inl rfl) (by first | (simp only [if_neg q1, if_neg q2, if_pos q3]; done) | rfl)) (fun q3 => bX10_hasTwo_21 <| bX10_hasTwo_26 (Or.inr rfl) (by first | (simp only [if_neg q1, if_neg q2, if_neg q3]; done) | rfl))))
theorem z_X10_hasTwo {g : xSt} {t : Nat} {a1 : Int32} {a2 : Int32} : F_X10_hasTwo g t a1 a2 = 0 ∨ F_X10_hasTwo g t a1 a2 = 1 := by
  unfold F_X10_hasTwo
  (repeat' split) <;> first | exact Or.inl rfl | exact Or.inr rfl | assumption
def F_X10_hasGoal (g : xSt) (t : Nat) (a1 : Int32) (a2 : Int32) : Int32 := if a1 = 0 then 1 else if a1 = 1 then if a2 < 0 then if a1 = 2 then if (F_X10_hasThing g t a2) = 0 then 0 else 1 else 0 else if a2 < 5 then 1 else if a1 = 2 then if (F_X10_hasThing g t a2) = 0 then 0 else 1 else 0 else if a1 = 2 then if (F_X10_hasThing g t a2) = 0 then 0 else 1 else 0
theorem c_X10_hasGoal {d : Nat} {g : xSt} {t : Nat} {a1 : Int32} {a2 : Int32} (W : xWf g) (ht : xTw t) : xCallM (d + 1) mX10_hasGoal [.ref t, .int a1, .int a2] g = some (some (.int (F_X10_hasGoal g t a1 a2)), g) := by
  unfold F_X10_hasGoal
  exact bX10_hasGoal_0 ht (fun q1 => bX10_hasGoal_31 <| bX10_hasGoal_36 (Or.inr rfl) (by first | (simp only [if_pos q1]; done) | rfl)) (fun q1 => bX10_hasGoal_4 ht (fun q2 => bX10_hasGoal_9 ht (fun q3 => bX10_hasGoal_18 ht (fun q4 => bX10_hasGoal_23 W ht (c_X10_hasThing W ht) W (fun q5 => bX10_hasGoal_35 <| bX10_hasGoal_36 (Or.inl rfl) (by first | (simp only [if_neg q1, if_pos q2, if_pos q3, if_pos q4, if_pos q5]; done) | rfl)) (fun q5 => bX10_hasGoal_31 <| bX10_hasGoal_36 (Or.inr rfl) (by first | (simp only [if_neg q1, if_pos q2, if_pos q3, if_pos q4, if_neg q5]; done) | rfl))) (fun q4 => bX10_hasGoal_35 <| bX10_hasGoal_36 (Or.inl rfl) (by first | (simp only [if_neg q1, if_pos q2, if_pos q3, if_neg q4]; done) | rfl))) (fun q3 => bX10_hasGoal_13 ht (fun q6 => bX10_hasGoal_31 <| bX10_hasGoal_36 (Or.inr rfl) (by first | (simp only [if_neg q1, if_pos q2, if_neg q3, if_pos q6]; done) | rfl)) (fun q6 => bX10_hasGoal_18 ht (fun q7 => bX10_hasGoal_23 W ht (c_X10_hasThing W ht) W (fun q8 => bX10_hasGoal_35 <| bX10_hasGoal_36 (Or.inl rfl) (by first | (simp only [if_neg q1, if_pos q2, if_neg q3, if_neg q6, if_pos q7, if_pos q8]; done) | rfl)) (fun q8 => bX10_hasGoal_31 <| bX10_hasGoal_36 (Or.inr rfl) (by first | (simp only [if_neg q1, if_pos q2, if_neg q3, if_neg q6, if_pos q7, if_neg q8]; done) | rfl))) (fun q7 => bX10_hasGoal_35 <| bX10_hasGoal_36 (Or.inl rfl) (by first | (simp only [if_neg q1, if_pos q2, if_neg q3, if_neg q6, if_neg q7]; done) | rfl))))) (fun q2 => bX10_hasGoal_18 ht (fun q9 => bX10_hasGoal_23 W ht (c_X10_hasThing W ht) W (fun q10 => bX10_hasGoal_35 <| bX10_hasGoal_36 (Or.inl rfl) (by first | (simp only [if_neg q1, if_neg q2, if_pos q9, if_pos q10]; done) | rfl)) (fun q10 => bX10_hasGoal_31 <| bX10_hasGoal_36 (Or.inr rfl) (by first | (simp only [if_neg q1, if_neg q2, if_pos q9, if_neg q10]; done) | rfl))) (fun q9 => bX10_hasGoal_35 <| bX10_hasGoal_36 (Or.inl rfl) (by first | (simp only [if_neg q1, if_neg q2, if_neg q9]; done) | rfl))))
theorem z_X10_hasGoal {g : xSt} {t : Nat} {a1 : Int32} {a2 : Int32} : F_X10_hasGoal g t a1 a2 = 0 ∨ F_X10_hasGoal g t a1 a2 = 1 := by
  unfold F_X10_hasGoal
  (repeat' split) <;> first | exact Or.inl rfl | exact Or.inr rfl | assumption
def F_X8_allLow (g : xSt)  : Int64 := (1 <<< (Int32.toInt64 (imin (xI g 76 2) 60) &&& 63)) - 1
theorem c_X8_allLow {d : Nat} {g : xSt}  (W : xWf g) : xCallM d mX8_allLow [.ref 76] g = some (some (.long (F_X8_allLow g)), g) := by
  unfold F_X8_allLow
  exact bX8_allLow_0 W rfl
def F_X8_allHigh (g : xSt)  : Int64 := (1 <<< (Int32.toInt64 (imax ((xI g 76 2) - 60) 0) &&& 63)) - 1
theorem c_X8_allHigh {d : Nat} {g : xSt}  (W : xWf g) : xCallM d mX8_allHigh [.ref 76] g = some (some (.long (F_X8_allHigh g)), g) := by
  unfold F_X8_allHigh
  exact bX8_allHigh_0 W rfl
def F_X8_pairs (g : xSt)  : Int32 := ((xI g 76 3) * ((xI g 76 3) - 1)) / 2
theorem c_X8_pairs {d : Nat} {g : xSt}  (W : xWf g) : xCallM d mX8_pairs [.ref 76] g = some (some (.int (F_X8_pairs g)), g) := by
  unfold F_X8_pairs
  exact bX8_pairs_0 W rfl
def F_X8_isAlike (g : xSt) (a1 : Int64) (a3 : Int64) : Int32 := if (lg_cmp a1 0) = 0 then if (lg_cmp a3 0) = 0 then 1 else if (lg_cmp (a1 &&& ((xatL (xL g 80) 240 (2 * (xat (xI g 79) 120 (60 + (xlow a3))))) ^^^ (-1))) 0) = 0 then if (lg_cmp (a3 &&& ((xatL (xL g 80) 240 ((2 * (xat (xI g 79) 120 (60 + (xlow a3)))) + 1)) ^^^ (-1))) 0) = 0 then 1 else 0 else 0 else if (lg_cmp (a1 &&& ((xatL (xL g 80) 240 (2 * (xat (xI g 79) 120 (xlow a1)))) ^^^ (-1))) 0) = 0 then if (lg_cmp (a3 &&& ((xatL (xL g 80) 240 ((2 * (xat (xI g 79) 120 (xlow a1))) + 1)) ^^^ (-1))) 0) = 0 then 1 else 0 else 0
theorem c_X8_isAlike {d : Nat} {g : xSt} {a1 : Int64} {a3 : Int64} (W : xWf g) : xCallM (d + 2) mX8_isAlike [.ref 76, .long a1, .long a3] g = some (some (.int (F_X8_isAlike g a1 a3)), g) := by
  unfold F_X8_isAlike
  exact bX8_isAlike_0 (fun q1 => bX8_isAlike_6 (fun q2 => bX8_isAlike_12 (by first | (simp only [if_pos q1, if_pos q2]; done) | rfl)) (fun q2 => bX8_isAlike_14 (fun _ => bX8_isAlike_27 <| bX8_isAlike_34 W (fun q4 => bX8_isAlike_69 W (fun q5 => bX8_isAlike_93 <| bX8_isAlike_98 (Or.inr rfl) (by first | (simp only [if_pos q1, if_neg q2, if_pos q4, if_pos q5]; done) | rfl)) (fun q5 => bX8_isAlike_97 <| bX8_isAlike_98 (Or.inl rfl) (by first | (simp only [if_pos q1, if_neg q2, if_pos q4, if_neg q5]; done) | rfl))) (fun q4 => bX8_isAlike_97 <| bX8_isAlike_98 (Or.inl rfl) (by first | (simp only [if_pos q1, if_neg q2, if_neg q4]; done) | rfl))) (fun q => absurd q1 q))) (fun q1 => bX8_isAlike_14 (fun q => absurd q q1) (fun _ => bX8_isAlike_20 <| bX8_isAlike_34 W (fun q7 => bX8_isAlike_69 W (fun q8 => bX8_isAlike_93 <| bX8_isAlike_98 (Or.inr rfl) (by first | (simp only [if_neg q1, if_pos q7, if_pos q8]; done) | rfl)) (fun q8 => bX8_isAlike_97 <| bX8_isAlike_98 (Or.inl rfl) (by first | (simp only [if_neg q1, if_pos q7, if_neg q8]; done) | rfl))) (fun q7 => bX8_isAlike_97 <| bX8_isAlike_98 (Or.inl rfl) (by first | (simp only [if_neg q1, if_neg q7]; done) | rfl))))
theorem z_X8_isAlike {g : xSt} {a1 : Int64} {a3 : Int64} : F_X8_isAlike g a1 a3 = 0 ∨ F_X8_isAlike g a1 a3 = 1 := by
  unfold F_X8_isAlike
  (repeat' split) <;> first | exact Or.inl rfl | exact Or.inr rfl | assumption
def F_X8_codeOf (g : xSt) (a1 : Int32) : Int32 := xat (xI g 82) 10 a1
theorem c_X8_codeOf {d : Nat} {g : xSt} {a1 : Int32} (W : xWf g) : xCallM (d + 1) mX8_codeOf [.ref 76, .int a1] g = some (some (.int (F_X8_codeOf g a1)), g) := by
  unfold F_X8_codeOf
  exact bX8_codeOf_0 W rfl
def F_X8_isFirstLike (g : xSt) (a1 : Int32) (a2 : Int32) : Int32 := if (xbit a2 ((F_X8_codeOf g a1) / 10)) = 0 then if (xbit a2 ((F_X8_codeOf g a1) - (F_X8_codeOf g a1) / 10 * 10)) = 0 then 1 else if (xlow (Int32.toInt64 (a2 &&& ((1 <<< (((F_X8_codeOf g a1) / 10) &&& 31)) ^^^ (-1))))) = ((F_X8_codeOf g a1) - (F_X8_codeOf g a1) / 10 * 10) then 1 else 0 else if (xlow (Int32.toInt64 a2)) = ((F_X8_codeOf g a1) / 10) then if (xbit a2 ((F_X8_codeOf g a1) - (F_X8_codeOf g a1) / 10 * 10)) = 0 then 1 else if (xlow (Int32.toInt64 (a2 &&& ((1 <<< (((F_X8_codeOf g a1) / 10) &&& 31)) ^^^ (-1))))) = ((F_X8_codeOf g a1) - (F_X8_codeOf g a1) / 10 * 10) then 1 else 0 else 0
theorem c_X8_isFirstLike {d : Nat} {g : xSt} {a1 : Int32} {a2 : Int32} (W : xWf g) : xCallM (d + 2) mX8_isFirstLike [.ref 76, .int a1, .int a2] g = some (some (.int (F_X8_isFirstLike g a1 a2)), g) := by
  unfold F_X8_isFirstLike
  exact bX8_isFirstLike_0 W (c_X8_codeOf W) W (c_X8_codeOf W) W (fun q1 => bX8_isFirstLike_36 <| bX8_isFirstLike_41 (fun q => absurd q (by decide)) (fun _ => bX8_isFirstLike_48 (fun q3 => bX8_isFirstLike_73 <| bX8_isFirstLike_78 (Or.inr rfl) (by first | (simp only [if_pos q1, if_pos q3]; done) | rfl)) (fun q3 => bX8_isFirstLike_57 (fun q4 => bX8_isFirstLike_73 <| bX8_isFirstLike_78 (Or.inr rfl) (by first | (simp only [if_pos q1, if_neg q3, if_pos q4]; done) | rfl)) (fun q4 => bX8_isFirstLike_77 <| bX8_isFirstLike_78 (Or.inl rfl) (by first | (simp only [if_pos q1, if_neg q3, if_neg q4]; done) | rfl))))) (fun q1 => bX8_isFirstLike_27 (fun q5 => bX8_isFirstLike_36 <| bX8_isFirstLike_41 (fun q => absurd q (by decide)) (fun _ => bX8_isFirstLike_48 (fun q7 => bX8_isFirstLike_73 <| bX8_isFirstLike_78 (Or.inr rfl) (by first | (simp only [if_neg q1, if_pos q5, if_pos q7]; done) | rfl)) (fun q7 => bX8_isFirstLike_57 (fun q8 => bX8_isFirstLike_73 <| bX8_isFirstLike_78 (Or.inr rfl) (by first | (simp only [if_neg q1, if_pos q5, if_neg q7, if_pos q8]; done) | rfl)) (fun q8 => bX8_isFirstLike_77 <| bX8_isFirstLike_78 (Or.inl rfl) (by first | (simp only [if_neg q1, if_pos q5, if_neg q7, if_neg q8]; done) | rfl))))) (fun q5 => bX8_isFirstLike_40 <| bX8_isFirstLike_41 (fun _ => bX8_isFirstLike_77 <| bX8_isFirstLike_78 (Or.inl rfl) (by first | (simp only [if_neg q1, if_neg q5]; done) | rfl)) (fun q => absurd (by decide) q)))
theorem z_X8_isFirstLike {g : xSt} {a1 : Int32} {a2 : Int32} : F_X8_isFirstLike g a1 a2 = 0 ∨ F_X8_isFirstLike g a1 a2 = 1 := by
  unfold F_X8_isFirstLike
  (repeat' split) <;> first | exact Or.inl rfl | exact Or.inr rfl | assumption
def F_X5_saidBy (g : xSt) (a1 : Int32) (a2 : Int32) (a3 : Int32) : Int32 := if 0 ≤ ((F_X5_placeOf g a1 a2) - (F_X5_placeOf g a1 a3)) then if ((F_X5_placeOf g a1 a2) - (F_X5_placeOf g a1 a3)) ≤ 0 then 0 else 2 else 1
theorem c_X5_saidBy {d : Nat} {g : xSt} {a1 : Int32} {a2 : Int32} {a3 : Int32} (W : xWf g) : xCallM (d + 2) mX5_saidBy [.ref 69, .int a1, .int a2, .int a3] g = some (some (.int (F_X5_saidBy g a1 a2 a3)), g) := by
  unfold F_X5_saidBy
  exact bX5_saidBy_0 W (c_X5_placeOf W) W (c_X5_placeOf W) W (fun q1 => bX5_saidBy_24 (fun q2 => bX5_saidBy_33 <| bX5_saidBy_34 (by first | (simp only [if_pos q1, if_pos q2]; done) | rfl)) (fun q2 => bX5_saidBy_29 <| bX5_saidBy_34 (by first | (simp only [if_pos q1, if_neg q2]; done) | rfl))) (fun q1 => bX5_saidBy_20 <| bX5_saidBy_34 (by first | (simp only [if_neg q1]; done) | rfl))
def F_X2_comeTo (g : xSt) (a1 : Int32) (a2 : Int32) : xSt := if (xat (xI g 95) 181 a1) = 0 then xadd (xput g 96 181 a1 a2) 95 181 a1 1 else if (xat (xI g 96) 181 a1) = a2 then xadd g 95 181 a1 1 else xadd (xput g 97 181 a1 1) 95 181 a1 1
theorem c_X2_comeTo {d : Nat} {g : xSt} {a1 : Int32} {a2 : Int32} (W : xWf g) : xCallM (d + 1) mX2_comeTo [.ref 94, .int a1, .int a2] g = some (none, F_X2_comeTo g a1 a2) := by
  unfold F_X2_comeTo
  exact bX2_comeTo_0 W (fun q1 => bX2_comeTo_11 W <| bX2_comeTo_44 (xWf_put W) (by first | (simp only [if_pos q1]; done) | rfl)) (fun q1 => bX2_comeTo_23 W (fun q2 => bX2_comeTo_44 W (by first | (simp only [if_neg q1, if_pos q2]; done) | rfl)) (fun q2 => bX2_comeTo_35 W <| bX2_comeTo_44 (xWf_put W) (by first | (simp only [if_neg q1, if_neg q2]; done) | rfl)))
def F_X11_clerk (g : xSt) (a1 : Int32) : Int32 := if (F_X10_hasThing g (tw g) a1) = 0 then (-1) else xat (xI g ((tw g) + 3)) 5 a1
theorem c_X11_clerk {d : Nat} {g : xSt} {a1 : Int32} (W : xWf g) : xCallM (d + 1) mX11_clerk [.ref 0, .int a1] g = some (some (.int (F_X11_clerk g a1)), g) := by
  unfold F_X11_clerk
  exact bX11_clerk_0 W (c_X10_hasThing W (xtw W)) W (fun q1 => bX11_clerk_25 <| bX11_clerk_26 (by first | (simp only [if_pos q1]; done) | rfl)) (fun q1 => bX11_clerk_11 W <| bX11_clerk_26 (by first | (simp only [if_neg q1]; done) | rfl))
def F_X1_isRuleAt (g : xSt) (a1 : Int32) (a2 : Int32) (a3 : Int32) (a4 : Int32) : Int32 := if (xat (xI g 99) 60 a1) = a2 then if (xat (xI g 100) 60 a1) = a3 then if (xat (xI g 101) 60 a1) = a4 then 1 else 0 else 0 else 0
theorem c_X1_isRuleAt {d : Nat} {g : xSt} {a1 : Int32} {a2 : Int32} {a3 : Int32} {a4 : Int32} (W : xWf g) : xCallM (d + 1) mX1_isRuleAt [.ref 98, .int a1, .int a2, .int a3, .int a4] g = some (some (.int (F_X1_isRuleAt g a1 a2 a3 a4)), g) := by
  unfold F_X1_isRuleAt
  exact bX1_isRuleAt_0 W (fun q1 => bX1_isRuleAt_12 W (fun q2 => bX1_isRuleAt_24 W (fun q3 => bX1_isRuleAt_37 <| bX1_isRuleAt_42 (Or.inr rfl) (by first | (simp only [if_pos q1, if_pos q2, if_pos q3]; done) | rfl)) (fun q3 => bX1_isRuleAt_41 <| bX1_isRuleAt_42 (Or.inl rfl) (by first | (simp only [if_pos q1, if_pos q2, if_neg q3]; done) | rfl))) (fun q2 => bX1_isRuleAt_41 <| bX1_isRuleAt_42 (Or.inl rfl) (by first | (simp only [if_pos q1, if_neg q2]; done) | rfl))) (fun q1 => bX1_isRuleAt_41 <| bX1_isRuleAt_42 (Or.inl rfl) (by first | (simp only [if_neg q1]; done) | rfl))
theorem z_X1_isRuleAt {g : xSt} {a1 : Int32} {a2 : Int32} {a3 : Int32} {a4 : Int32} : F_X1_isRuleAt g a1 a2 a3 a4 = 0 ∨ F_X1_isRuleAt g a1 a2 a3 a4 = 1 := by
  unfold F_X1_isRuleAt
  (repeat' split) <;> first | exact Or.inl rfl | exact Or.inr rfl | assumption
def F_X1_upTo (g : xSt) (a0 : Int32) : Int32 := if 0 < a0 then if a0 < 6 then (1 <<< (a0 &&& 31)) - 1 else 63 else 0
theorem c_X1_upTo {d : Nat} {g : xSt} {a0 : Int32} (W : xWf g) : xCallM d mX1_upTo [.int a0] g = some (some (.int (F_X1_upTo g a0)), g) := by
  unfold F_X1_upTo
  exact bX1_upTo_0 (fun q1 => bX1_upTo_8 (fun q2 => bX1_upTo_19 <| bX1_upTo_24 (by first | (simp only [if_pos q1, if_pos q2]; done) | rfl)) (fun q2 => bX1_upTo_14 <| bX1_upTo_24 (by first | (simp only [if_pos q1, if_neg q2]; done) | rfl))) (fun q1 => bX1_upTo_4 <| bX1_upTo_24 (by first | (simp only [if_neg q1]; done) | rfl))
def F_X1_firstOf (g : xSt) (a1 : Int32) : Int32 := xat (xI g 104) 5 a1
theorem c_X1_firstOf {d : Nat} {g : xSt} {a1 : Int32} (W : xWf g) : xCallM (d + 1) mX1_firstOf [.ref 98, .int a1] g = some (some (.int (F_X1_firstOf g a1)), g) := by
  unfold F_X1_firstOf
  exact bX1_firstOf_0 W rfl
def F_X1_ask (g : xSt) (a1 : Int32) (a2 : Int32) : xSt := xWI (xput (xput g 107 90 (xI g 98 13) a1) 108 90 (xI (xput g 107 90 (xI g 98 13) a1) 98 13) a2) 98 13 ((xI (xput (xput g 107 90 (xI g 98 13) a1) 108 90 (xI (xput g 107 90 (xI g 98 13) a1) 98 13) a2) 98 13) + 1)
theorem c_X1_ask {d : Nat} {g : xSt} {a1 : Int32} {a2 : Int32} (W : xWf g) : xCallM (d + 1) mX1_ask [.ref 98, .int a1, .int a2] g = some (none, F_X1_ask g a1 a2) := by
  unfold F_X1_ask
  exact bX1_ask_0 W rfl
def F_X11_lies (g : xSt) (a1 : Int32) : Int32 := if a1 < 0 then (-1) else if (xI g 111 1) ≤ a1 then (-1) else xat (xI g 112) 24 a1
theorem c_X11_lies {d : Nat} {g : xSt} {a1 : Int32} (W : xWf g) : xCallM (d + 1) mX11_lies [.ref 0, .int a1] g = some (some (.int (F_X11_lies g a1)), g) := by
  unfold F_X11_lies
  exact bX11_lies_0 (fun q1 => bX11_lies_29 <| bX11_lies_30 (by first | (simp only [if_pos q1]; done) | rfl)) (fun q1 => bX11_lies_4 W (fun q2 => bX11_lies_29 <| bX11_lies_30 (by first | (simp only [if_neg q1, if_pos q2]; done) | rfl)) (fun q2 => bX11_lies_15 W <| bX11_lies_30 (by first | (simp only [if_neg q1, if_neg q2]; done) | rfl)))
def F_X12_isLetter (g : xSt) (a0 : Int32) : Int32 := if a0 < 97 then 0 else if 122 < a0 then 0 else 1
theorem c_X12_isLetter {d : Nat} {g : xSt} {a0 : Int32} (W : xWf g) : xCallM d mX12_isLetter [.int a0] g = some (some (.int (F_X12_isLetter g a0)), g) := by
  unfold F_X12_isLetter
  exact bX12_isLetter_0 (fun q1 => bX12_isLetter_16 <| bX12_isLetter_17 (Or.inl rfl) (by first | (simp only [if_pos q1]; done) | rfl)) (fun q1 => bX12_isLetter_6 (fun q2 => bX12_isLetter_16 <| bX12_isLetter_17 (Or.inl rfl) (by first | (simp only [if_neg q1, if_pos q2]; done) | rfl)) (fun q2 => bX12_isLetter_12 <| bX12_isLetter_17 (Or.inr rfl) (by first | (simp only [if_neg q1, if_neg q2]; done) | rfl)))
theorem z_X12_isLetter {g : xSt} {a0 : Int32} : F_X12_isLetter g a0 = 0 ∨ F_X12_isLetter g a0 = 1 := by
  unfold F_X12_isLetter
  (repeat' split) <;> first | exact Or.inl rfl | exact Or.inr rfl | assumption
def F_X12_isKept (g : xSt) (a0 : Int64) : Int32 := if (lg_cmp a0 499967946343) = 0 then 1 else if (lg_cmp a0 131277443786867) = 0 then 1 else if (lg_cmp a0 500219604595) = 0 then 1 else if (lg_cmp a0 126943821523827) = 0 then 1 else if (lg_cmp a0 7499639) = 0 then 1 else if (lg_cmp a0 1886151022) = 0 then 1 else if (lg_cmp a0 1685024357) = 0 then 1 else 0
theorem c_X12_isKept {d : Nat} {g : xSt} {a0 : Int64} (W : xWf g) : xCallM d mX12_isKept [.long a0] g = some (some (.int (F_X12_isKept g a0)), g) := by
  unfold F_X12_isKept
  exact bX12_isKept_0 (fun q1 => bX12_isKept_56 <| bX12_isKept_61 (Or.inr rfl) (by first | (simp only [if_pos q1]; done) | rfl)) (fun q1 => bX12_isKept_8 (fun q2 => bX12_isKept_56 <| bX12_isKept_61 (Or.inr rfl) (by first | (simp only [if_neg q1, if_pos q2]; done) | rfl)) (fun q2 => bX12_isKept_16 (fun q3 => bX12_isKept_56 <| bX12_isKept_61 (Or.inr rfl) (by first | (simp only [if_neg q1, if_neg q2, if_pos q3]; done) | rfl)) (fun q3 => bX12_isKept_24 (fun q4 => bX12_isKept_56 <| bX12_isKept_61 (Or.inr rfl) (by first | (simp only [if_neg q1, if_neg q2, if_neg q3, if_pos q4]; done) | rfl)) (fun q4 => bX12_isKept_32 (fun q5 => bX12_isKept_56 <| bX12_isKept_61 (Or.inr rfl) (by first | (simp only [if_neg q1, if_neg q2, if_neg q3, if_neg q4, if_pos q5]; done) | rfl)) (fun q5 => bX12_isKept_40 (fun q6 => bX12_isKept_56 <| bX12_isKept_61 (Or.inr rfl) (by first | (simp only [if_neg q1, if_neg q2, if_neg q3, if_neg q4, if_neg q5, if_pos q6]; done) | rfl)) (fun q6 => bX12_isKept_48 (fun q7 => bX12_isKept_56 <| bX12_isKept_61 (Or.inr rfl) (by first | (simp only [if_neg q1, if_neg q2, if_neg q3, if_neg q4, if_neg q5, if_neg q6, if_pos q7]; done) | rfl)) (fun q7 => bX12_isKept_60 <| bX12_isKept_61 (Or.inl rfl) (by first | (simp only [if_neg q1, if_neg q2, if_neg q3, if_neg q4, if_neg q5, if_neg q6, if_neg q7]; done) | rfl))))))))
theorem z_X12_isKept {g : xSt} {a0 : Int64} : F_X12_isKept g a0 = 0 ∨ F_X12_isKept g a0 = 1 := by
  unfold F_X12_isKept
  (repeat' split) <;> first | exact Or.inl rfl | exact Or.inr rfl | assumption
def F_X12_isDigit (g : xSt) (a0 : Int32) : Int32 := if a0 < 48 then 0 else if 57 < a0 then 0 else 1
theorem c_X12_isDigit {d : Nat} {g : xSt} {a0 : Int32} (W : xWf g) : xCallM d mX12_isDigit [.int a0] g = some (some (.int (F_X12_isDigit g a0)), g) := by
  unfold F_X12_isDigit
  exact bX12_isDigit_0 (fun q1 => bX12_isDigit_16 <| bX12_isDigit_17 (Or.inl rfl) (by first | (simp only [if_pos q1]; done) | rfl)) (fun q1 => bX12_isDigit_6 (fun q2 => bX12_isDigit_16 <| bX12_isDigit_17 (Or.inl rfl) (by first | (simp only [if_neg q1, if_pos q2]; done) | rfl)) (fun q2 => bX12_isDigit_12 <| bX12_isDigit_17 (Or.inr rfl) (by first | (simp only [if_neg q1, if_neg q2]; done) | rfl)))
theorem z_X12_isDigit {g : xSt} {a0 : Int32} : F_X12_isDigit g a0 = 0 ∨ F_X12_isDigit g a0 = 1 := by
  unfold F_X12_isDigit
  (repeat' split) <;> first | exact Or.inl rfl | exact Or.inr rfl | assumption
def F_X12_isGood (g : xSt)  : Int32 := if (xI g 113 4) = 0 then 1 else 0
theorem c_X12_isGood {d : Nat} {g : xSt}  (W : xWf g) : xCallM d mX12_isGood [.ref 113] g = some (some (.int (F_X12_isGood g)), g) := by
  unfold F_X12_isGood
  exact bX12_isGood_0 W (fun q1 => bX12_isGood_7 <| bX12_isGood_12 (Or.inr rfl) (by first | (simp only [if_pos q1]; done) | rfl)) (fun q1 => bX12_isGood_11 <| bX12_isGood_12 (Or.inl rfl) (by first | (simp only [if_neg q1]; done) | rfl))
theorem z_X12_isGood {g : xSt}  : F_X12_isGood g  = 0 ∨ F_X12_isGood g  = 1 := by
  unfold F_X12_isGood
  (repeat' split) <;> first | exact Or.inl rfl | exact Or.inr rfl | assumption
def F_X12_isWord (g : xSt) (a1 : Int64) : Int32 := if (xI g 113 8) = 3 then if (lg_cmp (xL g 113 10) a1) = 0 then 1 else 0 else 0
theorem c_X12_isWord {d : Nat} {g : xSt} {a1 : Int64} (W : xWf g) : xCallM d mX12_isWord [.ref 113, .long a1] g = some (some (.int (F_X12_isWord g a1)), g) := by
  unfold F_X12_isWord
  exact bX12_isWord_0 W (fun q1 => bX12_isWord_8 W (fun q2 => bX12_isWord_17 <| bX12_isWord_22 (Or.inr rfl) (by first | (simp only [if_pos q1, if_pos q2]; done) | rfl)) (fun q2 => bX12_isWord_21 <| bX12_isWord_22 (Or.inl rfl) (by first | (simp only [if_pos q1, if_neg q2]; done) | rfl))) (fun q1 => bX12_isWord_21 <| bX12_isWord_22 (Or.inl rfl) (by first | (simp only [if_neg q1]; done) | rfl))
theorem z_X12_isWord {g : xSt} {a1 : Int64} : F_X12_isWord g a1 = 0 ∨ F_X12_isWord g a1 = 1 := by
  unfold F_X12_isWord
  (repeat' split) <;> first | exact Or.inl rfl | exact Or.inr rfl | assumption
def F_X12_fails (g : xSt) (a1 : Int32) (a2 : Int32) : xSt := if (xI g 113 4) ≤ 0 then xWI (xWI g 113 4 a1) 113 5 a2 else g
theorem c_X12_fails {d : Nat} {g : xSt} {a1 : Int32} {a2 : Int32} (W : xWf g) : xCallM d mX12_fails [.ref 113, .int a1, .int a2] g = some (none, F_X12_fails g a1 a2) := by
  unfold F_X12_fails
  exact bX12_fails_0 W (fun q1 => bX12_fails_8 W (by first | (simp only [if_pos q1]; done) | rfl)) (fun q1 => bX12_fails_7 (by first | (simp only [if_neg q1]; done) | rfl))
def F_X12_fault (g : xSt) (a1 : Int32) : Int32 := if a1 = 0 then xI g 113 4 else if a1 = 1 then xI g 113 5 else (-1)
theorem c_X12_fault {d : Nat} {g : xSt} {a1 : Int32} (W : xWf g) : xCallM d mX12_fault [.ref 113, .int a1] g = some (some (.int (F_X12_fault g a1)), g) := by
  unfold F_X12_fault
  exact bX12_fault_0 (fun q1 => bX12_fault_4 W <| bX12_fault_24 (by first | (simp only [if_pos q1]; done) | rfl)) (fun q1 => bX12_fault_11 (fun q2 => bX12_fault_16 W <| bX12_fault_24 (by first | (simp only [if_neg q1, if_pos q2]; done) | rfl)) (fun q2 => bX12_fault_23 <| bX12_fault_24 (by first | (simp only [if_neg q1, if_neg q2]; done) | rfl)))
def F_X12_isIn (g : xSt) (a0 : Int32) (a1 : Int32) (a2 : Int32) : Int32 := if a0 < a1 then 0 else if a2 < a0 then 0 else 1
theorem c_X12_isIn {d : Nat} {g : xSt} {a0 : Int32} {a1 : Int32} {a2 : Int32} (W : xWf g) : xCallM d mX12_isIn [.int a0, .int a1, .int a2] g = some (some (.int (F_X12_isIn g a0 a1 a2)), g) := by
  unfold F_X12_isIn
  exact bX12_isIn_0 (fun q1 => bX12_isIn_14 <| bX12_isIn_15 (Or.inl rfl) (by first | (simp only [if_pos q1]; done) | rfl)) (fun q1 => bX12_isIn_5 (fun q2 => bX12_isIn_14 <| bX12_isIn_15 (Or.inl rfl) (by first | (simp only [if_neg q1, if_pos q2]; done) | rfl)) (fun q2 => bX12_isIn_10 <| bX12_isIn_15 (Or.inr rfl) (by first | (simp only [if_neg q1, if_neg q2]; done) | rfl)))
theorem z_X12_isIn {g : xSt} {a0 : Int32} {a1 : Int32} {a2 : Int32} : F_X12_isIn g a0 a1 a2 = 0 ∨ F_X12_isIn g a0 a1 a2 = 1 := by
  unfold F_X12_isIn
  (repeat' split) <;> first | exact Or.inl rfl | exact Or.inr rfl | assumption
def F_X12_later (g : xSt) (a1 : Int32) : Int32 × xSt := if (F_X12_isIn g a1 0 1000) = 0 then ((-1), g) else if ((xI g 113 45) + a1) ≤ 100000 then ((xI g 113 45) + a1, xWI g 113 45 ((xI g 113 45) + a1)) else ((-1), g)
theorem c_X12_later {d : Nat} {g : xSt} {a1 : Int32} (W : xWf g) : xCallM (d + 1) mX12_later [.ref 113, .int a1] g = some (some (.int (F_X12_later g a1).1), (F_X12_later g a1).2) := by
  unfold F_X12_later
  exact bX12_later_0 (c_X12_isIn W) W (fun q1 => bX12_later_23 (by first | (simp only [if_pos q1]; done) | rfl)) (fun q1 => bX12_later_11 W (fun q2 => bX12_later_25 W (by first | (simp only [if_neg q1, if_pos q2]; done) | rfl)) (fun q2 => bX12_later_23 (by first | (simp only [if_neg q1, if_neg q2]; done) | rfl)))
def F_X12_has (g : xSt) (a0 : Int64) (a2 : Int64) (a4 : Int32) : Int32 := if 60 ≤ a4 then if (lg_cmp ((a2 >>> (Int32.toInt64 (a4 - 60) &&& 63)) &&& 1) 1) = 0 then 1 else 0 else if (lg_cmp ((a0 >>> (Int32.toInt64 a4 &&& 63)) &&& 1) 1) = 0 then 1 else 0
theorem c_X12_has {d : Nat} {g : xSt} {a0 : Int64} {a2 : Int64} {a4 : Int32} (W : xWf g) : xCallM d mX12_has [.long a0, .long a2, .int a4] g = some (some (.int (F_X12_has g a0 a2 a4)), g) := by
  unfold F_X12_has
  exact bX12_has_0 (fun q1 => bX12_has_26 (fun q2 => bX12_has_40 <| bX12_has_45 (Or.inr rfl) (by first | (simp only [if_pos q1, if_pos q2]; done) | rfl)) (fun q2 => bX12_has_44 <| bX12_has_45 (Or.inl rfl) (by first | (simp only [if_pos q1, if_neg q2]; done) | rfl))) (fun q1 => bX12_has_7 (fun q3 => bX12_has_18 <| bX12_has_45 (Or.inr rfl) (by first | (simp only [if_neg q1, if_pos q3]; done) | rfl)) (fun q3 => bX12_has_22 <| bX12_has_45 (Or.inl rfl) (by first | (simp only [if_neg q1, if_neg q3]; done) | rfl)))
theorem z_X12_has {g : xSt} {a0 : Int64} {a2 : Int64} {a4 : Int32} : F_X12_has g a0 a2 a4 = 0 ∨ F_X12_has g a0 a2 a4 = 1 := by
  unfold F_X12_has
  (repeat' split) <;> first | exact Or.inl rfl | exact Or.inr rfl | assumption
def F_X12_end (g : xSt) (a1 : Int32) : Int32 × xSt := if a1 < 0 then ((-1), g) else if a1 ≤ (xI g 113 2) then (a1, xWI g 113 2 a1) else ((-1), g)
theorem c_X12_end {d : Nat} {g : xSt} {a1 : Int32} (W : xWf g) : xCallM d mX12_end [.ref 113, .int a1] g = some (some (.int (F_X12_end g a1).1), (F_X12_end g a1).2) := by
  unfold F_X12_end
  exact bX12_end_0 (fun q1 => bX12_end_12 (by first | (simp only [if_pos q1]; done) | rfl)) (fun q1 => bX12_end_4 W (fun q2 => bX12_end_14 W (by first | (simp only [if_neg q1, if_pos q2]; done) | rfl)) (fun q2 => bX12_end_12 (by first | (simp only [if_neg q1, if_neg q2]; done) | rfl)))
def F_X5_bitOf (g : xSt) (a0 : Int32) (a1 : Int32) (a2 : Int32) (a3 : Int32) : Int32 := if a3 = 0 then (10 * a3) + (F_X5_pairOf g a0 a1 a2) else if a2 ≤ a1 then (10 * (3 - a3)) + (F_X5_pairOf g a0 a1 a2) else (10 * a3) + (F_X5_pairOf g a0 a1 a2)
theorem c_X5_bitOf {d : Nat} {g : xSt} {a0 : Int32} {a1 : Int32} {a2 : Int32} {a3 : Int32} (W : xWf g) : xCallM (d + 1) mX5_bitOf [.int a0, .int a1, .int a2, .int a3] g = some (some (.int (F_X5_bitOf g a0 a1 a2 a3)), g) := by
  unfold F_X5_bitOf
  exact bX5_bitOf_0 (fun q1 => bX5_bitOf_9 <| bX5_bitOf_16 (c_X5_pairOf W) W (by first | (simp only [if_pos q1]; done) | rfl)) (fun q1 => bX5_bitOf_4 (fun q2 => bX5_bitOf_13 <| bX5_bitOf_16 (c_X5_pairOf W) W (by first | (simp only [if_neg q1, if_pos q2]; done) | rfl)) (fun q2 => bX5_bitOf_9 <| bX5_bitOf_16 (c_X5_pairOf W) W (by first | (simp only [if_neg q1, if_neg q2]; done) | rfl)))
def F_X10_hasHeaps (g : xSt) (t : Nat) (a1 : Int32) (a2 : Int32) : Int32 := if (F_X10_isHeap g t a1) = 0 then 0 else if (F_X10_isHeap g t a2) = 0 then 0 else if (a1 &&& a2) = 0 then 1 else 0
theorem c_X10_hasHeaps {d : Nat} {g : xSt} {t : Nat} {a1 : Int32} {a2 : Int32} (W : xWf g) (ht : xTw t) : xCallM (d + 1) mX10_hasHeaps [.ref t, .int a1, .int a2] g = some (some (.int (F_X10_hasHeaps g t a1 a2)), g) := by
  unfold F_X10_hasHeaps
  exact bX10_hasHeaps_0 W ht (c_X10_isHeap W ht) W (fun q1 => bX10_hasHeaps_26 <| bX10_hasHeaps_27 (Or.inl rfl) (by first | (simp only [if_pos q1]; done) | rfl)) (fun q1 => bX10_hasHeaps_8 W ht (c_X10_isHeap W ht) W (fun q2 => bX10_hasHeaps_26 <| bX10_hasHeaps_27 (Or.inl rfl) (by first | (simp only [if_neg q1, if_pos q2]; done) | rfl)) (fun q2 => bX10_hasHeaps_16 (fun q3 => bX10_hasHeaps_22 <| bX10_hasHeaps_27 (Or.inr rfl) (by first | (simp only [if_neg q1, if_neg q2, if_pos q3]; done) | rfl)) (fun q3 => bX10_hasHeaps_26 <| bX10_hasHeaps_27 (Or.inl rfl) (by first | (simp only [if_neg q1, if_neg q2, if_neg q3]; done) | rfl))))
theorem z_X10_hasHeaps {g : xSt} {t : Nat} {a1 : Int32} {a2 : Int32} : F_X10_hasHeaps g t a1 a2 = 0 ∨ F_X10_hasHeaps g t a1 a2 = 1 := by
  unfold F_X10_hasHeaps
  (repeat' split) <;> first | exact Or.inl rfl | exact Or.inr rfl | assumption
def F_X5_isSure (g : xSt) (a1 : Int32) (a2 : Int32) (a3 : Int32) : Int32 := if a1 = a2 then 0 else if (xbit (xI g 69 6) (F_X5_bitOf g (xI g 69 0) a1 a2 a3)) = 0 then 0 else 1
theorem c_X5_isSure {d : Nat} {g : xSt} {a1 : Int32} {a2 : Int32} {a3 : Int32} (W : xWf g) : xCallM (d + 2) mX5_isSure [.ref 69, .int a1, .int a2, .int a3] g = some (some (.int (F_X5_isSure g a1 a2 a3)), g) := by
  unfold F_X5_isSure
  exact bX5_isSure_0 (fun q1 => bX5_isSure_29 <| bX5_isSure_30 (Or.inl rfl) (by first | (simp only [if_pos q1]; done) | rfl)) (fun q1 => bX5_isSure_5 W (c_X5_bitOf W) W (fun q2 => bX5_isSure_29 <| bX5_isSure_30 (Or.inl rfl) (by first | (simp only [if_neg q1, if_pos q2]; done) | rfl)) (fun q2 => bX5_isSure_25 <| bX5_isSure_30 (Or.inr rfl) (by first | (simp only [if_neg q1, if_neg q2]; done) | rfl)))
theorem z_X5_isSure {g : xSt} {a1 : Int32} {a2 : Int32} {a3 : Int32} : F_X5_isSure g a1 a2 a3 = 0 ∨ F_X5_isSure g a1 a2 a3 = 1 := by
  unfold F_X5_isSure
  (repeat' split) <;> first | exact Or.inl rfl | exact Or.inr rfl | assumption
