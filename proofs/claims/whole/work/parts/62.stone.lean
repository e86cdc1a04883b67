/-! STONES: the search by bits, the class's row -/
def ySl : List Nat → Nat
  | [] => 0
  | a :: l => a + ySl l
/-- what stones reach, as bits around the middle -/
def yMd (both : Bool) : List Nat → Nat → Nat
  | [], m => m
  | s :: l, m => yMd both l (if both then (m ||| m <<< s) ||| (m ||| m <<< s) >>> s else m ||| m <<< s)
def yRc (w : Nat) (both : Bool) (l : List Nat) : Bool := decide (w ≤ ySl l) && (yMd both l (2 ^ ySl l) >>> (ySl l + 1)) % 2 ^ w == 2 ^ w - 1
def yMs (w : Nat) (both : Bool) (l : List Nat) : Nat := if both || decide (2 * w < 1 + ySl l) then 2 * w else 1 + ySl l
/-- a turn of the search: the stones laid, the last one first -/
def ySp (n w : Nat) (both : Bool) : List Nat → List Nat ⊕ Option (List Nat)
  | [] => .inr none
  | s :: l => if yMs w both l < s + 1 then .inl l else if l.length + 1 < n then .inl (s :: (s + 1) :: l) else if yRc w both ((s + 1) :: l).reverse then .inr (some ((s + 1) :: l).reverse) else .inl ((s + 1) :: l)
def yRn (n w : Nat) (both : Bool) : Nat → List Nat → Option (Option (List Nat))
  | 0, _ => none
  | k + 1, l => match ySp n w both l with
    | .inl l' => yRn n w both k l'
    | .inr r => some r
/-- the class's next stone -/
def yIn2 (w wanted reached step times : Nat) : Nat → Nat → Nat
  | 0, s => s
  | k + 1, s => if s < 2 * w ∧ (reached + step * s) * times < wanted then yIn2 w wanted reached step times k (s + 1) else s
def yCs (w base step wanted : Nat) : Nat → Nat → Nat → List Nat
  | 0, _, _ => []
  | r + 1, reached, s => yIn2 w wanted reached step (base ^ r) 80 s :: yCs w base step wanted r (reached + step * yIn2 w wanted reached step (base ^ r) 80 s) (yIn2 w wanted reached step (base ^ r) 80 s)
def yDp (base x : Nat) : Nat → Nat → Nat
  | 0, d => d
  | k + 1, d => if x ≤ base ^ d then d else yDp base x k (d + 1)
/-- the class's stones -/
def yCl (w : Nat) (both : Bool) : List Nat := yCs w (if both then 3 else 2) (if both then 2 else 1) (if both then 2 * w + 1 else w + 1) (yDp (if both then 3 else 2) (if both then 2 * w + 1 else w + 1) 10 0) 1 1
/-- how many the reference begins with -/
def yN0 (w : Nat) (both : Bool) : Nat → Nat → Nat → Nat
  | 0, n, _ => n
  | k + 1, n, r => if r < w then yN0 w both k (n + 1) (if both then 3 * r + 1 else 2 * r + 1) else n
def yStOk (both : Bool) (a b : Nat) : Bool := (List.range' a b).all fun w => decide (yRn (yN0 w both 10 0 0) w both 8000 [0] = some (some (yCl w both))) && decide ((yCl w both).length = yN0 w both 10 0 0) && decide (yN0 w both 10 0 0 ≤ 6) && decide (1 ≤ yN0 w both 10 0 0) && (yCl w both).all (fun s => decide (s ≤ 80))
set_option maxRecDepth 100000 in
theorem yStA : yStOk false 1 40 = true := by decide +kernel
set_option maxRecDepth 100000 in
theorem yStB : yStOk true 1 28 = true := by decide +kernel
