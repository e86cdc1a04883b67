/-! THE SEARCH: groups of things, least sums: small tables -/
section GT
def zNb (L t : Nat) : Nat := L / 16 ^ t % 16
/-- the labels like the second's become the first's -/
def zMw (L a b : Nat) : Nat := match L with
  | 0 => 0
  | m + 1 => ySum (fun t => (if zNb (m + 1) t = zNb (m + 1) b then zNb (m + 1) a else zNb (m + 1) t) * 16 ^ t) 5
def zAB (n p : Nat) : Nat × Nat := ((List.range n).flatMap fun a => (List.range n).filterMap fun b => if a < b ∧ yPr n a b = p then some (a, b) else none).getD 0 (0, 0)
def zReach (n : Nat) : List Nat := match n with
  | 2 => [274960, 274944]
  | 3 => [274960, 274944, 274448, 274432, 274704, 274705]
  | 4 => [274960, 274944, 274448, 274432, 262672, 262656, 262160, 262144, 274704, 274705, 262416, 266513, 266768, 266256, 266769, 266512, 270864, 270848, 270866, 270882, 270880]
  | 5 => [274960, 274944, 274448, 274432, 262672, 262656, 262160, 262144, 12816, 12800, 12304, 12288, 528, 512, 16, 0, 274704, 274705, 262416, 266513, 12560, 78097, 272, 69905, 266768, 266256, 266769, 4624, 4112, 70161, 266512, 4368, 78352, 77840, 66064, 65552, 78353, 78096, 65808, 70160, 69648, 69904, 270864, 270848, 270866, 270882, 8720, 8704, 139794, 139810, 270880, 8736, 74256, 74258, 74257, 139808, 143888, 143872, 131600, 131584, 143890, 143906, 135696, 135697, 135698, 143904, 131616, 139792, 139776, 209424, 209408, 208912, 208896, 209427, 209459, 209683, 209715, 209168, 209169, 209171, 209456, 208944, 209712, 209680, 209664]
  | _ => [274960]
def zBig (n : Nat) : Nat := match n with
  | 0 => 0
  | 1 => 1
  | 2 => 18
  | 3 => 286396963
  | 4 => 7719472642781026368332473865433456063157712899321628995191368907025912374068
  | _ => 69625925427543500502733282088500582668897408364909132401242745192356804607322453319142482594126921166231852398792537965714847889111174371277882248598545405278282312799499096753974927243280624302516107337986414171087989423115465792414454099605422989287951407144768033491516112866291100430820781808278609061224380245023422151742188617586445126121407039913104705501080994595115688329157767801990424108230380093375975984255732967591440747221235948707013581465651633834312308338259894879143160378109528574026933270890302008140824281350809062558549915037914078774979934290310388507786952652544303528836303445806404613941301469392597116024107112027578834984288149501302713331429313370415772551855903986729198671619121711659081773103443039100604723164733917396007552521101561702506805924964171077890690487272861914249357754353230440067689244072966285220530399340802280561064476660678539851617348371512903623455104186862125337078239623609896410626458379719417666407947818942141757521712808943093283539182265128919445266769819892643940183029906770608161924556707410681044630793646790239496662229161697828307724936131676562016152661947909141778205888055685225572065367304958498112957767238653659677381762871543932794972227405844653534298256453
def zLt3 : Nat := 9289731458641031685645450487984360813082314722151826330028388577055160013562013002988322909862717136918532320016608108258589561033458768658363730217876439967162951076625770027035171459146155900408676226437570370567409244582896508789602356275908002613251795977991321607708031272512822346639994538547173856013817667016523266350735982880637262188653586248773299863552
def zLt2 : Nat := 14339643815260545803989911286485466561061620011747514514210199218857000937392589572500770864896862775473902283601894884849167540587085957425390176813769650723288473003350492051431665824218552086802018432200615334675194255298588111293754920857216859105842371285126865116540804538220267797242392888520474127093555598650624832973308152328075603612295278878544197844992
/-- how many unlike labels -/
def zCt (n L : Nat) : Nat := yCn (fun t => (List.range t).all fun u => !(zNb L u == zNb L t)) n
theorem zAB_on : ∀ n, n < 6 → ∀ a, a < n → ∀ b, b < n → a < b → zAB n (yPr n a b) = (a, b) := by decide +kernel
theorem zAB_lt : ∀ n, n < 6 → ∀ p, p < n * (n - 1) / 2 → (zAB n p).1 < (zAB n p).2 ∧ (zAB n p).2 < n ∧ yPr n (zAB n p).1 (zAB n p).2 = p := by decide +kernel
/-- one merging of two groups, among all labels that can be -/
theorem zMw_1 : ∀ n, n < 6 → ∀ L, L ∈ zReach n → ∀ p, p < n * (n - 1) / 2 → zMw L (zAB n p).1 (zAB n p).2 ∈ zReach n ∧ (zNb L (zAB n p).1 = zNb L (zAB n p).2 → zMw L (zAB n p).1 (zAB n p).2 = L) ∧ (¬ zNb L (zAB n p).1 = zNb L (zAB n p).2 → zCt n (zMw L (zAB n p).1 (zAB n p).2) + 1 = zCt n L) := by decide +kernel
theorem zReach_0 : ∀ n, n < 6 → 274960 ∈ zReach n ∧ zCt n 274960 = n ∧ ∀ L, L ∈ zReach n → L < 2 ^ 20 ∧ zCt n L ≤ n := by decide +kernel
/-- the labels when the pairs in x have been joined -/
def zGl (n x : Nat) : Nat → Nat
  | 0 => 274960
  | p + 1 => if x.testBit p then zMw (zGl n x p) (zAB n p).1 (zAB n p).2 else zGl n x p
set_option maxRecDepth 100000 in
theorem zBig_0 : ∀ n, n < 6 → (List.range (2 ^ (n * (n - 1) / 2))).all (fun x => zCt n (zGl n x (n * (n - 1) / 2)) == zBig n / 16 ^ x % 16) = true := by decide +kernel
set_option maxRecDepth 100000 in
theorem zBig_1 : ∀ n, n < 6 → (List.range (2 ^ (n * (n - 1) / 2))).all (fun x => (List.range (n * (n - 1) / 2)).all fun p => decide (zBig n / 16 ^ x % 16 ≤ zBig n / 16 ^ (x ||| 2 ^ p) % 16 + 1)) = true := by decide +kernel
/-- things of two groups: a set of them that no pair leaves -/
def zCut (n x C : Nat) : Bool := decide (0 < C) && decide (C < 2 ^ n - 1) && (List.range (n * (n - 1) / 2)).all fun p => !(x.testBit p) || (C.testBit (zAB n p).1 == C.testBit (zAB n p).2)
set_option maxRecDepth 100000 in
theorem zBig_2 : ∀ n, n < 6 → (List.range (2 ^ (n * (n - 1) / 2))).all (fun x => decide (zBig n / 16 ^ x % 16 ≤ 1) || (List.range (2 ^ n)).any (zCut n x)) = true := by decide +kernel
/-! the labels as a word and as they were told before -/
theorem zNb_pk (d : Nat → Nat) (h : ∀ t, d t < 16) : ∀ t, t < 5 → zNb (ySum (fun t => d t * 16 ^ t) 5) t = d t := by
  have e : ySum (fun t => d t * 16 ^ t) 5 = ((((0 + d 0 * 1) + d 1 * 16) + d 2 * 256) + d 3 * 4096) + d 4 * 65536 := rfl
  have h0 := h 0
  have h1 := h 1
  have h2 := h 2
  have h3 := h 3
  have h4 := h 4
  intro t ht
  unfold zNb
  rw [e]
  have : t = 0 ∨ t = 1 ∨ t = 2 ∨ t = 3 ∨ t = 4 := by omega
  rcases this with c | c | c | c | c <;> subst c <;> omega
theorem zNb_mw (L a b t : Nat) (ht : t < 5) : zNb (zMw L a b) t = if zNb L t = zNb L b then zNb L a else zNb L t := by
  cases L with
  | zero =>
    have z : ∀ u, zNb 0 u = 0 := fun u => by unfold zNb; rw [Nat.zero_div]
    show zNb 0 t = _
    rw [z, z, z, if_pos rfl]
  | succ m =>
    exact zNb_pk (fun t => if zNb (m + 1) t = zNb (m + 1) b then zNb (m + 1) a else zNb (m + 1) t) (fun t => by
      show (if zNb (m + 1) t = zNb (m + 1) b then zNb (m + 1) a else zNb (m + 1) t) < 16
      split <;> exact Nat.mod_lt _ (by decide)) t ht
theorem zGl_in {n x : Nat} (hn : n < 6) : ∀ p, p ≤ n * (n - 1) / 2 → zGl n x p ∈ zReach n := by
  intro p
  induction p with
  | zero => intro _; exact (zReach_0 n hn).1
  | succ p ih =>
    intro hp
    show (if x.testBit p then zMw (zGl n x p) (zAB n p).1 (zAB n p).2 else zGl n x p) ∈ zReach n
    split
    · exact (zMw_1 n hn _ (ih (by omega)) p (by omega)).1
    · exact ih (by omega)
theorem zGr_gl {n x : Nat} (hn : n < 6) : ∀ p, p ≤ n * (n - 1) / 2 → (zGr n x p).1 = zCt n (zGl n x p) ∧ ∀ t, t < 5 → (zGr n x p).2 t = zNb (zGl n x p) t := by
  intro p
  induction p with
  | zero => intro _; exact ⟨(zReach_0 n hn).2.1.symm, (by decide +kernel : ∀ t, t < 5 → t = zNb 274960 t)⟩
  | succ p ih =>
    intro hp
    obtain ⟨i1, i2⟩ := ih (by omega)
    obtain ⟨a1, a2, -⟩ := zAB_lt n hn p (by omega)
    obtain ⟨-, m2, m3⟩ := zMw_1 n hn _ (zGl_in (x := x) hn p (by omega)) p (by omega)
    have eG : zGr n x (p + 1) = if x.testBit p = true ∧ (zGr n x p).2 (zAB n p).1 ≠ (zGr n x p).2 (zAB n p).2 then ((zGr n x p).1 - 1, zLb n (zGr n x p).2 (zAB n p).1 (zAB n p).2) else zGr n x p := rfl
    have eL : zGl n x (p + 1) = if x.testBit p then zMw (zGl n x p) (zAB n p).1 (zAB n p).2 else zGl n x p := rfl
    rw [eG, eL, i2 _ (show (zAB n p).1 < 5 by omega), i2 _ (show (zAB n p).2 < 5 by omega)]
    by_cases d : x.testBit p = true
    · rw [if_pos d]
      by_cases e : zNb (zGl n x p) (zAB n p).1 = zNb (zGl n x p) (zAB n p).2
      · rw [if_neg (fun z => z.2 e), m2 e]
        exact ⟨i1, i2⟩
      · rw [if_pos ⟨d, e⟩]
        refine ⟨?_, fun t ht => ?_⟩
        · have := m3 e
          show (zGr n x p).1 - 1 = _
          omega
        · show (if (zGr n x p).2 t = (zGr n x p).2 (zAB n p).2 then (zGr n x p).2 (zAB n p).1 else (zGr n x p).2 t) = _
          rw [zNb_mw _ _ _ _ ht, i2 t ht, i2 _ (show (zAB n p).1 < 5 by omega), i2 _ (show (zAB n p).2 < 5 by omega)]
    · rw [if_neg (fun z => d z.1), if_neg d]
      exact ⟨i1, i2⟩
theorem zGroups_gl {n x : Nat} (hn : n < 6) : zGroups n x = zCt n (zGl n x (n * (n - 1) / 2)) := (zGr_gl hn _ (Nat.le_refl _)).1
theorem zGroups_big {n x : Nat} (hn : n < 6) (hx : x < 2 ^ (n * (n - 1) / 2)) : zGroups n x = zBig n / 16 ^ x % 16 := by
  rw [zGroups_gl hn]
  exact beq_iff_eq.mp (List.all_eq_true.mp (zBig_0 n hn) x (List.mem_range.mpr hx))
theorem zGroups_or {n x p : Nat} (hn : n < 6) (hx : x < 2 ^ (n * (n - 1) / 2)) (hp : p < n * (n - 1) / 2) : zGroups n x ≤ zGroups n (x ||| 2 ^ p) + 1 := by
  rw [zGroups_big hn hx, zGroups_big hn (zOr_lt hx hp)]
  exact of_decide_eq_true (List.all_eq_true.mp (List.all_eq_true.mp (zBig_1 n hn) x (List.mem_range.mpr hx)) p (List.mem_range.mpr hp))
theorem zGroups_cut {n x : Nat} (hn : n < 6) (hx : x < 2 ^ (n * (n - 1) / 2)) (h : ¬ zGroups n x ≤ 1) : ∃ C, 0 < C ∧ C < 2 ^ n - 1 ∧ ∀ p, p < n * (n - 1) / 2 → x.testBit p = true → C.testBit (zAB n p).1 = C.testBit (zAB n p).2 := by
  rw [zGroups_big hn hx] at h
  have q := List.all_eq_true.mp (zBig_2 n hn) x (List.mem_range.mpr hx)
  rw [Bool.or_eq_true, decide_eq_true_eq, List.any_eq_true] at q
  rcases q with q | ⟨C, -, q⟩
  · exact absurd q h
  · unfold zCut at q
    rw [Bool.and_eq_true, Bool.and_eq_true, decide_eq_true_eq, decide_eq_true_eq, List.all_eq_true] at q
    refine ⟨C, q.1.1, q.1.2, fun p hp hb => ?_⟩
    have := q.2 p (List.mem_range.mpr hp)
    rw [hb, Bool.not_true, Bool.false_or] at this
    exact beq_iff_eq.mp this
theorem zGroups_le {n x : Nat} (hn : n < 6) : zGroups n x ≤ n := by
  rw [zGroups_gl hn]
  exact ((zReach_0 n hn).2.2 _ (zGl_in hn _ (Nat.le_refl _))).2
/-! least sums -/
def zFl (b m : Nat) : Nat := yCn (fun j => decide (b ^ (j + 1) ≤ m)) 7
def zLv (b m : Nat) : Nat := m * zFl b m + (m - b ^ zFl b m) + (if b = 3 then (m - b ^ zFl b m + 1) / 2 else m - b ^ zFl b m)
theorem zLv_tab : ∀ m, m < 121 → zLv 3 m = zLt3 / 1024 ^ m % 1024 ∧ zLv 2 m = zLt2 / 1024 ^ m % 1024 := by decide +kernel
theorem zLv_fl : ∀ m, m < 121 → ∀ b, b < 4 → 2 ≤ b → zFl b m ≤ 7 ∧ (zFl b m = 0 ∨ b ^ zFl b m ≤ m) ∧ m < b ^ (zFl b m + 1) ∧ zLv b m ≤ 1000 := by decide +kernel
set_option maxRecDepth 100000 in
theorem zLv_3s : (List.range 41).all (fun a => (List.range 61).all fun b => (List.range (121 - (3 * a + 2 * b))).all fun d => decide (zLt3 / 1024 ^ (3 * a + 2 * b + d) % 1024 ≤ (3 * a + 2 * b + d) + (zLt3 / 1024 ^ a % 1024 + zLt3 / 1024 ^ (a + b) % 1024 + zLt3 / 1024 ^ (a + b + d) % 1024))) = true := by decide +kernel
set_option maxRecDepth 100000 in
theorem zLv_2s : (List.range 121).all (fun b => (List.range (121 - b)).all fun d => decide (zLt2 / 1024 ^ (b + d) % 1024 ≤ (b + d) + (zLt2 / 1024 ^ b % 1024 + zLt2 / 1024 ^ d % 1024))) = true := by decide +kernel
theorem zLv_2 (b d : Nat) (h : b + d ≤ 120) : zLv 2 (b + d) ≤ (b + d) + (zLv 2 b + zLv 2 d) := by
  rw [(zLv_tab (b + d) (by omega)).2, (zLv_tab b (by omega)).2, (zLv_tab d (by omega)).2]
  exact of_decide_eq_true (List.all_eq_true.mp (List.all_eq_true.mp zLv_2s b (List.mem_range.mpr (by omega))) d (List.mem_range.mpr (by omega)))
theorem zLv_3o (a b d : Nat) (h1 : a ≤ b) (h2 : b ≤ d) (h : a + b + d ≤ 120) : zLv 3 (a + b + d) ≤ (a + b + d) + (zLv 3 a + zLv 3 b + zLv 3 d) := by
  have := of_decide_eq_true (List.all_eq_true.mp (List.all_eq_true.mp (List.all_eq_true.mp zLv_3s a (List.mem_range.mpr (by omega))) (b - a) (List.mem_range.mpr (by omega))) (d - b) (List.mem_range.mpr (by omega)))
  rw [show 3 * a + 2 * (b - a) + (d - b) = a + b + d by omega, show a + (b - a) = b by omega, show b + (d - b) = d by omega] at this
  rw [(zLv_tab (a + b + d) (by omega)).1, (zLv_tab a (by omega)).1, (zLv_tab b (by omega)).1, (zLv_tab d (by omega)).1]
  exact this
theorem zLv_3 (a b d : Nat) (h : a + b + d ≤ 120) : zLv 3 (a + b + d) ≤ (a + b + d) + (zLv 3 a + zLv 3 b + zLv 3 d) := by
  rcases Nat.le_total a b with h1 | h1 <;> rcases Nat.le_total b d with h2 | h2 <;> rcases Nat.le_total a d with h3 | h3
  · exact zLv_3o a b d h1 h2 h
  · exact zLv_3o a b d h1 h2 h
  · have := zLv_3o a d b h3 h2 (by omega)
    rw [show a + d + b = a + b + d by omega] at this
    omega
  · have := zLv_3o d a b h3 h1 (by omega)
    rw [show d + a + b = a + b + d by omega] at this
    omega
  · have := zLv_3o b a d h1 h3 (by omega)
    rw [show b + a + d = a + b + d by omega] at this
    omega
  · have := zLv_3o b d a h2 h3 (by omega)
    rw [show b + d + a = a + b + d by omega] at this
    omega
  · have := zLv_3o d b a h2 h1 (by omega)
    rw [show d + b + a = a + b + d by omega] at this
    omega
  · have := zLv_3o d b a h2 h1 (by omega)
    rw [show d + b + a = a + b + d by omega] at this
    omega
end GT
