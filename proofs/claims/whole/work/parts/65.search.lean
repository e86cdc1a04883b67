/-! THE SEARCH: what it needs, its memory, what is loaded -/
def nL (n : Nat) : Int64 := Int64.ofNat n
theorem nL_or (a b : Nat) : nL a ||| nL b = nL (a ||| b) := Int64.toBitVec_inj.mp (by
  rw [Int64.toBitVec_or]
  exact (BitVec.ofNat_or (w := 64) (x := a) (y := b)).symm)
theorem nL_and (a b : Nat) : nL a &&& nL b = nL (a &&& b) := Int64.toBitVec_inj.mp (by
  rw [Int64.toBitVec_and]
  exact (BitVec.ofNat_and (w := 64) (x := a) (y := b)).symm)
theorem nL_shl : ∀ j, j < 60 → (1 : Int64) <<< (Int32.toInt64 (nI j) &&& 63) = nL (2 ^ j) := by decide +kernel
/-! what a set of orders needs: by marks and goals -/
/-- all alike -/
def zAl (c : Nat) (γ : Nat → Int32) (S : Nat → Bool) : Prop := ∀ i j, i < c → j < c → S i = true → S j = true → γ i = γ j
/-- the part by which the balance says s of pair p -/
def zPt (mk : Nat → Nat) (S : Nat → Bool) (p s : Nat) : Nat → Bool := fun i => S i && (mk i).testBit (10 * s + p)
/-- the goal can be come to in k weighings -/
def zCan (P c : Nat) (mk : Nat → Nat) (γ : Nat → Int32) : Nat → (Nat → Bool) → Prop
  | 0, S => zAl c γ S
  | k + 1, S => zAl c γ S ∨ ∃ p, p < P ∧ ∀ s, s < 3 → zCan P c mk γ k (zPt mk S p s)
/-- in f weighings at most, k together -/
def zTot (P c : Nat) (mk : Nat → Nat) (γ : Nat → Int32) : Nat → Nat → (Nat → Bool) → Prop
  | 0, _, S => zAl c γ S
  | f + 1, k, S => zAl c γ S ∨ ∃ p, p < P ∧ ∃ t : Nat → Nat, yCn S c + (t 0 + t 1 + t 2) ≤ k ∧ ∀ s, s < 3 → zTot P c mk γ f (t s) (zPt mk S p s)
/-- a set by its two masks -/
def zSt (lo hi : Nat) : Nat → Bool := fun i => if i < 60 then lo.testBit i else hi.testBit (i - 60)
/-- what the memory may hold of a set -/
def zOkW (P c : Nat) (mk : Nat → Nat) (γ : Nat → Int32) (S : Nat → Bool) (v : Int32) : Prop := v = 0 ∨ ∃ k, 0 < k ∧ k ≤ 1000000 ∧ ¬ zCan P c mk γ (k - 1) S ∧ ((v = nI k ∧ zCan P c mk γ k S) ∨ v = -nI k)
def zOkS (P c : Nat) (mk : Nat → Nat) (γ : Nat → Int32) (S : Nat → Bool) (v : Int32) : Prop := v = 0 ∨ ∃ k, 0 < k ∧ k ≤ 1000000 ∧ (∀ f, ¬ zTot P c mk γ f (k - 1) S) ∧ ((v = nI k ∧ ∃ f, zTot P c mk γ f k S) ∨ v = -nI k)
/-- the orders loaded -/
def zLd (g : xSt) (n : Nat) (J U : Int32) (c : Nat) (mk : Nat → Nat) (γ : Nat → Int32) : Prop := xI g 76 3 = nI n ∧ xI g 76 4 = J ∧ xI g 76 5 = U ∧ xI g 76 2 = nI c ∧ ∀ i, i < c → xI g 77 i = nI (mk i) ∧ xI g 78 i = γ i
/-- how many groups of things the pairs in x make: labels, made alike one pair after the other -/
def zLb (n : Nat) (l : Nat → Nat) (a b : Nat) : Nat → Nat := fun t => if l t = l b then l a else l t
def zGr (n x : Nat) : Nat → Nat × (Nat → Nat)
  | 0 => (n, fun t => t)
  | p + 1 =>
    let q := zGr n x p
    let ab := ((List.range n).flatMap fun a => (List.range n).filterMap fun b => if a < b ∧ yPr n a b = p then some (a, b) else none).getD 0 (0, 0)
    if x.testBit p = true ∧ q.2 ab.1 ≠ q.2 ab.2 then (q.1 - 1, zLb n q.2 ab.1 ab.2) else q
def zGroups (n x : Nat) : Nat := (zGr n x (n * (n - 1) / 2)).1
def zCo (g : xSt) (n : Nat) : Prop := (∀ a b, a < b → b < n → xI g 82 (yPr n a b) = nI (10 * a + b)) ∧ ∀ x, x < 1024 → xI g 83 x = 0 ∨ xI g 83 x = nI (zGroups n x)
/-- what finish lays -/
def zFn (g : xSt) (c : Nat) (mk : Nat → Nat) (γ : Nat → Int32) : Prop := (∀ b, b < 30 → xL g 81 (2 * b) = nL (yBs (fun i => (mk i).testBit b) (min c 60)) ∧ xL g 81 (2 * b + 1) = nL (yBs (fun i => (mk (60 + i)).testBit b) (c - 60))) ∧ xI g 76 8 = (if (List.range c).any (fun i => decide (mk i % 1024 ≠ 0)) then 3 else 2) ∧ ∃ (κ : Nat → Nat) (K : Nat), K ≤ c ∧ xI g 76 9 = nI K ∧ (∀ i, i < c → κ i < K ∧ xI g 79 i = nI (κ i)) ∧ (∀ i j, i < c → j < c → (κ i = κ j ↔ γ i = γ j)) ∧ (∀ k, k < K → (∃ i, i < c ∧ κ i = k) ∧ xL g 80 (2 * k) = nL (yBs (fun i => κ i == k) (min c 60)) ∧ xL g 80 (2 * k + 1) = nL (yBs (fun i => κ (60 + i) == k) (c - 60)))
/-- a slot of this round -/
def zSl (g : xSt) (n c : Nat) (mk : Nat → Nat) (γ : Nat → Int32) (s : Nat) : Prop := ∃ lo hi, lo < 2 ^ 60 ∧ hi < 2 ^ 60 ∧ xL g 85 (2 * s) = nL lo ∧ xL g 85 (2 * s + 1) = nL hi ∧ zOkW (n * (n - 1) / 2) c mk γ (zSt lo hi) (xI g 86 s) ∧ zOkS (n * (n - 1) / 2) c mk γ (zSt lo hi) (xI g 87 s)
def zMe (g : xSt) (r n c : Nat) (mk : Nat → Nat) (γ : Nat → Int32) : Prop := ∀ s, s < 4096 → ∃ ρ, ρ ≤ r ∧ xI g 84 s = nI ρ ∧ (0 < r → ρ = r → zSl g n c mk γ s)
/-- the search, behind N calls -/
def I_search (N : Nat) (g : xSt) : Prop := ∃ r n J U c mk γ, r ≤ N ∧ n ≤ 5 ∧ (J = 0 ∨ J = 1) ∧ c ≤ 120 ∧ (∀ i, i < c → mk i < 2 ^ 30) ∧ zLd g n J U c mk γ ∧ zCo g n ∧ xI g 76 15 = nI r ∧ (0 < r → zFn g c mk γ) ∧ zMe g r n c mk γ
def dSe (o k : Nat) : Prop := 76 ≤ o ∧ o ≤ 87
/-- the same cells, ints and longs -/
def zSame (g g' : xSt) : Prop := ∀ o, 76 ≤ o → o ≤ 87 → ∀ k, xI g' o k = xI g o k ∧ xL g' o k = xL g o k
theorem I_search.eq {N N' : Nat} {g g' : xSt} (hN : N ≤ N') (h : zSame g g') (q : I_search N g) : I_search N' g' := by
  obtain ⟨r, n, J, U, c, mk, γ, h1, h2, h3, h4, h5, ⟨l1, l2, l3, l4, l5⟩, ⟨c1, c2⟩, h6, h7, h8⟩ := q
  have i := fun o k (a : 76 ≤ o) (b : o ≤ 87) => (h o a b k).1
  have l := fun o k (a : 76 ≤ o) (b : o ≤ 87) => (h o a b k).2
  refine ⟨r, n, J, U, c, mk, γ, by omega, h2, h3, h4, h5, ⟨(i _ _ (by decide) (by decide)).trans l1, (i _ _ (by decide) (by decide)).trans l2, (i _ _ (by decide) (by decide)).trans l3, (i _ _ (by decide) (by decide)).trans l4, fun x hx => ⟨(i _ _ (by decide) (by decide)).trans (l5 x hx).1, (i _ _ (by decide) (by decide)).trans (l5 x hx).2⟩⟩, ⟨fun a b ha hb => (i _ _ (by decide) (by decide)).trans (c1 a b ha hb), fun x hx => by rw [i 83 x (by decide) (by decide)]; exact c2 x hx⟩, (i _ _ (by decide) (by decide)).trans h6, fun hr => ?_, fun s hs => ?_⟩
  · obtain ⟨f1, f2, κ, K, f3, f4, f5, f6, f7⟩ := h7 hr
    exact ⟨fun b hb => ⟨(l _ _ (by decide) (by decide)).trans (f1 b hb).1, (l _ _ (by decide) (by decide)).trans (f1 b hb).2⟩, (i _ _ (by decide) (by decide)).trans f2, κ, K, f3, (i _ _ (by decide) (by decide)).trans f4, fun x hx => ⟨(f5 x hx).1, (i _ _ (by decide) (by decide)).trans (f5 x hx).2⟩, f6, fun k hk => ⟨(f7 k hk).1, (l _ _ (by decide) (by decide)).trans (f7 k hk).2.1, (l _ _ (by decide) (by decide)).trans (f7 k hk).2.2⟩⟩
  · obtain ⟨ρ, m1, m2, m3⟩ := h8 s hs
    refine ⟨ρ, m1, (i _ _ (by decide) (by decide)).trans m2, fun a b => ?_⟩
    obtain ⟨lo, hi, s1, s2, s3, s4, s5, s6⟩ := m3 a b
    exact ⟨lo, hi, s1, s2, (l _ _ (by decide) (by decide)).trans s3, (l _ _ (by decide) (by decide)).trans s4, by rw [i 86 s (by decide) (by decide)]; exact s5, by rw [i 87 s (by decide) (by decide)]; exact s6⟩
