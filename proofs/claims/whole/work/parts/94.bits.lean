/-! BITS of long words, counted -/
section BC
theorem nL_add (a b : Nat) : nL a + nL b = nL (a + b) := Int64.toBitVec_inj.mp (by
  rw [Int64.toBitVec_add]
  exact (BitVec.ofNat_add (n := 64) a b).symm)
theorem nL_minus {a b : Nat} (h : b ≤ a) : nL a - nL b = nL (a - b) := by
  have e : nL a = nL (a - b) + nL b := by rw [nL_add, Nat.sub_add_cancel h]
  rw [e]
  apply Int64.toBitVec_inj.mp
  rw [Int64.toBitVec_sub, Int64.toBitVec_add, BitVec.add_sub_cancel]
theorem r_ushL {a : Nat} (ha : a < 2 ^ 64) (y : UInt64) {k : Nat} (hk : y.toNat % 64 = k) : (Int64.toUInt64 (nL a) >>> y).toInt64 = nL (a / 2 ^ k) := by
  have e : Int64.toUInt64 (nL a) >>> y = UInt64.ofNat (a / 2 ^ k) := by
    apply UInt64.toNat_inj.mp
    rw [UInt64.toNat_shiftRight, hk, Nat.shiftRight_eq_div_pow]
    have e1 : (Int64.toUInt64 (nL a)).toNat = a := (BitVec.toNat_ofNat a 64).trans (Nat.mod_eq_of_lt ha)
    rw [e1]
    exact ((BitVec.toNat_ofNat (a / 2 ^ k) 64).trans (Nat.mod_eq_of_lt (Nat.lt_of_le_of_lt (Nat.div_le_self _ _) ha))).symm
  rw [e]
  rfl
def mk8 (c : Nat) : Nat → Nat
  | 0 => 0
  | j + 1 => c + 256 * mk8 c j
theorem mk8_8 : mk8 85 8 = 6148914691236517205 ∧ mk8 51 8 = 3689348814741910323 ∧ mk8 15 8 = 1085102592571150095 := by decide +kernel
def bb1 (m a : Nat) : Nat := a - (a / 2 &&& m)
def bb2 (m a : Nat) : Nat := (a &&& m) + (a / 4 &&& m)
def bb3 (m a : Nat) : Nat := (a + a / 16) &&& m
theorem and8 (A c M : Nat) (hc : c < 256) : A &&& (c + 256 * M) = (A % 256 &&& c) + 256 * (A / 256 &&& M) := by
  have d := Nat.and_div_two_pow (a := A) (b := c + 256 * M) (n := 8)
  have m := Nat.and_mod_two_pow (a := A) (b := c + 256 * M) (n := 8)
  have t := Nat.div_add_mod (A &&& (c + 256 * M)) (2 ^ 8)
  rw [d, m, show (c + 256 * M) / 2 ^ 8 = M by omega, show (c + 256 * M) % 2 ^ 8 = c by omega] at t
  rw [← t]
  show 256 * (A / 256 &&& M) + (A % 256 &&& c) = _
  omega
def vb1 (x : Nat) : Nat := x - (x / 2 &&& 85)
def vb2 (x : Nat) : Nat := (x &&& 51) + (x / 4 &&& 51)
theorem vb_1 : ∀ x, x < 512 → (x / 2 % 256 &&& 85) = ((x % 256) / 2 &&& 85) := by decide +kernel
theorem vb_2 : ∀ x, x < 1024 → (x / 4 % 256 &&& 51) = ((x % 256) / 4 &&& 51) := by decide +kernel
theorem vb_3 : ∀ x, x < 256 → vb1 x < 256 ∧ (x / 2 &&& 85) ≤ x ∧ vb2 (vb1 x) % 16 ≤ 4 ∧ vb2 (vb1 x) / 16 ≤ 4 ∧ ((vb2 (vb1 x) + vb2 (vb1 x) / 16) &&& 15) = xpop 8 x := by decide +kernel
theorem bb1_s (m A : Nat) : bb1 (85 + 256 * m) A = vb1 (A % 256) + 256 * bb1 m (A / 256) := by
  unfold bb1 vb1
  rw [and8 _ _ _ (by decide)]
  have e1 : (A / 2) % 256 = ((A % 512) / 2) % 256 := by omega
  have e2 : A / 2 / 256 = A / 256 / 2 := by omega
  have e3 : A % 512 % 256 = A % 256 := by omega
  rw [e1, vb_1 _ (Nat.mod_lt _ (by decide)), e2, e3]
  have l1 := (vb_3 (A % 256) (Nat.mod_lt _ (by decide))).2.1
  have l2 : (A / 256 / 2 &&& m) ≤ A / 256 := Nat.le_trans Nat.and_le_left (by omega)
  omega
theorem bb2_s (m u v : Nat) (hv : v < 256) : bb2 (51 + 256 * m) (v + 256 * u) = vb2 v + 256 * bb2 m u := by
  unfold bb2 vb2
  rw [and8 _ _ _ (by decide), and8 _ _ _ (by decide)]
  have e1 : ((v + 256 * u) / 4) % 256 = (((v + 256 * u) % 1024) / 4) % 256 := by omega
  have e2 : (v + 256 * u) / 4 / 256 = u / 4 := by omega
  have e3 : (v + 256 * u) % 1024 % 256 = v := by omega
  have e4 : (v + 256 * u) % 256 = v := by omega
  have e5 : (v + 256 * u) / 256 = u := by omega
  rw [e1, vb_2 _ (Nat.mod_lt _ (by decide)), e2, e3, e4, e5]
  omega
theorem bb3_s (m u v : Nat) (h1 : v % 16 ≤ 4) (h2 : v / 16 ≤ 4) (h3 : u % 16 ≤ 4) : bb3 (15 + 256 * m) (v + 256 * u) = ((v + v / 16) &&& 15) + 256 * bb3 m u := by
  unfold bb3
  rw [and8 _ _ _ (by decide)]
  have e1 : (v + 256 * u + (v + 256 * u) / 16) / 256 = u + u / 16 := by omega
  have e2 : ((v + 256 * u + (v + 256 * u) / 16) % 256 &&& 15) = ((v + v / 16) &&& 15) := by
    rw [show (15 : Nat) = 2 ^ 4 - 1 from rfl, Nat.and_two_pow_sub_one_eq_mod, Nat.and_two_pow_sub_one_eq_mod]
    omega
  rw [e1, e2]
/-- the bits of each byte -/
def pB : Nat → Nat → Nat
  | 0, _ => 0
  | j + 1, a => xpop 8 (a % 256) + 256 * pB j (a / 256)
theorem bb_all : ∀ j a, a < 256 ^ j → bb3 (mk8 15 j) (bb2 (mk8 51 j) (bb1 (mk8 85 j) a)) = pB j a ∧ bb2 (mk8 51 j) (bb1 (mk8 85 j) a) % 16 ≤ 4 := by
  intro j
  induction j with
  | zero =>
    intro a ha
    have : a = 0 := by rw [Nat.pow_zero] at ha; omega
    subst this
    exact ⟨rfl, by decide⟩
  | succ j ih =>
    intro a ha
    rw [Nat.pow_succ] at ha
    obtain ⟨i1, i2⟩ := ih (a / 256) (by omega)
    obtain ⟨f1, -, f3, f4, f5⟩ := vb_3 (a % 256) (Nat.mod_lt _ (by decide))
    show bb3 (15 + 256 * mk8 15 j) (bb2 (51 + 256 * mk8 51 j) (bb1 (85 + 256 * mk8 85 j) a)) = xpop 8 (a % 256) + 256 * pB j (a / 256) ∧ _
    rw [bb1_s, bb2_s _ _ _ f1, bb3_s _ _ _ f3 f4 i2, i1, f5]
    refine ⟨rfl, ?_⟩
    show bb2 (51 + 256 * mk8 51 j) (bb1 (85 + 256 * mk8 85 j) a) % 16 ≤ 4
    rw [bb1_s, bb2_s _ _ _ f1]
    omega
theorem xpop_le : ∀ k n, xpop k n ≤ k := by
  intro k
  induction k with
  | zero => intro n; exact Nat.le_refl _
  | succ k ih => intro n; have := ih (n / 2); show n % 2 + xpop k (n / 2) ≤ k + 1; omega
theorem xpop_cn : ∀ k n, xpop k n = yCn (fun i => n.testBit i) k := by
  have cons : ∀ (p : Nat → Bool) (m : Nat), yCn p (m + 1) = (if p 0 then 1 else 0) + yCn (fun i => p (i + 1)) m := by
    intro p m
    induction m with
    | zero => rw [yCn_succ]; exact Nat.add_comm _ _
    | succ m ih => rw [yCn_succ, ih, yCn_succ]; omega
  intro k
  induction k with
  | zero => intro n; rfl
  | succ k ih =>
    intro n
    rw [cons]
    show n % 2 + xpop k (n / 2) = _
    rw [ih, Nat.testBit_zero]
    have e : yCn (fun i => (n / 2).testBit i) k = yCn (fun i => n.testBit (i + 1)) k := yCn_congr fun o _ => by rw [Nat.testBit_succ]
    rw [e]
    by_cases d : n % 2 = 1
    · rw [d, decide_eq_true rfl]; rfl
    · rw [show n % 2 = 0 by omega]; rfl
theorem yCn_cat (p : Nat → Bool) (k : Nat) : ∀ m, yCn p (k + m) = yCn p k + yCn (fun i => p (k + i)) m := by
  intro m
  induction m with
  | zero => rfl
  | succ m ih => rw [show k + (m + 1) = (k + m) + 1 by omega, yCn_succ, ih, yCn_succ]; omega
theorem xpop_8 (a : Nat) : xpop 8 (a % 256) = yCn (fun i => a.testBit i) 8 := by
  rw [xpop_cn]
  exact yCn_congr fun o ho => by rw [show (256 : Nat) = 2 ^ 8 from rfl, Nat.testBit_mod_two_pow, decide_eq_true ho, Bool.true_and]
theorem xpop_sh (a k : Nat) : yCn (fun i => (a / 256).testBit i) k = yCn (fun i => a.testBit (8 + i)) k := yCn_congr fun o _ => by rw [show (256 : Nat) = 2 ^ 8 from rfl, Nat.testBit_div_two_pow, Nat.add_comm]
theorem bl_nL {a : Nat} (ha : a < 2 ^ 64) : bl3 (bl2 (bl1 (nL a))) = nL (pB 8 a) := by
  obtain ⟨m1, m2, m3⟩ := mk8_8
  have c1 : ((Int32.toInt64 1).toUInt64 &&& Int64.toUInt64 63).toNat % 64 = 1 := by decide +kernel
  have c2 : ((Int32.toInt64 2).toUInt64 &&& Int64.toUInt64 63).toNat % 64 = 2 := by decide +kernel
  have c4 : ((Int32.toInt64 4).toUInt64 &&& Int64.toUInt64 63).toNat % 64 = 4 := by decide +kernel
  have e1 : bl1 (nL a) = nL (bb1 (mk8 85 8) a) := by
    unfold bl1 bb1
    rw [r_ushL ha _ c1, show (6148914691236517205 : Int64) = nL 6148914691236517205 from rfl, nL_and, nL_minus (Nat.le_trans Nat.and_le_left (Nat.div_le_self _ _)), m1]
  have l1 : bb1 (mk8 85 8) a < 2 ^ 64 := Nat.lt_of_le_of_lt (Nat.sub_le _ _) ha
  have e2 : bl2 (nL (bb1 (mk8 85 8) a)) = nL (bb2 (mk8 51 8) (bb1 (mk8 85 8) a)) := by
    unfold bl2
    rw [r_ushL l1 _ c2, show (3689348814741910323 : Int64) = nL 3689348814741910323 from rfl, nL_and, nL_and, nL_add, m2]
    rfl
  have l2 : bb2 (mk8 51 8) (bb1 (mk8 85 8) a) < 2 ^ 64 := by
    unfold bb2
    rw [m2]
    have x1 : (bb1 (mk8 85 8) a &&& 3689348814741910323) ≤ 3689348814741910323 := Nat.and_le_right
    have x2 : (bb1 (mk8 85 8) a / 4 &&& 3689348814741910323) ≤ 3689348814741910323 := Nat.and_le_right
    omega
  have e3 : bl3 (nL (bb2 (mk8 51 8) (bb1 (mk8 85 8) a))) = nL (bb3 (mk8 15 8) (bb2 (mk8 51 8) (bb1 (mk8 85 8) a))) := by
    unfold bl3
    rw [r_ushL l2 _ c4, show (1085102592571150095 : Int64) = nL 1085102592571150095 from rfl, nL_add, nL_and, m3]
    rfl
  rw [e1, e2, e3, (bb_all 8 a ha).1]
theorem bl_fin {p0 p1 p2 p3 p4 p5 p6 p7 A0 A1 A2 A3 A4 A5 A6 A7 : Nat} (h0 : p0 ≤ 8) (h1 : p1 ≤ 8) (h2 : p2 ≤ 8) (h3 : p3 ≤ 8) (h4 : p4 ≤ 8) (h5 : p5 ≤ 8) (h6 : p6 ≤ 8) (h7 : p7 ≤ 8) (e0 : A0 = p0 + 256 * A1) (e1 : A1 = p1 + 256 * A2) (e2 : A2 = p2 + 256 * A3) (e3 : A3 = p3 + 256 * A4) (e4 : A4 = p4 + 256 * A5) (e5 : A5 = p5 + 256 * A6) (e6 : A6 = p6 + 256 * A7) (e7 : A7 = p7) : Int64.toInt32 (bl6 (bl5 (bl4 (nL A0)))) &&& 127 = nI (p0 + p1 + p2 + p3 + p4 + p5 + p6 + p7) := by
  have c1 : ((Int32.toInt64 8).toUInt64 &&& Int64.toUInt64 63).toNat % 64 = 8 := by decide +kernel
  have c2 : ((Int32.toInt64 16).toUInt64 &&& Int64.toUInt64 63).toNat % 64 = 16 := by decide +kernel
  have c4 : ((Int32.toInt64 32).toUInt64 &&& Int64.toUInt64 63).toNat % 64 = 32 := by decide +kernel
  have b6 : A6 ≤ 2056 := by omega
  have b5 : A5 ≤ 526344 := by omega
  have b4 : A4 ≤ 134744072 := by omega
  have b3 : A3 ≤ 34494482440 := by omega
  have b2 : A2 ≤ 8830587504648 := by omega
  have b1 : A1 ≤ 2260630401189896 := by omega
  have b0 : A0 ≤ 578721382704613384 := by omega
  have s4 : bl4 (nL A0) = nL (A0 + A1) := by
    unfold bl4
    rw [r_ushL (by omega) _ c1, nL_add]
    have : A0 / 2 ^ 8 = A1 := by clear e1 e2 e3 e4 e5 e6 e7; omega
    rw [this]
  have k0 : A0 + A1 = (p0 + p1) + 256 * (A1 + A2) := by clear e2 e3 e4 e5 e6 e7; omega
  have k1 : A1 + A2 = (p1 + p2) + 256 * (A2 + A3) := by clear e0 e3 e4 e5 e6 e7; omega
  have k2 : A2 + A3 = (p2 + p3) + 256 * (A3 + A4) := by clear e0 e1 e4 e5 e6 e7; omega
  have k3 : A3 + A4 = (p3 + p4) + 256 * (A4 + A5) := by clear e0 e1 e2 e5 e6 e7; omega
  have k4 : A4 + A5 = (p4 + p5) + 256 * (A5 + A6) := by clear e0 e1 e2 e3 e6 e7; omega
  have k5 : A5 + A6 = (p5 + p6) + 256 * (A6 + A7) := by clear e0 e1 e2 e3 e4 e7; omega
  have k6 : A6 + A7 = (p6 + p7) + 256 * A7 := by clear e0 e1 e2 e3 e4 e5; omega
  have bc : A0 + A1 < 2 ^ 61 := by clear e0 e1 e2 e3 e4 e5 e6 e7 k0 k1 k2 k3 k4 k5 k6; omega
  clear e0 e1 e2 e3 e4 e5 e6 b1 b2 b3 b4 b5 b6
  rw [s4]
  generalize A0 + A1 = C0 at k0 bc ⊢
  generalize A1 + A2 = C1 at k0 k1
  generalize A2 + A3 = C2 at k1 k2
  generalize A3 + A4 = C3 at k2 k3
  generalize A4 + A5 = C4 at k3 k4
  generalize A5 + A6 = C5 at k4 k5
  generalize A6 + A7 = C6 at k5 k6
  have s5 : bl5 (nL C0) = nL (C0 + C2) := by
    unfold bl5
    rw [r_ushL (by omega) _ c2, nL_add]
    have : C0 / 2 ^ 16 = C2 := by clear k2 k3 k4 k5 k6; omega
    rw [this]
  have d0 : C0 + C2 = (p0 + p1 + p2 + p3) + 256 * (C1 + C3) := by clear k1 k3 k4 k5 k6; omega
  have d1 : C1 + C3 = (p1 + p2 + p3 + p4) + 256 * (C2 + C4) := by clear k0 k2 k4 k5 k6; omega
  have d2 : C2 + C4 = (p2 + p3 + p4 + p5) + 256 * (C3 + C5) := by clear k0 k1 k3 k5 k6; omega
  have d3 : C3 + C5 = (p3 + p4 + p5 + p6) + 256 * (C4 + C6) := by clear k0 k1 k2 k4 k6; omega
  have d4 : C4 + C6 = (p4 + p5 + p6 + p7) + 256 * (C5 + A7) := by clear k0 k1 k2 k3 k5; omega
  have bd : C0 + C2 < 2 ^ 62 := by
    have : C2 ≤ C0 := by clear k2 k3 k4 k5 k6 d0 d1 d2 d3 d4; omega
    omega
  clear k0 k1 k2 k3 k4 k5 k6
  rw [s5]
  generalize C0 + C2 = D0 at d0 bd ⊢
  generalize C1 + C3 = D1 at d0 d1
  generalize C2 + C4 = D2 at d1 d2
  generalize C3 + C5 = D3 at d2 d3
  generalize C4 + C6 = D4 at d3 d4
  have s6 : bl6 (nL D0) = nL (D0 + D4) := by
    unfold bl6
    rw [r_ushL (by omega) _ c4, nL_add]
    have q1 : D0 / 65536 = D2 := by clear d2 d3 d4; omega
    have q2 : D2 / 65536 = D4 := by clear d0 d1 d4 q1; omega
    have : D0 / 2 ^ 32 = D4 := by rw [show (2 : Nat) ^ 32 = 65536 * 65536 from rfl, ← Nat.div_div_eq_div_mul, q1, q2]
    rw [this]
  rw [s6]
  have t : Int64.toInt32 (nL (D0 + D4)) = nI (D0 + D4) := Int64.toInt32_ofNat'
  rw [t, show (127 : Int32) = nI 127 from rfl, r_andG, show (127 : Nat) = 2 ^ 7 - 1 from rfl, Nat.and_two_pow_sub_one_eq_mod]
  have : (D0 + D4) % 2 ^ 7 = p0 + p1 + p2 + p3 + p4 + p5 + p6 + p7 := by clear d1 d2 d3; omega
  rw [this]
theorem r_bcl {a : Nat} (ha : a < 2 ^ 60) : xbcl (nL a) = nI (yCn (fun i => a.testBit i) 60) := by
  have f := bl_fin (xpop_le 8 (a % 256)) (xpop_le 8 (a / 256 % 256)) (xpop_le 8 (a / 256 / 256 % 256)) (xpop_le 8 (a / 256 / 256 / 256 % 256)) (xpop_le 8 (a / 256 / 256 / 256 / 256 % 256)) (xpop_le 8 (a / 256 / 256 / 256 / 256 / 256 % 256)) (xpop_le 8 (a / 256 / 256 / 256 / 256 / 256 / 256 % 256)) (xpop_le 8 (a / 256 / 256 / 256 / 256 / 256 / 256 / 256 % 256)) (show pB 8 a = _ + 256 * pB 7 (a / 256) from rfl) (show pB 7 (a / 256) = _ + 256 * pB 6 (a / 256 / 256) from rfl) (show pB 6 (a / 256 / 256) = _ + 256 * pB 5 (a / 256 / 256 / 256) from rfl) (show pB 5 (a / 256 / 256 / 256) = _ + 256 * pB 4 (a / 256 / 256 / 256 / 256) from rfl) (show pB 4 (a / 256 / 256 / 256 / 256) = _ + 256 * pB 3 (a / 256 / 256 / 256 / 256 / 256) from rfl) (show pB 3 (a / 256 / 256 / 256 / 256 / 256) = _ + 256 * pB 2 (a / 256 / 256 / 256 / 256 / 256 / 256) from rfl) (show pB 2 (a / 256 / 256 / 256 / 256 / 256 / 256) = _ + 256 * pB 1 (a / 256 / 256 / 256 / 256 / 256 / 256 / 256) from rfl) (show pB 1 (a / 256 / 256 / 256 / 256 / 256 / 256 / 256) = _ from rfl)
  unfold xbcl
  rw [bl_nL (by omega), f]
  have s : ∀ x k, yCn (fun i => x.testBit i) (8 + k) = xpop 8 (x % 256) + yCn (fun i => (x / 256).testBit i) k := fun x k => by rw [yCn_cat, xpop_8, xpop_sh]
  have z : yCn (fun i => a.testBit i) 64 = yCn (fun i => a.testBit i) 60 := by
    have z0 : yCn (fun i => a.testBit (60 + i)) 4 = 0 := yCn_zero.mpr fun i _ y => by
      have := zLt_bit ha y
      omega
    rw [show 64 = 60 + 4 from rfl, yCn_cat, z0]
    rfl
  have y : yCn (fun i => a.testBit i) 64 = xpop 8 (a % 256) + (xpop 8 (a / 256 % 256) + (xpop 8 (a / 256 / 256 % 256) + (xpop 8 (a / 256 / 256 / 256 % 256) + (xpop 8 (a / 256 / 256 / 256 / 256 % 256) + (xpop 8 (a / 256 / 256 / 256 / 256 / 256 % 256) + (xpop 8 (a / 256 / 256 / 256 / 256 / 256 / 256 % 256) + (xpop 8 (a / 256 / 256 / 256 / 256 / 256 / 256 / 256 % 256) + 0))))))) := by
    rw [show 64 = 8 + (8 + (8 + (8 + (8 + (8 + (8 + (8 + 0))))))) from rfl, s, s, s, s, s, s, s, s]
    rfl
  rw [← z, y]
  congr 1
  simp only [Nat.add_assoc, Nat.add_zero]
/-- how many orders a set has, by words -/
theorem r_bclS {c lo hi : Nat} (hc : c ≤ 120) (h : zIn c lo hi) : xbcl (nL lo) + xbcl (nL hi) = nI (yCn (zSt lo hi) c) := by
  obtain ⟨b1, b2⟩ := zIn_lt h
  rw [r_bcl b1, r_bcl b2, nI_add]
  congr 1
  have e : yCn (zSt lo hi) c = yCn (zSt lo hi) 120 := by
    have z0 : yCn (fun i => zSt lo hi (c + i)) (120 - c) = 0 := yCn_zero.mpr fun i _ y => by
      have := zSt_in h y
      omega
    have e1 := yCn_cat (zSt lo hi) c (120 - c)
    rw [show c + (120 - c) = 120 by omega, z0, Nat.add_zero] at e1
    exact e1.symm
  have l1 : yCn (fun i => lo.testBit i) 60 = yCn (zSt lo hi) 60 := yCn_congr fun o ho => by unfold zSt; rw [if_pos ho]
  have l2 : yCn (fun i => hi.testBit i) 60 = yCn (fun i => zSt lo hi (60 + i)) 60 := yCn_congr fun o ho => by
    show _ = zSt lo hi (60 + o)
    unfold zSt
    rw [if_neg (by omega), show 60 + o - 60 = o by omega]
  rw [e, show 120 = 60 + 60 from rfl, yCn_cat, l1, l2]
end BC
