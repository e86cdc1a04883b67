/-! THE SEARCH: the sure pairs -/
section SU
variable {g g' : xSt} {n c P : Nat} {mk : Nat → Nat}
def zAn (mk : Nat → Nat) : Nat → Nat
  | 0 => 2 ^ 30 - 1
  | j + 1 => zAn mk j &&& mk j
theorem zAn_lt : ∀ j, zAn mk j < 2 ^ 30 := by
  intro j
  induction j with
  | zero => exact (by decide : 2 ^ 30 - 1 < 2 ^ 30)
  | succ j ih => exact Nat.lt_of_le_of_lt Nat.and_le_left ih
theorem zAn_bit {b : Nat} (hb : b < 30) : ∀ j, (zAn mk j).testBit b = true ↔ ∀ i, i < j → (mk i).testBit b = true := by
  intro j
  induction j with
  | zero =>
    refine ⟨fun _ i h => absurd h (by omega), fun _ => ?_⟩
    show (2 ^ 30 - 1).testBit b = true
    rw [Nat.testBit_two_pow_sub_one, decide_eq_true hb]
  | succ j ih =>
    show (zAn mk j &&& mk j).testBit b = true ↔ _
    rw [Nat.testBit_and, Bool.and_eq_true, ih]
    refine ⟨fun ⟨a, z⟩ i hi => ?_, fun z => ⟨fun i hi => z i (by omega), z j (by omega)⟩⟩
    by_cases e : i = j
    · rw [e]; exact z
    · exact a i (by omega)
def zSu (mk : Nat → Nat) (c P : Nat) : Nat := if c = 0 then 2 ^ P - 1 else zXr (zAn mk c) &&& (2 ^ P - 1)
theorem r_sure0 : ∀ P, P < 11 → ((((-1 : Int32) ||| ((-1) >>> ((10 : Int32) &&& 31))) ||| ((-1) >>> ((20 : Int32) &&& 31))) &&& nI (2 ^ P - 1)) = nI (2 ^ P - 1) := by decide +kernel
theorem r_neg1 (x : Int32) : (-1 : Int32) &&& x = x := by
  apply Int32.toBitVec_inj.mp
  rw [Int32.toBitVec_and, show (-1 : Int32).toBitVec = BitVec.allOnes 32 from rfl, BitVec.allOnes_and]
theorem r_1023P : ∀ P, P < 11 → ∀ x : Nat, ((x &&& 1023) &&& (2 ^ P - 1)) = x &&& (2 ^ P - 1) := fun P hP x => by
  rw [Nat.and_assoc, show (1023 : Nat) = 2 ^ 10 - 1 from rfl]
  congr 1
  apply Nat.eq_of_testBit_eq
  intro i
  rw [Nat.testBit_and, Nat.testBit_two_pow_sub_one, Nat.testBit_two_pow_sub_one, Bool.eq_iff_iff, Bool.and_eq_true, decide_eq_true_eq, decide_eq_true_eq]
  omega
theorem r_surePairs (hn : n ≤ 5) (hc : c ≤ 120) (h2 : xI g 76 2 = nI c) (h3 : xI g 76 3 = nI n) (hm : ∀ i, i < c → mk i < 2 ^ 30) (hr : ∀ i, i < c → xI g 77 i = nI (mk i)) : E_X8_surePairs g = some (nI (zSu mk c (n * (n - 1) / 2))) := by
  have hP := (yPs_3 n (by omega)).2.2
  have hF : F_X8_pairs g = nI (n * (n - 1) / 2) := by unfold F_X8_pairs; rw [h3, r_pairs8 n (by omega)]
  unfold E_X8_surePairs
  have e := xlim_of (step := S_X8_surePairs_4 g) (fun j => (if j = 0 then -1 else nI (zAn mk j), nI j)) c (e := if c = 0 then -1 else nI (zAn mk c)) (fun j hj => ?_) ?_
  · rw [show ((-1 : Int32), (0 : Int32)) = (if (0 : Nat) = 0 then -1 else nI (zAn mk 0), nI 0) from rfl, e, xb1_some, hF, r_all8 _ (by omega)]
    unfold zSu
    by_cases d : c = 0
    · rw [if_pos d, if_pos d, r_sure0 _ (by omega)]
    · rw [if_neg d, if_neg d]
      have l := zAn_lt (mk := mk) c
      rw [show (10 : Int32) = nI 10 from rfl, show (20 : Int32) = nI 20 from rfl, r_shr (by omega) (by decide), r_shr (by omega) (by decide), r_orG, r_orG, r_andG]
      unfold zXr
      rw [r_1023P _ (by omega)]
  · unfold S_X8_surePairs_4
    have l := hm j hj
    simp only [h2, if_neg (nI_ge hj (show c < 2 ^ 31 by omega)), xat_nI (show j < 120 by omega) (show 120 < 2 ^ 31 by decide), hr j hj, nI_1]
    rw [if_neg (show ¬ j + 1 = 0 by omega)]
    by_cases d : j = 0
    · subst d
      rw [if_pos rfl, r_neg1]
      have : zAn mk (0 + 1) = mk 0 := by
        show (2 ^ 30 - 1) &&& mk 0 = mk 0
        rw [Nat.and_comm, Nat.and_two_pow_sub_one_eq_mod, Nat.mod_eq_of_lt l]
      rw [this]
    · rw [if_neg d, r_andG]; rfl
  · unfold S_X8_surePairs_4
    simp only [h2]
    exact if_pos (nI_le (Nat.le_refl _) (by omega))
end SU
