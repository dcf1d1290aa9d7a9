/-! part 12: masks as natural numbers in longs and ints -/
theorem j_nat (n : Nat) : Int64.ofInt (n : Int) = Int64.ofNat n := rfl
theorem i_nat (n : Nat) : Int32.ofInt (n : Int) = Int32.ofNat n := rfl
theorem j_bv (n : Nat) : (Int64.ofInt (n : Int)).toBitVec = BitVec.ofNat 64 n := rfl
theorem i_bv (n : Nat) : (Int32.ofInt (n : Int)).toBitVec = BitVec.ofNat 32 n := rfl
theorem j_and (a b : Nat) : Int64.ofInt (a : Int) &&& Int64.ofInt (b : Int) = Int64.ofInt ((a &&& b : Nat) : Int) := by
  apply Int64.toBitVec_inj.mp
  rw [Int64.toBitVec_and, j_bv, j_bv, j_bv]
  apply BitVec.eq_of_getLsbD_eq
  intro i hi
  simp [BitVec.getLsbD_ofNat, hi]
theorem j_or (a b : Nat) : Int64.ofInt (a : Int) ||| Int64.ofInt (b : Int) = Int64.ofInt ((a ||| b : Nat) : Int) := by
  apply Int64.toBitVec_inj.mp
  rw [Int64.toBitVec_or, j_bv, j_bv, j_bv]
  apply BitVec.eq_of_getLsbD_eq
  intro i hi
  simp [BitVec.getLsbD_ofNat, hi]
theorem i_and (a b : Nat) : Int32.ofInt (a : Int) &&& Int32.ofInt (b : Int) = Int32.ofInt ((a &&& b : Nat) : Int) := by
  apply Int32.toBitVec_inj.mp
  rw [Int32.toBitVec_and, i_bv, i_bv, i_bv]
  apply BitVec.eq_of_getLsbD_eq
  intro i hi
  simp [BitVec.getLsbD_ofNat, hi]
theorem i_or (a b : Nat) : Int32.ofInt (a : Int) ||| Int32.ofInt (b : Int) = Int32.ofInt ((a ||| b : Nat) : Int) := by
  apply Int32.toBitVec_inj.mp
  rw [Int32.toBitVec_or, i_bv, i_bv, i_bv]
  apply BitVec.eq_of_getLsbD_eq
  intro i hi
  simp [BitVec.getLsbD_ofNat, hi]
theorem j_not (a : Int) : Int64.ofInt a ^^^ Int64.ofInt (-1) = Int64.ofInt (-1 - a) := by
  have e1 : Int64.ofInt a ^^^ Int64.ofInt (-1) = ~~~ Int64.ofInt a := by
    apply Int64.toBitVec_inj.mp
    rw [Int64.toBitVec_xor, Int64.toBitVec_not]
    exact BitVec.xor_allOnes
  have e2 : ~~~ Int64.ofInt a = -1 - Int64.ofInt a := by
    apply Int64.toBitVec_inj.mp
    rw [Int64.toBitVec_not, Int64.toBitVec_sub]
    show _ = BitVec.allOnes 64 - _
    rw [BitVec.allOnes_sub_eq_not]
  rw [e1, e2, Int64.ofInt_sub]
  rfl
theorem i_not (a : Int) : Int32.ofInt a ^^^ Int32.ofInt (-1) = Int32.ofInt (-1 - a) := by
  have e1 : Int32.ofInt a ^^^ Int32.ofInt (-1) = ~~~ Int32.ofInt a := by
    apply Int32.toBitVec_inj.mp
    rw [Int32.toBitVec_xor, Int32.toBitVec_not]
    exact BitVec.xor_allOnes
  have e2 : ~~~ Int32.ofInt a = -1 - Int32.ofInt a := by
    apply Int32.toBitVec_inj.mp
    rw [Int32.toBitVec_not, Int32.toBitVec_sub]
    show _ = BitVec.allOnes 32 - _
    rw [BitVec.allOnes_sub_eq_not]
  rw [e1, e2, Int32.ofInt_sub]
  rfl
/-- all of T that isn't in a -/
theorem j_notand (a T : Nat) : Int64.ofInt (-1 - (a : Int)) &&& Int64.ofInt (T : Int) = Int64.ofInt ((T &&& (T ^^^ a) : Nat) : Int) := by
  rw [← j_not]
  apply Int64.toBitVec_inj.mp
  rw [Int64.toBitVec_and, Int64.toBitVec_xor, j_bv, j_bv, j_bv]
  apply BitVec.eq_of_getLsbD_eq
  intro i hi
  have e : (Int64.ofInt (-1)).toBitVec = BitVec.allOnes 64 := rfl
  rw [e]
  simp only [BitVec.getLsbD_and, BitVec.getLsbD_xor, BitVec.getLsbD_allOnes, BitVec.getLsbD_ofNat, Nat.testBit_and, Nat.testBit_xor, hi, decide_true, Bool.true_and]
  cases a.testBit i <;> cases T.testBit i <;> rfl
theorem i_notand (a T : Nat) : Int32.ofInt (-1 - (a : Int)) &&& Int32.ofInt (T : Int) = Int32.ofInt ((T &&& (T ^^^ a) : Nat) : Int) := by
  rw [← i_not]
  apply Int32.toBitVec_inj.mp
  rw [Int32.toBitVec_and, Int32.toBitVec_xor, i_bv, i_bv, i_bv]
  apply BitVec.eq_of_getLsbD_eq
  intro i hi
  have e : (Int32.ofInt (-1)).toBitVec = BitVec.allOnes 32 := rfl
  rw [e]
  simp only [BitVec.getLsbD_and, BitVec.getLsbD_xor, BitVec.getLsbD_allOnes, BitVec.getLsbD_ofNat, Nat.testBit_and, Nat.testBit_xor, hi, decide_true, Bool.true_and]
  cases a.testBit i <;> cases T.testBit i <;> rfl
theorem j_cnt : ∀ k : Fin 64, (((Int32.ofInt (k.val : Int)).toInt64 &&& 63).toBitVec.smod 64).toNat = k.val := by decide +kernel
theorem i_cnt : ∀ k : Fin 32, ((Int32.ofInt (k.val : Int) &&& 31).toBitVec.smod 32).toNat = k.val := by decide +kernel
theorem j_shl (a k : Nat) (hk : k < 64) : Int64.ofInt (a : Int) <<< ((Int32.ofInt (k : Int)).toInt64 &&& 63) = Int64.ofInt ((a <<< k : Nat) : Int) := by
  apply Int64.toBitVec_inj.mp
  rw [Int64.toBitVec_shiftLeft, j_bv, j_bv]
  have e := j_cnt ⟨k, hk⟩
  rw [BitVec.shiftLeft_eq', e]
  apply BitVec.eq_of_getLsbD_eq
  intro i hi
  simp only [BitVec.getLsbD_shiftLeft, BitVec.getLsbD_ofNat, hi, decide_true, Bool.true_and, Nat.testBit_shiftLeft]
  by_cases h : i < k
  · have h9 : ¬ k ≤ i := by omega
    simp [h, h9]
  · have h2 : i - k < 64 := by omega
    have h3 : k ≤ i := by omega
    simp [h, h2, h3]
    try omega
theorem i_shl (a k : Nat) (hk : k < 32) : Int32.ofInt (a : Int) <<< (Int32.ofInt (k : Int) &&& 31) = Int32.ofInt ((a <<< k : Nat) : Int) := by
  apply Int32.toBitVec_inj.mp
  rw [Int32.toBitVec_shiftLeft, i_bv, i_bv]
  have e := i_cnt ⟨k, hk⟩
  rw [BitVec.shiftLeft_eq', e]
  apply BitVec.eq_of_getLsbD_eq
  intro i hi
  simp only [BitVec.getLsbD_shiftLeft, BitVec.getLsbD_ofNat, hi, decide_true, Bool.true_and, Nat.testBit_shiftLeft]
  by_cases h : i < k
  · have h9 : ¬ k ≤ i := by omega
    simp [h, h9]
  · have h2 : i - k < 64 := by omega
    have h3 : k ≤ i := by omega
    simp [h, h2, h3]
    try omega
theorem j_shr (a k : Nat) (hk : k < 64) (ha : a < 2 ^ 63) : Int64.ofInt (a : Int) >>> ((Int32.ofInt (k : Int)).toInt64 &&& 63) = Int64.ofInt ((a >>> k : Nat) : Int) := by
  apply Int64.toBitVec_inj.mp
  rw [Int64.toBitVec_shiftRight, j_bv, j_bv]
  have e := j_cnt ⟨k, hk⟩
  rw [BitVec.sshiftRight_eq', e]
  have hm : (BitVec.ofNat 64 a).msb = false := by
    rw [BitVec.msb_eq_decide]
    simp
    omega
  rw [BitVec.sshiftRight_eq_of_msb_false hm]
  apply BitVec.eq_of_toNat_eq
  rw [BitVec.toNat_ushiftRight, BitVec.toNat_ofNat, BitVec.toNat_ofNat, Nat.mod_eq_of_lt (by omega)]
  have h2 : a >>> k ≤ a := by rw [Nat.shiftRight_eq_div_pow]; exact Nat.div_le_self _ _
  rw [Nat.mod_eq_of_lt (by omega)]
theorem i_shr (a k : Nat) (hk : k < 32) (ha : a < 2 ^ 31) : Int32.ofInt (a : Int) >>> (Int32.ofInt (k : Int) &&& 31) = Int32.ofInt ((a >>> k : Nat) : Int) := by
  apply Int32.toBitVec_inj.mp
  rw [Int32.toBitVec_shiftRight, i_bv, i_bv]
  have e := i_cnt ⟨k, hk⟩
  rw [BitVec.sshiftRight_eq', e]
  have hm : (BitVec.ofNat 32 a).msb = false := by
    rw [BitVec.msb_eq_decide]
    simp
    omega
  rw [BitVec.sshiftRight_eq_of_msb_false hm]
  apply BitVec.eq_of_toNat_eq
  rw [BitVec.toNat_ushiftRight, BitVec.toNat_ofNat, BitVec.toNat_ofNat, Nat.mod_eq_of_lt (by omega)]
  have h2 : a >>> k ≤ a := by rw [Nat.shiftRight_eq_div_pow]; exact Nat.div_le_self _ _
  rw [Nat.mod_eq_of_lt (by omega)]
theorem b_and1 (a k : Nat) : ((a >>> k) &&& 1 : Nat) = (if a.testBit k then 1 else 0) := by
  rw [Nat.testBit, Nat.and_comm]
  have h : 1 &&& (a >>> k) = (a >>> k) % 2 := by rw [Nat.and_comm]; exact Nat.and_one_is_mod _
  rw [h]
  rcases Nat.mod_two_eq_zero_or_one (a >>> k) with e | e <;> simp [e]
/-- one bit out of a long, of an int -/
theorem j_bit (a k : Nat) (hk : k < 64) (ha : a < 2 ^ 63) : Int64.ofInt ((a >>> k : Nat) : Int) &&& Int64.ofInt 1 = Int64.ofInt (bi (a.testBit k = true)) := by
  have := j_and (a >>> k) 1
  rw [show ((1 : Nat) : Int) = 1 from rfl] at this
  rw [this, b_and1]
  by_cases h : a.testBit k = true
  · rw [if_pos h, bi_t h]; rfl
  · rw [if_neg h, bi_f h]; rfl
theorem i_bit (a k : Nat) : Int32.ofInt ((a >>> k : Nat) : Int) &&& Int32.ofInt 1 = Int32.ofInt (bi (a.testBit k = true)) := by
  have := i_and (a >>> k) 1
  rw [show ((1 : Nat) : Int) = 1 from rfl] at this
  rw [this, b_and1]
  by_cases h : a.testBit k = true
  · rw [if_pos h, bi_t h]; rfl
  · rw [if_neg h, bi_f h]; rfl
/-- a mask of the places 0 .. 60 -/
def TT : Nat := 2305843009213693951
def Mk (z : Int) (P : Int → Prop) : Prop := ∃ m : Nat, z = (m : Int) ∧ m < 2 ^ 61 ∧ ∀ v : Nat, v ≤ 60 → (m.testBit v = true ↔ P v)
theorem tb_big {m v : Nat} (h : m < 2 ^ 61) (hv : 60 < v) : m.testBit v = false := Nat.testBit_lt_two_pow (Nat.lt_of_lt_of_le h (Nat.pow_le_pow_right (by decide) hv))
theorem tt_bit (v : Nat) : TT.testBit v = decide (v ≤ 60) := by
  have e : TT = 2 ^ 61 - 1 := by decide
  rw [e, Nat.testBit_two_pow_sub_one]
  exact decide_eq_decide.mpr (by omega)
theorem lt_of_tb {m : Nat} (h : ∀ v, 60 < v → m.testBit v = false) : m < 2 ^ 61 := Nat.lt_pow_two_of_testBit m (fun v hv => h v (by omega))
