/-! part 14: how many bits are set: the library's way of counting in bytes -/
def bs (x : Nat) : Nat → Nat
  | 0 => 0
  | n + 1 => bs x n + (if x.testBit n then 1 else 0)
def mkB (c : Nat) : Nat → Nat
  | 0 => 0
  | n + 1 => c + 256 * mkB c n
theorem and_blk {x0 r a b : Nat} (h0 : x0 < 256) (ha : a < 256) : (x0 + 256 * r) &&& (a + 256 * b) = (x0 &&& a) + 256 * (r &&& b) := by
  have h1 : x0 < 2 ^ 8 := h0
  have h2 : a < 2 ^ 8 := ha
  have h3 : x0 &&& a < 2 ^ 8 := Nat.lt_of_le_of_lt Nat.and_le_left h1
  apply Nat.eq_of_testBit_eq
  intro i
  rw [Nat.add_comm x0, Nat.add_comm a, Nat.add_comm (x0 &&& a), Nat.testBit_and, show (256 : Nat) = 2 ^ 8 from rfl, Nat.testBit_two_pow_mul_add _ h1, Nat.testBit_two_pow_mul_add _ h2, Nat.testBit_two_pow_mul_add _ h3]
  split
  · rw [Nat.testBit_and]
  · rw [Nat.testBit_and]
theorem mkB_succ (c n : Nat) : mkB c (n + 1) = c + 256 * mkB c n := rfl
def t1 (x : Nat) : Nat := x - ((x / 2) &&& 85)
def t2 (y : Nat) : Nat := (y &&& 51) + ((y / 4) &&& 51)
def t3 (z : Nat) : Nat := (z + z / 16) &&& 15
def P1 (n x : Nat) : Nat := x - ((x / 2) &&& mkB 85 n)
def P2 (n y : Nat) : Nat := (y &&& mkB 51 n) + ((y / 4) &&& mkB 51 n)
def P3 (n z : Nat) : Nat := (z + z / 16) &&& mkB 15 n
theorem b1 : ∀ x : Fin 256, ∀ k : Fin 2, ((x.val / 2 + 128 * k.val) &&& 85 = (x.val / 2) &&& 85) ∧ ((x.val / 2) &&& 85 ≤ x.val) := by decide +kernel
theorem b2 : ∀ y : Fin 256, ∀ k : Fin 4, ((y.val / 4 + 64 * k.val) &&& 51 = (y.val / 4) &&& 51) ∧ t2 y.val < 256 := by decide +kernel
theorem b3 : ∀ x : Fin 256, ∀ k : Fin 5, ((t2 (t1 x.val) + t2 (t1 x.val) / 16 + 16 * k.val) &&& 15 = t3 (t2 (t1 x.val))) ∧ t2 (t1 x.val) + t2 (t1 x.val) / 16 + 16 * k.val < 256 ∧ t2 (t1 x.val) % 16 ≤ 4 ∧ t1 x.val < 256 := by decide +kernel
theorem b4 : ∀ x : Fin 256, t3 (t2 (t1 x.val)) = bs x.val 8 := by decide +kernel
theorem P1_step {n x0 r : Nat} (h0 : x0 < 256) : P1 (n + 1) (x0 + 256 * r) = t1 x0 + 256 * P1 n r := by
  unfold P1 t1
  rw [mkB_succ]
  have hk := Nat.mod_lt r (show 2 > 0 by decide)
  have b := b1 ⟨x0, h0⟩ ⟨r % 2, hk⟩
  simp only at b
  have e : (x0 + 256 * r) / 2 = (x0 / 2 + 128 * (r % 2)) + 256 * (r / 2) := by omega
  rw [e, and_blk (by omega) (by decide), b.1]
  have h2 : r / 2 &&& mkB 85 n ≤ r := Nat.le_trans Nat.and_le_left (Nat.div_le_self _ _)
  have h3 := b.2
  omega
theorem P2_step {n y0 r : Nat} (h0 : y0 < 256) : P2 (n + 1) (y0 + 256 * r) = t2 y0 + 256 * P2 n r := by
  unfold P2 t2
  rw [mkB_succ]
  have hk := Nat.mod_lt r (show 4 > 0 by decide)
  have b := b2 ⟨y0, h0⟩ ⟨r % 4, hk⟩
  simp only at b
  have e : (y0 + 256 * r) / 4 = (y0 / 4 + 64 * (r % 4)) + 256 * (r / 4) := by omega
  rw [e, and_blk h0 (by decide), and_blk (by omega) (by decide), b.1]
  omega
theorem P12 : ∀ n x : Nat, x < 256 ^ n → ∃ z : Nat, P2 n (P1 n x) = z ∧ z % 16 ≤ 4
  | 0, x, h => ⟨_, rfl, by
    have : x = 0 := by simpa using h
    subst this
    decide⟩
  | n + 1, x, h => by
    refine ⟨_, rfl, ?_⟩
    have e : x = x % 256 + 256 * (x / 256) := by omega
    have h0 := Nat.mod_lt x (show 256 > 0 by decide)
    have b := b3 ⟨x % 256, h0⟩ 0
    simp only at b
    rw [e, P1_step h0, P2_step b.2.2.2]
    have := b.2.2.1
    omega
theorem P_step {n x0 r : Nat} (h0 : x0 < 256) (hr : r < 256 ^ n) : P3 (n + 1) (P2 (n + 1) (P1 (n + 1) (x0 + 256 * r))) = bs x0 8 + 256 * P3 n (P2 n (P1 n r)) := by
  obtain ⟨z, hz, hz4⟩ := P12 n r hr
  have b := b3 ⟨x0, h0⟩ ⟨z % 16, by omega⟩
  simp only at b
  rw [P1_step h0, P2_step b.2.2.2, hz]
  unfold P3
  rw [mkB_succ]
  have e : t2 (t1 x0) + 256 * z + (t2 (t1 x0) + 256 * z) / 16 = (t2 (t1 x0) + t2 (t1 x0) / 16 + 16 * (z % 16)) + 256 * (z + z / 16) := by omega
  rw [e, and_blk b.2.1 (by decide), b.1, b4 ⟨x0, h0⟩]
theorem bs_le (x : Nat) : ∀ n, bs x n ≤ n
  | 0 => Nat.le_refl _
  | n + 1 => by unfold bs; have := bs_le x n; split <;> omega
theorem bs_congr {x y : Nat} : ∀ n, (∀ i, i < n → x.testBit i = y.testBit i) → bs x n = bs y n
  | 0, _ => rfl
  | n + 1, h => by unfold bs; rw [bs_congr n (fun i hi => h i (by omega)), h n (by omega)]
theorem bs_split {x0 r : Nat} (h0 : x0 < 256) : ∀ n, bs (x0 + 256 * r) (8 + n) = bs x0 8 + bs r n
  | 0 => by
    show _ = _ + 0
    refine bs_congr 8 (fun i hi => ?_)
    rw [Nat.add_comm, show (256 : Nat) = 2 ^ 8 from rfl, Nat.testBit_two_pow_mul_add _ (show x0 < 2 ^ 8 from h0), if_pos hi]
  | n + 1 => by
    have ih := bs_split (r := r) h0 n
    show bs (x0 + 256 * r) (8 + n) + (if (x0 + 256 * r).testBit (8 + n) = true then 1 else 0) = _ + (bs r n + _)
    rw [ih]
    have e : (x0 + 256 * r).testBit (8 + n) = r.testBit n := by
      rw [Nat.add_comm, show (256 : Nat) = 2 ^ 8 from rfl, Nat.testBit_two_pow_mul_add _ (show x0 < 2 ^ 8 from h0), if_neg (by omega)]
      congr 1
      omega
    rw [e]
    omega
/-- eight bytes -/
theorem P_eq8 {x : Nat} (h : x < 2 ^ 64) : ∃ c0 c1 c2 c3 c4 c5 c6 c7 : Nat, c0 ≤ 8 ∧ c1 ≤ 8 ∧ c2 ≤ 8 ∧ c3 ≤ 8 ∧ c4 ≤ 8 ∧ c5 ≤ 8 ∧ c6 ≤ 8 ∧ c7 ≤ 8 ∧ P3 8 (P2 8 (P1 8 x)) = c0 + 256 * (c1 + 256 * (c2 + 256 * (c3 + 256 * (c4 + 256 * (c5 + 256 * (c6 + 256 * c7)))))) ∧ bs x 64 = c0 + c1 + c2 + c3 + c4 + c5 + c6 + c7 := by
  have st : ∀ n y : Nat, y < 256 ^ (n + 1) → ∃ c r : Nat, c ≤ 8 ∧ r < 256 ^ n ∧ P3 (n + 1) (P2 (n + 1) (P1 (n + 1) y)) = c + 256 * P3 n (P2 n (P1 n r)) ∧ bs y (8 + 8 * n) = c + bs r (8 * n) := by
    intro n y hy
    have e : y = y % 256 + 256 * (y / 256) := by omega
    have h0 := Nat.mod_lt y (show 256 > 0 by decide)
    have hr : y / 256 < 256 ^ n := by
      rw [Nat.pow_succ, Nat.mul_comm] at hy
      exact Nat.div_lt_of_lt_mul hy
    refine ⟨bs (y % 256) 8, y / 256, bs_le _ 8, hr, ?_, ?_⟩
    · conv => lhs; rw [e]
      exact P_step h0 hr
    · conv => lhs; rw [e]
      exact bs_split h0 _
  obtain ⟨c0, r0, g0, k0, e0, f0⟩ := st 7 x (by simpa using h)
  obtain ⟨c1, r1, g1, k1, e1, f1⟩ := st 6 r0 k0
  obtain ⟨c2, r2, g2, k2, e2, f2⟩ := st 5 r1 k1
  obtain ⟨c3, r3, g3, k3, e3, f3⟩ := st 4 r2 k2
  obtain ⟨c4, r4, g4, k4, e4, f4⟩ := st 3 r3 k3
  obtain ⟨c5, r5, g5, k5, e5, f5⟩ := st 2 r4 k4
  obtain ⟨c6, r6, g6, k6, e6, f6⟩ := st 1 r5 k5
  obtain ⟨c7, r7, g7, k7, e7, f7⟩ := st 0 r6 k6
  have z7 : P3 0 (P2 0 (P1 0 r7)) = 0 := by simp [P3, mkB]
  have z8 : bs r7 (8 * 0) = 0 := rfl
  rw [z7] at e7
  rw [z8] at f7
  refine ⟨c0, c1, c2, c3, c4, c5, c6, c7, g0, g1, g2, g3, g4, g5, g6, g7, ?_, ?_⟩
  · rw [e0, e1, e2, e3, e4, e5, e6, e7]
    omega
  · have q0 : bs x 64 = c0 + bs r0 56 := f0
    have q1 : bs r0 56 = c1 + bs r1 48 := f1
    have q2 : bs r1 48 = c2 + bs r2 40 := f2
    have q3 : bs r2 40 = c3 + bs r3 32 := f3
    have q4 : bs r3 32 = c4 + bs r4 24 := f4
    have q5 : bs r4 24 = c5 + bs r5 16 := f5
    have q6 : bs r5 16 = c6 + bs r6 8 := f6
    have q7 : bs r6 8 = c7 + 0 := f7
    omega
/-- four bytes -/
theorem P_eq4 {x : Nat} (h : x < 2 ^ 32) : ∃ c0 c1 c2 c3 : Nat, c0 ≤ 8 ∧ c1 ≤ 8 ∧ c2 ≤ 8 ∧ c3 ≤ 8 ∧ P3 4 (P2 4 (P1 4 x)) = c0 + 256 * (c1 + 256 * (c2 + 256 * c3)) ∧ bs x 32 = c0 + c1 + c2 + c3 := by
  have st : ∀ n y : Nat, y < 256 ^ (n + 1) → ∃ c r : Nat, c ≤ 8 ∧ r < 256 ^ n ∧ P3 (n + 1) (P2 (n + 1) (P1 (n + 1) y)) = c + 256 * P3 n (P2 n (P1 n r)) ∧ bs y (8 + 8 * n) = c + bs r (8 * n) := by
    intro n y hy
    have e : y = y % 256 + 256 * (y / 256) := by omega
    have h0 := Nat.mod_lt y (show 256 > 0 by decide)
    have hr : y / 256 < 256 ^ n := by
      rw [Nat.pow_succ, Nat.mul_comm] at hy
      exact Nat.div_lt_of_lt_mul hy
    refine ⟨bs (y % 256) 8, y / 256, bs_le _ 8, hr, ?_, ?_⟩
    · conv => lhs; rw [e]
      exact P_step h0 hr
    · conv => lhs; rw [e]
      exact bs_split h0 _
  obtain ⟨c0, r0, g0, k0, e0, f0⟩ := st 3 x (by simpa using h)
  obtain ⟨c1, r1, g1, k1, e1, f1⟩ := st 2 r0 k0
  obtain ⟨c2, r2, g2, k2, e2, f2⟩ := st 1 r1 k1
  obtain ⟨c3, r3, g3, k3, e3, f3⟩ := st 0 r2 k2
  have z7 : P3 0 (P2 0 (P1 0 r3)) = 0 := by simp [P3, mkB]
  have z8 : bs r3 (8 * 0) = 0 := rfl
  rw [z7] at e3
  rw [z8] at f3
  refine ⟨c0, c1, c2, c3, g0, g1, g2, g3, ?_, ?_⟩
  · rw [e0, e1, e2, e3]
    omega
  · have q0 : bs x 32 = c0 + bs r0 24 := f0
    have q1 : bs r0 24 = c1 + bs r1 16 := f1
    have q2 : bs r1 16 = c2 + bs r2 8 := f2
    have q3 : bs r2 8 = c3 + 0 := f3
    omega
theorem fo1 {z c0 u1 : Nat} (g0 : c0 ≤ 8) (h : z = c0 + 256 * u1) : z / 256 = u1 := by omega
theorem fo2 {y a b v2 : Nat} (g0 : a ≤ 16) (g1 : b ≤ 16) (h : y = a + 256 * (b + 256 * v2)) : y / 65536 = v2 := by omega
theorem fo3 {x a b c d v : Nat} (g0 : a ≤ 32) (g1 : b ≤ 32) (g2 : c ≤ 32) (g3 : d ≤ 32) (h : x = a + 256 * b + 65536 * c + 16777216 * d + 4294967296 * v) : x / 4294967296 = v := by omega
theorem fold8 {z : Nat} {c0 c1 c2 c3 c4 c5 c6 c7 : Nat} (g0 : c0 ≤ 8) (g1 : c1 ≤ 8) (g2 : c2 ≤ 8) (g3 : c3 ≤ 8) (g4 : c4 ≤ 8) (g5 : c5 ≤ 8) (g6 : c6 ≤ 8) (g7 : c7 ≤ 8) (h : z = c0 + 256 * (c1 + 256 * (c2 + 256 * (c3 + 256 * (c4 + 256 * (c5 + 256 * (c6 + 256 * c7))))))) :
    (z + z / 256 + (z + z / 256) / 65536 + (z + z / 256 + (z + z / 256) / 65536) / 4294967296) % 128 = c0 + c1 + c2 + c3 + c4 + c5 + c6 + c7 := by
  have a1 := fo1 g0 h
  rw [a1]
  have hy : z + (c1 + 256 * (c2 + 256 * (c3 + 256 * (c4 + 256 * (c5 + 256 * (c6 + 256 * c7)))))) = (c0 + c1) + 256 * ((c1 + c2) + 256 * ((c2 + c3) + 256 * ((c3 + c4) + 256 * ((c4 + c5) + 256 * ((c5 + c6) + 256 * ((c6 + c7) + 256 * c7)))))) := by rw [h]; omega
  rw [hy, fo2 (by omega) (by omega) rfl]
  have hx : (c0 + c1) + 256 * ((c1 + c2) + 256 * ((c2 + c3) + 256 * ((c3 + c4) + 256 * ((c4 + c5) + 256 * ((c5 + c6) + 256 * ((c6 + c7) + 256 * c7)))))) + ((c2 + c3) + 256 * ((c3 + c4) + 256 * ((c4 + c5) + 256 * ((c5 + c6) + 256 * ((c6 + c7) + 256 * c7))))) = (c0 + c1 + c2 + c3) + 256 * (c1 + c2 + c3 + c4) + 65536 * (c2 + c3 + c4 + c5) + 16777216 * (c3 + c4 + c5 + c6) + 4294967296 * ((c4 + c5 + c6 + c7) + 256 * ((c5 + c6 + c7) + 256 * ((c6 + c7) + 256 * c7))) := by omega
  rw [hx, fo3 (by omega) (by omega) (by omega) (by omega) rfl]
  clear hx hy a1 h
  omega
theorem fold4 {z : Nat} {c0 c1 c2 c3 : Nat} (g0 : c0 ≤ 8) (g1 : c1 ≤ 8) (g2 : c2 ≤ 8) (g3 : c3 ≤ 8) (h : z = c0 + 256 * (c1 + 256 * (c2 + 256 * c3))) :
    (z + z / 256 + (z + z / 256) / 65536) % 64 = c0 + c1 + c2 + c3 := by
  have a1 : z / 256 = c1 + 256 * (c2 + 256 * c3) := by omega
  generalize hy : z + z / 256 = y
  have hy2 : y = (c0 + c1) + 256 * ((c1 + c2) + 256 * ((c2 + c3) + 256 * c3)) := by omega
  have a2 : y / 65536 = (c2 + c3) + 256 * c3 := by omega
  rw [a2]
  omega
theorem j_ucnt : ∀ k : Fin 64, (((Int32.ofInt (k.val : Int)).toInt64.toUInt64 &&& Int64.toUInt64 63).toNat % 64) = k.val := by decide +kernel
theorem i_ucnt : ∀ k : Fin 32, (((Int32.ofInt (k.val : Int)).toUInt32 &&& Int32.toUInt32 31).toNat % 32) = k.val := by decide +kernel
theorem j_ushr (a k : Nat) (hk : k < 64) (ha : a < 2 ^ 64) : ((Int64.ofInt (a : Int)).toUInt64 >>> ((Int32.ofInt (k : Int)).toInt64.toUInt64 &&& Int64.toUInt64 63)).toInt64 = Int64.ofInt ((a / 2 ^ k : Nat) : Int) := by
  apply Int64.toBitVec_inj.mp
  apply BitVec.eq_of_toNat_eq
  show ((Int64.ofInt (a : Int)).toUInt64 >>> _).toNat = _
  rw [UInt64.toNat_shiftRight, j_ucnt ⟨k, hk⟩, j_bv, BitVec.toNat_ofNat]
  have e : (Int64.ofInt (a : Int)).toUInt64.toNat = a := by
    show (Int64.ofInt (a : Int)).toBitVec.toNat = a
    rw [j_bv, BitVec.toNat_ofNat, Nat.mod_eq_of_lt ha]
  rw [e, Nat.shiftRight_eq_div_pow]
  have := Nat.div_le_self a (2 ^ k)
  rw [Nat.mod_eq_of_lt (by omega)]
theorem i_ushr (a k : Nat) (hk : k < 32) (ha : a < 2 ^ 32) : ((Int32.ofInt (a : Int)).toUInt32 >>> ((Int32.ofInt (k : Int)).toUInt32 &&& Int32.toUInt32 31)).toInt32 = Int32.ofInt ((a / 2 ^ k : Nat) : Int) := by
  apply Int32.toBitVec_inj.mp
  apply BitVec.eq_of_toNat_eq
  show ((Int32.ofInt (a : Int)).toUInt32 >>> _).toNat = _
  rw [UInt32.toNat_shiftRight, i_ucnt ⟨k, hk⟩, i_bv, BitVec.toNat_ofNat]
  have e : (Int32.ofInt (a : Int)).toUInt32.toNat = a := by
    show (Int32.ofInt (a : Int)).toBitVec.toNat = a
    rw [i_bv, BitVec.toNat_ofNat, Nat.mod_eq_of_lt ha]
  rw [e, Nat.shiftRight_eq_div_pow]
  have := Nat.div_le_self a (2 ^ k)
  rw [Nat.mod_eq_of_lt (by omega)]
theorem mk8 : mkB 85 8 = 6148914691236517205 ∧ mkB 51 8 = 3689348814741910323 ∧ mkB 15 8 = 1085102592571150095 := by decide
theorem mk4 : mkB 85 4 = 1431655765 ∧ mkB 51 4 = 858993459 ∧ mkB 15 4 = 252645135 := by decide
theorem P1_int (n x : Nat) : ((P1 n x : Nat) : Int) = (x : Int) - (((x / 2) &&& mkB 85 n : Nat) : Int) := by
  unfold P1
  have h2 : x / 2 &&& mkB 85 n ≤ x := Nat.le_trans Nat.and_le_left (Nat.div_le_self _ _)
  omega
theorem P2_le (n y : Nat) : P2 n y ≤ mkB 51 n + mkB 51 n := Nat.add_le_add Nat.and_le_right Nat.and_le_right
theorem P3_le (n y : Nat) : P3 n y ≤ mkB 15 n := Nat.and_le_right
theorem cn_bs {m : Nat} (h0 : m.testBit 0 = false) : ∀ n : Nat, ((bs m (n + 1) : Nat) : Int) = cn (fun v => m.testBit v.toNat = true) n
  | 0 => by
    unfold bs bs cn
    rw [h0]
    rfl
  | n + 1 => by
    unfold bs
    rw [Int.natCast_add, cn_bs h0 n]
    show _ = cn _ n + bi (m.testBit (((n + 1 : Nat) : Int)).toNat = true)
    rw [show (((n + 1 : Nat) : Int)).toNat = n + 1 from rfl]
    by_cases h : m.testBit (n + 1) = true
    · rw [if_pos h, bi_t h]; rfl
    · rw [if_neg h, bi_f h]; rfl
theorem bs_more {m n : Nat} (h : ∀ v, n ≤ v → m.testBit v = false) : ∀ k, bs m (n + k) = bs m n
  | 0 => rfl
  | k + 1 => by
    have e : bs m (n + (k + 1)) = bs m (n + k) + (if m.testBit (n + k) then 1 else 0) := rfl
    rw [e, h _ (by omega), bs_more h k]
    rfl
/-- a mask without place 0: how many of 1 .. 60 -/
theorem cn_mask {m : Nat} {P : Int → Prop} (hm : m < 2 ^ 61) (h : ∀ v : Nat, v ≤ 60 → (m.testBit v = true ↔ P v)) (h0 : ¬ P 0) : ((bs m 64 : Nat) : Int) = cn P 60 := by
  have e0 : m.testBit 0 = false := by
    have := h 0 (by omega)
    cases hb : m.testBit 0
    · rfl
    · exact absurd (this.mp hb) h0
  rw [bs_more (n := 61) (fun v hv => tb_big hm (by omega)) 3, cn_bs e0 60]
  refine cn_congr 60 (fun v h1 h2 => ?_)
  have := h v.toNat (by omega)
  rw [this, show ((v.toNat : Nat) : Int) = v by omega]
