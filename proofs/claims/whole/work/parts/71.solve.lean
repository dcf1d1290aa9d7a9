/-! part 71: what is left behind a number, whose it is: the numbers' side -/
def AL : Nat := 268435455
theorem al_bit (v : Nat) : AL.testBit v = decide (v < 28) := by
  have e : AL = 2 ^ 28 - 1 := by decide
  rw [e, Nat.testBit_two_pow_sub_one]
theorem na_bit {m v : Nat} : (AL &&& (AL ^^^ m)).testBit v = (decide (v < 28) && !m.testBit v) := by
  rw [Nat.testBit_and, Nat.testBit_xor, al_bit]
  cases m.testBit v <;> by_cases h : v < 28 <;> simp [h]
theorem gbStep_bit {had n : Nat} (hn : 1 ≤ n) (hh : ∀ v, 28 ≤ v → had.testBit v = false) : ∀ (j v : Nat), (gbStep had n j).testBit v = true ↔ (v < 28 ∧ ∃ t : Nat, t ≤ j ∧ t * n ≤ v ∧ had.testBit (v - t * n) = true)
  | 0, v => by
    unfold gbStep
    constructor
    · intro q
      have hv : v < 28 := by
        rcases Nat.lt_or_ge v 28 with c | c
        · exact c
        · rw [hh v c] at q; cases q
      exact ⟨hv, 0, Nat.le_refl _, by omega, by rw [Nat.zero_mul]; exact q⟩
    · rintro ⟨-, t, t1, t2, t3⟩
      have : t = 0 := by omega
      subst this
      rw [Nat.zero_mul] at t3
      exact t3
  | j + 1, v => by
    have e : gbStep had n (j + 1) = gbStep had n j ||| ((gbStep had n j <<< n) &&& AL) := rfl
    rw [e, Nat.testBit_or, Nat.testBit_and, al_bit, Nat.testBit_shiftLeft]
    simp only [Bool.or_eq_true, Bool.and_eq_true, decide_eq_true_eq]
    rw [gbStep_bit hn hh j v, gbStep_bit hn hh j (v - n)]
    constructor
    · rintro (⟨h1, t, t1, t2, t3⟩ | ⟨⟨h0, h1, t, t1, t2, t3⟩, h2⟩)
      · exact ⟨h1, t, by omega, t2, t3⟩
      · refine ⟨h2, t + 1, by omega, by rw [Nat.add_mul]; omega, ?_⟩
        rw [show v - (t + 1) * n = v - n - t * n by rw [Nat.add_mul]; omega]
        exact t3
    · rintro ⟨h1, t, t1, t2, t3⟩
      by_cases c : t ≤ j
      · exact Or.inl ⟨h1, t, c, t2, t3⟩
      · have ht : t = j + 1 := by omega
        subst ht
        rw [Nat.add_mul, Nat.one_mul] at t2
        refine Or.inr ⟨⟨by omega, by omega, j, Nat.le_refl _, by omega, ?_⟩, h1⟩
        rw [show v - n - j * n = v - (j + 1) * n by rw [Nat.add_mul]; omega]
        exact t3
theorem gb_bit {m n v : Nat} (hn : 1 ≤ n) : (gb m n).testBit v = true ↔ (v < 28 ∧ ∀ t : Nat, t * n ≤ v → m.testBit (v - t * n) = true) := by
  have e : gb m n = AL &&& (AL ^^^ gbStep (AL &&& (AL ^^^ m)) n (27 / n)) := rfl
  rw [e, na_bit, Bool.and_eq_true, decide_eq_true_eq]
  refine and_congr_right (fun hv => ?_)
  have hs := gbStep_bit (had := AL &&& (AL ^^^ m)) hn (fun v hv => by rw [na_bit]; simp; omega) (27 / n) v
  have hb : ∀ t, t * n ≤ v → ((AL &&& (AL ^^^ m)).testBit (v - t * n) = true ↔ m.testBit (v - t * n) = false) := fun t ht => by
    rw [na_bit]
    simp
    omega
  constructor
  · intro q t ht
    cases hc : m.testBit (v - t * n)
    · exfalso
      have : (gbStep (AL &&& (AL ^^^ m)) n (27 / n)).testBit v = true := hs.mpr ⟨hv, t, (Nat.le_div_iff_mul_le (by omega)).mpr (by omega), ht, (hb t ht).mpr hc⟩
      rw [this] at q
      cases q
    · rfl
  · intro q
    cases hc : (gbStep (AL &&& (AL ^^^ m)) n (27 / n)).testBit v
    · rfl
    · exfalso
      obtain ⟨-, t, -, t2, t3⟩ := hs.mp hc
      have := (hb t t2).mp t3
      rw [q t t2] at this
      cases this
theorem gb_lt {m n : Nat} : gb m n < 2 ^ 28 := Nat.lt_of_le_of_lt Nat.and_le_left (by decide)
theorem gb_sub {m n v : Nat} (hn : 1 ≤ n) (h : (gb m n).testBit v = true) : m.testBit v = true := by
  have := ((gb_bit hn).mp h).2 0 (by omega)
  rw [Nat.zero_mul] at this
  exact this
theorem gb_self {m n : Nat} (hn : 1 ≤ n) (h0 : m.testBit 0 = false) : (gb m n).testBit n = false := by
  cases hc : (gb m n).testBit n
  · rfl
  · have := ((gb_bit hn).mp hc).2 1 (by omega)
    rw [show n - 1 * n = 0 by omega, h0] at this
    cases this
theorem gb_zero {m n : Nat} (hn : 1 ≤ n) (h0 : m.testBit 0 = false) : (gb m n).testBit 0 = false := by
  cases hc : (gb m n).testBit 0
  · rfl
  · rw [gb_sub hn hc] at h0
    cases h0
theorem bs_sub {x y : Nat} (h : ∀ i, y.testBit i = true → x.testBit i = true) : ∀ n, bs y n ≤ bs x n
  | 0 => Nat.le_refl _
  | n + 1 => by
    have := bs_sub h n
    rw [bs_s, bs_s]
    cases hc : y.testBit n
    · simp
      omega
    · rw [h n hc]
      omega
theorem bs_subp {x y p : Nat} (h : ∀ i, y.testBit i = true → x.testBit i = true) (hx : x.testBit p = true) (hy : y.testBit p = false) : ∀ n, p < n → bs y n + 1 ≤ bs x n
  | 0, hp => by omega
  | n + 1, hp => by
    rw [bs_s, bs_s]
    by_cases c : p = n
    · subst c
      rw [hx, hy]
      have := bs_sub h p
      simp
      omega
    · have := bs_subp h hx hy n (by omega)
      cases hc : y.testBit n
      · simp
        omega
      · rw [h n hc]
        omega
theorem gb_pop {m n : Nat} (hn : 1 ≤ n ∧ n < 28) (h0 : m.testBit 0 = false) (hb : m.testBit n = true) : bs (gb m n) 28 + 1 ≤ bs m 28 :=
  bs_subp (fun i q => gb_sub hn.1 q) hb (gb_self hn.1 h0) 28 hn.2
theorem slStep_congr {V V' : Nat → Int} {m : Nat} : ∀ k : Nat, (∀ i, i < k → 2 ≤ i → m.testBit i = true → V (gb m i) = V' (gb m i)) → slStep V m k = slStep V' m k
  | 0, _ => rfl
  | k + 1, h => by
    unfold slStep
    rw [slStep_congr k (fun i hi => h i (by omega))]
    by_cases c : 2 ≤ k ∧ m.testBit k = true
    · rw [if_pos c, if_pos c, h k (by omega) c.1 c.2]
    · rw [if_neg c, if_neg c]
theorem slF_fuel : ∀ (f f' m : Nat), m.testBit 0 = false → bs m 28 < f → bs m 28 < f' → slF f m = slF f' m
  | 0, _, _, _, h, _ => by omega
  | f + 1, 0, _, _, _, h => by omega
  | f + 1, f' + 1, m, h0, h1, h2 => by
    unfold slF
    rw [slStep_congr 28 (fun i hi h3 h4 => by
      have := gb_pop (n := i) ⟨by omega, hi⟩ h0 h4
      exact slF_fuel f f' (gb m i) (gb_zero (by omega) h0) (by omega) (by omega))]
theorem slStep_bd {V : Nat → Int} (hV : ∀ m, 0 ≤ V m) {m : Nat} : ∀ k, (0 ≤ (slStep V m k).1 ∧ (slStep V m k).1 ≤ 14) ∧ ((slStep V m k).2 = 0 ∨ (slStep V m k).2 = 1)
  | 0 => ⟨by unfold slStep; omega, Or.inl rfl⟩
  | k + 1 => by
    obtain ⟨a, b⟩ := slStep_bd hV (m := m) k
    unfold slStep
    split
    · have := hV (gb m k)
      refine ⟨by omega, ?_⟩
      show (if V (gb m k) % 2 = 1 then (slStep V m k).2 else 1) = 0 ∨ (if V (gb m k) % 2 = 1 then (slStep V m k).2 else 1) = 1
      split
      · exact b
      · exact Or.inr rfl
    · exact ⟨a, b⟩
theorem slF_bd : ∀ (f m : Nat), 0 ≤ slF f m ∧ slF f m ≤ 29
  | 0, m => by unfold slF; omega
  | f + 1, m => by
    have h := slStep_bd (V := slF f) (fun m => (slF_bd f m).1) (m := m) 28
    unfold slF
    split
    · split <;> omega
    · omega
theorem slStep_le {V : Nat → Int} {m : Nat} : ∀ (k i : Nat), i < k → 2 ≤ i → m.testBit i = true → (slStep V m k).1 ≤ 1 + V (gb m i) / 2
  | 0, i, h1, _, _ => by omega
  | k + 1, i, h1, h2, h3 => by
    unfold slStep
    by_cases c : i = k
    · subst c
      rw [if_pos ⟨h2, h3⟩]
      show min _ _ ≤ _
      omega
    · have := slStep_le (V := V) k i (by omega) h2 h3
      split
      · show min _ _ ≤ _
        omega
      · exact this
/-- a set above 2 has a number above 1 -/
theorem big_bit {m : Nat} (hm : m < 2 ^ 28) (h0 : m.testBit 0 = false) (h2 : 2 < m) : ∃ i, 2 ≤ i ∧ i < 28 ∧ m.testBit i = true := by
  refine Classical.byContradiction fun q => ?_
  have : m ≤ 2 := by
    have e : m &&& 2 = m := by
      apply Nat.eq_of_testBit_eq
      intro i
      rw [Nat.testBit_and]
      have e2 : (2 : Nat).testBit i = decide (i = 1) := by
        have := Nat.testBit_two_pow (n := 1) (m := i)
        rw [show (2 : Nat) = 2 ^ 1 from rfl, this]
        exact decide_eq_decide.mpr ⟨fun h => h.symm, fun h => h.symm⟩
      rw [e2]
      by_cases c : i = 1
      · simp [c]
      · have : m.testBit i = false := by
          cases hc : m.testBit i
          · rfl
          · exfalso
            rcases Nat.lt_or_ge i 28 with d | d
            · rcases Nat.eq_zero_or_pos i with z | z
              · rw [z, h0] at hc; cases hc
              · exact q ⟨i, by omega, d, hc⟩
            · rw [Nat.testBit_lt_two_pow (Nat.lt_of_lt_of_le hm (Nat.pow_le_pow_right (by decide) d))] at hc; cases hc
        rw [this]
        rfl
    rw [← e]
    exact Nat.and_le_right
  omega
theorem slF_pop : ∀ (f m : Nat), m < 2 ^ 28 → m.testBit 0 = false → bs m 28 < f → slF f m / 2 ≤ (bs m 28 : Nat)
  | 0, _, _, _, h => by omega
  | f + 1, m, hm, h0, hb => by
    have hs := slStep_bd (V := slF f) (fun m => (slF_bd f m).1) (m := m) 28
    unfold slF
    by_cases c : m ≤ 2
    · rw [if_pos c]
      by_cases d : m = 2
      · subst d
        rw [if_pos rfl]
        have : bs 2 28 = 1 := by decide
        rw [this]
        decide
      · rw [if_neg d]
        omega
    · rw [if_neg c]
      obtain ⟨i, i1, i2, i3⟩ := big_bit hm h0 (by omega)
      have h1 := slStep_le (V := slF f) 28 i i2 i1 i3
      have h2 := gb_pop (n := i) ⟨by omega, i2⟩ h0 i3
      have h3 := slF_pop f (gb m i) gb_lt (gb_zero (by omega) h0) (by omega)
      omega
/-- the value of a set -/
def vS (m : Nat) : Int := slF 15 m
theorem vS_eq {m : Nat} (hm : 2 < m) (h0 : m.testBit 0 = false) (hb : bs m 28 ≤ 14) : vS m = 2 * (slStep vS m 28).1 + (slStep vS m 28).2 := by
  unfold vS
  have e : slF 15 m = if m ≤ 2 then (if m = 2 then 2 else 0) else 2 * (slStep (slF 14) m 28).1 + (slStep (slF 14) m 28).2 := rfl
  rw [e, if_neg (by omega), slStep_congr 28 (fun i hi h3 h4 => by
      have := gb_pop (n := i) ⟨by omega, hi⟩ h0 h4
      exact slF_fuel 14 15 (gb m i) (gb_zero (by omega) h0) (by omega) (by omega))]
theorem vS_lo {m : Nat} (hm : m ≤ 2) : vS m = if m = 2 then 2 else 0 := by
  show (if m ≤ 2 then (if m = 2 then (2 : Int) else 0) else _) = _
  rw [if_pos hm]
def winP (m : Nat) (n : Int) : Prop := 2 ≤ n ∧ n < 28 ∧ m.testBit n.toNat = true ∧ vS (gb m n.toNat) % 2 = 0
theorem nzc_bd {k : Int → Int} : ∀ n : Nat, 0 ≤ nzc k n ∧ nzc k n ≤ n
  | 0 => by unfold nzc; omega
  | n + 1 => by
    have := nzc_bd (k := k) n
    unfold nzc
    split <;> omega
theorem nzc_up {k : Int → Int} {i v : Int} (hi : 0 ≤ i) (hk : k i = 0) (hv : v ≠ 0) : ∀ n : Nat, nzc (up k i v) n = nzc k n + (if i < n then 1 else 0)
  | 0 => by unfold nzc; rw [if_neg (by omega)]; rfl
  | n + 1 => by
    unfold nzc
    rw [nzc_up hi hk hv n]
    unfold up
    by_cases c : (n : Int) = i
    · rw [if_pos c, if_neg hv, c, hk, if_pos rfl, if_neg (by omega), if_pos (by omega)]
      first
        | done
        | omega
    · rw [if_neg c]
      by_cases d : i < n
      · rw [if_pos d, if_pos (show i < ((n + 1 : Nat) : Int) by omega)]
        omega
      · rw [if_neg d, if_neg (show ¬ i < ((n + 1 : Nat) : Int) by omega)]
        omega
theorem nzc_zero {k : Int → Int} : ∀ n : Nat, (∀ i : Int, 0 ≤ i → i < n → k i = 0) → nzc k n = 0
  | 0, _ => rfl
  | n + 1, h => by
    unfold nzc
    rw [nzc_zero n (fun i i0 i1 => h i i0 (by omega)), if_pos (h n (by omega) (by omega))]
    rfl
