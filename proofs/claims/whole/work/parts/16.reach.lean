/-! part 16: one more number -/
def EE (P : Int → Prop) (s : Int) (j : Nat) (v : Int) : Prop := ∃ t : Int, 0 ≤ t ∧ t ≤ j ∧ P (v - t * s)
theorem EE_zero {P : Int → Prop} {s v : Int} : EE P s 0 v ↔ P v := by
  constructor
  · rintro ⟨t, h1, h2, h3⟩
    rw [show t = 0 by omega, Int.zero_mul, Int.sub_zero] at h3
    exact h3
  · intro h
    exact ⟨0, by omega, by omega, by rw [Int.zero_mul, Int.sub_zero]; exact h⟩
theorem EE_succ {P : Int → Prop} {s v : Int} {j : Nat} (hs : 1 ≤ s) (hP : ∀ u, P u → 0 ≤ u) : EE P s (j + 1) v ↔ EE P s j v ∨ (s ≤ v ∧ EE P s j (v - s)) := by
  constructor
  · rintro ⟨t, h1, h2, h3⟩
    by_cases e : t ≤ j
    · exact Or.inl ⟨t, h1, e, h3⟩
    · have ht : t = j + 1 := by omega
      subst ht
      have e1 : v - ((j : Int) + 1) * s = v - s - (j : Int) * s := by rw [Int.add_mul, Int.one_mul]; omega
      rw [e1] at h3
      have h4 := hP _ h3
      have h5 := Int.mul_nonneg (show (0 : Int) ≤ (j : Int) by omega) (show 0 ≤ s by omega)
      exact Or.inr ⟨by omega, (j : Int), by omega, by omega, h3⟩
  · rintro (⟨t, h1, h2, h3⟩ | ⟨h0, t, h1, h2, h3⟩)
    · exact ⟨t, h1, by omega, h3⟩
    · refine ⟨t + 1, by omega, by omega, ?_⟩
      rw [show v - (t + 1) * s = v - s - t * s by rw [Int.add_mul, Int.one_mul]; omega]
      exact h3
theorem wid_bit {m s : Nat} {P : Int → Prop} {j : Nat} (hs : 1 ≤ s) (hP : ∀ u, P u → 0 ≤ u) (hm : m < 2 ^ 61) (h : ∀ v : Nat, v ≤ 60 → (m.testBit v = true ↔ EE P s j v)) :
    (m ||| ((m <<< s) &&& TT)) < 2 ^ 61 ∧ ∀ v : Nat, v ≤ 60 → ((m ||| ((m <<< s) &&& TT)).testBit v = true ↔ EE P s (j + 1) v) := by
  refine ⟨lt_of_tb (fun v hv => ?_), fun v hv => ?_⟩
  · rw [Nat.testBit_or, Nat.testBit_and, tt_bit, tb_big hm hv]
    simp
    omega
  · rw [EE_succ (by omega) hP, Nat.testBit_or, Nat.testBit_and, tt_bit, Nat.testBit_shiftLeft]
    simp only [Bool.or_eq_true, Bool.and_eq_true, decide_eq_true_eq]
    constructor
    · rintro (h1 | ⟨⟨h1, h2⟩, -⟩)
      · exact Or.inl ((h v hv).mp h1)
      · refine Or.inr ⟨by omega, ?_⟩
        have := (h (v - s) (by omega)).mp h2
        rw [show (((v - s : Nat)) : Int) = (v : Int) - (s : Int) by omega] at this
        exact this
    · rintro (h1 | ⟨h0, h1⟩)
      · exact Or.inl ((h v hv).mpr h1)
      · refine Or.inr ⟨⟨by omega, ?_⟩, hv⟩
        refine (h (v - s) (by omega)).mpr ?_
        rw [show (((v - s : Nat)) : Int) = (v : Int) - (s : Int) by omega]
        exact h1
theorem rch_nonneg {law : Int} {num : Int → Int} {k : Nat} (hn : ∀ i : Int, 0 ≤ i → i < k → 1 ≤ num i) (hl : law ≠ 1) : ∀ v, rch law num k v → 0 ≤ v := by
  intro v h
  rcases h with ⟨h, -⟩ | ⟨-, h⟩
  · exact absurd h hl
  · exact rc_nonneg k hn v h
/-- what the rounds of widening come to -/
theorem wid_fin {law : Int} {num : Int → Int} {k s : Nat} (hn : ∀ i : Int, 0 ≤ i → i < k + 1 → 1 ≤ num i ∧ num i ≤ 60) (hl : law ≠ 1) (hs : (s : Int) = num k) {v : Nat} (hv : v ≤ 60) :
    EE (rch law num k) s (if law = 2 then 3 else 60 / s) v ↔ rch law num (k + 1) v := by
  have hk := hn k (by omega) (by omega)
  have e1 : ∀ u, rch law num k u ↔ rc law num k u := fun u => ⟨fun h => by rcases h with ⟨z, -⟩ | ⟨-, h⟩; exact absurd z hl; exact h, fun h => Or.inr ⟨hl, h⟩⟩
  have e2 : rch law num (k + 1) v ↔ rc law num (k + 1) v := ⟨fun h => by rcases h with ⟨z, -⟩ | ⟨-, h⟩; exact absurd z hl; exact h, fun h => Or.inr ⟨hl, h⟩⟩
  rw [e2]
  constructor
  · rintro ⟨t, h1, h2, h3⟩
    refine ⟨t, h1, fun h => ?_, ?_⟩
    · rw [if_pos h] at h2; omega
    · rw [← hs]; exact (e1 _).mp h3
  · rintro ⟨t, h1, h2, h3⟩
    refine ⟨t, h1, ?_, ?_⟩
    · by_cases h : law = 2
      · rw [if_pos h]; have := h2 h; omega
      · rw [if_neg h]
        have h0 := rc_nonneg k (fun i a b => (hn i a (by omega)).1) _ h3
        rw [← hs] at h0
        have h4 : t * (s : Int) ≤ 60 := by omega
        have h5 : ((60 / s : Nat) : Int) = 60 / (s : Int) := by simp
        rw [h5]
        exact Int.le_ediv_of_mul_le (by omega) h4
    · rw [hs]; exact (e1 _).mpr h3
theorem wid_fin1 {num : Int → Int} {k s : Nat} (hn : ∀ i : Int, 0 ≤ i → i < k + 1 → 1 ≤ num i ∧ num i ≤ 60) (hs : s = gN num (k + 1)) {v : Nat} (hv : v ≤ 60) :
    EE (fun u => 0 ≤ u ∧ rch 1 num k u) s (60 / s) v ↔ rch 1 num (k + 1) v := by
  have hg := gN_le (num := num) (k + 1) (fun i a b => hn i a (by omega))
  have hsp : 0 < s := by rw [hs]; exact hg.2 (by omega)
  have hdg : (gN num (k + 1) : Nat) ∣ gN num k := Nat.gcd_dvd_left _ _
  rw [← hs] at hdg
  constructor
  · rintro ⟨t, h1, h2, h0, h3⟩
    refine Or.inl ⟨rfl, ?_⟩
    rcases h3 with ⟨-, h3⟩ | ⟨h3, -⟩
    · refine Or.inr ⟨by omega, ?_⟩
      rw [← hs]
      have hd2 : (s : Int) ∣ (v : Int) - t * s := by
        rcases h3 with h3 | ⟨-, h3⟩
        · rw [h3]; exact Int.dvd_zero _
        · exact Int.dvd_trans (Int.natCast_dvd_natCast.mpr hdg) h3
      have := Int.dvd_add hd2 (Int.dvd_mul_left t (s : Int))
      rw [Int.sub_add_cancel] at this
      exact this
    · exact absurd rfl h3
  · intro h
    rcases h with ⟨-, h⟩ | ⟨h, -⟩
    · rcases h with h | ⟨-, h⟩
      · exact ⟨0, by omega, Int.natCast_nonneg _, by omega, by rw [h]; simpa using rch_zero⟩
      · rw [← hs] at h
        obtain ⟨q, hq⟩ := h
        have hq0 : 0 ≤ q := by
          rcases Int.lt_or_le q 0 with z | z
          · have := Int.mul_neg_of_pos_of_neg (show (0 : Int) < s by omega) z
            omega
          · exact z
        have h5 : ((60 / s : Nat) : Int) = 60 / (s : Int) := by simp
        refine ⟨q, hq0, ?_, ?_⟩
        · rw [h5]
          exact Int.le_ediv_of_mul_le (by omega) (by rw [Int.mul_comm]; omega)
        · rw [hq, Int.mul_comm, Int.sub_self]
          exact ⟨by omega, rch_zero⟩
    · exact absurd rfl h
