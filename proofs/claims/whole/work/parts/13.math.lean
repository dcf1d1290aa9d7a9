/-! part 13: counts, what is reached by numbers, lowest and highest places -/
noncomputable def cn (P : Int → Prop) : Nat → Int
  | 0 => 0
  | k + 1 => cn P k + bi (P ((k + 1 : Nat) : Int))
theorem cn_congr {P P' : Int → Prop} : ∀ n : Nat, (∀ v : Int, 1 ≤ v → v ≤ n → (P v ↔ P' v)) → cn P n = cn P' n
  | 0, _ => rfl
  | n + 1, h => by
    unfold cn
    rw [cn_congr n (fun v h1 h2 => h v h1 (by omega)), bi_congr (h _ (by omega) (by omega))]
theorem cn_bd {P : Int → Prop} : ∀ n : Nat, 0 ≤ cn P n ∧ cn P n ≤ n
  | 0 => by unfold cn; omega
  | n + 1 => by
    have h := cn_bd (P := P) n
    unfold cn
    rcases bi_01 (P ((n + 1 : Nat) : Int)) with e | e <;> rw [e] <;> omega
theorem cn_zero {P : Int → Prop} : ∀ n : Nat, cn P n = 0 ↔ ∀ v : Int, 1 ≤ v → v ≤ n → ¬ P v
  | 0 => ⟨fun _ v h1 h2 => by omega, fun _ => rfl⟩
  | n + 1 => by
    have hb := cn_bd (P := P) n
    have ih := cn_zero (P := P) n
    unfold cn
    rcases Classical.em (P ((n + 1 : Nat) : Int)) with hp | hp
    · rw [bi_t hp]
      exact ⟨fun h => by omega, fun h => absurd hp (h _ (by omega) (by omega))⟩
    · rw [bi_f hp]
      refine ⟨fun h v h1 h2 => ?_, fun h => ?_⟩
      · by_cases e : v = ((n + 1 : Nat) : Int)
        · rw [e]; exact hp
        · exact ih.mp (by omega) v h1 (by omega)
      · have := ih.mpr (fun v h1 h2 => h v h1 (by omega))
        omega
/-- the sums of the first k numbers, each as often as the law lets -/
def rc (law : Int) (num : Int → Int) : Nat → Int → Prop
  | 0, v => v = 0
  | k + 1, v => ∃ t : Int, 0 ≤ t ∧ (law = 2 → t ≤ 3) ∧ rc law num k (v - t * num k)
def gN (num : Int → Int) : Nat → Nat
  | 0 => 0
  | k + 1 => Nat.gcd (gN num k) (num k).toNat
def rch (law : Int) (num : Int → Int) (k : Nat) (v : Int) : Prop := (law = 1 ∧ (v = 0 ∨ (0 < gN num k ∧ (gN num k : Int) ∣ v))) ∨ (law ≠ 1 ∧ rc law num k v)
theorem rc_congr {law : Int} {num num' : Int → Int} : ∀ k : Nat, (∀ i : Int, 0 ≤ i → i < k → num i = num' i) → ∀ v, rc law num k v ↔ rc law num' k v
  | 0, _, _ => Iff.rfl
  | k + 1, h, v => by
    unfold rc
    have e := h k (by omega) (by omega)
    constructor
    · rintro ⟨t, h1, h2, h3⟩
      exact ⟨t, h1, h2, by rw [← e]; exact (rc_congr k (fun i a b => h i a (by omega)) _).mp h3⟩
    · rintro ⟨t, h1, h2, h3⟩
      exact ⟨t, h1, h2, by rw [e]; exact (rc_congr k (fun i a b => h i a (by omega)) _).mpr h3⟩
theorem gN_congr {num num' : Int → Int} : ∀ k : Nat, (∀ i : Int, 0 ≤ i → i < k → num i = num' i) → gN num k = gN num' k
  | 0, _ => rfl
  | k + 1, h => by unfold gN; rw [gN_congr k (fun i a b => h i a (by omega)), h k (by omega) (by omega)]
theorem rch_congr {law : Int} {num num' : Int → Int} {k : Nat} (h : ∀ i : Int, 0 ≤ i → i < k → num i = num' i) (v : Int) : rch law num k v ↔ rch law num' k v := by
  unfold rch
  rw [gN_congr k h, rc_congr k h v]
theorem rc_nonneg {law : Int} {num : Int → Int} : ∀ k : Nat, (∀ i : Int, 0 ≤ i → i < k → 1 ≤ num i) → ∀ v, rc law num k v → 0 ≤ v
  | 0, _, v, h => by unfold rc at h; omega
  | k + 1, hn, v, h => by
    obtain ⟨t, h1, -, h3⟩ := h
    have := rc_nonneg k (fun i a b => hn i a (by omega)) _ h3
    have hk := hn k (by omega) (by omega)
    have := Int.mul_nonneg h1 (by omega : 0 ≤ num k)
    omega
theorem rc_zero {law : Int} {num : Int → Int} : ∀ k : Nat, rc law num k 0
  | 0 => rfl
  | k + 1 => ⟨0, by omega, by omega, by rw [Int.zero_mul, Int.sub_zero]; exact rc_zero k⟩
theorem rch_zero {law : Int} {num : Int → Int} {k : Nat} : rch law num k 0 := by
  unfold rch
  rcases Classical.em (law = 1) with h | h
  · exact Or.inl ⟨h, Or.inl rfl⟩
  · exact Or.inr ⟨h, rc_zero k⟩
theorem gN_le {num : Int → Int} : ∀ k : Nat, (∀ i : Int, 0 ≤ i → i < k → 1 ≤ num i ∧ num i ≤ 60) → gN num k ≤ 60 ∧ (0 < k → 0 < gN num k)
  | 0, _ => ⟨Nat.zero_le _, by omega⟩
  | k + 1, h => by
    have hk := h k (by omega) (by omega)
    have hp : 0 < (num k).toNat := by omega
    unfold gN
    refine ⟨Nat.le_trans (Nat.gcd_le_right _ hp) (by omega), fun _ => Nat.gcd_pos_of_pos_right _ hp⟩
theorem gN_pos_of {num : Int → Int} : ∀ k : Nat, gN num k = 0 → k = 0 ∨ ∃ i : Int, 0 ≤ i ∧ i < k ∧ (num i).toNat = 0
  | 0, _ => Or.inl rfl
  | k + 1, h => by
    right
    unfold gN at h
    have := (Nat.gcd_eq_zero_iff.mp h).2
    exact ⟨k, by omega, by omega, this⟩
/-- the lowest place of a mask, 0 if there is none up to 60 -/
def LowB (m : Nat) (z : Int) : Prop := (∃ v : Nat, z = v ∧ v ≤ 60 ∧ m.testBit v = true ∧ ∀ u, u < v → m.testBit u = false) ∨ (z = 0 ∧ ∀ u, u ≤ 60 → m.testBit u = false)
def HighB (m : Nat) (z : Int) : Prop := (∃ v : Nat, z = v ∧ 0 < v ∧ v ≤ 60 ∧ m.testBit v = true ∧ ∀ u, v < u → u ≤ 60 → m.testBit u = false) ∨ (z = 0 ∧ ∀ u, 0 < u → u ≤ 60 → m.testBit u = false)
