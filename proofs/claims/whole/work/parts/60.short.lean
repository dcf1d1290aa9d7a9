/-! part 60: sums by few numbers of the same rest; the greatest common divisor as a sum -/
theorem wy_add {num : Int → Int} : ∀ (k : Nat) {u v : Int} {s t : Nat}, wy 0 num k u s → wy 0 num k v t → wy 0 num k (u + v) (s + t)
  | 0, u, v, s, t, h1, h2 => by
    unfold wy at h1 h2 ⊢
    omega
  | k + 1, u, v, s, t, h1, h2 => by
    unfold wy at h1 h2
    obtain ⟨i, -, a1, a2⟩ := h1
    obtain ⟨j, -, b1, b2⟩ := h2
    refine ⟨i + j, fun q => absurd q (by decide), by omega, ?_⟩
    have e := wy_add k a2 b2
    rw [show u - (i : Int) * num k + (v - (j : Int) * num k) = u + v - ((i + j : Nat) : Int) * num k by rw [Int.natCast_add, Int.add_mul]; omega, show s - i + (t - j) = s + t - (i + j) by omega] at e
    exact e
theorem wy_nil {num : Int → Int} : ∀ k : Nat, wy 0 num k 0 0
  | 0 => ⟨rfl, rfl⟩
  | k + 1 => ⟨0, fun q => absurd q (by decide), by omega, by rw [show (0 : Int) - ((0 : Nat) : Int) * num k = 0 by omega]; exact wy_nil k⟩
theorem wy_one {num : Int → Int} : ∀ (k : Nat) {i : Int}, 0 ≤ i → i < k → wy 0 num k (num i) 1
  | 0, i, h0, h1 => by omega
  | k + 1, i, h0, h1 => by
    by_cases c : i = k
    · subst c
      refine ⟨1, fun q => absurd q (by decide), by omega, ?_⟩
      have e : num (k : Int) - ((1 : Nat) : Int) * num k = 0 := by omega
      rw [e]
      exact wy_nil k
    · exact ⟨0, fun q => absurd q (by decide), by omega, by rw [show num i - ((0 : Nat) : Int) * num k = num i by omega]; exact wy_one k h0 (by omega)⟩
theorem wy_peel {num : Int → Int} : ∀ (k : Nat) {v : Int} {t : Nat}, wy 0 num k v (t + 1) → ∃ i : Int, 0 ≤ i ∧ i < k ∧ wy 0 num k (v - num i) t
  | 0, v, t, h => by
    unfold wy at h
    omega
  | k + 1, v, t, h => by
    unfold wy at h
    obtain ⟨j, -, a1, a2⟩ := h
    match j, a1, a2 with
    | 0, a1, a2 =>
      rw [show v - ((0 : Nat) : Int) * num k = v by omega, Nat.sub_zero] at a2
      obtain ⟨i, b1, b2, b3⟩ := wy_peel k a2
      exact ⟨i, b1, by omega, 0, fun q => absurd q (by decide), by omega, by rw [show v - num i - ((0 : Nat) : Int) * num k = v - num i by omega]; exact b3⟩
    | j + 1, a1, a2 =>
      refine ⟨k, by omega, by omega, j, fun q => absurd q (by decide), by omega, ?_⟩
      rw [show v - num k - (j : Int) * num k = v - ((j + 1 : Nat) : Int) * num k by rw [Int.natCast_add, Int.add_mul]; omega, show t - j = t + 1 - (j + 1) by omega]
      exact a2
theorem wy_ub {num : Int → Int} : ∀ (k : Nat), (∀ i : Int, 0 ≤ i → i < k → 1 ≤ num i ∧ num i ≤ 60) → ∀ v t, wy 0 num k v t → v ≤ 60 * t
  | 0, _, v, t, h => by
    unfold wy at h
    omega
  | k + 1, hn, v, t, h => by
    unfold wy at h
    obtain ⟨j, h1, h2, h3⟩ := h
    have i1 := wy_ub k (fun i i0 i1 => hn i i0 (by omega)) _ _ h3
    have i2 := hn k (by omega) (by omega)
    have i3 : (j : Int) * num k ≤ (j : Int) * 60 := Int.mul_le_mul_of_nonneg_left i2.2 (by omega)
    omega
/-- the way down from a sum to 0 -/
theorem wy_path {num : Int → Int} {k : Nat} : ∀ (t : Nat) (v : Int), wy 0 num k v t → ∃ p : Nat → Int, p 0 = v ∧ (∀ s, s ≤ t → wy 0 num k (p s) (t - s)) ∧ ∀ a b : Nat, a ≤ b → b ≤ t → wy 0 num k (p a - p b) (b - a)
  | 0, v, h => ⟨fun _ => v, rfl, fun s hs => by rw [show s = 0 by omega]; exact h, fun a b h1 h2 => by rw [show b - a = 0 by omega, Int.sub_self]; exact wy_nil k⟩
  | t + 1, v, h => by
    obtain ⟨i, i0, i1, h2⟩ := wy_peel k h
    obtain ⟨p, a1, a2, a3⟩ := wy_path t _ h2
    refine ⟨fun s => match s with | 0 => v | s + 1 => p s, rfl, fun s hs => ?_, fun a b h3 h4 => ?_⟩
    · match s with
      | 0 => exact h
      | s + 1 =>
        show wy 0 num k (p s) (t + 1 - (s + 1))
        rw [show t + 1 - (s + 1) = t - s by omega]
        exact a2 s (by omega)
    · match a, b, h3 with
      | 0, 0, _ => rw [Int.sub_self]; exact wy_nil k
      | 0, b + 1, _ =>
        show wy 0 num k (v - p b) (b + 1 - 0)
        have e := wy_add k (wy_one k i0 i1) (a3 0 b (by omega) (by omega))
        rw [a1, show num i + (v - num i - p b) = v - p b by omega, show 1 + (b - 0) = b + 1 - 0 by omega] at e
        exact e
      | a + 1, b + 1, h3 =>
        show wy 0 num k (p a - p b) (b + 1 - (a + 1))
        rw [show b + 1 - (a + 1) = b - a by omega]
        exact a3 a b (by omega) (by omega)
theorem pig : ∀ (m : Nat) (f : Nat → Nat), (∀ i, i ≤ m → f i < m) → ∃ i j, i < j ∧ j ≤ m ∧ f i = f j
  | 0, f, h => absurd (h 0 (Nat.le_refl _)) (by omega)
  | m + 1, f, h => by
    by_cases c : ∃ i, i ≤ m ∧ f i = f (m + 1)
    · obtain ⟨i, h1, h2⟩ := c
      exact ⟨i, m + 1, by omega, Nat.le_refl _, h2⟩
    · have c' : ∀ i, i ≤ m → f i ≠ f (m + 1) := fun i hi q => c ⟨i, hi, q⟩
      have hl := h (m + 1) (Nat.le_refl _)
      obtain ⟨i, j, h1, h2, h3⟩ := pig m (fun i => if f (m + 1) < f i then f i - 1 else f i) (fun i hi => by
        have h4 := h i (by omega)
        have h5 := c' i hi
        show (if f (m + 1) < f i then f i - 1 else f i) < m
        split <;> omega)
      refine ⟨i, j, h1, by omega, ?_⟩
      have h3 : (if f (m + 1) < f i then f i - 1 else f i) = (if f (m + 1) < f j then f j - 1 else f j) := h3
      have h5 := c' i (by omega)
      have h6 := c' j (by omega)
      split at h3 <;> split at h3 <;> omega
theorem wy_short {num : Int → Int} {k M : Nat} (hM : 0 < M) : ∀ (n : Nat) (v : Int) (t : Nat), t ≤ n → 1 ≤ t → wy 0 num k v t → ∃ (v' : Int) (t' : Nat), wy 0 num k v' t' ∧ 1 ≤ t' ∧ t' ≤ M ∧ v' % (M : Int) = v % (M : Int)
  | 0, v, t, h1, h2, h3 => by omega
  | n + 1, v, t, h1, h2, h3 => by
    rcases Nat.lt_or_ge M t with c | c
    · obtain ⟨p, a1, a2, a3⟩ := wy_path t v h3
      have hb : ∀ i, (p i % (M : Int)).toNat < M := fun i => by
        have := Int.emod_lt_of_pos (p i) (show 0 < (M : Int) by omega)
        omega
      obtain ⟨i, j, h4, h5, h6⟩ := pig M (fun i => (p i % (M : Int)).toNat) (fun i _ => hb i)
      have h6 : (p i % (M : Int)).toNat = (p j % (M : Int)).toNat := h6
      have n1 := Int.emod_nonneg (p i) (show (M : Int) ≠ 0 by omega)
      have n2 := Int.emod_nonneg (p j) (show (M : Int) ≠ 0 by omega)
      have e6 : p i % (M : Int) = p j % (M : Int) := by omega
      have w1 := wy_add k (a3 0 i (by omega) (by omega)) (a2 j (by omega))
      rw [a1] at w1
      obtain ⟨v', t', g1, g2, g3, g4⟩ := wy_short hM n (v - p i + p j) (i - 0 + (t - j)) (by omega) (by omega) w1
      refine ⟨v', t', g1, g2, g3, ?_⟩
      rw [g4]
      have e7 : (p j - p i) % (M : Int) = 0 := by
        exact Int.emod_eq_emod_iff_emod_sub_eq_zero.mp e6.symm
      rw [show v - p i + p j = v + (p j - p i) by omega, Int.add_emod, e7, Int.add_zero, Int.emod_emod]
    · exact ⟨v, t, h3, h2, c, rfl⟩
theorem rc_short {num : Int → Int} {k : Nat} (hn : ∀ i : Int, 0 ≤ i → i < k → 1 ≤ num i ∧ num i ≤ 60) {M v : Int} (hM : 1 ≤ M) (hv : 1 ≤ v) (h : rc 0 num k v) : ∃ v', rc 0 num k v' ∧ 1 ≤ v' ∧ v' ≤ 60 * M ∧ v' % M = v % M := by
  obtain ⟨t, ht⟩ := (rc_wy k v).mp h
  have h1 : 1 ≤ t := by
    rcases Nat.eq_zero_or_pos t with c | c
    · have := wy_ub k hn _ _ ht
      omega
    · exact c
  obtain ⟨Mn, rfl⟩ := Int.eq_ofNat_of_zero_le (show 0 ≤ M by omega)
  obtain ⟨v', t', g1, g2, g3, g4⟩ := wy_short (M := Mn) (by omega) t v t (Nat.le_refl _) h1 ht
  have b1 := wy_ub k hn _ _ g1
  have b2 := wy_le k (fun i i0 i1 => (hn i i0 i1).1) _ _ g1
  exact ⟨v', (rc_wy k v').mpr ⟨t', g1⟩, by omega, by omega, g4⟩
theorem rc_add {num : Int → Int} {k : Nat} {u v : Int} (h1 : rc 0 num k u) (h2 : rc 0 num k v) : rc 0 num k (u + v) := by
  obtain ⟨s, hs⟩ := (rc_wy k u).mp h1
  obtain ⟨t, ht⟩ := (rc_wy k v).mp h2
  exact (rc_wy k _).mpr ⟨_, wy_add k hs ht⟩
theorem rc_one {num : Int → Int} {k : Nat} {i : Int} (h0 : 0 ≤ i) (h1 : i < k) : rc 0 num k (num i) := (rc_wy k _).mpr ⟨1, wy_one k h0 h1⟩
theorem rc_mul {num : Int → Int} {k : Nat} {u : Int} (h : rc 0 num k u) : ∀ q : Nat, rc 0 num k (q * u)
  | 0 => by rw [show ((0 : Nat) : Int) * u = 0 by omega]; exact rc_zero k
  | q + 1 => by
    rw [show ((q + 1 : Nat) : Int) * u = q * u + u by rw [Int.natCast_add, Int.add_mul]; omega]
    exact rc_add (rc_mul h q) h
theorem bez : ∀ (n b a : Nat), b ≤ n → ∃ x y : Int, (Nat.gcd a b : Int) = x * a + y * b
  | 0, b, a, h => ⟨1, 0, by rw [show b = 0 by omega, Nat.gcd_zero_right]; omega⟩
  | n + 1, b, a, h => by
    rcases Nat.eq_zero_or_pos b with c | c
    · exact ⟨1, 0, by rw [c, Nat.gcd_zero_right]; omega⟩
    · obtain ⟨q, r, h1, h2⟩ : ∃ q r : Nat, a = b * q + r ∧ a % b = r := ⟨a / b, a % b, (Nat.div_add_mod a b).symm, rfl⟩
      have hr : r < b := by rw [← h2]; exact Nat.mod_lt _ c
      obtain ⟨x, y, hx⟩ := bez n r b (by omega)
      refine ⟨y, x - y * q, ?_⟩
      rw [gcd_step (show b ≠ 0 by omega), h2, hx]
      have ha : (a : Int) = (b : Int) * (q : Int) + (r : Int) := by rw [h1, Int.natCast_add, Int.natCast_mul]
      rw [ha, Int.mul_add, Int.sub_mul, show y * ((b : Int) * (q : Int)) = y * (q : Int) * (b : Int) by rw [Int.mul_assoc, Int.mul_comm (b : Int) (q : Int)]]
      omega
theorem rc_dvd {num : Int → Int} : ∀ (k : Nat), (∀ i : Int, 0 ≤ i → i < k → 1 ≤ num i) → ∀ v, rc 0 num k v → (gN num k : Int) ∣ v
  | 0, _, v, h => by
    have h : v = 0 := h
    rw [h]
    exact Int.dvd_zero _
  | k + 1, hn, v, h => by
    obtain ⟨t, h1, -, h3⟩ := h
    have i1 := rc_dvd k (fun i a b => hn i a (by omega)) _ h3
    have hk := hn k (by omega) (by omega)
    have d1 : (gN num (k + 1) : Int) ∣ (gN num k : Int) := Int.natCast_dvd_natCast.mpr (Nat.gcd_dvd_left _ _)
    have d2 : (gN num (k + 1) : Int) ∣ num k := by
      have := Int.natCast_dvd_natCast.mpr (Nat.gcd_dvd_right (gN num k) (num k).toNat)
      rw [show (((num k).toNat : Nat) : Int) = num k by omega] at this
      exact this
    have d3 := Int.dvd_add (Int.dvd_trans d1 i1) (Int.dvd_trans d2 (Int.dvd_mul_left t (num k)))
    rw [Int.sub_add_cancel] at d3
    exact d3
/-- each multiple of the divisor has a sum of its rest -/
theorem rc_cls {num : Int → Int} {M : Int} (hM : 1 ≤ M) : ∀ (k : Nat), (∀ i : Int, 0 ≤ i → i < k → 1 ≤ num i) → ∀ z : Int, ∃ v q : Int, rc 0 num k v ∧ v = z * gN num k + q * M
  | 0, _, z => ⟨0, 0, rfl, by show (0 : Int) = z * ((0 : Nat) : Int) + 0 * M; omega⟩
  | k + 1, hn, z => by
    have hk := hn k (by omega) (by omega)
    obtain ⟨nk, hnk⟩ := Int.eq_ofNat_of_zero_le (show 0 ≤ num k by omega)
    obtain ⟨x, y, hb⟩ := bez nk nk (gN num k) (Nat.le_refl _)
    have hg : gN num (k + 1) = Nat.gcd (gN num k) nk := by
      show Nat.gcd _ (num k).toNat = _
      rw [hnk]
      rfl
    obtain ⟨u, q, h1, h2⟩ := rc_cls hM k (fun i a b => hn i a (by omega)) (z * x)
    have e1 := Int.emod_add_mul_ediv (z * y) M
    have e2 := Int.emod_nonneg (z * y) (show M ≠ 0 by omega)
    obtain ⟨t, ht⟩ : ∃ t, t = z * y % M := ⟨_, rfl⟩
    obtain ⟨d, hd⟩ : ∃ d, d = z * y / M := ⟨_, rfl⟩
    rw [← ht, ← hd] at e1
    rw [← ht] at e2
    refine ⟨u + t * num k, q - d * nk, ⟨t, e2, fun h => absurd h (by decide), by rw [Int.add_sub_cancel]; exact h1⟩, ?_⟩
    rw [hg, hb, h2, hnk, show t = z * y - M * d by omega, Int.sub_mul, Int.sub_mul, Int.mul_add, Int.mul_assoc z x, Int.mul_assoc z y, Int.mul_assoc M d, Int.mul_comm M (d * (nk : Int))]
    show _ + (z * (y * (nk : Int)) - d * (nk : Int) * M) = _
    omega
theorem rc_rest {num : Int → Int} {k : Nat} (hk : 0 < k) (hn : ∀ i : Int, 0 ≤ i → i < k → 1 ≤ num i) {m : Int} (hm : m = num 0) : gN num k = 1 ↔ ∀ r : Int, 0 ≤ r → r < m → ∃ v, rc 0 num k v ∧ v % m = r := by
  have h0 := hn 0 (by omega) (by omega)
  constructor
  · intro hg r r0 r1
    obtain ⟨v, q, h1, h2⟩ := rc_cls (M := m) (by omega) k hn r
    refine ⟨v, h1, ?_⟩
    rw [h2, hg, show r * ((1 : Nat) : Int) + q * m = r + m * q by rw [Int.mul_comm q m]; omega, Int.add_mul_emod_self_left]
    exact Int.emod_eq_of_lt r0 r1
  · intro h
    have hd := rc_dvd k hn _ (rc_one (num := num) (i := 0) (by omega) (show (0 : Int) < k by omega))
    rw [← hm] at hd
    by_cases c : m = 1
    · rw [c] at hd
      have := Int.le_of_dvd (by omega) hd
      have hp : 0 < gN num k := by
        rcases Nat.eq_zero_or_pos (gN num k) with z | z
        · rw [z] at hd
          have := Int.zero_dvd.mp hd
          omega
        · exact z
      omega
    · obtain ⟨v, h1, h2⟩ := h 1 (by omega) (by omega)
      have d2 := rc_dvd k hn _ h1
      have e := Int.emod_add_mul_ediv v m
      rw [h2] at e
      have d3 := Int.dvd_sub d2 (Int.dvd_trans hd (Int.dvd_mul_right m (v / m)))
      rw [show v - m * (v / m) = 1 by omega] at d3
      have h4 := Int.le_of_dvd (by omega) d3
      have hp : 0 < gN num k := by
        rcases Nat.eq_zero_or_pos (gN num k) with z | z
        · rw [z] at d3
          have := Int.zero_dvd.mp d3
          omega
        · exact z
      omega
