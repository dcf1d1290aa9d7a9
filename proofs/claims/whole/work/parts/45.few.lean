/-! part 45: the fewest numbers that make a sum -/
def wy (law : Int) (num : Int → Int) : Nat → Int → Nat → Prop
  | 0, v, t => v = 0 ∧ t = 0
  | k + 1, v, t => ∃ j : Nat, (law = 2 → j ≤ 3) ∧ j ≤ t ∧ wy law num k (v - j * num k) (t - j)
def wyp (law : Int) (num : Int → Int) (k p : Nat) (v : Int) (t : Nat) : Prop := ∃ j : Nat, j ≤ p ∧ j ≤ t ∧ wy law num k (v - j * num k) (t - j)
/-- the least, 99999 if there is none -/
def LW (P : Nat → Prop) (z : Int) : Prop := (∃ t : Nat, z = (t : Int) ∧ P t ∧ ∀ u : Nat, u < t → ¬ P u) ∨ (z = 99999 ∧ ∀ u : Nat, ¬ P u)
theorem LW_congr {P Q : Nat → Prop} {z : Int} (e : ∀ t, P t ↔ Q t) (h : LW P z) : LW Q z := by
  rcases h with ⟨t, h1, h2, h3⟩ | ⟨h1, h2⟩
  · exact Or.inl ⟨t, h1, (e t).mp h2, fun u hu q => h3 u hu ((e u).mpr q)⟩
  · exact Or.inr ⟨h1, fun u q => h2 u ((e u).mpr q)⟩
theorem LW_lt {P : Nat → Prop} {z : Int} (h : LW P z) (hb : ∀ t, P t → t ≤ 4000) : z < 99999 ↔ ∃ t, P t := by
  rcases h with ⟨t, h1, h2, h3⟩ | ⟨h1, h2⟩
  · have := hb t h2
    exact ⟨fun _ => ⟨t, h2⟩, fun _ => by omega⟩
  · exact ⟨fun q => by omega, fun ⟨t, q⟩ => absurd q (h2 t)⟩
theorem LW_min {P Q : Nat → Prop} {x y : Int} (hP : LW P x) (hQ : LW Q y) (bP : ∀ t, P t → t ≤ 4000) (bQ : ∀ t, Q t → t ≤ 4000) : LW (fun t => P t ∨ (1 ≤ t ∧ Q (t - 1))) (if x < y + 1 then x else y + 1) := by
  rcases hP with ⟨t, h1, h2, h3⟩ | ⟨h1, h2⟩
  · have b1 := bP t h2
    rcases hQ with ⟨u, g1, g2, g3⟩ | ⟨g1, g2⟩
    · have b2 := bQ u g2
      by_cases c : x < y + 1
      · rw [if_pos c]
        refine Or.inl ⟨t, h1, Or.inl h2, fun r hr q => ?_⟩
        rcases q with q | ⟨q1, q2⟩
        · exact h3 r hr q
        · exact g3 (r - 1) (by omega) q2
      · rw [if_neg c]
        refine Or.inl ⟨u + 1, by omega, Or.inr ⟨by omega, by rw [show u + 1 - 1 = u by omega]; exact g2⟩, fun r hr q => ?_⟩
        rcases q with q | ⟨q1, q2⟩
        · exact h3 r (by omega) q
        · exact g3 (r - 1) (by omega) q2
    · rw [if_pos (by omega)]
      refine Or.inl ⟨t, h1, Or.inl h2, fun r hr q => ?_⟩
      rcases q with q | ⟨q1, q2⟩
      · exact h3 r hr q
      · exact g2 (r - 1) q2
  · rcases hQ with ⟨u, g1, g2, g3⟩ | ⟨g1, g2⟩
    · have b2 := bQ u g2
      rw [if_neg (by omega)]
      refine Or.inl ⟨u + 1, by omega, Or.inr ⟨by omega, by rw [show u + 1 - 1 = u by omega]; exact g2⟩, fun r hr q => ?_⟩
      rcases q with q | ⟨q1, q2⟩
      · exact h2 r q
      · exact g3 (r - 1) (by omega) q2
    · rw [if_pos (by omega)]
      refine Or.inr ⟨h1, fun r q => ?_⟩
      rcases q with q | ⟨q1, q2⟩
      · exact h2 r q
      · exact g2 (r - 1) q2
theorem wy_le {law : Int} {num : Int → Int} : ∀ (k : Nat), (∀ i : Int, 0 ≤ i → i < k → 1 ≤ num i) → ∀ v t, wy law num k v t → (t : Int) ≤ v
  | 0, _, v, t, h => by
    unfold wy at h
    omega
  | k + 1, hn, v, t, h => by
    unfold wy at h
    obtain ⟨j, h1, h2, h3⟩ := h
    have i1 := wy_le k (fun i i0 i1 => hn i i0 (by omega)) _ _ h3
    have i2 := hn k (by omega) (by omega)
    have i3 : (j : Int) * 1 ≤ (j : Int) * num k := Int.mul_le_mul_of_nonneg_left i2 (by omega)
    omega
theorem wy_neg {law : Int} {num : Int → Int} {k : Nat} {v : Int} {t : Nat} (hn : ∀ i : Int, 0 ≤ i → i < k → 1 ≤ num i) (hv : v < 0) : ¬ wy law num k v t := fun h => by
  have := wy_le k hn v t h
  omega
theorem rc_wy {law : Int} {num : Int → Int} : ∀ (k : Nat) (v : Int), rc law num k v ↔ ∃ t, wy law num k v t
  | 0, v => by
    unfold rc wy
    exact ⟨fun h => ⟨0, h, rfl⟩, fun ⟨t, h⟩ => h.1⟩
  | k + 1, v => by
    unfold rc wy
    constructor
    · rintro ⟨j, h1, h2, h3⟩
      obtain ⟨t, ht⟩ := (rc_wy k _).mp h3
      obtain ⟨jj, rfl⟩ := Int.eq_ofNat_of_zero_le h1
      exact ⟨t + jj, jj, fun q => by have := h2 q; omega, by omega, by rw [show t + jj - jj = t by omega]; exact ht⟩
    · rintro ⟨t, j, h1, h2, h3⟩
      exact ⟨j, by omega, fun q => by have := h1 q; omega, (rc_wy k _).mpr ⟨_, h3⟩⟩
theorem wy_s {law : Int} {num : Int → Int} {k : Nat} {v : Int} {t : Nat} (hl : law ≠ 2) : wy law num (k + 1) v t ↔ (wy law num k v t ∨ (1 ≤ t ∧ wy law num (k + 1) (v - num k) (t - 1))) := by
  show (∃ j : Nat, _) ↔ (_ ∨ (_ ∧ ∃ j : Nat, _))
  constructor
  · rintro ⟨j, h1, h2, h3⟩
    match j, h2, h3 with
    | 0, h2, h3 => left; rw [show v - ((0 : Nat) : Int) * num k = v by omega] at h3; exact h3
    | j + 1, h2, h3 =>
      right
      refine ⟨by omega, j, fun q => absurd q hl, by omega, ?_⟩
      rw [show v - num k - (j : Int) * num k = v - ((j + 1 : Nat) : Int) * num k by rw [Int.natCast_add, Int.add_mul]; omega, show t - 1 - j = t - (j + 1) by omega]
      exact h3
  · rintro (h | ⟨h1, j, h2, h3, h4⟩)
    · exact ⟨0, fun _ => by omega, by omega, by rw [show v - ((0 : Nat) : Int) * num k = v by omega]; exact h⟩
    · refine ⟨j + 1, fun q => absurd q hl, by omega, ?_⟩
      rw [show v - num k - (j : Int) * num k = v - ((j + 1 : Nat) : Int) * num k by rw [Int.natCast_add, Int.add_mul]; omega, show t - 1 - j = t - (j + 1) by omega] at h4
      exact h4
theorem wyp_0 {law : Int} {num : Int → Int} {k : Nat} {v : Int} {t : Nat} : wyp law num k 0 v t ↔ wy law num k v t := by
  unfold wyp
  constructor
  · rintro ⟨j, h1, h2, h3⟩
    have e : j = 0 := by omega
    subst e
    rw [show v - ((0 : Nat) : Int) * num k = v by omega] at h3
    exact h3
  · intro h
    exact ⟨0, by omega, by omega, by rw [show v - ((0 : Nat) : Int) * num k = v by omega]; exact h⟩
theorem wyp_s {law : Int} {num : Int → Int} {k p : Nat} {v : Int} {t : Nat} : wyp law num k (p + 1) v t ↔ (wyp law num k p v t ∨ (1 ≤ t ∧ wyp law num k p (v - num k) (t - 1))) := by
  unfold wyp
  constructor
  · rintro ⟨j, h1, h2, h3⟩
    match j, h1, h2, h3 with
    | 0, h1, h2, h3 => exact Or.inl ⟨0, by omega, h2, h3⟩
    | j + 1, h1, h2, h3 =>
      right
      refine ⟨by omega, j, by omega, by omega, ?_⟩
      rw [show v - num k - (j : Int) * num k = v - ((j + 1 : Nat) : Int) * num k by rw [Int.natCast_add, Int.add_mul]; omega, show t - 1 - j = t - (j + 1) by omega]
      exact h3
  · rintro (⟨j, h1, h2, h3⟩ | ⟨h1, j, h2, h3, h4⟩)
    · exact ⟨j, by omega, h2, h3⟩
    · refine ⟨j + 1, by omega, by omega, ?_⟩
      rw [show v - num k - (j : Int) * num k = v - ((j + 1 : Nat) : Int) * num k by rw [Int.natCast_add, Int.add_mul]; omega, show t - 1 - j = t - (j + 1) by omega] at h4
      exact h4
theorem wyp_3 {num : Int → Int} {k : Nat} {v : Int} {t : Nat} : wyp 2 num k 3 v t ↔ wy 2 num (k + 1) v t := by
  show (∃ j : Nat, _) ↔ (∃ j : Nat, _)
  constructor
  · rintro ⟨j, h1, h2, h3⟩
    exact ⟨j, fun _ => h1, h2, h3⟩
  · rintro ⟨j, h1, h2, h3⟩
    exact ⟨j, h1 rfl, h2, h3⟩
theorem wyp_le {law : Int} {num : Int → Int} {k p : Nat} (hn : ∀ i : Int, 0 ≤ i → i < k + 1 → 1 ≤ num i) {v : Int} {t : Nat} (h : wyp law num k p v t) : (t : Int) ≤ v := by
  obtain ⟨j, h1, h2, h3⟩ := h
  have i1 := wy_le k (fun i i0 i1 => hn i i0 (by omega)) _ _ h3
  have i2 := hn k (by omega) (by omega)
  have i3 : (j : Int) * 1 ≤ (j : Int) * num k := Int.mul_le_mul_of_nonneg_left i2 (by omega)
  omega
/-- the table of the fewest, up to the top -/
def FT (P : Int → Nat → Prop) (F : Int → Int) (top : Int) : Prop := ∀ v : Int, 0 ≤ v → v ≤ top → LW (P v) (F v)
/-- one place on in the rising pass -/
theorem FT_up {law : Int} {num : Int → Int} {k : Nat} {F : Int → Int} {x a top : Int} (hl : law ≠ 2) (hn : ∀ i : Int, 0 ≤ i → i < k + 1 → 1 ≤ num i) (ha : num k = a) (hx : a ≤ x) (ht : top ≤ 4000) (h1 : ∀ v : Int, 0 ≤ v → v < x → LW (wy law num (k + 1) v) (F v)) (h2 : LW (wy law num k x) (F x)) (hxt : x ≤ top) :
    LW (wy law num (k + 1) x) (if F x < F (x - a) + 1 then F x else F (x - a) + 1) := by
  have ha1 := hn k (by omega) (by omega)
  refine LW_congr (fun t => (wy_s hl).symm) ?_
  rw [ha]
  exact LW_min h2 (h1 (x - a) (by omega) (by omega)) (fun t q => by have := wy_le k (fun i i0 i1 => hn i i0 (by omega)) _ _ q; omega) (fun t q => by have := wy_le (k + 1) (fun i i0 i1 => hn i i0 (by omega)) _ _ q; omega)
/-- one place on in a falling pass -/
theorem FT_down {law : Int} {num : Int → Int} {k p : Nat} {F : Int → Int} {x a top : Int} (hn : ∀ i : Int, 0 ≤ i → i < k + 1 → 1 ≤ num i) (ha : num k = a) (hx : a ≤ x) (ht : top ≤ 4000) (h1 : LW (wyp law num k p x) (F x)) (h2 : LW (wyp law num k p (x - a)) (F (x - a))) (hxt : x ≤ top) :
    LW (wyp law num k (p + 1) x) (if F x < F (x - a) + 1 then F x else F (x - a) + 1) := by
  have ha1 := hn k (by omega) (by omega)
  refine LW_congr (fun t => wyp_s.symm) ?_
  rw [ha]
  exact LW_min h1 h2 (fun t q => by have := wyp_le hn q; omega) (fun t q => by have := wyp_le hn q; omega)
theorem wy_low {law : Int} {num : Int → Int} {k : Nat} {v : Int} {t : Nat} (hn : ∀ i : Int, 0 ≤ i → i < k + 1 → 1 ≤ num i) (hv : v < num k) : wy law num (k + 1) v t ↔ wy law num k v t := by
  show (∃ j : Nat, _) ↔ _
  constructor
  · rintro ⟨j, h1, h2, h3⟩
    match j, h2, h3 with
    | 0, h2, h3 => rw [show v - ((0 : Nat) : Int) * num k = v by omega] at h3; exact h3
    | j + 1, h2, h3 =>
      have i2 := hn k (by omega) (by omega)
      have i3 : (j : Int) * 0 ≤ (j : Int) * num k := Int.mul_le_mul_of_nonneg_left (by omega) (by omega)
      refine absurd h3 (wy_neg (fun i i0 i1 => hn i i0 (by omega)) ?_)
      rw [Int.natCast_add, Int.add_mul]
      omega
  · intro h
    exact ⟨0, fun _ => by omega, by omega, by rw [show v - ((0 : Nat) : Int) * num k = v by omega]; exact h⟩
theorem wyp_low {law : Int} {num : Int → Int} {k p : Nat} {v : Int} {t : Nat} (hn : ∀ i : Int, 0 ≤ i → i < k + 1 → 1 ≤ num i) (hv : v < num k) : wyp law num k (p + 1) v t ↔ wyp law num k p v t := by
  rw [wyp_s]
  constructor
  · rintro (h | ⟨h1, h2⟩)
    · exact h
    · have := wyp_le hn h2
      omega
  · exact Or.inl
