/-! part 61: the table of the least sums by their rests -/
/-- what one number's widening does to the table -/
def WID (m n : Int) (T T' : Int → Int) : Prop := (∀ r, 0 ≤ r → r < m → 0 ≤ T' r ∧ T' r ≤ T r) ∧ (∀ s t, 0 ≤ s → s < m → 0 ≤ t → T' ((s + t * n) % m) ≤ T s + t * n) ∧ ∀ S : Int → Int → Prop, (∀ r, 0 ≤ r → r < m → T r < 1048576 → S r (T r)) → (∀ r x, 0 ≤ r → r < m → S r x → S ((r + n) % m) (x + n)) → ∀ r, 0 ≤ r → r < m → T' r < 1048576 → S r (T' r)
/-- on the way: what is sound, and what has been told on -/
def WI (m n : Int) (T F : Int → Int) : Prop := (∀ r, 0 ≤ r → r < m → 0 ≤ F r ∧ F r ≤ T r) ∧ ∀ S : Int → Int → Prop, (∀ r, 0 ≤ r → r < m → T r < 1048576 → S r (T r)) → (∀ r x, 0 ≤ r → r < m → S r x → S ((r + n) % m) (x + n)) → ∀ r, 0 ≤ r → r < m → F r < 1048576 → S r (F r)
def DR (m n g ρ : Int) (T F : Int → Int) : Prop := ∀ s t, 0 ≤ s → s < m → 0 ≤ t → s % g < ρ → F ((s + t * n) % m) ≤ T s + t * n
def DC (m n ρ : Int) (j : Nat) (T F : Int → Int) : Prop := ∀ i i' : Nat, i ≤ i' → i' ≤ j → F ((ρ + i' * n) % m) ≤ T ((ρ + i * n) % m) + ((i' : Int) - i) * n
theorem mod_in {m : Int} (hm : 1 ≤ m) (x : Int) : 0 ≤ x % m ∧ x % m < m := ⟨Int.emod_nonneg x (by omega), Int.emod_lt_of_pos x (by omega)⟩
theorem WI_step {m n h : Int} {T F : Int → Int} (hm : 1 ≤ m) (hn : 1 ≤ n) (hh : 0 ≤ h ∧ h < m) (hw : WI m n T F) : WI m n T (up F ((h + n) % m) (min (F ((h + n) % m)) (F h + n))) := by
  obtain ⟨a1, a2⟩ := hw
  have hx := mod_in hm (h + n)
  have b1 := a1 _ hx.1 hx.2
  have b2 := a1 h hh.1 hh.2
  refine ⟨fun r r0 r1 => ?_, fun S s1 s2 r r0 r1 => ?_⟩
  · unfold up
    split
    · rename_i c
      rw [c]
      omega
    · exact a1 r r0 r1
  · unfold up
    split
    · rename_i c
      intro q
      rcases Int.le_total (F ((h + n) % m)) (F h + n) with d | d
      · rw [Int.min_eq_left d] at q ⊢
        rw [c]
        exact a2 S s1 s2 _ hx.1 hx.2 q
      · rw [Int.min_eq_right d] at q ⊢
        rw [c]
        exact s2 h _ hh.1 hh.2 (a2 S s1 s2 h hh.1 hh.2 (by omega))
    · exact a2 S s1 s2 r r0 r1
theorem up_min {F : Int → Int} {i x r : Int} : up F i (min (F i) x) r ≤ F r := by
  unfold up
  split
  · rename_i c
    rw [c]
    omega
  · omega
theorem DR_step {m n g ρ i x : Int} {T F : Int → Int} (h : DR m n g ρ T F) : DR m n g ρ T (up F i (min (F i) x)) := fun s t s0 s1 t0 q => by
  have := h s t s0 s1 t0 q
  have := up_min (F := F) (i := i) (x := x) (r := (s + t * n) % m)
  omega
theorem mod_step {m n ρ : Int} {j : Nat} : ((ρ + j * n) % m + n) % m = (ρ + ((j + 1 : Nat) : Int) * n) % m := by
  rw [Int.emod_add_emod, show ρ + (j : Int) * n + n = ρ + ((j + 1 : Nat) : Int) * n by rw [Int.natCast_add, Int.add_mul]; omega]
theorem DC_step {m n ρ : Int} {j : Nat} {T F : Int → Int} (hm : 1 ≤ m) (hw : WI m n T F) (h : DC m n ρ j T F) : DC m n ρ (j + 1) T (up F (((ρ + j * n) % m + n) % m) (min (F (((ρ + j * n) % m + n) % m)) (F ((ρ + j * n) % m) + n))) := by
  intro i i' h1 h2
  by_cases c : i' = j + 1
  · subst c
    rw [mod_step]
    have hx := mod_in hm (ρ + ((j + 1 : Nat) : Int) * n)
    by_cases d : i = j + 1
    · subst d
      have e1 := up_min (F := F) (i := (ρ + ((j + 1 : Nat) : Int) * n) % m) (x := F ((ρ + j * n) % m) + n) (r := (ρ + ((j + 1 : Nat) : Int) * n) % m)
      have e2 := (hw.1 _ hx.1 hx.2).2
      rw [Int.sub_self, Int.zero_mul]
      omega
    · have e := h i j (by omega) (Nat.le_refl _)
      rw [up_eq]
      have e3 : (((j + 1 : Nat) : Int) - i) * n = ((j : Int) - i) * n + n := by rw [show (((j + 1 : Nat) : Int) - i) = ((j : Int) - i) + 1 by omega, Int.add_mul]; omega
      rw [e3]
      omega
  · have e := h i i' h1 (by omega)
    have := up_min (F := F) (i := ((ρ + j * n) % m + n) % m) (x := F ((ρ + j * n) % m) + n) (r := (ρ + i' * n) % m)
    omega
theorem DC_in {m n ρ : Int} {T F : Int → Int} (hm : 1 ≤ m) (hw : WI m n T F) : DC m n ρ 0 T F := by
  intro i i' h1 h2
  rw [show i' = 0 by omega, show i = 0 by omega]
  have hx := mod_in hm (ρ + ((0 : Nat) : Int) * n)
  have := (hw.1 _ hx.1 hx.2).2
  omega
/-- each place of a ring is met -/
theorem ring_hit {m n ρ s : Nat} (hm : 0 < m) (hs : s < m) (hρ : s % Nat.gcd m n = ρ) : ∃ i : Nat, i < m / Nat.gcd m n ∧ ((ρ : Int) + i * n) % (m : Int) = s := by
  have hgp : 0 < Nat.gcd m n := Nat.gcd_pos_of_pos_left _ hm
  obtain ⟨x, y, hb⟩ := bez n n m (Nat.le_refl _)
  obtain ⟨l, hl⟩ := Nat.gcd_dvd_left m n
  obtain ⟨n', hn'⟩ := Nat.gcd_dvd_right m n
  generalize Nat.gcd m n = g at hb hl hn' hgp hρ ⊢
  have hlp : 0 < l := by
    rcases Nat.eq_zero_or_pos l with c | c
    · rw [c, Nat.mul_zero] at hl; omega
    · exact c
  have hdiv : m / g = l := by rw [hl]; exact Nat.mul_div_cancel_left l hgp
  obtain ⟨c, hc⟩ : ∃ c, c = s / g := ⟨_, rfl⟩
  have hs2 := Nat.div_add_mod s g
  rw [hρ, ← hc] at hs2
  have e1 := Int.emod_add_mul_ediv ((c : Int) * y) (l : Int)
  have e2 := Int.emod_nonneg ((c : Int) * y) (show (l : Int) ≠ 0 by omega)
  have e3 := Int.emod_lt_of_pos ((c : Int) * y) (show 0 < (l : Int) by omega)
  obtain ⟨i, hi⟩ : ∃ i, i = (c : Int) * y % (l : Int) := ⟨_, rfl⟩
  obtain ⟨d, hd⟩ : ∃ d, d = (c : Int) * y / (l : Int) := ⟨_, rfl⟩
  rw [← hi] at e1 e2 e3
  rw [← hd] at e1
  refine ⟨i.toNat, by rw [hdiv]; omega, ?_⟩
  rw [show ((i.toNat : Nat) : Int) = i by omega]
  have hmI : (m : Int) = (g : Int) * l := by rw [hl, Int.natCast_mul]
  have hnI : (n : Int) = (g : Int) * n' := by rw [hn', Int.natCast_mul]
  have hsI : (s : Int) = (g : Int) * c + ρ := by rw [← hs2, Int.natCast_add, Int.natCast_mul]
  have f1 : (ρ : Int) + i * n = s + (m : Int) * (-(c * x) - d * n') := by
    have f2 : i * (n : Int) = c * y * n - l * d * n := by rw [← Int.sub_mul]; congr 1; omega
    have f3 : (c : Int) * y * n = c * g - c * (x * m) := by rw [hb, Int.mul_add, Int.mul_assoc]; omega
    have f4 : (l : Int) * d * n = m * (d * n') := by rw [hmI, hnI]; simp only [Int.mul_assoc, Int.mul_comm, Int.mul_left_comm]
    have f5 : (m : Int) * (-(c * x) - d * n') = -(c * (x * m)) - m * (d * n') := by
      rw [Int.mul_sub, Int.mul_neg]
      congr 2
      simp only [Int.mul_assoc, Int.mul_comm, Int.mul_left_comm]
    rw [f2, f3, f4, f5, hsI, Int.mul_comm (g : Int) (c : Int)]
    omega
  rw [f1, Int.add_mul_emod_self_left]
  exact Int.emod_eq_of_lt (by omega) (by omega)
theorem DR_next {m n ρ : Nat} {T F : Int → Int} (hm : 0 < m) (hn : 0 < n) (h1 : DR m n (Nat.gcd m n : Nat) ρ T F) (h2 : DC m n ρ (2 * (m / Nat.gcd m n)) T F) : DR m n (Nat.gcd m n : Nat) ((ρ + 1 : Nat) : Int) T F := by
  intro s t s0 s1 t0 q
  have hgp : 0 < Nat.gcd m n := Nat.gcd_pos_of_pos_left _ hm
  rcases Int.lt_or_le (s % (Nat.gcd m n : Nat)) ρ with c | c
  · exact h1 s t s0 s1 t0 c
  · obtain ⟨sn, rfl⟩ := Int.eq_ofNat_of_zero_le s0
    obtain ⟨tn, rfl⟩ := Int.eq_ofNat_of_zero_le t0
    have hρ : sn % Nat.gcd m n = ρ := by
      have : (((sn % Nat.gcd m n : Nat)) : Int) = (sn : Int) % ((Nat.gcd m n : Nat) : Int) := Int.natCast_emod _ _
      omega
    obtain ⟨i, a1, a2⟩ := ring_hit (n := n) hm (by omega) hρ
    obtain ⟨l, hl⟩ : ∃ l, l = m / Nat.gcd m n := ⟨_, rfl⟩
    rw [← hl] at a1 h2
    have hlp : 0 < l := by omega
    -- l n is a multiple of m
    have hln : ∃ c : Int, (l : Int) * n = m * c := by
      obtain ⟨n', hn'⟩ := Nat.gcd_dvd_right m n
      have hm' : m = Nat.gcd m n * l := by rw [hl]; exact (Nat.mul_div_cancel' (Nat.gcd_dvd_left m n)).symm
      refine ⟨n', ?_⟩
      have e : l * n = m * n' := by
        rw [show l * n = l * (Nat.gcd m n * n') by rw [← hn'], ← Nat.mul_assoc, Nat.mul_comm l, ← hm']
      exact_mod_cast e
    obtain ⟨c9, hc9⟩ := hln
    have htm := Nat.div_add_mod tn l
    have htl := Nat.mod_lt tn hlp
    obtain ⟨t', ht'⟩ : ∃ t', t' = tn % l := ⟨_, rfl⟩
    obtain ⟨d, hd⟩ : ∃ d, d = tn / l := ⟨_, rfl⟩
    rw [← ht'] at htl
    rw [← ht', ← hd] at htm
    have e1 := h2 i (i + t') (by omega) (by omega)
    rw [a2] at e1
    have e2 : ((sn : Int) + (tn : Int) * n) % m = ((ρ : Int) + ((i + t' : Nat) : Int) * n) % m := by
      have f1 : (tn : Int) * n = t' * n + m * (c9 * d) := by
        rw [← htm, Int.natCast_add, Int.natCast_mul, Int.add_mul, show (l : Int) * (d : Int) * n = (l * n) * d by rw [Int.mul_assoc, Int.mul_comm (d : Int), ← Int.mul_assoc], hc9, Int.mul_assoc]
        omega
      rw [f1, ← a2, ← Int.add_assoc, Int.add_mul_emod_self_left, Int.emod_add_emod, Int.natCast_add, Int.add_mul, Int.add_assoc]
    rw [e2]
    have e3 : (((i + t' : Nat) : Int) - (i : Int)) * n = (t' : Int) * n := by congr 1; omega
    rw [e3] at e1
    have e4 : (t' : Int) * n ≤ (tn : Int) * n := Int.mul_le_mul_of_nonneg_right (by
      have : t' ≤ tn := by rw [ht']; exact Nat.mod_le _ _
      omega) (by omega)
    omega
theorem WID_of {m n : Nat} {T F : Int → Int} (hm : 0 < m) (hw : WI m n T F) (h : DR m n (Nat.gcd m n : Nat) (Nat.gcd m n : Nat) T F) : WID m n T F := by
  have hgp : 0 < Nat.gcd m n := Nat.gcd_pos_of_pos_left _ hm
  exact ⟨hw.1, fun s t s0 s1 t0 => h s t s0 s1 t0 (Int.emod_lt_of_pos s (by omega)), hw.2⟩
/-- the least sums of k numbers, by their rests modulo the first -/
def TL (num : Int → Int) (k : Nat) (T : Int → Int) : Prop := ∀ r, 0 ≤ r → r < num 0 → (T r = 1048576 ∧ ∀ v, rc 0 num k v → v % num 0 ≠ r) ∨ (rc 0 num k (T r) ∧ T r % num 0 = r ∧ T r ≤ 3600 ∧ ∀ v, rc 0 num k v → v % num 0 = r → T r ≤ v)
theorem TL_bd {num : Int → Int} {k : Nat} {T : Int → Int} (hn : ∀ i : Int, 0 ≤ i → i < k → 1 ≤ num i) (h : TL num k T) : ∀ r, 0 ≤ r → r < num 0 → 0 ≤ T r ∧ T r ≤ 1048576 := fun r r0 r1 => by
  rcases h r r0 r1 with ⟨a, -⟩ | ⟨a, b, c, -⟩
  · omega
  · have := rc_nonneg k hn _ a
    omega
theorem TL_one {num : Int → Int} {T : Int → Int} (h0 : 1 ≤ num 0) (hT0 : T 0 = 0) (hT : ∀ r, 1 ≤ r → r < num 0 → T r = 1048576) : TL num 1 T := by
  have e : ∀ v, rc 0 num 1 v → v % num 0 = 0 ∧ 0 ≤ v := fun v h => by
    have hnn := rc_nonneg (num := num) 1 (fun i i0 i1 => by rw [show i = 0 by omega]; exact h0) v h
    obtain ⟨t, h1, -, h2⟩ := h
    have h2 : v - t * num 0 = 0 := h2
    exact ⟨by rw [show v = t * num 0 by omega]; exact Int.mul_emod_left t _, hnn⟩
  intro r r0 r1
  by_cases c : r = 0
  · subst c
    right
    rw [hT0]
    exact ⟨rc_zero 1, Int.zero_emod _, by omega, fun v hv _ => (e v hv).2⟩
  · left
    refine ⟨hT r (by omega) r1, fun v hv q => ?_⟩
    have := (e v hv).1
    omega
theorem TL_widen {num : Int → Int} {k : Nat} {T T' : Int → Int} (hk : 0 < k) (hn : ∀ i : Int, 0 ≤ i → i < k + 1 → 1 ≤ num i ∧ num i ≤ 60) (h : TL num k T) (hw : WID (num 0) (num k) T T') : TL num (k + 1) T' := by
  have h0 := hn 0 (by omega) (by omega)
  obtain ⟨w1, w2, w3⟩ := hw
  have hn1 : ∀ i : Int, 0 ≤ i → i < k → 1 ≤ num i := fun i a b => (hn i a (by omega)).1
  -- no sum is below the table
  have lo : ∀ v, rc 0 num (k + 1) v → T' (v % num 0) ≤ v ∧ T' (v % num 0) ≤ 3600 := by
    have key : ∀ v, rc 0 num (k + 1) v → T' (v % num 0) ≤ v := by
      rintro v ⟨t, t0, -, hu⟩
      have hs := mod_in (m := num 0) (by omega) (v - t * num k)
      have e := w2 _ t hs.1 hs.2 t0
      rw [Int.emod_add_emod, Int.sub_add_cancel] at e
      rcases h _ hs.1 hs.2 with ⟨a, b⟩ | ⟨a, b, c, d⟩
      · exact absurd rfl (b _ hu)
      · have := d _ hu rfl
        omega
    intro v hv
    refine ⟨key v hv, ?_⟩
    have hnn := rc_nonneg (num := num) (k + 1) (fun i a b => (hn i a (by omega)).1) v hv
    by_cases c : v = 0
    · have := key v hv
      omega
    · obtain ⟨v', a1, a2, a3, a4⟩ := rc_short (k := k + 1) (fun i a b => hn i a (by omega)) (M := num 0) (by omega) (by omega) hv
      have := key v' a1
      rw [a4] at this
      omega
  intro r r0 r1
  rcases Int.lt_or_le (T' r) 1048576 with c | c
  · right
    have s := w3 (fun r x => rc 0 num (k + 1) x ∧ x % num 0 = r) (fun r r0 r1 q => by
      rcases h r r0 r1 with ⟨a, -⟩ | ⟨a, b, -, -⟩
      · omega
      · exact ⟨⟨0, by omega, fun z => absurd z (by decide), by rw [Int.zero_mul, Int.sub_zero]; exact a⟩, b⟩) (fun r x _ _ q => ⟨rc_add q.1 (rc_one (by omega) (by omega)), by rw [← q.2, Int.emod_add_emod]⟩) r r0 r1 c
    have l := lo _ s.1
    rw [s.2] at l
    refine ⟨s.1, s.2, l.2, fun v hv q => ?_⟩
    have := (lo v hv).1
    rw [q] at this
    exact this
  · left
    have b1 := w1 r r0 r1
    have b2 := TL_bd hn1 h r r0 r1
    refine ⟨by omega, fun v hv q => ?_⟩
    have := (lo v hv).2
    rw [q] at this
    omega
/-- what a loaded table says of the numbers had -/
def LD (law : Int) (num : Int → Int) (k : Nat) (m : Int) (T : Int → Int) : Prop := (0 ≤ m ∧ m ≤ 60) ∧ (m = 0 → law = 2 ∨ ∀ v, 1 ≤ v → ¬ rch law num k v) ∧ (1 ≤ m → T 0 = 0 ∧ law ≠ 2) ∧ ∀ r, 0 ≤ r → r < m → (T r = 1048576 ∧ ∀ v, 1 ≤ v → v % m = r → ¬ rch law num k v) ∨ (0 ≤ T r ∧ T r ≤ 3600 ∧ T r % m = r ∧ ∀ v, 1 ≤ v → v % m = r → (rch law num k v ↔ T r ≤ v))
theorem rch0 {num : Int → Int} {k : Nat} {v : Int} : rch 0 num k v ↔ rc 0 num k v := ⟨fun h => h.elim (fun h => absurd h.1 (by decide)) (fun h => h.2), fun h => Or.inr ⟨by decide, h⟩⟩
theorem LD_of {num : Int → Int} {k : Nat} {T : Int → Int} (hk : 0 < k) (hn : ∀ i : Int, 0 ≤ i → i < k → 1 ≤ num i ∧ num i ≤ 60) (h : TL num k T) : LD 0 num k (num 0) T := by
  have h0 := hn 0 (by omega) (by omega)
  have hn1 : ∀ i : Int, 0 ≤ i → i < k → 1 ≤ num i := fun i a b => (hn i a (by omega)).1
  refine ⟨by omega, fun q => by omega, fun _ => ⟨?_, by decide⟩, fun r r0 r1 => ?_⟩
  · rcases h 0 (by omega) (by omega) with ⟨a, b⟩ | ⟨a, b, c, d⟩
    · exact absurd (Int.zero_emod _) (b 0 (rc_zero k))
    · have := d 0 (rc_zero k) (Int.zero_emod _)
      have := rc_nonneg k hn1 _ a
      omega
  · rcases h r r0 r1 with ⟨a, b⟩ | ⟨a, b, c, d⟩
    · exact Or.inl ⟨a, fun v _ q z => b v (rch0.mp z) q⟩
    · refine Or.inr ⟨rc_nonneg k hn1 _ a, c, b, fun v _ q => ⟨fun z => d v (rch0.mp z) q, fun z => rch0.mpr ?_⟩⟩
      have e : (v - T r) % num 0 = 0 := Int.emod_eq_emod_iff_emod_sub_eq_zero.mp (by rw [q, b])
      obtain ⟨q9, hq9⟩ := Int.dvd_of_emod_eq_zero e
      have hq0 : 0 ≤ q9 := by
        rcases Int.lt_or_le q9 0 with z9 | z9
        · have := Int.mul_neg_of_pos_of_neg (show (0 : Int) < num 0 by omega) z9
          omega
        · exact z9
      have := rc_add a (rc_mul (rc_one (num := num) (i := 0) (by omega) (show (0 : Int) < k by omega)) q9.toNat)
      rw [show ((q9.toNat : Nat) : Int) = q9 by omega, Int.mul_comm q9, ← hq9, show T r + (v - T r) = v by omega] at this
      exact this
theorem LD_1 {num : Int → Int} {k : Nat} {T : Int → Int} (hn : ∀ i : Int, 0 ≤ i → i < k → 1 ≤ num i ∧ num i ≤ 60) (hT0 : T 0 = 0) (hT : ∀ r, 1 ≤ r → r < 60 → T r = 1048576) : LD 1 num k (gN num k : Nat) T := by
  have hg := gN_le k hn
  refine ⟨by omega, fun q => Or.inr (fun v v1 z => by have := (rch1_pos v1).mp z; omega), fun _ => ⟨hT0, by decide⟩, fun r r0 r1 => ?_⟩
  by_cases c : r = 0
  · subst c
    right
    rw [hT0]
    exact ⟨by omega, by omega, Int.zero_emod _, fun v v1 q => ⟨fun _ => by omega, fun _ => (rch1_pos v1).mpr ⟨by omega, Int.dvd_of_emod_eq_zero q⟩⟩⟩
  · left
    refine ⟨hT r (by omega) (by omega), fun v v1 q z => ?_⟩
    have := Int.emod_eq_zero_of_dvd ((rch1_pos v1).mp z).2
    omega
theorem LD_0 {law : Int} {num : Int → Int} {k : Nat} {T : Int → Int} (h : law = 2 ∨ k = 0) : LD law num k 0 T := by
  refine ⟨by omega, fun _ => ?_, fun q => by omega, fun r r0 r1 => by omega⟩
  rcases h with h | h
  · exact Or.inl h
  · subst h
    right
    rintro v v1 (⟨-, z | ⟨z, -⟩⟩ | ⟨-, z⟩)
    · omega
    · exact absurd (show 0 < 0 from z) (by decide)
    · have z : v = 0 := z
      omega
