/-! part 62: the greatest gap, how many gaps, out of the table -/
def mxT (T : Int → Int) : Nat → Int
  | 0 => 0
  | k + 1 => max (mxT T k) (T k)
def scT (T : Int → Int) (m : Int) : Nat → Int
  | 0 => 0
  | k + 1 => scT T m k + T k / m
def gofT (T : Int → Int) (m : Int) : Int := if m < 1 ∨ 60 < m then 1048576 else if 1048576 ≤ mxT T m.toNat then 1048576 else max 0 (mxT T m.toNat - m)
theorem mxT_ge {T : Int → Int} : ∀ k : Nat, 0 ≤ mxT T k ∧ ∀ r : Nat, r < k → T r ≤ mxT T k
  | 0 => ⟨Int.le_refl _, fun r hr => by omega⟩
  | k + 1 => by
    obtain ⟨a, b⟩ := mxT_ge (T := T) k
    unfold mxT
    refine ⟨by omega, fun r hr => ?_⟩
    by_cases c : r = k
    · rw [c]; omega
    · have := b r (by omega)
      omega
theorem mxT_at {T : Int → Int} : ∀ k : Nat, mxT T k = 0 ∨ ∃ r : Nat, r < k ∧ T r = mxT T k
  | 0 => Or.inl rfl
  | k + 1 => by
    unfold mxT
    rcases Int.le_total (mxT T k) (T k) with c | c
    · right
      exact ⟨k, by omega, by rw [Int.max_eq_right c]⟩
    · rw [Int.max_eq_left c]
      rcases mxT_at (T := T) k with h | ⟨r, h1, h2⟩
      · exact Or.inl h
      · exact Or.inr ⟨r, by omega, h2⟩
/-- the greatest of 1 .. n of which P doesn't hold, 0 if there is none -/
noncomputable def grN (P : Int → Prop) : Nat → Int
  | 0 => 0
  | k + 1 => if bi (P ((k + 1 : Nat) : Int)) = 1 then grN P k else ((k + 1 : Nat) : Int)
theorem grN_eq {P : Int → Prop} {z : Int} (h2 : z = 0 ∨ (1 ≤ z ∧ ¬ P z)) : ∀ n : Nat, z ≤ n → (∀ v : Int, z < v → v ≤ n → P v) → grN P n = z
  | 0, h0, h1 => by
    unfold grN
    omega
  | n + 1, h0, h1 => by
    unfold grN
    by_cases c : z = ((n + 1 : Nat) : Int)
    · rw [if_neg (fun q => by have := bi_eq1.mp q; rw [← c] at this; rcases h2 with h2 | h2; (· omega); (· exact h2.2 this)), c]
    · rw [if_pos (bi_t (h1 _ (by omega) (by omega)))]
      exact grN_eq h2 n (by omega) (fun v v0 v1 => h1 v v0 (by omega))
theorem grN_spec {P : Int → Prop} : ∀ n : Nat, (0 ≤ grN P n ∧ grN P n ≤ n) ∧ (grN P n = 0 ∨ (1 ≤ grN P n ∧ ¬ P (grN P n))) ∧ ∀ v : Int, grN P n < v → v ≤ n → P v
  | 0 => ⟨by unfold grN; omega, Or.inl rfl, fun v h1 h2 => by unfold grN at h1; omega⟩
  | n + 1 => by
    obtain ⟨a, b, c⟩ := grN_spec (P := P) n
    unfold grN
    by_cases d : P ((n + 1 : Nat) : Int)
    · rw [if_pos (bi_t d)]
      refine ⟨by omega, b, fun v v0 v1 => ?_⟩
      by_cases e : v = ((n + 1 : Nat) : Int)
      · rw [e]; exact d
      · exact c v v0 (by omega)
    · rw [if_neg (fun q => d (bi_eq1.mp q))]
      exact ⟨by omega, Or.inr ⟨by omega, d⟩, fun v v0 v1 => by omega⟩
theorem grN_congr {P Q : Int → Prop} : ∀ n : Nat, (∀ v : Int, 1 ≤ v → v ≤ n → (P v ↔ Q v)) → grN P n = grN Q n
  | 0, _ => rfl
  | n + 1, h => by
    unfold grN
    rw [grN_congr n (fun v v0 v1 => h v v0 (by omega)), bi_congr (h _ (by omega) (by omega))]
theorem LD_all {law : Int} {num : Int → Int} {k : Nat} {m : Int} {T : Int → Int} (h : LD law num k m T) (he : gofT T m < 1048576) : 1 ≤ m ∧ law ≠ 2 ∧ ∀ r, 0 ≤ r → r < m → 0 ≤ T r ∧ T r ≤ 3600 ∧ T r % m = r ∧ ∀ v, 1 ≤ v → v % m = r → (rch law num k v ↔ T r ≤ v) := by
  obtain ⟨h1, h2, h3, h4⟩ := h
  unfold gofT at he
  by_cases c : m < 1 ∨ 60 < m
  · rw [if_pos c] at he
    omega
  · rw [if_neg c] at he
    by_cases d : 1048576 ≤ mxT T m.toNat
    · rw [if_pos d] at he
      omega
    · refine ⟨by omega, (h3 (by omega)).2, fun r r0 r1 => ?_⟩
      rcases h4 r r0 r1 with ⟨a, -⟩ | a
      · have := (mxT_ge (T := T) m.toNat).2 r.toNat (by omega)
        rw [show ((r.toNat : Nat) : Int) = r by omega] at this
        omega
      · exact a
theorem LD_gap {law : Int} {num : Int → Int} {k : Nat} {m : Int} {T : Int → Int} (h : LD law num k m T) (he : gofT T m < 1048576) : (0 ≤ gofT T m ∧ gofT T m ≤ 3600) ∧ (gofT T m = 0 ∨ (1 ≤ gofT T m ∧ ¬ rch law num k (gofT T m))) ∧ ∀ v : Int, gofT T m < v → rch law num k v := by
  obtain ⟨hm, hl, ha⟩ := LD_all h he
  have h60 := h.1.2
  have hge := mxT_ge (T := T) m.toNat
  have hat := mxT_at (T := T) m.toNat
  have e : gofT T m = max 0 (mxT T m.toNat - m) := by
    unfold gofT at he ⊢
    rw [if_neg (by omega)] at he ⊢
    by_cases d : 1048576 ≤ mxT T m.toNat
    · rw [if_pos d] at he
      omega
    · rw [if_neg d]
  rw [e]
  refine ⟨?_, ?_, fun v hv => ?_⟩
  · rcases hat with q | ⟨r, r1, r2⟩
    · omega
    · have := (ha r (by omega) (by omega)).2.1
      omega
  · rcases Int.le_total (mxT T m.toNat - m) 0 with c | c
    · left
      omega
    · by_cases d : mxT T m.toNat - m = 0
      · left
        omega
      · right
        rw [Int.max_eq_right c]
        rcases hat with q | ⟨r, r1, r2⟩
        · omega
        · obtain ⟨a1, a2, a3, a4⟩ := ha r (by omega) (by omega)
          refine ⟨by omega, fun q => ?_⟩
          have q2 := (a4 (mxT T m.toNat - m) (by omega) (by rw [← r2, Int.sub_emod_right]; exact a3)).mp q
          omega
  · have hx := mod_in hm v
    obtain ⟨a1, a2, a3, a4⟩ := ha (v % m) hx.1 hx.2
    refine (a4 v (by omega) rfl).mpr ?_
    have b := hge.2 (v % m).toNat (by omega)
    rw [show (((v % m).toNat : Nat) : Int) = v % m by omega] at b
    rcases Int.lt_or_le v (T (v % m)) with c | c
    · exfalso
      have e9 : (T (v % m) - v) % m = 0 := Int.emod_eq_emod_iff_emod_sub_eq_zero.mp a3
      have := Int.emod_eq_of_lt (a := T (v % m) - v) (b := m) (by omega) (by omega)
      omega
    · exact c
theorem rch_dvd {law : Int} {num : Int → Int} {k : Nat} (hl : law = 0 ∨ law = 1) (hn : ∀ i : Int, 0 ≤ i → i < k → 1 ≤ num i) {v : Int} (hv : 1 ≤ v) (h : rch law num k v) : (gN num k : Int) ∣ v := by
  rcases hl with rfl | rfl
  · exact rc_dvd k hn v (rch0.mp h)
  · exact ((rch1_pos hv).mp h).2
theorem LD_end {law : Int} {num : Int → Int} {k : Nat} {m : Int} {T : Int → Int} (hl : law = 0 ∨ law = 1 ∨ law = 2) (hn : ∀ i : Int, 0 ≤ i → i < k → 1 ≤ num i ∧ num i ≤ 60) (h : LD law num k m T) : 1048576 ≤ gofT T m ↔ (law = 2 ∨ gN num k ≠ 1) := by
  have hn1 : ∀ i : Int, 0 ≤ i → i < k → 1 ≤ num i := fun i a b => (hn i a b).1
  constructor
  · intro he
    by_cases c2 : law = 2
    · exact Or.inl c2
    · right
      intro hg
      obtain ⟨h1, h2, h3, h4⟩ := h
      have hk : 0 < k := by
        rcases Nat.eq_zero_or_pos k with z | z
        · rw [z] at hg; exact absurd hg (by show (0 : Nat) ≠ 1; decide)
        · exact z
      -- some number of each rest is had
      have any : ∀ M : Int, 1 ≤ M → ∀ r, 0 ≤ r → r < M → ∃ v, 1 ≤ v ∧ v % M = r ∧ rch law num k v := by
        intro M hM r r0 r1
        rcases (show law = 0 ∨ law = 1 by omega) with rfl | rfl
        · obtain ⟨v, q, a1, a2⟩ := rc_cls hM k hn1 r
          have hv := rc_nonneg k hn1 v a1
          have e1 : v % M = r := by
            rw [a2, hg, show r * ((1 : Nat) : Int) + q * M = r + M * q by rw [Int.mul_comm q M]; omega, Int.add_mul_emod_self_left]
            exact Int.emod_eq_of_lt r0 r1
          have o := rc_mul (rc_one (num := num) (k := k) (i := 0) (by omega) (by omega)) M.toNat
          rw [show ((M.toNat : Nat) : Int) = M by omega] at o
          have o1 := hn1 0 (by omega) (by omega)
          have o2 := Int.mul_le_mul_of_nonneg_left o1 (show 0 ≤ M by omega)
          refine ⟨v + M * num 0, by omega, by rw [Int.add_mul_emod_self_left]; exact e1, rch0.mpr (rc_add a1 o)⟩
        · exact ⟨r + M, by omega, by rw [Int.add_emod_right]; exact Int.emod_eq_of_lt r0 r1, (rch1_pos (by omega)).mpr ⟨by omega, by rw [hg]; exact Int.one_dvd _⟩⟩
      have hm : 1 ≤ m := by
        rcases Int.lt_or_le m 1 with z | z
        · rcases h2 (by omega) with z2 | z2
          · exact absurd z2 c2
          · obtain ⟨v, v1, -, v3⟩ := any 1 (by omega) 0 (by omega) (by omega)
            exact absurd v3 (z2 v v1)
        · exact z
      have ha : ∀ r, 0 ≤ r → r < m → T r ≤ 3600 := fun r r0 r1 => by
        rcases h4 r r0 r1 with ⟨a, b⟩ | ⟨a, b, -, -⟩
        · obtain ⟨v, v1, v2, v3⟩ := any m hm r r0 r1
          exact absurd v3 (b v v1 v2)
        · exact b
      unfold gofT at he
      rw [if_neg (by omega)] at he
      rcases mxT_at (T := T) m.toNat with q | ⟨r, r1, r2⟩
      · rw [if_neg (by omega)] at he
        omega
      · have := ha r (by omega) (by omega)
        rw [if_neg (by omega)] at he
        omega
  · intro hq
    rcases Int.lt_or_le (gofT T m) 1048576 with c | c
    · exfalso
      obtain ⟨hm, hl2, -⟩ := LD_all h c
      obtain ⟨b1, b2, b3⟩ := LD_gap h c
      rcases hq with hq | hq
      · exact hl2 hq
      · have d1 := rch_dvd (by omega) hn1 (by omega) (b3 3601 (by omega))
        have d2 := rch_dvd (by omega) hn1 (by omega) (b3 3602 (by omega))
        have d3 := Int.dvd_sub d2 d1
        rw [show (3602 : Int) - 3601 = 1 by omega] at d3
        have d4 := Int.le_of_dvd (by omega) d3
        have hp : 0 < gN num k := by
          rcases Nat.eq_zero_or_pos (gN num k) with z | z
          · rw [z] at d3
            have := Int.zero_dvd.mp d3
            omega
          · exact z
        omega
    · exact c
/-- sums over the first n places -/
def sumR (f : Nat → Int) : Nat → Int
  | 0 => 0
  | n + 1 => sumR f n + f n
theorem sumR_congr {f g : Nat → Int} : ∀ n : Nat, (∀ i, i < n → f i = g i) → sumR f n = sumR g n
  | 0, _ => rfl
  | n + 1, h => by
    unfold sumR
    rw [sumR_congr n (fun i hi => h i (by omega)), h n (by omega)]
theorem sumR_add {f : Nat → Int} (a : Nat) : ∀ b : Nat, sumR f (a + b) = sumR f a + sumR (fun i => f (a + i)) b
  | 0 => by show sumR f a = sumR f a + 0; omega
  | b + 1 => by
    show sumR f (a + b) + f (a + b) = _ + (sumR (fun i => f (a + i)) b + f (a + b))
    rw [sumR_add a b]
    omega
theorem sumR_plus {f g : Nat → Int} : ∀ n : Nat, sumR (fun i => f i + g i) n = sumR f n + sumR g n
  | 0 => rfl
  | n + 1 => by
    unfold sumR
    rw [sumR_plus n]
    omega
theorem sumR_zero {f : Nat → Int} : ∀ n : Nat, (∀ i, i < n → f i = 0) → sumR f n = 0
  | 0, _ => rfl
  | n + 1, h => by
    unfold sumR
    rw [sumR_zero n (fun i hi => h i (by omega)), h n (by omega)]
    rfl
theorem sumR_blk {f : Nat → Int} (m : Nat) : ∀ q : Nat, sumR f (m * q) = sumR (fun i => sumR (fun j => f (i + j * m)) q) m
  | 0 => by
    rw [Nat.mul_zero]
    exact (sumR_zero m (fun i _ => rfl)).symm
  | q + 1 => by
    rw [Nat.mul_add, Nat.mul_one, sumR_add, sumR_blk m q, ← sumR_plus]
    refine sumR_congr m (fun i hi => ?_)
    show _ = sumR (fun j => f (i + j * m)) q + f (i + q * m)
    rw [Nat.add_comm (m * q) i, Nat.mul_comm m q]
theorem sumR_lt (c : Nat) : ∀ q : Nat, sumR (fun j => if j < c then 1 else 0) q = (min c q : Nat)
  | 0 => by rw [Nat.min_zero]; rfl
  | q + 1 => by
    unfold sumR
    rw [sumR_lt c q]
    split <;> omega
theorem cn_sumR {P : Int → Prop} (h0 : ¬ P 0) : ∀ n : Nat, cn P n = sumR (fun v => bi (P (v : Int))) (n + 1)
  | 0 => by
    show 0 = 0 + bi (P 0)
    rw [bi_f h0]
    rfl
  | n + 1 => by
    show cn P n + _ = sumR _ (n + 1) + _
    rw [cn_sumR h0 n]
theorem scT_sumR {T : Int → Int} {m : Int} : ∀ k : Nat, scT T m k = sumR (fun i => T i / m) k
  | 0 => rfl
  | k + 1 => by
    unfold scT sumR
    rw [scT_sumR k]
theorem LD_cnt {law : Int} {num : Int → Int} {k : Nat} {m : Int} {T : Int → Int} (h : LD law num k m T) (he : gofT T m < 1048576) : scT T m m.toNat = cn (fun v => ¬ rch law num k v) 4000 := by
  obtain ⟨hm, hl, ha⟩ := LD_all h he
  have h60 := h.1.2
  obtain ⟨b1, b2, b3⟩ := LD_gap h he
  have hT0 := (h.2.2.1 hm).1
  obtain ⟨mn, rfl⟩ := Int.eq_ofNat_of_zero_le (show 0 ≤ m by omega)
  rw [show (mn : Int).toNat = mn by omega, scT_sumR, cn_sumR (fun q => q rch_zero)]
  -- beyond, nothing is counted
  have e1 : sumR (fun v => bi (¬ rch law num k (v : Int))) (mn * 4001) = sumR (fun v => bi (¬ rch law num k (v : Int))) (4000 + 1) := by
    have hle : 4001 ≤ mn * 4001 := by omega
    obtain ⟨d, hd⟩ : ∃ d, mn * 4001 = (4000 + 1) + d := ⟨mn * 4001 - 4001, by omega⟩
    rw [hd, sumR_add, sumR_zero d (fun i _ => bi_f (fun q => q (b3 _ (by omega))))]
    omega
  rw [← e1, sumR_blk]
  refine sumR_congr mn (fun i hi => ?_)
  obtain ⟨a1, a2, a3, a4⟩ := ha i (by omega) (by omega)
  obtain ⟨c, hc⟩ : ∃ c : Nat, T i / (mn : Int) = c := ⟨(T i / (mn : Int)).toNat, by have := Int.ediv_nonneg a1 (show 0 ≤ (mn : Int) by omega); omega⟩
  have e2 := Int.emod_add_mul_ediv (T i) (mn : Int)
  rw [a3, hc] at e2
  have hcb : c ≤ 3600 := by
    have : (1 : Int) * c ≤ (mn : Int) * c := Int.mul_le_mul_of_nonneg_right (by omega) (by omega)
    omega
  rw [hc]
  have e3 : sumR (fun j => bi (¬ rch law num k ((i + j * mn : Nat) : Int))) 4001 = sumR (fun j => if j < c then 1 else 0) 4001 := by
    refine sumR_congr 4001 (fun j hj => ?_)
    have ej : ((i + j * mn : Nat) : Int) = i + (mn : Int) * j := by rw [Int.natCast_add, Int.natCast_mul, Int.mul_comm]
    rw [ej]
    by_cases z : i = 0 ∧ j = 0
    · obtain ⟨rfl, rfl⟩ := z
      rw [bi_f (fun q => q (by rw [show ((0 : Nat) : Int) + (mn : Int) * ((0 : Nat) : Int) = 0 by omega]; exact rch_zero))]
      have : c = 0 := by
        rw [show ((0 : Nat) : Int) = 0 from rfl, hT0] at hc
        rw [Int.zero_ediv] at hc
        omega
      rw [if_neg (by omega)]
    · have hpos : 1 ≤ (i : Int) + (mn : Int) * j := by
        by_cases z2 : j = 0
        · subst z2
          omega
        · have : (1 : Int) * j ≤ (mn : Int) * j := Int.mul_le_mul_of_nonneg_right (by omega) (by omega)
          omega
      have a5 := a4 ((i : Int) + (mn : Int) * j) hpos (by rw [Int.add_mul_emod_self_left]; exact Int.emod_eq_of_lt (by omega) (by omega))
      by_cases z3 : j < c
      · rw [if_pos z3, bi_t]
        intro q
        have q2 := a5.mp q
        have : (mn : Int) * ((j : Int) + 1) ≤ (mn : Int) * c := Int.mul_le_mul_of_nonneg_left (by omega) (by omega)
        rw [Int.mul_add] at this
        omega
      · rw [if_neg z3, bi_f]
        intro q
        refine q (a5.mpr ?_)
        have : (mn : Int) * c ≤ (mn : Int) * j := Int.mul_le_mul_of_nonneg_left (by omega) (by omega)
        omega
  rw [e3, sumR_lt]
  omega
theorem LD_had {law : Int} {num : Int → Int} {k : Nat} {m : Int} {T : Int → Int} (h : LD law num k m T) (hl : law ≠ 2) {v : Int} (hv : 1 ≤ v ∧ v ≤ 4000) : rch law num k v ↔ (1 ≤ m ∧ T (v % m) ≤ v) := by
  obtain ⟨h1, h2, h3, h4⟩ := h
  rcases Int.lt_or_le m 1 with c | c
  · rcases h2 (by omega) with z | z
    · exact absurd z hl
    · exact ⟨fun q => absurd q (z v hv.1), fun q => by omega⟩
  · have hx := mod_in c v
    rcases h4 _ hx.1 hx.2 with ⟨a, b⟩ | ⟨a1, a2, a3, a4⟩
    · exact ⟨fun q => absurd q (b v hv.1 rfl), fun q => by omega⟩
    · rw [a4 v hv.1 rfl]
      exact ⟨fun q => ⟨c, q⟩, fun q => q.2⟩
