/-! part 74: sets of gaps by their places -/
def pS (s : Sta) (v : Int) : Prop := ¬ hadS s v
noncomputable def ix (s : Sta) (v : Nat) : Nat := (cn (pS s) (v - 1)).toNat
noncomputable def GG (s : Sta) : Nat := (cn (pS s) 60).toNat
noncomputable def msk (s : Sta) (S : Nat) : Nat := mkN (fun v => pS s v ∧ S.testBit (ix s v) = true) 28
theorem cn_mono {P : Int → Prop} {k : Nat} : ∀ d : Nat, cn P k ≤ cn P (k + d)
  | 0 => Int.le_refl _
  | d + 1 => by
    have h := cn_mono (P := P) (k := k) d
    have hb := bi_01 (P ((k + d + 1 : Nat) : Int))
    show _ ≤ cn P (k + d) + bi (P ((k + d + 1 : Nat) : Int))
    omega
theorem cn_le {P : Int → Prop} {k n : Nat} (h : k ≤ n) : cn P k ≤ cn P n := by
  have := cn_mono (P := P) (k := k) (n - k)
  rw [show k + (n - k) = n by omega] at this
  exact this
theorem cn_s {P : Int → Prop} {v : Nat} (hv : 1 ≤ v) : cn P v = cn P (v - 1) + bi (P v) := by
  obtain ⟨k, rfl⟩ : ∃ k, v = k + 1 := ⟨v - 1, by omega⟩
  rfl
theorem ix_c {s : Sta} {v : Nat} : ((ix s v : Nat) : Int) = cn (pS s) (v - 1) := by
  have := cn_bd (P := pS s) (v - 1)
  unfold ix
  omega
theorem GG_c {s : Sta} : ((GG s : Nat) : Int) = cn (pS s) 60 := by
  have := cn_bd (P := pS s) 60
  unfold GG
  omega
theorem pS_0 {s : Sta} : ¬ pS s 0 := fun q => q hadS_0
theorem ix_lt {s : Sta} {v : Nat} (h1 : 1 ≤ v) (h2 : v ≤ 60) (hp : pS s v) : ix s v < GG s := by
  have a := ix_c (s := s) (v := v)
  have b := GG_c (s := s)
  have c := cn_s (P := pS s) h1
  rw [bi_t hp] at c
  have d := cn_le (P := pS s) h2
  omega
theorem ix_mono {s : Sta} {u v : Nat} (h1 : 1 ≤ u) (h2 : u < v) (hp : pS s u) : ix s u < ix s v := by
  have a := ix_c (s := s) (v := v)
  have b := ix_c (s := s) (v := u)
  have c := cn_s (P := pS s) h1
  rw [bi_t hp] at c
  have d := cn_le (P := pS s) (show u ≤ v - 1 by omega)
  omega
theorem ix_inj {s : Sta} {u v : Nat} (h1 : 1 ≤ u) (h2 : 1 ≤ v) (hp : pS s u) (hq : pS s v) (h : ix s u = ix s v) : u = v := by
  rcases Nat.lt_trichotomy u v with c | c | c
  · have := ix_mono h1 c hp
    omega
  · exact c
  · have := ix_mono h2 c hq
    omega
theorem ix_ex {s : Sta} {i : Nat} : ∀ n : Nat, (i : Int) < cn (pS s) n → ∃ v : Nat, 1 ≤ v ∧ v ≤ n ∧ pS s v ∧ ix s v = i
  | 0, h => by
    have h : (i : Int) < 0 := h
    omega
  | n + 1, h => by
    by_cases c : (i : Int) < cn (pS s) n
    · obtain ⟨v, a, b, d, e⟩ := ix_ex n c
      exact ⟨v, a, by omega, d, e⟩
    · have h2 : (i : Int) < cn (pS s) n + bi (pS s ((n + 1 : Nat) : Int)) := h
      have hb := bi_01 (pS s ((n + 1 : Nat) : Int))
      have hp : pS s ((n + 1 : Nat) : Int) := bi_eq1.mp (by omega)
      have a := ix_c (s := s) (v := n + 1)
      rw [show n + 1 - 1 = n by omega] at a
      exact ⟨n + 1, by omega, by omega, hp, by omega⟩
theorem can_27 {s : Sta} (h : canS s) {v : Nat} (h2 : v ≤ 60) (hp : pS s v) : v ≤ 27 := by
  rcases Nat.lt_or_ge 27 v with c | c
  · exact absurd (h.2.1 v (by omega) (by omega)) hp
  · exact c
theorem msk_bit {s : Sta} {S v : Nat} : (msk s S).testBit v = true ↔ (v < 28 ∧ pS s v ∧ S.testBit (ix s v) = true) := mkN_bit 28 v
theorem msk_0 {s : Sta} {S : Nat} : (msk s S).testBit 0 = false := by
  cases hc : (msk s S).testBit 0
  · rfl
  · exact absurd (msk_bit.mp hc).2.1 pS_0
theorem msk_sub {s : Sta} {S v : Nat} (h : (msk s S).testBit v = true) : (gapm s).testBit v = true := (mkN_bit 28 v).mpr ⟨(msk_bit.mp h).1, (msk_bit.mp h).2.1⟩
theorem msk_pop {s : Sta} {S : Nat} (h : canS s) : bs (msk s S) 28 ≤ 14 := Nat.le_trans (bs_sub (fun _ q => msk_sub q) 28) (canS_b h)
theorem msk_all {s : Sta} : msk s (2 ^ GG s - 1) = gapm s := by
  refine mkN_congr 28 (fun v hv => ?_)
  constructor
  · exact fun q => q.1
  · intro q
    refine ⟨q, ?_⟩
    have h1 : 1 ≤ v := by
      rcases Nat.eq_zero_or_pos v with z | z
      · rw [z] at q; exact absurd q pS_0
      · exact z
    rw [Nat.testBit_two_pow_sub_one]
    exact decide_eq_true (ix_lt h1 (by omega) q)
theorem msk_z {s : Sta} : msk s 0 = 0 := by
  apply Nat.eq_of_testBit_eq
  intro i
  rw [Nat.zero_testBit]
  cases hc : (msk s 0).testBit i
  · rfl
  · have := (msk_bit.mp hc).2.2
    rw [Nat.zero_testBit] at this
    cases this
/-- the set behind a number's saying, by places -/
noncomputable def bhN (s : Sta) (S n : Nat) : Nat := mkN (fun i => ∃ v : Nat, 1 ≤ v ∧ v ≤ 27 ∧ pS s v ∧ ix s v = i ∧ (gb (msk s S) n).testBit v = true) (GG s)
theorem bhN_at {s : Sta} {S n v : Nat} (hv : 1 ≤ v ∧ v ≤ 27) (hp : pS s v) : (∃ v' : Nat, 1 ≤ v' ∧ v' ≤ 27 ∧ pS s v' ∧ ix s v' = ix s v ∧ (gb (msk s S) n).testBit v' = true) ↔ (gb (msk s S) n).testBit v = true := by
  constructor
  · rintro ⟨v', a, b, c, d, e⟩
    rw [ix_inj hv.1 a hp c d.symm]
    exact e
  · intro q
    exact ⟨v, hv.1, hv.2, hp, rfl, q⟩
theorem msk_bh {s : Sta} {S n : Nat} (hn : 1 ≤ n) : msk s (bhN s S n) = gb (msk s S) n := by
  apply Nat.eq_of_testBit_eq
  intro v
  have e : (msk s (bhN s S n)).testBit v = true ↔ (gb (msk s S) n).testBit v = true := by
    rw [msk_bit]
    constructor
    · rintro ⟨a, b, c⟩
      have h1 : 1 ≤ v := by
        rcases Nat.eq_zero_or_pos v with z | z
        · rw [z] at b; exact absurd b pS_0
        · exact z
      have := ((mkN_bit (GG s) (ix s v)).mp c).2
      exact (bhN_at ⟨h1, by omega⟩ b).mp this
    · intro q
      have a := ((gb_bit hn).mp q).1
      have b := msk_bit.mp (gb_sub hn q)
      have h1 : 1 ≤ v := by
        rcases Nat.eq_zero_or_pos v with z | z
        · rw [z] at b; exact absurd b.2.1 pS_0
        · exact z
      exact ⟨a, b.2.1, (mkN_bit (GG s) (ix s v)).mpr ⟨ix_lt h1 (by omega) b.2.1, (bhN_at ⟨h1, by omega⟩ b.2.1).mpr q⟩⟩
  cases h1 : (msk s (bhN s S n)).testBit v <;> cases h2 : (gb (msk s S) n).testBit v
  · rfl
  · rw [e.mpr h2] at h1; cases h1
  · rw [e.mp h1] at h2; cases h2
  · rfl
theorem bhN_lt {s : Sta} {S n : Nat} : bhN s S n < 2 ^ GG s := mkN_lt _
/-- of places in a set, what is left is in it, without the one that was said -/
theorem bhN_sub {s : Sta} {S n i : Nat} (hn : 1 ≤ n) (h : (bhN s S n).testBit i = true) : S.testBit i = true := by
  obtain ⟨-, v, a, b, c, d, e⟩ := (mkN_bit (GG s) i).mp h
  have := (msk_bit.mp (gb_sub hn e)).2.2
  rw [d] at this
  exact this
theorem bhN_self {s : Sta} {S n : Nat} (hn : 1 ≤ n) (hp : pS s n) : (bhN s S n).testBit (ix s n) = false := by
  cases hc : (bhN s S n).testBit (ix s n)
  · rfl
  · obtain ⟨-, v, a, b, c, d, e⟩ := (mkN_bit (GG s) _).mp hc
    have := ix_inj a hn c hp d
    rw [this, gb_self hn msk_0] at e
    cases e
/-- by saying the greatest one no other goes -/
theorem bhN_top {s : Sta} {S n : Nat} (hn : 1 ≤ n ∧ n ≤ 27) (hp : pS s n) (hS : S < 2 ^ GG s) (ht : ∀ i, ix s n < i → S.testBit i = false) (i : Nat) (hcan : canS s) : (bhN s S n).testBit i = (S.testBit i && decide (i ≠ ix s n)) := by
  by_cases c : i = ix s n
  · rw [c, bhN_self hn.1 hp]
    simp
  · have e : (bhN s S n).testBit i = true ↔ S.testBit i = true := by
      constructor
      · exact bhN_sub hn.1
      · intro q
        have hi : i < GG s := by
          rcases Nat.lt_or_ge i (GG s) with z | z
          · exact z
          · rw [Nat.testBit_lt_two_pow (Nat.lt_of_lt_of_le hS (Nat.pow_le_pow_right (by decide) z))] at q; cases q
        have hlt : i < ix s n := by
          rcases Nat.lt_trichotomy i (ix s n) with z | z | z
          · exact z
          · exact absurd z c
          · rw [ht i z] at q; cases q
        obtain ⟨v, a, b, d, f⟩ := ix_ex (s := s) (i := i) 60 (by rw [← GG_c]; omega)
        have hv := can_27 hcan b d
        have hvn : v < n := by
          rcases Nat.lt_trichotomy v n with z | z | z
          · exact z
          · rw [z] at f; omega
          · have := ix_mono hn.1 z hp
            omega
        refine (mkN_bit (GG s) i).mpr ⟨hi, v, a, hv, d, f, (gb_bit hn.1).mpr ⟨by omega, fun t h9 => ?_⟩⟩
        have h0 : t = 0 := by
          rcases Nat.eq_zero_or_pos t with z | z
          · exact z
          · have : 1 * n ≤ t * n := Nat.mul_le_mul_right n z
            omega
        rw [h0, Nat.zero_mul]
        exact msk_bit.mpr ⟨by omega, d, by rw [show v - 0 = v by omega, f]; exact q⟩
    have e2 : decide (i ≠ ix s n) = true := decide_eq_true c
    rw [e2, Bool.and_true]
    cases h1 : (bhN s S n).testBit i <;> cases h2 : S.testBit i
    · rfl
    · rw [e.mpr h2] at h1; cases h1
    · rw [e.mp h1] at h2; cases h2
    · rfl
theorem sumR_h {f : Nat → Int} : ∀ n : Nat, sumR f (n + 1) = f 0 + sumR (fun i => f (i + 1)) n
  | 0 => by show 0 + f 0 = f 0 + 0; omega
  | n + 1 => by
    show sumR f (n + 1) + f (n + 1) = f 0 + (sumR (fun i => f (i + 1)) n + f (n + 1))
    rw [sumR_h n]
    omega
theorem sumR_rev : ∀ (n : Nat) (f : Nat → Int), sumR f (n + 1) = sumR (fun i => f (n - i)) (n + 1)
  | 0, f => rfl
  | n + 1, f => by
    rw [sumR_h (n + 1), sumR_rev n (fun i => f (i + 1))]
    show _ = sumR (fun i => f (n + 1 - i)) (n + 1) + f (n + 1 - (n + 1))
    rw [Nat.sub_self]
    have : sumR (fun i => f (n - i + 1)) (n + 1) = sumR (fun i => f (n + 1 - i)) (n + 1) := sumR_congr (n + 1) (fun i hi => by rw [show n - i + 1 = n + 1 - i by omega])
    rw [this]
    omega
theorem sumR_le {f g : Nat → Int} : ∀ n : Nat, (∀ i, i < n → f i ≤ g i) → sumR f n ≤ sumR g n
  | 0, _ => Int.le_refl _
  | n + 1, h => by
    have a := sumR_le n (fun i hi => h i (by omega))
    have b := h n (by omega)
    unfold sumR
    omega
theorem sumR_one : ∀ n : Nat, sumR (fun _ => 1) n = n
  | 0 => rfl
  | n + 1 => by
    unfold sumR
    rw [sumR_one n]
    rfl
theorem had_add {s : Sta} (h0 : s 4 0 = 0) {u v : Int} (hu : hadS s u) (hv : hadS s v) : hadS s (u + v) := by
  unfold hadS at hu hv ⊢
  rw [h0] at hu hv ⊢
  exact rch0.mpr (rc_add (rch0.mp hu) (rch0.mp hv))
/-- a gap in place v: half of what is below are gaps -/
theorem half_gaps {s : Sta} (h0 : s 4 0 = 0) {v : Nat} (hp : pS s v) : (v : Int) + 1 ≤ 2 * cn (pS s) v := by
  have a := cn_sumR (P := pS s) pS_0 v
  have b := sumR_rev v (fun u => bi (pS s (u : Int)))
  have c := sumR_plus (f := fun u => bi (pS s (u : Int))) (g := fun i => bi (pS s ((v - i : Nat) : Int))) (v + 1)
  have d := sumR_le (f := fun _ => 1) (g := fun u => bi (pS s (u : Int)) + bi (pS s ((v - u : Nat) : Int))) (v + 1) (fun i hi => by
    have b1 := bi_01 (pS s (i : Int))
    have b2 := bi_01 (pS s ((v - i : Nat) : Int))
    rcases b1 with b1 | b1
    · rcases b2 with b2 | b2
      · exfalso
        have c1 : hadS s i := Classical.byContradiction (fun q => bi_eq0.mp b1 q)
        have c2 : hadS s ((v - i : Nat) : Int) := Classical.byContradiction (fun q => bi_eq0.mp b2 q)
        have := had_add h0 c1 c2
        rw [show (i : Int) + ((v - i : Nat) : Int) = v by omega] at this
        exact hp this
      · show 1 ≤ _
        omega
    · show 1 ≤ _
      omega)
  rw [sumR_one] at d
  have e : ((v + 1 : Nat) : Int) = (v : Int) + 1 := rfl
  omega
theorem can_all {s : Sta} (h : canS s) : ∀ v : Nat, 28 ≤ v → hadS s v := by
  intro v
  induction v using Nat.strongRecOn with
  | _ v ih =>
    intro hv
    rcases Nat.lt_or_ge 60 v with c | c
    · have := had_add h.1 (ih (v - 28) (by omega) (by omega)) (h.2.1 28 (by omega) (by omega))
      rw [show ((v - 28 : Nat) : Int) + 28 = v by omega] at this
      exact this
    · exact h.2.1 v (by omega) (by omega)
theorem can_gc {s : Sta} (h : canS s) : gcS s = (GG s : Int) := by
  rw [GG_c]
  have key : ∀ d : Nat, cn (pS s) (60 + d) = cn (pS s) 60 := by
    intro d
    induction d with
    | zero => rfl
    | succ d ih =>
      show cn (pS s) (60 + d) + bi (pS s ((60 + d + 1 : Nat) : Int)) = _
      rw [ih, bi_f (fun q => q (can_all h _ (by omega)))]
      omega
  exact key 3940
theorem can_iff {s : Sta} (hO : OK s) (h0 : s 4 0 = 0) : (¬ endS s ∧ gcS s ≤ 14) ↔ canS s := by
  have hn1 : ∀ i : Int, 0 ≤ i → i < ((s 4 1).toNat : Int) → 1 ≤ s 5 i := fun i i0 i1 => (hO.num i i0 (by omega)).1
  constructor
  · rintro ⟨-, h2⟩
    have key : ∀ v : Nat, 28 ≤ v → v ≤ 4000 → hadS s v := fun v v0 v1 => Classical.byContradiction fun q => by
      have a := half_gaps h0 (v := v) q
      have b := cn_le (P := pS s) v1
      have e : gcS s = cn (pS s) 4000 := rfl
      omega
    refine ⟨h0, fun v v0 v1 => ?_, ?_⟩
    · obtain ⟨k, rfl⟩ := Int.eq_ofNat_of_zero_le (show 0 ≤ v by omega)
      exact key k (by omega) (by omega)
    · have b := cn_le (P := pS s) (show 60 ≤ 4000 by omega)
      have e : gcS s = cn (pS s) 4000 := rfl
      show cn (pS s) 60 ≤ 14
      omega
  · intro h
    refine ⟨?_, ?_⟩
    · rintro (q | q)
      · omega
      · refine q ?_
        have d1 : (gN (s 5) (s 4 1).toNat : Int) ∣ 28 := rc_dvd _ hn1 _ (by have := h.2.1 28 (by omega) (by omega); unfold hadS at this; rw [h0] at this; exact rch0.mp this)
        have d2 : (gN (s 5) (s 4 1).toNat : Int) ∣ 29 := rc_dvd _ hn1 _ (by have := h.2.1 29 (by omega) (by omega); unfold hadS at this; rw [h0] at this; exact rch0.mp this)
        have d3 := Int.dvd_sub d2 d1
        rw [show (29 : Int) - 28 = 1 by omega] at d3
        have d4 := Int.le_of_dvd (by omega) d3
        have hp : gN (s 5) (s 4 1).toNat ≠ 0 := fun z => by
          rw [z] at d3
          have := Int.zero_dvd.mp d3
          omega
        unfold comS
        omega
    · rw [can_gc h, GG_c]
      exact h.2.2
/-- the least gap is 1 -/
theorem gap_1 {s : Sta} (h0 : s 4 0 = 0) (hG : 0 < GG s) : pS s 1 := by
  intro q
  obtain ⟨v, a, b, c, -⟩ := ix_ex (s := s) (i := 0) 60 (by rw [← GG_c]; omega)
  refine c ?_
  unfold hadS at q ⊢
  rw [h0] at q ⊢
  have := rc_mul (rch0.mp q) v
  rw [Int.mul_one] at this
  exact rch0.mpr this
theorem slStep_skip {V : Nat → Int} {m a : Nat} : ∀ d : Nat, (∀ n, a ≤ n → n < a + d → m.testBit n = false) → slStep V m (a + d) = slStep V m a
  | 0, _ => rfl
  | d + 1, h => by
    have e : slStep V m (a + (d + 1)) = (if 2 ≤ a + d ∧ m.testBit (a + d) = true then (min (slStep V m (a + d)).1 (1 + V (gb m (a + d)) / 2), if V (gb m (a + d)) % 2 = 1 then (slStep V m (a + d)).2 else 1) else slStep V m (a + d)) := rfl
    rw [e, if_neg (fun q => by rw [h (a + d) (by omega) (by omega)] at q; exact absurd q.2 (by decide))]
    exact slStep_skip d (fun n n0 n1 => h n n0 (by omega))
theorem slStep_win {m : Nat} : ∀ k : Nat, ((slStep vS m k).2 = 1 ↔ ∃ n : Nat, 2 ≤ n ∧ n < k ∧ m.testBit n = true ∧ vS (gb m n) % 2 = 0) ∧ ((slStep vS m k).2 = 0 ∨ (slStep vS m k).2 = 1)
  | 0 => ⟨⟨fun q => absurd q (by unfold slStep; decide), fun ⟨n, a, b, _⟩ => by omega⟩, Or.inl rfl⟩
  | k + 1 => by
    obtain ⟨h1, h2⟩ := slStep_win (m := m) k
    have hvb : 0 ≤ vS (gb m k) ∧ vS (gb m k) ≤ 29 := slF_bd 15 (gb m k)
    have up1 : (∃ n : Nat, 2 ≤ n ∧ n < k + 1 ∧ m.testBit n = true ∧ vS (gb m n) % 2 = 0) ↔ ((∃ n : Nat, 2 ≤ n ∧ n < k ∧ m.testBit n = true ∧ vS (gb m n) % 2 = 0) ∨ (2 ≤ k ∧ m.testBit k = true ∧ vS (gb m k) % 2 = 0)) := by
      constructor
      · rintro ⟨n, a, b, c, d⟩
        by_cases e : n = k
        · subst e; exact Or.inr ⟨a, c, d⟩
        · exact Or.inl ⟨n, a, by omega, c, d⟩
      · rintro (⟨n, a, b, c, d⟩ | ⟨a, c, d⟩)
        · exact ⟨n, a, by omega, c, d⟩
        · exact ⟨k, a, by omega, c, d⟩
    have e : slStep vS m (k + 1) = if 2 ≤ k ∧ m.testBit k = true then (min (slStep vS m k).1 (1 + vS (gb m k) / 2), if vS (gb m k) % 2 = 1 then (slStep vS m k).2 else 1) else slStep vS m k := rfl
    rw [up1, e]
    by_cases c : 2 ≤ k ∧ m.testBit k = true
    · rw [if_pos c]
      by_cases d : vS (gb m k) % 2 = 1
      · show ((if vS (gb m k) % 2 = 1 then (slStep vS m k).2 else 1) = 1 ↔ _) ∧ ((if vS (gb m k) % 2 = 1 then (slStep vS m k).2 else 1) = 0 ∨ (if vS (gb m k) % 2 = 1 then (slStep vS m k).2 else 1) = 1)
        rw [if_pos d]
        exact ⟨h1.trans ⟨Or.inl, fun q => q.elim id (fun q => by omega)⟩, h2⟩
      · show ((if vS (gb m k) % 2 = 1 then (slStep vS m k).2 else 1) = 1 ↔ _) ∧ ((if vS (gb m k) % 2 = 1 then (slStep vS m k).2 else 1) = 0 ∨ (if vS (gb m k) % 2 = 1 then (slStep vS m k).2 else 1) = 1)
        rw [if_neg d]
        exact ⟨⟨fun _ => Or.inr ⟨c.1, c.2, by omega⟩, fun _ => rfl⟩, Or.inr rfl⟩
    · rw [if_neg c]
      exact ⟨h1.trans ⟨Or.inl, fun q => q.elim id (fun q => absurd ⟨q.1, q.2.1⟩ c)⟩, h2⟩
/-- who wins, by the count of what wins -/
theorem vS_win {m : Nat} (hm : m < 2 ^ 28) (h0 : m.testBit 0 = false) (hb : bs m 28 ≤ 14) : vS m % 2 = 1 ↔ 0 < cn (winP m) 27 := by
  have hz := cn_zero (P := winP m) 27
  have hbd := cn_bd (P := winP m) 27
  have hw := slStep_win (m := m) 28
  have hs := slStep_bd (V := vS) (fun m => (slF_bd 15 m).1) (m := m) 28
  have ex : (∃ n : Nat, 2 ≤ n ∧ n < 28 ∧ m.testBit n = true ∧ vS (gb m n) % 2 = 0) ↔ 0 < cn (winP m) 27 := by
    constructor
    · rintro ⟨n, a, b, c, d⟩
      rcases Int.lt_or_le 0 (cn (winP m) 27) with z | z
      · exact z
      · exact absurd (show winP m n from ⟨by omega, by omega, by rw [show (n : Int).toNat = n by omega]; exact c, by rw [show (n : Int).toNat = n by omega]; exact d⟩) (hz.mp (by omega) n (by omega) (by omega))
    · intro q
      refine Classical.byContradiction fun z => ?_
      have : cn (winP m) 27 = 0 := hz.mpr (fun v v0 v1 w => z ⟨v.toNat, by have := w.1; omega, by omega, w.2.2.1, w.2.2.2⟩)
      omega
  rw [← ex, ← hw.1]
  by_cases c : 2 < m
  · rw [vS_eq c h0 hb]
    generalize (slStep vS m 28).1 = x at hs ⊢
    generalize (slStep vS m 28).2 = y at hs ⊢
    omega
  · rw [vS_lo (by omega)]
    constructor
    · intro q
      exfalso
      split at q <;> omega
    · intro q
      exfalso
      obtain ⟨n, a, b, d, -⟩ := hw.1.mp q
      have := Nat.ge_two_pow_of_testBit d
      have : 2 ^ 2 ≤ 2 ^ n := Nat.pow_le_pow_right (by decide) a
      omega
