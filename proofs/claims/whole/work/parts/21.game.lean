/-! part 21: the class Game -/
theorem Mk_bits {z : Int} {P : Int → Prop} (h : Mk z P) : ∃ m : Nat, z = (m : Int) ∧ m < 2 ^ 61 ∧ ∀ v : Nat, v ≤ 60 → (m.testBit v = true ↔ P v) := h
theorem Mk_congr {z : Int} {P P' : Int → Prop} (h : Mk z P) (e : ∀ v : Int, 0 ≤ v → v ≤ 60 → (P v ↔ P' v)) : Mk z P' := by
  obtain ⟨m, h1, h2, h3⟩ := h
  exact ⟨m, h1, h2, fun v hv => (h3 v hv).trans (e v (by omega) (by omega))⟩
theorem Mk_one {P : Int → Prop} (h0 : P 0) (h : ∀ v : Int, 0 < v → v ≤ 60 → ¬ P v) : Mk 1 P := by
  refine ⟨1, rfl, by decide, fun v hv => ?_⟩
  cases v with
  | zero => exact ⟨fun _ => h0, fun _ => by decide⟩
  | succ v =>
    refine ⟨fun z => ?_, fun z => absurd z (h _ (by omega) (by omega))⟩
    rw [Nat.testBit_one_eq_true_iff_self_eq_zero] at z
    omega
/-- the mask is 1 just when nothing above 0 is in -/
theorem Mk_big {m : Nat} {P : Int → Prop} (hm : m < 2 ^ 61) (h : ∀ v : Nat, v ≤ 60 → (m.testBit v = true ↔ P v)) (h0 : P 0) : 1 < m ↔ ∃ v : Nat, 1 ≤ v ∧ v ≤ 60 ∧ P v := by
  constructor
  · intro hm1
    refine Classical.byContradiction fun z => ?_
    have e : m = 1 := by
      apply Nat.eq_of_testBit_eq
      intro i
      rcases Nat.lt_or_ge 60 i with hi | hi
      · rw [tb_big hm hi, tb_big (by decide) hi]
      · cases i with
        | zero => rw [(h 0 (by omega)).mpr h0]; rfl
        | succ i =>
          have h1 : ¬ P ((i + 1 : Nat) : Int) := fun q => z ⟨i + 1, by omega, hi, q⟩
          have h2 : m.testBit (i + 1) = false := by
            cases hb : m.testBit (i + 1)
            · rfl
            · exact absurd ((h (i + 1) hi).mp hb) h1
          have h3 : (1 : Nat).testBit (i + 1) = false := by
            cases hb : (1 : Nat).testBit (i + 1)
            · rfl
            · rw [Nat.testBit_one_eq_true_iff_self_eq_zero] at hb; omega
          rw [h2, h3]
    omega
  · rintro ⟨v, h1, h2, h3⟩
    have hb := (h v h2).mpr h3
    have := Nat.ge_two_pow_of_testBit hb
    have h4 : 2 ^ 1 ≤ 2 ^ v := Nat.pow_le_pow_right (by decide) h1
    omega
theorem rch1_low {num : Int → Int} {k m : Nat} {z : Int} (hn : ∀ i : Int, 0 ≤ i → i < k → 1 ≤ num i ∧ num i ≤ 60) (hm : m < 2 ^ 61) (h : ∀ v : Nat, v ≤ 60 → (m.testBit v = true ↔ rch 1 num k v)) (h1 : 1 < m) (hz : LowB (m &&& (m ^^^ 1)) z) : z = (gN num k : Int) ∧ 0 < gN num k := by
  obtain ⟨v0, a1, a2, a3⟩ := (Mk_big hm h rch_zero).mp h1
  have hg : 0 < gN num k := by
    rcases a3 with ⟨-, b | ⟨b, -⟩⟩ | ⟨b, -⟩
    · omega
    · exact b
    · exact absurd rfl b
  have hg60 := (gN_le (num := num) k hn).1
  have tb : ∀ u : Nat, u ≤ 60 → ((m &&& (m ^^^ 1)).testBit u = true ↔ 1 ≤ u ∧ ((gN num k : Int)) ∣ u) := by
    intro u hu
    rw [Nat.testBit_and, Nat.testBit_xor]
    have e1 : (1 : Nat).testBit u = decide (u = 0) := by
      cases hb : (1 : Nat).testBit u
      · symm; rw [decide_eq_false_iff_not]; intro hu0; rw [Nat.testBit_one_eq_true_iff_self_eq_zero.mpr hu0] at hb; cases hb
      · symm; rw [decide_eq_true_eq]; exact Nat.testBit_one_eq_true_iff_self_eq_zero.mp hb
    rw [e1]
    have h2 := h u hu
    constructor
    · intro q
      simp only [Bool.and_eq_true] at q
      have q1 := h2.mp q.1
      have q2 := q.2
      rw [q.1] at q2
      have q3 : ¬ u = 0 := by simpa using q2
      rcases q1 with ⟨-, b | ⟨-, b⟩⟩ | ⟨b, -⟩
      · omega
      · exact ⟨by omega, b⟩
      · exact absurd rfl b
    · rintro ⟨q1, q2⟩
      have q3 : m.testBit u = true := h2.mpr (Or.inl ⟨rfl, Or.inr ⟨hg, q2⟩⟩)
      rw [q3]
      simp
      omega
  rcases hz with ⟨v, rfl, b1, b2, b3⟩ | ⟨-, b⟩
  · have c1 := (tb v b1).mp b2
    have c2 := (tb (gN num k) hg60).mpr ⟨by omega, Int.dvd_refl _⟩
    have c3 : v ≤ gN num k := by
      rcases Nat.lt_or_ge (gN num k) v with q | q
      · rw [b3 _ q] at c2; cases c2
      · exact q
    have c4 : gN num k ≤ v := Nat.le_of_dvd (by omega) (Int.natCast_dvd_natCast.mp c1.2)
    exact ⟨by omega, hg⟩
  · have c2 := (tb (gN num k) hg60).mpr ⟨by omega, Int.dvd_refl _⟩
    rw [b _ hg60] at c2
    cases c2
theorem ev_Gm_widened {w : Mem} {num : Int → Int} {k m nn : Nat} {law : Int} (hl : law = 0 ∨ law = 1 ∨ law = 2) (hm : m < 2 ^ 61) (h : ∀ v : Nat, v ≤ 60 → (m.testBit v = true ↔ rch law num k v)) (hn : ∀ i : Int, 0 ≤ i → i < k + 1 → 1 ≤ num i ∧ num i ≤ 60) (hk : num k = (nn : Int)) : EvZ y_Gm_widened b_Gm_widened 9 (some .long) (3) [Vi law, Vj (m : Int), Vi (nn : Int)] w (fun z => Mk z (rch law num (k + 1))) := by
  refine Ev.mk (isI := false) (by decide +kernel) nofun (Nat.le_of_ble_eq_true rfl) (fun G hG => ?_)
  show G 0 [some (Vi law), some (Vj (m : Int)), none, some (Vi (nn : Int)), none, none, none, none, none] [] 102 (hp w)
  have hnk := hn k (by omega) (by omega)
  have L : ∀ (s : Nat), (law = 1 → s = gN num (k + 1)) → (law ≠ 1 → (s : Int) = num k) → G 28 [some (Vi law), some (Vj (m : Int)), none, some (Vi (nn : Int)), some (Vi (s : Int)), none, none, none, none] [] 102 (hp w) := by
    intro s hs1 hs2
    have hs : 1 ≤ s ∧ s ≤ 60 := by
      by_cases e : law = 1
      · have := gN_le (num := num) (k + 1) (fun i a b => hn i a (by omega))
        rw [hs1 e]
        exact ⟨this.2 (by omega), this.1⟩
      · have := hs2 e
        omega
    have Lp : ∀ (T : Nat), T ≤ 60 → (T = if law = 2 then 3 else 60 / s) → ∀ (j i m1 : Nat), i + j = T → m1 < 2 ^ 61 → (∀ v : Nat, v ≤ 60 → (m1.testBit v = true ↔ EE (fun u => 0 ≤ u ∧ rch law num k u) s i v)) → G 65 [some (Vi law), some (Vj (m : Int)), none, some (Vi (nn : Int)), some (Vi (s : Int)), some (Vi (T : Int)), some (Vj (m1 : Int)), none, some (Vi (i : Int))] [] 102 (hp w) := by
      intro T hT0 hT j
      induction j with
      | zero =>
        intro i m1 h1 h2 h3
        refine gx_iload8 (q := 67) hG d_Gm_widened_65 rfl ?_
        refine gx_iload5 (q := 69) hG d_Gm_widened_67 rfl ?_
        refine gx_icmp_ge (tgt := 92) (q := 72) hG d_Gm_widened_69 rfl rfl (by omega) (by omega) (fun c69 => ?_) (fun c69 => ?_)
        · refine gx_lload6 (q := 94) hG d_Gm_widened_92 rfl ?_
          refine gx_lreturn hG d_Gm_widened_94 rfl rfl ?_
          refine ⟨w, rfl, _, rfl, rfl, m1, rfl, h2, fun v hv => ?_⟩
          have hi : i = T := by omega
          rw [h3 v hv, hi, hT]
          by_cases e : law = 1
          · subst e
            rw [if_neg (by decide)]
            exact wid_fin1 hn (hs1 rfl) hv
          · rw [← wid_fin hn e (hs2 e) hv]
            exact ⟨fun ⟨t, a, b, c⟩ => ⟨t, a, b, c.2⟩, fun ⟨t, a, b, c⟩ => ⟨t, a, b, rch_nonneg (fun i a b => (hn i a (by omega)).1) e _ c, c⟩⟩
        · exfalso; omega
      | succ j ih =>
        intro i m1 h1 h2 h3
        have h4 := wid_bit hs.1 (fun u hu => hu.1) h2 h3
        refine gx_iload8 (q := 67) hG d_Gm_widened_65 rfl ?_
        refine gx_iload5 (q := 69) hG d_Gm_widened_67 rfl ?_
        refine gx_icmp_ge (tgt := 92) (q := 72) hG d_Gm_widened_69 rfl rfl (by omega) (by omega) (fun c69 => ?_) (fun c69 => ?_)
        · exfalso; omega
        · refine gx_lload6 (q := 74) hG d_Gm_widened_72 rfl ?_
          refine gx_lload6 (q := 76) hG d_Gm_widened_74 rfl ?_
          refine gx_iload4 (q := 78) hG d_Gm_widened_76 rfl ?_
          refine gx_lshl (q := 79) hG (((m1 <<< s : Nat) : Int)) d_Gm_widened_78 rfl (j_shl m1 s (by omega)) ?_
          refine gx_ldc2 (q := 82) hG (2305843009213693951) k_Gm_49 d_Gm_widened_79 rfl rfl ?_
          refine gx_land (q := 83) hG (((m1 <<< s &&& TT : Nat) : Int)) d_Gm_widened_82 rfl (j_and (m1 <<< s) TT) ?_
          refine gx_lor (q := 84) hG (((m1 ||| (m1 <<< s &&& TT) : Nat) : Int)) d_Gm_widened_83 rfl (j_or m1 (m1 <<< s &&& TT)) ?_
          refine gx_lstore6 (q := 86) hG d_Gm_widened_84 rfl rfl ?_
          refine gx_iinc8 (q := 89) hG d_Gm_widened_86 rfl rfl ?_
          refine gx_goto (tgt := 65) hG d_Gm_widened_89 rfl ?_
          exact ih (i + 1) _ (by omega) h4.1 h4.2
    have e56 : (60 : Int) / (s : Int) = ((60 / s : Nat) : Int) := by simp
    refine gx_iload4 (q := 30) hG d_Gm_widened_28 rfl ?_
    refine gx_iconst (q := 31) hG d_Gm_widened_30 rfl ?_
    refine gx_icmp_lt (tgt := 41) (q := 34) hG d_Gm_widened_31 rfl rfl (by omega) (by omega) (fun c31 => ?_) (fun c31 => ?_)
    · exfalso; omega
    · refine gx_iload4 (q := 36) hG d_Gm_widened_34 rfl ?_
      refine gx_bipush (q := 38) hG d_Gm_widened_36 rfl rfl ?_
      refine gx_icmp_le (tgt := 43) (q := 41) hG d_Gm_widened_38 rfl rfl (by omega) (by omega) (fun c38 => ?_) (fun c38 => ?_)
      · refine gx_iload0 (q := 44) hG d_Gm_widened_43 rfl ?_
        refine gx_iconst (q := 45) hG d_Gm_widened_44 rfl ?_
        refine gx_icmp_ne (tgt := 52) (q := 48) hG d_Gm_widened_45 rfl rfl (by omega) (by omega) (fun c45 => ?_) (fun c45 => ?_)
        · refine gx_bipush (q := 54) hG d_Gm_widened_52 rfl rfl ?_
          refine gx_iload4 (q := 56) hG d_Gm_widened_54 rfl ?_
          refine gx_idiv (q := 57) hG d_Gm_widened_56 rfl (by omega) (by omega) (by omega) (by omega) ?_
          rw [e56]
          refine gx_istore5 (q := 59) hG d_Gm_widened_57 rfl rfl ?_
          refine gx_lload1 (q := 60) hG d_Gm_widened_59 rfl ?_
          refine gx_lstore6 (q := 62) hG d_Gm_widened_60 rfl rfl ?_
          refine gx_iconst (q := 63) hG d_Gm_widened_62 rfl ?_
          refine gx_istore8 (q := 65) hG d_Gm_widened_63 rfl rfl ?_
          first
            | exact Lp 3 (by omega) (by rw [if_pos (by omega)]) 3 0 m (by omega) hm (fun v hv => by rw [h v hv, EE_zero]; exact ⟨fun q => ⟨by omega, q⟩, fun q => q.2⟩)
            | exact Lp (60 / s) (Nat.div_le_self _ _) (by rw [if_neg (by omega)]) (60 / s) 0 m (by omega) hm (fun v hv => by rw [h v hv, EE_zero]; exact ⟨fun q => ⟨by omega, q⟩, fun q => q.2⟩)
        · refine gx_iconst (q := 49) hG d_Gm_widened_48 rfl ?_
          refine gx_goto (tgt := 57) hG d_Gm_widened_49 rfl ?_
          refine gx_istore5 (q := 59) hG d_Gm_widened_57 rfl rfl ?_
          refine gx_lload1 (q := 60) hG d_Gm_widened_59 rfl ?_
          refine gx_lstore6 (q := 62) hG d_Gm_widened_60 rfl rfl ?_
          refine gx_iconst (q := 63) hG d_Gm_widened_62 rfl ?_
          refine gx_istore8 (q := 65) hG d_Gm_widened_63 rfl rfl ?_
          first
            | exact Lp 3 (by omega) (by rw [if_pos (by omega)]) 3 0 m (by omega) hm (fun v hv => by rw [h v hv, EE_zero]; exact ⟨fun q => ⟨by omega, q⟩, fun q => q.2⟩)
            | exact Lp (60 / s) (Nat.div_le_self _ _) (by rw [if_neg (by omega)]) (60 / s) 0 m (by omega) hm (fun v hv => by rw [h v hv, EE_zero]; exact ⟨fun q => ⟨by omega, q⟩, fun q => q.2⟩)
      · exfalso; omega
  have h60 : gN num k ≤ 60 := (gN_le k (fun i a b => hn i a (by omega))).1
  have hz1 : law = 1 → ¬ 1 < m → nn = gN num (k + 1) := by
    intro e h9
    subst e
    have h10 : gN num k = 0 := by
      rcases Nat.eq_zero_or_pos (gN num k) with q | q
      · exact q
      · exact absurd ((Mk_big hm h rch_zero).mpr ⟨gN num k, q, h60, Or.inl ⟨rfl, Or.inr ⟨q, Int.dvd_refl _⟩⟩⟩) h9
    show nn = Nat.gcd (gN num k) (num k).toNat
    rw [h10, Nat.gcd_zero_left]
    omega
  have hz2 : law = 1 → 1 < m → ∀ z, LowB (m &&& (m ^^^ 1)) z → z = (gN num k : Int) := by
    intro e h9 z hz
    subst e
    exact (rch1_low (fun i a b => hn i a (by omega)) hm h h9 hz).1
  have hz3 : Nat.gcd (gN num k) nn = gN num (k + 1) := by
    show _ = Nat.gcd (gN num k) (num k).toNat
    rw [hk]
    rfl
  refine gx_iload3 (q := 1) hG d_Gm_widened_0 rfl ?_
  refine gx_istore4 (q := 3) hG d_Gm_widened_1 rfl rfl ?_
  refine gx_iload0 (q := 4) hG d_Gm_widened_3 rfl ?_
  refine gx_iconst (q := 5) hG d_Gm_widened_4 rfl ?_
  refine gx_icmp_ne (tgt := 28) (q := 8) hG d_Gm_widened_5 rfl rfl (by omega) (by omega) (fun c5 => ?_) (fun c5 => ?_)
  · first
      | exact L nn (fun e => by exfalso; omega) (fun _ => by omega)
      | exact L nn (fun e => hz1 e (by omega)) (fun _ => by omega)
      | exact L (gN num (k + 1)) (fun _ => rfl) (fun e => by exfalso; omega)
  · refine gx_lload1 (q := 9) hG d_Gm_widened_8 rfl ?_
    refine gx_lconst (q := 10) hG 1 d_Gm_widened_9 rfl rfl ?_
    refine gx_lcmp (q := 11) hG d_Gm_widened_10 rfl (by omega) (by omega) ?_
    refine gx_if_le (tgt := 28) (q := 14) hG d_Gm_widened_11 rfl rfl (cmp3_R _ _) (fun c11 => ?_) (fun c11 => ?_)
    · have c11 := cmp3_le.mp c11
      first
        | exact L nn (fun e => by exfalso; omega) (fun _ => by omega)
        | exact L nn (fun e => hz1 e (by omega)) (fun _ => by omega)
        | exact L (gN num (k + 1)) (fun _ => rfl) (fun e => by exfalso; omega)
    · have c11 := cmp3_gt.mp c11
      refine gx_lload1 (q := 15) hG d_Gm_widened_14 rfl ?_
      refine gx_ldc2 (q := 18) hG (-2) k_Gm_86 d_Gm_widened_15 rfl rfl ?_
      refine gx_land (q := 19) hG (((m &&& (m ^^^ 1) : Nat) : Int)) d_Gm_widened_18 rfl ((Int64.and_comm _ _).trans (j_notand 1 m)) ?_
      refine gw_N1Y (q := 22) hG n_Gm_66 s_X_lowestOf c_X_lowestOf (ev_X_lowestOf (Nat.lt_of_le_of_lt Nat.and_le_left (show m < 2 ^ 63 by omega))) (by decide) (Nat.le_of_ble_eq_true rfl) d_Gm_widened_19 rfl (by decide) (fun z19 h19 => ?_)
      have h20 := hz2 (by omega) (by omega) _ h19
      rw [h20]
      refine gx_iload3 (q := 23) hG d_Gm_widened_22 rfl ?_
      refine gw_N2X (q := 26) hG n_Gm_43 s_X_divisorOf c_X_divisorOf (ev_X_divisorOf (x := gN num k) (y := nn) (by omega) (by omega)) (by decide) (Nat.le_of_ble_eq_true rfl) d_Gm_widened_23 rfl (by decide) ?_
      rw [hz3]
      refine gx_istore4 (q := 28) hG d_Gm_widened_26 rfl rfl ?_
      first
        | exact L nn (fun e => by exfalso; omega) (fun _ => by omega)
        | exact L nn (fun e => hz1 e (by omega)) (fun _ => by omega)
        | exact L (gN num (k + 1)) (fun _ => rfl) (fun e => by exfalso; omega)

