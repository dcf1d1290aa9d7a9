/-! part 21: the class Game -/
theorem Mk_bits {z : Int} {P : Int → Prop} (h : Mk z P) : ∃ m : Nat, z = (m : Int) ∧ m < 2 ^ 61 ∧ ∀ v : Nat, v ≤ 60 → (m.testBit v = true ↔ P v) := h
theorem Mk_congr {z : Int} {P P' : Int → Prop} (h : Mk z P) (e : ∀ v : Int, 0 ≤ v → v ≤ 60 → (P v ↔ P' v)) : Mk z P' := by
  obtain ⟨m, h1, h2, h3⟩ := h
  exact ⟨m, h1, h2, fun v hv => (h3 v hv).trans (e v (by omega) (by omega))⟩
theorem Mk_one {P : Int → Prop} (h0 : P 0) (h : ∀ v : Int, 0 < v → v ≤ 60 → ¬ P v) : Mk 1 P := by
  refine ⟨1, rfl, by decide, fun v hv => ?_⟩
  cases v with
  | zero => exact ⟨fun _ => h0, fun _ => by decide⟩
  | succ v =>
    refine ⟨fun z => ?_, fun z => absurd z (h _ (by omega) (by omega))⟩
    rw [Nat.testBit_one_eq_true_iff_self_eq_zero] at z
    omega
/-- the mask is 1 just when nothing above 0 is in -/
theorem Mk_big {m : Nat} {P : Int → Prop} (hm : m < 2 ^ 61) (h : ∀ v : Nat, v ≤ 60 → (m.testBit v = true ↔ P v)) (h0 : P 0) : 1 < m ↔ ∃ v : Nat, 1 ≤ v ∧ v ≤ 60 ∧ P v := by
  constructor
  · intro hm1
    refine Classical.byContradiction fun z => ?_
    have e : m = 1 := by
      apply Nat.eq_of_testBit_eq
      intro i
      rcases Nat.lt_or_ge 60 i with hi | hi
      · rw [tb_big hm hi, tb_big (by decide) hi]
      · cases i with
        | zero => rw [(h 0 (by omega)).mpr h0]; rfl
        | succ i =>
          have h1 : ¬ P ((i + 1 : Nat) : Int) := fun q => z ⟨i + 1, by omega, hi, q⟩
          have h2 : m.testBit (i + 1) = false := by
            cases hb : m.testBit (i + 1)
            · rfl
            · exact absurd ((h (i + 1) hi).mp hb) h1
          have h3 : (1 : Nat).testBit (i + 1) = false := by
            cases hb : (1 : Nat).testBit (i + 1)
            · rfl
            · rw [Nat.testBit_one_eq_true_iff_self_eq_zero] at hb; omega
          rw [h2, h3]
    omega
  · rintro ⟨v, h1, h2, h3⟩
    have hb := (h v h2).mpr h3
    have := Nat.ge_two_pow_of_testBit hb
    have h4 : 2 ^ 1 ≤ 2 ^ v := Nat.pow_le_pow_right (by decide) h1
    omega
theorem rch1_low {num : Int → Int} {k m : Nat} {z : Int} (hn : ∀ i : Int, 0 ≤ i → i < k → 1 ≤ num i ∧ num i ≤ 60) (hm : m < 2 ^ 61) (h : ∀ v : Nat, v ≤ 60 → (m.testBit v = true ↔ rch 1 num k v)) (h1 : 1 < m) (hz : LowB (m &&& (m ^^^ 1)) z) : z = (gN num k : Int) ∧ 0 < gN num k := by
  obtain ⟨v0, a1, a2, a3⟩ := (Mk_big hm h rch_zero).mp h1
  have hg : 0 < gN num k := by
    rcases a3 with ⟨-, b | ⟨b, -⟩⟩ | ⟨b, -⟩
    · omega
    · exact b
    · exact absurd rfl b
  have hg60 := (gN_le (num := num) k hn).1
  have tb : ∀ u : Nat, u ≤ 60 → ((m &&& (m ^^^ 1)).testBit u = true ↔ 1 ≤ u ∧ ((gN num k : Int)) ∣ u) := by
    intro u hu
    rw [Nat.testBit_and, Nat.testBit_xor]
    have e1 : (1 : Nat).testBit u = decide (u = 0) := by
      cases hb : (1 : Nat).testBit u
      · symm; rw [decide_eq_false_iff_not]; intro hu0; rw [Nat.testBit_one_eq_true_iff_self_eq_zero.mpr hu0] at hb; cases hb
      · symm; rw [decide_eq_true_eq]; exact Nat.testBit_one_eq_true_iff_self_eq_zero.mp hb
    rw [e1]
    have h2 := h u hu
    constructor
    · intro q
      simp only [Bool.and_eq_true] at q
      have q1 := h2.mp q.1
      have q2 := q.2
      rw [q.1] at q2
      have q3 : ¬ u = 0 := by simpa using q2
      rcases q1 with ⟨-, b | ⟨-, b⟩⟩ | ⟨b, -⟩
      · omega
      · exact ⟨by omega, b⟩
      · exact absurd rfl b
    · rintro ⟨q1, q2⟩
      have q3 : m.testBit u = true := h2.mpr (Or.inl ⟨rfl, Or.inr ⟨hg, q2⟩⟩)
      rw [q3]
      simp
      omega
  rcases hz with ⟨v, rfl, b1, b2, b3⟩ | ⟨-, b⟩
  · have c1 := (tb v b1).mp b2
    have c2 := (tb (gN num k) hg60).mpr ⟨by omega, Int.dvd_refl _⟩
    have c3 : v ≤ gN num k := by
      rcases Nat.lt_or_ge (gN num k) v with q | q
      · rw [b3 _ q] at c2; cases c2
      · exact q
    have c4 : gN num k ≤ v := Nat.le_of_dvd (by omega) (Int.natCast_dvd_natCast.mp c1.2)
    exact ⟨by omega, hg⟩
  · have c2 := (tb (gN num k) hg60).mpr ⟨by omega, Int.dvd_refl _⟩
    rw [b _ hg60] at c2
    cases c2
theorem ev_Gm_widened {w : Mem} {num : Int → Int} {k m nn : Nat} {law : Int} (hl : law = 0 ∨ law = 1 ∨ law = 2) (hm : m < 2 ^ 61) (h : ∀ v : Nat, v ≤ 60 → (m.testBit v = true ↔ rch law num k v)) (hn : ∀ i : Int, 0 ≤ i → i < k + 1 → 1 ≤ num i ∧ num i ≤ 60) (hk : num k = (nn : Int)) : EvZ y_Gm_widened b_Gm_widened 9 (some .long) (3) [Vi law, Vj (m : Int), Vi (nn : Int)] w (fun z => Mk z (rch law num (k + 1))) := by
  refine Ev.mk (isI := false) (by decide +kernel) nofun (Nat.le_of_ble_eq_true rfl) (fun G hG => ?_)
  show G 0 [some (Vi law), some (Vj (m : Int)), none, some (Vi (nn : Int)), none, none, none, none, none] [] 102 (hp w)
  have hnk := hn k (by omega) (by omega)
  have L : ∀ (s : Nat), (law = 1 → s = gN num (k + 1)) → (law ≠ 1 → (s : Int) = num k) → G 28 [some (Vi law), some (Vj (m : Int)), none, some (Vi (nn : Int)), some (Vi (s : Int)), none, none, none, none] [] 102 (hp w) := by
    intro s hs1 hs2
    have hs : 1 ≤ s ∧ s ≤ 60 := by
      by_cases e : law = 1
      · have := gN_le (num := num) (k + 1) (fun i a b => hn i a (by omega))
        rw [hs1 e]
        exact ⟨this.2 (by omega), this.1⟩
      · have := hs2 e
        omega
    have Lp : ∀ (T : Nat), T ≤ 60 → (T = if law = 2 then 3 else 60 / s) → ∀ (j i m1 : Nat), i + j = T → m1 < 2 ^ 61 → (∀ v : Nat, v ≤ 60 → (m1.testBit v = true ↔ EE (fun u => 0 ≤ u ∧ rch law num k u) s i v)) → G 65 [some (Vi law), some (Vj (m : Int)), none, some (Vi (nn : Int)), some (Vi (s : Int)), some (Vi (T : Int)), some (Vj (m1 : Int)), none, some (Vi (i : Int))] [] 102 (hp w) := by
      intro T hT0 hT j
      induction j with
      | zero =>
        intro i m1 h1 h2 h3
        refine gx_iload8 (q := 67) hG d_Gm_widened_65 rfl ?_
        refine gx_iload5 (q := 69) hG d_Gm_widened_67 rfl ?_
        refine gx_icmp_ge (tgt := 92) (q := 72) hG d_Gm_widened_69 rfl rfl (by omega) (by omega) (fun c69 => ?_) (fun c69 => ?_)
        · refine gx_lload6 (q := 94) hG d_Gm_widened_92 rfl ?_
          refine gx_lreturn hG d_Gm_widened_94 rfl rfl ?_
          refine ⟨w, rfl, _, rfl, rfl, m1, rfl, h2, fun v hv => ?_⟩
          have hi : i = T := by omega
          rw [h3 v hv, hi, hT]
          by_cases e : law = 1
          · subst e
            rw [if_neg (by decide)]
            exact wid_fin1 hn (hs1 rfl) hv
          · rw [← wid_fin hn e (hs2 e) hv]
            exact ⟨fun ⟨t, a, b, c⟩ => ⟨t, a, b, c.2⟩, fun ⟨t, a, b, c⟩ => ⟨t, a, b, rch_nonneg (fun i a b => (hn i a (by omega)).1) e _ c, c⟩⟩
        · exfalso; omega
      | succ j ih =>
        intro i m1 h1 h2 h3
        have h4 := wid_bit hs.1 (fun u hu => hu.1) h2 h3
        refine gx_iload8 (q := 67) hG d_Gm_widened_65 rfl ?_
        refine gx_iload5 (q := 69) hG d_Gm_widened_67 rfl ?_
        refine gx_icmp_ge (tgt := 92) (q := 72) hG d_Gm_widened_69 rfl rfl (by omega) (by omega) (fun c69 => ?_) (fun c69 => ?_)
        · exfalso; omega
        · refine gx_lload6 (q := 74) hG d_Gm_widened_72 rfl ?_
          refine gx_lload6 (q := 76) hG d_Gm_widened_74 rfl ?_
          refine gx_iload4 (q := 78) hG d_Gm_widened_76 rfl ?_
          refine gx_lshl (q := 79) hG (((m1 <<< s : Nat) : Int)) d_Gm_widened_78 rfl (j_shl m1 s (by omega)) ?_
          refine gx_ldc2 (q := 82) hG (2305843009213693951) k_Gm_49 d_Gm_widened_79 rfl rfl ?_
          refine gx_land (q := 83) hG (((m1 <<< s &&& TT : Nat) : Int)) d_Gm_widened_82 rfl (j_and (m1 <<< s) TT) ?_
          refine gx_lor (q := 84) hG (((m1 ||| (m1 <<< s &&& TT) : Nat) : Int)) d_Gm_widened_83 rfl (j_or m1 (m1 <<< s &&& TT)) ?_
          refine gx_lstore6 (q := 86) hG d_Gm_widened_84 rfl rfl ?_
          refine gx_iinc8 (q := 89) hG d_Gm_widened_86 rfl rfl ?_
          refine gx_goto (tgt := 65) hG d_Gm_widened_89 rfl ?_
          exact ih (i + 1) _ (by omega) h4.1 h4.2
    have e56 : (60 : Int) / (s : Int) = ((60 / s : Nat) : Int) := by simp
    refine gx_iload4 (q := 30) hG d_Gm_widened_28 rfl ?_
    refine gx_iconst (q := 31) hG d_Gm_widened_30 rfl ?_
    refine gx_icmp_lt (tgt := 41) (q := 34) hG d_Gm_widened_31 rfl rfl (by omega) (by omega) (fun c31 => ?_) (fun c31 => ?_)
    · exfalso; omega
    · refine gx_iload4 (q := 36) hG d_Gm_widened_34 rfl ?_
      refine gx_bipush (q := 38) hG d_Gm_widened_36 rfl rfl ?_
      refine gx_icmp_le (tgt := 43) (q := 41) hG d_Gm_widened_38 rfl rfl (by omega) (by omega) (fun c38 => ?_) (fun c38 => ?_)
      · refine gx_iload0 (q := 44) hG d_Gm_widened_43 rfl ?_
        refine gx_iconst (q := 45) hG d_Gm_widened_44 rfl ?_
        refine gx_icmp_ne (tgt := 52) (q := 48) hG d_Gm_widened_45 rfl rfl (by omega) (by omega) (fun c45 => ?_) (fun c45 => ?_)
        · refine gx_bipush (q := 54) hG d_Gm_widened_52 rfl rfl ?_
          refine gx_iload4 (q := 56) hG d_Gm_widened_54 rfl ?_
          refine gx_idiv (q := 57) hG d_Gm_widened_56 rfl (by omega) (by omega) (by omega) (by omega) ?_
          rw [e56]
          refine gx_istore5 (q := 59) hG d_Gm_widened_57 rfl rfl ?_
          refine gx_lload1 (q := 60) hG d_Gm_widened_59 rfl ?_
          refine gx_lstore6 (q := 62) hG d_Gm_widened_60 rfl rfl ?_
          refine gx_iconst (q := 63) hG d_Gm_widened_62 rfl ?_
          refine gx_istore8 (q := 65) hG d_Gm_widened_63 rfl rfl ?_
          first
            | exact Lp 3 (by omega) (by rw [if_pos (by omega)]) 3 0 m (by omega) hm (fun v hv => by rw [h v hv, EE_zero]; exact ⟨fun q => ⟨by omega, q⟩, fun q => q.2⟩)
            | exact Lp (60 / s) (Nat.div_le_self _ _) (by rw [if_neg (by omega)]) (60 / s) 0 m (by omega) hm (fun v hv => by rw [h v hv, EE_zero]; exact ⟨fun q => ⟨by omega, q⟩, fun q => q.2⟩)
        · refine gx_iconst (q := 49) hG d_Gm_widened_48 rfl ?_
          refine gx_goto (tgt := 57) hG d_Gm_widened_49 rfl ?_
          refine gx_istore5 (q := 59) hG d_Gm_widened_57 rfl rfl ?_
          refine gx_lload1 (q := 60) hG d_Gm_widened_59 rfl ?_
          refine gx_lstore6 (q := 62) hG d_Gm_widened_60 rfl rfl ?_
          refine gx_iconst (q := 63) hG d_Gm_widened_62 rfl ?_
          refine gx_istore8 (q := 65) hG d_Gm_widened_63 rfl rfl ?_
          first
            | exact Lp 3 (by omega) (by rw [if_pos (by omega)]) 3 0 m (by omega) hm (fun v hv => by rw [h v hv, EE_zero]; exact ⟨fun q => ⟨by omega, q⟩, fun q => q.2⟩)
            | exact Lp (60 / s) (Nat.div_le_self _ _) (by rw [if_neg (by omega)]) (60 / s) 0 m (by omega) hm (fun v hv => by rw [h v hv, EE_zero]; exact ⟨fun q => ⟨by omega, q⟩, fun q => q.2⟩)
      · exfalso; omega
  have h60 : gN num k ≤ 60 := (gN_le k (fun i a b => hn i a (by omega))).1
  have hz1 : law = 1 → ¬ 1 < m → nn = gN num (k + 1) := by
    intro e h9
    subst e
    have h10 : gN num k = 0 := by
      rcases Nat.eq_zero_or_pos (gN num k) with q | q
      · exact q
      · exact absurd ((Mk_big hm h rch_zero).mpr ⟨gN num k, q, h60, Or.inl ⟨rfl, Or.inr ⟨q, Int.dvd_refl _⟩⟩⟩) h9
    show nn = Nat.gcd (gN num k) (num k).toNat
    rw [h10, Nat.gcd_zero_left]
    omega
  have hz2 : law = 1 → 1 < m → ∀ z, LowB (m &&& (m ^^^ 1)) z → z = (gN num k : Int) := by
    intro e h9 z hz
    subst e
    exact (rch1_low (fun i a b => hn i a (by omega)) hm h h9 hz).1
  have hz3 : Nat.gcd (gN num k) nn = gN num (k + 1) := by
    show _ = Nat.gcd (gN num k) (num k).toNat
    rw [hk]
    rfl
  refine gx_iload3 (q := 1) hG d_Gm_widened_0 rfl ?_
  refine gx_istore4 (q := 3) hG d_Gm_widened_1 rfl rfl ?_
  refine gx_iload0 (q := 4) hG d_Gm_widened_3 rfl ?_
  refine gx_iconst (q := 5) hG d_Gm_widened_4 rfl ?_
  refine gx_icmp_ne (tgt := 28) (q := 8) hG d_Gm_widened_5 rfl rfl (by omega) (by omega) (fun c5 => ?_) (fun c5 => ?_)
  · first
      | exact L nn (fun e => by exfalso; omega) (fun _ => by omega)
      | exact L nn (fun e => hz1 e (by omega)) (fun _ => by omega)
      | exact L (gN num (k + 1)) (fun _ => rfl) (fun e => by exfalso; omega)
  · refine gx_lload1 (q := 9) hG d_Gm_widened_8 rfl ?_
    refine gx_lconst (q := 10) hG 1 d_Gm_widened_9 rfl rfl ?_
    refine gx_lcmp (q := 11) hG d_Gm_widened_10 rfl (by omega) (by omega) ?_
    refine gx_if_le (tgt := 28) (q := 14) hG d_Gm_widened_11 rfl rfl (cmp3_R _ _) (fun c11 => ?_) (fun c11 => ?_)
    · have c11 := cmp3_le.mp c11
      first
        | exact L nn (fun e => by exfalso; omega) (fun _ => by omega)
        | exact L nn (fun e => hz1 e (by omega)) (fun _ => by omega)
        | exact L (gN num (k + 1)) (fun _ => rfl) (fun e => by exfalso; omega)
    · have c11 := cmp3_gt.mp c11
      refine gx_lload1 (q := 15) hG d_Gm_widened_14 rfl ?_
      refine gx_ldc2 (q := 18) hG (-2) k_Gm_86 d_Gm_widened_15 rfl rfl ?_
      refine gx_land (q := 19) hG (((m &&& (m ^^^ 1) : Nat) : Int)) d_Gm_widened_18 rfl ((Int64.and_comm _ _).trans (j_notand 1 m)) ?_
      refine gw_N1Y (q := 22) hG n_Gm_66 s_X_lowestOf c_X_lowestOf (ev_X_lowestOf (Nat.lt_of_le_of_lt Nat.and_le_left (show m < 2 ^ 63 by omega))) (by decide) (Nat.le_of_ble_eq_true rfl) d_Gm_widened_19 rfl (by decide) (fun z19 h19 => ?_)
      have h20 := hz2 (by omega) (by omega) _ h19
      rw [h20]
      refine gx_iload3 (q := 23) hG d_Gm_widened_22 rfl ?_
      refine gw_N2X (q := 26) hG n_Gm_43 s_X_divisorOf c_X_divisorOf (ev_X_divisorOf (x := gN num k) (y := nn) (by omega) (by omega)) (by decide) (Nat.le_of_ble_eq_true rfl) d_Gm_widened_23 rfl (by decide) ?_
      rw [hz3]
      refine gx_istore4 (q := 28) hG d_Gm_widened_26 rfl rfl ?_
      first
        | exact L nn (fun e => by exfalso; omega) (fun _ => by omega)
        | exact L nn (fun e => hz1 e (by omega)) (fun _ => by omega)
        | exact L (gN num (k + 1)) (fun _ => rfl) (fun e => by exfalso; omega)
/-- a game is in order: its numbers, its law, what is reached -/
def GI (w : Mem) (a : Int) : Prop := isG a ∧ (0 ≤ w a 1 ∧ w a 1 ≤ 13) ∧ (w a 2 = 0 ∨ w a 2 = 1 ∨ w a 2 = 2) ∧ (∀ i : Int, 0 ≤ i → i < w a 1 → 1 ≤ w (a + 1) i ∧ w (a + 1) i ≤ 60) ∧ Mk (w a 3) (rch (w a 2) (w (a + 1)) (w a 1).toNat)
/-- reached by what was said -/
def hd (w : Mem) (a v : Int) : Prop := rch (w a 2) (w (a + 1)) (w a 1).toNat v
theorem GI_bits {w : Mem} {a : Int} (h : GI w a) : ∃ m : Nat, w a 3 = (m : Int) ∧ m < 2 ^ 61 ∧ ∀ v : Nat, v ≤ 60 → (m.testBit v = true ↔ hd w a v) := h.2.2.2.2
theorem hd_zero {w : Mem} {a : Int} : hd w a 0 := rch_zero
/-- the open ones' mask -/
def opn (m : Nat) : Nat := TT &&& (TT ^^^ m)
theorem opn_bit {m : Nat} (v : Nat) : (opn m).testBit v = (decide (v ≤ 60) && !m.testBit v) := by
  unfold opn
  rw [Nat.testBit_and, Nat.testBit_xor, tt_bit]
  cases m.testBit v <;> by_cases h : v ≤ 60 <;> simp [h]
theorem opn_lt (m : Nat) : opn m < 2 ^ 61 := lt_of_tb (fun v hv => by rw [opn_bit]; simp; omega)
theorem opn_iff {m : Nat} {P : Int → Prop} (h : ∀ v : Nat, v ≤ 60 → (m.testBit v = true ↔ P v)) : ∀ v : Nat, v ≤ 60 → ((opn m).testBit v = true ↔ ¬ P v) := fun v hv => by
  rw [opn_bit, ← h v hv]
  simp [hv]
theorem ev_Gm_begin {w : Mem} {a r : Int} (hg : isG a) : EvV y_Gm_begin b_Gm_begin 2 none (1) [Vr a, Vi r] w (fun w' => w' = wu (wu (wu w a 2 r) a 1 0) a 3 1) := by
  refine Ev.mk (isI := false) (by decide +kernel) nofun (Nat.le_of_ble_eq_true rfl) (fun G hG => ?_)
  show G 0 [some (Vr a), some (Vi r)] [] 102 (hp w)
  refine gx_aload0 (q := 1) hG d_Gm_begin_0 rfl ?_
  refine gx_iload1 (q := 2) hG d_Gm_begin_1 rfl ?_
  refine gw_puti (q := 5) hG f_Gm_19 (hpGame hg) (Nat.le_of_ble_eq_true rfl) vfit_i (Or.inl rfl) d_Gm_begin_2 rfl 2 rfl (hpGm2 hg) ?_
  refine gx_aload0 (q := 6) hG d_Gm_begin_5 rfl ?_
  refine gx_iconst (q := 7) hG d_Gm_begin_6 rfl ?_
  refine gw_puti (q := 10) hG f_Gm_23 (hpGame hg) (Nat.le_of_ble_eq_true rfl) vfit_i (Or.inl rfl) d_Gm_begin_7 rfl 1 rfl (hpGm1 hg) ?_
  refine gx_aload0 (q := 11) hG d_Gm_begin_10 rfl ?_
  refine gx_lconst (q := 12) hG 1 d_Gm_begin_11 rfl rfl ?_
  refine gw_putj (q := 15) hG f_Gm_15 (hpGame hg) (Nat.le_of_ble_eq_true rfl) vfit_l (Or.inl rfl) d_Gm_begin_12 rfl 3 rfl (hpGm3 hg) ?_
  refine gx_return hG d_Gm_begin_15 rfl rfl ?_
  exact ⟨_, rfl, rfl, rfl⟩
theorem wo_GI_begin {w : Mem} {a r : Int} (hg : isG a) (hr : r = 0 ∨ r = 1 ∨ r = 2) : GI (wu (wu (wu w a 2 r) a 1 0) a 3 1) a := by
  have e1 : wu (wu (wu w a 2 r) a 1 0) a 3 1 a 1 = 0 := by rw [wu_pl (by decide), wu_eq]
  have e2 : wu (wu (wu w a 2 r) a 1 0) a 3 1 a 2 = r := by rw [wu_pl (by decide), wu_pl (by decide), wu_eq]
  have e3 : wu (wu (wu w a 2 r) a 1 0) a 3 1 a 3 = 1 := wu_eq
  refine ⟨hg, by rw [e1]; omega, by rw [e2]; exact hr, fun i h0 h1 => by rw [e1] at h1; omega, ?_⟩
  rw [e1, e2, e3]
  refine Mk_one rch_zero (fun v h0 h1 => ?_)
  rintro (⟨-, z | ⟨z, -⟩⟩ | ⟨-, z⟩)
  · omega
  · exact absurd (show 0 < 0 from z) (by decide)
  · have z : v = 0 := z
    omega
theorem ev_Gm_last {w : Mem} {a : Int} (hg : isG a) (hs : 0 ≤ w a 1 ∧ w a 1 ≤ 13) : EvX y_Gm_last b_Gm_last 1 (some .int) (2) [Vr a] w (Vi (if 1 ≤ w a 1 then w (a + 1) (w a 1 - 1) else 0)) := by
  refine Ev.mk (isI := false) (by decide +kernel) nofun (Nat.le_of_ble_eq_true rfl) (fun G hG => ?_)
  show G 0 [some (Vr a)] [] 102 (hp w)
  refine gx_aload0 (q := 1) hG d_Gm_last_0 rfl ?_
  refine gx_get (q := 4) hG f_Gm_23 (hpGame hg) rfl d_Gm_last_1 rfl ?_
  refine gx_iconst (q := 5) hG d_Gm_last_4 rfl ?_
  refine gx_isub (q := 6) hG d_Gm_last_5 rfl ?_
  refine gx_aload0 (q := 7) hG d_Gm_last_6 rfl ?_
  refine gx_get (q := 10) hG f_Gm_9 (hpGame hg) rfl d_Gm_last_7 rfl ?_
  refine gw_alen (q := 11) hG (shp_gameA hg) (by decide) d_Gm_last_10 rfl ?_
  refine gw_N2X (q := 14) hG n_Gm_26 s_X_isIn c_X_isIn (ev_X_isIn (by first | assumption | omega) (by first | assumption | omega)) (by decide) (Nat.le_of_ble_eq_true rfl) d_Gm_last_11 rfl (by decide) ?_
  refine gx_if_eq (tgt := 31) (q := 17) hG d_Gm_last_14 rfl rfl (bi_R _) (fun c14 => ?_) (fun c14 => ?_)
  · have c14 := bi_eq0.mp c14
    refine gx_iconst (q := 32) hG d_Gm_last_31 rfl ?_
    refine gx_ireturn hG d_Gm_last_32 rfl rfl ?_
    refine ⟨w, rfl, ?_, rfl⟩; first | (rw [if_pos (by omega)]) | (rw [if_neg (by omega)])
  · have c14 := bi_ne0.mp c14
    refine gx_aload0 (q := 18) hG d_Gm_last_17 rfl ?_
    refine gx_get (q := 21) hG f_Gm_9 (hpGame hg) rfl d_Gm_last_18 rfl ?_
    refine gx_aload0 (q := 22) hG d_Gm_last_21 rfl ?_
    refine gx_get (q := 25) hG f_Gm_23 (hpGame hg) rfl d_Gm_last_22 rfl ?_
    refine gx_iconst (q := 26) hG d_Gm_last_25 rfl ?_
    refine gx_isub (q := 27) hG d_Gm_last_26 rfl ?_
    refine gw_iald (q := 28) hG (shp_gameA hg) (by omega) (by omega) d_Gm_last_27 rfl ?_
    refine gx_goto (tgt := 32) hG d_Gm_last_28 rfl ?_
    refine gx_ireturn hG d_Gm_last_32 rfl rfl ?_
    refine ⟨w, rfl, ?_, rfl⟩; first | (rw [if_pos (by omega)]) | (rw [if_neg (by omega)])
def lastN (w : Mem) (a : Int) : Int := if 1 ≤ w a 1 then w (a + 1) (w a 1 - 1) else 0
theorem lastN_bd {w : Mem} {a : Int} (h : GI w a) : 0 ≤ lastN w a ∧ lastN w a ≤ 60 := by
  unfold lastN
  split
  · have := h.2.2.2.1 (w a 1 - 1) (by omega) (by omega); omega
  · omega
theorem ev_Gm_open {w : Mem} {a : Int} {m : Nat} (hg : isG a) (hm : w a 3 = (m : Int)) : EvX y_Gm_open b_Gm_open 1 (some .long) (1) [Vr a] w (Vj (opn m : Nat)) := by
  refine Ev.mk (isI := false) (by decide +kernel) nofun (Nat.le_of_ble_eq_true rfl) (fun G hG => ?_)
  show G 0 [some (Vr a)] [] 102 (hp w)
  refine gx_aload0 (q := 1) hG d_Gm_open_0 rfl ?_
  refine gx_get (q := 4) hG f_Gm_15 (hpGame hg) rfl d_Gm_open_1 rfl ?_
  rw [hm]
  refine gx_ldc2 (q := 7) hG (-1) k_Gm_47 d_Gm_open_4 rfl rfl ?_
  refine gx_lxor (q := 8) hG (-1 - (m : Int)) d_Gm_open_7 rfl (j_not (m : Int)) ?_
  refine gx_ldc2 (q := 11) hG (2305843009213693951) k_Gm_49 d_Gm_open_8 rfl rfl ?_
  refine gx_land (q := 12) hG (((opn m : Nat) : Int)) d_Gm_open_11 rfl (j_notand m TT) ?_
  refine gx_lreturn hG d_Gm_open_12 rfl rfl ?_
  exact ⟨w, rfl, rfl, rfl⟩
theorem ev_Gm_openAboveOne {w : Mem} {a : Int} {m : Nat} (hg : isG a) (hm : w a 3 = (m : Int)) : EvX y_Gm_openAboveOne b_Gm_openAboveOne 1 (some .long) (2) [Vr a] w (Vj ((opn m &&& (opn m ^^^ 2) : Nat) : Int)) := by
  refine Ev.mk (isI := false) (by decide +kernel) nofun (Nat.le_of_ble_eq_true rfl) (fun G hG => ?_)
  show G 0 [some (Vr a)] [] 102 (hp w)
  refine gx_aload0 (q := 1) hG d_Gm_openAboveOne_0 rfl ?_
  refine gw_V0X (q := 4) hG l_Gm_51 c_Gm_open (ev_Gm_open hg hm) (hpGame hg) rfl (by decide) (Nat.le_of_ble_eq_true rfl) d_Gm_openAboveOne_1 rfl (by decide) ?_
  refine gx_ldc2 (q := 7) hG (-3) k_Gm_55 d_Gm_openAboveOne_4 rfl rfl ?_
  refine gx_land (q := 8) hG (((opn m &&& (opn m ^^^ 2) : Nat) : Int)) d_Gm_openAboveOne_7 rfl ((Int64.and_comm _ _).trans (j_notand 2 (opn m))) ?_
  refine gx_lreturn hG d_Gm_openAboveOne_8 rfl rfl ?_
  exact ⟨w, rfl, rfl, rfl⟩
theorem ev_Gm_openCount {w : Mem} {a : Int} (h : GI w a) : EvX y_Gm_openCount b_Gm_openCount 1 (some .int) (2) [Vr a] w (Vi (cn (fun v => ¬ hd w a v) 60)) := by
  refine Ev.mk (isI := false) (by decide +kernel) nofun (Nat.le_of_ble_eq_true rfl) (fun G hG => ?_)
  show G 0 [some (Vr a)] [] 102 (hp w)
  obtain ⟨m, e1, e2, e3⟩ := GI_bits h
  have hg := h.1
  refine gx_aload0 (q := 1) hG d_Gm_openCount_0 rfl ?_
  refine gw_V0X (q := 4) hG l_Gm_51 c_Gm_open (ev_Gm_open hg e1) (hpGame hg) rfl (by decide) (Nat.le_of_ble_eq_true rfl) d_Gm_openCount_1 rfl (by decide) ?_
  refine gw_S1X (q := 7) hG l_Gm_57 c_Lg_bitCount (ev_Lg_bitCount (Nat.lt_trans (opn_lt m) (by decide))) (by decide) (Nat.le_of_ble_eq_true rfl) d_Gm_openCount_4 rfl (by decide) ?_
  refine gx_ireturn hG d_Gm_openCount_7 rfl rfl ?_
  exact ⟨w, rfl, by rw [cn_mask (P := fun v => ¬ hd w a v) (opn_lt m) (opn_iff e3) (fun z => z hd_zero)], rfl⟩
theorem ev_Gm_isOpen {w : Mem} {a n : Int} (h : GI w a) (hn : R3 n) : EvX y_Gm_isOpen b_Gm_isOpen 2 (some .boolean) (2) [Vr a, Vi n] w (Vi (bi (1 ≤ n ∧ n ≤ 60 ∧ ¬ hd w a n))) := by
  refine Ev.mk (isI := false) (by decide +kernel) nofun (Nat.le_of_ble_eq_true rfl) (fun G hG => ?_)
  show G 0 [some (Vr a), some (Vi n)] [] 102 (hp w)
  obtain ⟨m, e1, e2, e3⟩ := GI_bits h
  have hg := h.1
  refine gx_iload1 (q := 1) hG d_Gm_isOpen_0 rfl ?_
  refine gx_iconst (q := 2) hG d_Gm_isOpen_1 rfl ?_
  refine gx_icmp_lt (tgt := 28) (q := 5) hG d_Gm_isOpen_2 rfl rfl (by omega) (by omega) (fun c2 => ?_) (fun c2 => ?_)
  · refine gx_iconst (q := 29) hG d_Gm_isOpen_28 rfl ?_
    refine gx_zreturn hG d_Gm_isOpen_29 rfl rfl (by first | exact bi_01 _ | decide | omega) ?_
    first
      | exact ⟨w, rfl, congrArg (fun z => some (Vi z)) (bi_t ⟨by omega, by omega, c2⟩).symm, rfl⟩
      | exact ⟨w, rfl, congrArg (fun z => some (Vi z)) (bi_f (fun z => c2 z.2.2)).symm, rfl⟩
      | exact ⟨w, rfl, congrArg (fun z => some (Vi z)) (bi_f (fun z => by omega)).symm, rfl⟩
  · refine gx_iload1 (q := 6) hG d_Gm_isOpen_5 rfl ?_
    refine gx_bipush (q := 8) hG d_Gm_isOpen_6 rfl rfl ?_
    refine gx_icmp_gt (tgt := 28) (q := 11) hG d_Gm_isOpen_8 rfl rfl (by omega) (by omega) (fun c8 => ?_) (fun c8 => ?_)
    · refine gx_iconst (q := 29) hG d_Gm_isOpen_28 rfl ?_
      refine gx_zreturn hG d_Gm_isOpen_29 rfl rfl (by first | exact bi_01 _ | decide | omega) ?_
      first
        | exact ⟨w, rfl, congrArg (fun z => some (Vi z)) (bi_t ⟨by omega, by omega, c2⟩).symm, rfl⟩
        | exact ⟨w, rfl, congrArg (fun z => some (Vi z)) (bi_f (fun z => c2 z.2.2)).symm, rfl⟩
        | exact ⟨w, rfl, congrArg (fun z => some (Vi z)) (bi_f (fun z => by omega)).symm, rfl⟩
    · refine gx_aload0 (q := 12) hG d_Gm_isOpen_11 rfl ?_
      obtain ⟨k, rfl⟩ := Int.eq_ofNat_of_zero_le (show 0 ≤ n by omega)
      have h9 := opn_iff e3 k (by omega)
      refine gw_V0X (q := 15) hG l_Gm_51 c_Gm_open (ev_Gm_open hg e1) (hpGame hg) rfl (by decide) (Nat.le_of_ble_eq_true rfl) d_Gm_isOpen_12 rfl (by decide) ?_
      refine gx_iload1 (q := 16) hG d_Gm_isOpen_15 rfl ?_
      refine gx_lshr (q := 17) hG (((opn m >>> k : Nat) : Int)) d_Gm_isOpen_16 rfl (j_shr (opn m) k (by omega) (Nat.lt_trans (opn_lt m) (by decide))) ?_
      refine gx_lconst (q := 18) hG 1 d_Gm_isOpen_17 rfl rfl ?_
      refine gx_land (q := 19) hG (bi ((opn m).testBit k = true)) d_Gm_isOpen_18 rfl (j_bit (opn m) k (by omega) (Nat.lt_trans (opn_lt m) (by decide))) ?_
      refine gx_lconst (q := 20) hG 1 d_Gm_isOpen_19 rfl rfl ?_
      refine gx_lcmp (q := 21) hG d_Gm_isOpen_20 rfl (by have := bi_01 ((opn m).testBit k = true); omega) (by have := bi_01 ((opn m).testBit k = true); omega) ?_
      refine gx_if_ne (tgt := 28) (q := 24) hG d_Gm_isOpen_21 rfl rfl (cmp3_R _ _) (fun c21 => ?_) (fun c21 => ?_)
      · have c21 := cmp3_ne.mp c21
        have c2 : ¬ ¬ hd w a k := fun z => c21 (bi_eq1.mpr (h9.mpr z))
        refine gx_iconst (q := 29) hG d_Gm_isOpen_28 rfl ?_
        refine gx_zreturn hG d_Gm_isOpen_29 rfl rfl (by first | exact bi_01 _ | decide | omega) ?_
        first
          | exact ⟨w, rfl, congrArg (fun z => some (Vi z)) (bi_t ⟨by omega, by omega, c2⟩).symm, rfl⟩
          | exact ⟨w, rfl, congrArg (fun z => some (Vi z)) (bi_f (fun z => c2 z.2.2)).symm, rfl⟩
          | exact ⟨w, rfl, congrArg (fun z => some (Vi z)) (bi_f (fun z => by omega)).symm, rfl⟩
      · have c21 := cmp3_eq.mp c21
        have c2 := h9.mp (bi_eq1.mp c21)
        refine gx_iconst (q := 25) hG d_Gm_isOpen_24 rfl ?_
        refine gx_goto (tgt := 29) hG d_Gm_isOpen_25 rfl ?_
        refine gx_zreturn hG d_Gm_isOpen_29 rfl rfl (by first | exact bi_01 _ | decide | omega) ?_
        first
          | exact ⟨w, rfl, congrArg (fun z => some (Vi z)) (bi_t ⟨by omega, by omega, c2⟩).symm, rfl⟩
          | exact ⟨w, rfl, congrArg (fun z => some (Vi z)) (bi_f (fun z => c2 z.2.2)).symm, rfl⟩
          | exact ⟨w, rfl, congrArg (fun z => some (Vi z)) (bi_f (fun z => by omega)).symm, rfl⟩

theorem rch_up {w : Mem} {a n : Int} (h0 : 0 ≤ w a 1) (v : Int) : rch (w a 2) (up (w (a + 1)) (w a 1) n) (w a 1).toNat v ↔ hd w a v := by
  unfold hd
  exact rch_congr (fun i a b => by rw [up_ne (by omega)]) v
theorem ev_Gm_reachedWith {w : Mem} {a : Int} {num : Int → Int} {k m nn : Nat} (hg : isG a) (hl : w a 2 = 0 ∨ w a 2 = 1 ∨ w a 2 = 2) (e1 : w a 3 = (m : Int)) (hm : m < 2 ^ 61) (h : ∀ v : Nat, v ≤ 60 → (m.testBit v = true ↔ rch (w a 2) num k v)) (hn : ∀ i : Int, 0 ≤ i → i < k + 1 → 1 ≤ num i ∧ num i ≤ 60) (hk : num k = (nn : Int)) : EvZ y_Gm_reachedWith b_Gm_reachedWith 2 (some .long) (4) [Vr a, Vi (nn : Int)] w (fun z => Mk z (rch (w a 2) num (k + 1))) := by
  refine Ev.mk (isI := false) (by decide +kernel) nofun (Nat.le_of_ble_eq_true rfl) (fun G hG => ?_)
  show G 0 [some (Vr a), some (Vi (nn : Int))] [] 102 (hp w)
  refine gx_aload0 (q := 1) hG d_Gm_reachedWith_0 rfl ?_
  refine gx_get (q := 4) hG f_Gm_19 (hpGame hg) rfl d_Gm_reachedWith_1 rfl ?_
  refine gx_aload0 (q := 5) hG d_Gm_reachedWith_4 rfl ?_
  refine gx_get (q := 8) hG f_Gm_15 (hpGame hg) rfl d_Gm_reachedWith_5 rfl ?_
  rw [e1]
  refine gx_iload1 (q := 9) hG d_Gm_reachedWith_8 rfl ?_
  refine gw_S3Z (q := 12) hG l_Gm_82 c_Gm_widened (ev_Gm_widened (num := num) (k := k) hl hm h hn hk) (by decide) (Nat.le_of_ble_eq_true rfl) d_Gm_reachedWith_9 rfl (by decide) (fun z9 h9 => ?_)
  refine gx_lreturn hG d_Gm_reachedWith_12 rfl rfl ?_
  exact ⟨w, rfl, _, rfl, rfl, h9⟩
theorem rch_ext {law : Int} {num num' : Int → Int} {k k' : Nat} {v : Int} (hk : k = k') (h : ∀ i : Int, 0 ≤ i → i < k → num i = num' i) : rch law num k v ↔ rch law num' k' v := by
  subst hk
  exact rch_congr h v
theorem up_num {w : Mem} {a n : Int} (h : GI w a) (hn : 1 ≤ n ∧ n ≤ 60) : ∀ i : Int, 0 ≤ i → i < ((w a 1).toNat : Int) + 1 → 1 ≤ up (w (a + 1)) (w a 1) n i ∧ up (w (a + 1)) (w a 1) n i ≤ 60 := fun i h0 h1 => by
  by_cases e : i = w a 1
  · rw [e, up_eq]; exact hn
  · rw [up_ne e]
    have := h.2.1
    exact h.2.2.2.1 i h0 (by omega)
theorem ev_Gm_add {w : Mem} {a n : Int} (h : GI w a) (hs : w a 1 ≤ 12) (hn : 1 ≤ n ∧ n ≤ 60) : EvV y_Gm_add b_Gm_add 2 none (5) [Vr a, Vi n] w (fun w' => GI w' a ∧ w' a 1 = w a 1 + 1 ∧ w' a 2 = w a 2 ∧ w' (a + 1) = up (w (a + 1)) (w a 1) n ∧ ∀ b, b ≠ a → b ≠ a + 1 → w' b = w b) := by
  refine Ev.mk (isI := false) (by decide +kernel) nofun (Nat.le_of_ble_eq_true rfl) (fun G hG => ?_)
  show G 0 [some (Vr a), some (Vi n)] [] 102 (hp w)
  have hg := h.1
  have hsz := h.2.1
  obtain ⟨w2, hw2⟩ : ∃ w2, w2 = wu (wu w (a + 1) (w a 1) n) a 1 (w a 1 + 1) := ⟨_, rfl⟩
  have ha1 : a ≠ a + 1 := by omega
  have f1 : w2 a 1 = w a 1 + 1 := by rw [hw2, wu_eq]
  have f2 : w2 a 2 = w a 2 := by rw [hw2, wu_pl (by decide), wu_ne ha1]
  have f3 : w2 a 3 = w a 3 := by rw [hw2, wu_pl (by decide), wu_ne ha1]
  have f4 : w2 (a + 1) = up (w (a + 1)) (w a 1) n := by rw [hw2, wu_ne (by omega), wu_at]
  have f5 : ∀ b, b ≠ a → b ≠ a + 1 → w2 b = w b := fun b h1 h2 => by rw [hw2, wu_ne h1, wu_ne h2]
  obtain ⟨m, e1, e2, e3⟩ := GI_bits h
  have hun := up_num h hn
  have hus : up (w (a + 1)) (w a 1) n ((w a 1).toNat : Int) = n := by rw [show (((w a 1).toNat : Nat) : Int) = w a 1 by omega, up_eq]
  obtain ⟨nn, rfl⟩ := Int.eq_ofNat_of_zero_le (show 0 ≤ n by omega)
  refine gx_aload0 (q := 1) hG d_Gm_add_0 rfl ?_
  refine gx_get (q := 4) hG f_Gm_23 (hpGame hg) rfl d_Gm_add_1 rfl ?_
  refine gx_aload0 (q := 5) hG d_Gm_add_4 rfl ?_
  refine gx_get (q := 8) hG f_Gm_9 (hpGame hg) rfl d_Gm_add_5 rfl ?_
  refine gw_alen (q := 9) hG (shp_gameA hg) (by decide) d_Gm_add_8 rfl ?_
  refine gw_N2X (q := 12) hG n_Gm_26 s_X_isIn c_X_isIn (ev_X_isIn (by first | assumption | omega) (by first | assumption | omega)) (by decide) (Nat.le_of_ble_eq_true rfl) d_Gm_add_9 rfl (by decide) ?_
  refine gx_if_eq (tgt := 44) (q := 15) hG d_Gm_add_12 rfl rfl (bi_R _) (fun c12 => ?_) (fun c12 => ?_)
  · have c12 := bi_eq0.mp c12
    exact absurd ⟨by omega, by omega⟩ c12
  · have c12 := bi_ne0.mp c12
    refine gx_aload0 (q := 16) hG d_Gm_add_15 rfl ?_
    refine gx_get (q := 19) hG f_Gm_9 (hpGame hg) rfl d_Gm_add_16 rfl ?_
    refine gx_aload0 (q := 20) hG d_Gm_add_19 rfl ?_
    refine gx_get (q := 23) hG f_Gm_23 (hpGame hg) rfl d_Gm_add_20 rfl ?_
    refine gx_iload1 (q := 24) hG d_Gm_add_23 rfl ?_
    refine gw_iast (q := 25) hG (shp_gameA hg) (by omega) (by omega) d_Gm_add_24 rfl ?_
    refine gx_aload0 (q := 26) hG d_Gm_add_25 rfl ?_
    refine gx_dupa (q := 27) hG d_Gm_add_26 rfl ?_
    refine gx_get (q := 30) hG f_Gm_23 (hpGame hg) rfl d_Gm_add_27 rfl ?_
    rw [wu_ne ha1]
    refine gx_iconst (q := 31) hG d_Gm_add_30 rfl ?_
    refine gx_iadd (q := 32) hG d_Gm_add_31 rfl ?_
    refine gw_puti (q := 35) hG f_Gm_23 (hpGame hg) (Nat.le_of_ble_eq_true rfl) vfit_i (Or.inl rfl) d_Gm_add_32 rfl 1 rfl (hpGm1 hg) ?_
    rw [← hw2]
    refine gx_aload0 (q := 36) hG d_Gm_add_35 rfl ?_
    refine gx_aload0 (q := 37) hG d_Gm_add_36 rfl ?_
    refine gx_iload1 (q := 38) hG d_Gm_add_37 rfl ?_
    refine gw_V1Z (q := 41) hG l_Gm_30 c_Gm_reachedWith (ev_Gm_reachedWith (num := up (w (a + 1)) (w a 1) (nn : Int)) (k := (w a 1).toNat) hg (by rw [f2]; exact h.2.2.1) (f3.trans e1) e2 (fun v hv => by rw [f2]; exact (e3 v hv).trans (rch_up hsz.1 v).symm) hun hus) (hpGame hg) rfl (by decide) (Nat.le_of_ble_eq_true rfl) d_Gm_add_38 rfl (by decide) (fun z38 h38 => ?_)
    refine gw_putj (q := 44) hG f_Gm_15 (hpGame hg) (Nat.le_of_ble_eq_true rfl) vfit_l (Or.inl rfl) d_Gm_add_41 rfl 3 rfl (hpGm3 hg) ?_
    refine gx_return hG d_Gm_add_44 rfl rfl ?_
    refine ⟨_, rfl, rfl, ?_, ?_, ?_, ?_, ?_⟩
    · refine ⟨hg, ?_, ?_, ?_, ?_⟩
      · rw [wu_pl (by decide), f1]; omega
      · rw [wu_pl (by decide), f2]; exact h.2.2.1
      · intro i h0 h1
        rw [wu_pl (by decide), f1] at h1
        rw [wu_ne (by omega), f4]
        exact hun i h0 (by omega)
      · rw [wu_eq, wu_pl (by decide), f2, wu_ne (by omega), f4, wu_pl (by decide), f1, show (w a 1 + 1).toNat = (w a 1).toNat + 1 by omega]
        rw [f2] at h38
        exact h38
    · rw [wu_pl (by decide), f1]
    · rw [wu_pl (by decide), f2]
    · rw [wu_ne (by omega), f4]
    · exact fun b h1 h2 => by rw [wu_ne h1, f5 b h1 h2]
theorem ev_Gm_openBehind {w : Mem} {a n : Int} (h : GI w a) (hn : 1 ≤ n ∧ n ≤ 60) : EvX y_Gm_openBehind b_Gm_openBehind 2 (some .int) (5) [Vr a, Vi n] w (Vi (cn (fun v => ¬ rch (w a 2) (up (w (a + 1)) (w a 1) n) ((w a 1).toNat + 1) v) 60)) := by
  refine Ev.mk (isI := false) (by decide +kernel) nofun (Nat.le_of_ble_eq_true rfl) (fun G hG => ?_)
  show G 0 [some (Vr a), some (Vi n)] [] 102 (hp w)
  have hg := h.1
  have hsz := h.2.1
  obtain ⟨m, e1, e2, e3⟩ := GI_bits h
  have hun := up_num h hn
  have hus : up (w (a + 1)) (w a 1) n ((w a 1).toNat : Int) = n := by rw [show (((w a 1).toNat : Nat) : Int) = w a 1 by omega, up_eq]
  obtain ⟨nn, rfl⟩ := Int.eq_ofNat_of_zero_le (show 0 ≤ n by omega)
  refine gx_aload0 (q := 1) hG d_Gm_openBehind_0 rfl ?_
  refine gx_iload1 (q := 2) hG d_Gm_openBehind_1 rfl ?_
  refine gw_V1Z (q := 5) hG l_Gm_30 c_Gm_reachedWith (ev_Gm_reachedWith (num := up (w (a + 1)) (w a 1) (nn : Int)) (k := (w a 1).toNat) hg h.2.2.1 e1 e2 (fun v hv => (e3 v hv).trans (rch_up hsz.1 v).symm) hun hus) (hpGame hg) rfl (by decide) (Nat.le_of_ble_eq_true rfl) d_Gm_openBehind_2 rfl (by decide) (fun z2 h2 => ?_)
  obtain ⟨m2, rfl, g2, g3⟩ := h2
  refine gx_ldc2 (q := 8) hG (-1) k_Gm_47 d_Gm_openBehind_5 rfl rfl ?_
  refine gx_lxor (q := 9) hG (-1 - (m2 : Int)) d_Gm_openBehind_8 rfl (j_not (m2 : Int)) ?_
  refine gx_ldc2 (q := 12) hG (2305843009213693951) k_Gm_49 d_Gm_openBehind_9 rfl rfl ?_
  refine gx_land (q := 13) hG (((opn m2 : Nat) : Int)) d_Gm_openBehind_12 rfl (j_notand m2 TT) ?_
  refine gw_S1X (q := 16) hG l_Gm_57 c_Lg_bitCount (ev_Lg_bitCount (Nat.lt_trans (opn_lt m2) (by decide))) (by decide) (Nat.le_of_ble_eq_true rfl) d_Gm_openBehind_13 rfl (by decide) ?_
  refine gx_ireturn hG d_Gm_openBehind_16 rfl rfl ?_
  exact ⟨w, rfl, by rw [cn_mask (P := fun v => ¬ rch (w a 2) (up (w (a + 1)) (w a 1) (nn : Int)) ((w a 1).toNat + 1) v) (opn_lt m2) (opn_iff g3) (fun z => z rch_zero)], rfl⟩
/-- the least above 1 of which P holds, 1 if there is none -/
def LeastA (P : Int → Prop) (z : Int) : Prop := (2 ≤ z ∧ z ≤ 60 ∧ P z ∧ ∀ u : Int, 2 ≤ u → u < z → ¬ P u) ∨ (z = 1 ∧ ∀ u : Int, 2 ≤ u → u ≤ 60 → ¬ P u)
/-- the greatest of 1 .. 60 of which P holds, 0 if there is none -/
def GreatA (P : Int → Prop) (z : Int) : Prop := (1 ≤ z ∧ z ≤ 60 ∧ P z ∧ ∀ u : Int, z < u → u ≤ 60 → ¬ P u) ∨ (z = 0 ∧ ∀ u : Int, 1 ≤ u → u ≤ 60 → ¬ P u)
theorem opn2_bit {m v : Nat} : (opn m &&& (opn m ^^^ 2)).testBit v = ((opn m).testBit v && decide (v ≠ 1)) := by
  rw [Nat.testBit_and, Nat.testBit_xor]
  have e : (2 : Nat).testBit v = decide (v = 1) := by
    have := Nat.testBit_two_pow (n := 1) (m := v)
    rw [show (2 : Nat) = 2 ^ 1 from rfl, this]
    exact decide_eq_decide.mpr ⟨fun h => h.symm, fun h => h.symm⟩
  rw [e]
  cases (opn m).testBit v <;> by_cases h : v = 1 <;> simp [h]
theorem least_mask {m : Nat} {P : Int → Prop} {z : Int} (h : ∀ v : Nat, v ≤ 60 → (m.testBit v = true ↔ P v)) (h0 : P 0) (hz : LowB (opn m &&& (opn m ^^^ 2)) z) : (2 ≤ z ∧ z ≤ 60 ∧ ¬ P z ∧ ∀ u : Int, 2 ≤ u → u < z → ¬ ¬ P u) ∨ (z = 0 ∧ ∀ u : Int, 2 ≤ u → u ≤ 60 → ¬ ¬ P u) := by
  have ho := opn_iff h
  have hb : ∀ v : Nat, v ≤ 60 → ((opn m &&& (opn m ^^^ 2)).testBit v = true ↔ ¬ P v ∧ v ≠ 1) := fun v hv => by
    rw [opn2_bit, Bool.and_eq_true, ho v hv, decide_eq_true_eq]
  rcases hz with ⟨v, rfl, a1, a2, a3⟩ | ⟨rfl, a1⟩
  · left
    have b := (hb v a1).mp a2
    have hv0 : v ≠ 0 := fun e => b.1 (by rw [e]; exact h0)
    refine ⟨by omega, by omega, b.1, fun u u1 u2 => ?_⟩
    obtain ⟨k, rfl⟩ := Int.eq_ofNat_of_zero_le (show 0 ≤ u by omega)
    intro q
    have := (hb k (by omega)).mpr ⟨q, by omega⟩
    rw [a3 k (by omega)] at this
    cases this
  · right
    refine ⟨rfl, fun u u1 u2 => ?_⟩
    obtain ⟨k, rfl⟩ := Int.eq_ofNat_of_zero_le (show 0 ≤ u by omega)
    intro q
    have := (hb k (by omega)).mpr ⟨q, by omega⟩
    rw [a1 k (by omega)] at this
    cases this
theorem mask_zero {m : Nat} (hm : m < 2 ^ 61) (h : ∀ v : Nat, v ≤ 60 → m.testBit v = false) : m = 0 := by
  apply Nat.eq_of_testBit_eq
  intro i
  rw [Nat.zero_testBit]
  rcases Nat.lt_or_ge 60 i with hi | hi
  · exact tb_big hm hi
  · exact h i hi
theorem least_none {m : Nat} {P : Int → Prop} (h : ∀ v : Nat, v ≤ 60 → (m.testBit v = true ↔ P v)) (h0 : P 0) : (opn m &&& (opn m ^^^ 2)) = 0 ↔ ∀ u : Int, 2 ≤ u → u ≤ 60 → ¬ ¬ P u := by
  have hlt : (opn m &&& (opn m ^^^ 2)) < 2 ^ 61 := Nat.lt_of_le_of_lt Nat.and_le_left (opn_lt m)
  have hb : ∀ v : Nat, v ≤ 60 → ((opn m &&& (opn m ^^^ 2)).testBit v = true ↔ ¬ P v ∧ v ≠ 1) := fun v hv => by
    rw [opn2_bit, Bool.and_eq_true, opn_iff h v hv, decide_eq_true_eq]
  constructor
  · intro e u u1 u2 q
    obtain ⟨k, rfl⟩ := Int.eq_ofNat_of_zero_le (show 0 ≤ u by omega)
    have b := (hb k (by omega)).mpr ⟨q, by omega⟩
    rw [e, Nat.zero_testBit] at b
    cases b
  · intro q
    refine mask_zero hlt (fun v hv => ?_)
    cases hc : (opn m &&& (opn m ^^^ 2)).testBit v
    · rfl
    · exfalso
      have b := (hb v hv).mp hc
      have b3 : v ≠ 0 := fun z => b.1 (by rw [z]; exact h0)
      have b4 := b.2
      exact q v (by omega) (by omega) b.1
theorem ev_Gm_leastAboveOne {w : Mem} {a : Int} (h : GI w a) : EvY y_Gm_leastAboveOne b_Gm_leastAboveOne 3 (some .int) (4) [Vr a] w (LeastA (fun v => ¬ hd w a v)) := by
  refine Ev.mk (isI := false) (by decide +kernel) nofun (Nat.le_of_ble_eq_true rfl) (fun G hG => ?_)
  show G 0 [some (Vr a), none, none] [] 102 (hp w)
  obtain ⟨m, e1, e2, e3⟩ := GI_bits h
  have hg := h.1
  have hlt : (opn m &&& (opn m ^^^ 2)) < 2 ^ 61 := Nat.lt_of_le_of_lt Nat.and_le_left (opn_lt m)
  have hno := least_none e3 hd_zero
  refine gx_aload0 (q := 1) hG d_Gm_leastAboveOne_0 rfl ?_
  refine gw_V0X (q := 4) hG l_Gm_63 c_Gm_openAboveOne (ev_Gm_openAboveOne hg e1) (hpGame hg) rfl (by decide) (Nat.le_of_ble_eq_true rfl) d_Gm_leastAboveOne_1 rfl (by decide) ?_
  refine gx_lstore1 (q := 5) hG d_Gm_leastAboveOne_4 rfl rfl ?_
  refine gx_lload1 (q := 6) hG d_Gm_leastAboveOne_5 rfl ?_
  refine gx_lconst (q := 7) hG 0 d_Gm_leastAboveOne_6 rfl rfl ?_
  refine gx_lcmp (q := 8) hG d_Gm_leastAboveOne_7 rfl (by omega) (by omega) ?_
  refine gx_if_ne (tgt := 15) (q := 11) hG d_Gm_leastAboveOne_8 rfl rfl (cmp3_R _ _) (fun c8 => ?_) (fun c8 => ?_)
  · have c8 := cmp3_ne.mp c8
    refine gx_lload1 (q := 16) hG d_Gm_leastAboveOne_15 rfl ?_
    refine gw_N1Y (q := 19) hG n_Gm_66 s_X_lowestOf c_X_lowestOf (ev_X_lowestOf (Nat.lt_trans hlt (by decide))) (by decide) (Nat.le_of_ble_eq_true rfl) d_Gm_leastAboveOne_16 rfl (by decide) (fun z16 h16 => ?_)
    have h17 : LeastA (fun v => ¬ hd w a v) z16 := (least_mask e3 hd_zero h16).elim (fun q => Or.inl q) (fun q => absurd (hno.mpr q.2) (by omega))
    refine gx_ireturn hG d_Gm_leastAboveOne_19 rfl rfl ?_
    first
      | exact ⟨w, rfl, _, rfl, rfl, h17⟩
      | exact ⟨w, rfl, _, rfl, rfl, Or.inr ⟨rfl, hno.mp (by omega)⟩⟩
  · have c8 := cmp3_eq.mp c8
    refine gx_iconst (q := 12) hG d_Gm_leastAboveOne_11 rfl ?_
    refine gx_goto (tgt := 19) hG d_Gm_leastAboveOne_12 rfl ?_
    refine gx_ireturn hG d_Gm_leastAboveOne_19 rfl rfl ?_
    first
      | exact ⟨w, rfl, _, rfl, rfl, h17⟩
      | exact ⟨w, rfl, _, rfl, rfl, Or.inr ⟨rfl, hno.mp (by omega)⟩⟩

