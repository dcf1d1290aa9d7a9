/-! part 57: which are needed; counts -/
noncomputable def mkN (P : Nat → Prop) : Nat → Nat
  | 0 => 0
  | k + 1 => mkN P k ||| (bi (P k)).toNat <<< k
theorem mkN_bit {P : Nat → Prop} : ∀ (k i : Nat), (mkN P k).testBit i = true ↔ (i < k ∧ P i)
  | 0, i => by
    unfold mkN
    rw [Nat.zero_testBit]
    constructor
    · intro q; cases q
    · intro q; omega
  | k + 1, i => by
    unfold mkN
    rw [Nat.testBit_or, Bool.or_eq_true, mkN_bit k i]
    by_cases h : P k
    · rw [bi_t h, show (1 : Int).toNat = 1 from rfl, Nat.one_shiftLeft, Nat.testBit_two_pow, decide_eq_true_eq]
      constructor
      · rintro (q | q)
        · exact ⟨by omega, q.2⟩
        · exact ⟨by omega, q ▸ h⟩
      · rintro ⟨q1, q2⟩
        by_cases e : k = i
        · exact Or.inr e
        · exact Or.inl ⟨by omega, q2⟩
    · rw [bi_f h, show (0 : Int).toNat = 0 from rfl, Nat.zero_shiftLeft, Nat.zero_testBit]
      constructor
      · rintro (q | q)
        · exact ⟨by omega, q.2⟩
        · cases q
      · rintro ⟨q1, q2⟩
        by_cases e : i = k
        · exact absurd (e ▸ q2) h
        · exact Or.inl ⟨by omega, q2⟩
theorem mkN_eq {P : Nat → Prop} {m k : Nat} (hm : m < 2 ^ k) (h : ∀ i : Nat, i < k → (m.testBit i = true ↔ P i)) : m = mkN P k := by
  apply Nat.eq_of_testBit_eq
  intro i
  have e := mkN_bit (P := P) k i
  rcases Nat.lt_or_ge i k with c | c
  · cases hb : (mkN P k).testBit i
    · cases hc : m.testBit i
      · rfl
      · rw [e.mpr ⟨c, (h i c).mp hc⟩] at hb
        cases hb
    · exact (h i c).mpr (e.mp hb).2
  · rw [Nat.testBit_lt_two_pow (Nat.lt_of_lt_of_le hm (Nat.pow_le_pow_right (by decide) c))]
    cases hb : (mkN P k).testBit i
    · rfl
    · have := (e.mp hb).1
      omega
theorem mkN_congr {P Q : Nat → Prop} : ∀ k : Nat, (∀ i, i < k → (P i ↔ Q i)) → mkN P k = mkN Q k
  | 0, _ => rfl
  | k + 1, h => by
    unfold mkN
    rw [mkN_congr k (fun i hi => h i (by omega)), bi_congr (h k (by omega))]
/-- the lowest bit taken off -/
theorem low_clear : ∀ (n s : Nat), s ≤ n → 0 < s → ∃ p : Nat, s.testBit p = true ∧ (∀ i, i < p → s.testBit i = false) ∧ ∀ i, (s &&& (s - 1)).testBit i = (s.testBit i && decide (i ≠ p))
  | 0, s, h1, h2 => by omega
  | n + 1, s, h1, h2 => by
    rcases Nat.mod_two_eq_zero_or_one s with c | c
    · obtain ⟨p, a1, a2, a3⟩ := low_clear n (s / 2) (by omega) (by omega)
      refine ⟨p + 1, by rw [Nat.testBit_succ]; exact a1, fun i hi => ?_, fun i => ?_⟩
      · cases i with
        | zero => rw [Nat.testBit_zero]; simp; omega
        | succ i => rw [Nat.testBit_succ]; exact a2 i (by omega)
      · cases i with
        | zero =>
          rw [Nat.testBit_and]
          have e : s.testBit 0 = false := by rw [Nat.testBit_zero]; simp; omega
          rw [e]
          rfl
        | succ i =>
          have e := a3 i
          rw [Nat.testBit_and] at e
          rw [Nat.testBit_and, Nat.testBit_succ, Nat.testBit_succ, show (s - 1) / 2 = s / 2 - 1 by omega, e]
          congr 1
          exact decide_eq_decide.mpr (by omega)
    · refine ⟨0, by rw [Nat.testBit_zero]; simp; omega, fun i hi => by omega, fun i => ?_⟩
      rw [Nat.testBit_and]
      cases i with
      | zero =>
        have e : (s - 1).testBit 0 = false := by rw [Nat.testBit_zero]; simp; omega
        rw [e]
        simp
      | succ i =>
        rw [Nat.testBit_succ, Nat.testBit_succ, show (s - 1) / 2 = s / 2 by omega]
        simp
theorem bs_s {x n : Nat} : bs x (n + 1) = bs x n + (x.testBit n).toNat := by
  show bs x n + _ = _
  cases x.testBit n <;> rfl
theorem bs_drop {x y p : Nat} (hp : x.testBit p = true) (h : ∀ i, y.testBit i = (x.testBit i && decide (i ≠ p))) : ∀ n, (p < n → bs x n = bs y n + 1) ∧ (n ≤ p → bs x n = bs y n)
  | 0 => ⟨fun q => by omega, fun _ => rfl⟩
  | n + 1 => by
    obtain ⟨i1, i2⟩ := bs_drop hp h n
    have hx : bs x (n + 1) = bs x n + (x.testBit n).toNat := bs_s
    have hy : bs y (n + 1) = bs y n + (y.testBit n).toNat := bs_s
    rw [hx, hy, h n]
    by_cases c : n = p
    · subst c
      rw [hp]
      have := i2 (Nat.le_refl _)
      refine ⟨fun _ => ?_, fun q => by omega⟩
      rw [this]
      simp
    · have e : (x.testBit n && decide (n ≠ p)) = x.testBit n := by simp [c]
      rw [e]
      exact ⟨fun q => by have := i1 (by omega); omega, fun q => by have := i2 (by omega); omega⟩
theorem bs_low {s : Nat} (h : 0 < s) (hs : s < 2 ^ 32) : bs s 32 = bs (s &&& (s - 1)) 32 + 1 := by
  obtain ⟨p, a1, a2, a3⟩ := low_clear s s (Nat.le_refl _) h
  have hp : p < 32 := by
    rcases Nat.lt_or_ge p 32 with c | c
    · exact c
    · rw [Nat.testBit_lt_two_pow (Nat.lt_of_lt_of_le hs (Nat.pow_le_pow_right (by decide) c))] at a1
      cases a1
  exact (bs_drop a1 a3 32).1 hp
theorem bs_zero : ∀ n, bs 0 n = 0
  | 0 => rfl
  | n + 1 => by
    unfold bs
    rw [bs_zero n, Nat.zero_testBit]
    rfl
noncomputable def needN (s : Sta) : Nat := mkN (fun i => (i : Int) < s 4 1 ∧ ¬ rch (s 4 0) (wo (s 5) i) ((s 4 1).toNat - 1) (s 5 i)) 13
noncomputable def sp_needed (s : Sta) : Int × Sta := ((needN s : Int), ss s 4 3 (bs (needN s) 32 : Nat))
theorem wo_cong {num num' : Int → Int} {n : Nat} {i : Int} (h : ∀ j : Int, 0 ≤ j → j < n → num j = num' j) (hi : 0 ≤ i ∧ i < n) : ∀ j : Int, 0 ≤ j → j < ((n - 1 : Nat) : Int) → wo num i j = wo num' i j := fun j j0 j1 => by
  unfold wo
  split
  · exact h j j0 (by omega)
  · exact h (j + 1) (by omega) (by omega)
theorem need_cong {law : Int} {num num' : Int → Int} {n : Int} (h : ∀ j : Int, 0 ≤ j → j < (n.toNat : Int) → num j = num' j) (i : Nat) : ((i : Int) < n ∧ ¬ rch law (wo num i) (n.toNat - 1) (num i)) ↔ ((i : Int) < n ∧ ¬ rch law (wo num' i) (n.toNat - 1) (num' i)) := by
  constructor
  · rintro ⟨h1, h2⟩
    exact ⟨h1, fun q => h2 (by rw [h i (by omega) (by omega)]; exact (rch_congr (wo_cong h (by omega)) _).mpr q)⟩
  · rintro ⟨h1, h2⟩
    exact ⟨h1, fun q => h2 (by rw [← h i (by omega) (by omega)]; exact (rch_congr (wo_cong h (by omega)) _).mp q)⟩
theorem ev_X_needed {w : Mem} (hO : OK (aX w)) (hj : XJ w) : EvI y_X_needed b_X_needed 2 (some .int) (6) [Vr 0] w (PX w (sp_needed (aX w))) := by
  refine Ev.mk (isI := false) (by decide +kernel) nofun (Nat.le_of_ble_eq_true rfl) (fun G hG => ?_)
  show G 0 [some (Vr 0), none] [] 102 (hp w)
  have hg := hO.gi hj
  refine gx_aload0 (q := 1) hG d_X_needed_0 rfl ?_
  refine gx_get (q := 4) hG f_X_21 hpX rfl d_X_needed_1 rfl ?_
  refine gw_V0Y (q := 7) hG l_X_251 c_Gm_neededBits (ev_Gm_neededBits hg) (hpGame (by unfold isG; omega)) rfl (by decide) (Nat.le_of_ble_eq_true rfl) d_X_needed_4 rfl (by decide) (fun z4 h4 => ?_)
  obtain ⟨m, rfl, m1, m2⟩ := h4
  have em : m = needN (aX w) := mkN_eq m1 (fun i hi => (m2 i hi).trans (need_cong (law := w 3 2) (n := w 3 1) numX i))
  refine gx_istore1 (q := 8) hG d_X_needed_7 rfl rfl ?_
  refine gx_aload0 (q := 9) hG d_X_needed_8 rfl ?_
  refine gx_iload1 (q := 10) hG d_X_needed_9 rfl ?_
  refine gw_S1X (q := 13) hG l_X_254 c_In_bitCount (ev_In_bitCount (by omega)) (by decide) (Nat.le_of_ble_eq_true rfl) d_X_needed_10 rfl (by decide) ?_
  refine gw_puti (q := 16) hG f_X_99 hpX (Nat.le_of_ble_eq_true rfl) vfit_i (Or.inl rfl) d_X_needed_13 rfl 11 rfl rfl ?_
  refine gx_iload1 (q := 17) hG d_X_needed_16 rfl ?_
  refine gx_ireturn hG d_X_needed_17 rfl rfl ?_
  refine ⟨_, rfl, _, rfl, ?_⟩
  unfold sp_needed
  rw [← em]
  exact PX_aside hj
theorem ev_M_bits {w : Mem} {m : Nat} (hm : m < 2 ^ 31) : EvX y_M_bits b_M_bits 3 (some .int) (1) [Vi (m : Int)] w (Vi (bs m 32 : Nat)) := by
  refine Ev.mk (isI := false) (by decide +kernel) nofun (Nat.le_of_ble_eq_true rfl) (fun G hG => ?_)
  show G 0 [some (Vi (m : Int)), none, none] [] 102 (hp w)
  have L : ∀ (n s c : Nat), s ≤ n → s < 2 ^ 31 → c + bs s 32 = bs m 32 → G 4 [some (Vi (m : Int)), some (Vi (c : Int)), some (Vi (s : Int))] [] 102 (hp w) := by
    intro n
    induction n with
    | zero =>
      intro s c h1 h2 h3
      have e : s = 0 := by omega
      subst e
      rw [bs_zero] at h3
      refine gx_iload2 (q := 5) hG d_M_bits_4 rfl ?_
      refine gx_if_eq (tgt := 20) (q := 8) hG d_M_bits_5 rfl rfl (by omega) (fun c5 => ?_) (fun c5 => ?_)
      · refine gx_iload1 (q := 21) hG d_M_bits_20 rfl ?_
        refine gx_ireturn hG d_M_bits_21 rfl rfl ?_
        exact ⟨_, rfl, by rw [← h3]; rfl, rfl⟩
      · exact absurd rfl c5
    | succ n ih =>
      intro s c h1 h2 h3
      refine gx_iload2 (q := 5) hG d_M_bits_4 rfl ?_
      refine gx_if_eq (tgt := 20) (q := 8) hG d_M_bits_5 rfl rfl (by omega) (fun c5 => ?_) (fun c5 => ?_)
      · have e : s = 0 := by omega
        subst e
        rw [bs_zero] at h3
        refine gx_iload1 (q := 21) hG d_M_bits_20 rfl ?_
        refine gx_ireturn hG d_M_bits_21 rfl rfl ?_
        exact ⟨_, rfl, by rw [← h3]; rfl, rfl⟩
      · refine gx_iinc1 (q := 11) hG d_M_bits_8 rfl rfl ?_
        refine gx_iload2 (q := 12) hG d_M_bits_11 rfl ?_
        refine gx_iload2 (q := 13) hG d_M_bits_12 rfl ?_
        refine gx_iconst (q := 14) hG d_M_bits_13 rfl ?_
        refine gx_isub (q := 15) hG d_M_bits_14 rfl ?_
        have e9 : (s : Int) - 1 = ((s - 1 : Nat) : Int) := by omega
        rw [e9]
        refine gx_iand (q := 16) hG (((s &&& (s - 1) : Nat) : Int)) d_M_bits_15 rfl (i_and s (s - 1)) ?_
        refine gx_istore2 (q := 17) hG d_M_bits_16 rfl rfl ?_
        refine gx_goto (tgt := 4) hG d_M_bits_17 rfl ?_
        have b := bs_low (s := s) (by omega) (by omega)
        have hle : s &&& (s - 1) ≤ s - 1 := Nat.and_le_right
        exact ih (s &&& (s - 1)) (c + 1) (by omega) (by omega) (by omega)
  refine gx_iconst (q := 1) hG d_M_bits_0 rfl ?_
  refine gx_istore1 (q := 2) hG d_M_bits_1 rfl rfl ?_
  refine gx_iload0 (q := 3) hG d_M_bits_2 rfl ?_
  refine gx_istore2 (q := 4) hG d_M_bits_3 rfl rfl ?_
  exact L m m 0 (by omega) hm (by omega)
theorem ev_M_needed {w : Mem} (hO : OK (aM w)) : EvI y_M_needed b_M_needed 4 (some .int) (4) [Vr 76] w (PM w (sp_needed (aM w))) := by
  refine Ev.mk (isI := false) (by decide +kernel) nofun (Nat.le_of_ble_eq_true rfl) (fun G hG => ?_)
  show G 0 [some (Vr 76), none, none, none] [] 102 (hp w)
  have hn := hO.nn
  have hl := hO.law
  have e1 : aM w 4 1 = w 76 14 := rfl
  have e0 : aM w 4 0 = w 76 11 := rfl
  rw [e1] at hn
  rw [e0] at hl
  obtain ⟨n, en⟩ : ∃ n : Nat, w 76 14 = (n : Int) := ⟨(w 76 14).toNat, by omega⟩
  have hmn := hO.mn
  rw [en] at hmn hn
  -- the others laid out
  have K : ∀ (j : Nat) (i k m : Nat) (W : Mem) , (k : Int) + j = n - 1 → i < n → (∀ b, b ≠ 93 → b ≠ 83 → W b = w b) → (∀ x : Int, 0 ≤ x → x < k → W 93 x = wo (w 85) i x) → (∀ (W' : Mem), (∀ b, b ≠ 93 → b ≠ 83 → W' b = w b) → (∀ x : Int, 0 ≤ x → x < (n : Int) - 1 → W' 93 x = wo (w 85) i x) → G 53 [some (Vr 76), some (Vi (m : Int)), some (Vi (i : Int)), some (Vi ((n : Int) - 1))] [] 102 (hp W')) → G 14 [some (Vr 76), some (Vi (m : Int)), some (Vi (i : Int)), some (Vi (k : Int))] [] 102 (hp W) := by
    intro j
    induction j with
    | zero =>
      intro i k m W h1 h2 h3 h4 hk
      have e14 : W 76 14 = n := by rw [h3 76 (by omega) (by omega), en]
      refine gx_iload3 (q := 15) hG d_M_needed_14 rfl ?_
      refine gx_aload0 (q := 16) hG d_M_needed_15 rfl ?_
      refine gx_get (q := 19) hG f_M_178 hpM rfl d_M_needed_16 rfl ?_
      rw [e14]
      refine gx_iconst (q := 20) hG d_M_needed_19 rfl ?_
      refine gx_isub (q := 21) hG d_M_needed_20 rfl ?_
      refine gx_icmp_ge (tgt := 53) (q := 24) hG d_M_needed_21 rfl rfl (by omega) (by omega) (fun c21 => ?_) (fun c21 => ?_)
      · rw [show ((k : Int)) = (n : Int) - 1 by omega]
        exact hk W h3 (fun x x0 x1 => h4 x x0 (by omega))
      · exfalso; omega
    | succ j ih =>
      intro i k m W h1 h2 h3 h4 hk
      have e14 : W 76 14 = n := by rw [h3 76 (by omega) (by omega), en]
      have e85 : ∀ x, W 85 x = w 85 x := fun x => by rw [h3 85 (by omega) (by omega)]
      refine gx_iload3 (q := 15) hG d_M_needed_14 rfl ?_
      refine gx_aload0 (q := 16) hG d_M_needed_15 rfl ?_
      refine gx_get (q := 19) hG f_M_178 hpM rfl d_M_needed_16 rfl ?_
      rw [e14]
      refine gx_iconst (q := 20) hG d_M_needed_19 rfl ?_
      refine gx_isub (q := 21) hG d_M_needed_20 rfl ?_
      refine gx_icmp_ge (tgt := 53) (q := 24) hG d_M_needed_21 rfl rfl (by omega) (by omega) (fun c21 => ?_) (fun c21 => ?_)
      · exfalso; omega
      · refine gx_aload0 (q := 25) hG d_M_needed_24 rfl ?_
        refine gx_get (q := 28) hG f_M_60 hpM rfl d_M_needed_25 rfl ?_
        refine gx_iload3 (q := 29) hG d_M_needed_28 rfl ?_
        refine gx_aload0 (q := 30) hG d_M_needed_29 rfl ?_
        refine gx_get (q := 33) hG f_M_35 hpM rfl d_M_needed_30 rfl ?_
        refine gx_iload3 (q := 34) hG d_M_needed_33 rfl ?_
        refine gx_iload2 (q := 35) hG d_M_needed_34 rfl ?_
        refine gx_icmp_ge (tgt := 42) (q := 38) hG d_M_needed_35 rfl rfl (by omega) (by omega) (fun c35 => ?_) (fun c35 => ?_)
        · refine gx_iload3 (q := 43) hG d_M_needed_42 rfl ?_
          refine gx_iconst (q := 44) hG d_M_needed_43 rfl ?_
          refine gx_iadd (q := 45) hG d_M_needed_44 rfl ?_
          refine gw_iald (q := 46) hG rfl (by omega) (by omega) d_M_needed_45 rfl ?_
          rw [e85]
          refine gw_iast (q := 47) hG rfl (by omega) (by omega) d_M_needed_46 rfl ?_
          refine gx_iinc3 (q := 50) hG d_M_needed_47 rfl rfl ?_
          refine gx_goto (tgt := 14) hG d_M_needed_50 rfl ?_
          refine ih i (k + 1) m _ (by omega) h2 (fun b b1 b2 => by rw [wu_ne b1, h3 b b1 b2]) (fun x x0 x1 => ?_) hk
          rw [wu_get]
          by_cases c : x = k
          · subst c
            rw [if_pos ⟨rfl, rfl⟩]
            unfold wo
            first
              | rw [if_pos (by omega)]
              | rw [if_neg (by omega)]
          · rw [if_neg (fun q => c q.2)]
            exact h4 x x0 (by omega)
        · refine gx_iload3 (q := 39) hG d_M_needed_38 rfl ?_
          refine gx_goto (tgt := 45) hG d_M_needed_39 rfl ?_
          refine gw_iald (q := 46) hG rfl (by omega) (by omega) d_M_needed_45 rfl ?_
          rw [e85]
          refine gw_iast (q := 47) hG rfl (by omega) (by omega) d_M_needed_46 rfl ?_
          refine gx_iinc3 (q := 50) hG d_M_needed_47 rfl rfl ?_
          refine gx_goto (tgt := 14) hG d_M_needed_50 rfl ?_
          refine ih i (k + 1) m _ (by omega) h2 (fun b b1 b2 => by rw [wu_ne b1, h3 b b1 b2]) (fun x x0 x1 => ?_) hk
          rw [wu_get]
          by_cases c : x = k
          · subst c
            rw [if_pos ⟨rfl, rfl⟩]
            unfold wo
            first
              | rw [if_pos (by omega)]
              | rw [if_neg (by omega)]
          · rw [if_neg (fun q => c q.2)]
            exact h4 x x0 (by omega)
  have L : ∀ (j i m : Nat) (W : Mem) (o : Option Value), i + j = n → m < 2 ^ 13 → one1 [o] 0 = true → (∀ b, b ≠ 93 → b ≠ 83 → W b = w b) → (∀ x : Nat, x < 13 → (m.testBit x = true ↔ x < i ∧ ¬ rch (w 76 11) (wo (w 85) x) (n - 1) (w 85 x))) → G 4 [some (Vr 76), some (Vi (m : Int)), some (Vi (i : Int)), o] [] 102 (hp W) := by
    intro j
    induction j with
    | zero =>
      intro i m W o h1 h2 g h3 h4
      have e14 : W 76 14 = n := by rw [h3 76 (by omega) (by omega), en]
      have em : m = needN (aM w) := mkN_eq h2 (fun x hx => by
        rw [h4 x hx]
        have e := need_cong (law := w 76 11) (n := w 76 14) (numM (w := w)) x
        rw [en] at e
        refine Iff.trans ?_ (e.trans ?_)
        · exact ⟨fun q => ⟨by omega, q.2⟩, fun q => ⟨by omega, q.2⟩⟩
        · rw [e1, en]
          exact Iff.rfl)
      have hs : SM w W := SM_scr (fun b hb => h3 b (by omega) (by omega))
      refine gx_iload2 (q := 5) hG d_M_needed_4 rfl ?_
      refine gx_aload0 (q := 6) hG d_M_needed_5 rfl ?_
      refine gx_get (q := 9) hG f_M_178 hpM rfl d_M_needed_6 rfl ?_
      rw [e14]
      refine gx_icmp_ge (tgt := 106) (q := 12) hG d_M_needed_9 rfl rfl (by omega) (by omega) (fun c9 => ?_) (fun c9 => ?_)
      · refine gx_aload0 (q := 107) hG d_M_needed_106 rfl ?_
        refine gx_iload1 (q := 108) hG d_M_needed_107 rfl ?_
        refine gw_S1X (q := 111) hG l_M_219 c_M_bits (ev_M_bits (by omega)) (by decide) (Nat.le_of_ble_eq_true rfl) d_M_needed_108 rfl (by decide) ?_
        refine gx_iload1 (q := 112) hG d_M_needed_111 rfl ?_
        refine gw_V2I (q := 115) hG l_M_121 c_M_tells (ev_M_tells) hpM rfl (by decide) (Nat.le_of_ble_eq_true rfl) d_M_needed_112 rfl (by decide) (fun z w1 h112 => ?_)
        refine gx_ireturn hG d_M_needed_115 rfl rfl ?_
        refine ⟨_, rfl, _, rfl, ?_⟩
        obtain ⟨rfl, rfl⟩ := h112
        unfold sp_needed
        rw [← em, ← hs.1]
        exact PM_tr hs PM_aside
      · exfalso; omega
    | succ j ih =>
      intro i m W o h1 h2 g h3 h4
      have e14 : W 76 14 = n := by rw [h3 76 (by omega) (by omega), en]
      have hi := hmn i (by omega) (by omega)
      have hor : (m ||| 1 <<< i) < 2 ^ 13 := Nat.or_lt_two_pow h2 (by rw [Nat.one_shiftLeft]; exact Nat.pow_lt_pow_right (by decide) (by omega))
      have hob : ∀ x : Nat, (m ||| 1 <<< i).testBit x = (m.testBit x || decide (x = i)) := fun x => by
        rw [Nat.testBit_or, Nat.one_shiftLeft, Nat.testBit_two_pow]
        congr 1
        exact decide_eq_decide.mpr ⟨fun e => e.symm, fun e => e.symm⟩
      have H : ∀ (W' : Mem), (∀ b, b ≠ 93 → b ≠ 83 → W' b = w b) → (∀ x : Int, 0 ≤ x → x < (n : Int) - 1 → W' 93 x = wo (w 85) i x) → G 53 [some (Vr 76), some (Vi (m : Int)), some (Vi (i : Int)), some (Vi ((n : Int) - 1))] [] 102 (hp W') := by
        intro W' q1 q2
        have f14 : W' 76 14 = n := by rw [q1 76 (by omega) (by omega), en]
        have f11 : W' 76 11 = w 76 11 := by rw [q1 76 (by omega) (by omega)]
        have f85 : ∀ x, W' 85 x = w 85 x := fun x => by rw [q1 85 (by omega) (by omega)]
        have hb : ∀ x : Int, 0 ≤ x → x < ((n - 1 : Nat) : Int) → 1 ≤ W' 93 x ∧ W' 93 x ≤ 60 := fun x x0 x1 => by
          rw [q2 x x0 (by omega)]
          unfold wo
          split
          · exact hmn x x0 (by omega)
          · exact hmn (x + 1) (by omega) (by omega)
        have hr : rch (w 76 11) (W' 93) (n - 1) (w 85 i) ↔ rch (w 76 11) (wo (w 85) i) (n - 1) (w 85 i) := rch_congr (fun x x0 x1 => q2 x x0 (by omega)) _
        refine gx_aload0 (q := 54) hG d_M_needed_53 rfl ?_
        refine gx_aload0 (q := 55) hG d_M_needed_54 rfl ?_
        refine gx_get (q := 58) hG f_M_60 hpM rfl d_M_needed_55 rfl ?_
        refine gx_aload0 (q := 59) hG d_M_needed_58 rfl ?_
        refine gx_get (q := 62) hG f_M_178 hpM rfl d_M_needed_59 rfl ?_
        rw [f14]
        refine gx_iconst (q := 63) hG d_M_needed_62 rfl ?_
        refine gx_isub (q := 64) hG d_M_needed_63 rfl ?_
        rw [show (n : Int) - 1 = ((n - 1 : Nat) : Int) by omega]
        refine gx_aload0 (q := 65) hG d_M_needed_64 rfl ?_
        refine gx_get (q := 68) hG f_M_172 hpM rfl d_M_needed_65 rfl ?_
        rw [f11]
        refine gx_aload0 (q := 69) hG d_M_needed_68 rfl ?_
        refine gx_get (q := 72) hG f_M_35 hpM rfl d_M_needed_69 rfl ?_
        refine gx_iload2 (q := 73) hG d_M_needed_72 rfl ?_
        refine gw_iald (q := 74) hG rfl (by omega) (by omega) d_M_needed_73 rfl ?_
        rw [f85]
        refine gw_V4V (q := 77) hG l_M_131 c_M_layFew (ev_M_layFew (N := 14) rfl (by decide) (by omega) (by omega) hl (by omega) hb) hpM rfl (by decide) (Nat.le_of_ble_eq_true rfl) d_M_needed_74 rfl (by decide) (fun w1 h74 => ?_)
        obtain ⟨F, rfl, hF⟩ := h74
        have g85 : ∀ x, wc W' 83 F 85 x = w 85 x := fun x => by rw [wc_ne (by omega), f85]
        refine gx_iload1 (q := 78) hG d_M_needed_77 rfl ?_
        refine gx_aload0 (q := 79) hG d_M_needed_78 rfl ?_
        refine gx_aload0 (q := 80) hG d_M_needed_79 rfl ?_
        refine gx_get (q := 83) hG f_M_35 hpM rfl d_M_needed_80 rfl ?_
        refine gx_iload2 (q := 84) hG d_M_needed_83 rfl ?_
        refine gw_iald (q := 85) hG rfl (by omega) (by omega) d_M_needed_84 rfl ?_
        rw [g85]
        have hb2 := FZ_bd (v := w 85 i) hF (fun x x0 x1 => (hb x x0 x1).1) (by omega) (by omega)
        have hh := FZ_had (v := w 85 i) hF (fun x x0 x1 => (hb x x0 x1).1) (by omega) (by omega)
        have he : wc W' 83 F 83 (w 85 i) = F (w 85 i) := by rw [wc_eq]
        refine gw_V1X (q := 88) hG l_M_135 c_M_isHad (ev_M_isHad (by omega) (by rw [he]; omega)) hpM rfl (by decide) (Nat.le_of_ble_eq_true rfl) d_M_needed_85 rfl (by decide) ?_
        refine gx_if_eq (tgt := 95) (q := 91) hG d_M_needed_88 rfl rfl (bi_R _) (fun c88 => ?_) (fun c88 => ?_)
        · have c88 := bi_eq0.mp c88
          rw [he, hh, hr] at c88
          refine gx_iconst (q := 96) hG d_M_needed_95 rfl ?_
          refine gx_iload2 (q := 97) hG d_M_needed_96 rfl ?_
          refine gx_ishl (q := 98) hG (((1 <<< i : Nat) : Int)) d_M_needed_97 rfl (i_shl 1 i (by omega)) ?_
          first
            | refine gx_ior (q := 99) hG ((m ||| 1 <<< i : Nat) : Int) d_M_needed_98 rfl (i_or m (1 <<< i)) ?_
            | refine gx_ior (q := 99) hG ((m ||| 0 : Nat) : Int) d_M_needed_98 rfl (i_or m 0) ?_
          refine gx_istore1 (q := 100) hG d_M_needed_99 rfl rfl ?_
          refine gx_iinc2 (q := 103) hG d_M_needed_100 rfl rfl ?_
          refine gx_goto (tgt := 4) hG d_M_needed_103 rfl ?_
          first
            | exact ih (i + 1) (m ||| 1 <<< i) _ _ (by omega) hor rfl (fun b b1 b2 => by rw [wc_ne b2, q1 b b1 b2]) (fun x hx => by rw [hob, Bool.or_eq_true, h4 x hx, decide_eq_true_eq]; constructor; (· rintro (q | q); (· exact ⟨by omega, q.2⟩); (· subst q; exact ⟨by omega, c88⟩)); (· intro q; by_cases e : x = i; (· exact Or.inr e); (· exact Or.inl ⟨by omega, q.2⟩)))
            | exact ih (i + 1) (m ||| 0) _ _ (by omega) (by rw [Nat.or_zero]; exact h2) rfl (fun b b1 b2 => by rw [wc_ne b2, q1 b b1 b2]) (fun x hx => by rw [Nat.or_zero, h4 x hx]; constructor; (· exact fun q => ⟨by omega, q.2⟩); (· exact fun q => ⟨by have := q.1; have e : x ≠ i := fun e => q.2 (e ▸ c88); omega, q.2⟩))
        · have c88 := bi_ne0.mp c88
          rw [he, hh, hr] at c88
          refine gx_iconst (q := 92) hG d_M_needed_91 rfl ?_
          refine gx_goto (tgt := 98) hG d_M_needed_92 rfl ?_
          first
            | refine gx_ior (q := 99) hG ((m ||| 1 <<< i : Nat) : Int) d_M_needed_98 rfl (i_or m (1 <<< i)) ?_
            | refine gx_ior (q := 99) hG ((m ||| 0 : Nat) : Int) d_M_needed_98 rfl (i_or m 0) ?_
          refine gx_istore1 (q := 100) hG d_M_needed_99 rfl rfl ?_
          refine gx_iinc2 (q := 103) hG d_M_needed_100 rfl rfl ?_
          refine gx_goto (tgt := 4) hG d_M_needed_103 rfl ?_
          first
            | exact ih (i + 1) (m ||| 1 <<< i) _ _ (by omega) hor rfl (fun b b1 b2 => by rw [wc_ne b2, q1 b b1 b2]) (fun x hx => by rw [hob, Bool.or_eq_true, h4 x hx, decide_eq_true_eq]; constructor; (· rintro (q | q); (· exact ⟨by omega, q.2⟩); (· subst q; exact ⟨by omega, c88⟩)); (· intro q; by_cases e : x = i; (· exact Or.inr e); (· exact Or.inl ⟨by omega, q.2⟩)))
            | exact ih (i + 1) (m ||| 0) _ _ (by omega) (by rw [Nat.or_zero]; exact h2) rfl (fun b b1 b2 => by rw [wc_ne b2, q1 b b1 b2]) (fun x hx => by rw [Nat.or_zero, h4 x hx]; constructor; (· exact fun q => ⟨by omega, q.2⟩); (· exact fun q => ⟨by have := q.1; have e : x ≠ i := fun e => q.2 (e ▸ c88); omega, q.2⟩))
      refine gx_iload2 (q := 5) hG d_M_needed_4 rfl ?_
      refine gx_aload0 (q := 6) hG d_M_needed_5 rfl ?_
      refine gx_get (q := 9) hG f_M_178 hpM rfl d_M_needed_6 rfl ?_
      rw [e14]
      refine gx_icmp_ge (tgt := 106) (q := 12) hG d_M_needed_9 rfl rfl (by omega) (by omega) (fun c9 => ?_) (fun c9 => ?_)
      · exfalso; omega
      · refine gx_iconst (q := 13) hG d_M_needed_12 rfl ?_
        refine gx_istore3 (q := 14) hG d_M_needed_13 rfl rfl ?_
        exact K (n - 1) i 0 m W (by omega) (by omega) h3 (fun x x0 x1 => by omega) H
  refine gx_iconst (q := 1) hG d_M_needed_0 rfl ?_
  refine gx_istore1 (q := 2) hG d_M_needed_1 rfl rfl ?_
  refine gx_iconst (q := 3) hG d_M_needed_2 rfl ?_
  refine gx_istore2 (q := 4) hG d_M_needed_3 rfl rfl ?_
  exact L n 0 0 w none (by omega) (by decide) rfl (fun _ _ _ => rfl) (fun x hx => by rw [Nat.zero_testBit]; constructor; (· intro q; cases q); (· intro q; omega))

