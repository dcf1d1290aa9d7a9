/-! part 77: whose it is, the reference's calls -/
def SW (s : Sta) (W : Mem) : Prop := canS s ∧ W 76 28 = (GG s : Int) ∧ GO s (W 94) (W 95) 60 ∧ VT s W (2 ^ GG s)
theorem winP_pS {s : Sta} {n : Int} (h : winP (gapm s) n) : pS s n := by
  obtain ⟨a, b, c, -⟩ := h
  obtain ⟨k, rfl⟩ := Int.eq_ofNat_of_zero_le (show 0 ≤ n by omega)
  rw [show (k : Int).toNat = k by omega] at c
  exact ((mkN_bit 28 k).mp c).2
theorem T_0 {s : Sta} {T T95 : Int → Int} (hc : canS s) (hg : GO s T T95 60) (hG : 0 < GG s) : T 0 = 1 := by
  obtain ⟨v, v1, v2, v3, v4, v5⟩ := go_ex hc hg hG
  have h1 := gap_1 hc.1 hG
  have e : v = 1 := by
    rcases Nat.lt_or_ge 1 v with c | c
    · have := ix_mono (s := s) (u := 1) (v := v) (by omega) c h1
      omega
    · omega
  rw [e] at v5
  exact v5
theorem cb_cn {s : Sta} {T T95 : Int → Int} (hc : canS s) (hg : GO s T T95 60) : cb (fun k => winP (gapm s) (T k)) (GG s) = cn (winP (gapm s)) 27 := by
  have key : ∀ v : Nat, v ≤ 27 → cb (fun k => winP (gapm s) (T k)) (cn (pS s) v).toNat = cn (winP (gapm s)) v := by
    intro v
    induction v with
    | zero => intro _; rfl
    | succ v ih =>
      intro hv
      have h := ih (by omega)
      have hb := cn_bd (P := pS s) v
      have cs : cn (pS s) (v + 1) = cn (pS s) v + bi (pS s ((v + 1 : Nat) : Int)) := rfl
      have cw : cn (winP (gapm s)) (v + 1) = cn (winP (gapm s)) v + bi (winP (gapm s) ((v + 1 : Nat) : Int)) := rfl
      rw [cw]
      by_cases p : pS s ((v + 1 : Nat) : Int)
      · rw [cs, bi_t p, show (cn (pS s) v + 1).toNat = (cn (pS s) v).toNat + 1 by omega]
        show cb _ _ + bi (winP (gapm s) (T ((cn (pS s) v).toNat : Int))) = _
        have e := ((hg (v + 1) (by omega) (by omega)).1 p).2
        have ei : ix s (v + 1) = (cn (pS s) v).toNat := by unfold ix; rw [show v + 1 - 1 = v by omega]
        rw [ei] at e
        rw [e, h]
      · rw [cs, bi_f p, Int.add_zero, h, bi_f (fun q => p (winP_pS q)), Int.add_zero]
  have e := key 27 (Nat.le_refl _)
  have h27 : cn (pS s) 60 = cn (pS s) 27 := (gapm_cn hc.2.1).2
  unfold GG
  rw [h27]
  exact e
theorem ev_M_allGaps {w : Mem} {s : Sta} (h : SW s w) : EvX y_M_allGaps b_M_allGaps 1 (some .int) (1) [Vr 76] w (Vi ((2 ^ GG s - 1 : Nat) : Int)) := by
  refine Ev.mk (isI := false) (by decide +kernel) nofun (Nat.le_of_ble_eq_true rfl) (fun G hG => ?_)
  show G 0 [some (Vr 76)] [] 102 (hp w)
  have h14 := can_GG h.1
  have hp : 0 < 2 ^ GG s := Nat.pos_of_ne_zero (by simp)
  refine gx_iconst (q := 1) hG d_M_allGaps_0 rfl ?_
  refine gx_aload0 (q := 2) hG d_M_allGaps_1 rfl ?_
  refine gx_get (q := 5) hG f_M_210 hpM rfl d_M_allGaps_2 rfl ?_
  rw [h.2.1]
  refine gx_ishl (q := 6) hG (((1 <<< GG s : Nat) : Int)) d_M_allGaps_5 rfl (i_shl 1 (GG s) (by omega)) ?_
  rw [Nat.one_shiftLeft]
  refine gx_iconst (q := 7) hG d_M_allGaps_6 rfl ?_
  refine gx_isub (q := 8) hG d_M_allGaps_7 rfl ?_
  refine gx_ireturn hG d_M_allGaps_8 rfl rfl ?_
  exact ⟨_, rfl, by rw [show ((2 ^ GG s : Nat) : Int) - 1 = ((2 ^ GG s - 1 : Nat) : Int) by omega], rfl⟩
theorem ev_M_isWinning {w : Mem} {s : Sta} {k : Nat} (h : SW s w) (hk : k < GG s) : EvX y_M_isWinning b_M_isWinning 2 (some .boolean) (3) [Vr 76, Vi (k : Int)] w (Vi (bi (winP (gapm s) (w 94 k)))) := by
  refine Ev.mk (isI := false) (by decide +kernel) nofun (Nat.le_of_ble_eq_true rfl) (fun G hG => ?_)
  show G 0 [some (Vr 76), some (Vi (k : Int))] [] 102 (hp w)
  obtain ⟨hc, h28, hgo, hvt⟩ := h
  have h14 := can_GG hc
  obtain ⟨v, v1, v2, v3, v4, v5⟩ := go_ex hc hgo hk
  have hpw : 0 < 2 ^ GG s := Nat.pos_of_ne_zero (by simp)
  have hpl : 2 ^ GG s ≤ 16384 := Nat.pow_le_pow_right (n := 2) (by decide) h14
  have hbl := bhN_lt (s := s) (S := 2 ^ GG s - 1) (n := v)
  have hv9 := hvt _ hbl
  rw [msk_bh v1, msk_all] at hv9
  have hvb : 0 ≤ vS (gb (gapm s) v) ∧ vS (gb (gapm s) v) ≤ 29 := slF_bd 15 _
  have hwp : 1 ≤ k → (winP (gapm s) (w 94 k) ↔ vS (gb (gapm s) v) % 2 = 0) := fun k1 => by
    have t0 := T_0 hc hgo (by omega)
    have v2' : 2 ≤ v := by
      rcases Nat.lt_or_ge v 2 with z | z
      · have : v = 1 := by omega
        have e1 := ix_c (s := s) (v := 1)
        have e2 : cn (pS s) (1 - 1) = 0 := rfl
        rw [this] at v4
        omega
      · exact z
    rw [v5, winP_iff ⟨v2', by omega⟩]
    have hb : (gapm s).testBit v = true := (mkN_bit 28 v).mpr ⟨by omega, v3⟩
    exact ⟨fun q => by have := q.2; omega, fun q => ⟨hb, by omega⟩⟩
  have hw0 : k = 0 → ¬ winP (gapm s) (w 94 k) := fun z q => by
    have t0 := T_0 hc hgo (by omega)
    have := q.1
    rw [z] at this
    rw [show ((0 : Nat) : Int) = 0 from rfl, t0] at this
    omega
  refine gx_iload1 (q := 1) hG d_M_isWinning_0 rfl ?_
  refine gx_if_le (tgt := 25) (q := 4) hG d_M_isWinning_1 rfl rfl (by omega) (fun c1 => ?_) (fun c1 => ?_)
  · refine gx_iconst (q := 26) hG d_M_isWinning_25 rfl ?_
    refine gx_zreturn hG d_M_isWinning_26 rfl rfl (by first | exact bi_01 _ | decide | omega) ?_
    first
      | exact ⟨_, rfl, by rw [bi_f (hw0 (by omega))], rfl⟩
      | exact ⟨_, rfl, by rw [bi_f (fun q => by have := (hwp (by omega)).mp q; omega)], rfl⟩
      | exact ⟨_, rfl, by rw [bi_t ((hwp (by omega)).mpr (by omega))], rfl⟩
  · refine gx_aload0 (q := 5) hG d_M_isWinning_4 rfl ?_
    refine gx_get (q := 8) hG f_M_69 hpM rfl d_M_isWinning_5 rfl ?_
    refine gx_aload0 (q := 9) hG d_M_isWinning_8 rfl ?_
    refine gx_aload0 (q := 10) hG d_M_isWinning_9 rfl ?_
    refine gw_V0X (q := 13) hG l_M_239 c_M_allGaps (ev_M_allGaps ⟨hc, h28, hgo, hvt⟩) hpM rfl (by decide) (Nat.le_of_ble_eq_true rfl) d_M_isWinning_10 rfl (by decide) ?_
    refine gx_iload1 (q := 14) hG d_M_isWinning_13 rfl ?_
    rw [show (k : Int) = ((ix s v : Nat) : Int) by omega]
    refine gw_V2X (q := 17) hG l_M_233 c_M_behind (ev_M_behind hc h28 hgo (by omega) ⟨v1, v2⟩ v3) hpM rfl (by decide) (Nat.le_of_ble_eq_true rfl) d_M_isWinning_14 rfl (by decide) ?_
    refine gw_zald (q := 18) hG rfl (by omega) (by omega) d_M_isWinning_17 rfl ?_
    refine gx_if_ne (tgt := 25) (q := 21) hG d_M_isWinning_18 rfl rfl (by omega) (fun c18 => ?_) (fun c18 => ?_)
    · refine gx_iconst (q := 26) hG d_M_isWinning_25 rfl ?_
      refine gx_zreturn hG d_M_isWinning_26 rfl rfl (by first | exact bi_01 _ | decide | omega) ?_
      first
        | exact ⟨_, rfl, by rw [bi_f (hw0 (by omega))], rfl⟩
        | exact ⟨_, rfl, by rw [bi_f (fun q => by have := (hwp (by omega)).mp q; omega)], rfl⟩
        | exact ⟨_, rfl, by rw [bi_t ((hwp (by omega)).mpr (by omega))], rfl⟩
    · refine gx_iconst (q := 22) hG d_M_isWinning_21 rfl ?_
      refine gx_goto (tgt := 26) hG d_M_isWinning_22 rfl ?_
      refine gx_zreturn hG d_M_isWinning_26 rfl rfl (by first | exact bi_01 _ | decide | omega) ?_
      first
        | exact ⟨_, rfl, by rw [bi_f (hw0 (by omega))], rfl⟩
        | exact ⟨_, rfl, by rw [bi_f (fun q => by have := (hwp (by omega)).mp q; omega)], rfl⟩
        | exact ⟨_, rfl, by rw [bi_t ((hwp (by omega)).mpr (by omega))], rfl⟩
theorem ev_M_winMany {w : Mem} {s : Sta} (h : SW s w) : EvX y_M_winMany b_M_winMany 3 (some .int) (4) [Vr 76] w (Vi (cn (winP (gapm s)) 27)) := by
  refine Ev.mk (isI := false) (by decide +kernel) nofun (Nat.le_of_ble_eq_true rfl) (fun G hG => ?_)
  show G 0 [some (Vr 76), none, none] [] 102 (hp w)
  have h14 := can_GG h.1
  have L : ∀ (j k : Nat), k + j = GG s → G 4 [some (Vr 76), some (Vi (cb (fun k => winP (gapm s) (w 94 k)) k)), some (Vi (k : Int))] [] 102 (hp w) := by
    intro j
    induction j with
    | zero =>
      intro k h1
      refine gx_iload2 (q := 5) hG d_M_winMany_4 rfl ?_
      refine gx_aload0 (q := 6) hG d_M_winMany_5 rfl ?_
      refine gx_get (q := 9) hG f_M_210 hpM rfl d_M_winMany_6 rfl ?_
      rw [h.2.1]
      refine gx_icmp_ge (tgt := 34) (q := 12) hG d_M_winMany_9 rfl rfl (by omega) (by omega) (fun c9 => ?_) (fun c9 => ?_)
      · refine gx_iload1 (q := 35) hG d_M_winMany_34 rfl ?_
        refine gx_ireturn hG d_M_winMany_35 rfl rfl ?_
        exact ⟨_, rfl, by rw [← cb_cn h.1 h.2.2.1, show k = GG s by omega], rfl⟩
      · exfalso; omega
    | succ j ih =>
      intro k h1
      have cs : cb (fun k => winP (gapm s) (w 94 k)) (k + 1) = cb (fun k => winP (gapm s) (w 94 k)) k + bi (winP (gapm s) (w 94 k)) := rfl
      refine gx_iload2 (q := 5) hG d_M_winMany_4 rfl ?_
      refine gx_aload0 (q := 6) hG d_M_winMany_5 rfl ?_
      refine gx_get (q := 9) hG f_M_210 hpM rfl d_M_winMany_6 rfl ?_
      rw [h.2.1]
      refine gx_icmp_ge (tgt := 34) (q := 12) hG d_M_winMany_9 rfl rfl (by omega) (by omega) (fun c9 => ?_) (fun c9 => ?_)
      · exfalso; omega
      · refine gx_iload1 (q := 13) hG d_M_winMany_12 rfl ?_
        refine gx_aload0 (q := 14) hG d_M_winMany_13 rfl ?_
        refine gx_iload2 (q := 15) hG d_M_winMany_14 rfl ?_
        refine gw_V1X (q := 18) hG l_M_242 c_M_isWinning (ev_M_isWinning h (by omega)) hpM rfl (by decide) (Nat.le_of_ble_eq_true rfl) d_M_winMany_15 rfl (by decide) ?_
        refine gx_if_eq (tgt := 25) (q := 21) hG d_M_winMany_18 rfl rfl (bi_R _) (fun c18 => ?_) (fun c18 => ?_)
        · have c18 := bi_eq0.mp c18
          refine gx_iconst (q := 26) hG d_M_winMany_25 rfl ?_
          refine gx_iadd (q := 27) hG d_M_winMany_26 rfl ?_
          refine gx_istore1 (q := 28) hG d_M_winMany_27 rfl rfl ?_
          refine gx_iinc2 (q := 31) hG d_M_winMany_28 rfl rfl ?_
          refine gx_goto (tgt := 4) hG d_M_winMany_31 rfl ?_
          have e := ih (k + 1) (by omega)
          rw [cs] at e
          first
            | (rw [bi_t c18] at e; exact e)
            | (rw [bi_f c18] at e; exact e)
        · have c18 := bi_ne0.mp c18
          refine gx_iconst (q := 22) hG d_M_winMany_21 rfl ?_
          refine gx_goto (tgt := 26) hG d_M_winMany_22 rfl ?_
          refine gx_iadd (q := 27) hG d_M_winMany_26 rfl ?_
          refine gx_istore1 (q := 28) hG d_M_winMany_27 rfl rfl ?_
          refine gx_iinc2 (q := 31) hG d_M_winMany_28 rfl rfl ?_
          refine gx_goto (tgt := 4) hG d_M_winMany_31 rfl ?_
          have e := ih (k + 1) (by omega)
          rw [cs] at e
          first
            | (rw [bi_t c18] at e; exact e)
            | (rw [bi_f c18] at e; exact e)
  refine gx_iconst (q := 1) hG d_M_winMany_0 rfl ?_
  refine gx_istore1 (q := 2) hG d_M_winMany_1 rfl rfl ?_
  refine gx_iconst (q := 3) hG d_M_winMany_2 rfl ?_
  refine gx_istore2 (q := 4) hG d_M_winMany_3 rfl rfl ?_
  exact L (GG s) 0 (by omega)
theorem SW_of {w w1 w2 : Mem} {s : Sta} (hc : canS s) (g1 : w1 76 28 = (GG s : Int)) (h : GO s (w2 94) (w2 95) 60 ∧ VT s w2 (2 ^ GG s) ∧ ∀ b, b < 94 ∨ 98 < b → w2 b = w1 b) : SW s w2 ∧ SM w1 w2 :=
  ⟨⟨hc, by rw [h.2.2 76 (by omega)]; exact g1, h.1, h.2.1⟩, SM_scr (fun b hb => h.2.2 b (by omega))⟩
theorem ev_M_needSolved {w : Mem} (hO : OK (aM w)) : EvI y_M_needSolved b_M_needSolved 1 (some .int) (7) [Vr 76] w (fun z w' => z = nsS (aM w) ∧ SM w w' ∧ (z = 0 → SW (aM w) w')) := by
  refine Ev.mk (isI := false) (by decide +kernel) nofun (Nat.le_of_ble_eq_true rfl) (fun G hG => ?_)
  show G 0 [some (Vr 76)] [] 102 (hp w)
  have hl := hO.law
  have e0 : aM w 4 0 = w 76 11 := rfl
  rw [e0] at hl
  refine gx_aload0 (q := 1) hG d_M_needSolved_0 rfl ?_
  refine gx_get (q := 4) hG f_M_172 hpM rfl d_M_needSolved_1 rfl ?_
  refine gx_if_ne (tgt := 14) (q := 7) hG d_M_needSolved_4 rfl rfl (by omega) (fun c4 => ?_) (fun c4 => ?_)
  · refine gx_bipush (q := 16) hG d_M_needSolved_14 rfl rfl ?_
    refine gx_ireturn hG d_M_needSolved_16 rfl rfl ?_
    unfold nsS
    first
      | (rw [if_pos (Or.inl (show aM w 4 0 ≠ 0 from c4))]; exact ⟨_, rfl, _, rfl, rfl, SM_id, fun q => absurd q (by decide)⟩)
      | (rw [if_pos (Or.inr (bi_t (bi_ne0.mp c11)))]; exact ⟨_, rfl, _, rfl, rfl, s1, fun q => absurd q (by decide)⟩)
      | (rw [if_neg (fun q => q.elim (fun q => q c4) (fun q => bi_eq0.mp c11 (bi_eq1.mp q))), if_pos c21]; exact ⟨_, rfl, _, rfl, rfl, s1.tr s2, fun q => absurd q (by decide)⟩)
      | (rw [if_neg (fun q => q.elim (fun q => q c4) (fun q => bi_eq0.mp c11 (bi_eq1.mp q))), if_neg c21]; exact ⟨_, rfl, _, rfl, rfl, (s1.tr s2).tr q2, fun _ => q1⟩)
  · refine gx_aload0 (q := 8) hG d_M_needSolved_7 rfl ?_
    refine gw_V0I (q := 11) hG l_M_196 c_M_isOver (ev_M_isOver hO) hpM rfl (by omega) (Nat.le_of_ble_eq_true rfl) d_M_needSolved_8 rfl (by decide) (fun z8 w1 h8 => ?_)
    obtain ⟨rfl, s1⟩ := h8
    refine gx_if_eq (tgt := 17) (q := 14) hG d_M_needSolved_11 rfl rfl (bi_R _) (fun c11 => ?_) (fun c11 => ?_)
    · refine gx_aload0 (q := 18) hG d_M_needSolved_17 rfl ?_
      refine gw_V0I (q := 21) hG l_M_245 c_M_isSolved (ev_M_isSolved (s1.ok hO)) hpM rfl (by omega) (Nat.le_of_ble_eq_true rfl) d_M_needSolved_18 rfl (by decide) (fun z18 w2 h18 => ?_)
      obtain ⟨rfl, s2, p2⟩ := h18
      rw [s1.1] at p2 ⊢
      refine gx_if_ne (tgt := 27) (q := 24) hG d_M_needSolved_21 rfl rfl (bi_R _) (fun c21 => ?_) (fun c21 => ?_)
      · have c9 := bi_ne0.mp c21
        obtain ⟨p3, p4⟩ := p2 c9
        refine gx_aload0 (q := 28) hG d_M_needSolved_27 rfl ?_
        refine gw_V0V (q := 31) hG l_M_248 c_M_layWins (ev_M_layWins c9 p3 p4) hpM rfl (by omega) (Nat.le_of_ble_eq_true rfl) d_M_needSolved_28 rfl (by decide) (fun w3 h28 => ?_)
        obtain ⟨q1, q2⟩ := SW_of (w := w) c9 p3 h28
        refine gx_iconst (q := 32) hG d_M_needSolved_31 rfl ?_
        refine gx_ireturn hG d_M_needSolved_32 rfl rfl ?_
        unfold nsS
        first
          | (rw [if_pos (Or.inl (show aM w 4 0 ≠ 0 from c4))]; exact ⟨_, rfl, _, rfl, rfl, SM_id, fun q => absurd q (by decide)⟩)
          | (rw [if_pos (Or.inr (bi_t (bi_ne0.mp c11)))]; exact ⟨_, rfl, _, rfl, rfl, s1, fun q => absurd q (by decide)⟩)
          | (rw [if_neg (fun q => q.elim (fun q => q c4) (fun q => bi_eq0.mp c11 (bi_eq1.mp q))), if_pos c21]; exact ⟨_, rfl, _, rfl, rfl, s1.tr s2, fun q => absurd q (by decide)⟩)
          | (rw [if_neg (fun q => q.elim (fun q => q c4) (fun q => bi_eq0.mp c11 (bi_eq1.mp q))), if_neg c21]; exact ⟨_, rfl, _, rfl, rfl, (s1.tr s2).tr q2, fun _ => q1⟩)
      · refine gx_bipush (q := 26) hG d_M_needSolved_24 rfl rfl ?_
        refine gx_ireturn hG d_M_needSolved_26 rfl rfl ?_
        unfold nsS
        first
          | (rw [if_pos (Or.inl (show aM w 4 0 ≠ 0 from c4))]; exact ⟨_, rfl, _, rfl, rfl, SM_id, fun q => absurd q (by decide)⟩)
          | (rw [if_pos (Or.inr (bi_t (bi_ne0.mp c11)))]; exact ⟨_, rfl, _, rfl, rfl, s1, fun q => absurd q (by decide)⟩)
          | (rw [if_neg (fun q => q.elim (fun q => q c4) (fun q => bi_eq0.mp c11 (bi_eq1.mp q))), if_pos c21]; exact ⟨_, rfl, _, rfl, rfl, s1.tr s2, fun q => absurd q (by decide)⟩)
          | (rw [if_neg (fun q => q.elim (fun q => q c4) (fun q => bi_eq0.mp c11 (bi_eq1.mp q))), if_neg c21]; exact ⟨_, rfl, _, rfl, rfl, (s1.tr s2).tr q2, fun _ => q1⟩)
    · refine gx_bipush (q := 16) hG d_M_needSolved_14 rfl rfl ?_
      refine gx_ireturn hG d_M_needSolved_16 rfl rfl ?_
      unfold nsS
      first
        | (rw [if_pos (Or.inl (show aM w 4 0 ≠ 0 from c4))]; exact ⟨_, rfl, _, rfl, rfl, SM_id, fun q => absurd q (by decide)⟩)
        | (rw [if_pos (Or.inr (bi_t (bi_ne0.mp c11)))]; exact ⟨_, rfl, _, rfl, rfl, s1, fun q => absurd q (by decide)⟩)
        | (rw [if_neg (fun q => q.elim (fun q => q c4) (fun q => bi_eq0.mp c11 (bi_eq1.mp q))), if_pos c21]; exact ⟨_, rfl, _, rfl, rfl, s1.tr s2, fun q => absurd q (by decide)⟩)
        | (rw [if_neg (fun q => q.elim (fun q => q c4) (fun q => bi_eq0.mp c11 (bi_eq1.mp q))), if_neg c21]; exact ⟨_, rfl, _, rfl, rfl, (s1.tr s2).tr q2, fun _ => q1⟩)
theorem ns_neg {s : Sta} : nsS s = 0 ∨ nsS s < 0 := by
  unfold nsS
  split
  · right; omega
  · split
    · right; omega
    · left; rfl
theorem ev_M_whose {w : Mem} (hO : OK (aM w)) : EvI y_M_whose b_M_whose 2 (some .int) (9) [Vr 76] w (PM w (sp_whose (aM w))) := by
  refine Ev.mk (isI := false) (by decide +kernel) nofun (Nat.le_of_ble_eq_true rfl) (fun G hG => ?_)
  show G 0 [some (Vr 76), none] [] 102 (hp w)
  have hns := nsS_R (s := aM w)
  have hnn := ns_neg (s := aM w)
  have hwb := cn_bd (P := winP (gapm (aM w))) 27
  refine gx_aload0 (q := 1) hG d_M_whose_0 rfl ?_
  refine gw_V0I (q := 4) hG l_M_251 c_M_needSolved (ev_M_needSolved hO) hpM rfl (by omega) (Nat.le_of_ble_eq_true rfl) d_M_whose_1 rfl (by decide) (fun z1 w1 h1 => ?_)
  obtain ⟨rfl, s1, s2⟩ := h1
  refine gx_istore1 (q := 5) hG d_M_whose_4 rfl rfl ?_
  refine gx_iload1 (q := 6) hG d_M_whose_5 rfl ?_
  refine gx_if_ge (tgt := 13) (q := 9) hG d_M_whose_6 rfl rfl (by omega) (fun c6 => ?_) (fun c6 => ?_)
  · have h0 : nsS (aM w) = 0 := by omega
    have hw := s2 h0
    have h14 := can_GG hw.1
    have hpw : 0 < 2 ^ GG (aM w) := Nat.pos_of_ne_zero (by simp)
    have hpl : 2 ^ GG (aM w) ≤ 16384 := Nat.pow_le_pow_right (n := 2) (by decide) h14
    have hv := hw.2.2.2 (2 ^ GG (aM w) - 1) (by omega)
    rw [msk_all] at hv
    have hvw := vS_win (m := gapm (aM w)) (mkN_lt 28) gapm_0 (canS_b hw.1)
    have hvb : 0 ≤ vS (gapm (aM w)) ∧ vS (gapm (aM w)) ≤ 29 := slF_bd 15 _
    refine gx_aload0 (q := 14) hG d_M_whose_13 rfl ?_
    refine gx_aload0 (q := 15) hG d_M_whose_14 rfl ?_
    refine gw_V0X (q := 18) hG l_M_254 c_M_winMany (ev_M_winMany hw) hpM rfl (by omega) (Nat.le_of_ble_eq_true rfl) d_M_whose_15 rfl (by decide) ?_
    refine gx_aload0 (q := 19) hG d_M_whose_18 rfl ?_
    refine gx_get (q := 22) hG f_M_69 hpM rfl d_M_whose_19 rfl ?_
    refine gx_aload0 (q := 23) hG d_M_whose_22 rfl ?_
    refine gw_V0X (q := 26) hG l_M_239 c_M_allGaps (ev_M_allGaps hw) hpM rfl (by omega) (Nat.le_of_ble_eq_true rfl) d_M_whose_23 rfl (by decide) ?_
    refine gw_zald (q := 27) hG rfl (by omega) (by omega) d_M_whose_26 rfl ?_
    refine gx_if_eq (tgt := 34) (q := 30) hG d_M_whose_27 rfl rfl (by omega) (fun c27 => ?_) (fun c27 => ?_)
    · refine gx_iconst (q := 35) hG d_M_whose_34 rfl ?_
      refine gw_V2I (q := 38) hG l_M_121 c_M_tells (ev_M_tells) hpM rfl (by decide) (Nat.le_of_ble_eq_true rfl) d_M_whose_35 rfl (by decide) (fun z35 w3 h35 => ?_)
      refine gx_ireturn hG d_M_whose_38 rfl rfl ?_
      refine ⟨_, rfl, _, rfl, ?_⟩
      unfold sp_whose
      first
        | (rw [if_pos (by omega)]; exact ⟨rfl, s1⟩)
        | (rw [if_neg (by omega)]; obtain ⟨rfl, rfl⟩ := h35
           refine PM_tr s1 ?_
           unfold wcS
           rw [← s1.1]
           first
             | (rw [if_pos (by rw [s1.1]; omega), show cn (winP (gapm (aM w1))) 27 = cn (winP (gapm (aM w))) 27 by rw [s1.1]]; exact PM_aside)
             | (rw [if_neg (by rw [s1.1]; omega), show cn (winP (gapm (aM w1))) 27 = cn (winP (gapm (aM w))) 27 by rw [s1.1]]; exact PM_aside))
    · refine gx_iconst (q := 31) hG d_M_whose_30 rfl ?_
      refine gx_goto (tgt := 35) hG d_M_whose_31 rfl ?_
      refine gw_V2I (q := 38) hG l_M_121 c_M_tells (ev_M_tells) hpM rfl (by decide) (Nat.le_of_ble_eq_true rfl) d_M_whose_35 rfl (by decide) (fun z35 w3 h35 => ?_)
      refine gx_ireturn hG d_M_whose_38 rfl rfl ?_
      refine ⟨_, rfl, _, rfl, ?_⟩
      unfold sp_whose
      first
        | (rw [if_pos (by omega)]; exact ⟨rfl, s1⟩)
        | (rw [if_neg (by omega)]; obtain ⟨rfl, rfl⟩ := h35
           refine PM_tr s1 ?_
           unfold wcS
           rw [← s1.1]
           first
             | (rw [if_pos (by rw [s1.1]; omega), show cn (winP (gapm (aM w1))) 27 = cn (winP (gapm (aM w))) 27 by rw [s1.1]]; exact PM_aside)
             | (rw [if_neg (by rw [s1.1]; omega), show cn (winP (gapm (aM w1))) 27 = cn (winP (gapm (aM w))) 27 by rw [s1.1]]; exact PM_aside))
  · refine gx_iload1 (q := 10) hG d_M_whose_9 rfl ?_
    refine gx_goto (tgt := 38) hG d_M_whose_10 rfl ?_
    refine gx_ireturn hG d_M_whose_38 rfl rfl ?_
    refine ⟨_, rfl, _, rfl, ?_⟩
    unfold sp_whose
    first
      | (rw [if_pos (by omega)]; exact ⟨rfl, s1⟩)
      | (rw [if_neg (by omega)]; obtain ⟨rfl, rfl⟩ := h35
         refine PM_tr s1 ?_
         unfold wcS
         rw [← s1.1]
         first
           | (rw [if_pos (by rw [s1.1]; omega), show cn (winP (gapm (aM w1))) 27 = cn (winP (gapm (aM w))) 27 by rw [s1.1]]; exact PM_aside)
           | (rw [if_neg (by rw [s1.1]; omega), show cn (winP (gapm (aM w1))) 27 = cn (winP (gapm (aM w))) 27 by rw [s1.1]]; exact PM_aside))
theorem bs_pow : ∀ (g n : Nat), bs (2 ^ g - 1) n = min g n
  | g, 0 => by rw [Nat.min_zero]; rfl
  | g, n + 1 => by
    rw [bs_s, bs_pow g n, Nat.testBit_two_pow_sub_one]
    by_cases c : n < g
    · rw [decide_eq_true c]
      show min g n + 1 = _
      omega
    · rw [decide_eq_false c]
      show min g n + 0 = _
      omega
theorem gpS_GG {s : Sta} (hc : canS s) : gpS s = (GG s : Int) := by
  have a := gapm_cn hc.2.1
  have b := GG_c (s := s)
  have c : cn (pS s) 60 = cn (pS s) 27 := a.2
  have d : ((bs (gapm s) 28 : Nat) : Int) = cn (pS s) 27 := a.1
  unfold gpS
  omega
theorem ev_M_lasts {w : Mem} (hO : OK (aM w)) : EvI y_M_lasts b_M_lasts 2 (some .int) (9) [Vr 76] w (PM w (sp_lasts (aM w))) := by
  refine Ev.mk (isI := false) (by decide +kernel) nofun (Nat.le_of_ble_eq_true rfl) (fun G hG => ?_)
  show G 0 [some (Vr 76), none] [] 102 (hp w)
  have hns := nsS_R (s := aM w)
  have hnn := ns_neg (s := aM w)
  refine gx_aload0 (q := 1) hG d_M_lasts_0 rfl ?_
  refine gw_V0I (q := 4) hG l_M_251 c_M_needSolved (ev_M_needSolved hO) hpM rfl (by omega) (Nat.le_of_ble_eq_true rfl) d_M_lasts_1 rfl (by decide) (fun z1 w1 h1 => ?_)
  obtain ⟨rfl, s1, s2⟩ := h1
  refine gx_istore1 (q := 5) hG d_M_lasts_4 rfl rfl ?_
  refine gx_iload1 (q := 6) hG d_M_lasts_5 rfl ?_
  refine gx_if_ge (tgt := 13) (q := 9) hG d_M_lasts_6 rfl rfl (by omega) (fun c6 => ?_) (fun c6 => ?_)
  · have h0 : nsS (aM w) = 0 := by omega
    have hw := s2 h0
    have h14 := can_GG hw.1
    have hpw : 0 < 2 ^ GG (aM w) := Nat.pos_of_ne_zero (by simp)
    have hpl : 2 ^ GG (aM w) ≤ 16384 := Nat.pow_le_pow_right (n := 2) (by decide) h14
    have hv := hw.2.2.2 (2 ^ GG (aM w) - 1) (by omega)
    rw [msk_all, bs_pow] at hv
    have hgp := gpS_GG hw.1
    refine gx_aload0 (q := 14) hG d_M_lasts_13 rfl ?_
    refine gx_aload0 (q := 15) hG d_M_lasts_14 rfl ?_
    refine gx_get (q := 18) hG f_M_76 hpM rfl d_M_lasts_15 rfl ?_
    refine gx_aload0 (q := 19) hG d_M_lasts_18 rfl ?_
    refine gw_V0X (q := 22) hG l_M_239 c_M_allGaps (ev_M_allGaps hw) hpM rfl (by omega) (Nat.le_of_ble_eq_true rfl) d_M_lasts_19 rfl (by decide) ?_
    refine gw_iald (q := 23) hG rfl (by omega) (by omega) d_M_lasts_22 rfl ?_
    refine gx_aload0 (q := 24) hG d_M_lasts_23 rfl ?_
    refine gx_get (q := 27) hG f_M_73 hpM rfl d_M_lasts_24 rfl ?_
    refine gx_aload0 (q := 28) hG d_M_lasts_27 rfl ?_
    refine gw_V0X (q := 31) hG l_M_239 c_M_allGaps (ev_M_allGaps hw) hpM rfl (by omega) (Nat.le_of_ble_eq_true rfl) d_M_lasts_28 rfl (by decide) ?_
    refine gw_iald (q := 32) hG rfl (by omega) (by omega) d_M_lasts_31 rfl ?_
    refine gw_V2I (q := 35) hG l_M_121 c_M_tells (ev_M_tells) hpM rfl (by decide) (Nat.le_of_ble_eq_true rfl) d_M_lasts_32 rfl (by decide) (fun z32 w3 h32 => ?_)
    refine gx_ireturn hG d_M_lasts_35 rfl rfl ?_
    refine ⟨_, rfl, _, rfl, ?_⟩
    unfold sp_lasts
    first
      | (rw [if_pos (by omega)]; exact ⟨rfl, s1⟩)
      | (rw [if_neg (by omega)]; obtain ⟨rfl, rfl⟩ := h32
         rw [hv.2.1, hv.2.2, hgp, show ((min (GG (aM w)) 28 : Nat) : Int) = (GG (aM w) : Int) by omega]
         have e := PM_tr (p := ((GG (aM w) : Int), ss (aM w1) 4 3 (vS (gapm (aM w)) / 2))) s1 PM_aside
         rw [s1.1] at e
         exact e)
  · refine gx_iload1 (q := 10) hG d_M_lasts_9 rfl ?_
    refine gx_goto (tgt := 35) hG d_M_lasts_10 rfl ?_
    refine gx_ireturn hG d_M_lasts_35 rfl rfl ?_
    refine ⟨_, rfl, _, rfl, ?_⟩
    unfold sp_lasts
    first
      | (rw [if_pos (by omega)]; exact ⟨rfl, s1⟩)
      | (rw [if_neg (by omega)]; obtain ⟨rfl, rfl⟩ := h32
         rw [hv.2.1, hv.2.2, hgp, show ((min (GG (aM w)) 28 : Nat) : Int) = (GG (aM w) : Int) by omega]
         have e := PM_tr (p := ((GG (aM w) : Int), ss (aM w1) 4 3 (vS (gapm (aM w)) / 2))) s1 PM_aside
         rw [s1.1] at e
         exact e)
theorem ev_M_fraction {w : Mem} {u l z : Int} (hu : 0 ≤ u ∧ u ≤ 60) (hl : 1 ≤ l ∧ l ≤ 60) : EvI y_M_fraction b_M_fraction 5 (some .int) (2) [Vr 76, Vi u, Vi l, Vi z] w (fun z' w' => z' = z ∧ w' = wu (wu w 76 3 (u.tdiv (frG u l))) 76 4 (l.tdiv (frG u l))) := by
  refine Ev.mk (isI := false) (by decide +kernel) nofun (Nat.le_of_ble_eq_true rfl) (fun G hG => ?_)
  show G 0 [some (Vr 76), some (Vi u), some (Vi l), some (Vi z), none] [] 102 (hp w)
  obtain ⟨un, rfl⟩ := Int.eq_ofNat_of_zero_le hu.1
  obtain ⟨ln, rfl⟩ := Int.eq_ofNat_of_zero_le (show 0 ≤ l by omega)
  have hgp : 0 < Nat.gcd un ln := Nat.gcd_pos_of_pos_right _ (by omega)
  have hgl : Nat.gcd un ln ≤ 60 := Nat.le_trans (Nat.gcd_le_right _ (by omega)) (by omega)
  have eg : frG un ln = (Nat.gcd un ln : Nat) := by
    unfold frG
    split
    · rename_i c
      rw [show ln = 1 by omega, Nat.gcd_one_right]
      rfl
    · rfl
  have q1 := Int.ediv_nonneg (show (0 : Int) ≤ un by omega) (show (0 : Int) ≤ (Nat.gcd un ln : Nat) by omega)
  have q2 := Int.ediv_nonneg (show (0 : Int) ≤ ln by omega) (show (0 : Int) ≤ (Nat.gcd un ln : Nat) by omega)
  have q3 := Int.ediv_le_self (a := (un : Int)) ((Nat.gcd un ln : Nat) : Int) (by omega)
  have q4 := Int.ediv_le_self (a := (ln : Int)) ((Nat.gcd un ln : Nat) : Int) (by omega)
  refine gx_iload1 (q := 1) hG d_M_fraction_0 rfl ?_
  refine gx_iload2 (q := 2) hG d_M_fraction_1 rfl ?_
  refine gw_S2X (q := 5) hG l_M_106 c_M_divisor (ev_M_divisor (x := un) (y := ln) (by omega) (by omega)) (by decide) (Nat.le_of_ble_eq_true rfl) d_M_fraction_2 rfl (by decide) ?_
  refine gx_istore4 (q := 7) hG d_M_fraction_5 rfl rfl ?_
  refine gx_aload0 (q := 8) hG d_M_fraction_7 rfl ?_
  refine gx_iload1 (q := 9) hG d_M_fraction_8 rfl ?_
  refine gx_iload4 (q := 11) hG d_M_fraction_9 rfl ?_
  refine gx_idiv (q := 12) hG d_M_fraction_11 rfl (by omega) (by omega) (by omega) (by omega) ?_
  refine gx_i2l (q := 13) hG d_M_fraction_12 rfl (by omega) ?_
  refine gw_putj (q := 16) hG f_M_103 hpM (Nat.le_of_ble_eq_true rfl) vfit_l (Or.inl rfl) d_M_fraction_13 rfl 3 rfl rfl ?_
  refine gx_aload0 (q := 17) hG d_M_fraction_16 rfl ?_
  refine gx_iload2 (q := 18) hG d_M_fraction_17 rfl ?_
  refine gx_iload4 (q := 20) hG d_M_fraction_18 rfl ?_
  refine gx_idiv (q := 21) hG d_M_fraction_20 rfl (by omega) (by omega) (by omega) (by omega) ?_
  refine gx_i2l (q := 22) hG d_M_fraction_21 rfl (by omega) ?_
  refine gw_putj (q := 25) hG f_M_88 hpM (Nat.le_of_ble_eq_true rfl) vfit_l (Or.inl rfl) d_M_fraction_22 rfl 4 rfl rfl ?_
  refine gx_iload3 (q := 26) hG d_M_fraction_25 rfl ?_
  refine gx_ireturn hG d_M_fraction_26 rfl rfl ?_
  exact ⟨_, rfl, _, rfl, rfl, by rw [eg, Int.tdiv_eq_ediv_of_nonneg (by omega), Int.tdiv_eq_ediv_of_nonneg (by omega)]⟩
theorem ev_M_share {w : Mem} (hO : OK (aM w)) : EvI y_M_share b_M_share 3 (some .int) (9) [Vr 76] w (PM w (sp_share (aM w))) := by
  refine Ev.mk (isI := false) (by decide +kernel) nofun (Nat.le_of_ble_eq_true rfl) (fun G hG => ?_)
  show G 0 [some (Vr 76), none, none] [] 102 (hp w)
  have hns := nsS_R (s := aM w)
  have hnn := ns_neg (s := aM w)
  have hwb := cn_bd (P := winP (gapm (aM w))) 27
  refine gx_aload0 (q := 1) hG d_M_share_0 rfl ?_
  refine gw_V0I (q := 4) hG l_M_251 c_M_needSolved (ev_M_needSolved hO) hpM rfl (by omega) (Nat.le_of_ble_eq_true rfl) d_M_share_1 rfl (by decide) (fun z1 w1 h1 => ?_)
  obtain ⟨rfl, s1, s2⟩ := h1
  refine gx_istore1 (q := 5) hG d_M_share_4 rfl rfl ?_
  refine gx_iload1 (q := 6) hG d_M_share_5 rfl ?_
  refine gx_if_ge (tgt := 11) (q := 9) hG d_M_share_6 rfl rfl (by omega) (fun c6 => ?_) (fun c6 => ?_)
  · have h0 : nsS (aM w) = 0 := by omega
    have hw := s2 h0
    have h14 := can_GG hw.1
    have hgp := gpS_GG hw.1
    have q3 := ns_0.mp h0
    have g1 := canS_1 q3.2.2 q3.2.1
    have hg1 : gpS (aM w) = (bs (gapm (aM w)) 28 : Nat) := rfl
    refine gx_aload0 (q := 12) hG d_M_share_11 rfl ?_
    refine gw_V0X (q := 15) hG l_M_254 c_M_winMany (ev_M_winMany hw) hpM rfl (by omega) (Nat.le_of_ble_eq_true rfl) d_M_share_12 rfl (by decide) ?_
    refine gx_istore2 (q := 16) hG d_M_share_15 rfl rfl ?_
    refine gx_aload0 (q := 17) hG d_M_share_16 rfl ?_
    refine gx_iload2 (q := 18) hG d_M_share_17 rfl ?_
    refine gx_aload0 (q := 19) hG d_M_share_18 rfl ?_
    refine gx_get (q := 22) hG f_M_210 hpM rfl d_M_share_19 rfl ?_
    rw [hw.2.1, ← hgp]
    refine gx_iload2 (q := 23) hG d_M_share_22 rfl ?_
    refine gw_V3I (q := 26) hG l_M_257 c_M_fraction (ev_M_fraction (by omega) (by omega)) hpM rfl (by omega) (Nat.le_of_ble_eq_true rfl) d_M_share_23 rfl (by decide) (fun z23 w3 h23 => ?_)
    refine gx_ireturn hG d_M_share_26 rfl rfl ?_
    refine ⟨_, rfl, _, rfl, ?_⟩
    unfold sp_share
    rw [if_neg (by omega)]; obtain ⟨rfl, rfl⟩ := h23
    unfold wcS
    have e := PM_tr (p := (cn (winP (gapm (aM w))) 27, ss (ss (aM w1) 4 4 ((cn (winP (gapm (aM w))) 27).tdiv (frG (cn (winP (gapm (aM w))) 27) (gpS (aM w))))) 4 5 ((gpS (aM w)).tdiv (frG (cn (winP (gapm (aM w))) 27) (gpS (aM w)))))) s1 (PM_mk (by rw [aM_u4, aM_u3]) (fun b hb => by rw [wu_ne (by omega), wu_ne (by omega)]))
    rw [s1.1] at e
    exact e
  · refine gx_iload1 (q := 10) hG d_M_share_9 rfl ?_
    refine gx_ireturn hG d_M_share_10 rfl rfl ?_
    refine ⟨_, rfl, _, rfl, ?_⟩
    unfold sp_share
    rw [if_pos (by omega)]; exact ⟨rfl, s1⟩
theorem fl_skip {P : Int → Prop} {k : Nat} : ∀ d : Nat, (∀ u : Int, k < u → u ≤ (k + d : Nat) → ¬ P u) → flF P (k + d) = flF P k ∧ cn P (k + d) = cn P k
  | 0, _ => ⟨rfl, rfl⟩
  | d + 1, h => by
    obtain ⟨a, b⟩ := fl_skip (P := P) (k := k) d (fun u u0 u1 => h u u0 (by omega))
    have hb0 := bi_f (h ((k + d + 1 : Nat) : Int) (by omega) (by omega))
    have e1 : cn P (k + (d + 1)) = cn P (k + d) + bi (P ((k + d + 1 : Nat) : Int)) := rfl
    have e2 : flF P (k + (d + 1)) = if bi (P ((k + d + 1 : Nat) : Int)) = 1 ∧ cn P (k + d) < 60 then up (flF P (k + d)) (cn P (k + d)) ((k + d + 1 : Nat) : Int) else flF P (k + d) := rfl
    rw [e1, e2, hb0, if_neg (by omega), a, b]
    exact ⟨rfl, by omega⟩
noncomputable def pvN (s : Sta) (T : Int → Int) (k : Nat) : Nat := if k < GG s then (T k).toNat - 1 else 27
theorem pv_skip {s : Sta} {T T95 : Int → Int} (hc : canS s) (hg : GO s T T95 60) {k v : Nat} (v1 : 1 ≤ v) (v2 : v ≤ 27) (v3 : pS s v) (v4 : ix s v = k) : flF (winP (gapm s)) (pvN s T (k + 1)) = flF (winP (gapm s)) v ∧ cn (winP (gapm s)) (pvN s T (k + 1)) = cn (winP (gapm s)) v := by
  have hle : v ≤ pvN s T (k + 1) ∧ ∀ u : Nat, v < u → u ≤ pvN s T (k + 1) → ¬ pS s u := by
    unfold pvN
    by_cases c : k + 1 < GG s
    · rw [if_pos c]
      obtain ⟨u, u1, u2, u3, u4, u5⟩ := go_ex hc hg c
      rw [u5]
      show v ≤ (u : Int).toNat - 1 ∧ ∀ x : Nat, v < x → x ≤ (u : Int).toNat - 1 → ¬ pS s x
      have : v < u := by
        rcases Nat.lt_trichotomy v u with z | z | z
        · exact z
        · rw [z] at v4; omega
        · have := ix_mono u1 z u3; omega
      refine ⟨by omega, fun x x1 x2 q => ?_⟩
      have a := ix_mono v1 x1 v3
      have b := ix_mono (show 1 ≤ x by omega) (show x < u by omega) q
      omega
    · rw [if_neg c]
      refine ⟨v2, fun x x1 x2 q => ?_⟩
      have a := ix_mono v1 x1 v3
      have b := ix_lt (show 1 ≤ x by omega) (by omega) q
      omega
  obtain ⟨d, hd⟩ : ∃ d, pvN s T (k + 1) = v + d := ⟨pvN s T (k + 1) - v, by omega⟩
  rw [hd] at hle ⊢
  refine fl_skip d (fun u u0 u1 q => ?_)
  obtain ⟨x, rfl⟩ := Int.eq_ofNat_of_zero_le (show 0 ≤ u by omega)
  exact hle.2 x (by omega) (by omega) (winP_pS q)
theorem ev_M_best {w : Mem} {r : Int} (hO : OK (aM w)) (hr : R3 r) : EvI y_M_best b_M_best 5 (some .int) (9) [Vr 76, Vi r] w (PM w (sp_best (aM w) r)) := by
  refine Ev.mk (isI := false) (by decide +kernel) nofun (Nat.le_of_ble_eq_true rfl) (fun G hG => ?_)
  show G 0 [some (Vr 76), some (Vi r), none, none, none] [] 102 (hp w)
  have hns := nsS_R (s := aM w)
  have hnn := ns_neg (s := aM w)
  have L : ∀ (j k : Nat) (w1 W : Mem), k + j = GG (aM w) → (0 ≤ r ∧ r < 6) → nsS (aM w) = 0 → SM w w1 → SW (aM w) w1 → (∀ b, b ≠ 79 → W b = w1 b) → (∀ j, ¬ (60 * r ≤ j ∧ j < 60 * r + 60) → W 79 j = w1 79 j) → (∀ i, 0 ≤ i → i < 60 → W 79 (60 * r + i) = flF (winP (gapm (aM w))) (pvN (aM w) (w1 94) k) i) → G 54 [some (Vr 76), some (Vi r), some (Vi 0), some (Vi (cn (winP (gapm (aM w))) (pvN (aM w) (w1 94) k))), some (Vi (k : Int))] [] 102 (hp W) := by
    intro j
    induction j with
    | zero =>
      intro k w1 W h1 hrr hn0 hs hw g1 g2 g3
      have hk : k = GG (aM w) := by omega
      have h14 := can_GG hw.1
      have e28 : W 76 28 = (GG (aM w) : Int) := by rw [g1 76 (by omega), hw.2.1]
      have ep : pvN (aM w) (w1 94) k = 27 := by unfold pvN; rw [if_neg (by omega)]
      rw [ep] at g3 ⊢
      have hcn := cn_bd (P := winP (gapm (aM w))) 27
      refine gx_iload4 (q := 56) hG d_M_best_54 rfl ?_
      refine gx_aload0 (q := 57) hG d_M_best_56 rfl ?_
      refine gx_get (q := 60) hG f_M_210 hpM rfl d_M_best_57 rfl ?_
      rw [e28]
      refine gx_icmp_ge (tgt := 99) (q := 63) hG d_M_best_60 rfl rfl (by omega) (by omega) (fun c60 => ?_) (fun c60 => ?_)
      · refine gx_aload0 (q := 100) hG d_M_best_99 rfl ?_
        refine gx_get (q := 103) hG f_M_13 hpM rfl d_M_best_100 rfl ?_
        refine gx_iload1 (q := 104) hG d_M_best_103 rfl ?_
        refine gx_iload3 (q := 105) hG d_M_best_104 rfl ?_
        refine gw_iast (q := 106) hG rfl (by omega) (by omega) d_M_best_105 rfl ?_
        refine gx_iload3 (q := 107) hG d_M_best_106 rfl ?_
        refine gx_ireturn hG d_M_best_107 rfl rfl ?_
        refine ⟨_, rfl, _, rfl, ?_⟩
        unfold sp_best; rw [if_neg (by omega), if_neg (fun q => q hn0)]
        refine ⟨rfl, ?_, fun b hb => by rw [wu_ne (by omega), g1 b (by omega), hs.2 b hb]⟩
        exact (aM_fl (N := 27) (k := 27) hrr hs (Nat.le_refl _) (Or.inr (fun u u0 u1 => by omega)) (fun b b1 b2 => by rw [wu_ne b1, g1 b b2]) (fun j hj => by rw [wu_pl hj, g1 78 (by omega)]) (by rw [wu_eq]; omega) (fun j hj => by rw [wu_ne (by omega)]; exact g2 j hj) (fun i i0 i1 => by rw [wu_ne (by omega)]; exact g3 i i0 i1)).1
      · exfalso; omega
    | succ j ih =>
      intro k w1 W h1 hrr hn0 hs hw g1 g2 g3
      have h14 := can_GG hw.1
      have hkG : k < GG (aM w) := by omega
      obtain ⟨v, v1, v2, v3, v4, v5⟩ := go_ex hw.1 hw.2.2.1 hkG
      have e28 : W 76 28 = (GG (aM w) : Int) := by rw [g1 76 (by omega), hw.2.1]
      have hwW : SW (aM w) W := ⟨hw.1, e28, by rw [g1 94 (by omega), g1 95 (by omega)]; exact hw.2.2.1, fun S hS => by rw [g1 96 (by omega), g1 97 (by omega), g1 98 (by omega)]; exact hw.2.2.2 S hS⟩
      have e94 : W 94 k = v := by rw [g1 94 (by omega), v5]
      have ep : pvN (aM w) (w1 94) k = v - 1 := by unfold pvN; rw [if_pos hkG, v5]; rfl
      obtain ⟨u, rfl⟩ : ∃ u, v = u + 1 := ⟨v - 1, by omega⟩
      rw [show u + 1 - 1 = u by omega] at ep
      have es := pv_skip (k := k) hw.1 hw.2.2.1 v1 v2 v3 v4
      have cs : cn (winP (gapm (aM w))) (u + 1) = cn (winP (gapm (aM w))) u + bi (winP (gapm (aM w)) ((u + 1 : Nat) : Int)) := rfl
      have fs : flF (winP (gapm (aM w))) (u + 1) = if bi (winP (gapm (aM w)) ((u + 1 : Nat) : Int)) = 1 ∧ cn (winP (gapm (aM w))) u < 60 then up (flF (winP (gapm (aM w))) u) (cn (winP (gapm (aM w))) u) ((u + 1 : Nat) : Int) else flF (winP (gapm (aM w))) u := rfl
      have hcn := cn_bd (P := winP (gapm (aM w))) u
      have ih' := ih (k + 1) w1
      rw [es.1, es.2] at ih'
      rw [ep] at g3 ⊢
      refine gx_iload4 (q := 56) hG d_M_best_54 rfl ?_
      refine gx_aload0 (q := 57) hG d_M_best_56 rfl ?_
      refine gx_get (q := 60) hG f_M_210 hpM rfl d_M_best_57 rfl ?_
      rw [e28]
      refine gx_icmp_ge (tgt := 99) (q := 63) hG d_M_best_60 rfl rfl (by omega) (by omega) (fun c60 => ?_) (fun c60 => ?_)
      · exfalso; omega
      · refine gx_aload0 (q := 64) hG d_M_best_63 rfl ?_
        refine gx_iload4 (q := 66) hG d_M_best_64 rfl ?_
        refine gw_V1X (q := 69) hG l_M_242 c_M_isWinning (ev_M_isWinning hwW hkG) hpM rfl (by omega) (Nat.le_of_ble_eq_true rfl) d_M_best_66 rfl (by decide) ?_
        rw [e94]
        refine gx_if_eq (tgt := 93) (q := 72) hG d_M_best_69 rfl rfl (bi_R _) (fun c69 => ?_) (fun c69 => ?_)
        · have c69 := bi_eq0.mp c69
          rw [bi_f c69, Int.add_zero] at cs
          rw [bi_f c69, if_neg (by omega)] at fs
          rw [cs, fs] at ih'
          refine gx_iinc4 (q := 96) hG d_M_best_93 rfl rfl ?_
          refine gx_goto (tgt := 54) hG d_M_best_96 rfl ?_
          first
            | exact ih' W (by omega) hrr hn0 hs hw g1 g2 g3
            | exact ih' _ (by omega) hrr hn0 hs hw (fun b hb => by rw [wu_ne hb, g1 b hb]) (fun j hj => by rw [wu_pl (by omega)]; exact g2 j hj) (fun i i0 i1 => by
                rw [wu_at]
                unfold up
                by_cases c : i = cn (winP (gapm (aM w))) u
                · rw [if_pos (by omega), if_pos c]
                · rw [if_neg (by omega), if_neg c]; exact g3 i i0 i1)
        · have c69 := bi_ne0.mp c69
          rw [bi_t c69] at cs
          rw [bi_t c69, if_pos ⟨rfl, by omega⟩] at fs
          rw [cs, fs] at ih'
          refine gx_aload0 (q := 73) hG d_M_best_72 rfl ?_
          refine gx_get (q := 76) hG f_M_16 hpM rfl d_M_best_73 rfl ?_
          refine gx_bipush (q := 78) hG d_M_best_76 rfl rfl ?_
          refine gx_iload1 (q := 79) hG d_M_best_78 rfl ?_
          refine gx_imul (q := 80) hG d_M_best_79 rfl ?_
          refine gx_iload3 (q := 81) hG d_M_best_80 rfl ?_
          refine gx_iadd (q := 82) hG d_M_best_81 rfl ?_
          refine gx_aload0 (q := 83) hG d_M_best_82 rfl ?_
          refine gx_get (q := 86) hG f_M_63 hpM rfl d_M_best_83 rfl ?_
          refine gx_iload4 (q := 88) hG d_M_best_86 rfl ?_
          refine gw_iald (q := 89) hG rfl (by omega) (by omega) d_M_best_88 rfl ?_
          rw [e94]
          refine gw_iast (q := 90) hG rfl (by omega) (by omega) d_M_best_89 rfl ?_
          refine gx_iinc3 (q := 93) hG d_M_best_90 rfl rfl ?_
          refine gx_iinc4 (q := 96) hG d_M_best_93 rfl rfl ?_
          refine gx_goto (tgt := 54) hG d_M_best_96 rfl ?_
          first
            | exact ih' W (by omega) hrr hn0 hs hw g1 g2 g3
            | exact ih' _ (by omega) hrr hn0 hs hw (fun b hb => by rw [wu_ne hb, g1 b hb]) (fun j hj => by rw [wu_pl (by omega)]; exact g2 j hj) (fun i i0 i1 => by
                rw [wu_at]
                unfold up
                by_cases c : i = cn (winP (gapm (aM w))) u
                · rw [if_pos (by omega), if_pos c]
                · rw [if_neg (by omega), if_neg c]; exact g3 i i0 i1)
  have Z : ∀ (j k : Nat) (w1 : Mem), k + j = 60 → (0 ≤ r ∧ r < 6) → nsS (aM w) = 0 → SM w w1 → SW (aM w) w1 → G 25 [some (Vr 76), some (Vi r), some (Vi 0), some (Vi 0), some (Vi (k : Int))] [] 102 (hp (wc w1 79 (fillR (60 * r) k (w1 79) 0))) := by
    intro j
    induction j with
    | zero =>
      intro k w1 h1 hrr hn0 hs hw
      have q3 := ns_0.mp hn0
      have g1 := canS_1 q3.2.2 q3.2.1
      have hgp := gpS_GG hw.1
      have hg1 : gpS (aM w) = (bs (gapm (aM w)) 28 : Nat) := rfl
      have ep : pvN (aM w) (w1 94) 0 = 0 := by
        unfold pvN
        rw [if_pos (by omega), show ((0 : Nat) : Int) = 0 from rfl, T_0 hw.1 hw.2.2.1 (by omega)]
        rfl
      have L' := L (GG (aM w)) 0 w1 (wc w1 79 (fillR (60 * r) k (w1 79) 0)) (by omega) hrr hn0 hs hw (fun b hb => by rw [wc_ne hb]) (fun j hj => by rw [wc_eq]; unfold fillR; rw [if_neg (by omega)]) (fun i i0 i1 => by rw [wc_eq, ep]; unfold fillR; rw [if_pos (by omega)]; rfl)
      rw [ep] at L'
      refine gx_iload4 (q := 27) hG d_M_best_25 rfl ?_
      refine gx_bipush (q := 29) hG d_M_best_27 rfl rfl ?_
      refine gx_icmp_ge (tgt := 51) (q := 32) hG d_M_best_29 rfl rfl (by omega) (by omega) (fun c29 => ?_) (fun c29 => ?_)
      · refine gx_iconst (q := 52) hG d_M_best_51 rfl ?_
        refine gx_istore4 (q := 54) hG d_M_best_52 rfl rfl ?_
        exact L'
      · exfalso; omega
    | succ j ih =>
      intro k w1 h1 hrr hn0 hs hw
      refine gx_iload4 (q := 27) hG d_M_best_25 rfl ?_
      refine gx_bipush (q := 29) hG d_M_best_27 rfl rfl ?_
      refine gx_icmp_ge (tgt := 51) (q := 32) hG d_M_best_29 rfl rfl (by omega) (by omega) (fun c29 => ?_) (fun c29 => ?_)
      · exfalso; omega
      · refine gx_aload0 (q := 33) hG d_M_best_32 rfl ?_
        refine gx_get (q := 36) hG f_M_16 hpM rfl d_M_best_33 rfl ?_
        refine gx_bipush (q := 38) hG d_M_best_36 rfl rfl ?_
        refine gx_iload1 (q := 39) hG d_M_best_38 rfl ?_
        refine gx_imul (q := 40) hG d_M_best_39 rfl ?_
        refine gx_iload4 (q := 42) hG d_M_best_40 rfl ?_
        refine gx_iadd (q := 43) hG d_M_best_42 rfl ?_
        refine gx_iconst (q := 44) hG d_M_best_43 rfl ?_
        refine gw_iast (q := 45) hG rfl (by omega) (by omega) d_M_best_44 rfl ?_
        rw [fillR_s]
        refine gx_iinc4 (q := 48) hG d_M_best_45 rfl rfl ?_
        refine gx_goto (tgt := 25) hG d_M_best_48 rfl ?_
        exact ih (k + 1) w1 (by omega) hrr hn0 hs hw
  refine gx_iload1 (q := 1) hG d_M_best_0 rfl ?_
  refine gw_S1X (q := 4) hG l_M_110 c_M_isRow (ev_M_isRow (by omega)) (by decide) (Nat.le_of_ble_eq_true rfl) d_M_best_1 rfl (by decide) ?_
  refine gx_if_ne (tgt := 9) (q := 7) hG d_M_best_4 rfl rfl (bi_R _) (fun c4 => ?_) (fun c4 => ?_)
  · have c4 := bi_ne0.mp c4
    refine gx_aload0 (q := 10) hG d_M_best_9 rfl ?_
    refine gw_V0I (q := 13) hG l_M_251 c_M_needSolved (ev_M_needSolved hO) hpM rfl (by omega) (Nat.le_of_ble_eq_true rfl) d_M_best_10 rfl (by decide) (fun z10 w1 h10 => ?_)
    obtain ⟨rfl, s1, s2⟩ := h10
    refine gx_istore2 (q := 14) hG d_M_best_13 rfl rfl ?_
    refine gx_iload2 (q := 15) hG d_M_best_14 rfl ?_
    refine gx_if_ge (tgt := 20) (q := 18) hG d_M_best_15 rfl rfl (by omega) (fun c15 => ?_) (fun c15 => ?_)
    · refine gx_iconst (q := 21) hG d_M_best_20 rfl ?_
      refine gx_istore3 (q := 22) hG d_M_best_21 rfl rfl ?_
      refine gx_iconst (q := 23) hG d_M_best_22 rfl ?_
      refine gx_istore4 (q := 25) hG d_M_best_23 rfl rfl ?_
      have h0 : nsS (aM w) = 0 := by omega
      have e := Z 60 0 w1 (by omega) (by omega) h0 s1 (s2 h0)
      rw [show ((0 : Nat) : Int) = 0 from rfl, fillR_0] at e
      rw [h0]
      exact e
    · refine gx_iload2 (q := 19) hG d_M_best_18 rfl ?_
      refine gx_ireturn hG d_M_best_19 rfl rfl ?_
      refine ⟨_, rfl, _, rfl, ?_⟩
      unfold sp_best; rw [if_neg (by omega), if_pos (by omega)]; exact ⟨rfl, s1⟩
  · have c4 := bi_eq0.mp c4
    refine gx_iconst (q := 8) hG d_M_best_7 rfl ?_
    refine gx_ireturn hG d_M_best_8 rfl rfl ?_
    refine ⟨_, rfl, _, rfl, ?_⟩
    unfold sp_best; rw [if_pos (by omega)]; exact PM_id

