/-! part 81: says, mark, play of the reference -/
theorem bs_y {s : Sta} {z : Int} (hc : canS s) (h1 : winP (gapm s) z) (h2 : ∀ u : Int, 2 ≤ u → u < z → ¬ winP (gapm s) u) : bsS s = z := by
  have a := h1.1
  have b := h1.2.1
  have e := lwN_eq (P := winP (gapm s)) (z := z) (by omega) h1 (fun u u1 u2 q => h2 u q.1 u2 q) 27 (by omega)
  have hb := cn_bd (P := winP (gapm s)) 27
  have hpos : 0 < cn (winP (gapm s)) 27 := by
    rcases Int.lt_or_le 0 (cn (winP (gapm s)) 27) with c | c
    · exact c
    · exact absurd h1 ((cn_zero 27).mp (by omega) z (by omega) (by omega))
  exact (if_pos (bi_t ⟨hc, hpos⟩)).trans e
theorem bs_n {s : Sta} (h : canS s → ∀ u : Int, 2 ≤ u → u ≤ 27 → ¬ winP (gapm s) u) : bsS s = leS s := by
  refine if_neg (fun q => ?_)
  obtain ⟨hc, q2⟩ := bi_eq1.mp q
  have : cn (winP (gapm s)) 27 = 0 := (cn_zero 27).mpr (fun v v0 v1 r => h hc v r.1 (by omega) r)
  omega
theorem win_gap {s : Sta} {u : Int} (h : winP (gapm s) u) : ∃ v : Nat, u = (v : Int) ∧ 2 ≤ v ∧ v ≤ 27 ∧ pS s v := by
  have h0 := h.1
  have h9 := h.2.1
  obtain ⟨v, rfl⟩ := Int.eq_ofNat_of_zero_le (show 0 ≤ u by omega)
  have hb : (gapm s).testBit v = true := h.2.2.1
  exact ⟨v, rfl, by omega, by omega, ((mkN_bit 28 v).mp hb).2⟩
theorem ev_M_bestOf {w : Mem} (hO : OK (aM w)) : EvI y_M_bestOf b_M_bestOf 2 (some .int) (6) [Vr 76] w (fun z w' => z = bsS (aM w) ∧ SD w w') := by
  refine Ev.mk (isI := false) (by decide +kernel) nofun (Nat.le_of_ble_eq_true rfl) (fun G hG => ?_)
  show G 0 [some (Vr 76), none] [] 102 (hp w)
  have L : ∀ (j k : Nat) (w2 : Mem), k + j = GG (aM w) + 1 → 1 ≤ k → canS (aM w) → SW (aM w) w2 → SD w w2 → (∀ i : Nat, i < k → i < GG (aM w) → ¬ winP (gapm (aM w)) (w2 94 i)) → G 13 [some (Vr 76), some (Vi (k : Int))] [] 102 (hp w2) := by
    intro j
    induction j with
    | zero =>
      intro k w2 h1 h2 hc hw hs hh
      have h14 := can_GG hc
      have en : bsS (aM w) = leS (aM w) := bs_n (fun _ u u1 u2 q => by
        obtain ⟨v, rfl, v1, v2, v3⟩ := win_gap q
        have a := ix_lt (s := aM w) (show 1 ≤ v by omega) (by omega) v3
        have b := ((hw.2.2.1 v (by omega) (by omega)).1 v3).2
        exact hh (ix (aM w) v) (by omega) a (by rw [b]; exact q))
      refine gx_iload1 (q := 14) hG d_M_bestOf_13 rfl ?_
      refine gx_aload0 (q := 15) hG d_M_bestOf_14 rfl ?_
      refine gx_get (q := 18) hG f_M_210 hpM rfl d_M_bestOf_15 rfl ?_
      rw [hw.2.1]
      refine gx_icmp_ge (tgt := 42) (q := 21) hG d_M_bestOf_18 rfl rfl (by omega) (by omega) (fun c18 => ?_) (fun c18 => ?_)
      · refine gx_aload0 (q := 43) hG d_M_bestOf_42 rfl ?_
        refine gw_V0I (q := 46) hG l_M_264 c_M_leastAbove (ev_M_leastAbove (hs.ok hO)) hpM rfl (by decide) (Nat.le_of_ble_eq_true rfl) d_M_bestOf_43 rfl (by decide) (fun z43 w3 h43 => ?_)
        obtain ⟨rfl, s3⟩ := h43
        refine gx_ireturn hG d_M_bestOf_46 rfl rfl ?_
        exact ⟨_, rfl, _, rfl, by rw [en, hs.1.1], hs.tr s3⟩
      · exfalso; omega
    | succ j ih =>
      intro k w2 h1 h2 hc hw hs hh
      have h14 := can_GG hc
      have en : k = GG (aM w) → bsS (aM w) = leS (aM w) := fun hk => bs_n (fun _ u u1 u2 q => by
        obtain ⟨v, rfl, v1, v2, v3⟩ := win_gap q
        have a := ix_lt (s := aM w) (show 1 ≤ v by omega) (by omega) v3
        have b := ((hw.2.2.1 v (by omega) (by omega)).1 v3).2
        exact hh (ix (aM w) v) (by omega) a (by rw [b]; exact q))
      refine gx_iload1 (q := 14) hG d_M_bestOf_13 rfl ?_
      refine gx_aload0 (q := 15) hG d_M_bestOf_14 rfl ?_
      refine gx_get (q := 18) hG f_M_210 hpM rfl d_M_bestOf_15 rfl ?_
      rw [hw.2.1]
      refine gx_icmp_ge (tgt := 42) (q := 21) hG d_M_bestOf_18 rfl rfl (by omega) (by omega) (fun c18 => ?_) (fun c18 => ?_)
      · have en' := en (by omega)
        refine gx_aload0 (q := 43) hG d_M_bestOf_42 rfl ?_
        refine gw_V0I (q := 46) hG l_M_264 c_M_leastAbove (ev_M_leastAbove (hs.ok hO)) hpM rfl (by decide) (Nat.le_of_ble_eq_true rfl) d_M_bestOf_43 rfl (by decide) (fun z43 w3 h43 => ?_)
        obtain ⟨rfl, s3⟩ := h43
        refine gx_ireturn hG d_M_bestOf_46 rfl rfl ?_
        exact ⟨_, rfl, _, rfl, by rw [en', hs.1.1], hs.tr s3⟩
      · obtain ⟨v, v1, v2, v3, v4, v5⟩ := go_ex hc hw.2.2.1 (k := k) (by omega)
        refine gx_aload0 (q := 22) hG d_M_bestOf_21 rfl ?_
        refine gx_iload1 (q := 23) hG d_M_bestOf_22 rfl ?_
        refine gw_V1X (q := 26) hG l_M_242 c_M_isWinning (ev_M_isWinning hw (by omega)) hpM rfl (by decide) (Nat.le_of_ble_eq_true rfl) d_M_bestOf_23 rfl (by decide) ?_
        refine gx_if_eq (tgt := 36) (q := 29) hG d_M_bestOf_26 rfl rfl (bi_R _) (fun c26 => ?_) (fun c26 => ?_)
        · have c26 := bi_eq0.mp c26
          refine gx_iinc1 (q := 39) hG d_M_bestOf_36 rfl rfl ?_
          refine gx_goto (tgt := 13) hG d_M_bestOf_39 rfl ?_
          refine ih (k + 1) w2 (by omega) (by omega) hc hw hs (fun i i0 i1 => ?_)
          by_cases e : i = k
          · rw [e]; exact c26
          · exact hh i (by omega) i1
        · have c26 := bi_ne0.mp c26
          refine gx_aload0 (q := 30) hG d_M_bestOf_29 rfl ?_
          refine gx_get (q := 33) hG f_M_63 hpM rfl d_M_bestOf_30 rfl ?_
          refine gx_iload1 (q := 34) hG d_M_bestOf_33 rfl ?_
          refine gw_iald (q := 35) hG rfl (by omega) (by omega) d_M_bestOf_34 rfl ?_
          refine gx_ireturn hG d_M_bestOf_35 rfl rfl ?_
          refine ⟨_, rfl, _, rfl, (bs_y hc c26 (fun u u1 u2 q => ?_)).symm, hs⟩
          obtain ⟨x, rfl, x1, x2, x3⟩ := win_gap q
          have a := ix_lt (s := aM w) (show 1 ≤ x by omega) (by omega) x3
          have b := ((hw.2.2.1 x (by omega) (by omega)).1 x3).2
          have c := ix_mono (s := aM w) (show 1 ≤ x by omega) (show x < v by omega) x3
          exact hh (ix (aM w) x) (by omega) a (by rw [b]; exact q)
  refine gx_aload0 (q := 1) hG d_M_bestOf_0 rfl ?_
  refine gw_V0I (q := 4) hG l_M_245 c_M_isSolved (ev_M_isSolved2 hO) hpM rfl (by decide) (Nat.le_of_ble_eq_true rfl) d_M_bestOf_1 rfl (by decide) (fun z1 w1 h1 => ?_)
  obtain ⟨rfl, s1, s2⟩ := h1
  refine gx_if_eq (tgt := 42) (q := 7) hG d_M_bestOf_4 rfl rfl (bi_R _) (fun c4 => ?_) (fun c4 => ?_)
  · have en := bs_n (s := aM w) (fun q => absurd q (bi_eq0.mp c4))
    refine gx_aload0 (q := 43) hG d_M_bestOf_42 rfl ?_
    refine gw_V0I (q := 46) hG l_M_264 c_M_leastAbove (ev_M_leastAbove (s1.ok hO)) hpM rfl (by decide) (Nat.le_of_ble_eq_true rfl) d_M_bestOf_43 rfl (by decide) (fun z43 w3 h43 => ?_)
    obtain ⟨rfl, s3⟩ := h43
    refine gx_ireturn hG d_M_bestOf_46 rfl rfl ?_
    exact ⟨_, rfl, _, rfl, by rw [en, s1.1.1], s1.tr s3⟩
  · have c4 := bi_ne0.mp c4
    obtain ⟨q1, q2⟩ := s2 c4
    refine gx_aload0 (q := 8) hG d_M_bestOf_7 rfl ?_
    refine gw_V0V (q := 11) hG l_M_248 c_M_layWins (ev_M_layWins c4 q1 q2) hpM rfl (by decide) (Nat.le_of_ble_eq_true rfl) d_M_bestOf_8 rfl (by decide) (fun w2 h8 => ?_)
    obtain ⟨w8, s8⟩ := SW_of (w := w) c4 q1 h8
    have sd : SD w w2 := ⟨s1.1.tr s8, by rw [h8.2.2 76 (by omega), s1.2]⟩
    refine gx_iconst (q := 12) hG d_M_bestOf_11 rfl ?_
    refine gx_istore1 (q := 13) hG d_M_bestOf_12 rfl rfl ?_
    refine L (GG (aM w)) 1 w2 (by omega) (by omega) c4 w8 sd (fun i i0 i1 q => ?_)
    have t0 := T_0 c4 w8.2.2.1 (by omega)
    have hi : i = 0 := by omega
    subst hi
    have := q.1
    rw [show ((0 : Nat) : Int) = 0 from rfl, t0] at this
    omega
theorem sy5 {s : Sta} {l : Int} (h : 0 < l) : saysS s 5 l = if cn (abP s) 60 = 0 then 1 else chN s (l % cn (abP s) 60) := by
  unfold saysS
  rw [if_neg (by decide), if_neg (by decide), if_neg (by decide), if_neg (by decide), if_pos rfl, if_neg (by omega)]
theorem sy50 {s : Sta} : saysS s 5 0 = prS s := by
  unfold saysS
  rw [if_neg (by decide), if_neg (by decide), if_neg (by decide), if_neg (by decide), if_pos rfl, if_pos (by decide)]
theorem sy1 {s : Sta} {l : Int} : saysS s 1 l = (blF s false 60).1 := if_pos rfl
theorem sy4 {s : Sta} {l : Int} : saysS s 4 l = (blF s true 60).1 := by
  unfold saysS
  rw [if_neg (by decide), if_pos rfl]
theorem sy2 {s : Sta} {l : Int} : saysS s 2 l = prS s := by
  unfold saysS
  rw [if_neg (by decide), if_neg (by decide), if_pos rfl]
theorem sy3 {s : Sta} {l : Int} : saysS s 3 l = bsS s := by
  unfold saysS
  rw [if_neg (by decide), if_neg (by decide), if_neg (by decide), if_pos rfl]
theorem sy0 {s : Sta} {kd l : Int} (h : ¬ kd = 1 ∧ ¬ kd = 2 ∧ ¬ kd = 3 ∧ ¬ kd = 4 ∧ ¬ kd = 5) : saysS s kd l = leS s := by
  unfold saysS
  rw [if_neg h.1, if_neg h.2.2.2.1, if_neg h.2.1, if_neg h.2.2.1, if_neg h.2.2.2.2]
theorem ev_M_chanceOf {w : Mem} (hO : OK (aM w)) (hd : 1 ≤ w 76 35 ∧ w 76 35 ≤ 2147483646) : EvI y_M_chanceOf b_M_chanceOf 4 (some .int) (5) [Vr 76] w (fun z w' => z = saysS (aM w) 5 (lotN 5 (w 76 35)) ∧ SM w w' ∧ w' 76 35 = lotN 5 (w 76 35)) := by
  refine Ev.mk (isI := false) (by decide +kernel) nofun (Nat.le_of_ble_eq_true rfl) (fun G hG => ?_)
  show G 0 [some (Vr 76), none, none, none] [] 102 (hp w)
  have hlb := lotN_bd (kd := 5) hd
  have el : lotN 5 (w 76 35) = 48271 * w 76 35 % 2147483647 := if_pos rfl
  have hcb := cn_bd (P := abP (aM w)) 60
  have hO1 : OK (aM (wu w 76 35 (lotN 5 (w 76 35)))) := SM_drawn.ok hO
  have L : ∀ (j v : Nat) (w1 : Mem), v + j = 61 → 2 ≤ v → 0 < cn (abP (aM w)) 60 → 0 ≤ lotN 5 (w 76 35) % cn (abP (aM w)) 60 - cn (abP (aM w)) (v - 1) → SD (wu w 76 35 (lotN 5 (w 76 35))) w1 → G 38 [some (Vr 76), some (Vi (cn (abP (aM w)) 60)), some (Vi (lotN 5 (w 76 35) % cn (abP (aM w)) 60 - cn (abP (aM w)) (v - 1))), some (Vi (v : Int))] [] 102 (hp w1) := by
    intro j
    induction j with
    | zero =>
      intro v w1 h1 h2 hpos h3 hs
      exfalso
      have hv : v = 61 := by omega
      subst hv
      have r1 := Int.emod_lt_of_pos (lotN 5 (w 76 35)) hpos
      have h3 : 0 ≤ lotN 5 (w 76 35) % cn (abP (aM w)) 60 - cn (abP (aM w)) 60 := h3
      omega
    | succ j ih =>
      intro v w1 h1 h2 hpos h3 hs
      have eA : aM w1 = aM w := hs.1.1.trans SM_drawn.1
      have r1 := Int.emod_lt_of_pos (lotN 5 (w 76 35)) hpos
      have hc2 := cn_bd (P := abP (aM w)) (v - 1)
      have cs := cn_s (P := abP (aM w)) (v := v) (by omega)
      have ca : abP (aM w) v ↔ ¬ hadS (aM w) v := ⟨fun q => q.2, fun q => ⟨by omega, q⟩⟩
      rw [bi_congr ca] at cs
      refine gx_aload0 (q := 39) hG d_M_chanceOf_38 rfl ?_
      refine gx_iload3 (q := 40) hG d_M_chanceOf_39 rfl ?_
      refine gw_V1I (q := 43) hG l_M_199 c_M_maySay (ev_M_maySay (hs.ok hO1) (by omega)) hpM rfl (by decide) (Nat.le_of_ble_eq_true rfl) d_M_chanceOf_40 rfl (by decide) (fun z40 w2 h40 => ?_)
      obtain ⟨rfl, F, rfl⟩ := h40
      rw [eA]
      have hs2 := hs.tr (SD_83 (F := F))
      refine gx_if_eq (tgt := 50) (q := 46) hG d_M_chanceOf_43 rfl rfl (bi_R _) (fun c43 => ?_) (fun c43 => ?_)
      · refine gx_iload2 (q := 51) hG d_M_chanceOf_50 rfl ?_
        refine gx_aload0 (q := 52) hG d_M_chanceOf_51 rfl ?_
        refine gx_iload3 (q := 53) hG d_M_chanceOf_52 rfl ?_
        refine gw_V1I (q := 56) hG l_M_199 c_M_maySay (ev_M_maySay (hs2.ok hO1) (by omega)) hpM rfl (by decide) (Nat.le_of_ble_eq_true rfl) d_M_chanceOf_53 rfl (by decide) (fun z53 w3 h53 => ?_)
        obtain ⟨rfl, F3, rfl⟩ := h53
        rw [hs2.1.1, SM_drawn.1]
        have hs3 := hs2.tr (SD_83 (F := F3))
        have e : 0 ≤ lotN 5 (w 76 35) % cn (abP (aM w)) 60 - cn (abP (aM w)) v → _ := fun q => ih (v + 1) _ (by omega) (by omega) hpos (by rw [Nat.add_sub_cancel]; exact q) hs3
        rw [Nat.add_sub_cancel] at e
        refine gx_if_eq (tgt := 63) (q := 59) hG d_M_chanceOf_56 rfl rfl (bi_R _) (fun c56 => ?_) (fun c56 => ?_)
        · rw [c56, Int.add_zero] at cs
          rw [cs] at e
          refine gx_iconst (q := 64) hG d_M_chanceOf_63 rfl ?_
          refine gx_isub (q := 65) hG d_M_chanceOf_64 rfl ?_
          refine gx_istore2 (q := 66) hG d_M_chanceOf_65 rfl rfl ?_
          refine gx_iinc3 (q := 69) hG d_M_chanceOf_66 rfl rfl ?_
          refine gx_goto (tgt := 38) hG d_M_chanceOf_69 rfl ?_
          first
            | (exfalso; exact bi_eq0.mp c43 (bi_ne0.mp c56))
            | (exfalso; exact bi_eq0.mp c56 (bi_ne0.mp c43))
            | (rw [Int.sub_zero]; exact e (by omega))
            | (have q := e (by omega); rw [Int.sub_sub]; exact q)
        · rw [bi_t (bi_ne0.mp c56)] at cs
          rw [cs] at e
          refine gx_iconst (q := 60) hG d_M_chanceOf_59 rfl ?_
          refine gx_goto (tgt := 64) hG d_M_chanceOf_60 rfl ?_
          refine gx_isub (q := 65) hG d_M_chanceOf_64 rfl ?_
          refine gx_istore2 (q := 66) hG d_M_chanceOf_65 rfl rfl ?_
          refine gx_iinc3 (q := 69) hG d_M_chanceOf_66 rfl rfl ?_
          refine gx_goto (tgt := 38) hG d_M_chanceOf_69 rfl ?_
          first
            | (exfalso; exact bi_eq0.mp c43 (bi_ne0.mp c56))
            | (exfalso; exact bi_eq0.mp c56 (bi_ne0.mp c43))
            | (rw [Int.sub_zero]; exact e (by omega))
            | (have q := e (by omega); rw [Int.sub_sub]; exact q)
      · refine gx_iload2 (q := 47) hG d_M_chanceOf_46 rfl ?_
        refine gx_if_le (tgt := 72) (q := 50) hG d_M_chanceOf_47 rfl rfl (by omega) (fun c47 => ?_) (fun c47 => ?_)
        · refine gx_iload3 (q := 73) hG d_M_chanceOf_72 rfl ?_
          refine gx_ireturn hG d_M_chanceOf_73 rfl rfl ?_
          refine ⟨_, rfl, _, rfl, ?_, SM_drawn.tr hs2.1, by rw [hs2.2, wu_eq]⟩
          rw [sy5 (by omega), if_neg (by omega), chN_eq (p := v) (by omega) (ca.mpr (bi_ne0.mp c43)) (by omega)]
        · refine gx_iload2 (q := 51) hG d_M_chanceOf_50 rfl ?_
          refine gx_aload0 (q := 52) hG d_M_chanceOf_51 rfl ?_
          refine gx_iload3 (q := 53) hG d_M_chanceOf_52 rfl ?_
          refine gw_V1I (q := 56) hG l_M_199 c_M_maySay (ev_M_maySay (hs2.ok hO1) (by omega)) hpM rfl (by decide) (Nat.le_of_ble_eq_true rfl) d_M_chanceOf_53 rfl (by decide) (fun z53 w3 h53 => ?_)
          obtain ⟨rfl, F3, rfl⟩ := h53
          rw [hs2.1.1, SM_drawn.1]
          have hs3 := hs2.tr (SD_83 (F := F3))
          have e : 0 ≤ lotN 5 (w 76 35) % cn (abP (aM w)) 60 - cn (abP (aM w)) v → _ := fun q => ih (v + 1) _ (by omega) (by omega) hpos (by rw [Nat.add_sub_cancel]; exact q) hs3
          rw [Nat.add_sub_cancel] at e
          refine gx_if_eq (tgt := 63) (q := 59) hG d_M_chanceOf_56 rfl rfl (bi_R _) (fun c56 => ?_) (fun c56 => ?_)
          · rw [c56, Int.add_zero] at cs
            rw [cs] at e
            refine gx_iconst (q := 64) hG d_M_chanceOf_63 rfl ?_
            refine gx_isub (q := 65) hG d_M_chanceOf_64 rfl ?_
            refine gx_istore2 (q := 66) hG d_M_chanceOf_65 rfl rfl ?_
            refine gx_iinc3 (q := 69) hG d_M_chanceOf_66 rfl rfl ?_
            refine gx_goto (tgt := 38) hG d_M_chanceOf_69 rfl ?_
            first
              | (exfalso; exact bi_eq0.mp c43 (bi_ne0.mp c56))
              | (exfalso; exact bi_eq0.mp c56 (bi_ne0.mp c43))
              | (rw [Int.sub_zero]; exact e (by omega))
              | (have q := e (by omega); rw [Int.sub_sub]; exact q)
          · rw [bi_t (bi_ne0.mp c56)] at cs
            rw [cs] at e
            refine gx_iconst (q := 60) hG d_M_chanceOf_59 rfl ?_
            refine gx_goto (tgt := 64) hG d_M_chanceOf_60 rfl ?_
            refine gx_isub (q := 65) hG d_M_chanceOf_64 rfl ?_
            refine gx_istore2 (q := 66) hG d_M_chanceOf_65 rfl rfl ?_
            refine gx_iinc3 (q := 69) hG d_M_chanceOf_66 rfl rfl ?_
            refine gx_goto (tgt := 38) hG d_M_chanceOf_69 rfl ?_
            first
              | (exfalso; exact bi_eq0.mp c43 (bi_ne0.mp c56))
              | (exfalso; exact bi_eq0.mp c56 (bi_ne0.mp c43))
              | (rw [Int.sub_zero]; exact e (by omega))
              | (have q := e (by omega); rw [Int.sub_sub]; exact q)
  refine gx_aload0 (q := 1) hG d_M_chanceOf_0 rfl ?_
  refine gx_ldc2 (q := 4) hG (48271) k_M_267 d_M_chanceOf_1 rfl rfl ?_
  refine gx_aload0 (q := 5) hG d_M_chanceOf_4 rfl ?_
  refine gx_get (q := 8) hG f_M_269 hpM rfl d_M_chanceOf_5 rfl ?_
  refine gx_lmul (q := 9) hG d_M_chanceOf_8 rfl ?_
  refine gx_ldc2 (q := 12) hG (2147483647) k_M_272 d_M_chanceOf_9 rfl rfl ?_
  refine gx_lrem (q := 13) hG d_M_chanceOf_12 rfl (by omega) (by omega) (by omega) (by omega) ?_
  rw [← el]
  refine gw_putj (q := 16) hG f_M_269 hpM (Nat.le_of_ble_eq_true rfl) vfit_l (Or.inl rfl) d_M_chanceOf_13 rfl 35 rfl rfl ?_
  refine gx_aload0 (q := 17) hG d_M_chanceOf_16 rfl ?_
  refine gw_V0I (q := 20) hG l_M_274 c_M_aboveMany (ev_M_aboveMany hO1) hpM rfl (by decide) (Nat.le_of_ble_eq_true rfl) d_M_chanceOf_17 rfl (by decide) (fun z17 w1 h17 => ?_)
  obtain ⟨rfl, hs⟩ := h17
  rw [SM_drawn.1]
  refine gx_istore1 (q := 21) hG d_M_chanceOf_20 rfl rfl ?_
  refine gx_iload1 (q := 22) hG d_M_chanceOf_21 rfl ?_
  refine gx_if_ne (tgt := 27) (q := 25) hG d_M_chanceOf_22 rfl rfl (by omega) (fun c22 => ?_) (fun c22 => ?_)
  · refine gx_aload0 (q := 28) hG d_M_chanceOf_27 rfl ?_
    refine gx_get (q := 31) hG f_M_269 hpM rfl d_M_chanceOf_28 rfl ?_
    rw [hs.2, wu_eq]
    refine gx_iload1 (q := 32) hG d_M_chanceOf_31 rfl ?_
    refine gx_i2l (q := 33) hG d_M_chanceOf_32 rfl (by omega) ?_
    refine gx_lrem (q := 34) hG d_M_chanceOf_33 rfl (by omega) (by omega) (by omega) (by omega) ?_
    refine gx_l2i (q := 35) hG d_M_chanceOf_34 rfl ?_
    skip
    refine gx_istore2 (q := 36) hG d_M_chanceOf_35 rfl rfl ?_
    refine gx_iconst (q := 37) hG d_M_chanceOf_36 rfl ?_
    refine gx_istore3 (q := 38) hG d_M_chanceOf_37 rfl rfl ?_
    have e := L 59 2 w1 (by omega) (by omega) (by omega) (by have := Int.emod_nonneg (lotN 5 (w 76 35)) c22; rw [show cn (abP (aM w)) (2 - 1) = 0 from (cn_zero 1).mpr (fun v v0 v1 q => by have := q.1; omega)]; omega) hs
    rw [show cn (abP (aM w)) (2 - 1) = 0 from (cn_zero 1).mpr (fun v v0 v1 q => by have := q.1; omega), Int.sub_zero] at e
    exact e
  · refine gx_iconst (q := 26) hG d_M_chanceOf_25 rfl ?_
    refine gx_ireturn hG d_M_chanceOf_26 rfl rfl ?_
    refine ⟨_, rfl, _, rfl, ?_, SM_drawn.tr hs.1, by rw [hs.2, wu_eq]⟩
    rw [sy5 (by omega), if_pos c22]
theorem ev_M_saysOf0 {w : Mem} {p : Int} (hO : OK (aM w)) (hp0 : 0 ≤ p ∧ p < aM w 4 2) : EvI y_M_saysOf b_M_saysOf 3 (some .int) (7) [Vr 76, Vi p, Vi 0] w (fun z w' => z = saysS (aM w) (aM w 6 p) 0 ∧ SM w w') := by
  refine Ev.mk (isI := false) (by decide +kernel) nofun (Nat.le_of_ble_eq_true rfl) (fun G hG => ?_)
  show G 0 [some (Vr 76), some (Vi p), some (Vi 0)] [] 102 (hp w)
  have hpc := hO.pc
  have e6 : aM w 6 p = w 84 p := aM_at6 hp0
  have hk := hO.kd p hp0.1 hp0.2
  rw [e6] at hk
  refine gx_aload0 (q := 1) hG d_M_saysOf_0 rfl ?_
  refine gx_get (q := 4) hG f_M_32 hpM rfl d_M_saysOf_1 rfl ?_
  refine gx_iload1 (q := 5) hG d_M_saysOf_4 rfl ?_
  refine gw_iald (q := 6) hG rfl (by omega) (by omega) d_M_saysOf_5 rfl ?_
  refine gx_tsw (tgt := 78) hG d_M_saysOf_6 (by omega) (by decide) rfl (fun c6 => ?_) (fun i9 o9 h9 c6 => ?_)
  · refine gx_aload0 (q := 79) hG d_M_saysOf_78 rfl ?_
    refine gw_V0I (q := 82) hG l_M_264 c_M_leastAbove (ev_M_leastAbove hO) hpM rfl (by decide) (Nat.le_of_ble_eq_true rfl) d_M_saysOf_79 rfl (by decide) (fun z79 w1 h79 => ?_)
    refine gx_ireturn hG d_M_saysOf_82 rfl rfl ?_
    exact ⟨_, rfl, _, rfl, by rw [h79.1, e6, sy0 (by omega)], h79.2.1⟩
  · match i9, h9 with
    | 0, h9 =>
      cases h9
      have c6 : _ = (1 : Int) := c6
      refine ⟨40, rfl, ?_⟩
      refine gx_aload0 (q := 41) hG d_M_saysOf_40 rfl ?_
      refine gx_iconst (q := 42) hG d_M_saysOf_41 rfl ?_
      refine gw_V1I (q := 45) hG l_M_277 c_M_byLeft (ev_M_byLeftfalse hO) hpM rfl (by decide) (Nat.le_of_ble_eq_true rfl) d_M_saysOf_42 rfl (by decide) (fun z42 w1 h42 => ?_)
      refine gx_ireturn hG d_M_saysOf_45 rfl rfl ?_
      exact ⟨_, rfl, _, rfl, by rw [h42.1, e6, c6, sy1], h42.2.1⟩
    | 1, h9 =>
      cases h9
      have c6 : _ = (2 : Int) := c6
      refine ⟨52, rfl, ?_⟩
      refine gx_aload0 (q := 53) hG d_M_saysOf_52 rfl ?_
      refine gw_V0I (q := 56) hG l_M_281 c_M_pairOf (ev_M_pairOf hO) hpM rfl (by decide) (Nat.le_of_ble_eq_true rfl) d_M_saysOf_53 rfl (by decide) (fun z53 w1 h53 => ?_)
      refine gx_ireturn hG d_M_saysOf_56 rfl rfl ?_
      exact ⟨_, rfl, _, rfl, by rw [h53.1, e6, c6, sy2], h53.2.1⟩
    | 2, h9 =>
      cases h9
      have c6 : _ = (3 : Int) := c6
      refine ⟨57, rfl, ?_⟩
      refine gx_aload0 (q := 58) hG d_M_saysOf_57 rfl ?_
      refine gw_V0I (q := 61) hG l_M_284 c_M_bestOf (ev_M_bestOf hO) hpM rfl (by decide) (Nat.le_of_ble_eq_true rfl) d_M_saysOf_58 rfl (by decide) (fun z58 w1 h58 => ?_)
      refine gx_ireturn hG d_M_saysOf_61 rfl rfl ?_
      exact ⟨_, rfl, _, rfl, by rw [h58.1, e6, c6, sy3], h58.2.1⟩
    | 3, h9 =>
      cases h9
      have c6 : _ = (4 : Int) := c6
      refine ⟨46, rfl, ?_⟩
      refine gx_aload0 (q := 47) hG d_M_saysOf_46 rfl ?_
      refine gx_iconst (q := 48) hG d_M_saysOf_47 rfl ?_
      refine gw_V1I (q := 51) hG l_M_277 c_M_byLeft (ev_M_byLefttrue hO) hpM rfl (by decide) (Nat.le_of_ble_eq_true rfl) d_M_saysOf_48 rfl (by decide) (fun z48 w1 h48 => ?_)
      refine gx_ireturn hG d_M_saysOf_51 rfl rfl ?_
      exact ⟨_, rfl, _, rfl, by rw [h48.1, e6, c6, sy4], h48.2.1⟩
    | 4, h9 =>
      cases h9
      have c6 : _ = (5 : Int) := c6
      refine ⟨62, rfl, ?_⟩
      refine gx_iload2 (q := 63) hG d_M_saysOf_62 rfl ?_
      refine gx_if_eq (tgt := 73) (q := 66) hG d_M_saysOf_63 rfl rfl (by omega) (fun c63 => ?_) (fun c63 => ?_)
      · refine gx_aload0 (q := 74) hG d_M_saysOf_73 rfl ?_
        refine gw_V0I (q := 77) hG l_M_281 c_M_pairOf (ev_M_pairOf hO) hpM rfl (by decide) (Nat.le_of_ble_eq_true rfl) d_M_saysOf_74 rfl (by decide) (fun z74 w1 h74 => ?_)
        refine gx_ireturn hG d_M_saysOf_77 rfl rfl ?_
        exact ⟨_, rfl, _, rfl, by rw [h74.1, e6, c6, sy50], h74.2.1⟩
      · exfalso; omega
    | i9 + 5, h9 => simp at h9
theorem ev_M_saysOf1 {w : Mem} {p : Int} (hO : OK (aM w)) (hp0 : 0 ≤ p ∧ p < aM w 4 2) (hd : 1 ≤ w 76 35 ∧ w 76 35 ≤ 2147483646) : EvI y_M_saysOf b_M_saysOf 3 (some .int) (7) [Vr 76, Vi p, Vi 1] w (fun z w' => z = saysS (aM w) (aM w 6 p) (lotN (aM w 6 p) (w 76 35)) ∧ SM w w' ∧ w' 76 35 = lotN (aM w 6 p) (w 76 35)) := by
  refine Ev.mk (isI := false) (by decide +kernel) nofun (Nat.le_of_ble_eq_true rfl) (fun G hG => ?_)
  show G 0 [some (Vr 76), some (Vi p), some (Vi 1)] [] 102 (hp w)
  have hpc := hO.pc
  have e6 : aM w 6 p = w 84 p := aM_at6 hp0
  have hk := hO.kd p hp0.1 hp0.2
  rw [e6] at hk
  refine gx_aload0 (q := 1) hG d_M_saysOf_0 rfl ?_
  refine gx_get (q := 4) hG f_M_32 hpM rfl d_M_saysOf_1 rfl ?_
  refine gx_iload1 (q := 5) hG d_M_saysOf_4 rfl ?_
  refine gw_iald (q := 6) hG rfl (by omega) (by omega) d_M_saysOf_5 rfl ?_
  refine gx_tsw (tgt := 78) hG d_M_saysOf_6 (by omega) (by decide) rfl (fun c6 => ?_) (fun i9 o9 h9 c6 => ?_)
  · refine gx_aload0 (q := 79) hG d_M_saysOf_78 rfl ?_
    refine gw_V0I (q := 82) hG l_M_264 c_M_leastAbove (ev_M_leastAbove hO) hpM rfl (by decide) (Nat.le_of_ble_eq_true rfl) d_M_saysOf_79 rfl (by decide) (fun z79 w1 h79 => ?_)
    refine gx_ireturn hG d_M_saysOf_82 rfl rfl ?_
    exact ⟨_, rfl, _, rfl, by rw [h79.1, e6, sy0 (by omega)], h79.2.1, by rw [h79.2.2, e6]; exact (if_neg (by omega)).symm⟩
  · match i9, h9 with
    | 0, h9 =>
      cases h9
      have c6 : _ = (1 : Int) := c6
      refine ⟨40, rfl, ?_⟩
      refine gx_aload0 (q := 41) hG d_M_saysOf_40 rfl ?_
      refine gx_iconst (q := 42) hG d_M_saysOf_41 rfl ?_
      refine gw_V1I (q := 45) hG l_M_277 c_M_byLeft (ev_M_byLeftfalse hO) hpM rfl (by decide) (Nat.le_of_ble_eq_true rfl) d_M_saysOf_42 rfl (by decide) (fun z42 w1 h42 => ?_)
      refine gx_ireturn hG d_M_saysOf_45 rfl rfl ?_
      exact ⟨_, rfl, _, rfl, by rw [h42.1, e6, c6, sy1], h42.2.1, by rw [h42.2.2, e6, c6]; exact (if_neg (by omega)).symm⟩
    | 1, h9 =>
      cases h9
      have c6 : _ = (2 : Int) := c6
      refine ⟨52, rfl, ?_⟩
      refine gx_aload0 (q := 53) hG d_M_saysOf_52 rfl ?_
      refine gw_V0I (q := 56) hG l_M_281 c_M_pairOf (ev_M_pairOf hO) hpM rfl (by decide) (Nat.le_of_ble_eq_true rfl) d_M_saysOf_53 rfl (by decide) (fun z53 w1 h53 => ?_)
      refine gx_ireturn hG d_M_saysOf_56 rfl rfl ?_
      exact ⟨_, rfl, _, rfl, by rw [h53.1, e6, c6, sy2], h53.2.1, by rw [h53.2.2, e6, c6]; exact (if_neg (by omega)).symm⟩
    | 2, h9 =>
      cases h9
      have c6 : _ = (3 : Int) := c6
      refine ⟨57, rfl, ?_⟩
      refine gx_aload0 (q := 58) hG d_M_saysOf_57 rfl ?_
      refine gw_V0I (q := 61) hG l_M_284 c_M_bestOf (ev_M_bestOf hO) hpM rfl (by decide) (Nat.le_of_ble_eq_true rfl) d_M_saysOf_58 rfl (by decide) (fun z58 w1 h58 => ?_)
      refine gx_ireturn hG d_M_saysOf_61 rfl rfl ?_
      exact ⟨_, rfl, _, rfl, by rw [h58.1, e6, c6, sy3], h58.2.1, by rw [h58.2.2, e6, c6]; exact (if_neg (by omega)).symm⟩
    | 3, h9 =>
      cases h9
      have c6 : _ = (4 : Int) := c6
      refine ⟨46, rfl, ?_⟩
      refine gx_aload0 (q := 47) hG d_M_saysOf_46 rfl ?_
      refine gx_iconst (q := 48) hG d_M_saysOf_47 rfl ?_
      refine gw_V1I (q := 51) hG l_M_277 c_M_byLeft (ev_M_byLefttrue hO) hpM rfl (by decide) (Nat.le_of_ble_eq_true rfl) d_M_saysOf_48 rfl (by decide) (fun z48 w1 h48 => ?_)
      refine gx_ireturn hG d_M_saysOf_51 rfl rfl ?_
      exact ⟨_, rfl, _, rfl, by rw [h48.1, e6, c6, sy4], h48.2.1, by rw [h48.2.2, e6, c6]; exact (if_neg (by omega)).symm⟩
    | 4, h9 =>
      cases h9
      have c6 : _ = (5 : Int) := c6
      refine ⟨62, rfl, ?_⟩
      refine gx_iload2 (q := 63) hG d_M_saysOf_62 rfl ?_
      refine gx_if_eq (tgt := 73) (q := 66) hG d_M_saysOf_63 rfl rfl (by omega) (fun c63 => ?_) (fun c63 => ?_)
      · exfalso; omega
      · refine gx_aload0 (q := 67) hG d_M_saysOf_66 rfl ?_
        refine gw_V0I (q := 70) hG l_M_287 c_M_chanceOf (ev_M_chanceOf hO hd) hpM rfl (by decide) (Nat.le_of_ble_eq_true rfl) d_M_saysOf_67 rfl (by decide) (fun z67 w1 h67 => ?_)
        refine gx_goto (tgt := 77) hG d_M_saysOf_70 rfl ?_
        refine gx_ireturn hG d_M_saysOf_77 rfl rfl ?_
        exact ⟨_, rfl, _, rfl, by rw [h67.1, e6, c6], h67.2.1, by rw [h67.2.2, e6, c6]⟩
    | i9 + 5, h9 => simp at h9
theorem ev_M_says {w : Mem} {p : Int} (hO : OK (aM w)) (hp0 : R3 p) : EvI y_M_says b_M_says 2 (some .int) (8) [Vr 76, Vi p] w (PM w (sp_says (aM w) p)) := by
  refine Ev.mk (isI := false) (by decide +kernel) nofun (Nat.le_of_ble_eq_true rfl) (fun G hG => ?_)
  show G 0 [some (Vr 76), some (Vi p)] [] 102 (hp w)
  refine gx_aload0 (q := 1) hG d_M_says_0 rfl ?_
  refine gx_iload1 (q := 2) hG d_M_says_1 rfl ?_
  refine gw_V1X (q := 5) hG l_M_181 c_M_isPlayer (ev_M_isPlayer hO hp0) hpM rfl (by decide) (Nat.le_of_ble_eq_true rfl) d_M_says_2 rfl (by decide) ?_
  refine gx_if_ne (tgt := 12) (q := 8) hG d_M_says_5 rfl rfl (bi_R _) (fun c5 => ?_) (fun c5 => ?_)
  · have c5 := bi_ne0.mp c5
    refine gx_aload0 (q := 13) hG d_M_says_12 rfl ?_
    refine gw_V0I (q := 16) hG l_M_196 c_M_isOver (ev_M_isOver2 hO) hpM rfl (by decide) (Nat.le_of_ble_eq_true rfl) d_M_says_13 rfl (by decide) (fun z13 w1 h13 => ?_)
    obtain ⟨rfl, s1⟩ := h13
    refine gx_if_eq (tgt := 24) (q := 19) hG d_M_says_16 rfl rfl (bi_R _) (fun c16 => ?_) (fun c16 => ?_)
    · refine gx_aload0 (q := 25) hG d_M_says_24 rfl ?_
      refine gx_iload1 (q := 26) hG d_M_says_25 rfl ?_
      refine gx_iconst (q := 27) hG d_M_says_26 rfl ?_
      refine gw_V2I (q := 30) hG l_M_290 c_M_saysOf (ev_M_saysOf0 (s1.ok hO) (by rw [s1.1.1]; exact c5)) hpM rfl (by decide) (Nat.le_of_ble_eq_true rfl) d_M_says_27 rfl (by decide) (fun z27 w2 h27 => ?_)
      refine gx_ireturn hG d_M_says_30 rfl rfl ?_
      refine ⟨_, rfl, _, rfl, ?_⟩
      unfold sp_says
      first
        | (rw [if_pos c5]; exact PM_id)
        | (rw [if_neg (fun q => q c5), if_pos (bi_t (bi_ne0.mp c16))]; exact PM_tr s1.1 ⟨rfl, s1.1.1 ▸ rfl, fun _ _ => rfl⟩)
        | (rw [if_neg (fun q => q c5), if_neg (fun q => by omega)]; rw [s1.1.1] at h27; exact ⟨h27.1, (s1.1.tr h27.2).1, (s1.1.tr h27.2).2⟩)
    · refine gx_bipush (q := 21) hG d_M_says_19 rfl rfl ?_
      refine gx_goto (tgt := 30) hG d_M_says_21 rfl ?_
      refine gx_ireturn hG d_M_says_30 rfl rfl ?_
      refine ⟨_, rfl, _, rfl, ?_⟩
      unfold sp_says
      first
        | (rw [if_pos c5]; exact PM_id)
        | (rw [if_neg (fun q => q c5), if_pos (bi_t (bi_ne0.mp c16))]; exact PM_tr s1.1 ⟨rfl, s1.1.1 ▸ rfl, fun _ _ => rfl⟩)
        | (rw [if_neg (fun q => q c5), if_neg (fun q => by omega)]; rw [s1.1.1] at h27; exact ⟨h27.1, (s1.1.tr h27.2).1, (s1.1.tr h27.2).2⟩)
  · have c5 := bi_eq0.mp c5
    refine gx_iconst (q := 9) hG d_M_says_8 rfl ?_
    refine gx_goto (tgt := 30) hG d_M_says_9 rfl ?_
    refine gx_ireturn hG d_M_says_30 rfl rfl ?_
    refine ⟨_, rfl, _, rfl, ?_⟩
    unfold sp_says
    first
      | (rw [if_pos c5]; exact PM_id)
      | (rw [if_neg (fun q => q c5), if_pos (bi_t (bi_ne0.mp c16))]; exact PM_tr s1.1 ⟨rfl, s1.1.1 ▸ rfl, fun _ _ => rfl⟩)
      | (rw [if_neg (fun q => q c5), if_neg (fun q => by omega)]; rw [s1.1.1] at h27; exact ⟨h27.1, (s1.1.tr h27.2).1, (s1.1.tr h27.2).2⟩)
theorem ev_M_mark {w : Mem} {p as : Int} (hO : OK (aM w)) (hp0 : R3 p) (ha : R3 as) : EvI y_M_mark b_M_mark 5 (some .int) (9) [Vr 76, Vi p, Vi as] w (PM w (sp_mark (aM w) p as)) := by
  refine Ev.mk (isI := false) (by decide +kernel) nofun (Nat.le_of_ble_eq_true rfl) (fun G hG => ?_)
  show G 0 [some (Vr 76), some (Vi p), some (Vi as), none, none] [] 102 (hp w)
  have hn := hO.nn
  have e1 : aM w 4 1 = w 76 14 := rfl
  rw [e1] at hn
  have hlb := lastS_bd hO
  have hgb := gtS_bd (s := aM w)
  have hgl := glS_bd (s := aM w)
  have hl0 : w 76 14 = 0 → lastS (aM w) = 0 := fun q => by unfold lastS; rw [if_neg (by omega)]
  have hl1 : w 76 14 ≠ 0 → lastS (aM w) = w 85 (w 76 14 - 1) := fun q => by unfold lastS; rw [if_pos (by omega), aM_at5 (by omega)]; rfl
  have hm1 : w 76 14 ≠ 0 → 1 ≤ w 85 (w 76 14 - 1) ∧ w 85 (w 76 14 - 1) ≤ 60 := fun q => hO.mn _ (by omega) (by omega)
  have hpc := hO.pc
  have g9 : glS (aM w) = -9 → mkS (aM w) p 2 = -9 := fun q => by
    by_cases c : leftS (aM w) = 0
    · exact mk2n rfl c
    · exfalso
      unfold glS at q
      rw [if_neg c] at q
      omega
  have g8 : glS (aM w) ≠ -9 → mkS (aM w) p 2 = glS (aM w) - lastS (aM w) := fun q => by
    by_cases c : leftS (aM w) = 0
    · exact absurd (if_pos c) q
    · rw [mk2 rfl c]
      unfold glS
      rw [if_neg c]
  have T : (0 ≤ p ∧ p < aM w 4 2) → (1 ≤ as ∧ as ≤ 5) → isK (aM w 6 p) as → G 57 [some (Vr 76), some (Vi p), some (Vi as), some (Vi (w 84 p)), none] [] 102 (hp w) := by
    intro c5 c14 hik
    refine gx_iload2 (q := 58) hG d_M_mark_57 rfl ?_
    refine gx_tsw (tgt := 180) hG d_M_mark_58 (by omega) (by decide) rfl (fun c58 => ?_) (fun i9 o9 h9 c58 => ?_)
    · refine gx_aload0 (q := 181) hG d_M_mark_180 rfl ?_
      refine gw_V0I (q := 184) hG l_M_274 c_M_aboveMany (ev_M_aboveMany hO) hpM rfl (by decide) (Nat.le_of_ble_eq_true rfl) d_M_mark_181 rfl (by decide) (fun z181 w1 h181 => ?_)
      obtain ⟨rfl, s1⟩ := h181
      refine gx_ireturn hG d_M_mark_184 rfl rfl ?_
      refine ⟨_, rfl, _, rfl, ?_⟩
      rw [mk_ok ⟨c5, c14⟩ hik, mk5 (by omega)]
      exact ⟨rfl, s1.1.1, s1.1.2⟩
    · match i9, h9 with
      | 0, h9 =>
        cases h9
        have c58 : _ = (1 : Int) := c58
        refine ⟨88, rfl, ?_⟩
        refine gx_aload0 (q := 89) hG d_M_mark_88 rfl ?_
        refine gw_V0I (q := 92) hG l_M_196 c_M_isOver (ev_M_isOver2 hO) hpM rfl (by decide) (Nat.le_of_ble_eq_true rfl) d_M_mark_89 rfl (by decide) (fun z89 w1 h89 => ?_)
        obtain ⟨rfl, s1⟩ := h89
        refine gx_if_eq (tgt := 100) (q := 95) hG d_M_mark_92 rfl rfl (bi_R _) (fun c92 => ?_) (fun c92 => ?_)
        · refine gx_aload0 (q := 101) hG d_M_mark_100 rfl ?_
          refine gx_aload0 (q := 102) hG d_M_mark_101 rfl ?_
          refine gx_iload1 (q := 103) hG d_M_mark_102 rfl ?_
          refine gx_iconst (q := 104) hG d_M_mark_103 rfl ?_
          refine gw_V2I (q := 107) hG l_M_290 c_M_saysOf (ev_M_saysOf0 (s1.ok hO) (by rw [s1.1.1]; exact c5)) hpM rfl (by decide) (Nat.le_of_ble_eq_true rfl) d_M_mark_104 rfl (by decide) (fun z104 w2 h104 => ?_)
          obtain ⟨rfl, s2⟩ := h104
          have s3 := s1.1.tr s2
          rw [s1.1.1]
          have hsb := saysS_bd (s := aM w) (kd := aM w 6 p) (lot := 0) hO
          refine gw_V1I (q := 110) hG l_M_294 c_M_leftBehind (ev_M_leftBehind (s3.ok hO) hsb) hpM rfl (by decide) (Nat.le_of_ble_eq_true rfl) d_M_mark_107 rfl (by decide) (fun z107 w3 h107 => ?_)
          obtain ⟨rfl, s4⟩ := h107
          rw [s3.1]
          have s5 := s3.tr s4.1
          refine gx_ireturn hG d_M_mark_110 rfl rfl ?_
          refine ⟨_, rfl, _, rfl, ?_⟩
          rw [mk_ok ⟨c5, c14⟩ hik]
          first
            | (rw [mk1o (by omega) (bi_ne0.mp c92)]; exact ⟨rfl, s1.1.1, s1.1.2⟩)
            | (rw [mk1 (by omega) (bi_eq0.mp c92)]; exact ⟨rfl, s5.1, s5.2⟩)
        · refine gx_bipush (q := 97) hG d_M_mark_95 rfl rfl ?_
          refine gx_goto (tgt := 110) hG d_M_mark_97 rfl ?_
          refine gx_ireturn hG d_M_mark_110 rfl rfl ?_
          refine ⟨_, rfl, _, rfl, ?_⟩
          rw [mk_ok ⟨c5, c14⟩ hik]
          first
            | (rw [mk1o (by omega) (bi_ne0.mp c92)]; exact ⟨rfl, s1.1.1, s1.1.2⟩)
            | (rw [mk1 (by omega) (bi_eq0.mp c92)]; exact ⟨rfl, s5.1, s5.2⟩)
      | 1, h9 =>
        cases h9
        have c58 : _ = (2 : Int) := c58
        refine ⟨111, rfl, ?_⟩
        refine gx_aload0 (q := 112) hG d_M_mark_111 rfl ?_
        refine gw_V0I (q := 115) hG l_M_261 c_M_greatestLeft (ev_M_greatestLeft hO) hpM rfl (by decide) (Nat.le_of_ble_eq_true rfl) d_M_mark_112 rfl (by decide) (fun z112 w1 h112 => ?_)
        obtain ⟨rfl, hs⟩ := h112
        have e14 : w1 76 14 = w 76 14 := congrFun (congrFun hs.1.1 4) 1
        have e85 : w 76 14 ≠ 0 → w1 85 (w 76 14 - 1) = w 85 (w 76 14 - 1) := fun c4 => by
          have q1 : aM w1 5 (w 76 14 - 1) = w1 85 (w 76 14 - 1) := aM_at5 (by omega)
          have q2 : aM w 5 (w 76 14 - 1) = w 85 (w 76 14 - 1) := aM_at5 (by omega)
          rw [← q1, ← q2, hs.1.1]
        refine gx_istore4 (q := 117) hG d_M_mark_115 rfl rfl ?_
        refine gx_iload4 (q := 119) hG d_M_mark_117 rfl ?_
        refine gx_bipush (q := 121) hG d_M_mark_119 rfl rfl ?_
        refine gx_icmp_ne (tgt := 129) (q := 124) hG d_M_mark_121 rfl rfl (by omega) (by omega) (fun c121 => ?_) (fun c121 => ?_)
        · refine gx_aload0 (q := 130) hG d_M_mark_129 rfl ?_
          refine gx_get (q := 133) hG f_M_178 hpM rfl d_M_mark_130 rfl ?_
          rw [e14]
          refine gx_if_ne (tgt := 141) (q := 136) hG d_M_mark_133 rfl rfl (by omega) (fun c133 => ?_) (fun c133 => ?_)
          · refine gx_iload4 (q := 143) hG d_M_mark_141 rfl ?_
            refine gx_aload0 (q := 144) hG d_M_mark_143 rfl ?_
            refine gx_get (q := 147) hG f_M_35 hpM rfl d_M_mark_144 rfl ?_
            refine gx_aload0 (q := 148) hG d_M_mark_147 rfl ?_
            refine gx_get (q := 151) hG f_M_178 hpM rfl d_M_mark_148 rfl ?_
            rw [e14]
            refine gx_iconst (q := 152) hG d_M_mark_151 rfl ?_
            refine gx_isub (q := 153) hG d_M_mark_152 rfl ?_
            have hm2 := hm1 c133
            rw [← e85 c133] at hm2
            refine gw_iald (q := 154) hG rfl (by omega) (by omega) d_M_mark_153 rfl ?_
            rw [e85 c133, ← hl1 c133]
            refine gx_isub (q := 155) hG d_M_mark_154 rfl ?_
            refine gx_ireturn hG d_M_mark_155 rfl rfl ?_
            refine ⟨_, rfl, _, rfl, ?_⟩
            rw [mk_ok ⟨c5, c14⟩ hik, c58]
            first
              | (rw [g9 c121]; exact ⟨rfl, hs.1.1, hs.1.2⟩)
              | (rw [g8 c121, hl0 c133, Int.sub_zero]; exact ⟨rfl, hs.1.1, hs.1.2⟩)
              | (rw [g8 c121]; exact ⟨rfl, hs.1.1, hs.1.2⟩)
          · refine gx_iload4 (q := 138) hG d_M_mark_136 rfl ?_
            refine gx_goto (tgt := 155) hG d_M_mark_138 rfl ?_
            refine gx_ireturn hG d_M_mark_155 rfl rfl ?_
            refine ⟨_, rfl, _, rfl, ?_⟩
            rw [mk_ok ⟨c5, c14⟩ hik, c58]
            first
              | (rw [g9 c121]; exact ⟨rfl, hs.1.1, hs.1.2⟩)
              | (rw [g8 c121, hl0 c133, Int.sub_zero]; exact ⟨rfl, hs.1.1, hs.1.2⟩)
              | (rw [g8 c121]; exact ⟨rfl, hs.1.1, hs.1.2⟩)
        · refine gx_bipush (q := 126) hG d_M_mark_124 rfl rfl ?_
          refine gx_goto (tgt := 155) hG d_M_mark_126 rfl ?_
          refine gx_ireturn hG d_M_mark_155 rfl rfl ?_
          refine ⟨_, rfl, _, rfl, ?_⟩
          rw [mk_ok ⟨c5, c14⟩ hik, c58]
          first
            | (rw [g9 c121]; exact ⟨rfl, hs.1.1, hs.1.2⟩)
            | (rw [g8 c121, hl0 c133, Int.sub_zero]; exact ⟨rfl, hs.1.1, hs.1.2⟩)
            | (rw [g8 c121]; exact ⟨rfl, hs.1.1, hs.1.2⟩)
      | 2, h9 =>
        cases h9
        have c58 : _ = (3 : Int) := c58
        refine ⟨156, rfl, ?_⟩
        refine gx_aload0 (q := 157) hG d_M_mark_156 rfl ?_
        refine gw_V0I (q := 160) hG l_M_245 c_M_isSolved (ev_M_isSolved2 hO) hpM rfl (by decide) (Nat.le_of_ble_eq_true rfl) d_M_mark_157 rfl (by decide) (fun z157 w1 h157 => ?_)
        obtain ⟨rfl, s1, s2⟩ := h157
        refine gx_if_ne (tgt := 166) (q := 163) hG d_M_mark_160 rfl rfl (bi_R _) (fun c160 => ?_) (fun c160 => ?_)
        · have c160 := bi_ne0.mp c160
          obtain ⟨q1, q2⟩ := s2 c160
          refine gx_aload0 (q := 167) hG d_M_mark_166 rfl ?_
          refine gw_V0V (q := 170) hG l_M_248 c_M_layWins (ev_M_layWins c160 q1 q2) hpM rfl (by decide) (Nat.le_of_ble_eq_true rfl) d_M_mark_167 rfl (by decide) (fun w2 h167 => ?_)
          obtain ⟨w8, s8⟩ := SW_of (w := w) c160 q1 h167
          have sd : SM w w2 := s1.1.tr s8
          refine gx_aload0 (q := 171) hG d_M_mark_170 rfl ?_
          refine gw_V0X (q := 174) hG l_M_254 c_M_winMany (ev_M_winMany w8) hpM rfl (by decide) (Nat.le_of_ble_eq_true rfl) d_M_mark_171 rfl (by decide) ?_
          refine gx_ireturn hG d_M_mark_174 rfl rfl ?_
          refine ⟨_, rfl, _, rfl, ?_⟩
          rw [mk_ok ⟨c5, c14⟩ hik, mk3 (by omega) c160]
          exact ⟨rfl, sd.1, sd.2⟩
        · have c160 := bi_eq0.mp c160
          refine gx_bipush (q := 165) hG d_M_mark_163 rfl rfl ?_
          refine gx_ireturn hG d_M_mark_165 rfl rfl ?_
          refine ⟨_, rfl, _, rfl, ?_⟩
          rw [mk_ok ⟨c5, c14⟩ hik, mk3n (by omega) c160]
          exact ⟨rfl, s1.1.1, s1.1.2⟩
      | 3, h9 =>
        cases h9
        have c58 : _ = (4 : Int) := c58
        refine ⟨175, rfl, ?_⟩
        refine gx_aload0 (q := 176) hG d_M_mark_175 rfl ?_
        refine gw_V0I (q := 179) hG l_M_192 c_M_leftNow (ev_M_leftNow hO) hpM rfl (by decide) (Nat.le_of_ble_eq_true rfl) d_M_mark_176 rfl (by decide) (fun z176 w1 h176 => ?_)
        obtain ⟨rfl, F, rfl⟩ := h176
        refine gx_ireturn hG d_M_mark_179 rfl rfl ?_
        refine ⟨_, rfl, _, rfl, ?_⟩
        rw [mk_ok ⟨c5, c14⟩ hik, mkS4 (by omega)]
        exact ⟨rfl, aM_83, fun b hb => wc_ne (by omega)⟩
      | i9 + 4, h9 => simp at h9
  refine gx_aload0 (q := 1) hG d_M_mark_0 rfl ?_
  refine gx_iload1 (q := 2) hG d_M_mark_1 rfl ?_
  refine gw_V1X (q := 5) hG l_M_181 c_M_isPlayer (ev_M_isPlayer hO hp0) hpM rfl (by decide) (Nat.le_of_ble_eq_true rfl) d_M_mark_2 rfl (by decide) ?_
  refine gx_if_eq (tgt := 17) (q := 8) hG d_M_mark_5 rfl rfl (bi_R _) (fun c5 => ?_) (fun c5 => ?_)
  · have c5 := bi_eq0.mp c5
    refine gx_iconst (q := 18) hG d_M_mark_17 rfl ?_
    refine gx_ireturn hG d_M_mark_18 rfl rfl ?_
    refine ⟨_, rfl, _, rfl, ?_⟩
    first
      | (rw [mk_bad (by omega)]; exact PM_id)
      | (rw [mk_bad (fun q => c5 q.1)]; exact PM_id)
  · have c5 := bi_ne0.mp c5
    have e6 : aM w 6 p = w 84 p := aM_at6 c5
    have hk := hO.kd p c5.1 c5.2
    rw [e6] at hk
    refine gx_iload2 (q := 9) hG d_M_mark_8 rfl ?_
    refine gx_iconst (q := 10) hG d_M_mark_9 rfl ?_
    refine gx_iconst (q := 11) hG d_M_mark_10 rfl ?_
    refine gw_S3X (q := 14) hG l_M_96 c_M_in (ev_M_in (by omega) (by omega) (by omega)) (by decide) (Nat.le_of_ble_eq_true rfl) d_M_mark_11 rfl (by decide) ?_
    refine gx_if_ne (tgt := 19) (q := 17) hG d_M_mark_14 rfl rfl (bi_R _) (fun c14 => ?_) (fun c14 => ?_)
    · have c14 := bi_ne0.mp c14
      refine gx_aload0 (q := 20) hG d_M_mark_19 rfl ?_
      refine gx_get (q := 23) hG f_M_32 hpM rfl d_M_mark_20 rfl ?_
      refine gx_iload1 (q := 24) hG d_M_mark_23 rfl ?_
      refine gw_iald (q := 25) hG rfl (by omega) (by omega) d_M_mark_24 rfl ?_
      refine gx_istore3 (q := 26) hG d_M_mark_25 rfl rfl ?_
      refine gx_iload3 (q := 27) hG d_M_mark_26 rfl ?_
      refine gx_iload2 (q := 28) hG d_M_mark_27 rfl ?_
      refine gx_icmp_eq (tgt := 57) (q := 31) hG d_M_mark_28 rfl rfl (by omega) (by omega) (fun c28 => ?_) (fun c28 => ?_)
      · have hik : isK (aM w 6 p) as := by rw [e6]; unfold isK; omega
        exact T c5 (by omega) hik
      · refine gx_iload2 (q := 32) hG d_M_mark_31 rfl ?_
        refine gx_iconst (q := 33) hG d_M_mark_32 rfl ?_
        refine gx_icmp_ne (tgt := 41) (q := 36) hG d_M_mark_33 rfl rfl (by omega) (by omega) (fun c33 => ?_) (fun c33 => ?_)
        · refine gx_iload2 (q := 42) hG d_M_mark_41 rfl ?_
          refine gx_iconst (q := 43) hG d_M_mark_42 rfl ?_
          refine gx_icmp_ne (tgt := 51) (q := 46) hG d_M_mark_43 rfl rfl (by omega) (by omega) (fun c43 => ?_) (fun c43 => ?_)
          · refine gx_aload0 (q := 52) hG d_M_mark_51 rfl ?_
            refine gx_iconst (q := 53) hG d_M_mark_52 rfl ?_
            refine gw_V1I (q := 56) hG l_M_114 c_M_meets (ev_M_meets (by omega)) hpM rfl (by decide) (Nat.le_of_ble_eq_true rfl) d_M_mark_53 rfl (by decide) (fun z53 w1 h53 => ?_)
            refine gx_ireturn hG d_M_mark_56 rfl rfl ?_
            refine ⟨_, rfl, _, rfl, ?_⟩
            rw [mk_un ⟨c5, by omega, by omega⟩ (by rw [e6]; unfold isK; omega)]
            obtain ⟨rfl, rfl⟩ := h53
            exact PM_fd (by omega)
          · refine gx_iload3 (q := 47) hG d_M_mark_46 rfl ?_
            refine gx_iconst (q := 48) hG d_M_mark_47 rfl ?_
            refine gx_icmp_eq (tgt := 57) (q := 51) hG d_M_mark_48 rfl rfl (by omega) (by omega) (fun c48 => ?_) (fun c48 => ?_)
            · have hik : isK (aM w 6 p) as := by rw [e6]; unfold isK; omega
              exact T c5 (by omega) hik
            · refine gx_aload0 (q := 52) hG d_M_mark_51 rfl ?_
              refine gx_iconst (q := 53) hG d_M_mark_52 rfl ?_
              refine gw_V1I (q := 56) hG l_M_114 c_M_meets (ev_M_meets (by omega)) hpM rfl (by decide) (Nat.le_of_ble_eq_true rfl) d_M_mark_53 rfl (by decide) (fun z53 w1 h53 => ?_)
              refine gx_ireturn hG d_M_mark_56 rfl rfl ?_
              refine ⟨_, rfl, _, rfl, ?_⟩
              rw [mk_un ⟨c5, by omega, by omega⟩ (by rw [e6]; unfold isK; omega)]
              obtain ⟨rfl, rfl⟩ := h53
              exact PM_fd (by omega)
        · refine gx_iload3 (q := 37) hG d_M_mark_36 rfl ?_
          refine gx_iconst (q := 38) hG d_M_mark_37 rfl ?_
          refine gx_icmp_eq (tgt := 57) (q := 41) hG d_M_mark_38 rfl rfl (by omega) (by omega) (fun c38 => ?_) (fun c38 => ?_)
          · have hik : isK (aM w 6 p) as := by rw [e6]; unfold isK; omega
            exact T c5 (by omega) hik
          · refine gx_iload2 (q := 42) hG d_M_mark_41 rfl ?_
            refine gx_iconst (q := 43) hG d_M_mark_42 rfl ?_
            refine gx_icmp_ne (tgt := 51) (q := 46) hG d_M_mark_43 rfl rfl (by omega) (by omega) (fun c43 => ?_) (fun c43 => ?_)
            · refine gx_aload0 (q := 52) hG d_M_mark_51 rfl ?_
              refine gx_iconst (q := 53) hG d_M_mark_52 rfl ?_
              refine gw_V1I (q := 56) hG l_M_114 c_M_meets (ev_M_meets (by omega)) hpM rfl (by decide) (Nat.le_of_ble_eq_true rfl) d_M_mark_53 rfl (by decide) (fun z53 w1 h53 => ?_)
              refine gx_ireturn hG d_M_mark_56 rfl rfl ?_
              refine ⟨_, rfl, _, rfl, ?_⟩
              rw [mk_un ⟨c5, by omega, by omega⟩ (by rw [e6]; unfold isK; omega)]
              obtain ⟨rfl, rfl⟩ := h53
              exact PM_fd (by omega)
            · refine gx_iload3 (q := 47) hG d_M_mark_46 rfl ?_
              refine gx_iconst (q := 48) hG d_M_mark_47 rfl ?_
              refine gx_icmp_eq (tgt := 57) (q := 51) hG d_M_mark_48 rfl rfl (by omega) (by omega) (fun c48 => ?_) (fun c48 => ?_)
              · have hik : isK (aM w 6 p) as := by rw [e6]; unfold isK; omega
                exact T c5 (by omega) hik
              · refine gx_aload0 (q := 52) hG d_M_mark_51 rfl ?_
                refine gx_iconst (q := 53) hG d_M_mark_52 rfl ?_
                refine gw_V1I (q := 56) hG l_M_114 c_M_meets (ev_M_meets (by omega)) hpM rfl (by decide) (Nat.le_of_ble_eq_true rfl) d_M_mark_53 rfl (by decide) (fun z53 w1 h53 => ?_)
                refine gx_ireturn hG d_M_mark_56 rfl rfl ?_
                refine ⟨_, rfl, _, rfl, ?_⟩
                rw [mk_un ⟨c5, by omega, by omega⟩ (by rw [e6]; unfold isK; omega)]
                obtain ⟨rfl, rfl⟩ := h53
                exact PM_fd (by omega)
    · have c14 := bi_eq0.mp c14
      refine gx_iconst (q := 18) hG d_M_mark_17 rfl ?_
      refine gx_ireturn hG d_M_mark_18 rfl rfl ?_
      refine ⟨_, rfl, _, rfl, ?_⟩
      first
        | (rw [mk_bad (by omega)]; exact PM_id)
        | (rw [mk_bad (fun q => c5 q.1)]; exact PM_id)
theorem ev_M_play {w : Mem} {many seed : Int} (hO : OK (aM w)) (hm : R3 many) (hsd : R3 seed) : EvI y_M_play b_M_play 5 (some .int) (9) [Vr 76, Vi many, Vi seed] w (PM w (sp_play (aM w) many seed)) := by
  refine Ev.mk (isI := false) (by decide +kernel) nofun (Nat.le_of_ble_eq_true rfl) (fun G hG => ?_)
  show G 0 [some (Vr 76), some (Vi many), some (Vi seed), none, none] [] 102 (hp w)
  have hpc := hO.pc
  have e2 : aM w 4 2 = w 76 12 := rfl
  have L : ∀ (j : Nat) (w1 : Mem) (lot : Int) (o : Option Value), (0 ≤ many ∧ many ≤ 12) → sp_play (aM w) many seed = plF many.toNat (aM w) seed → OK (aM w1) → (∀ b, b < 76 → w1 b = w b) → aM w1 4 2 = 2 → w1 76 35 = lot → (1 ≤ lot ∧ lot ≤ 2147483646) → (j : Int) ≤ many → one1 [o] 0 = true → (many - j) + (plF j (aM w1) lot).1 = (plF many.toNat (aM w) seed).1 → (plF j (aM w1) lot).2 = (plF many.toNat (aM w) seed).2 → G 42 [some (Vr 76), some (Vi many), some (Vi seed), some (Vi (many - (j : Int))), o] [] 102 (hp w1) := by
    intro j
    induction j with
    | zero =>
      intro w1 lot o hmm hsp hO1 hfr hpl hdr hlot hjm g t1 t2
      have ez : plF 0 (aM w1) lot = (0, aM w1) := rfl
      rw [ez] at t1 t2
      refine gx_iload3 (q := 43) hG d_M_play_42 rfl ?_
      refine gx_iload1 (q := 44) hG d_M_play_43 rfl ?_
      refine gx_icmp_ge (tgt := 103) (q := 47) hG d_M_play_44 rfl rfl (by omega) (by omega) (fun c44 => ?_) (fun c44 => ?_)
      · refine gx_iload3 (q := 104) hG d_M_play_103 rfl ?_
        refine gx_ireturn hG d_M_play_104 rfl rfl ?_
        refine ⟨_, rfl, _, rfl, ?_⟩
        rw [hsp]
        exact ⟨by omega, t2, hfr⟩
      · exfalso; omega
    | succ j ih =>
      intro w1 lot o hmm hsp hO1 hfr hpl hdr hlot hjm g t1 t2
      have hn := hO1.nn
      have es1 : aM w1 4 1 = w1 76 14 := rfl
      rw [es1] at hn
      have fin : ∀ (w2 : Mem) (_ : SM w1 w2) (_ : 12 ≤ w1 76 14 ∨ overS (aM w1)), PM w (sp_play (aM w) many seed) (many - ((j + 1 : Nat) : Int)) w2 := fun w2 s q => by
        have e := plF_n (s := aM w1) (lot := lot) (j := j) q
        rw [e] at t1 t2
        rw [hsp]
        exact ⟨by omega, s.1.trans t2, fun b hb => by rw [s.2 b hb, hfr b hb]⟩
      refine gx_iload3 (q := 43) hG d_M_play_42 rfl ?_
      refine gx_iload1 (q := 44) hG d_M_play_43 rfl ?_
      refine gx_icmp_ge (tgt := 103) (q := 47) hG d_M_play_44 rfl rfl (by omega) (by omega) (fun c44 => ?_) (fun c44 => ?_)
      · exfalso; omega
      · refine gx_aload0 (q := 48) hG d_M_play_47 rfl ?_
        refine gx_get (q := 51) hG f_M_178 hpM rfl d_M_play_48 rfl ?_
        refine gx_bipush (q := 53) hG d_M_play_51 rfl rfl ?_
        refine gx_icmp_ge (tgt := 103) (q := 56) hG d_M_play_53 rfl rfl (by omega) (by omega) (fun c53 => ?_) (fun c53 => ?_)
        · refine gx_iload3 (q := 104) hG d_M_play_103 rfl ?_
          refine gx_ireturn hG d_M_play_104 rfl rfl ?_
          refine ⟨_, rfl, _, rfl, ?_⟩
          first
            | exact fin w1 SM_id (Or.inl (by omega))
            | exact fin w2 s2.1 (Or.inr c60)
        · refine gx_aload0 (q := 57) hG d_M_play_56 rfl ?_
          refine gw_V0I (q := 60) hG l_M_196 c_M_isOver (ev_M_isOver2 hO1) hpM rfl (by decide) (Nat.le_of_ble_eq_true rfl) d_M_play_57 rfl (by decide) (fun z57 w2 h57 => ?_)
          obtain ⟨rfl, s2⟩ := h57
          refine gx_if_ne (tgt := 103) (q := 63) hG d_M_play_60 rfl rfl (bi_R _) (fun c60 => ?_) (fun c60 => ?_)
          · have c60 := bi_ne0.mp c60
            refine gx_iload3 (q := 104) hG d_M_play_103 rfl ?_
            refine gx_ireturn hG d_M_play_104 rfl rfl ?_
            refine ⟨_, rfl, _, rfl, ?_⟩
            first
              | exact fin w1 SM_id (Or.inl (by omega))
              | exact fin w2 s2.1 (Or.inr c60)
          · have c60 := bi_eq0.mp c60
            have e14 : w2 76 14 = w1 76 14 := congrFun (congrFun s2.1.1 4) 1
            refine gx_aload0 (q := 64) hG d_M_play_63 rfl ?_
            refine gx_aload0 (q := 65) hG d_M_play_64 rfl ?_
            refine gx_get (q := 68) hG f_M_178 hpM rfl d_M_play_65 rfl ?_
            rw [e14]
            refine gx_iconst (q := 69) hG d_M_play_68 rfl ?_
            refine gx_irem (q := 70) hG d_M_play_69 rfl (by omega) (by omega) (by omega) (by omega) ?_
            refine gx_iconst (q := 71) hG d_M_play_70 rfl ?_
            refine gw_V2I (q := 74) hG l_M_290 c_M_saysOf (ev_M_saysOf1 (s2.ok hO1) (by rw [s2.1.1, hpl]; omega) (by rw [s2.2, hdr]; exact hlot)) hpM rfl (by decide) (Nat.le_of_ble_eq_true rfl) d_M_play_71 rfl (by decide) (fun z71 w3 h71 => ?_)
            obtain ⟨rfl, s3, d3⟩ := h71
            rw [s2.1.1, s2.2, hdr] at d3
            rw [s2.1.1, s2.2, hdr]
            have s4 := s2.1.tr s3
            have hlb := lotN_bd (kd := aM w1 6 (w1 76 14 % 2)) hlot
            have hsb := saysS_bd (s := aM w1) (kd := aM w1 6 (w1 76 14 % 2)) (lot := lotN (aM w1 6 (w1 76 14 % 2)) lot) hO1
            have f14 : w3 76 14 = w1 76 14 := congrFun (congrFun s4.1 4) 1
            have f11 : w3 76 11 = w1 76 11 := congrFun (congrFun s4.1 4) 0
            refine gx_istore4 (q := 76) hG d_M_play_74 rfl rfl ?_
            refine gx_aload0 (q := 77) hG d_M_play_76 rfl ?_
            refine gx_get (q := 80) hG f_M_35 hpM rfl d_M_play_77 rfl ?_
            refine gx_aload0 (q := 81) hG d_M_play_80 rfl ?_
            refine gx_get (q := 84) hG f_M_178 hpM rfl d_M_play_81 rfl ?_
            rw [f14]
            refine gx_iload4 (q := 86) hG d_M_play_84 rfl ?_
            refine gw_iast (q := 87) hG rfl (by omega) (by omega) d_M_play_86 rfl ?_
            refine gx_aload0 (q := 88) hG d_M_play_87 rfl ?_
            refine gx_dupa (q := 89) hG d_M_play_88 rfl ?_
            refine gx_get (q := 92) hG f_M_178 hpM rfl d_M_play_89 rfl ?_
            rw [wu_ne (by omega), f14]
            refine gx_iconst (q := 93) hG d_M_play_92 rfl ?_
            refine gx_iadd (q := 94) hG d_M_play_93 rfl ?_
            refine gw_puti (q := 97) hG f_M_178 hpM (Nat.le_of_ble_eq_true rfl) vfit_i (Or.inl rfl) d_M_play_94 rfl 14 rfl rfl ?_
            refine gx_iinc3 (q := 100) hG d_M_play_97 rfl rfl ?_
            refine gx_goto (tgt := 42) hG d_M_play_100 rfl ?_
            have e := plF_y (s := aM w1) (lot := lot) (j := j) (by rw [es1]; omega) c60
            rw [es1] at e
            have E : aM (wu (wu w3 85 (w1 76 14) (saysS (aM w1) (aM w1 6 (w1 76 14 % 2)) (lotN (aM w1 6 (w1 76 14 % 2)) lot))) 76 14 (w1 76 14 + 1)) = sayS (aM w1) (saysS (aM w1) (aM w1 6 (w1 76 14 % 2)) (lotN (aM w1 6 (w1 76 14 % 2)) lot)) := by
              have q5 : ∀ i, 0 ≤ i → i < w1 76 14 → w3 85 i = aM w1 5 i := fun i i0 i1 => by
                rw [← s4.1, aM_at5 (by omega)]
              refine (aM_sg (w := w3) (w' := wu (wu w3 85 (w1 76 14) (saysS (aM w1) (aM w1 6 (w1 76 14 % 2)) (lotN (aM w1 6 (w1 76 14 % 2)) lot))) 76 14 (w1 76 14 + 1)) (fun b b1 b2 => by rw [wu_ne b1, wu_ne b2]) ⟨rfl, rfl, rfl, rfl, rfl⟩).trans ?_
              rw [s4.1]
              show sg (aM w1) (w3 76 11) (w1 76 14 + 1) (up (w3 85) (w1 76 14) (saysS (aM w1) (aM w1 6 (w1 76 14 % 2)) (lotN (aM w1 6 (w1 76 14 % 2)) lot))) = sg (aM w1) (w1 76 11) (w1 76 14 + 1) (up (aM w1 5) (w1 76 14) (saysS (aM w1) (aM w1 6 (w1 76 14 % 2)) (lotN (aM w1 6 (w1 76 14 % 2)) lot)))
              rw [f11]
              refine sg_cong (fun i i0 i1 => ?_)
              unfold up
              split
              · rfl
              · exact q5 i i0 (by omega)
            rw [← E] at e
            rw [e] at t1 t2
            have o3 : OK (aM (wu (wu w3 85 (w1 76 14) (saysS (aM w1) (aM w1 6 (w1 76 14 % 2)) (lotN (aM w1 6 (w1 76 14 % 2)) lot))) 76 14 (w1 76 14 + 1))) := by rw [E]; exact (OK.say hO1 hsb c60 (by rw [es1]; omega)).2
            have e7 : aM (wu (wu w3 85 (w1 76 14) (saysS (aM w1) (aM w1 6 (w1 76 14 % 2)) (lotN (aM w1 6 (w1 76 14 % 2)) lot))) 76 14 (w1 76 14 + 1)) 4 2 = 2 := by rw [E]; exact hpl
            have := ih _ (lotN (aM w1 6 (w1 76 14 % 2)) lot) (some (Vi (saysS (aM w1) (aM w1 6 (w1 76 14 % 2)) (lotN (aM w1 6 (w1 76 14 % 2)) lot)))) hmm hsp o3 (fun b hb => by rw [wu_ne (by omega), wu_ne (by omega), s4.2 b hb, hfr b hb]) e7 (by rw [wu_pl (by omega), wu_ne (by omega)]; exact d3) hlb (by omega) rfl (by omega) t2
            rw [show many - ((j + 1 : Nat) : Int) + 1 = many - (j : Int) by omega]
            exact this
  refine gx_iload1 (q := 1) hG d_M_play_0 rfl ?_
  refine gx_iconst (q := 2) hG d_M_play_1 rfl ?_
  refine gx_bipush (q := 4) hG d_M_play_2 rfl rfl ?_
  refine gw_S3X (q := 7) hG l_M_96 c_M_in (ev_M_in (by omega) (by omega) (by omega)) (by decide) (Nat.le_of_ble_eq_true rfl) d_M_play_4 rfl (by decide) ?_
  refine gx_if_eq (tgt := 21) (q := 10) hG d_M_play_7 rfl rfl (bi_R _) (fun c7 => ?_) (fun c7 => ?_)
  · have c7 := bi_eq0.mp c7
    refine gx_iconst (q := 22) hG d_M_play_21 rfl ?_
    refine gx_ireturn hG d_M_play_22 rfl rfl ?_
    refine ⟨_, rfl, _, rfl, ?_⟩
    unfold sp_play
    first
      | (rw [if_pos (by omega)]; exact PM_id)
      | (rw [if_pos (fun q => c7 q.1)]; exact PM_id)
      | (rw [if_pos (fun q => c18 q.2)]; exact PM_id)
  · have c7 := bi_ne0.mp c7
    refine gx_iload2 (q := 11) hG d_M_play_10 rfl ?_
    refine gx_iconst (q := 12) hG d_M_play_11 rfl ?_
    refine gx_ldcw (q := 15) hG (2147483646) k_M_297 d_M_play_12 rfl rfl ?_
    refine gw_S3X (q := 18) hG l_M_96 c_M_in (ev_M_in (by omega) (by omega) (by omega)) (by decide) (Nat.le_of_ble_eq_true rfl) d_M_play_15 rfl (by decide) ?_
    refine gx_if_ne (tgt := 23) (q := 21) hG d_M_play_18 rfl rfl (bi_R _) (fun c18 => ?_) (fun c18 => ?_)
    · have c18 := bi_ne0.mp c18
      refine gx_aload0 (q := 24) hG d_M_play_23 rfl ?_
      refine gx_get (q := 27) hG f_M_175 hpM rfl d_M_play_24 rfl ?_
      refine gx_iconst (q := 28) hG d_M_play_27 rfl ?_
      refine gx_icmp_ge (tgt := 34) (q := 31) hG d_M_play_28 rfl rfl (by omega) (by omega) (fun c28 => ?_) (fun c28 => ?_)
      · refine gx_aload0 (q := 35) hG d_M_play_34 rfl ?_
        refine gx_iload2 (q := 36) hG d_M_play_35 rfl ?_
        refine gx_i2l (q := 37) hG d_M_play_36 rfl (by omega) ?_
        refine gw_putj (q := 40) hG f_M_269 hpM (Nat.le_of_ble_eq_true rfl) vfit_l (Or.inl rfl) d_M_play_37 rfl 35 rfl rfl ?_
        refine gx_iconst (q := 41) hG d_M_play_40 rfl ?_
        refine gx_istore3 (q := 42) hG d_M_play_41 rfl rfl ?_
        have c28' : 2 ≤ aM w 4 2 := c28
        have hsp : sp_play (aM w) many seed = plF many.toNat (aM w) seed := by unfold sp_play; rw [if_neg (by omega), if_neg (by omega)]
        have sD : SM w (wu w 76 35 seed) := SM_drawn
        have e := L many.toNat (wu w 76 35 seed) seed none (by omega) hsp (sD.ok hO) (fun b hb => sD.2 b hb) (by rw [sD.1]; omega) wu_eq (by omega) (by omega) rfl (by rw [sD.1]; omega) (by rw [sD.1])
        rw [show many - (many.toNat : Int) = 0 by omega] at e
        exact e
      · refine gx_bipush (q := 33) hG d_M_play_31 rfl rfl ?_
        refine gx_ireturn hG d_M_play_33 rfl rfl ?_
        refine ⟨_, rfl, _, rfl, ?_⟩
        have c28' : aM w 4 2 < 2 := c28
        unfold sp_play; rw [if_neg (by omega), if_pos (by omega)]; exact PM_id
    · have c18 := bi_eq0.mp c18
      refine gx_iconst (q := 22) hG d_M_play_21 rfl ?_
      refine gx_ireturn hG d_M_play_22 rfl rfl ?_
      refine ⟨_, rfl, _, rfl, ?_⟩
      unfold sp_play
      first
        | (rw [if_pos (by omega)]; exact PM_id)
        | (rw [if_pos (fun q => c7 q.1)]; exact PM_id)
        | (rw [if_pos (fun q => c18 q.2)]; exact PM_id)

