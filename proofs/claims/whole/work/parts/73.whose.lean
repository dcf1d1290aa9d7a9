/-! part 73: whose it is, the class's calls -/
noncomputable def nsS (s : Sta) : Int := if s 4 0 ≠ 0 ∨ bi (overS s) = 1 then -4 else if bi (canS s) = 0 then -6 else 0
noncomputable def wcS (s : Sta) : Int := cn (winP (gapm s)) 27
noncomputable def gpS (s : Sta) : Int := (bs (gapm s) 28 : Nat)
noncomputable def sp_whose (s : Sta) : Int × Sta := if nsS s ≠ 0 then (nsS s, s) else (if 0 < wcS s then 1 else 0, ss s 4 3 (wcS s))
noncomputable def sp_best (s : Sta) (r : Int) : Int × Sta := if ¬ (0 ≤ r ∧ r < 6) then (-1, s) else if nsS s ≠ 0 then (nsS s, s) else (wcS s, flS s r (winP (gapm s)) 27)
noncomputable def sp_lasts (s : Sta) : Int × Sta := if nsS s ≠ 0 then (nsS s, s) else (gpS s, ss s 4 3 (vS (gapm s) / 2))
noncomputable def sp_share (s : Sta) : Int × Sta := if nsS s ≠ 0 then (nsS s, s) else (wcS s, ss (ss s 4 4 ((wcS s).tdiv (frG (wcS s) (gpS s)))) 4 5 ((gpS s).tdiv (frG (wcS s) (gpS s))))
theorem ns_0 {s : Sta} : nsS s = 0 ↔ (s 4 0 = 0 ∧ ¬ overS s ∧ canS s) := by
  unfold nsS
  constructor
  · intro h
    split at h
    · omega
    · rename_i c
      split at h
      · omega
      · rename_i d
        exact ⟨Classical.byContradiction (fun q => c (Or.inl q)), fun q => c (Or.inr (bi_t q)), Classical.byContradiction (fun q => d (bi_f q))⟩
  · rintro ⟨a, b, c⟩
    rw [if_neg (fun q => q.elim (fun q => q a) (fun q => b (bi_eq1.mp q))), if_neg (by rw [bi_t c]; decide)]
theorem canS_b {s : Sta} (h : canS s) : bs (gapm s) 28 ≤ 14 := by
  have := gapm_cn h.2.1
  have := h.2.2
  omega
/-- a game that isn't over has the gap 1 -/
theorem canS_1 {s : Sta} (h : canS s) (ho : ¬ overS s) : 1 ≤ bs (gapm s) 28 := by
  have a := gapm_cn h.2.1
  have hz := cn_zero (P := fun v => ¬ hadS s v) 60
  rcases Nat.eq_zero_or_pos (bs (gapm s) 28) with c | c
  · exfalso
    refine ho (Or.inr (fun v v0 v1 => Classical.byContradiction fun q => ?_))
    exact hz.mp (by omega) v v0 (by omega) q
  · exact c
theorem ev_X_refusedSolving {w : Mem} (hO : OK (aX w)) (hj : XJ w) : EvI y_X_refusedSolving b_X_refusedSolving 1 (some .int) (5) [Vr 0] w (fun z w' => z = nsS (aX w) ∧ SX w w' ∧ (z = 0 → w' 46 0 = (gapm (aX w) : Int) ∧ SolOK (w' 46) (w' 47) (w' 48))) := by
  refine Ev.mk (isI := false) (by decide +kernel) nofun (Nat.le_of_ble_eq_true rfl) (fun G hG => ?_)
  show G 0 [some (Vr 0)] [] 102 (hp w)
  have hg := hO.gi hj
  have hlw := hg.2.2.1
  refine gx_aload0 (q := 1) hG d_X_refusedSolving_0 rfl ?_
  refine gx_get (q := 4) hG f_X_21 hpX rfl d_X_refusedSolving_1 rfl ?_
  refine gx_get (q := 7) hG f_X_148 (hpGame (by unfold isG; omega)) rfl d_X_refusedSolving_4 rfl ?_
  refine gx_if_ne (tgt := 20) (q := 10) hG d_X_refusedSolving_7 rfl rfl (by omega) (fun c7 => ?_) (fun c7 => ?_)
  · refine gx_bipush (q := 22) hG d_X_refusedSolving_20 rfl rfl ?_
    refine gx_ireturn hG d_X_refusedSolving_22 rfl rfl ?_
    unfold nsS
    first
      | (rw [if_pos (Or.inl (show aX w 4 0 ≠ 0 from c7))]; exact ⟨_, rfl, _, rfl, rfl, SX_id hj, fun q => absurd q (by decide)⟩)
      | (rw [if_pos (Or.inr (bi_t (overX.mp c17)))]; exact ⟨_, rfl, _, rfl, rfl, SX_id hj, fun q => absurd q (by decide)⟩)
      | (rw [if_neg (fun q => q.elim (fun q => q c7) (fun q => c17 (overX.mpr (bi_eq1.mp q)))), if_pos c34]; exact ⟨_, rfl, _, rfl, rfl, s1, fun q => absurd q (by decide)⟩)
      | (rw [if_neg (fun q => q.elim (fun q => q c7) (fun q => c17 (overX.mpr (bi_eq1.mp q)))), if_neg c34]; exact ⟨_, rfl, _, rfl, rfl, s1, fun _ => s2 (bi_ne0.mp c34)⟩)
  · refine gx_aload0 (q := 11) hG d_X_refusedSolving_10 rfl ?_
    refine gx_get (q := 14) hG f_X_21 hpX rfl d_X_refusedSolving_11 rfl ?_
    refine gw_V0X (q := 17) hG l_X_159 c_Gm_isOver (ev_Gm_isOver hg) (hpGame (by unfold isG; omega)) rfl (by decide) (Nat.le_of_ble_eq_true rfl) d_X_refusedSolving_14 rfl (by decide) ?_
    refine gx_if_eq (tgt := 23) (q := 20) hG d_X_refusedSolving_17 rfl rfl (bi_R _) (fun c17 => ?_) (fun c17 => ?_)
    · have c17 := bi_eq0.mp c17
      refine gx_aload0 (q := 24) hG d_X_refusedSolving_23 rfl ?_
      refine gx_get (q := 27) hG f_X_76 hpX rfl d_X_refusedSolving_24 rfl ?_
      refine gx_aload0 (q := 28) hG d_X_refusedSolving_27 rfl ?_
      refine gx_get (q := 31) hG f_X_21 hpX rfl d_X_refusedSolving_28 rfl ?_
      refine gw_V1I (q := 34) hG l_X_177 c_So_load (ev_So_load hO hj) hpSo rfl (by decide) (Nat.le_of_ble_eq_true rfl) d_X_refusedSolving_31 rfl (by decide) (fun z31 w1 h31 => ?_)
      obtain ⟨rfl, s1, s2⟩ := h31
      refine gx_if_eq (tgt := 41) (q := 37) hG d_X_refusedSolving_34 rfl rfl (bi_R _) (fun c34 => ?_) (fun c34 => ?_)
      · refine gx_bipush (q := 43) hG d_X_refusedSolving_41 rfl rfl ?_
        refine gx_ireturn hG d_X_refusedSolving_43 rfl rfl ?_
        unfold nsS
        first
          | (rw [if_pos (Or.inl (show aX w 4 0 ≠ 0 from c7))]; exact ⟨_, rfl, _, rfl, rfl, SX_id hj, fun q => absurd q (by decide)⟩)
          | (rw [if_pos (Or.inr (bi_t (overX.mp c17)))]; exact ⟨_, rfl, _, rfl, rfl, SX_id hj, fun q => absurd q (by decide)⟩)
          | (rw [if_neg (fun q => q.elim (fun q => q c7) (fun q => c17 (overX.mpr (bi_eq1.mp q)))), if_pos c34]; exact ⟨_, rfl, _, rfl, rfl, s1, fun q => absurd q (by decide)⟩)
          | (rw [if_neg (fun q => q.elim (fun q => q c7) (fun q => c17 (overX.mpr (bi_eq1.mp q)))), if_neg c34]; exact ⟨_, rfl, _, rfl, rfl, s1, fun _ => s2 (bi_ne0.mp c34)⟩)
      · refine gx_iconst (q := 38) hG d_X_refusedSolving_37 rfl ?_
        refine gx_goto (tgt := 43) hG d_X_refusedSolving_38 rfl ?_
        refine gx_ireturn hG d_X_refusedSolving_43 rfl rfl ?_
        unfold nsS
        first
          | (rw [if_pos (Or.inl (show aX w 4 0 ≠ 0 from c7))]; exact ⟨_, rfl, _, rfl, rfl, SX_id hj, fun q => absurd q (by decide)⟩)
          | (rw [if_pos (Or.inr (bi_t (overX.mp c17)))]; exact ⟨_, rfl, _, rfl, rfl, SX_id hj, fun q => absurd q (by decide)⟩)
          | (rw [if_neg (fun q => q.elim (fun q => q c7) (fun q => c17 (overX.mpr (bi_eq1.mp q)))), if_pos c34]; exact ⟨_, rfl, _, rfl, rfl, s1, fun q => absurd q (by decide)⟩)
          | (rw [if_neg (fun q => q.elim (fun q => q c7) (fun q => c17 (overX.mpr (bi_eq1.mp q)))), if_neg c34]; exact ⟨_, rfl, _, rfl, rfl, s1, fun _ => s2 (bi_ne0.mp c34)⟩)
    · have c17 := bi_ne0.mp c17
      refine gx_bipush (q := 22) hG d_X_refusedSolving_20 rfl rfl ?_
      refine gx_ireturn hG d_X_refusedSolving_22 rfl rfl ?_
      unfold nsS
      first
        | (rw [if_pos (Or.inl (show aX w 4 0 ≠ 0 from c7))]; exact ⟨_, rfl, _, rfl, rfl, SX_id hj, fun q => absurd q (by decide)⟩)
        | (rw [if_pos (Or.inr (bi_t (overX.mp c17)))]; exact ⟨_, rfl, _, rfl, rfl, SX_id hj, fun q => absurd q (by decide)⟩)
        | (rw [if_neg (fun q => q.elim (fun q => q c7) (fun q => c17 (overX.mpr (bi_eq1.mp q)))), if_pos c34]; exact ⟨_, rfl, _, rfl, rfl, s1, fun q => absurd q (by decide)⟩)
        | (rw [if_neg (fun q => q.elim (fun q => q c7) (fun q => c17 (overX.mpr (bi_eq1.mp q)))), if_neg c34]; exact ⟨_, rfl, _, rfl, rfl, s1, fun _ => s2 (bi_ne0.mp c34)⟩)
theorem nsS_R {s : Sta} : R3 (nsS s) := by
  unfold nsS
  split
  · omega
  · split <;> omega
theorem ev_X_whose {w : Mem} (hO : OK (aX w)) (hj : XJ w) : EvI y_X_whose b_X_whose 2 (some .int) (25) [Vr 0] w (PX w (sp_whose (aX w))) := by
  refine Ev.mk (isI := false) (by decide +kernel) nofun (Nat.le_of_ble_eq_true rfl) (fun G hG => ?_)
  show G 0 [some (Vr 0), none] [] 102 (hp w)
  have hns := nsS_R (s := aX w)
  have hwb := cn_bd (P := winP (gapm (aX w))) 27
  refine gx_aload0 (q := 1) hG d_X_whose_0 rfl ?_
  refine gw_V0I (q := 4) hG l_X_261 c_X_refusedSolving (ev_X_refusedSolving hO hj) hpX rfl (by omega) (Nat.le_of_ble_eq_true rfl) d_X_whose_1 rfl (by decide) (fun z1 w1 h1 => ?_)
  obtain ⟨rfl, s1, s2⟩ := h1
  refine gx_istore1 (q := 5) hG d_X_whose_4 rfl rfl ?_
  refine gx_iload1 (q := 6) hG d_X_whose_5 rfl ?_
  refine gx_if_eq (tgt := 11) (q := 9) hG d_X_whose_6 rfl rfl (by omega) (fun c6 => ?_) (fun c6 => ?_)
  · obtain ⟨q1, q2⟩ := s2 c6
    have q3 := ns_0.mp c6
    refine gx_aload0 (q := 12) hG d_X_whose_11 rfl ?_
    refine gx_aload0 (q := 13) hG d_X_whose_12 rfl ?_
    refine gx_get (q := 16) hG f_X_76 hpX rfl d_X_whose_13 rfl ?_
    refine gw_V0I (q := 19) hG l_X_181 c_So_winCount (ev_So_winCount q2 q1 (mkN_lt 28) gapm_0 (canS_b q3.2.2)) hpSo rfl (by omega) (Nat.le_of_ble_eq_true rfl) d_X_whose_16 rfl (by decide) (fun z16 w2 h16 => ?_)
    obtain ⟨rfl, v2⟩ := h16
    have s3 := s1.tr (SV_X s1.2.1 v2.1 v2.2.2)
    refine gw_puti (q := 22) hG f_X_99 hpX (Nat.le_of_ble_eq_true rfl) vfit_i (Or.inl rfl) d_X_whose_19 rfl 11 rfl rfl ?_
    refine gx_aload0 (q := 23) hG d_X_whose_22 rfl ?_
    refine gx_get (q := 26) hG f_X_99 hpX rfl d_X_whose_23 rfl ?_
    rw [wu_eq]
    refine gx_if_le (tgt := 33) (q := 29) hG d_X_whose_26 rfl rfl (by omega) (fun c26 => ?_) (fun c26 => ?_)
    · refine gx_iconst (q := 34) hG d_X_whose_33 rfl ?_
      refine gx_ireturn hG d_X_whose_34 rfl rfl ?_
      refine ⟨_, rfl, _, rfl, ?_⟩
      unfold sp_whose; rw [if_neg (fun q => q c6)]
      refine PX_tr s3 ?_
      rw [← s3.1]
      unfold wcS
      first
        | (rw [if_pos (by rw [s3.1]; omega), show cn (winP (gapm (aX w2))) 27 = cn (winP (gapm (aX w))) 27 by rw [s3.1]]; exact PX_aside s3.2.1)
        | (rw [if_neg (by rw [s3.1]; omega), show cn (winP (gapm (aX w2))) 27 = cn (winP (gapm (aX w))) 27 by rw [s3.1]]; exact PX_aside s3.2.1)
    · refine gx_iconst (q := 30) hG d_X_whose_29 rfl ?_
      refine gx_goto (tgt := 34) hG d_X_whose_30 rfl ?_
      refine gx_ireturn hG d_X_whose_34 rfl rfl ?_
      refine ⟨_, rfl, _, rfl, ?_⟩
      unfold sp_whose; rw [if_neg (fun q => q c6)]
      refine PX_tr s3 ?_
      rw [← s3.1]
      unfold wcS
      first
        | (rw [if_pos (by rw [s3.1]; omega), show cn (winP (gapm (aX w2))) 27 = cn (winP (gapm (aX w))) 27 by rw [s3.1]]; exact PX_aside s3.2.1)
        | (rw [if_neg (by rw [s3.1]; omega), show cn (winP (gapm (aX w2))) 27 = cn (winP (gapm (aX w))) 27 by rw [s3.1]]; exact PX_aside s3.2.1)
  · refine gx_iload1 (q := 10) hG d_X_whose_9 rfl ?_
    refine gx_ireturn hG d_X_whose_10 rfl rfl ?_
    refine ⟨_, rfl, _, rfl, ?_⟩
    unfold sp_whose; rw [if_pos c6]; exact ⟨rfl, s1⟩
theorem ev_X_lasts {w : Mem} (hO : OK (aX w)) (hj : XJ w) : EvI y_X_lasts b_X_lasts 2 (some .int) (25) [Vr 0] w (PX w (sp_lasts (aX w))) := by
  refine Ev.mk (isI := false) (by decide +kernel) nofun (Nat.le_of_ble_eq_true rfl) (fun G hG => ?_)
  show G 0 [some (Vr 0), none] [] 102 (hp w)
  have hns := nsS_R (s := aX w)
  refine gx_aload0 (q := 1) hG d_X_lasts_0 rfl ?_
  refine gw_V0I (q := 4) hG l_X_261 c_X_refusedSolving (ev_X_refusedSolving hO hj) hpX rfl (by omega) (Nat.le_of_ble_eq_true rfl) d_X_lasts_1 rfl (by decide) (fun z1 w1 h1 => ?_)
  obtain ⟨rfl, s1, s2⟩ := h1
  refine gx_istore1 (q := 5) hG d_X_lasts_4 rfl rfl ?_
  refine gx_iload1 (q := 6) hG d_X_lasts_5 rfl ?_
  refine gx_if_eq (tgt := 11) (q := 9) hG d_X_lasts_6 rfl rfl (by omega) (fun c6 => ?_) (fun c6 => ?_)
  · obtain ⟨q1, q2⟩ := s2 c6
    have q3 := ns_0.mp c6
    refine gx_aload0 (q := 12) hG d_X_lasts_11 rfl ?_
    refine gx_aload0 (q := 13) hG d_X_lasts_12 rfl ?_
    refine gx_get (q := 16) hG f_X_76 hpX rfl d_X_lasts_13 rfl ?_
    refine gw_V0I (q := 19) hG l_X_267 c_So_shortest (ev_So_shortest q2 q1 (mkN_lt 28) gapm_0 (canS_b q3.2.2)) hpSo rfl (by omega) (Nat.le_of_ble_eq_true rfl) d_X_lasts_16 rfl (by decide) (fun z16 w2 h16 => ?_)
    obtain ⟨rfl, v2⟩ := h16
    have s3 := s1.tr (SV_X s1.2.1 v2.1 v2.2.2)
    refine gw_puti (q := 22) hG f_X_99 hpX (Nat.le_of_ble_eq_true rfl) vfit_i (Or.inl rfl) d_X_lasts_19 rfl 11 rfl rfl ?_
    refine gx_aload0 (q := 23) hG d_X_lasts_22 rfl ?_
    refine gx_get (q := 26) hG f_X_76 hpX rfl d_X_lasts_23 rfl ?_
    refine gw_V0X (q := 29) hG l_X_270 c_So_gapCount (ev_So_gapCount (m := gapm (aX w)) (by rw [wu_ne (by omega), v2.2.1, q1]) (mkN_lt 28)) hpSo rfl (by omega) (Nat.le_of_ble_eq_true rfl) d_X_lasts_26 rfl (by decide) ?_
    refine gx_ireturn hG d_X_lasts_29 rfl rfl ?_
    refine ⟨_, rfl, _, rfl, ?_⟩
    unfold sp_lasts; rw [if_neg (fun q => q c6)]
    unfold gpS
    have e := PX_tr (p := (((bs (gapm (aX w)) 28 : Nat) : Int), ss (aX w2) 4 3 (vS (gapm (aX w)) / 2))) s3 (PX_aside s3.2.1)
    rw [s3.1] at e
    exact e
  · refine gx_iload1 (q := 10) hG d_X_lasts_9 rfl ?_
    refine gx_ireturn hG d_X_lasts_10 rfl rfl ?_
    refine ⟨_, rfl, _, rfl, ?_⟩
    unfold sp_lasts; rw [if_pos c6]; exact ⟨rfl, s1⟩
theorem ev_X_share {w : Mem} (hO : OK (aX w)) (hj : XJ w) : EvI y_X_share b_X_share 3 (some .int) (25) [Vr 0] w (PX w (sp_share (aX w))) := by
  refine Ev.mk (isI := false) (by decide +kernel) nofun (Nat.le_of_ble_eq_true rfl) (fun G hG => ?_)
  show G 0 [some (Vr 0), none, none] [] 102 (hp w)
  have hns := nsS_R (s := aX w)
  have hwb := cn_bd (P := winP (gapm (aX w))) 27
  refine gx_aload0 (q := 1) hG d_X_share_0 rfl ?_
  refine gw_V0I (q := 4) hG l_X_261 c_X_refusedSolving (ev_X_refusedSolving hO hj) hpX rfl (by omega) (Nat.le_of_ble_eq_true rfl) d_X_share_1 rfl (by decide) (fun z1 w1 h1 => ?_)
  obtain ⟨rfl, s1, s2⟩ := h1
  refine gx_istore1 (q := 5) hG d_X_share_4 rfl rfl ?_
  refine gx_iload1 (q := 6) hG d_X_share_5 rfl ?_
  refine gx_if_eq (tgt := 11) (q := 9) hG d_X_share_6 rfl rfl (by omega) (fun c6 => ?_) (fun c6 => ?_)
  · obtain ⟨q1, q2⟩ := s2 c6
    have q3 := ns_0.mp c6
    have g14 := canS_b q3.2.2
    have g1 := canS_1 q3.2.2 q3.2.1
    refine gx_aload0 (q := 12) hG d_X_share_11 rfl ?_
    refine gx_get (q := 15) hG f_X_76 hpX rfl d_X_share_12 rfl ?_
    refine gw_V0I (q := 18) hG l_X_181 c_So_winCount (ev_So_winCount q2 q1 (mkN_lt 28) gapm_0 (canS_b q3.2.2)) hpSo rfl (by omega) (Nat.le_of_ble_eq_true rfl) d_X_share_15 rfl (by decide) (fun z15 w2 h15 => ?_)
    obtain ⟨rfl, v2⟩ := h15
    have s3 := s1.tr (SV_X s1.2.1 v2.1 v2.2.2)
    refine gx_istore2 (q := 19) hG d_X_share_18 rfl rfl ?_
    refine gx_aload0 (q := 20) hG d_X_share_19 rfl ?_
    refine gx_iload2 (q := 21) hG d_X_share_20 rfl ?_
    refine gx_i2l (q := 22) hG d_X_share_21 rfl (by omega) ?_
    refine gx_aload0 (q := 23) hG d_X_share_22 rfl ?_
    refine gx_get (q := 26) hG f_X_76 hpX rfl d_X_share_23 rfl ?_
    refine gw_V0X (q := 29) hG l_X_270 c_So_gapCount (ev_So_gapCount (m := gapm (aX w)) (by rw [v2.2.1, q1]) (mkN_lt 28)) hpSo rfl (by omega) (Nat.le_of_ble_eq_true rfl) d_X_share_26 rfl (by decide) ?_
    refine gx_i2l (q := 30) hG d_X_share_29 rfl (by omega) ?_
    refine gw_V2V (q := 33) hG l_X_225 c_X_tellFraction (ev_X_tellFraction (by omega)) hpX rfl (by omega) (Nat.le_of_ble_eq_true rfl) d_X_share_30 rfl (by decide) (fun w3 h30 => ?_)
    refine gx_iload2 (q := 34) hG d_X_share_33 rfl ?_
    refine gx_ireturn hG d_X_share_34 rfl rfl ?_
    refine ⟨_, rfl, _, rfl, ?_⟩
    unfold sp_share; rw [if_neg (fun q => q c6)]
    unfold gpS wcS
    rw [h30]
    refine PX_tr s3 ?_
    have e := PX_mk (w := w2) (w' := wu (wu w2 0 12 ((cn (winP (gapm (aX w))) 27).tdiv (frG (cn (winP (gapm (aX w))) 27) ((bs (gapm (aX w)) 28 : Nat) : Int)))) 0 13 (((bs (gapm (aX w)) 28 : Nat) : Int).tdiv (frG (cn (winP (gapm (aX w))) 27) ((bs (gapm (aX w)) 28 : Nat) : Int)))) (z := cn (winP (gapm (aX w))) 27) (by rw [aX_u13, aX_u12]) s3.2.1 (fun b hb => by rw [wu_ne (by omega), wu_ne (by omega)])
    rw [s3.1] at e
    exact e
  · refine gx_iload1 (q := 10) hG d_X_share_9 rfl ?_
    refine gx_ireturn hG d_X_share_10 rfl rfl ?_
    refine ⟨_, rfl, _, rfl, ?_⟩
    unfold sp_share; rw [if_pos c6]; exact ⟨rfl, s1⟩
theorem ev_X_best {w : Mem} {r : Int} (hO : OK (aX w)) (hj : XJ w) (hr : R3 r) : EvI y_X_best b_X_best 4 (some .int) (25) [Vr 0, Vi r] w (PX w (sp_best (aX w) r)) := by
  refine Ev.mk (isI := false) (by decide +kernel) nofun (Nat.le_of_ble_eq_true rfl) (fun G hG => ?_)
  show G 0 [some (Vr 0), some (Vi r), none, none] [] 102 (hp w)
  have hns := nsS_R (s := aX w)
  have L : ∀ (j k : Nat) (w1 W : Mem), k + j = 27 → 1 ≤ k → (0 ≤ r ∧ r < 6) → nsS (aX w) = 0 → SX w w1 → W 46 0 = (gapm (aX w) : Int) → SolOK (W 46) (W 47) (W 48) → (∀ b, b ≠ 46 → b ≠ 47 → b ≠ 48 → b ≠ 50 + 2 * r → b ≠ 51 + 2 * r → W b = w1 b) → (∀ i, 0 ≤ i → i < 60 → W (51 + 2 * r) i = flF (winP (gapm (aX w))) k i) → W (50 + 2 * r) 1 = min (cn (winP (gapm (aX w))) k) 60 → G 35 [some (Vr 0), some (Vi r), some (Vi 0), some (Vi ((k : Int) + 1))] [] 102 (hp W) := by
    intro j
    induction j with
    | zero =>
      intro k w1 W h1 h2 hrr hn0 hs g1 g2 f1 f2 f3
      have hk : k = 27 := by omega
      subst hk
      have hcn := cn_bd (P := winP (gapm (aX w))) 27
      refine gx_iload3 (q := 36) hG d_X_best_35 rfl ?_
      refine gx_bipush (q := 38) hG d_X_best_36 rfl rfl ?_
      refine gx_icmp_ge (tgt := 68) (q := 41) hG d_X_best_38 rfl rfl (by omega) (by omega) (fun c38 => ?_) (fun c38 => ?_)
      · refine gx_aload0 (q := 69) hG d_X_best_68 rfl ?_
        refine gx_get (q := 72) hG f_X_11 hpX rfl d_X_best_69 rfl ?_
        refine gx_iload1 (q := 73) hG d_X_best_72 rfl ?_
        refine gx_rald (q := 74) hG hpRows (by decide) (by omega) (by omega) (by first | decide | omega) (by first | decide | omega) d_X_best_73 rfl ?_
        refine gx_get (q := 77) hG f_X_107 (hpRow (by omega)) rfl d_X_best_74 rfl ?_
        refine gx_ireturn hG d_X_best_77 rfl rfl ?_
        refine ⟨_, rfl, _, rfl, ?_⟩
        unfold sp_best
        rw [if_neg (by omega), if_neg (fun q => q hn0)]
        refine ⟨by rw [f3]; unfold wcS; show _ = cn _ 27; omega, ?_, ?_, fun b hb => by rw [f1 b (by omega) (by omega) (by omega) (by omega) (by omega), hs.2.2 b hb]⟩
        · show aX W = flS (aX w) r (winP (gapm (aX w))) 27
          rw [← hs.1]
          have e1 : aX (fun b => if b = 46 ∨ b = 47 ∨ b = 48 then W b else w1 b) = aX w1 := aX_scr (fun b hb => by show (if _ then _ else _) = _; rw [if_neg (by omega)])
          rw [← e1]
          refine aX_row hrr (fun b b1 b2 => ?_) (fun i i0 i1 => by rw [f2 i i0 i1, e1, hs.1]) (by rw [f3, e1, hs.1])
          show W b = if _ then _ else _
          split
          · rfl
          · exact f1 b (by omega) (by omega) (by omega) b1 b2
        · have hj1 := hs.2.1
          refine ⟨fun q q0 q1 => by rw [f1 6 (by omega) (by omega) (by omega) (by omega) (by omega)]; exact hj1.1 q q0 q1, ?_, fun q q0 q1 => ?_, g2⟩
          · unfold GI0
            rw [show (3 : Int) + 1 = 4 by omega, f1 3 (by omega) (by omega) (by omega) (by omega) (by omega), f1 4 (by omega) (by omega) (by omega) (by omega) (by omega)]
            exact hj1.2.1
          · rw [f1 6 (by omega) (by omega) (by omega) (by omega) (by omega)]
            unfold GI0
            rw [f1 (70 + 2 * q) (by omega) (by omega) (by omega) (by omega) (by omega), f1 (70 + 2 * q + 1) (by omega) (by omega) (by omega) (by omega) (by omega)]
            exact hj1.2.2.1 q q0 q1
      · exfalso; omega
    | succ j ih =>
      intro k w1 W h1 h2 hrr hn0 hs g1 g2 f1 f2 f3
      have hcn := cn_bd (P := winP (gapm (aX w))) k
      have q3 := ns_0.mp hn0
      have cs : cn (winP (gapm (aX w))) (k + 1) = cn (winP (gapm (aX w))) k + bi (winP (gapm (aX w)) ((k : Int) + 1)) := rfl
      have fs : flF (winP (gapm (aX w))) (k + 1) = if bi (winP (gapm (aX w)) ((k : Int) + 1)) = 1 ∧ cn (winP (gapm (aX w))) k < 60 then up (flF (winP (gapm (aX w))) k) (cn (winP (gapm (aX w))) k) ((k : Int) + 1) else flF (winP (gapm (aX w))) k := rfl
      refine gx_iload3 (q := 36) hG d_X_best_35 rfl ?_
      refine gx_bipush (q := 38) hG d_X_best_36 rfl rfl ?_
      refine gx_icmp_ge (tgt := 68) (q := 41) hG d_X_best_38 rfl rfl (by omega) (by omega) (fun c38 => ?_) (fun c38 => ?_)
      · exfalso; omega
      · refine gx_aload0 (q := 42) hG d_X_best_41 rfl ?_
        refine gx_get (q := 45) hG f_X_76 hpX rfl d_X_best_42 rfl ?_
        refine gx_iload3 (q := 46) hG d_X_best_45 rfl ?_
        refine gw_V1I (q := 49) hG l_X_264 c_So_winsBy (ev_So_winsBy (n := k + 1) g2 g1 (mkN_lt 28) gapm_0 (canS_b q3.2.2) (by omega)) hpSo rfl (by omega) (Nat.le_of_ble_eq_true rfl) d_X_best_46 rfl (by decide) (fun z46 w2 h46 => ?_)
        obtain ⟨rfl, v2⟩ := h46
        have g1' : w2 46 0 = (gapm (aX w) : Int) := v2.2.1.trans g1
        have f1' : ∀ b, b ≠ 46 → b ≠ 47 → b ≠ 48 → b ≠ 50 + 2 * r → b ≠ 51 + 2 * r → w2 b = w1 b := fun b b1 b2 b3 b4 b5 => (v2.1 b b1 b2 b3).trans (f1 b b1 b2 b3 b4 b5)
        have f2' : ∀ i, 0 ≤ i → i < 60 → w2 (51 + 2 * r) i = flF (winP (gapm (aX w))) k i := fun i i0 i1 => by rw [v2.1 (51 + 2 * r) (by omega) (by omega) (by omega)]; exact f2 i i0 i1
        have f3' : w2 (50 + 2 * r) 1 = min (cn (winP (gapm (aX w))) k) 60 := by rw [v2.1 (50 + 2 * r) (by omega) (by omega) (by omega)]; exact f3
        refine gx_if_eq (tgt := 62) (q := 52) hG d_X_best_49 rfl rfl (bi_R _) (fun c49 => ?_) (fun c49 => ?_)
        · have c9 : bi (winP (gapm (aX w)) ((k : Int) + 1)) = 0 := c49
          rw [c9, Int.add_zero] at cs
          rw [c9, if_neg (by omega)] at fs
          refine gx_iinc3 (q := 65) hG d_X_best_62 rfl rfl ?_
          refine gx_goto (tgt := 35) hG d_X_best_65 rfl ?_
          first
            | (rw [if_pos (by omega), show 50 + 2 * r + 1 = 51 + 2 * r by omega, f3', show min (cn (winP (gapm (aX w))) k) 60 = cn (winP (gapm (aX w))) k by omega] at h59
               subst h59
               exact ih (k + 1) w1 _ (by omega) (by omega) hrr hn0 hs (by rw [wu_ne (by omega), wu_ne (by omega)]; exact g1') (by rw [wu_ne (show (46 : Int) ≠ 50 + 2 * r by omega), wu_ne (show (46 : Int) ≠ 51 + 2 * r by omega), wu_ne (show (47 : Int) ≠ 50 + 2 * r by omega), wu_ne (show (47 : Int) ≠ 51 + 2 * r by omega), wu_ne (show (48 : Int) ≠ 50 + 2 * r by omega), wu_ne (show (48 : Int) ≠ 51 + 2 * r by omega)]; exact v2.2.2) (fun b b1 b2 b3 b4 b5 => by rw [wu_ne b4, wu_ne b5]; exact f1' b b1 b2 b3 b4 b5) (fun i i0 i1 => by
                 rw [wu_ne (by omega), wu_at, fs]
                 unfold up
                 split
                 · rfl
                 · exact f2' i i0 i1) (by rw [wu_eq, cs]; omega))
            | exact ih (k + 1) w1 w2 (by omega) (by omega) hrr hn0 hs g1' v2.2.2 f1' (fun i i0 i1 => by rw [fs]; exact f2' i i0 i1) (by rw [cs]; exact f3')
        · have c9 : winP (gapm (aX w)) ((k : Int) + 1) := bi_ne0.mp c49
          rw [bi_t c9] at cs
          rw [bi_t c9, if_pos ⟨rfl, by omega⟩] at fs
          refine gx_aload0 (q := 53) hG d_X_best_52 rfl ?_
          refine gx_get (q := 56) hG f_X_11 hpX rfl d_X_best_53 rfl ?_
          refine gx_iload1 (q := 57) hG d_X_best_56 rfl ?_
          refine gx_rald (q := 58) hG hpRows (by decide) (by omega) (by omega) (by first | decide | omega) (by first | decide | omega) d_X_best_57 rfl ?_
          refine gx_iload3 (q := 59) hG d_X_best_58 rfl ?_
          refine gw_V1V (q := 62) hG l_X_247 c_Rw_add (ev_Rw_add (by omega) (by omega)) (hpRow (by omega)) rfl (by decide) (Nat.le_of_ble_eq_true rfl) d_X_best_59 rfl (by decide) (fun w3 h59 => ?_)
          refine gx_iinc3 (q := 65) hG d_X_best_62 rfl rfl ?_
          refine gx_goto (tgt := 35) hG d_X_best_65 rfl ?_
          first
            | (rw [if_pos (by omega), show 50 + 2 * r + 1 = 51 + 2 * r by omega, f3', show min (cn (winP (gapm (aX w))) k) 60 = cn (winP (gapm (aX w))) k by omega] at h59
               subst h59
               exact ih (k + 1) w1 _ (by omega) (by omega) hrr hn0 hs (by rw [wu_ne (by omega), wu_ne (by omega)]; exact g1') (by rw [wu_ne (show (46 : Int) ≠ 50 + 2 * r by omega), wu_ne (show (46 : Int) ≠ 51 + 2 * r by omega), wu_ne (show (47 : Int) ≠ 50 + 2 * r by omega), wu_ne (show (47 : Int) ≠ 51 + 2 * r by omega), wu_ne (show (48 : Int) ≠ 50 + 2 * r by omega), wu_ne (show (48 : Int) ≠ 51 + 2 * r by omega)]; exact v2.2.2) (fun b b1 b2 b3 b4 b5 => by rw [wu_ne b4, wu_ne b5]; exact f1' b b1 b2 b3 b4 b5) (fun i i0 i1 => by
                 rw [wu_ne (by omega), wu_at, fs]
                 unfold up
                 split
                 · rfl
                 · exact f2' i i0 i1) (by rw [wu_eq, cs]; omega))
            | exact ih (k + 1) w1 w2 (by omega) (by omega) hrr hn0 hs g1' v2.2.2 f1' (fun i i0 i1 => by rw [fs]; exact f2' i i0 i1) (by rw [cs]; exact f3')
  refine gx_iload1 (q := 1) hG d_X_best_0 rfl ?_
  refine gx_bipush (q := 3) hG d_X_best_1 rfl rfl ?_
  refine gw_S2X (q := 6) hG l_X_110 c_X_isIn (ev_X_isIn (by first | assumption | omega) (by first | assumption | omega)) (by decide) (Nat.le_of_ble_eq_true rfl) d_X_best_3 rfl (by decide) ?_
  refine gx_if_ne (tgt := 11) (q := 9) hG d_X_best_6 rfl rfl (bi_R _) (fun c6 => ?_) (fun c6 => ?_)
  · have c6 := bi_ne0.mp c6
    refine gx_aload0 (q := 12) hG d_X_best_11 rfl ?_
    refine gw_V0I (q := 15) hG l_X_261 c_X_refusedSolving (ev_X_refusedSolving hO hj) hpX rfl (by omega) (Nat.le_of_ble_eq_true rfl) d_X_best_12 rfl (by decide) (fun z12 w1 h12 => ?_)
    obtain ⟨rfl, s1, s2⟩ := h12
    refine gx_istore2 (q := 16) hG d_X_best_15 rfl rfl ?_
    refine gx_iload2 (q := 17) hG d_X_best_16 rfl ?_
    refine gx_if_eq (tgt := 22) (q := 20) hG d_X_best_17 rfl rfl (by omega) (fun c17 => ?_) (fun c17 => ?_)
    · obtain ⟨q1, q2⟩ := s2 c17
      refine gx_aload0 (q := 23) hG d_X_best_22 rfl ?_
      refine gx_get (q := 26) hG f_X_11 hpX rfl d_X_best_23 rfl ?_
      refine gx_iload1 (q := 27) hG d_X_best_26 rfl ?_
      refine gx_rald (q := 28) hG hpRows (by decide) (by omega) (by omega) (by first | decide | omega) (by first | decide | omega) d_X_best_27 rfl ?_
      refine gx_iconst (q := 29) hG d_X_best_28 rfl ?_
      refine gx_iconst (q := 30) hG d_X_best_29 rfl ?_
      refine gw_V2V (q := 33) hG l_X_238 c_Rw_begin (ev_Rw_begin (by omega)) (hpRow (by omega)) rfl (by omega) (Nat.le_of_ble_eq_true rfl) d_X_best_30 rfl (by decide) (fun w2 h30 => ?_)
      refine gx_iconst (q := 34) hG d_X_best_33 rfl ?_
      refine gx_istore3 (q := 35) hG d_X_best_34 rfl rfl ?_
      rw [show 50 + 2 * r + 1 = 51 + 2 * r by omega] at h30
      subst h30
      have e1 : cn (winP (gapm (aX w))) 1 = 0 := by show 0 + bi _ = 0; rw [bi_f (winP_lo (by decide))]; rfl
      have e2 : flF (winP (gapm (aX w))) 1 = fun _ => 0 := by
        show (if bi _ = 1 ∧ _ then _ else _) = _
        rw [bi_f (winP_lo (by decide)), if_neg (by omega)]
        rfl
      rw [c17]
      exact L 26 1 w1 _ (by omega) (by omega) (by omega) c17 s1 (by rw [wu_ne (by omega), wc_ne (by omega)]; exact q1) (by rw [wu_ne (show (46 : Int) ≠ 50 + 2 * r by omega), wc_ne (show (46 : Int) ≠ 51 + 2 * r by omega), wu_ne (show (47 : Int) ≠ 50 + 2 * r by omega), wc_ne (show (47 : Int) ≠ 51 + 2 * r by omega), wu_ne (show (48 : Int) ≠ 50 + 2 * r by omega), wc_ne (show (48 : Int) ≠ 51 + 2 * r by omega)]; exact q2) (fun b b1 b2 b3 b4 b5 => by rw [wu_ne b4, wc_ne b5]) (fun i i0 i1 => by rw [wu_ne (by omega), wc_eq, e2]; unfold fillA; rw [if_pos (by omega)]) (by rw [wu_eq, e1]; rfl)
    · refine gx_iload2 (q := 21) hG d_X_best_20 rfl ?_
      refine gx_ireturn hG d_X_best_21 rfl rfl ?_
      refine ⟨_, rfl, _, rfl, ?_⟩
      unfold sp_best; rw [if_neg (by omega), if_pos c17]; exact ⟨rfl, s1⟩
  · have c6 := bi_eq0.mp c6
    refine gx_iconst (q := 10) hG d_X_best_9 rfl ?_
    refine gx_ireturn hG d_X_best_10 rfl rfl ?_
    refine ⟨_, rfl, _, rfl, ?_⟩
    unfold sp_best; rw [if_pos (by omega)]; exact PX_id hj

