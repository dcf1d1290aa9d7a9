/-! part 42: calls that only tell, on both sides -/
def sp_player (s : Sta) (p : Int) : Int := if 0 ≤ p ∧ p < s 4 2 then s 6 p else -1
def sp_findings (s : Sta) (f : Int) : Int := if 1 ≤ f ∧ f ≤ 5 then s 7 f else -1
theorem ev_X_law {w : Mem} : EvX y_X_law b_X_law 1 (some .int) (1) [Vr 0] w (Vi (aX w 4 0)) := by
  refine Ev.mk (isI := false) (by decide +kernel) nofun (Nat.le_of_ble_eq_true rfl) (fun G hG => ?_)
  show G 0 [some (Vr 0)] [] 102 (hp w)
  refine gx_aload0 (q := 1) hG d_X_law_0 rfl ?_
  refine gx_get (q := 4) hG f_X_21 hpX rfl d_X_law_1 rfl ?_
  refine gx_get (q := 7) hG f_X_148 (hpGame (by unfold isG; omega)) rfl d_X_law_4 rfl ?_
  refine gx_ireturn hG d_X_law_7 rfl rfl ?_
  exact ⟨_, rfl, rfl, rfl⟩
theorem ev_M_law {w : Mem} : EvX y_M_law b_M_law 1 (some .int) (1) [Vr 76] w (Vi (aM w 4 0)) := by
  refine Ev.mk (isI := false) (by decide +kernel) nofun (Nat.le_of_ble_eq_true rfl) (fun G hG => ?_)
  show G 0 [some (Vr 76)] [] 102 (hp w)
  refine gx_aload0 (q := 1) hG d_M_law_0 rfl ?_
  refine gx_get (q := 4) hG f_M_172 hpM rfl d_M_law_1 rfl ?_
  refine gx_ireturn hG d_M_law_4 rfl rfl ?_
  exact ⟨_, rfl, rfl, rfl⟩
theorem ev_X_asked {w : Mem} : EvX y_X_asked b_X_asked 1 (some .int) (1) [Vr 0] w (Vi (aX w 4 3)) := by
  refine Ev.mk (isI := false) (by decide +kernel) nofun (Nat.le_of_ble_eq_true rfl) (fun G hG => ?_)
  show G 0 [some (Vr 0)] [] 102 (hp w)
  refine gx_aload0 (q := 1) hG d_X_asked_0 rfl ?_
  refine gx_get (q := 4) hG f_X_99 hpX rfl d_X_asked_1 rfl ?_
  refine gx_ireturn hG d_X_asked_4 rfl rfl ?_
  exact ⟨_, rfl, rfl, rfl⟩
theorem ev_M_asked {w : Mem} : EvX y_M_asked b_M_asked 1 (some .int) (1) [Vr 76] w (Vi (aM w 4 3)) := by
  refine Ev.mk (isI := false) (by decide +kernel) nofun (Nat.le_of_ble_eq_true rfl) (fun G hG => ?_)
  show G 0 [some (Vr 76)] [] 102 (hp w)
  refine gx_aload0 (q := 1) hG d_M_asked_0 rfl ?_
  refine gx_get (q := 4) hG f_M_100 hpM rfl d_M_asked_1 rfl ?_
  refine gx_ireturn hG d_M_asked_4 rfl rfl ?_
  exact ⟨_, rfl, rfl, rfl⟩
theorem ev_X_upper {w : Mem} : EvX y_X_upper b_X_upper 1 (some .long) (1) [Vr 0] w (Vj (aX w 4 4)) := by
  refine Ev.mk (isI := false) (by decide +kernel) nofun (Nat.le_of_ble_eq_true rfl) (fun G hG => ?_)
  show G 0 [some (Vr 0)] [] 102 (hp w)
  refine gx_aload0 (q := 1) hG d_X_upper_0 rfl ?_
  refine gx_get (q := 4) hG f_X_289 hpX rfl d_X_upper_1 rfl ?_
  refine gx_lreturn hG d_X_upper_4 rfl rfl ?_
  exact ⟨_, rfl, rfl, rfl⟩
theorem ev_M_upper {w : Mem} : EvX y_M_upper b_M_upper 1 (some .long) (1) [Vr 76] w (Vj (aM w 4 4)) := by
  refine Ev.mk (isI := false) (by decide +kernel) nofun (Nat.le_of_ble_eq_true rfl) (fun G hG => ?_)
  show G 0 [some (Vr 76)] [] 102 (hp w)
  refine gx_aload0 (q := 1) hG d_M_upper_0 rfl ?_
  refine gx_get (q := 4) hG f_M_103 hpM rfl d_M_upper_1 rfl ?_
  refine gx_lreturn hG d_M_upper_4 rfl rfl ?_
  exact ⟨_, rfl, rfl, rfl⟩
theorem ev_X_lower {w : Mem} : EvX y_X_lower b_X_lower 1 (some .long) (1) [Vr 0] w (Vj (aX w 4 5)) := by
  refine Ev.mk (isI := false) (by decide +kernel) nofun (Nat.le_of_ble_eq_true rfl) (fun G hG => ?_)
  show G 0 [some (Vr 0)] [] 102 (hp w)
  refine gx_aload0 (q := 1) hG d_X_lower_0 rfl ?_
  refine gx_get (q := 4) hG f_X_80 hpX rfl d_X_lower_1 rfl ?_
  refine gx_lreturn hG d_X_lower_4 rfl rfl ?_
  exact ⟨_, rfl, rfl, rfl⟩
theorem ev_M_lower {w : Mem} : EvX y_M_lower b_M_lower 1 (some .long) (1) [Vr 76] w (Vj (aM w 4 5)) := by
  refine Ev.mk (isI := false) (by decide +kernel) nofun (Nat.le_of_ble_eq_true rfl) (fun G hG => ?_)
  show G 0 [some (Vr 76)] [] 102 (hp w)
  refine gx_aload0 (q := 1) hG d_M_lower_0 rfl ?_
  refine gx_get (q := 4) hG f_M_88 hpM rfl d_M_lower_1 rfl ?_
  refine gx_lreturn hG d_M_lower_4 rfl rfl ?_
  exact ⟨_, rfl, rfl, rfl⟩
theorem ev_X_finding {w : Mem} : EvX y_X_finding b_X_finding 1 (some .int) (1) [Vr 0] w (Vi (aX w 4 6)) := by
  refine Ev.mk (isI := false) (by decide +kernel) nofun (Nat.le_of_ble_eq_true rfl) (fun G hG => ?_)
  show G 0 [some (Vr 0)] [] 102 (hp w)
  refine gx_aload0 (q := 1) hG d_X_finding_0 rfl ?_
  refine gx_get (q := 4) hG f_X_302 hpX rfl d_X_finding_1 rfl ?_
  refine gx_ireturn hG d_X_finding_4 rfl rfl ?_
  exact ⟨_, rfl, rfl, rfl⟩
theorem ev_M_finding {w : Mem} : EvX y_M_finding b_M_finding 1 (some .int) (1) [Vr 76] w (Vi (aM w 4 6)) := by
  refine Ev.mk (isI := false) (by decide +kernel) nofun (Nat.le_of_ble_eq_true rfl) (fun G hG => ?_)
  show G 0 [some (Vr 76)] [] 102 (hp w)
  refine gx_aload0 (q := 1) hG d_M_finding_0 rfl ?_
  refine gx_get (q := 4) hG f_M_92 hpM rfl d_M_finding_1 rfl ?_
  refine gx_ireturn hG d_M_finding_4 rfl rfl ?_
  exact ⟨_, rfl, rfl, rfl⟩
theorem ev_X_findings {w : Mem} {f : Int} (hf : R3 f) : EvX y_X_findings b_X_findings 2 (some .int) (1) [Vr 0, Vi f] w (Vi (sp_findings (aX w) f)) := by
  refine Ev.mk (isI := false) (by decide +kernel) nofun (Nat.le_of_ble_eq_true rfl) (fun G hG => ?_)
  show G 0 [some (Vr 0), some (Vi f)] [] 102 (hp w)
  refine gx_iload1 (q := 1) hG d_X_findings_0 rfl ?_
  refine gx_iconst (q := 2) hG d_X_findings_1 rfl ?_
  refine gx_icmp_lt (tgt := 10) (q := 5) hG d_X_findings_2 rfl rfl (by omega) (by omega) (fun c2 => ?_) (fun c2 => ?_)
  · refine gx_iconst (q := 11) hG d_X_findings_10 rfl ?_
    refine gx_goto (tgt := 20) hG d_X_findings_11 rfl ?_
    refine gx_ireturn hG d_X_findings_20 rfl rfl ?_
    first
      | exact ⟨_, rfl, by unfold sp_findings; rw [if_neg (by omega)], rfl⟩
      | exact ⟨_, rfl, by unfold sp_findings; rw [if_pos (by omega), aX_at7 (by omega)], rfl⟩
  · refine gx_iload1 (q := 6) hG d_X_findings_5 rfl ?_
    refine gx_iconst (q := 7) hG d_X_findings_6 rfl ?_
    refine gx_icmp_le (tgt := 14) (q := 10) hG d_X_findings_7 rfl rfl (by omega) (by omega) (fun c7 => ?_) (fun c7 => ?_)
    · refine gx_aload0 (q := 15) hG d_X_findings_14 rfl ?_
      refine gx_get (q := 18) hG f_X_84 hpX rfl d_X_findings_15 rfl ?_
      refine gx_iload1 (q := 19) hG d_X_findings_18 rfl ?_
      refine gw_iald (q := 20) hG rfl (by omega) (by omega) d_X_findings_19 rfl ?_
      refine gx_ireturn hG d_X_findings_20 rfl rfl ?_
      first
        | exact ⟨_, rfl, by unfold sp_findings; rw [if_neg (by omega)], rfl⟩
        | exact ⟨_, rfl, by unfold sp_findings; rw [if_pos (by omega), aX_at7 (by omega)], rfl⟩
    · refine gx_iconst (q := 11) hG d_X_findings_10 rfl ?_
      refine gx_goto (tgt := 20) hG d_X_findings_11 rfl ?_
      refine gx_ireturn hG d_X_findings_20 rfl rfl ?_
      first
        | exact ⟨_, rfl, by unfold sp_findings; rw [if_neg (by omega)], rfl⟩
        | exact ⟨_, rfl, by unfold sp_findings; rw [if_pos (by omega), aX_at7 (by omega)], rfl⟩
theorem ev_M_findings {w : Mem} {f : Int} (hf : R3 f) : EvX y_M_findings b_M_findings 2 (some .int) (2) [Vr 76, Vi f] w (Vi (sp_findings (aM w) f)) := by
  refine Ev.mk (isI := false) (by decide +kernel) nofun (Nat.le_of_ble_eq_true rfl) (fun G hG => ?_)
  show G 0 [some (Vr 76), some (Vi f)] [] 102 (hp w)
  refine gx_iload1 (q := 1) hG d_M_findings_0 rfl ?_
  refine gx_iconst (q := 2) hG d_M_findings_1 rfl ?_
  refine gx_iconst (q := 3) hG d_M_findings_2 rfl ?_
  refine gw_S3X (q := 6) hG l_M_96 c_M_in (ev_M_in (by omega) (by omega) (by omega)) (by decide) (Nat.le_of_ble_eq_true rfl) d_M_findings_3 rfl (by decide) ?_
  refine gx_if_eq (tgt := 18) (q := 9) hG d_M_findings_6 rfl rfl (bi_R _) (fun c6 => ?_) (fun c6 => ?_)
  · have c6 := bi_eq0.mp c6
    refine gx_iconst (q := 19) hG d_M_findings_18 rfl ?_
    refine gx_ireturn hG d_M_findings_19 rfl rfl ?_
    first
      | exact ⟨_, rfl, by unfold sp_findings; rw [if_neg (by omega)], rfl⟩
      | exact ⟨_, rfl, by unfold sp_findings; rw [if_pos (by omega), aM_at7 (by omega)], rfl⟩
  · have c6 := bi_ne0.mp c6
    refine gx_aload0 (q := 10) hG d_M_findings_9 rfl ?_
    refine gx_get (q := 13) hG f_M_7 hpM rfl d_M_findings_10 rfl ?_
    refine gx_iload1 (q := 14) hG d_M_findings_13 rfl ?_
    refine gw_iald (q := 15) hG rfl (by omega) (by omega) d_M_findings_14 rfl ?_
    refine gx_goto (tgt := 19) hG d_M_findings_15 rfl ?_
    refine gx_ireturn hG d_M_findings_19 rfl rfl ?_
    first
      | exact ⟨_, rfl, by unfold sp_findings; rw [if_neg (by omega)], rfl⟩
      | exact ⟨_, rfl, by unfold sp_findings; rw [if_pos (by omega), aM_at7 (by omega)], rfl⟩
theorem aX_at6 {w : Mem} {p : Int} (h : 0 ≤ p ∧ p < aX w 4 2) : aX w 6 p = w 14 p := if_pos h
theorem aM_at6 {w : Mem} {p : Int} (h : 0 ≤ p ∧ p < aM w 4 2) : aM w 6 p = w 84 p := if_pos h
theorem OK.pc {s : Sta} (h : OK s) : 0 ≤ s 4 2 ∧ s 4 2 ≤ 2 := h.2.2.2.2.2.2.1
theorem OK.nn {s : Sta} (h : OK s) : 0 ≤ s 4 1 ∧ s 4 1 ≤ 13 := h.2.2.2.2.2.1
theorem ev_X_player {w : Mem} {p : Int} (hO : OK (aX w)) (hp0 : R3 p) : EvX y_X_player b_X_player 2 (some .int) (2) [Vr 0, Vi p] w (Vi (sp_player (aX w) p)) := by
  refine Ev.mk (isI := false) (by decide +kernel) nofun (Nat.le_of_ble_eq_true rfl) (fun G hG => ?_)
  show G 0 [some (Vr 0), some (Vi p)] [] 102 (hp w)
  have hp2 := hO.pc
  have e2 : aX w 4 2 = w 0 7 := rfl
  rw [e2] at hp2
  refine gx_iload1 (q := 1) hG d_X_player_0 rfl ?_
  refine gx_aload0 (q := 2) hG d_X_player_1 rfl ?_
  refine gx_get (q := 5) hG f_X_145 hpX rfl d_X_player_2 rfl ?_
  refine gw_S2X (q := 8) hG l_X_110 c_X_isIn (ev_X_isIn (by first | assumption | omega) (by first | assumption | omega)) (by decide) (Nat.le_of_ble_eq_true rfl) d_X_player_5 rfl (by decide) ?_
  refine gx_if_eq (tgt := 20) (q := 11) hG d_X_player_8 rfl rfl (bi_R _) (fun c8 => ?_) (fun c8 => ?_)
  · have c8 := bi_eq0.mp c8
    refine gx_iconst (q := 21) hG d_X_player_20 rfl ?_
    refine gx_ireturn hG d_X_player_21 rfl rfl ?_
    first
      | exact ⟨_, rfl, by unfold sp_player; rw [if_neg (by omega)], rfl⟩
      | exact ⟨_, rfl, by unfold sp_player; rw [if_pos (by omega), aX_at6 (by omega)], rfl⟩
  · have c8 := bi_ne0.mp c8
    refine gx_aload0 (q := 12) hG d_X_player_11 rfl ?_
    refine gx_get (q := 15) hG f_X_55 hpX rfl d_X_player_12 rfl ?_
    refine gx_iload1 (q := 16) hG d_X_player_15 rfl ?_
    refine gw_iald (q := 17) hG rfl (by omega) (by omega) d_X_player_16 rfl ?_
    refine gx_goto (tgt := 21) hG d_X_player_17 rfl ?_
    refine gx_ireturn hG d_X_player_21 rfl rfl ?_
    first
      | exact ⟨_, rfl, by unfold sp_player; rw [if_neg (by omega)], rfl⟩
      | exact ⟨_, rfl, by unfold sp_player; rw [if_pos (by omega), aX_at6 (by omega)], rfl⟩
theorem ev_M_isPlayer {w : Mem} {p : Int} (hO : OK (aM w)) (hp0 : R3 p) : EvX y_M_isPlayer b_M_isPlayer 2 (some .boolean) (2) [Vr 76, Vi p] w (Vi (bi (0 ≤ p ∧ p < aM w 4 2))) := by
  refine Ev.mk (isI := false) (by decide +kernel) nofun (Nat.le_of_ble_eq_true rfl) (fun G hG => ?_)
  show G 0 [some (Vr 76), some (Vi p)] [] 102 (hp w)
  have hp2 := hO.pc
  have e2 : aM w 4 2 = w 76 12 := rfl
  rw [e2] at hp2
  refine gx_iload1 (q := 1) hG d_M_isPlayer_0 rfl ?_
  refine gx_iconst (q := 2) hG d_M_isPlayer_1 rfl ?_
  refine gx_aload0 (q := 3) hG d_M_isPlayer_2 rfl ?_
  refine gx_get (q := 6) hG f_M_175 hpM rfl d_M_isPlayer_3 rfl ?_
  refine gx_iconst (q := 7) hG d_M_isPlayer_6 rfl ?_
  refine gx_isub (q := 8) hG d_M_isPlayer_7 rfl ?_
  refine gw_S3X (q := 11) hG l_M_96 c_M_in (ev_M_in (by omega) (by omega) (by omega)) (by decide) (Nat.le_of_ble_eq_true rfl) d_M_isPlayer_8 rfl (by decide) ?_
  refine gx_zreturn hG d_M_isPlayer_11 rfl rfl (by first | exact bi_01 _ | decide | omega) ?_
  exact ⟨_, rfl, by rw [e2, show (0 ≤ p ∧ p ≤ w 76 12 - 1) = (0 ≤ p ∧ p < w 76 12) from propext (by omega)], rfl⟩
theorem ev_M_player {w : Mem} {p : Int} (hO : OK (aM w)) (hp0 : R3 p) : EvX y_M_player b_M_player 2 (some .int) (3) [Vr 76, Vi p] w (Vi (sp_player (aM w) p)) := by
  refine Ev.mk (isI := false) (by decide +kernel) nofun (Nat.le_of_ble_eq_true rfl) (fun G hG => ?_)
  show G 0 [some (Vr 76), some (Vi p)] [] 102 (hp w)
  have hp2 := hO.pc
  refine gx_aload0 (q := 1) hG d_M_player_0 rfl ?_
  refine gx_iload1 (q := 2) hG d_M_player_1 rfl ?_
  refine gw_V1X (q := 5) hG l_M_181 c_M_isPlayer (ev_M_isPlayer hO hp0) hpM rfl (by decide) (Nat.le_of_ble_eq_true rfl) d_M_player_2 rfl (by decide) ?_
  refine gx_if_eq (tgt := 17) (q := 8) hG d_M_player_5 rfl rfl (bi_R _) (fun c5 => ?_) (fun c5 => ?_)
  · have c5 := bi_eq0.mp c5
    refine gx_iconst (q := 18) hG d_M_player_17 rfl ?_
    refine gx_ireturn hG d_M_player_18 rfl rfl ?_
    first
      | exact ⟨_, rfl, by unfold sp_player; rw [if_neg (by omega)], rfl⟩
      | exact ⟨_, rfl, by unfold sp_player; rw [if_pos (by omega), aM_at6 (by omega)], rfl⟩
  · have c5 := bi_ne0.mp c5
    refine gx_aload0 (q := 9) hG d_M_player_8 rfl ?_
    refine gx_get (q := 12) hG f_M_32 hpM rfl d_M_player_9 rfl ?_
    refine gx_iload1 (q := 13) hG d_M_player_12 rfl ?_
    refine gw_iald (q := 14) hG rfl (by omega) (by omega) d_M_player_13 rfl ?_
    refine gx_goto (tgt := 18) hG d_M_player_14 rfl ?_
    refine gx_ireturn hG d_M_player_18 rfl rfl ?_
    first
      | exact ⟨_, rfl, by unfold sp_player; rw [if_neg (by omega)], rfl⟩
      | exact ⟨_, rfl, by unfold sp_player; rw [if_pos (by omega), aM_at6 (by omega)], rfl⟩

