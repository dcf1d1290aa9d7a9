/-! part 48: the reference says -/
def SM (w w' : Mem) : Prop := aM w' = aM w ∧ ∀ b, b < 76 → w' b = w b
theorem SM.tr {w w' w2 : Mem} (h : SM w w') (h2 : SM w' w2) : SM w w2 := ⟨h2.1.trans h.1, fun b hb => (h2.2 b hb).trans (h.2 b hb)⟩
theorem SM_83 {w : Mem} {F : Int → Int} : SM w (wc w 83 F) := ⟨aM_83, fun b hb => wc_ne (by omega)⟩
theorem SM_id {w : Mem} : SM w w := ⟨rfl, fun _ _ => rfl⟩
theorem SM.ok {w w' : Mem} (h : SM w w') (hO : OK (aM w)) : OK (aM w') := by rw [h.1]; exact hO
theorem PM_tr {w w2 w' : Mem} {p : Int × Sta} {z : Int} (h : SM w w2) (h2 : PM w2 p z w') : PM w p z w' := ⟨h2.1, h2.2.1, fun b hb => (h2.2.2 b hb).trans (h.2 b hb)⟩
theorem aM_sg {w w' : Mem} (h : ∀ b, b ≠ 76 → b ≠ 85 → w' b = w b) (h2 : w' 76 0 = w 76 0 ∧ w' 76 2 = w 76 2 ∧ w' 76 3 = w 76 3 ∧ w' 76 4 = w 76 4 ∧ w' 76 12 = w 76 12) : aM w' = sg (aM w) (w' 76 11) (w' 76 14) (w' 85) := by
  obtain ⟨a0, a2, a3, a4, a12⟩ := h2
  funext c i
  match c with
  | 0 => show (if 0 ≤ i ∧ i < 6 then w' 78 i else 0) = (if 0 ≤ i ∧ i < 6 then w 78 i else 0); rw [h 78 (by omega) (by omega)]
  | 1 => show (if 0 ≤ i ∧ i < 360 then w' 79 i else 0) = (if 0 ≤ i ∧ i < 360 then w 79 i else 0); rw [h 79 (by omega) (by omega)]
  | 2 => show (if 0 ≤ i ∧ i < 4 then w' 81 i else 0) = (if 0 ≤ i ∧ i < 4 then w 81 i else 0); rw [h 81 (by omega) (by omega)]
  | 3 => show (if 0 ≤ i ∧ i < 240 then w' 82 i else 0) = (if 0 ≤ i ∧ i < 240 then w 82 i else 0); rw [h 82 (by omega) (by omega)]
  | 4 =>
    show (if i = 0 then w' 76 11 else if i = 1 then w' 76 14 else if i = 2 then w' 76 12 else if i = 3 then w' 76 2 else if i = 4 then w' 76 3 else if i = 5 then w' 76 4 else if i = 6 then w' 76 0 else 0) = _
    rw [a0, a2, a3, a4, a12]
    unfold sg
    rw [if_neg (show ¬ (4 : Nat) = 5 by decide)]
    by_cases e0 : i = 0
    · rw [if_pos e0, if_pos ⟨rfl, e0⟩]
    · by_cases e1 : i = 1
      · rw [if_neg e0, if_pos e1, if_neg (show ¬ ((4 : Nat) = 4 ∧ i = 0) from fun q => e0 q.2), if_pos ⟨rfl, e1⟩]
      · rw [if_neg e0, if_neg e1, if_neg (show ¬ ((4 : Nat) = 4 ∧ i = 0) from fun q => e0 q.2), if_neg (show ¬ ((4 : Nat) = 4 ∧ i = 1) from fun q => e1 q.2)]
        show _ = (if i = 0 then _ else if i = 1 then _ else _)
        rw [if_neg e0, if_neg e1]
  | 5 => rfl
  | 6 => show (if 0 ≤ i ∧ i < w' 76 12 then w' 84 i else 0) = (if 0 ≤ i ∧ i < w 76 12 then w 84 i else 0); rw [a12, h 84 (by omega) (by omega)]
  | 7 => show (if 1 ≤ i ∧ i ≤ 5 then w' 77 i else 0) = (if 1 ≤ i ∧ i ≤ 5 then w 77 i else 0); rw [h 77 (by omega) (by omega)]
  | 8 => show (if 0 ≤ i ∧ i < 3 then w' 88 i else 0) = (if 0 ≤ i ∧ i < 3 then w 88 i else 0); rw [h 88 (by omega) (by omega)]
  | 9 => show (if 0 ≤ i ∧ i < 3 ∧ 0 ≤ w' 88 i then w' 89 i else 0) = (if 0 ≤ i ∧ i < 3 ∧ 0 ≤ w 88 i then w 89 i else 0); rw [h 88 (by omega) (by omega), h 89 (by omega) (by omega)]
  | 10 => show (if 0 ≤ i ∧ i < 42 ∧ i % 14 < w' 88 (i / 14) then w' 90 i else 0) = (if 0 ≤ i ∧ i < 42 ∧ i % 14 < w 88 (i / 14) then w 90 i else 0); rw [h 88 (by omega) (by omega), h 90 (by omega) (by omega)]
  | c + 11 => rfl
theorem OK_sg {s : Sta} {l n : Int} {F : Int → Int} (h : OK s) (hl : l = 0 ∨ l = 1 ∨ l = 2) (hn : 0 ≤ n ∧ n ≤ 13) (hF : ∀ i, 0 ≤ i → i < n → 1 ≤ F i ∧ F i ≤ 60) (h13 : n = 13 → F 12 = 1) : OK (sg s l n F) := by
  obtain ⟨a1, a2, a3, a4, a5, a6, a7, a8, a9, a10, a11⟩ := h
  refine ⟨a1, a2, a3, a4, hl, hn, a7, fun i i0 i1 => ?_, a9, fun e => ?_, a11⟩
  · have i1' : i < n := i1
    show 1 ≤ (if 0 ≤ i ∧ i < n then F i else 0) ∧ (if 0 ≤ i ∧ i < n then F i else 0) ≤ 60
    rw [if_pos ⟨i0, i1'⟩]
    exact hF i i0 i1'
  · have e' : n = 13 := e
    show (if 0 ≤ (12 : Int) ∧ 12 < n then F 12 else 0) = 1
    rw [if_pos (by omega)]
    exact h13 e'
theorem OK.say {s : Sta} {v : Int} (h : OK s) (hv : 1 ≤ v ∧ v ≤ 60) (ho : ¬ overS s) (hs : ¬ (12 ≤ s 4 1 ∧ v ≠ 1)) : s 4 1 ≤ 12 ∧ OK (sayS s v) := by
  have hn := h.nn
  have h12 : s 4 1 ≤ 12 := by
    by_cases e : s 4 1 = 13
    · refine absurd (Or.inl ?_) ho
      unfold lastS
      rw [if_pos (by omega), show s 4 1 - 1 = 12 by omega]
      exact h.l13 e
    · omega
  refine ⟨h12, OK_sg h h.law (by omega) (fun i i0 i1 => ?_) (fun e => ?_)⟩
  · unfold up
    split
    · exact hv
    · exact h.num i i0 (by omega)
  · unfold up
    rw [if_pos (by omega)]
    omega
theorem ev_M_saidOne {w : Mem} (hO : OK (aM w)) : EvX y_M_saidOne b_M_saidOne 1 (some .boolean) (1) [Vr 76] w (Vi (bi (lastS (aM w) = 1))) := by
  refine Ev.mk (isI := false) (by decide +kernel) nofun (Nat.le_of_ble_eq_true rfl) (fun G hG => ?_)
  show G 0 [some (Vr 76)] [] 102 (hp w)
  have hn := hO.nn
  have e1 : aM w 4 1 = w 76 14 := rfl
  rw [e1] at hn
  have el : lastS (aM w) = if 1 ≤ w 76 14 then w 85 (w 76 14 - 1) else 0 := by
    unfold lastS
    rw [e1]
    split
    · rw [aM_at5 (by omega)]
    · rfl
  have hm : 1 ≤ w 76 14 → 1 ≤ w 85 (w 76 14 - 1) ∧ w 85 (w 76 14 - 1) ≤ 60 := fun q => hO.mn (w 76 14 - 1) (by omega) (by omega)
  refine gx_aload0 (q := 1) hG d_M_saidOne_0 rfl ?_
  refine gx_get (q := 4) hG f_M_178 hpM rfl d_M_saidOne_1 rfl ?_
  refine gx_if_le (tgt := 26) (q := 7) hG d_M_saidOne_4 rfl rfl (by omega) (fun c4 => ?_) (fun c4 => ?_)
  · refine gx_iconst (q := 27) hG d_M_saidOne_26 rfl ?_
    refine gx_zreturn hG d_M_saidOne_27 rfl rfl (by first | exact bi_01 _ | decide | omega) ?_
    first
      | exact ⟨_, rfl, by rw [el, if_pos (show 1 ≤ w 76 14 by omega), bi_t (by omega)], rfl⟩
      | exact ⟨_, rfl, by rw [el, if_pos (show 1 ≤ w 76 14 by omega), bi_f (by omega)], rfl⟩
      | exact ⟨_, rfl, by rw [el, if_neg (show ¬ 1 ≤ w 76 14 by omega), bi_f (by omega)], rfl⟩
  · have hm' := hm (by omega)
    refine gx_aload0 (q := 8) hG d_M_saidOne_7 rfl ?_
    refine gx_get (q := 11) hG f_M_35 hpM rfl d_M_saidOne_8 rfl ?_
    refine gx_aload0 (q := 12) hG d_M_saidOne_11 rfl ?_
    refine gx_get (q := 15) hG f_M_178 hpM rfl d_M_saidOne_12 rfl ?_
    refine gx_iconst (q := 16) hG d_M_saidOne_15 rfl ?_
    refine gx_isub (q := 17) hG d_M_saidOne_16 rfl ?_
    refine gw_iald (q := 18) hG rfl (by omega) (by omega) d_M_saidOne_17 rfl ?_
    refine gx_iconst (q := 19) hG d_M_saidOne_18 rfl ?_
    refine gx_icmp_ne (tgt := 26) (q := 22) hG d_M_saidOne_19 rfl rfl (by omega) (by omega) (fun c19 => ?_) (fun c19 => ?_)
    · refine gx_iconst (q := 27) hG d_M_saidOne_26 rfl ?_
      refine gx_zreturn hG d_M_saidOne_27 rfl rfl (by first | exact bi_01 _ | decide | omega) ?_
      first
        | exact ⟨_, rfl, by rw [el, if_pos (show 1 ≤ w 76 14 by omega), bi_t (by omega)], rfl⟩
        | exact ⟨_, rfl, by rw [el, if_pos (show 1 ≤ w 76 14 by omega), bi_f (by omega)], rfl⟩
        | exact ⟨_, rfl, by rw [el, if_neg (show ¬ 1 ≤ w 76 14 by omega), bi_f (by omega)], rfl⟩
    · refine gx_iconst (q := 23) hG d_M_saidOne_22 rfl ?_
      refine gx_goto (tgt := 27) hG d_M_saidOne_23 rfl ?_
      refine gx_zreturn hG d_M_saidOne_27 rfl rfl (by first | exact bi_01 _ | decide | omega) ?_
      first
        | exact ⟨_, rfl, by rw [el, if_pos (show 1 ≤ w 76 14 by omega), bi_t (by omega)], rfl⟩
        | exact ⟨_, rfl, by rw [el, if_pos (show 1 ≤ w 76 14 by omega), bi_f (by omega)], rfl⟩
        | exact ⟨_, rfl, by rw [el, if_neg (show ¬ 1 ≤ w 76 14 by omega), bi_f (by omega)], rfl⟩
theorem ev_M_isOver {w : Mem} (hO : OK (aM w)) : EvI y_M_isOver b_M_isOver 1 (some .boolean) (5) [Vr 76] w (fun z w' => z = bi (overS (aM w)) ∧ SM w w') := by
  refine Ev.mk (isI := false) (by decide +kernel) nofun (Nat.le_of_ble_eq_true rfl) (fun G hG => ?_)
  show G 0 [some (Vr 76)] [] 102 (hp w)
  have hb := cn_bd (P := fun v => ¬ hadS (aM w) v) 60
  have hz := cn_zero (P := fun v => ¬ hadS (aM w) v) 60
  have el : leftS (aM w) = cn (fun v => ¬ hadS (aM w) v) 60 := rfl
  rw [← el] at hb hz
  refine gx_aload0 (q := 1) hG d_M_isOver_0 rfl ?_
  refine gw_V0X (q := 4) hG l_M_188 c_M_saidOne (ev_M_saidOne hO) hpM rfl (by decide) (Nat.le_of_ble_eq_true rfl) d_M_isOver_1 rfl (by decide) ?_
  refine gx_if_ne (tgt := 14) (q := 7) hG d_M_isOver_4 rfl rfl (bi_R _) (fun c4 => ?_) (fun c4 => ?_)
  · have c4 := bi_ne0.mp c4
    refine gx_iconst (q := 15) hG d_M_isOver_14 rfl ?_
    refine gx_goto (tgt := 19) hG d_M_isOver_15 rfl ?_
    refine gx_zreturn hG d_M_isOver_19 rfl rfl (by first | exact bi_01 _ | decide | omega) ?_
    first
      | exact ⟨_, rfl, _, rfl, by rw [bi_t (show overS (aM w) from Or.inl c4)], SM_id⟩
      | exact ⟨_, rfl, _, rfl, by rw [bi_t (show overS (aM w) from Or.inr (fun v v0 v1 => Classical.byContradiction (fun q => hz.mp (by omega) v v0 (by omega) q)))], SM_83⟩
      | exact ⟨_, rfl, _, rfl, by rw [bi_f (show ¬ overS (aM w) from fun q => q.elim c4 (fun q => absurd (hz.mpr (fun v v0 v1 q2 => q2 (q v v0 (by omega)))) (by omega)))], SM_83⟩
  · have c4 := bi_eq0.mp c4
    refine gx_aload0 (q := 8) hG d_M_isOver_7 rfl ?_
    refine gw_V0I (q := 11) hG l_M_192 c_M_leftNow (ev_M_leftNow hO) hpM rfl (by decide) (Nat.le_of_ble_eq_true rfl) d_M_isOver_8 rfl (by decide) (fun z8 w h8 => ?_)
    obtain ⟨rfl, F, rfl⟩ := h8
    refine gx_if_ne (tgt := 18) (q := 14) hG d_M_isOver_11 rfl rfl (by omega) (fun c11 => ?_) (fun c11 => ?_)
    · refine gx_iconst (q := 19) hG d_M_isOver_18 rfl ?_
      refine gx_zreturn hG d_M_isOver_19 rfl rfl (by first | exact bi_01 _ | decide | omega) ?_
      first
        | exact ⟨_, rfl, _, rfl, by rw [bi_t (show overS (aM w) from Or.inl c4)], SM_id⟩
        | exact ⟨_, rfl, _, rfl, by rw [bi_t (show overS (aM w) from Or.inr (fun v v0 v1 => Classical.byContradiction (fun q => hz.mp (by omega) v v0 (by omega) q)))], SM_83⟩
        | exact ⟨_, rfl, _, rfl, by rw [bi_f (show ¬ overS (aM w) from fun q => q.elim c4 (fun q => absurd (hz.mpr (fun v v0 v1 q2 => q2 (q v v0 (by omega)))) (by omega)))], SM_83⟩
    · refine gx_iconst (q := 15) hG d_M_isOver_14 rfl ?_
      refine gx_goto (tgt := 19) hG d_M_isOver_15 rfl ?_
      refine gx_zreturn hG d_M_isOver_19 rfl rfl (by first | exact bi_01 _ | decide | omega) ?_
      first
        | exact ⟨_, rfl, _, rfl, by rw [bi_t (show overS (aM w) from Or.inl c4)], SM_id⟩
        | exact ⟨_, rfl, _, rfl, by rw [bi_t (show overS (aM w) from Or.inr (fun v v0 v1 => Classical.byContradiction (fun q => hz.mp (by omega) v v0 (by omega) q)))], SM_83⟩
        | exact ⟨_, rfl, _, rfl, by rw [bi_f (show ¬ overS (aM w) from fun q => q.elim c4 (fun q => absurd (hz.mpr (fun v v0 v1 q2 => q2 (q v v0 (by omega)))) (by omega)))], SM_83⟩
theorem ev_M_may {w : Mem} {v : Int} (hO : OK (aM w)) (hv : R3 v) : EvI y_M_may b_M_may 2 (some .int) (4) [Vr 76, Vi v] w (fun z w' => z = sp_may (aM w) v ∧ SM w w') := by
  refine Ev.mk (isI := false) (by decide +kernel) nofun (Nat.le_of_ble_eq_true rfl) (fun G hG => ?_)
  show G 0 [some (Vr 76), some (Vi v)] [] 102 (hp w)
  refine gx_iload1 (q := 1) hG d_M_may_0 rfl ?_
  refine gx_iconst (q := 2) hG d_M_may_1 rfl ?_
  refine gx_bipush (q := 4) hG d_M_may_2 rfl rfl ?_
  refine gw_S3X (q := 7) hG l_M_96 c_M_in (ev_M_in (by omega) (by omega) (by omega)) (by decide) (Nat.le_of_ble_eq_true rfl) d_M_may_4 rfl (by decide) ?_
  refine gx_if_eq (tgt := 26) (q := 10) hG d_M_may_7 rfl rfl (bi_R _) (fun c7 => ?_) (fun c7 => ?_)
  · have c7 := bi_eq0.mp c7
    refine gx_iconst (q := 27) hG d_M_may_26 rfl ?_
    refine gx_ireturn hG d_M_may_27 rfl rfl ?_
    first
      | exact ⟨_, rfl, _, rfl, by unfold sp_may; rw [if_pos (by omega)], SM_id⟩
      | exact ⟨_, rfl, _, rfl, by unfold sp_may; rw [if_neg (by omega)]; have := bi_01 (¬ hadS (aM w) v); omega, SM_83⟩
  · have c7 := bi_ne0.mp c7
    refine gx_aload0 (q := 11) hG d_M_may_10 rfl ?_
    refine gx_iload1 (q := 12) hG d_M_may_11 rfl ?_
    refine gw_V1I (q := 15) hG l_M_199 c_M_maySay (ev_M_maySay hO (by omega)) hpM rfl (by decide) (Nat.le_of_ble_eq_true rfl) d_M_may_12 rfl (by decide) (fun z12 w h12 => ?_)
    obtain ⟨rfl, F, rfl⟩ := h12
    refine gx_if_eq (tgt := 22) (q := 18) hG d_M_may_15 rfl rfl (bi_R _) (fun c15 => ?_) (fun c15 => ?_)
    · refine gx_iconst (q := 23) hG d_M_may_22 rfl ?_
      refine gx_goto (tgt := 27) hG d_M_may_23 rfl ?_
      refine gx_ireturn hG d_M_may_27 rfl rfl ?_
      first
        | exact ⟨_, rfl, _, rfl, by unfold sp_may; rw [if_pos (by omega)], SM_id⟩
        | exact ⟨_, rfl, _, rfl, by unfold sp_may; rw [if_neg (by omega)]; have := bi_01 (¬ hadS (aM w) v); omega, SM_83⟩
    · refine gx_iconst (q := 19) hG d_M_may_18 rfl ?_
      refine gx_goto (tgt := 27) hG d_M_may_19 rfl ?_
      refine gx_ireturn hG d_M_may_27 rfl rfl ?_
      first
        | exact ⟨_, rfl, _, rfl, by unfold sp_may; rw [if_pos (by omega)], SM_id⟩
        | exact ⟨_, rfl, _, rfl, by unfold sp_may; rw [if_neg (by omega)]; have := bi_01 (¬ hadS (aM w) v); omega, SM_83⟩
theorem ev_M_said {w : Mem} {i : Int} (hO : OK (aM w)) (hi : R3 i) : EvI y_M_said b_M_said 2 (some .int) (2) [Vr 76, Vi i] w (PM w (sp_said (aM w) i)) := by
  refine Ev.mk (isI := false) (by decide +kernel) nofun (Nat.le_of_ble_eq_true rfl) (fun G hG => ?_)
  show G 0 [some (Vr 76), some (Vi i)] [] 102 (hp w)
  have hn := hO.nn
  have e1 : aM w 4 1 = w 76 14 := rfl
  rw [e1] at hn
  refine gx_iload1 (q := 1) hG d_M_said_0 rfl ?_
  refine gx_if_ge (tgt := 8) (q := 4) hG d_M_said_1 rfl rfl (by omega) (fun c1 => ?_) (fun c1 => ?_)
  · refine gx_iload1 (q := 9) hG d_M_said_8 rfl ?_
    refine gx_aload0 (q := 10) hG d_M_said_9 rfl ?_
    refine gx_get (q := 13) hG f_M_178 hpM rfl d_M_said_10 rfl ?_
    refine gx_icmp_ge (tgt := 25) (q := 16) hG d_M_said_13 rfl rfl (by omega) (by omega) (fun c13 => ?_) (fun c13 => ?_)
    · refine gx_aload0 (q := 26) hG d_M_said_25 rfl ?_
      refine gx_iconst (q := 27) hG d_M_said_26 rfl ?_
      refine gw_V1I (q := 30) hG l_M_114 c_M_meets (ev_M_meets (by omega)) hpM rfl (by decide) (Nat.le_of_ble_eq_true rfl) d_M_said_27 rfl (by decide) (fun z27 w h27 => ?_)
      refine gx_ireturn hG d_M_said_30 rfl rfl ?_
      refine ⟨_, rfl, _, rfl, ?_⟩
      unfold sp_said; rw [e1]
      first
        | (rw [if_pos (by omega)]; exact PM_id)
        | (rw [if_neg (by omega), if_pos (by omega), aM_at5 (by omega)]; exact PM_id)
        | (rw [if_neg (by omega), if_neg (by omega)]; obtain ⟨rfl, rfl⟩ := h27; exact PM_fd (by omega))
    · refine gx_aload0 (q := 17) hG d_M_said_16 rfl ?_
      refine gx_get (q := 20) hG f_M_35 hpM rfl d_M_said_17 rfl ?_
      refine gx_iload1 (q := 21) hG d_M_said_20 rfl ?_
      refine gw_iald (q := 22) hG rfl (by omega) (by omega) d_M_said_21 rfl ?_
      refine gx_goto (tgt := 30) hG d_M_said_22 rfl ?_
      refine gx_ireturn hG d_M_said_30 rfl rfl ?_
      refine ⟨_, rfl, _, rfl, ?_⟩
      unfold sp_said; rw [e1]
      first
        | (rw [if_pos (by omega)]; exact PM_id)
        | (rw [if_neg (by omega), if_pos (by omega), aM_at5 (by omega)]; exact PM_id)
        | (rw [if_neg (by omega), if_neg (by omega)]; obtain ⟨rfl, rfl⟩ := h27; exact PM_fd (by omega))
  · refine gx_iconst (q := 5) hG d_M_said_4 rfl ?_
    refine gx_goto (tgt := 30) hG d_M_said_5 rfl ?_
    refine gx_ireturn hG d_M_said_30 rfl rfl ?_
    refine ⟨_, rfl, _, rfl, ?_⟩
    unfold sp_said; rw [e1]
    first
      | (rw [if_pos (by omega)]; exact PM_id)
      | (rw [if_neg (by omega), if_pos (by omega), aM_at5 (by omega)]; exact PM_id)
      | (rw [if_neg (by omega), if_neg (by omega)]; obtain ⟨rfl, rfl⟩ := h27; exact PM_fd (by omega))
theorem ev_M_undo {w : Mem} {i : Int} (hO : OK (aM w)) (hi : R3 i) : EvI y_M_undo b_M_undo 3 (some .int) (2) [Vr 76, Vi i] w (PM w (sp_undo (aM w) i)) := by
  refine Ev.mk (isI := false) (by decide +kernel) nofun (Nat.le_of_ble_eq_true rfl) (fun G hG => ?_)
  show G 0 [some (Vr 76), some (Vi i), none] [] 102 (hp w)
  have hn := hO.nn
  have e1 : aM w 4 1 = w 76 14 := rfl
  rw [e1] at hn
  refine gx_iload1 (q := 1) hG d_M_undo_0 rfl ?_
  refine gx_iconst (q := 2) hG d_M_undo_1 rfl ?_
  refine gx_aload0 (q := 3) hG d_M_undo_2 rfl ?_
  refine gx_get (q := 6) hG f_M_178 hpM rfl d_M_undo_3 rfl ?_
  refine gw_S3X (q := 9) hG l_M_96 c_M_in (ev_M_in (by omega) (by omega) (by omega)) (by decide) (Nat.le_of_ble_eq_true rfl) d_M_undo_6 rfl (by decide) ?_
  refine gx_if_ne (tgt := 14) (q := 12) hG d_M_undo_9 rfl rfl (bi_R _) (fun c9 => ?_) (fun c9 => ?_)
  · have c9 := bi_ne0.mp c9
    refine gx_aload0 (q := 15) hG d_M_undo_14 rfl ?_
    refine gx_get (q := 18) hG f_M_178 hpM rfl d_M_undo_15 rfl ?_
    refine gx_iload1 (q := 19) hG d_M_undo_18 rfl ?_
    refine gx_isub (q := 20) hG d_M_undo_19 rfl ?_
    refine gx_istore2 (q := 21) hG d_M_undo_20 rfl rfl ?_
    refine gx_aload0 (q := 22) hG d_M_undo_21 rfl ?_
    refine gx_iload1 (q := 23) hG d_M_undo_22 rfl ?_
    refine gw_puti (q := 26) hG f_M_178 hpM (Nat.le_of_ble_eq_true rfl) vfit_i (Or.inl rfl) d_M_undo_23 rfl 14 rfl rfl ?_
    refine gx_iload2 (q := 27) hG d_M_undo_26 rfl ?_
    refine gx_ireturn hG d_M_undo_27 rfl rfl ?_
    refine ⟨_, rfl, _, rfl, ?_⟩
    unfold sp_undo; rw [e1, if_neg (by omega)]
    refine PM_mk ?_ (fun b hb => by rw [wu_ne (by omega)])
    rw [aM_sg (w := w) (w' := wu w 76 14 i) (fun b b1 b2 => by rw [wu_ne b1]) ⟨rfl, rfl, rfl, rfl, rfl⟩]
    show sg (aM w) (w 76 11) i (w 85) = _
    exact sg_cong (fun j j0 j1 => (aM_at5 (by omega)).symm)
  · have c9 := bi_eq0.mp c9
    refine gx_iconst (q := 13) hG d_M_undo_12 rfl ?_
    refine gx_ireturn hG d_M_undo_13 rfl rfl ?_
    refine ⟨_, rfl, _, rfl, ?_⟩
    unfold sp_undo; rw [e1, if_pos (by omega)]; exact PM_id

