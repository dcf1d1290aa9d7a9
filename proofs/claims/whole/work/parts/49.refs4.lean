/-! part 49: the reference says, and whose turn -/
theorem ev_M_turn {w : Mem} (hO : OK (aM w)) : EvI y_M_turn b_M_turn 2 (some .int) (6) [Vr 76] w (PM w (sp_turn (aM w))) := by
  refine Ev.mk (isI := false) (by decide +kernel) nofun (Nat.le_of_ble_eq_true rfl) (fun G hG => ?_)
  show G 0 [some (Vr 76), none] [] 102 (hp w)
  have hn := hO.nn
  have e1 : aM w 4 1 = w 76 14 := rfl
  rw [e1] at hn
  have h1 : lastS (aM w) = 1 → 1 ≤ w 76 14 := fun q => by
    unfold lastS at q
    rw [e1] at q
    split at q <;> omega
  refine gx_aload0 (q := 1) hG d_M_turn_0 rfl ?_
  refine gw_V0X (q := 4) hG l_M_188 c_M_saidOne (ev_M_saidOne hO) hpM rfl (by decide) (Nat.le_of_ble_eq_true rfl) d_M_turn_1 rfl (by decide) ?_
  refine gx_if_eq (tgt := 18) (q := 7) hG d_M_turn_4 rfl rfl (bi_R _) (fun c4 => ?_) (fun c4 => ?_)
  · have c4 := bi_eq0.mp c4
    refine gx_aload0 (q := 19) hG d_M_turn_18 rfl ?_
    refine gw_V0I (q := 22) hG l_M_196 c_M_isOver (ev_M_isOver hO) hpM rfl (by decide) (Nat.le_of_ble_eq_true rfl) d_M_turn_19 rfl (by decide) (fun z19 w1 h19 => ?_)
    obtain ⟨rfl, s1⟩ := h19
    have en : w1 76 14 = w 76 14 := congrFun (congrFun s1.1 4) 1
    refine gx_if_eq (tgt := 34) (q := 25) hG d_M_turn_22 rfl rfl (bi_R _) (fun c22 => ?_) (fun c22 => ?_)
    · refine gx_bipush (q := 36) hG d_M_turn_34 rfl rfl ?_
      refine gx_istore1 (q := 37) hG d_M_turn_36 rfl rfl ?_
      refine gx_aload0 (q := 38) hG d_M_turn_37 rfl ?_
      refine gx_iload1 (q := 39) hG d_M_turn_38 rfl ?_
      refine gx_aload0 (q := 40) hG d_M_turn_39 rfl ?_
      refine gx_get (q := 43) hG f_M_178 hpM rfl d_M_turn_40 rfl ?_
      refine gx_iconst (q := 44) hG d_M_turn_43 rfl ?_
      refine gx_irem (q := 45) hG d_M_turn_44 rfl (by omega) (by omega) (by omega) (by omega) ?_
      refine gw_V2I (q := 48) hG l_M_121 c_M_tells (ev_M_tells) hpM rfl (by decide) (Nat.le_of_ble_eq_true rfl) d_M_turn_45 rfl (by decide) (fun z45 w9 h45 => ?_)
      refine gx_ireturn hG d_M_turn_48 rfl rfl ?_
      refine ⟨_, rfl, _, rfl, ?_⟩
      obtain ⟨rfl, rfl⟩ := h45
      first
        | (unfold sp_turn loserS; rw [if_pos (bi_t (show overS (aM w) from Or.inl c4)), if_pos c4, e1]; exact PM_mk aM_u2 (fun b hb => by rw [wu_ne (by omega)]))
        | (rw [en]; unfold sp_turn loserS; rw [if_pos (show bi (overS (aM w)) = 1 by have := bi_01 (overS (aM w)); omega), if_neg c4, e1, ← s1.1]; exact ⟨rfl, aM_u2, fun b hb => by rw [wu_ne (by omega), s1.2 b hb]⟩)
        | (rw [en]; unfold sp_turn loserS; rw [if_neg (show ¬ bi (overS (aM w)) = 1 by omega), e1, ← s1.1]; exact ⟨rfl, aM_u2, fun b hb => by rw [wu_ne (by omega), s1.2 b hb]⟩)
    · refine gx_aload0 (q := 26) hG d_M_turn_25 rfl ?_
      refine gx_get (q := 29) hG f_M_178 hpM rfl d_M_turn_26 rfl ?_
      refine gx_iconst (q := 30) hG d_M_turn_29 rfl ?_
      refine gx_irem (q := 31) hG d_M_turn_30 rfl (by omega) (by omega) (by omega) (by omega) ?_
      refine gx_goto (tgt := 36) hG d_M_turn_31 rfl ?_
      refine gx_istore1 (q := 37) hG d_M_turn_36 rfl rfl ?_
      refine gx_aload0 (q := 38) hG d_M_turn_37 rfl ?_
      refine gx_iload1 (q := 39) hG d_M_turn_38 rfl ?_
      refine gx_aload0 (q := 40) hG d_M_turn_39 rfl ?_
      refine gx_get (q := 43) hG f_M_178 hpM rfl d_M_turn_40 rfl ?_
      refine gx_iconst (q := 44) hG d_M_turn_43 rfl ?_
      refine gx_irem (q := 45) hG d_M_turn_44 rfl (by omega) (by omega) (by omega) (by omega) ?_
      refine gw_V2I (q := 48) hG l_M_121 c_M_tells (ev_M_tells) hpM rfl (by decide) (Nat.le_of_ble_eq_true rfl) d_M_turn_45 rfl (by decide) (fun z45 w9 h45 => ?_)
      refine gx_ireturn hG d_M_turn_48 rfl rfl ?_
      refine ⟨_, rfl, _, rfl, ?_⟩
      obtain ⟨rfl, rfl⟩ := h45
      first
        | (unfold sp_turn loserS; rw [if_pos (bi_t (show overS (aM w) from Or.inl c4)), if_pos c4, e1]; exact PM_mk aM_u2 (fun b hb => by rw [wu_ne (by omega)]))
        | (rw [en]; unfold sp_turn loserS; rw [if_pos (show bi (overS (aM w)) = 1 by have := bi_01 (overS (aM w)); omega), if_neg c4, e1, ← s1.1]; exact ⟨rfl, aM_u2, fun b hb => by rw [wu_ne (by omega), s1.2 b hb]⟩)
        | (rw [en]; unfold sp_turn loserS; rw [if_neg (show ¬ bi (overS (aM w)) = 1 by omega), e1, ← s1.1]; exact ⟨rfl, aM_u2, fun b hb => by rw [wu_ne (by omega), s1.2 b hb]⟩)
  · have c4 := bi_ne0.mp c4
    have h1' := h1 c4
    refine gx_aload0 (q := 8) hG d_M_turn_7 rfl ?_
    refine gx_get (q := 11) hG f_M_178 hpM rfl d_M_turn_8 rfl ?_
    refine gx_iconst (q := 12) hG d_M_turn_11 rfl ?_
    refine gx_isub (q := 13) hG d_M_turn_12 rfl ?_
    refine gx_iconst (q := 14) hG d_M_turn_13 rfl ?_
    refine gx_irem (q := 15) hG d_M_turn_14 rfl (by omega) (by omega) (by omega) (by omega) ?_
    refine gx_goto (tgt := 36) hG d_M_turn_15 rfl ?_
    refine gx_istore1 (q := 37) hG d_M_turn_36 rfl rfl ?_
    refine gx_aload0 (q := 38) hG d_M_turn_37 rfl ?_
    refine gx_iload1 (q := 39) hG d_M_turn_38 rfl ?_
    refine gx_aload0 (q := 40) hG d_M_turn_39 rfl ?_
    refine gx_get (q := 43) hG f_M_178 hpM rfl d_M_turn_40 rfl ?_
    refine gx_iconst (q := 44) hG d_M_turn_43 rfl ?_
    refine gx_irem (q := 45) hG d_M_turn_44 rfl (by omega) (by omega) (by omega) (by omega) ?_
    refine gw_V2I (q := 48) hG l_M_121 c_M_tells (ev_M_tells) hpM rfl (by decide) (Nat.le_of_ble_eq_true rfl) d_M_turn_45 rfl (by decide) (fun z45 w9 h45 => ?_)
    refine gx_ireturn hG d_M_turn_48 rfl rfl ?_
    refine ⟨_, rfl, _, rfl, ?_⟩
    obtain ⟨rfl, rfl⟩ := h45
    first
      | (unfold sp_turn loserS; rw [if_pos (bi_t (show overS (aM w) from Or.inl c4)), if_pos c4, e1]; exact PM_mk aM_u2 (fun b hb => by rw [wu_ne (by omega)]))
      | (rw [en]; unfold sp_turn loserS; rw [if_pos (show bi (overS (aM w)) = 1 by have := bi_01 (overS (aM w)); omega), if_neg c4, e1, ← s1.1]; exact ⟨rfl, aM_u2, fun b hb => by rw [wu_ne (by omega), s1.2 b hb]⟩)
      | (rw [en]; unfold sp_turn loserS; rw [if_neg (show ¬ bi (overS (aM w)) = 1 by omega), e1, ← s1.1]; exact ⟨rfl, aM_u2, fun b hb => by rw [wu_ne (by omega), s1.2 b hb]⟩)
theorem ev_M_say {w : Mem} {v : Int} (hO : OK (aM w)) (hv : R3 v) : EvI y_M_say b_M_say 2 (some .int) (6) [Vr 76, Vi v] w (PM w (sp_say (aM w) v)) := by
  refine Ev.mk (isI := false) (by decide +kernel) nofun (Nat.le_of_ble_eq_true rfl) (fun G hG => ?_)
  show G 0 [some (Vr 76), some (Vi v)] [] 102 (hp w)
  refine gx_iload1 (q := 1) hG d_M_say_0 rfl ?_
  refine gx_iconst (q := 2) hG d_M_say_1 rfl ?_
  refine gx_bipush (q := 4) hG d_M_say_2 rfl rfl ?_
  refine gw_S3X (q := 7) hG l_M_96 c_M_in (ev_M_in (by omega) (by omega) (by omega)) (by decide) (Nat.le_of_ble_eq_true rfl) d_M_say_4 rfl (by decide) ?_
  refine gx_if_ne (tgt := 12) (q := 10) hG d_M_say_7 rfl rfl (bi_R _) (fun c7 => ?_) (fun c7 => ?_)
  · have c7 := bi_ne0.mp c7
    refine gx_aload0 (q := 13) hG d_M_say_12 rfl ?_
    refine gw_V0I (q := 16) hG l_M_196 c_M_isOver (ev_M_isOver hO) hpM rfl (by decide) (Nat.le_of_ble_eq_true rfl) d_M_say_13 rfl (by decide) (fun z13 w1 h13 => ?_)
    obtain ⟨rfl, s1⟩ := h13
    refine gx_if_ne (tgt := 27) (q := 19) hG d_M_say_16 rfl rfl (bi_R _) (fun c16 => ?_) (fun c16 => ?_)
    · refine gx_bipush (q := 29) hG d_M_say_27 rfl rfl ?_
      refine gx_ireturn hG d_M_say_29 rfl rfl ?_
      refine ⟨_, rfl, _, rfl, ?_⟩
      unfold sp_say; rw [if_neg (by omega)]
      first
        | (rw [if_pos (Or.inl (bi_t (bi_ne0.mp c16)))]; exact ⟨rfl, s1.1, s1.2⟩)
        | (rw [if_pos (Or.inr (bi_t (Classical.byContradiction (fun q => bi_eq0.mp c24 (by rw [s1.1]; exact q)))))]; exact ⟨rfl, s2.1, s2.2⟩)
    · refine gx_aload0 (q := 20) hG d_M_say_19 rfl ?_
      refine gx_iload1 (q := 21) hG d_M_say_20 rfl ?_
      refine gw_V1I (q := 24) hG l_M_199 c_M_maySay (ev_M_maySay (s1.ok hO) (by omega)) hpM rfl (by decide) (Nat.le_of_ble_eq_true rfl) d_M_say_21 rfl (by decide) (fun z21 w2 h21 => ?_)
      obtain ⟨rfl, F2, e2⟩ := h21
      have s2 : SM w w2 := s1.tr (by rw [e2]; exact SM_83)
      have hO2 := s2.ok hO
      have hn := hO2.nn
      have e1 : aM w2 4 1 = w2 76 14 := rfl
      rw [e1] at hn
      refine gx_if_ne (tgt := 30) (q := 27) hG d_M_say_24 rfl rfl (bi_R _) (fun c24 => ?_) (fun c24 => ?_)
      · have c24' : ¬ hadS (aM w2) v := by have q := bi_ne0.mp c24; rw [s1.1] at q; rw [s2.1]; exact q
        have ho : ¬ overS (aM w2) := by rw [s2.1]; exact bi_eq0.mp c16
        refine gx_aload0 (q := 31) hG d_M_say_30 rfl ?_
        refine gx_get (q := 34) hG f_M_178 hpM rfl d_M_say_31 rfl ?_
        refine gx_bipush (q := 36) hG d_M_say_34 rfl rfl ?_
        refine gx_icmp_lt (tgt := 47) (q := 39) hG d_M_say_36 rfl rfl (by omega) (by omega) (fun c36 => ?_) (fun c36 => ?_)
        · have hs : ¬ (12 ≤ aM w2 4 1 ∧ v ≠ 1) := by rw [e1]; omega
          have h3 := hO2.say (v := v) (by omega) ho hs
          have E : aM (wu (wu w2 85 (w2 76 14) v) 76 14 (w2 76 14 + 1)) = sayS (aM w2) v := by
            refine (aM_sg (w := w2) (w' := wu (wu w2 85 (w2 76 14) v) 76 14 (w2 76 14 + 1)) (fun b b1 b2 => by rw [wu_ne b1, wu_ne b2]) ⟨rfl, rfl, rfl, rfl, rfl⟩).trans ?_
            show sg (aM w2) (w2 76 11) (w2 76 14 + 1) (up (w2 85) (w2 76 14) v) = sg (aM w2) (w2 76 11) (w2 76 14 + 1) (up (aM w2 5) (w2 76 14) v)
            refine sg_cong (fun j j0 j1 => ?_)
            unfold up
            split
            · rfl
            · rw [aM_at5 (by omega)]
          have hO3 : OK (aM (wu (wu w2 85 (w2 76 14) v) 76 14 (w2 76 14 + 1))) := by rw [E]; exact h3.2
          refine gx_aload0 (q := 48) hG d_M_say_47 rfl ?_
          refine gx_get (q := 51) hG f_M_35 hpM rfl d_M_say_48 rfl ?_
          refine gx_aload0 (q := 52) hG d_M_say_51 rfl ?_
          refine gx_get (q := 55) hG f_M_178 hpM rfl d_M_say_52 rfl ?_
          refine gx_iload1 (q := 56) hG d_M_say_55 rfl ?_
          refine gw_iast (q := 57) hG rfl (by omega) (by omega) d_M_say_56 rfl ?_
          refine gx_aload0 (q := 58) hG d_M_say_57 rfl ?_
          refine gx_dupa (q := 59) hG d_M_say_58 rfl ?_
          refine gx_get (q := 62) hG f_M_178 hpM rfl d_M_say_59 rfl ?_
          rw [show wu w2 85 (w2 76 14) v 76 14 = w2 76 14 by rw [wu_ne (by omega)]]
          refine gx_iconst (q := 63) hG d_M_say_62 rfl ?_
          refine gx_iadd (q := 64) hG d_M_say_63 rfl ?_
          refine gw_puti (q := 67) hG f_M_178 hpM (Nat.le_of_ble_eq_true rfl) vfit_i (Or.inl rfl) d_M_say_64 rfl 14 rfl rfl ?_
          refine gx_aload0 (q := 68) hG d_M_say_67 rfl ?_
          refine gw_V0I (q := 71) hG l_M_192 c_M_leftNow (ev_M_leftNow hO3) hpM rfl (by decide) (Nat.le_of_ble_eq_true rfl) d_M_say_68 rfl (by decide) (fun z68 w3 h68 => ?_)
          refine gx_ireturn hG d_M_say_71 rfl rfl ?_
          refine ⟨_, rfl, _, rfl, ?_⟩
          obtain ⟨rfl, F3, rfl⟩ := h68
          rw [← s2.1]
          unfold sp_say; rw [if_neg (by omega), if_neg (fun q => q.elim (fun q => ho (bi_eq1.mp q)) (fun q => c24' (bi_eq1.mp q))), e1, if_neg (by omega)]
          rw [E]
          exact PM_tr s2 ⟨rfl, by rw [aM_83, E], fun b hb => by rw [wc_ne (by omega), wu_ne (by omega), wu_ne (by omega)]⟩
        · refine gx_iload1 (q := 40) hG d_M_say_39 rfl ?_
          refine gx_iconst (q := 41) hG d_M_say_40 rfl ?_
          refine gx_icmp_eq (tgt := 47) (q := 44) hG d_M_say_41 rfl rfl (by omega) (by omega) (fun c41 => ?_) (fun c41 => ?_)
          · have hs : ¬ (12 ≤ aM w2 4 1 ∧ v ≠ 1) := by rw [e1]; omega
            have h3 := hO2.say (v := v) (by omega) ho hs
            have E : aM (wu (wu w2 85 (w2 76 14) v) 76 14 (w2 76 14 + 1)) = sayS (aM w2) v := by
              refine (aM_sg (w := w2) (w' := wu (wu w2 85 (w2 76 14) v) 76 14 (w2 76 14 + 1)) (fun b b1 b2 => by rw [wu_ne b1, wu_ne b2]) ⟨rfl, rfl, rfl, rfl, rfl⟩).trans ?_
              show sg (aM w2) (w2 76 11) (w2 76 14 + 1) (up (w2 85) (w2 76 14) v) = sg (aM w2) (w2 76 11) (w2 76 14 + 1) (up (aM w2 5) (w2 76 14) v)
              refine sg_cong (fun j j0 j1 => ?_)
              unfold up
              split
              · rfl
              · rw [aM_at5 (by omega)]
            have hO3 : OK (aM (wu (wu w2 85 (w2 76 14) v) 76 14 (w2 76 14 + 1))) := by rw [E]; exact h3.2
            refine gx_aload0 (q := 48) hG d_M_say_47 rfl ?_
            refine gx_get (q := 51) hG f_M_35 hpM rfl d_M_say_48 rfl ?_
            refine gx_aload0 (q := 52) hG d_M_say_51 rfl ?_
            refine gx_get (q := 55) hG f_M_178 hpM rfl d_M_say_52 rfl ?_
            refine gx_iload1 (q := 56) hG d_M_say_55 rfl ?_
            refine gw_iast (q := 57) hG rfl (by omega) (by omega) d_M_say_56 rfl ?_
            refine gx_aload0 (q := 58) hG d_M_say_57 rfl ?_
            refine gx_dupa (q := 59) hG d_M_say_58 rfl ?_
            refine gx_get (q := 62) hG f_M_178 hpM rfl d_M_say_59 rfl ?_
            rw [show wu w2 85 (w2 76 14) v 76 14 = w2 76 14 by rw [wu_ne (by omega)]]
            refine gx_iconst (q := 63) hG d_M_say_62 rfl ?_
            refine gx_iadd (q := 64) hG d_M_say_63 rfl ?_
            refine gw_puti (q := 67) hG f_M_178 hpM (Nat.le_of_ble_eq_true rfl) vfit_i (Or.inl rfl) d_M_say_64 rfl 14 rfl rfl ?_
            refine gx_aload0 (q := 68) hG d_M_say_67 rfl ?_
            refine gw_V0I (q := 71) hG l_M_192 c_M_leftNow (ev_M_leftNow hO3) hpM rfl (by decide) (Nat.le_of_ble_eq_true rfl) d_M_say_68 rfl (by decide) (fun z68 w3 h68 => ?_)
            refine gx_ireturn hG d_M_say_71 rfl rfl ?_
            refine ⟨_, rfl, _, rfl, ?_⟩
            obtain ⟨rfl, F3, rfl⟩ := h68
            rw [← s2.1]
            unfold sp_say; rw [if_neg (by omega), if_neg (fun q => q.elim (fun q => ho (bi_eq1.mp q)) (fun q => c24' (bi_eq1.mp q))), e1, if_neg (by omega)]
            rw [E]
            exact PM_tr s2 ⟨rfl, by rw [aM_83, E], fun b hb => by rw [wc_ne (by omega), wu_ne (by omega), wu_ne (by omega)]⟩
          · refine gx_bipush (q := 46) hG d_M_say_44 rfl rfl ?_
            refine gx_ireturn hG d_M_say_46 rfl rfl ?_
            refine ⟨_, rfl, _, rfl, ?_⟩
            rw [← s2.1]
            unfold sp_say; rw [if_neg (by omega), if_neg (fun q => q.elim (fun q => ho (bi_eq1.mp q)) (fun q => c24' (bi_eq1.mp q))), e1, if_pos (by omega)]
            exact PM_tr s2 PM_id
      · refine gx_bipush (q := 29) hG d_M_say_27 rfl rfl ?_
        refine gx_ireturn hG d_M_say_29 rfl rfl ?_
        refine ⟨_, rfl, _, rfl, ?_⟩
        unfold sp_say; rw [if_neg (by omega)]
        first
          | (rw [if_pos (Or.inl (bi_t (bi_ne0.mp c16)))]; exact ⟨rfl, s1.1, s1.2⟩)
          | (rw [if_pos (Or.inr (bi_t (Classical.byContradiction (fun q => bi_eq0.mp c24 (by rw [s1.1]; exact q)))))]; exact ⟨rfl, s2.1, s2.2⟩)
  · have c7 := bi_eq0.mp c7
    refine gx_iconst (q := 11) hG d_M_say_10 rfl ?_
    refine gx_ireturn hG d_M_say_11 rfl rfl ?_
    refine ⟨_, rfl, _, rfl, ?_⟩
    unfold sp_say; rw [if_pos (by omega)]; exact PM_id

