/-! part 51: the reference goes on from a kept game -/
theorem ev_M_on {w : Mem} {k : Int} (hO : OK (aM w)) (hk : R3 k) : EvI y_M_on b_M_on 3 (some .int) (2) [Vr 76, Vi k] w (PM w (sp_on (aM w) k)) := by
  refine Ev.mk (isI := false) (by decide +kernel) nofun (Nat.le_of_ble_eq_true rfl) (fun G hG => ?_)
  show G 0 [some (Vr 76), some (Vi k), none] [] 102 (hp w)
  have eN : ∀ F, wc (wu (wu w 76 14 (w 88 k)) 76 11 (w 89 k)) 85 F 76 14 = w 88 k := fun F => by rw [wc_ne (by omega), wu_get, if_neg (by omega), wu_get, if_pos ⟨rfl, rfl⟩]
  have L : ∀ (j m : Nat), (m : Int) + j = w 88 k → (0 ≤ k ∧ k < 3) → w 88 k ≤ 13 → G 48 [some (Vr 76), some (Vi k), some (Vi (m : Int))] [] 102 (hp (wc (wu (wu w 76 14 (w 88 k)) 76 11 (w 89 k)) 85 (cpy (w 90) (w 85) (14 * k) 0 m))) := by
    intro j
    induction j with
    | zero =>
      intro m h1 hkk h13
      refine gx_iload2 (q := 49) hG d_M_on_48 rfl ?_
      refine gx_aload0 (q := 50) hG d_M_on_49 rfl ?_
      refine gx_get (q := 53) hG f_M_178 hpM rfl d_M_on_50 rfl ?_
      rw [eN]
      refine gx_icmp_ge (tgt := 79) (q := 56) hG d_M_on_53 rfl rfl (by omega) (by omega) (fun c53 => ?_) (fun c53 => ?_)
      · refine gx_aload0 (q := 80) hG d_M_on_79 rfl ?_
        refine gx_get (q := 83) hG f_M_178 hpM rfl d_M_on_80 rfl ?_
        rw [eN]
        refine gx_ireturn hG d_M_on_83 rfl rfl ?_
        refine ⟨_, rfl, _, rfl, ?_⟩
        unfold sp_on; rw [if_neg (by omega), aM_at8 hkk, if_neg (by omega)]
        refine PM_mk ?_ (fun b hb => by rw [wc_ne (by omega), wu_ne (by omega), wu_ne (by omega)])
        refine (aM_sg (w := w) (w' := wc (wu (wu w 76 14 (w 88 k)) 76 11 (w 89 k)) 85 (cpy (w 90) (w 85) (14 * k) 0 m)) (fun b b1 b2 => by rw [wc_ne b2, wu_ne b1, wu_ne b1]) ⟨rfl, rfl, rfl, rfl, rfl⟩).trans ?_
        rw [eN, wc_ne (show (76 : Int) ≠ 85 by omega), wu_get, if_pos ⟨rfl, rfl⟩, wc_eq, aM_at9 hkk (by omega)]
        refine sg_cong (fun i i0 i1 => ?_)
        rw [aM_at10 hkk (by omega) i1]
        unfold cpy
        rw [if_pos (by omega), show 14 * k + (i - 0) = 14 * k + i by omega]
      · exfalso; omega
    | succ j ih =>
      intro m h1 hkk h13
      have e : wu (wc (wu (wu w 76 14 (w 88 k)) 76 11 (w 89 k)) 85 (cpy (w 90) (w 85) (14 * k) 0 m)) 85 m (w 90 (14 * k + m)) = wc (wu (wu w 76 14 (w 88 k)) 76 11 (w 89 k)) 85 (cpy (w 90) (w 85) (14 * k) 0 (m + 1 : Nat)) := by
        rw [← cpy_s, show (0 : Int) + m = m by omega]
      have e2 : wc (wu (wu w 76 14 (w 88 k)) 76 11 (w 89 k)) 85 (cpy (w 90) (w 85) (14 * k) 0 m) 90 (14 * k + m) = w 90 (14 * k + m) := by rw [wc_ne (by omega), wu_ne (by omega), wu_ne (by omega)]
      refine gx_iload2 (q := 49) hG d_M_on_48 rfl ?_
      refine gx_aload0 (q := 50) hG d_M_on_49 rfl ?_
      refine gx_get (q := 53) hG f_M_178 hpM rfl d_M_on_50 rfl ?_
      rw [eN]
      refine gx_icmp_ge (tgt := 79) (q := 56) hG d_M_on_53 rfl rfl (by omega) (by omega) (fun c53 => ?_) (fun c53 => ?_)
      · exfalso; omega
      · refine gx_aload0 (q := 57) hG d_M_on_56 rfl ?_
        refine gx_get (q := 60) hG f_M_35 hpM rfl d_M_on_57 rfl ?_
        refine gx_iload2 (q := 61) hG d_M_on_60 rfl ?_
        refine gx_aload0 (q := 62) hG d_M_on_61 rfl ?_
        refine gx_get (q := 65) hG f_M_50 hpM rfl d_M_on_62 rfl ?_
        refine gx_bipush (q := 67) hG d_M_on_65 rfl rfl ?_
        refine gx_iload1 (q := 68) hG d_M_on_67 rfl ?_
        refine gx_imul (q := 69) hG d_M_on_68 rfl ?_
        refine gx_iload2 (q := 70) hG d_M_on_69 rfl ?_
        refine gx_iadd (q := 71) hG d_M_on_70 rfl ?_
        refine gw_iald (q := 72) hG rfl (by omega) (by omega) d_M_on_71 rfl ?_
        rw [e2]
        refine gw_iast (q := 73) hG rfl (by omega) (by omega) d_M_on_72 rfl ?_
        rw [e]
        refine gx_iinc2 (q := 76) hG d_M_on_73 rfl rfl ?_
        refine gx_goto (tgt := 48) hG d_M_on_76 rfl ?_
        exact ih (m + 1) (by omega) hkk h13
  refine gx_iload1 (q := 1) hG d_M_on_0 rfl ?_
  refine gx_iconst (q := 2) hG d_M_on_1 rfl ?_
  refine gx_iconst (q := 3) hG d_M_on_2 rfl ?_
  refine gw_S3X (q := 6) hG l_M_96 c_M_in (ev_M_in (by omega) (by omega) (by omega)) (by decide) (Nat.le_of_ble_eq_true rfl) d_M_on_3 rfl (by decide) ?_
  refine gx_if_ne (tgt := 11) (q := 9) hG d_M_on_6 rfl rfl (bi_R _) (fun c6 => ?_) (fun c6 => ?_)
  · have c6 := bi_ne0.mp c6
    have hkk := hO.kk k (by omega) (by omega)
    rw [aM_at8 (by omega)] at hkk
    refine gx_aload0 (q := 12) hG d_M_on_11 rfl ?_
    refine gx_get (q := 15) hG f_M_44 hpM rfl d_M_on_12 rfl ?_
    refine gx_iload1 (q := 16) hG d_M_on_15 rfl ?_
    refine gw_iald (q := 17) hG rfl (by omega) (by omega) d_M_on_16 rfl ?_
    refine gx_if_ge (tgt := 26) (q := 20) hG d_M_on_17 rfl rfl (by omega) (fun c17 => ?_) (fun c17 => ?_)
    · refine gx_aload0 (q := 27) hG d_M_on_26 rfl ?_
      refine gx_aload0 (q := 28) hG d_M_on_27 rfl ?_
      refine gx_get (q := 31) hG f_M_44 hpM rfl d_M_on_28 rfl ?_
      refine gx_iload1 (q := 32) hG d_M_on_31 rfl ?_
      refine gw_iald (q := 33) hG rfl (by omega) (by omega) d_M_on_32 rfl ?_
      refine gw_puti (q := 36) hG f_M_178 hpM (Nat.le_of_ble_eq_true rfl) vfit_i (Or.inl rfl) d_M_on_33 rfl 14 rfl rfl ?_
      refine gx_aload0 (q := 37) hG d_M_on_36 rfl ?_
      refine gx_aload0 (q := 38) hG d_M_on_37 rfl ?_
      refine gx_get (q := 41) hG f_M_47 hpM rfl d_M_on_38 rfl ?_
      refine gx_iload1 (q := 42) hG d_M_on_41 rfl ?_
      refine gw_iald (q := 43) hG rfl (by omega) (by omega) d_M_on_42 rfl ?_
      refine gw_puti (q := 46) hG f_M_172 hpM (Nat.le_of_ble_eq_true rfl) vfit_i (Or.inl rfl) d_M_on_43 rfl 11 rfl rfl ?_
      refine gx_iconst (q := 47) hG d_M_on_46 rfl ?_
      refine gx_istore2 (q := 48) hG d_M_on_47 rfl rfl ?_
      have e := L (w 88 k).toNat 0 (by omega) (by omega) (by omega)
      rw [show ((0 : Nat) : Int) = 0 from rfl, show w 85 = wu (wu w 76 14 (w 88 k)) 76 11 (w 89 k) 85 by rw [wu_ne (by omega), wu_ne (by omega)], cpy_0] at e
      exact e
    · refine gx_aload0 (q := 21) hG d_M_on_20 rfl ?_
      refine gx_iconst (q := 22) hG d_M_on_21 rfl ?_
      refine gw_V1I (q := 25) hG l_M_114 c_M_meets (ev_M_meets (by omega)) hpM rfl (by decide) (Nat.le_of_ble_eq_true rfl) d_M_on_22 rfl (by decide) (fun z22 w h22 => ?_)
      refine gx_ireturn hG d_M_on_25 rfl rfl ?_
      refine ⟨_, rfl, _, rfl, ?_⟩
      unfold sp_on; rw [if_neg (by omega), aM_at8 (by omega), if_pos (by omega)]; obtain ⟨rfl, rfl⟩ := h22; exact PM_fd (by omega)
  · have c6 := bi_eq0.mp c6
    refine gx_iconst (q := 10) hG d_M_on_9 rfl ?_
    refine gx_ireturn hG d_M_on_10 rfl rfl ?_
    refine ⟨_, rfl, _, rfl, ?_⟩
    unfold sp_on; rw [if_pos (by omega)]; exact PM_id

