/-! part 84: the reference reads a text -/
def MF (w w' : Mem) : Prop := (∀ b, b ≠ 76 → b ≠ 83 → b ≠ 86 → b ≠ 87 → w' b = w b) ∧ ∀ j, ¬ (16 ≤ j ∧ j ≤ 20) → w' 76 j = w 76 j
theorem MF_id {w : Mem} : MF w w := ⟨fun _ _ _ _ _ => rfl, fun _ _ => rfl⟩
theorem MF.tr {w w' w2 : Mem} (h : MF w w') (h2 : MF w' w2) : MF w w2 := ⟨fun b b1 b2 b3 b4 => (h2.1 b b1 b2 b3 b4).trans (h.1 b b1 b2 b3 b4), fun j hj => (h2.2 j hj).trans (h.2 j hj)⟩
theorem MF.sm {w w' : Mem} (h : MF w w') : SM w w' := ⟨aM_scr (fun b hb => h.1 b (by omega) (by omega) (by omega) (by omega)) (fun j hj => h.2 j (by omega)), fun b hb => h.1 b (by omega) (by omega) (by omega) (by omega)⟩
theorem MF_u {w : Mem} {j v : Int} (h : 16 ≤ j ∧ j ≤ 20) : MF w (wu w 76 j v) := ⟨fun b b1 _ _ _ => wu_ne b1, fun i hi => wu_pl (by omega)⟩
theorem MF_a {w : Mem} {a j v : Int} (h : a = 86 ∨ a = 87) : MF w (wu w a j v) := ⟨fun b b1 b2 b3 b4 => wu_ne (by omega), fun i hi => by rw [wu_ne (by omega)]⟩
theorem MF_83 {w : Mem} {F : Int → Int} : MF w (wc w 83 F) := ⟨fun b b1 b2 b3 b4 => wc_ne (by omega), fun i hi => by rw [wc_ne (by omega)]⟩
def RM (w : Mem) (p : Ps) : Prop := w 76 16 = p.pos ∧ w 76 17 = p.law ∧ w 76 19 = p.pl ∧ w 76 20 = p.n ∧ (∀ i, 0 ≤ i → i < p.n → w 87 i = p.num i) ∧ ∀ i, 0 ≤ i → i < p.pl → w 86 i = p.kd i
def IM (w : Mem) (q : Int × Ps) : Int → Mem → Prop := fun z w' => z = q.1 ∧ MF w w' ∧ w' 76 18 = w 76 18 ∧ w' 76 16 = q.2.pos ∧ (q.1 = 1 → RM w' q.2)
theorem byS_bd {s : Sta} {t i : Int} (h : OK s) (ht : 0 ≤ t ∧ t < 4) (hi : 0 ≤ i) : -128 ≤ byS s t i ∧ byS s t i ≤ 127 := by
  have hs := h.ts t ht.1 ht.2
  unfold byS
  split
  · exact h.2.2.2.1 _ (by omega) (by omega)
  · omega
theorem ev_M_byteS {w W : Mem} {t i : Int} (hO : OK (aM w)) (hf : MF w W) (ht : 0 ≤ t ∧ t < 4) (hi : 0 ≤ i ∧ i ≤ 62) : EvX y_M_byteAt b_M_byteAt 3 (some .int) (1) [Vr 76, Vi t, Vi i] W (Vi (byS (aM w) t i)) := by
  have hs := hO.m2 ht
  have e81 : W 81 = w 81 := hf.1 81 (by decide) (by decide) (by decide) (by decide)
  have e82 : W 82 = w 82 := hf.1 82 (by decide) (by decide) (by decide) (by decide)
  have h := ev_M_byteAt (w := W) (t := t) (i := i) ht (by rw [e81]; exact hs) hi
  have e : (if i < W 81 t then W 82 (60 * t + i) else 0) = byS (aM w) t i := by
    unfold byS
    rw [e81, e82, aM_at2 ht]
    split
    · rw [aM_at3 (by omega)]
    · rfl
  rw [e] at h
  exact h
theorem fg_y {s : Sta} {t i : Int} (h : 48 ≤ byS s t i ∧ byS s t i ≤ 57) : fgS s t i = byS s t i - 48 := if_pos h
theorem fg_n {s : Sta} {t i : Int} (h : ¬ (48 ≤ byS s t i ∧ byS s t i ≤ 57)) : fgS s t i = -1 := if_neg h
theorem ev_M_readsLaw {w : Mem} {t : Int} {p : Ps} (hO : OK (aM w)) (ht : 0 ≤ t ∧ t < 4) (hr : RM w p) (hb : PB p) (hp0 : p.pos ≤ 59) (hf : w 76 18 = 0 ∨ w 76 18 = 1) : EvI y_M_readsLaw b_M_readsLaw 3 (some .boolean) (3) [Vr 76, Vi t] w (IM w (if w 76 18 = 1 then pLaw (aM w) t p else (0, p))) := by
  refine Ev.mk (isI := false) (by decide +kernel) nofun (Nat.le_of_ble_eq_true rfl) (fun G hG => ?_)
  show G 0 [some (Vr 76), some (Vi t), none] [] 102 (hp w)
  have hb1 := hb.1
  have hbb := byS_bd (i := p.pos + 1) hO ht (by omega)
  have hfy := fg_y (s := aM w) (t := t) (i := p.pos + 1)
  have hfn := fg_n (s := aM w) (t := t) (i := p.pos + 1)
  refine gx_aload0 (q := 1) hG d_M_readsLaw_0 rfl ?_
  refine gx_iload1 (q := 2) hG d_M_readsLaw_1 rfl ?_
  refine gx_aload0 (q := 3) hG d_M_readsLaw_2 rfl ?_
  refine gx_get (q := 6) hG f_M_138 hpM rfl d_M_readsLaw_3 rfl ?_
  rw [hr.1]
  refine gx_iconst (q := 7) hG d_M_readsLaw_6 rfl ?_
  refine gx_iadd (q := 8) hG d_M_readsLaw_7 rfl ?_
  refine gw_V2X (q := 11) hG l_M_141 c_M_byteAt (ev_M_byteS hO MF_id ht (by omega)) hpM rfl (by decide) (Nat.le_of_ble_eq_true rfl) d_M_readsLaw_8 rfl (by decide) ?_
  refine gx_bipush (q := 13) hG d_M_readsLaw_11 rfl rfl ?_
  refine gx_isub (q := 14) hG d_M_readsLaw_13 rfl ?_
  refine gx_istore2 (q := 15) hG d_M_readsLaw_14 rfl rfl ?_
  refine gx_aload0 (q := 16) hG d_M_readsLaw_15 rfl ?_
  refine gx_get (q := 19) hG f_M_144 hpM rfl d_M_readsLaw_16 rfl ?_
  refine gx_if_ne (tgt := 24) (q := 22) hG d_M_readsLaw_19 rfl rfl (by omega) (fun c19 => ?_) (fun c19 => ?_)
  · refine gx_aload0 (q := 25) hG d_M_readsLaw_24 rfl ?_
    refine gx_dupa (q := 26) hG d_M_readsLaw_25 rfl ?_
    refine gx_get (q := 29) hG f_M_138 hpM rfl d_M_readsLaw_26 rfl ?_
    rw [hr.1]
    refine gx_iconst (q := 30) hG d_M_readsLaw_29 rfl ?_
    refine gx_iadd (q := 31) hG d_M_readsLaw_30 rfl ?_
    refine gw_puti (q := 34) hG f_M_138 hpM (Nat.le_of_ble_eq_true rfl) vfit_i (Or.inl rfl) d_M_readsLaw_31 rfl 16 rfl rfl ?_
    refine gx_aload0 (q := 35) hG d_M_readsLaw_34 rfl ?_
    refine gx_iload2 (q := 36) hG d_M_readsLaw_35 rfl ?_
    refine gw_puti (q := 39) hG f_M_148 hpM (Nat.le_of_ble_eq_true rfl) vfit_i (Or.inl rfl) d_M_readsLaw_36 rfl 17 rfl rfl ?_
    refine gx_aload0 (q := 40) hG d_M_readsLaw_39 rfl ?_
    refine gx_dupa (q := 41) hG d_M_readsLaw_40 rfl ?_
    refine gx_get (q := 44) hG f_M_138 hpM rfl d_M_readsLaw_41 rfl ?_
    rw [wu_pl (by decide), wu_eq]
    refine gx_iload2 (q := 45) hG d_M_readsLaw_44 rfl ?_
    refine gx_iconst (q := 46) hG d_M_readsLaw_45 rfl ?_
    refine gx_iconst (q := 47) hG d_M_readsLaw_46 rfl ?_
    refine gw_S3X (q := 50) hG l_M_96 c_M_in (ev_M_in (by omega) (by omega) (by omega)) (by decide) (Nat.le_of_ble_eq_true rfl) d_M_readsLaw_47 rfl (by decide) ?_
    refine gx_if_eq (tgt := 57) (q := 53) hG d_M_readsLaw_50 rfl rfl (bi_R _) (fun c50 => ?_) (fun c50 => ?_)
    · have c50 := bi_eq0.mp c50
      refine gx_iconst (q := 58) hG d_M_readsLaw_57 rfl ?_
      refine gx_iadd (q := 59) hG d_M_readsLaw_58 rfl ?_
      refine gw_puti (q := 62) hG f_M_138 hpM (Nat.le_of_ble_eq_true rfl) vfit_i (Or.inl rfl) d_M_readsLaw_59 rfl 16 rfl rfl ?_
      refine gx_iload2 (q := 63) hG d_M_readsLaw_62 rfl ?_
      refine gx_iconst (q := 64) hG d_M_readsLaw_63 rfl ?_
      refine gx_iconst (q := 65) hG d_M_readsLaw_64 rfl ?_
      refine gw_S3X (q := 68) hG l_M_96 c_M_in (ev_M_in (by omega) (by omega) (by omega)) (by decide) (Nat.le_of_ble_eq_true rfl) d_M_readsLaw_65 rfl (by decide) ?_
      refine gx_zreturn hG d_M_readsLaw_68 rfl rfl (by first | exact bi_01 _ | decide | omega) ?_
      refine ⟨_, rfl, _, rfl, ?_⟩
      rw [if_pos (show w 76 18 = 1 by omega)]
      unfold pLaw
      first
        | (rw [bi_t (by omega), if_pos (by omega)]
           refine ⟨rfl, ((MF_u (by decide)).tr (MF_u (by decide))).tr (MF_u (by decide)), by rw [wu_pl (by decide), wu_pl (by decide), wu_pl (by decide)], by rw [wu_eq]; show _ = p.pos + 2; omega, fun _ => ⟨by rw [wu_eq]; show _ = p.pos + 2; omega, ?_, ?_, ?_, ?_, ?_⟩⟩
           · rw [wu_pl (by decide), wu_eq]; exact (hfy (by omega)).symm
           · rw [wu_pl (by decide), wu_pl (by decide), wu_pl (by decide)]; exact hr.2.2.1
           · rw [wu_pl (by decide), wu_pl (by decide), wu_pl (by decide)]; exact hr.2.2.2.1
           · exact fun i i0 i1 => by rw [wu_ne (by decide), wu_ne (by decide), wu_ne (by decide)]; exact hr.2.2.2.2.1 i i0 i1
           · exact fun i i0 i1 => by rw [wu_ne (by decide), wu_ne (by decide), wu_ne (by decide)]; exact hr.2.2.2.2.2 i i0 i1)
        | (rw [bi_f (by omega), if_neg (by omega)]
           exact ⟨rfl, ((MF_u (by decide)).tr (MF_u (by decide))).tr (MF_u (by decide)), by rw [wu_pl (by decide), wu_pl (by decide), wu_pl (by decide)], by rw [wu_eq]; show _ = p.pos + 1; omega, fun q => absurd (show (0 : Int) = 1 from q) (by decide)⟩)
    · have c50 := bi_ne0.mp c50
      refine gx_iconst (q := 54) hG d_M_readsLaw_53 rfl ?_
      refine gx_goto (tgt := 58) hG d_M_readsLaw_54 rfl ?_
      refine gx_iadd (q := 59) hG d_M_readsLaw_58 rfl ?_
      refine gw_puti (q := 62) hG f_M_138 hpM (Nat.le_of_ble_eq_true rfl) vfit_i (Or.inl rfl) d_M_readsLaw_59 rfl 16 rfl rfl ?_
      refine gx_iload2 (q := 63) hG d_M_readsLaw_62 rfl ?_
      refine gx_iconst (q := 64) hG d_M_readsLaw_63 rfl ?_
      refine gx_iconst (q := 65) hG d_M_readsLaw_64 rfl ?_
      refine gw_S3X (q := 68) hG l_M_96 c_M_in (ev_M_in (by omega) (by omega) (by omega)) (by decide) (Nat.le_of_ble_eq_true rfl) d_M_readsLaw_65 rfl (by decide) ?_
      refine gx_zreturn hG d_M_readsLaw_68 rfl rfl (by first | exact bi_01 _ | decide | omega) ?_
      refine ⟨_, rfl, _, rfl, ?_⟩
      rw [if_pos (show w 76 18 = 1 by omega)]
      unfold pLaw
      first
        | (rw [bi_t (by omega), if_pos (by omega)]
           refine ⟨rfl, ((MF_u (by decide)).tr (MF_u (by decide))).tr (MF_u (by decide)), by rw [wu_pl (by decide), wu_pl (by decide), wu_pl (by decide)], by rw [wu_eq]; show _ = p.pos + 2; omega, fun _ => ⟨by rw [wu_eq]; show _ = p.pos + 2; omega, ?_, ?_, ?_, ?_, ?_⟩⟩
           · rw [wu_pl (by decide), wu_eq]; exact (hfy (by omega)).symm
           · rw [wu_pl (by decide), wu_pl (by decide), wu_pl (by decide)]; exact hr.2.2.1
           · rw [wu_pl (by decide), wu_pl (by decide), wu_pl (by decide)]; exact hr.2.2.2.1
           · exact fun i i0 i1 => by rw [wu_ne (by decide), wu_ne (by decide), wu_ne (by decide)]; exact hr.2.2.2.2.1 i i0 i1
           · exact fun i i0 i1 => by rw [wu_ne (by decide), wu_ne (by decide), wu_ne (by decide)]; exact hr.2.2.2.2.2 i i0 i1)
        | (rw [bi_f (by omega), if_neg (by omega)]
           exact ⟨rfl, ((MF_u (by decide)).tr (MF_u (by decide))).tr (MF_u (by decide)), by rw [wu_pl (by decide), wu_pl (by decide), wu_pl (by decide)], by rw [wu_eq]; show _ = p.pos + 1; omega, fun q => absurd (show (0 : Int) = 1 from q) (by decide)⟩)
  · refine gx_iconst (q := 23) hG d_M_readsLaw_22 rfl ?_
    refine gx_zreturn hG d_M_readsLaw_23 rfl rfl (by first | exact bi_01 _ | decide | omega) ?_
    refine ⟨_, rfl, _, rfl, ?_⟩
    rw [if_neg (by omega)]
    exact ⟨rfl, MF_id, rfl, hr.1, fun q => absurd (show (0 : Int) = 1 from q) (by decide)⟩
theorem ev_M_kindOf {w : Mem} {c : Int} (hc : R3 c) : EvX y_M_kindOf b_M_kindOf 1 (some .int) (1) [Vi c] w (Vi (kdC c)) := by
  refine Ev.mk (isI := false) (by decide +kernel) nofun (Nat.le_of_ble_eq_true rfl) (fun G hG => ?_)
  show G 0 [some (Vi c)] [] 102 (hp w)
  refine gx_iload0 (q := 1) hG d_M_kindOf_0 rfl ?_
  refine gx_tsw (tgt := 104) hG d_M_kindOf_1 (by omega) (by decide) rfl (fun c1 => ?_) (fun i9 o9 h9 c1 => ?_)
  · refine gx_bipush (q := 106) hG d_M_kindOf_104 rfl rfl ?_
    refine gx_ireturn hG d_M_kindOf_106 rfl rfl ?_
    refine ⟨_, rfl, ?_, rfl⟩
    first
      | (rw [c1]; rfl)
      | (unfold kdC; repeat rw [if_neg (by omega)])
  · match i9, h9 with
    | 0, h9 =>
      cases h9
      have c1 : _ = (97 : Int) := c1
      refine ⟨96, rfl, ?_⟩
      refine gx_iconst (q := 97) hG d_M_kindOf_96 rfl ?_
      refine gx_ireturn hG d_M_kindOf_97 rfl rfl ?_
      refine ⟨_, rfl, ?_, rfl⟩
      first
        | (rw [c1]; rfl)
        | (unfold kdC; repeat rw [if_neg (by omega)])
    | 1, h9 =>
      cases h9
      have c1 : _ = (98 : Int) := c1
      refine ⟨98, rfl, ?_⟩
      refine gx_iconst (q := 99) hG d_M_kindOf_98 rfl ?_
      refine gx_ireturn hG d_M_kindOf_99 rfl rfl ?_
      refine ⟨_, rfl, ?_, rfl⟩
      first
        | (rw [c1]; rfl)
        | (unfold kdC; repeat rw [if_neg (by omega)])
    | 2, h9 =>
      cases h9
      have c1 : _ = (99 : Int) := c1
      refine ⟨102, rfl, ?_⟩
      refine gx_iconst (q := 103) hG d_M_kindOf_102 rfl ?_
      refine gx_ireturn hG d_M_kindOf_103 rfl rfl ?_
      refine ⟨_, rfl, ?_, rfl⟩
      first
        | (rw [c1]; rfl)
        | (unfold kdC; repeat rw [if_neg (by omega)])
    | 3, h9 =>
      cases h9
      have c1 : _ = (100 : Int) := c1
      refine ⟨104, rfl, ?_⟩
      refine gx_bipush (q := 106) hG d_M_kindOf_104 rfl rfl ?_
      refine gx_ireturn hG d_M_kindOf_106 rfl rfl ?_
      refine ⟨_, rfl, ?_, rfl⟩
      first
        | (rw [c1]; rfl)
        | (unfold kdC; repeat rw [if_neg (by omega)])
    | 4, h9 =>
      cases h9
      have c1 : _ = (101 : Int) := c1
      refine ⟨104, rfl, ?_⟩
      refine gx_bipush (q := 106) hG d_M_kindOf_104 rfl rfl ?_
      refine gx_ireturn hG d_M_kindOf_106 rfl rfl ?_
      refine ⟨_, rfl, ?_, rfl⟩
      first
        | (rw [c1]; rfl)
        | (unfold kdC; repeat rw [if_neg (by omega)])
    | 5, h9 =>
      cases h9
      have c1 : _ = (102 : Int) := c1
      refine ⟨104, rfl, ?_⟩
      refine gx_bipush (q := 106) hG d_M_kindOf_104 rfl rfl ?_
      refine gx_ireturn hG d_M_kindOf_106 rfl rfl ?_
      refine ⟨_, rfl, ?_, rfl⟩
      first
        | (rw [c1]; rfl)
        | (unfold kdC; repeat rw [if_neg (by omega)])
    | 6, h9 =>
      cases h9
      have c1 : _ = (103 : Int) := c1
      refine ⟨100, rfl, ?_⟩
      refine gx_iconst (q := 101) hG d_M_kindOf_100 rfl ?_
      refine gx_ireturn hG d_M_kindOf_101 rfl rfl ?_
      refine ⟨_, rfl, ?_, rfl⟩
      first
        | (rw [c1]; rfl)
        | (unfold kdC; repeat rw [if_neg (by omega)])
    | 7, h9 =>
      cases h9
      have c1 : _ = (104 : Int) := c1
      refine ⟨104, rfl, ?_⟩
      refine gx_bipush (q := 106) hG d_M_kindOf_104 rfl rfl ?_
      refine gx_ireturn hG d_M_kindOf_106 rfl rfl ?_
      refine ⟨_, rfl, ?_, rfl⟩
      first
        | (rw [c1]; rfl)
        | (unfold kdC; repeat rw [if_neg (by omega)])
    | 8, h9 =>
      cases h9
      have c1 : _ = (105 : Int) := c1
      refine ⟨104, rfl, ?_⟩
      refine gx_bipush (q := 106) hG d_M_kindOf_104 rfl rfl ?_
      refine gx_ireturn hG d_M_kindOf_106 rfl rfl ?_
      refine ⟨_, rfl, ?_, rfl⟩
      first
        | (rw [c1]; rfl)
        | (unfold kdC; repeat rw [if_neg (by omega)])
    | 9, h9 =>
      cases h9
      have c1 : _ = (106 : Int) := c1
      refine ⟨104, rfl, ?_⟩
      refine gx_bipush (q := 106) hG d_M_kindOf_104 rfl rfl ?_
      refine gx_ireturn hG d_M_kindOf_106 rfl rfl ?_
      refine ⟨_, rfl, ?_, rfl⟩
      first
        | (rw [c1]; rfl)
        | (unfold kdC; repeat rw [if_neg (by omega)])
    | 10, h9 =>
      cases h9
      have c1 : _ = (107 : Int) := c1
      refine ⟨104, rfl, ?_⟩
      refine gx_bipush (q := 106) hG d_M_kindOf_104 rfl rfl ?_
      refine gx_ireturn hG d_M_kindOf_106 rfl rfl ?_
      refine ⟨_, rfl, ?_, rfl⟩
      first
        | (rw [c1]; rfl)
        | (unfold kdC; repeat rw [if_neg (by omega)])
    | 11, h9 =>
      cases h9
      have c1 : _ = (108 : Int) := c1
      refine ⟨104, rfl, ?_⟩
      refine gx_bipush (q := 106) hG d_M_kindOf_104 rfl rfl ?_
      refine gx_ireturn hG d_M_kindOf_106 rfl rfl ?_
      refine ⟨_, rfl, ?_, rfl⟩
      first
        | (rw [c1]; rfl)
        | (unfold kdC; repeat rw [if_neg (by omega)])
    | 12, h9 =>
      cases h9
      have c1 : _ = (109 : Int) := c1
      refine ⟨104, rfl, ?_⟩
      refine gx_bipush (q := 106) hG d_M_kindOf_104 rfl rfl ?_
      refine gx_ireturn hG d_M_kindOf_106 rfl rfl ?_
      refine ⟨_, rfl, ?_, rfl⟩
      first
        | (rw [c1]; rfl)
        | (unfold kdC; repeat rw [if_neg (by omega)])
    | 13, h9 =>
      cases h9
      have c1 : _ = (110 : Int) := c1
      refine ⟨104, rfl, ?_⟩
      refine gx_bipush (q := 106) hG d_M_kindOf_104 rfl rfl ?_
      refine gx_ireturn hG d_M_kindOf_106 rfl rfl ?_
      refine ⟨_, rfl, ?_, rfl⟩
      first
        | (rw [c1]; rfl)
        | (unfold kdC; repeat rw [if_neg (by omega)])
    | 14, h9 =>
      cases h9
      have c1 : _ = (111 : Int) := c1
      refine ⟨104, rfl, ?_⟩
      refine gx_bipush (q := 106) hG d_M_kindOf_104 rfl rfl ?_
      refine gx_ireturn hG d_M_kindOf_106 rfl rfl ?_
      refine ⟨_, rfl, ?_, rfl⟩
      first
        | (rw [c1]; rfl)
        | (unfold kdC; repeat rw [if_neg (by omega)])
    | 15, h9 =>
      cases h9
      have c1 : _ = (112 : Int) := c1
      refine ⟨92, rfl, ?_⟩
      refine gx_iconst (q := 93) hG d_M_kindOf_92 rfl ?_
      refine gx_ireturn hG d_M_kindOf_93 rfl rfl ?_
      refine ⟨_, rfl, ?_, rfl⟩
      first
        | (rw [c1]; rfl)
        | (unfold kdC; repeat rw [if_neg (by omega)])
    | 16, h9 =>
      cases h9
      have c1 : _ = (113 : Int) := c1
      refine ⟨104, rfl, ?_⟩
      refine gx_bipush (q := 106) hG d_M_kindOf_104 rfl rfl ?_
      refine gx_ireturn hG d_M_kindOf_106 rfl rfl ?_
      refine ⟨_, rfl, ?_, rfl⟩
      first
        | (rw [c1]; rfl)
        | (unfold kdC; repeat rw [if_neg (by omega)])
    | 17, h9 =>
      cases h9
      have c1 : _ = (114 : Int) := c1
      refine ⟨104, rfl, ?_⟩
      refine gx_bipush (q := 106) hG d_M_kindOf_104 rfl rfl ?_
      refine gx_ireturn hG d_M_kindOf_106 rfl rfl ?_
      refine ⟨_, rfl, ?_, rfl⟩
      first
        | (rw [c1]; rfl)
        | (unfold kdC; repeat rw [if_neg (by omega)])
    | 18, h9 =>
      cases h9
      have c1 : _ = (115 : Int) := c1
      refine ⟨94, rfl, ?_⟩
      refine gx_iconst (q := 95) hG d_M_kindOf_94 rfl ?_
      refine gx_ireturn hG d_M_kindOf_95 rfl rfl ?_
      refine ⟨_, rfl, ?_, rfl⟩
      first
        | (rw [c1]; rfl)
        | (unfold kdC; repeat rw [if_neg (by omega)])
    | i9 + 19, h9 => simp at h9
theorem ev_M_readsNumber {w : Mem} {t : Int} {p : Ps} (hO : OK (aM w)) (ht : 0 ≤ t ∧ t < 4) (hr : RM w p) (hb : PB p) (hp0 : p.pos ≤ 59) : EvI y_M_readsNumber b_M_readsNumber 4 (some .boolean) (4) [Vr 76, Vi t] w (IM w (pNum (aM w) t p)) := by
  refine Ev.mk (isI := false) (by decide +kernel) nofun (Nat.le_of_ble_eq_true rfl) (fun G hG => ?_)
  show G 0 [some (Vr 76), some (Vi t), none, none] [] 102 (hp w)
  have hb1 := hb.1
  have hbn := hb.2.2.1
  have hbb1 := byS_bd (i := p.pos + 1) hO ht (by omega)
  have hbb2 := byS_bd (i := p.pos + 2) hO ht (by omega)
  have hfy1 := fg_y (s := aM w) (t := t) (i := p.pos + 1)
  have hfn1 := fg_n (s := aM w) (t := t) (i := p.pos + 1)
  have hfy2 := fg_y (s := aM w) (t := t) (i := p.pos + 2)
  have hfn2 := fg_n (s := aM w) (t := t) (i := p.pos + 2)
  obtain ⟨n, en⟩ : ∃ n : Nat, p.n = (n : Int) := ⟨p.n.toNat, by omega⟩
  have ent : p.n.toNat = n := by omega
  have T : ∀ (W : Mem) (m v : Int), 1 ≤ m → m ≤ 2 → v = vN (aM w) t p.pos → 0 ≤ fgS (aM w) t (p.pos + 1) → MF w W → (∀ b, b ≠ 76 → W b = w b) → (∀ j, j ≠ 16 → W 76 j = w 76 j) → W 76 16 = xN (aM w) t p.pos → p.n < 12 → G 83 [some (Vr 76), some (Vi t), some (Vi m), some (Vi v)] [] 102 (hp W) := by
    intro W m v hm hm2 ev h1 hf hW hWj hx hn
    have hvb := vN_bd h1
    have e87 : W 87 = w 87 := hW 87 (by decide)
    have e20 : W 76 20 = (n : Int) := by rw [hWj 20 (by decide), hr.2.2.2.1, en]
    have e17 : W 76 17 = p.law := by rw [hWj 17 (by decide)]; exact hr.2.1
    have hnum : ∀ i : Int, 0 ≤ i → i < (n : Int) → 1 ≤ W 87 i ∧ W 87 i ≤ 60 := fun i i0 i1 => by
      rw [e87, hr.2.2.2.2.1 i i0 (by omega)]
      exact hb.2.2.2.2.1 i i0 (by omega)
    refine gx_iload2 (q := 84) hG d_M_readsNumber_83 rfl ?_
    refine gx_if_eq (tgt := 97) (q := 87) hG d_M_readsNumber_84 rfl rfl (by omega) (fun c84 => ?_) (fun c84 => ?_)
    · exfalso; omega
    · refine gx_iload3 (q := 88) hG d_M_readsNumber_87 rfl ?_
      refine gx_iconst (q := 89) hG d_M_readsNumber_88 rfl ?_
      refine gx_bipush (q := 91) hG d_M_readsNumber_89 rfl rfl ?_
      refine gw_S3X (q := 94) hG l_M_96 c_M_in (ev_M_in (by omega) (by omega) (by omega)) (by decide) (Nat.le_of_ble_eq_true rfl) d_M_readsNumber_91 rfl (by decide) ?_
      refine gx_if_ne (tgt := 99) (q := 97) hG d_M_readsNumber_94 rfl rfl (bi_R _) (fun c94 => ?_) (fun c94 => ?_)
      · have c94 := bi_ne0.mp c94
        refine gx_aload0 (q := 100) hG d_M_readsNumber_99 rfl ?_
        refine gx_aload0 (q := 101) hG d_M_readsNumber_100 rfl ?_
        refine gx_get (q := 104) hG f_M_41 hpM rfl d_M_readsNumber_101 rfl ?_
        refine gx_aload0 (q := 105) hG d_M_readsNumber_104 rfl ?_
        refine gx_get (q := 108) hG f_M_151 hpM rfl d_M_readsNumber_105 rfl ?_
        rw [e20]
        refine gx_aload0 (q := 109) hG d_M_readsNumber_108 rfl ?_
        refine gx_get (q := 112) hG f_M_148 hpM rfl d_M_readsNumber_109 rfl ?_
        rw [e17]
        refine gx_bipush (q := 114) hG d_M_readsNumber_112 rfl rfl ?_
        refine gw_V4V (q := 117) hG l_M_131 c_M_layFew (ev_M_layFew (N := 14) rfl (by decide) (by omega) (by omega) hb.2.1 (by omega) hnum) hpM rfl (by decide) (Nat.le_of_ble_eq_true rfl) d_M_readsNumber_114 rfl (by decide) (fun w1 h114 => ?_)
        obtain ⟨F, rfl, hF⟩ := h114
        have hbF := FZ_bd (v := v) hF (fun i i0 i1 => (hnum i i0 i1).1) (by omega) (by omega)
        have hh := FZ_had (v := v) hF (fun i i0 i1 => (hnum i i0 i1).1) (by omega) (by omega)
        have he : wc W 83 F 83 v = F v := by rw [wc_eq]
        have hrc : rch p.law (W 87) n v ↔ rch p.law p.num p.n.toNat v := rch_ext ent.symm (fun i i0 i1 => by rw [e87]; exact hr.2.2.2.2.1 i i0 (by omega))
        rw [hrc] at hh
        refine gx_aload0 (q := 118) hG d_M_readsNumber_117 rfl ?_
        refine gx_iload3 (q := 119) hG d_M_readsNumber_118 rfl ?_
        refine gw_V1X (q := 122) hG l_M_135 c_M_isHad (ev_M_isHad (by omega) (by rw [he]; omega)) hpM rfl (by decide) (Nat.le_of_ble_eq_true rfl) d_M_readsNumber_119 rfl (by decide) ?_
        refine gx_if_eq (tgt := 127) (q := 125) hG d_M_readsNumber_122 rfl rfl (bi_R _) (fun c122 => ?_) (fun c122 => ?_)
        · have c122 := bi_eq0.mp c122
          rw [he, hh] at c122
          refine gx_aload0 (q := 128) hG d_M_readsNumber_127 rfl ?_
          refine gx_get (q := 131) hG f_M_41 hpM rfl d_M_readsNumber_128 rfl ?_
          refine gx_aload0 (q := 132) hG d_M_readsNumber_131 rfl ?_
          refine gx_get (q := 135) hG f_M_151 hpM rfl d_M_readsNumber_132 rfl ?_
          rw [wc_ne (by decide), e20]
          refine gx_iload3 (q := 136) hG d_M_readsNumber_135 rfl ?_
          refine gw_iast (q := 137) hG rfl (by omega) (by omega) d_M_readsNumber_136 rfl ?_
          refine gx_aload0 (q := 138) hG d_M_readsNumber_137 rfl ?_
          refine gx_dupa (q := 139) hG d_M_readsNumber_138 rfl ?_
          refine gx_get (q := 142) hG f_M_151 hpM rfl d_M_readsNumber_139 rfl ?_
          rw [wu_ne (by decide), wc_ne (by decide), e20]
          refine gx_iconst (q := 143) hG d_M_readsNumber_142 rfl ?_
          refine gx_iadd (q := 144) hG d_M_readsNumber_143 rfl ?_
          refine gw_puti (q := 147) hG f_M_151 hpM (Nat.le_of_ble_eq_true rfl) vfit_i (Or.inl rfl) d_M_readsNumber_144 rfl 20 rfl rfl ?_
          refine gx_iconst (q := 148) hG d_M_readsNumber_147 rfl ?_
          refine gx_zreturn hG d_M_readsNumber_148 rfl rfl (by first | exact bi_01 _ | decide | omega) ?_
          refine ⟨_, rfl, _, rfl, ?_⟩
          rw [num_y hn h1 (by omega) (by rw [← ev]; exact c122), ← ev]
          refine ⟨rfl, ((hf.tr MF_83).tr (MF_a (Or.inr rfl))).tr (MF_u (by decide)), by rw [wu_pl (by decide), wu_ne (by decide), wc_ne (by decide)]; exact hWj 18 (by decide), by rw [wu_pl (by decide), wu_ne (by decide), wc_ne (by decide)]; exact hx, fun _ => ⟨by rw [wu_pl (by decide), wu_ne (by decide), wc_ne (by decide)]; exact hx, ?_, ?_, ?_, ?_, ?_⟩⟩
          · rw [wu_pl (by decide), wu_ne (by decide), wc_ne (by decide)]; exact e17
          · rw [wu_pl (by decide), wu_ne (by decide), wc_ne (by decide), hWj 19 (by decide)]; exact hr.2.2.1
          · rw [wu_eq]; show _ = p.n + 1; omega
          · intro i i0 i1
            have i1' : i < p.n + 1 := i1
            show _ = up p.num p.n v i
            rw [wu_ne (by decide), wu_at, wc_ne (by decide), e87, en]
            unfold up
            split
            · rfl
            · exact hr.2.2.2.2.1 i i0 (by omega)
          · intro i i0 i1
            rw [wu_ne (by decide), wu_ne (by decide), wc_ne (by decide), hW 86 (by decide)]
            exact hr.2.2.2.2.2 i i0 i1
        · have c122 := bi_ne0.mp c122
          rw [he, hh] at c122
          refine gx_iconst (q := 126) hG d_M_readsNumber_125 rfl ?_
          refine gx_zreturn hG d_M_readsNumber_126 rfl rfl (by first | exact bi_01 _ | decide | omega) ?_
          refine ⟨_, rfl, _, rfl, ?_⟩
          rw [num_n hn h1 (fun q => q.2.2 (by rw [← ev]; exact c122))]
          exact ⟨rfl, hf.tr MF_83, by rw [wc_ne (by decide)]; exact hWj 18 (by decide), by rw [wc_ne (by decide)]; exact hx, fun q => absurd (show (0 : Int) = 1 from q) (by decide)⟩
      · have c94 := bi_eq0.mp c94
        refine gx_iconst (q := 98) hG d_M_readsNumber_97 rfl ?_
        refine gx_zreturn hG d_M_readsNumber_98 rfl rfl (by first | exact bi_01 _ | decide | omega) ?_
        refine ⟨_, rfl, _, rfl, ?_⟩
        rw [num_n hn h1 (fun q => by omega)]
        exact ⟨rfl, hf, hWj 18 (by decide), hx, fun q => absurd (show (0 : Int) = 1 from q) (by decide)⟩
  have hxy := @xN_bd (aM w) t p.pos
  have S2 : 48 ≤ byS (aM w) t (p.pos + 1) ∧ byS (aM w) t (p.pos + 1) ≤ 57 → 48 ≤ byS (aM w) t (p.pos + 2) ∧ byS (aM w) t (p.pos + 2) ≤ 57 → p.n < 12 → G 25 [some (Vr 76), some (Vi t), some (Vi 2), some (Vi (10 * (byS (aM w) t (p.pos + 1) - 48) + byS (aM w) t (p.pos + 2) - 48))] [] 102 (hp (wu (wu (wu w 76 16 (p.pos + 1)) 76 16 (p.pos + 2)) 76 16 (p.pos + 3))) := by
    intro d1 d2 hn
    have f1 := hfy1 d1
    have f2 := hfy2 d2
    refine gx_iload2 (q := 26) hG d_M_readsNumber_25 rfl ?_
    refine gx_iconst (q := 27) hG d_M_readsNumber_26 rfl ?_
    refine gx_icmp_ge (tgt := 83) (q := 30) hG d_M_readsNumber_27 rfl rfl (by omega) (by omega) (fun c27 => ?_) (fun c27 => ?_)
    · refine T _ 2 _ (by decide) (by decide) (by unfold vN; rw [if_neg (by omega)]; omega) (by omega) (((MF_u (by decide)).tr (MF_u (by decide))).tr (MF_u (by decide))) (fun b hb => by rw [wu_ne hb, wu_ne hb, wu_ne hb]) (fun j hj => by rw [wu_pl hj, wu_pl hj, wu_pl hj]) (by unfold xN; rw [wu_eq, if_neg (by omega)]) hn
    · exfalso; omega
  have S1 : 48 ≤ byS (aM w) t (p.pos + 1) ∧ byS (aM w) t (p.pos + 1) ≤ 57 → p.n < 12 → G 25 [some (Vr 76), some (Vi t), some (Vi 1), some (Vi (byS (aM w) t (p.pos + 1) - 48))] [] 102 (hp (wu (wu w 76 16 (p.pos + 1)) 76 16 (p.pos + 2))) := by
    intro d1 hn
    have f1 := hfy1 d1
    have mf : MF w (wu (wu w 76 16 (p.pos + 1)) 76 16 (p.pos + 2)) := (MF_u (by decide)).tr (MF_u (by decide))
    refine gx_iload2 (q := 26) hG d_M_readsNumber_25 rfl ?_
    refine gx_iconst (q := 27) hG d_M_readsNumber_26 rfl ?_
    refine gx_icmp_ge (tgt := 83) (q := 30) hG d_M_readsNumber_27 rfl rfl (by omega) (by omega) (fun c27 => ?_) (fun c27 => ?_)
    · exfalso; omega
    · refine gx_aload0 (q := 31) hG d_M_readsNumber_30 rfl ?_
      refine gx_iload1 (q := 32) hG d_M_readsNumber_31 rfl ?_
      refine gx_aload0 (q := 33) hG d_M_readsNumber_32 rfl ?_
      refine gx_get (q := 36) hG f_M_138 hpM rfl d_M_readsNumber_33 rfl ?_
      rw [wu_eq]
      refine gw_V2X (q := 39) hG l_M_141 c_M_byteAt (ev_M_byteS hO mf ht (by omega)) hpM rfl (by decide) (Nat.le_of_ble_eq_true rfl) d_M_readsNumber_36 rfl (by decide) ?_
      refine gx_bipush (q := 41) hG d_M_readsNumber_39 rfl rfl ?_
      refine gx_bipush (q := 43) hG d_M_readsNumber_41 rfl rfl ?_
      refine gw_S3X (q := 46) hG l_M_96 c_M_in (ev_M_in (by omega) (by omega) (by omega)) (by decide) (Nat.le_of_ble_eq_true rfl) d_M_readsNumber_43 rfl (by decide) ?_
      refine gx_if_eq (tgt := 83) (q := 49) hG d_M_readsNumber_46 rfl rfl (bi_R _) (fun c46 => ?_) (fun c46 => ?_)
      · have c46 := bi_eq0.mp c46
        have f2 := hfn2 c46
        refine T _ 1 _ (by decide) (by decide) (by unfold vN; rw [if_pos (by omega)]; omega) (by omega) mf (fun b hb => by rw [wu_ne hb, wu_ne hb]) (fun j hj => by rw [wu_pl hj, wu_pl hj]) (by unfold xN; rw [wu_eq, if_pos (by omega)]) hn
      · have c46 := bi_ne0.mp c46
        refine gx_bipush (q := 51) hG d_M_readsNumber_49 rfl rfl ?_
        refine gx_iload3 (q := 52) hG d_M_readsNumber_51 rfl ?_
        refine gx_imul (q := 53) hG d_M_readsNumber_52 rfl ?_
        refine gx_aload0 (q := 54) hG d_M_readsNumber_53 rfl ?_
        refine gx_iload1 (q := 55) hG d_M_readsNumber_54 rfl ?_
        refine gx_aload0 (q := 56) hG d_M_readsNumber_55 rfl ?_
        refine gx_get (q := 59) hG f_M_138 hpM rfl d_M_readsNumber_56 rfl ?_
        rw [wu_eq]
        refine gw_V2X (q := 62) hG l_M_141 c_M_byteAt (ev_M_byteS hO mf ht (by omega)) hpM rfl (by decide) (Nat.le_of_ble_eq_true rfl) d_M_readsNumber_59 rfl (by decide) ?_
        refine gx_iadd (q := 63) hG d_M_readsNumber_62 rfl ?_
        refine gx_bipush (q := 65) hG d_M_readsNumber_63 rfl rfl ?_
        refine gx_isub (q := 66) hG d_M_readsNumber_65 rfl ?_
        refine gx_istore3 (q := 67) hG d_M_readsNumber_66 rfl rfl ?_
        refine gx_aload0 (q := 68) hG d_M_readsNumber_67 rfl ?_
        refine gx_dupa (q := 69) hG d_M_readsNumber_68 rfl ?_
        refine gx_get (q := 72) hG f_M_138 hpM rfl d_M_readsNumber_69 rfl ?_
        rw [wu_eq]
        refine gx_iconst (q := 73) hG d_M_readsNumber_72 rfl ?_
        refine gx_iadd (q := 74) hG d_M_readsNumber_73 rfl ?_
        refine gw_puti (q := 77) hG f_M_138 hpM (Nat.le_of_ble_eq_true rfl) vfit_i (Or.inl rfl) d_M_readsNumber_74 rfl 16 rfl rfl ?_
        refine gx_iinc2 (q := 80) hG d_M_readsNumber_77 rfl rfl ?_
        refine gx_goto (tgt := 25) hG d_M_readsNumber_80 rfl ?_
        have e := S2 d1 c46 hn
        rw [show p.pos + 3 = p.pos + 2 + 1 by omega] at e
        exact e
  have mf0 : MF w (wu w 76 16 (p.pos + 1)) := MF_u (by decide)
  have S0 : p.n < 12 → G 25 [some (Vr 76), some (Vi t), some (Vi 0), some (Vi 0)] [] 102 (hp (wu w 76 16 (p.pos + 1))) := by
    intro hn
    refine gx_iload2 (q := 26) hG d_M_readsNumber_25 rfl ?_
    refine gx_iconst (q := 27) hG d_M_readsNumber_26 rfl ?_
    refine gx_icmp_ge (tgt := 83) (q := 30) hG d_M_readsNumber_27 rfl rfl (by omega) (by omega) (fun c27 => ?_) (fun c27 => ?_)
    · exfalso; omega
    · refine gx_aload0 (q := 31) hG d_M_readsNumber_30 rfl ?_
      refine gx_iload1 (q := 32) hG d_M_readsNumber_31 rfl ?_
      refine gx_aload0 (q := 33) hG d_M_readsNumber_32 rfl ?_
      refine gx_get (q := 36) hG f_M_138 hpM rfl d_M_readsNumber_33 rfl ?_
      rw [wu_eq]
      refine gw_V2X (q := 39) hG l_M_141 c_M_byteAt (ev_M_byteS hO mf0 ht (by omega)) hpM rfl (by decide) (Nat.le_of_ble_eq_true rfl) d_M_readsNumber_36 rfl (by decide) ?_
      refine gx_bipush (q := 41) hG d_M_readsNumber_39 rfl rfl ?_
      refine gx_bipush (q := 43) hG d_M_readsNumber_41 rfl rfl ?_
      refine gw_S3X (q := 46) hG l_M_96 c_M_in (ev_M_in (by omega) (by omega) (by omega)) (by decide) (Nat.le_of_ble_eq_true rfl) d_M_readsNumber_43 rfl (by decide) ?_
      refine gx_if_eq (tgt := 83) (q := 49) hG d_M_readsNumber_46 rfl rfl (bi_R _) (fun c46 => ?_) (fun c46 => ?_)
      · have c46 := bi_eq0.mp c46
        refine gx_iload2 (q := 84) hG d_M_readsNumber_83 rfl ?_
        refine gx_if_eq (tgt := 97) (q := 87) hG d_M_readsNumber_84 rfl rfl (by omega) (fun c84 => ?_) (fun c84 => ?_)
        · refine gx_iconst (q := 98) hG d_M_readsNumber_97 rfl ?_
          refine gx_zreturn hG d_M_readsNumber_98 rfl rfl (by first | exact bi_01 _ | decide | omega) ?_
          refine ⟨_, rfl, _, rfl, ?_⟩
          have f1 := hfn1 c46
          rw [num_f hn (by omega)]
          exact ⟨rfl, mf0, by rw [wu_pl (by decide)], wu_eq, fun q => absurd (show (0 : Int) = 1 from q) (by decide)⟩
        · exfalso; omega
      · have c46 := bi_ne0.mp c46
        refine gx_bipush (q := 51) hG d_M_readsNumber_49 rfl rfl ?_
        refine gx_iload3 (q := 52) hG d_M_readsNumber_51 rfl ?_
        refine gx_imul (q := 53) hG d_M_readsNumber_52 rfl ?_
        refine gx_aload0 (q := 54) hG d_M_readsNumber_53 rfl ?_
        refine gx_iload1 (q := 55) hG d_M_readsNumber_54 rfl ?_
        refine gx_aload0 (q := 56) hG d_M_readsNumber_55 rfl ?_
        refine gx_get (q := 59) hG f_M_138 hpM rfl d_M_readsNumber_56 rfl ?_
        rw [wu_eq]
        refine gw_V2X (q := 62) hG l_M_141 c_M_byteAt (ev_M_byteS hO mf0 ht (by omega)) hpM rfl (by decide) (Nat.le_of_ble_eq_true rfl) d_M_readsNumber_59 rfl (by decide) ?_
        refine gx_iadd (q := 63) hG d_M_readsNumber_62 rfl ?_
        refine gx_bipush (q := 65) hG d_M_readsNumber_63 rfl rfl ?_
        refine gx_isub (q := 66) hG d_M_readsNumber_65 rfl ?_
        refine gx_istore3 (q := 67) hG d_M_readsNumber_66 rfl rfl ?_
        refine gx_aload0 (q := 68) hG d_M_readsNumber_67 rfl ?_
        refine gx_dupa (q := 69) hG d_M_readsNumber_68 rfl ?_
        refine gx_get (q := 72) hG f_M_138 hpM rfl d_M_readsNumber_69 rfl ?_
        rw [wu_eq]
        refine gx_iconst (q := 73) hG d_M_readsNumber_72 rfl ?_
        refine gx_iadd (q := 74) hG d_M_readsNumber_73 rfl ?_
        refine gw_puti (q := 77) hG f_M_138 hpM (Nat.le_of_ble_eq_true rfl) vfit_i (Or.inl rfl) d_M_readsNumber_74 rfl 16 rfl rfl ?_
        refine gx_iinc2 (q := 80) hG d_M_readsNumber_77 rfl rfl ?_
        refine gx_goto (tgt := 25) hG d_M_readsNumber_80 rfl ?_
        have e := S1 c46 hn
        rw [show p.pos + 2 = p.pos + 1 + 1 by omega] at e
        rw [show 10 * 0 + byS (aM w) t (p.pos + 1) - 48 = byS (aM w) t (p.pos + 1) - 48 by omega]
        exact e
  refine gx_aload0 (q := 1) hG d_M_readsNumber_0 rfl ?_
  refine gx_get (q := 4) hG f_M_151 hpM rfl d_M_readsNumber_1 rfl ?_
  rw [hr.2.2.2.1]
  refine gx_bipush (q := 6) hG d_M_readsNumber_4 rfl rfl ?_
  refine gx_icmp_ne (tgt := 11) (q := 9) hG d_M_readsNumber_6 rfl rfl (by omega) (by omega) (fun c6 => ?_) (fun c6 => ?_)
  · refine gx_aload0 (q := 12) hG d_M_readsNumber_11 rfl ?_
    refine gx_dupa (q := 13) hG d_M_readsNumber_12 rfl ?_
    refine gx_get (q := 16) hG f_M_138 hpM rfl d_M_readsNumber_13 rfl ?_
    rw [hr.1]
    refine gx_iconst (q := 17) hG d_M_readsNumber_16 rfl ?_
    refine gx_iadd (q := 18) hG d_M_readsNumber_17 rfl ?_
    refine gw_puti (q := 21) hG f_M_138 hpM (Nat.le_of_ble_eq_true rfl) vfit_i (Or.inl rfl) d_M_readsNumber_18 rfl 16 rfl rfl ?_
    refine gx_iconst (q := 22) hG d_M_readsNumber_21 rfl ?_
    refine gx_istore2 (q := 23) hG d_M_readsNumber_22 rfl rfl ?_
    refine gx_iconst (q := 24) hG d_M_readsNumber_23 rfl ?_
    refine gx_istore3 (q := 25) hG d_M_readsNumber_24 rfl rfl ?_
    exact S0 (by omega)
  · refine gx_iconst (q := 10) hG d_M_readsNumber_9 rfl ?_
    refine gx_zreturn hG d_M_readsNumber_10 rfl rfl (by first | exact bi_01 _ | decide | omega) ?_
    refine ⟨_, rfl, _, rfl, ?_⟩
    rw [num_b (by omega)]
    exact ⟨rfl, MF_id, rfl, hr.1, fun q => absurd (show (0 : Int) = 1 from q) (by decide)⟩

