/-! part 85: fault and game of the reference -/
theorem ev_M_readsItem {w : Mem} {t : Int} {p : Ps} (hO : OK (aM w)) (ht : 0 ≤ t ∧ t < 4) (hr : RM w p) (hb : PB p) (hp0 : p.pos ≤ 59) (hf : w 76 18 = 0 ∨ w 76 18 = 1) : EvI y_M_readsItem b_M_readsItem 3 (some .boolean) (5) [Vr 76, Vi t] w (IM w (pItem (aM w) t (w 76 18) p)) := by
  refine Ev.mk (isI := false) (by decide +kernel) nofun (Nat.le_of_ble_eq_true rfl) (fun G hG => ?_)
  show G 0 [some (Vr 76), some (Vi t), none] [] 102 (hp w)
  have hb1 := hb.1
  have hbp := hb.2.2.2.1
  have hbb := byS_bd (i := p.pos) hO ht (by omega)
  have hkd := kdC_bd (c := byS (aM w) t p.pos)
  refine gx_aload0 (q := 1) hG d_M_readsItem_0 rfl ?_
  refine gx_iload1 (q := 2) hG d_M_readsItem_1 rfl ?_
  refine gx_aload0 (q := 3) hG d_M_readsItem_2 rfl ?_
  refine gx_get (q := 6) hG f_M_138 hpM rfl d_M_readsItem_3 rfl ?_
  rw [hr.1]
  refine gw_V2X (q := 9) hG l_M_141 c_M_byteAt (ev_M_byteS hO MF_id ht (by omega)) hpM rfl (by decide) (Nat.le_of_ble_eq_true rfl) d_M_readsItem_6 rfl (by decide) ?_
  refine gx_istore2 (q := 10) hG d_M_readsItem_9 rfl rfl ?_
  refine gx_iload2 (q := 11) hG d_M_readsItem_10 rfl ?_
  refine gx_bipush (q := 13) hG d_M_readsItem_11 rfl rfl ?_
  refine gx_icmp_ne (tgt := 22) (q := 16) hG d_M_readsItem_13 rfl rfl (by omega) (by omega) (fun c13 => ?_) (fun c13 => ?_)
  · refine gx_iload2 (q := 23) hG d_M_readsItem_22 rfl ?_
    refine gx_bipush (q := 25) hG d_M_readsItem_23 rfl rfl ?_
    refine gx_icmp_ne (tgt := 34) (q := 28) hG d_M_readsItem_25 rfl rfl (by omega) (by omega) (fun c25 => ?_) (fun c25 => ?_)
    · refine gx_iload2 (q := 35) hG d_M_readsItem_34 rfl ?_
      refine gw_S1X (q := 38) hG l_M_160 c_M_kindOf (ev_M_kindOf (by omega)) (by decide) (Nat.le_of_ble_eq_true rfl) d_M_readsItem_35 rfl (by decide) ?_
      refine gx_bipush (q := 40) hG d_M_readsItem_38 rfl rfl ?_
      refine gx_icmp_eq (tgt := 51) (q := 43) hG d_M_readsItem_40 rfl rfl (by omega) (by omega) (fun c40 => ?_) (fun c40 => ?_)
      · refine gx_iconst (q := 52) hG d_M_readsItem_51 rfl ?_
        refine gx_zreturn hG d_M_readsItem_52 rfl rfl (by first | exact bi_01 _ | decide | omega) ?_
        refine ⟨_, rfl, _, rfl, ?_⟩
        first
          | (rw [it_no (by omega) (by omega) (by omega)]
             exact ⟨rfl, MF_id, rfl, hr.1, fun q => absurd (show (0 : Int) = 1 from q) (by decide)⟩)
          | (rw [it_pl (k := kdC (byS (aM w) t p.pos)) rfl (by omega)]
             unfold pPl
             rw [if_neg (by omega)]
             exact ⟨rfl, MF_id, rfl, hr.1, fun q => absurd (show (0 : Int) = 1 from q) (by decide)⟩)
      · refine gx_aload0 (q := 44) hG d_M_readsItem_43 rfl ?_
        refine gx_get (q := 47) hG f_M_163 hpM rfl d_M_readsItem_44 rfl ?_
        rw [hr.2.2.1]
        refine gx_iconst (q := 48) hG d_M_readsItem_47 rfl ?_
        refine gx_icmp_ne (tgt := 53) (q := 51) hG d_M_readsItem_48 rfl rfl (by omega) (by omega) (fun c48 => ?_) (fun c48 => ?_)
        · refine gx_aload0 (q := 54) hG d_M_readsItem_53 rfl ?_
          refine gx_get (q := 57) hG f_M_38 hpM rfl d_M_readsItem_54 rfl ?_
          refine gx_aload0 (q := 58) hG d_M_readsItem_57 rfl ?_
          refine gx_get (q := 61) hG f_M_163 hpM rfl d_M_readsItem_58 rfl ?_
          rw [hr.2.2.1]
          refine gx_iload2 (q := 62) hG d_M_readsItem_61 rfl ?_
          refine gw_S1X (q := 65) hG l_M_160 c_M_kindOf (ev_M_kindOf (by omega)) (by decide) (Nat.le_of_ble_eq_true rfl) d_M_readsItem_62 rfl (by decide) ?_
          refine gw_iast (q := 66) hG rfl (by omega) (by omega) d_M_readsItem_65 rfl ?_
          refine gx_aload0 (q := 67) hG d_M_readsItem_66 rfl ?_
          refine gx_dupa (q := 68) hG d_M_readsItem_67 rfl ?_
          refine gx_get (q := 71) hG f_M_163 hpM rfl d_M_readsItem_68 rfl ?_
          rw [wu_ne (by decide), hr.2.2.1]
          refine gx_iconst (q := 72) hG d_M_readsItem_71 rfl ?_
          refine gx_iadd (q := 73) hG d_M_readsItem_72 rfl ?_
          refine gw_puti (q := 76) hG f_M_163 hpM (Nat.le_of_ble_eq_true rfl) vfit_i (Or.inl rfl) d_M_readsItem_73 rfl 19 rfl rfl ?_
          refine gx_aload0 (q := 77) hG d_M_readsItem_76 rfl ?_
          refine gx_dupa (q := 78) hG d_M_readsItem_77 rfl ?_
          refine gx_get (q := 81) hG f_M_138 hpM rfl d_M_readsItem_78 rfl ?_
          rw [wu_pl (by decide), wu_ne (by decide), hr.1]
          refine gx_iconst (q := 82) hG d_M_readsItem_81 rfl ?_
          refine gx_iadd (q := 83) hG d_M_readsItem_82 rfl ?_
          refine gw_puti (q := 86) hG f_M_138 hpM (Nat.le_of_ble_eq_true rfl) vfit_i (Or.inl rfl) d_M_readsItem_83 rfl 16 rfl rfl ?_
          refine gx_iconst (q := 87) hG d_M_readsItem_86 rfl ?_
          refine gx_zreturn hG d_M_readsItem_87 rfl rfl (by first | exact bi_01 _ | decide | omega) ?_
          refine ⟨_, rfl, _, rfl, ?_⟩
          rw [it_pl (k := kdC (byS (aM w) t p.pos)) rfl (by omega)]
          unfold pPl
          rw [if_pos (by omega)]
          refine ⟨rfl, ((MF_a (Or.inl rfl)).tr (MF_u (by decide))).tr (MF_u (by decide)), by rw [wu_pl (by decide), wu_pl (by decide), wu_ne (by decide)], wu_eq, fun _ => ⟨wu_eq, ?_, ?_, ?_, ?_, ?_⟩⟩
          · rw [wu_pl (by decide), wu_pl (by decide), wu_ne (by decide)]; exact hr.2.1
          · rw [wu_pl (by decide), wu_eq]
          · rw [wu_pl (by decide), wu_pl (by decide), wu_ne (by decide)]; exact hr.2.2.2.1
          · exact fun i i0 i1 => by rw [wu_ne (by decide), wu_ne (by decide), wu_ne (by decide)]; exact hr.2.2.2.2.1 i i0 i1
          · intro i i0 i1
            have i1' : i < p.pl + 1 := i1
            show _ = up p.kd p.pl (kdC (byS (aM w) t p.pos)) i
            rw [wu_ne (by decide), wu_ne (by decide), wu_at]
            unfold up
            split
            · rfl
            · exact hr.2.2.2.2.2 i i0 (by omega)
        · refine gx_iconst (q := 52) hG d_M_readsItem_51 rfl ?_
          refine gx_zreturn hG d_M_readsItem_52 rfl rfl (by first | exact bi_01 _ | decide | omega) ?_
          refine ⟨_, rfl, _, rfl, ?_⟩
          first
            | (rw [it_no (by omega) (by omega) (by omega)]
               exact ⟨rfl, MF_id, rfl, hr.1, fun q => absurd (show (0 : Int) = 1 from q) (by decide)⟩)
            | (rw [it_pl (k := kdC (byS (aM w) t p.pos)) rfl (by omega)]
               unfold pPl
               rw [if_neg (by omega)]
               exact ⟨rfl, MF_id, rfl, hr.1, fun q => absurd (show (0 : Int) = 1 from q) (by decide)⟩)
    · refine gx_aload0 (q := 29) hG d_M_readsItem_28 rfl ?_
      refine gx_iload1 (q := 30) hG d_M_readsItem_29 rfl ?_
      refine gw_V1I (q := 33) hG l_M_157 c_M_readsNumber (ev_M_readsNumber hO ht hr hb hp0) hpM rfl (by decide) (Nat.le_of_ble_eq_true rfl) d_M_readsItem_30 rfl (by decide) (fun z30 w1 h30 => ?_)
      have z01 : z30 = 0 ∨ z30 = 1 := by rw [h30.1]; exact pNum_01
      refine gx_zreturn hG d_M_readsItem_33 rfl rfl (by first | exact bi_01 _ | decide | omega) ?_
      refine ⟨_, rfl, _, rfl, ?_⟩
      rw [it_num (by omega)]
      exact h30
  · refine gx_aload0 (q := 17) hG d_M_readsItem_16 rfl ?_
    refine gx_iload1 (q := 18) hG d_M_readsItem_17 rfl ?_
    refine gw_V1I (q := 21) hG l_M_154 c_M_readsLaw (ev_M_readsLaw hO ht hr hb hp0 hf) hpM rfl (by decide) (Nat.le_of_ble_eq_true rfl) d_M_readsItem_18 rfl (by decide) (fun z18 w1 h18 => ?_)
    have z01 : z18 = 0 ∨ z18 = 1 := by
      rw [h18.1]
      split
      · exact pLaw_01
      · exact Or.inl rfl
    refine gx_zreturn hG d_M_readsItem_21 rfl rfl (by first | exact bi_01 _ | decide | omega) ?_
    refine ⟨_, rfl, _, rfl, ?_⟩
    have e : pItem (aM w) t (w 76 18) p = if w 76 18 = 1 then pLaw (aM w) t p else (0, p) := by
      unfold pItem
      rw [if_pos (by omega)]
    rw [e]
    exact h18
theorem pLaw_le {s : Sta} {t : Int} {p : Ps} (h : (pLaw s t p).1 = 1) : p.pos + 1 ≤ (pLaw s t p).2.pos := by
  revert h
  unfold pLaw
  split
  · intro _; show p.pos + 1 ≤ p.pos + 2; omega
  · intro q; exact absurd (show (0 : Int) = 1 from q) (by decide)
theorem pItem_le {s : Sta} {t f : Int} {p : Ps} (h : (pItem s t f p).1 = 1) : p.pos + 1 ≤ (pItem s t f p).2.pos := by
  revert h
  unfold pItem
  have z0 : ∀ x : Ps, ((0 : Int), x).1 = 1 → p.pos + 1 ≤ ((0 : Int), x).2.pos := fun x q => absurd (show (0 : Int) = 1 from q) (by decide)
  split
  · split
    · exact pLaw_le
    · exact z0 p
  · split
    · unfold pNum
      split
      · exact z0 _
      · split
        · exact z0 _
        · split
          · intro _
            have := (xN_bd (s := s) (t := t) (x := p.pos)).1
            show p.pos + 1 ≤ xN s t p.pos
            omega
          · exact z0 _
    · split
      · exact z0 _
      · unfold pPl
        split
        · intro _; show p.pos + 1 ≤ p.pos + 1; omega
        · exact z0 _
theorem RM_pos {w : Mem} {p : Ps} {x : Int} (h : RM w p) : RM (wu w 76 16 x) (x, p.law, p.n, p.pl, p.num, p.kd) :=
  ⟨wu_eq, by rw [wu_pl (by decide)]; exact h.2.1, by rw [wu_pl (by decide)]; exact h.2.2.1, by rw [wu_pl (by decide)]; exact h.2.2.2.1, fun i i0 i1 => by rw [wu_ne (by decide)]; exact h.2.2.2.2.1 i i0 i1, fun i i0 i1 => by rw [wu_ne (by decide)]; exact h.2.2.2.2.2 i i0 i1⟩
theorem RM_18 {w : Mem} {p : Ps} {x : Int} (h : RM w p) : RM (wu w 76 18 x) p :=
  ⟨by rw [wu_pl (by decide)]; exact h.1, by rw [wu_pl (by decide)]; exact h.2.1, by rw [wu_pl (by decide)]; exact h.2.2.1, by rw [wu_pl (by decide)]; exact h.2.2.2.1, fun i i0 i1 => by rw [wu_ne (by decide)]; exact h.2.2.2.2.1 i i0 i1, fun i i0 i1 => by rw [wu_ne (by decide)]; exact h.2.2.2.2.2 i i0 i1⟩
theorem ev_M_faultOf {w : Mem} {t : Int} (hO : OK (aM w)) (ht : 0 ≤ t ∧ t < 4) : EvI y_M_faultOf b_M_faultOf 2 (some .int) (6) [Vr 76, Vi t] w (fun z w' => z = (pRun (aM w) t 60 1 p0).1 ∧ MF w w' ∧ (z = -9 → RM w' (pRun (aM w) t 60 1 p0).2 ∧ PB (pRun (aM w) t 60 1 p0).2)) := by
  refine Ev.mk (isI := false) (by decide +kernel) nofun (Nat.le_of_ble_eq_true rfl) (fun G hG => ?_)
  show G 0 [some (Vr 76), some (Vi t)] [] 102 (hp w)
  have hs0 := hO.m2 ht
  have eS : aM w 2 t = w 81 t := aM_at2 ht
  have L : ∀ (j : Nat) (w1 : Mem) (p : Ps), RM w1 p → PB p → MF w w1 → (w1 76 18 = 0 ∨ w1 76 18 = 1) → 60 ≤ p.pos + j → pRun (aM w) t j (w1 76 18) p = pRun (aM w) t 60 1 p0 → G 25 [some (Vr 76), some (Vi t)] [] 102 (hp w1) := by
    intro j
    induction j with
    | zero =>
      intro w1 p hr hb hf h01 hj60 he
      rw [pr_0] at he
      have hb1 := hb.1
      have e81 : w1 81 = w 81 := hf.1 81 (by decide) (by decide) (by decide) (by decide)
      have hs1 := hs0
      rw [← e81] at hs1
      refine gx_aload0 (q := 26) hG d_M_faultOf_25 rfl ?_
      refine gx_get (q := 29) hG f_M_138 hpM rfl d_M_faultOf_26 rfl ?_
      rw [hr.1]
      refine gx_aload0 (q := 30) hG d_M_faultOf_29 rfl ?_
      refine gx_get (q := 33) hG f_M_22 hpM rfl d_M_faultOf_30 rfl ?_
      refine gx_iload1 (q := 34) hG d_M_faultOf_33 rfl ?_
      refine gw_iald (q := 35) hG rfl (by omega) (by omega) d_M_faultOf_34 rfl ?_
      rw [e81]
      refine gx_icmp_ge (tgt := 86) (q := 38) hG d_M_faultOf_35 rfl rfl (by omega) (by omega) (fun c35 => ?_) (fun c35 => ?_)
      · refine gx_bipush (q := 88) hG d_M_faultOf_86 rfl rfl ?_
        refine gx_ireturn hG d_M_faultOf_88 rfl rfl ?_
        refine ⟨_, rfl, _, rfl, ?_⟩
        rw [← he]
        exact ⟨rfl, hf, fun _ => ⟨hr, hb⟩⟩
      · exfalso; omega
    | succ j ih =>
      intro w1 p hr hb hf h01 hj60 he
      have hb1 := hb.1
      have e81 : w1 81 = w 81 := hf.1 81 (by decide) (by decide) (by decide) (by decide)
      have eA : aM w1 = aM w := hf.sm.1
      have hO1 : OK (aM w1) := by rw [eA]; exact hO
      have hs1 := hs0
      rw [← e81] at hs1
      refine gx_aload0 (q := 26) hG d_M_faultOf_25 rfl ?_
      refine gx_get (q := 29) hG f_M_138 hpM rfl d_M_faultOf_26 rfl ?_
      rw [hr.1]
      refine gx_aload0 (q := 30) hG d_M_faultOf_29 rfl ?_
      refine gx_get (q := 33) hG f_M_22 hpM rfl d_M_faultOf_30 rfl ?_
      refine gx_iload1 (q := 34) hG d_M_faultOf_33 rfl ?_
      refine gw_iald (q := 35) hG rfl (by omega) (by omega) d_M_faultOf_34 rfl ?_
      rw [e81]
      refine gx_icmp_ge (tgt := 86) (q := 38) hG d_M_faultOf_35 rfl rfl (by omega) (by omega) (fun c35 => ?_) (fun c35 => ?_)
      · rw [pr_end (by omega)] at he
        have en : PB p := hb
        refine gx_bipush (q := 88) hG d_M_faultOf_86 rfl rfl ?_
        refine gx_ireturn hG d_M_faultOf_88 rfl rfl ?_
        refine ⟨_, rfl, _, rfl, ?_⟩
        rw [← he]
        exact ⟨rfl, hf, fun _ => ⟨hr, hb⟩⟩
      · refine gx_aload0 (q := 39) hG d_M_faultOf_38 rfl ?_
        refine gx_iload1 (q := 40) hG d_M_faultOf_39 rfl ?_
        refine gx_aload0 (q := 41) hG d_M_faultOf_40 rfl ?_
        refine gx_get (q := 44) hG f_M_138 hpM rfl d_M_faultOf_41 rfl ?_
        rw [hr.1]
        refine gw_V2X (q := 47) hG l_M_141 c_M_byteAt (ev_M_byteS hO hf ht (by omega)) hpM rfl (by decide) (Nat.le_of_ble_eq_true rfl) d_M_faultOf_44 rfl (by decide) ?_
        have hbb := byS_bd (i := p.pos) hO ht (by omega)
        refine gx_bipush (q := 49) hG d_M_faultOf_47 rfl rfl ?_
        refine gx_icmp_ne (tgt := 65) (q := 52) hG d_M_faultOf_49 rfl rfl (by omega) (by omega) (fun c49 => ?_) (fun c49 => ?_)
        · refine gx_aload0 (q := 66) hG d_M_faultOf_65 rfl ?_
          refine gx_iload1 (q := 67) hG d_M_faultOf_66 rfl ?_
          refine gw_V1I (q := 70) hG l_M_166 c_M_readsItem (ev_M_readsItem hO1 ht hr hb (by omega) h01) hpM rfl (by decide) (Nat.le_of_ble_eq_true rfl) d_M_faultOf_67 rfl (by decide) (fun z67 w2 h67 => ?_)
          rw [eA] at h67
          have z01 : z67 = 0 ∨ z67 = 1 := by rw [h67.1]; exact pItem_01
          have hb2 := PB_item (s := aM w) (t := t) (f := w1 76 18) hb (by omega)
          refine gx_if_ne (tgt := 78) (q := 73) hG d_M_faultOf_70 rfl rfl (by omega) (fun c70 => ?_) (fun c70 => ?_)
          · have q1 : (pItem (aM w) t (w1 76 18) p).1 = 1 := by rw [← h67.1]; omega
            rw [pr_1 (by omega) c49 q1] at he
            have e := ih (wu w2 76 18 0) (pItem (aM w) t (w1 76 18) p).2 (RM_18 (h67.2.2.2.2 q1)) hb2 ((hf.tr h67.2.1).tr (MF_u (by decide))) (by rw [wu_eq]; exact Or.inl rfl) (by have := pItem_le q1; omega) (by rw [wu_eq]; exact he)
            refine gx_aload0 (q := 79) hG d_M_faultOf_78 rfl ?_
            refine gx_iconst (q := 80) hG d_M_faultOf_79 rfl ?_
            refine gw_puti (q := 83) hG f_M_144 hpM (Nat.le_of_ble_eq_true rfl) (vfit_z (by first | exact bi_01 _ | decide | omega)) (Or.inl rfl) d_M_faultOf_80 rfl 18 rfl rfl ?_
            refine gx_goto (tgt := 25) hG d_M_faultOf_83 rfl ?_
            exact e
          · refine gx_aload0 (q := 74) hG d_M_faultOf_73 rfl ?_
            refine gx_get (q := 77) hG f_M_138 hpM rfl d_M_faultOf_74 rfl ?_
            rw [h67.2.2.2.1]
            refine gx_ireturn hG d_M_faultOf_77 rfl rfl ?_
            refine ⟨_, rfl, _, rfl, ?_⟩
            rw [pr_no (by omega) c49 (by rw [← h67.1]; omega)] at he
            rw [← he]
            exact ⟨rfl, hf.tr h67.2.1, fun q => by have := hb2.1; have q : (pItem (aM w) t (w1 76 18) p).2.pos = -9 := q; omega⟩
        · rw [pr_bl (by omega) c49] at he
          have e := ih (wu w1 76 16 (p.pos + 1)) (p.pos + 1, p.law, p.n, p.pl, p.num, p.kd) (RM_pos hr) ⟨⟨by show 0 ≤ p.pos + 1; omega, by show p.pos + 1 ≤ 62; omega⟩, hb.2⟩ (hf.tr (MF_u (by decide))) (by rw [wu_pl (by decide)]; exact h01) (by show 60 ≤ p.pos + 1 + (j : Int); omega) (by rw [wu_pl (by decide)]; exact he)
          refine gx_aload0 (q := 53) hG d_M_faultOf_52 rfl ?_
          refine gx_dupa (q := 54) hG d_M_faultOf_53 rfl ?_
          refine gx_get (q := 57) hG f_M_138 hpM rfl d_M_faultOf_54 rfl ?_
          rw [hr.1]
          refine gx_iconst (q := 58) hG d_M_faultOf_57 rfl ?_
          refine gx_iadd (q := 59) hG d_M_faultOf_58 rfl ?_
          refine gw_puti (q := 62) hG f_M_138 hpM (Nat.le_of_ble_eq_true rfl) vfit_i (Or.inl rfl) d_M_faultOf_59 rfl 16 rfl rfl ?_
          refine gx_goto (tgt := 25) hG d_M_faultOf_62 rfl ?_
          exact e
  refine gx_aload0 (q := 1) hG d_M_faultOf_0 rfl ?_
  refine gx_iconst (q := 2) hG d_M_faultOf_1 rfl ?_
  refine gw_puti (q := 5) hG f_M_138 hpM (Nat.le_of_ble_eq_true rfl) vfit_i (Or.inl rfl) d_M_faultOf_2 rfl 16 rfl rfl ?_
  refine gx_aload0 (q := 6) hG d_M_faultOf_5 rfl ?_
  refine gx_iconst (q := 7) hG d_M_faultOf_6 rfl ?_
  refine gw_puti (q := 10) hG f_M_148 hpM (Nat.le_of_ble_eq_true rfl) vfit_i (Or.inl rfl) d_M_faultOf_7 rfl 17 rfl rfl ?_
  refine gx_aload0 (q := 11) hG d_M_faultOf_10 rfl ?_
  refine gx_iconst (q := 12) hG d_M_faultOf_11 rfl ?_
  refine gw_puti (q := 15) hG f_M_144 hpM (Nat.le_of_ble_eq_true rfl) (vfit_z (by first | exact bi_01 _ | decide | omega)) (Or.inl rfl) d_M_faultOf_12 rfl 18 rfl rfl ?_
  refine gx_aload0 (q := 16) hG d_M_faultOf_15 rfl ?_
  refine gx_iconst (q := 17) hG d_M_faultOf_16 rfl ?_
  refine gw_puti (q := 20) hG f_M_163 hpM (Nat.le_of_ble_eq_true rfl) vfit_i (Or.inl rfl) d_M_faultOf_17 rfl 19 rfl rfl ?_
  refine gx_aload0 (q := 21) hG d_M_faultOf_20 rfl ?_
  refine gx_iconst (q := 22) hG d_M_faultOf_21 rfl ?_
  refine gw_puti (q := 25) hG f_M_151 hpM (Nat.le_of_ble_eq_true rfl) vfit_i (Or.inl rfl) d_M_faultOf_22 rfl 20 rfl rfl ?_
  have mf : MF w (wu (wu (wu (wu (wu w 76 16 0) 76 17 0) 76 18 1) 76 19 0) 76 20 0) := ((((MF_u (by decide)).tr (MF_u (by decide))).tr (MF_u (by decide))).tr (MF_u (by decide))).tr (MF_u (by decide))
  have e18 : (wu (wu (wu (wu (wu w 76 16 0) 76 17 0) 76 18 1) 76 19 0) 76 20 0) 76 18 = 1 := by rw [wu_pl (by decide), wu_pl (by decide), wu_eq]
  refine L 60 _ p0 ⟨by rw [wu_pl (by decide), wu_pl (by decide), wu_pl (by decide), wu_pl (by decide), wu_eq]; rfl, by rw [wu_pl (by decide), wu_pl (by decide), wu_pl (by decide), wu_eq]; rfl, by rw [wu_pl (by decide), wu_eq]; rfl, wu_eq, fun i i0 i1 => by have i1 : i < 0 := i1; omega, fun i i0 i1 => by have i1 : i < 0 := i1; omega⟩ PB_0 mf (Or.inr e18) (by decide) (by rw [e18])
theorem ev_M_fault {w : Mem} {r : Int} (hO : OK (aM w)) (hr : R3 r) : EvI y_M_fault b_M_fault 2 (some .int) (8) [Vr 76, Vi r] w (PM w (sp_fault (aM w) r)) := by
  refine Ev.mk (isI := false) (by decide +kernel) nofun (Nat.le_of_ble_eq_true rfl) (fun G hG => ?_)
  show G 0 [some (Vr 76), some (Vi r)] [] 102 (hp w)
  refine gx_iload1 (q := 1) hG d_M_fault_0 rfl ?_
  refine gw_S1X (q := 4) hG l_M_124 c_M_isText (ev_M_isText (by omega)) (by decide) (Nat.le_of_ble_eq_true rfl) d_M_fault_1 rfl (by decide) ?_
  refine gx_if_ne (tgt := 9) (q := 7) hG d_M_fault_4 rfl rfl (bi_R _) (fun c4 => ?_) (fun c4 => ?_)
  · have c4 := bi_ne0.mp c4
    have hs := hO.m2 (r := r) (by omega)
    refine gx_aload0 (q := 10) hG d_M_fault_9 rfl ?_
    refine gx_get (q := 13) hG f_M_22 hpM rfl d_M_fault_10 rfl ?_
    refine gx_iload1 (q := 14) hG d_M_fault_13 rfl ?_
    refine gw_iald (q := 15) hG rfl (by omega) (by omega) d_M_fault_14 rfl ?_
    refine gx_if_ge (tgt := 26) (q := 18) hG d_M_fault_15 rfl rfl (by omega) (fun c15 => ?_) (fun c15 => ?_)
    · refine gx_aload0 (q := 27) hG d_M_fault_26 rfl ?_
      refine gx_iload1 (q := 28) hG d_M_fault_27 rfl ?_
      refine gw_V1I (q := 31) hG l_M_169 c_M_faultOf (ev_M_faultOf hO (by omega)) hpM rfl (by decide) (Nat.le_of_ble_eq_true rfl) d_M_fault_28 rfl (by decide) (fun z28 w2 h28 => ?_)
      refine gx_ireturn hG d_M_fault_31 rfl rfl ?_
      refine ⟨_, rfl, _, rfl, ?_⟩
      unfold sp_fault
      first
        | (rw [if_neg (by omega), if_pos (by rw [aM_at2 (by omega)]; omega)]; obtain ⟨rfl, rfl⟩ := h20; exact PM_fd (by omega))
        | (rw [if_neg (by omega), if_neg (by rw [aM_at2 (by omega)]; omega)]; exact ⟨h28.1, h28.2.1.sm.1, h28.2.1.sm.2⟩)
    · refine gx_aload0 (q := 19) hG d_M_fault_18 rfl ?_
      refine gx_iconst (q := 20) hG d_M_fault_19 rfl ?_
      refine gw_V1I (q := 23) hG l_M_114 c_M_meets (ev_M_meets (by omega)) hpM rfl (by decide) (Nat.le_of_ble_eq_true rfl) d_M_fault_20 rfl (by decide) (fun z20 w1 h20 => ?_)
      refine gx_goto (tgt := 31) hG d_M_fault_23 rfl ?_
      refine gx_ireturn hG d_M_fault_31 rfl rfl ?_
      refine ⟨_, rfl, _, rfl, ?_⟩
      unfold sp_fault
      first
        | (rw [if_neg (by omega), if_pos (by rw [aM_at2 (by omega)]; omega)]; obtain ⟨rfl, rfl⟩ := h20; exact PM_fd (by omega))
        | (rw [if_neg (by omega), if_neg (by rw [aM_at2 (by omega)]; omega)]; exact ⟨h28.1, h28.2.1.sm.1, h28.2.1.sm.2⟩)
  · have c4 := bi_eq0.mp c4
    refine gx_iconst (q := 8) hG d_M_fault_7 rfl ?_
    refine gx_ireturn hG d_M_fault_8 rfl rfl ?_
    refine ⟨_, rfl, _, rfl, ?_⟩
    unfold sp_fault
    rw [if_pos (by omega)]; exact PM_id
theorem aM_gm {w W : Mem} {p : Ps} (h : ∀ b, b ≠ 76 → b ≠ 83 → b ≠ 84 → b ≠ 85 → b ≠ 86 → b ≠ 87 → b ≠ 88 → W b = w b) (h0 : W 76 0 = w 76 0 ∧ W 76 2 = w 76 2 ∧ W 76 3 = w 76 3 ∧ W 76 4 = w 76 4) (h7 : W 76 12 = p.pl) (h1 : W 76 14 = p.n) (h2 : W 76 11 = p.law) (h4 : ∀ i, 0 ≤ i → i < p.n → W 85 i = p.num i) (h14 : ∀ i, 0 ≤ i → i < p.pl → W 84 i = p.kd i) (h6 : ∀ k, 0 ≤ k → k < 3 → W 88 k = -1) : aM W = gmS (aM w) p := by
  funext c i
  match c with
  | 0 => show (if 0 ≤ i ∧ i < 6 then W 78 i else 0) = if 0 ≤ i ∧ i < 6 then w 78 i else 0; rw [h 78 (by decide) (by decide) (by decide) (by decide) (by decide) (by decide) (by decide)]
  | 1 => show (if 0 ≤ i ∧ i < 360 then W 79 i else 0) = if 0 ≤ i ∧ i < 360 then w 79 i else 0; rw [h 79 (by decide) (by decide) (by decide) (by decide) (by decide) (by decide) (by decide)]
  | 2 => show (if 0 ≤ i ∧ i < 4 then W 81 i else 0) = if 0 ≤ i ∧ i < 4 then w 81 i else 0; rw [h 81 (by decide) (by decide) (by decide) (by decide) (by decide) (by decide) (by decide)]
  | 3 => show (if 0 ≤ i ∧ i < 240 then W 82 i else 0) = if 0 ≤ i ∧ i < 240 then w 82 i else 0; rw [h 82 (by decide) (by decide) (by decide) (by decide) (by decide) (by decide) (by decide)]
  | 4 =>
    show (if i = 0 then W 76 11 else if i = 1 then W 76 14 else if i = 2 then W 76 12 else if i = 3 then W 76 2 else if i = 4 then W 76 3 else if i = 5 then W 76 4 else if i = 6 then W 76 0 else 0) = if i = 0 then p.law else if i = 1 then p.n else if i = 2 then p.pl else (if i = 0 then w 76 11 else if i = 1 then w 76 14 else if i = 2 then w 76 12 else if i = 3 then w 76 2 else if i = 4 then w 76 3 else if i = 5 then w 76 4 else if i = 6 then w 76 0 else 0)
    rw [h2, h1, h7, h0.1, h0.2.1, h0.2.2.1, h0.2.2.2]
    by_cases e0 : i = 0
    · rw [if_pos e0, if_pos e0]
    · rw [if_neg e0, if_neg e0]
      by_cases e1 : i = 1
      · rw [if_pos e1, if_pos e1]
      · rw [if_neg e1, if_neg e1]
        by_cases e2 : i = 2
        · rw [if_pos e2, if_pos e2]
        · rw [if_neg e2, if_neg e2, if_neg e0, if_neg e1, if_neg e2]
  | 5 => show (if 0 ≤ i ∧ i < W 76 14 then W 85 i else 0) = if 0 ≤ i ∧ i < p.n then p.num i else 0; rw [h1]; split; (· exact h4 i (by omega) (by omega)); (· rfl)
  | 6 => show (if 0 ≤ i ∧ i < W 76 12 then W 84 i else 0) = if 0 ≤ i ∧ i < p.pl then p.kd i else 0; rw [h7]; split; (· exact h14 i (by omega) (by omega)); (· rfl)
  | 7 => show (if 1 ≤ i ∧ i ≤ 5 then W 77 i else 0) = if 1 ≤ i ∧ i ≤ 5 then w 77 i else 0; rw [h 77 (by decide) (by decide) (by decide) (by decide) (by decide) (by decide) (by decide)]
  | 8 =>
    show (if 0 ≤ i ∧ i < 3 then W 88 i else 0) = if 0 ≤ i ∧ i < 3 then -1 else 0
    split
    · exact h6 i (by omega) (by omega)
    · rfl
  | 9 =>
    show (if 0 ≤ i ∧ i < 3 ∧ 0 ≤ W 88 i then W 89 i else 0) = 0
    exact if_neg (fun q => by have := h6 i q.1 q.2.1; omega)
  | 10 =>
    show (if 0 ≤ i ∧ i < 42 ∧ i % 14 < W 88 (i / 14) then W 90 i else 0) = 0
    exact if_neg (fun q => by have := h6 (i / 14) (by omega) (by omega); omega)
  | c + 11 => rfl
theorem ev_M_game {w : Mem} {r : Int} (hO : OK (aM w)) (hr : R3 r) : EvI y_M_game b_M_game 3 (some .int) (8) [Vr 76, Vi r] w (PM w (sp_game (aM w) r)) := by
  refine Ev.mk (isI := false) (by decide +kernel) nofun (Nat.le_of_ble_eq_true rfl) (fun G hG => ?_)
  show G 0 [some (Vr 76), some (Vi r), none] [] 102 (hp w)
  have L3 : ∀ (j k : Nat) (W0 W : Mem), k + j = 3 → (∀ b, b ≠ 88 → W b = W0 b) → (∀ i : Int, 0 ≤ i → i < k → W 88 i = -1) → (∀ W : Mem, (∀ b, b ≠ 88 → W b = W0 b) → (∀ i : Int, 0 ≤ i → i < 3 → W 88 i = -1) → PM w (sp_game (aM w) r) (W0 76 14) W) → G 119 [some (Vr 76), some (Vi r), some (Vi (k : Int))] [] 102 (hp W) := by
    intro j
    induction j with
    | zero =>
      intro k W0 W h1 h2 h3 h4
      refine gx_iload2 (q := 120) hG d_M_game_119 rfl ?_
      refine gx_iconst (q := 121) hG d_M_game_120 rfl ?_
      refine gx_icmp_ge (tgt := 137) (q := 124) hG d_M_game_121 rfl rfl (by omega) (by omega) (fun c121 => ?_) (fun c121 => ?_)
      · refine gx_aload0 (q := 138) hG d_M_game_137 rfl ?_
        refine gx_get (q := 141) hG f_M_178 hpM rfl d_M_game_138 rfl ?_
        rw [h2 76 (by decide)]
        refine gx_ireturn hG d_M_game_141 rfl rfl ?_
        exact ⟨_, rfl, _, rfl, h4 W h2 (fun i i0 i1 => h3 i i0 (by omega))⟩
      · exfalso; omega
    | succ j ih =>
      intro k W0 W h1 h2 h3 h4
      refine gx_iload2 (q := 120) hG d_M_game_119 rfl ?_
      refine gx_iconst (q := 121) hG d_M_game_120 rfl ?_
      refine gx_icmp_ge (tgt := 137) (q := 124) hG d_M_game_121 rfl rfl (by omega) (by omega) (fun c121 => ?_) (fun c121 => ?_)
      · exfalso; omega
      · refine gx_aload0 (q := 125) hG d_M_game_124 rfl ?_
        refine gx_get (q := 128) hG f_M_44 hpM rfl d_M_game_125 rfl ?_
        refine gx_iload2 (q := 129) hG d_M_game_128 rfl ?_
        refine gx_iconst (q := 130) hG d_M_game_129 rfl ?_
        refine gw_iast (q := 131) hG rfl (by omega) (by omega) d_M_game_130 rfl ?_
        refine gx_iinc2 (q := 134) hG d_M_game_131 rfl rfl ?_
        refine gx_goto (tgt := 119) hG d_M_game_134 rfl ?_
        refine ih (k + 1) W0 _ (by omega) (fun b hb => by rw [wu_ne hb, h2 b hb]) (fun i i0 i1 => ?_) h4
        rw [wu_at]
        unfold up
        split
        · rfl
        · exact h3 i i0 (by omega)
  have L2 : ∀ (n j k : Nat) (W0 W : Mem), k + j = n → n ≤ 14 → W0 76 14 = (n : Int) → (∀ i : Int, 0 ≤ i → i < (n : Int) → R3 (W0 87 i)) → (∀ b, b ≠ 85 → W b = W0 b) → (∀ i : Int, 0 ≤ i → i < k → W 85 i = W0 87 i) → (∀ W : Mem, (∀ b, b ≠ 85 → W b = W0 b) → (∀ i : Int, 0 ≤ i → i < (n : Int) → W 85 i = W0 87 i) → G 117 [some (Vr 76), some (Vi r), some (Vi (n : Int))] [] 102 (hp W)) → G 91 [some (Vr 76), some (Vi r), some (Vi (k : Int))] [] 102 (hp W) := by
    intro n j
    induction j with
    | zero =>
      intro k W0 W h1 hn e14 hR h2 h3 h4
      have f14 : W 76 14 = (n : Int) := by rw [h2 76 (by decide), e14]
      have hk : k = n := by omega
      subst hk
      refine gx_iload2 (q := 92) hG d_M_game_91 rfl ?_
      refine gx_aload0 (q := 93) hG d_M_game_92 rfl ?_
      refine gx_get (q := 96) hG f_M_178 hpM rfl d_M_game_93 rfl ?_
      rw [f14]
      refine gx_icmp_ge (tgt := 117) (q := 99) hG d_M_game_96 rfl rfl (by omega) (by omega) (fun c96 => ?_) (fun c96 => ?_)
      · exact h4 W h2 h3
      · exfalso; omega
    | succ j ih =>
      intro k W0 W h1 hn e14 hR h2 h3 h4
      have f14 : W 76 14 = (n : Int) := by rw [h2 76 (by decide), e14]
      have e87 : W 87 = W0 87 := h2 87 (by decide)
      have hRk := hR k (by omega) (by omega)
      rw [← e87] at hRk
      refine gx_iload2 (q := 92) hG d_M_game_91 rfl ?_
      refine gx_aload0 (q := 93) hG d_M_game_92 rfl ?_
      refine gx_get (q := 96) hG f_M_178 hpM rfl d_M_game_93 rfl ?_
      rw [f14]
      refine gx_icmp_ge (tgt := 117) (q := 99) hG d_M_game_96 rfl rfl (by omega) (by omega) (fun c96 => ?_) (fun c96 => ?_)
      · exfalso; omega
      · refine gx_aload0 (q := 100) hG d_M_game_99 rfl ?_
        refine gx_get (q := 103) hG f_M_35 hpM rfl d_M_game_100 rfl ?_
        refine gx_iload2 (q := 104) hG d_M_game_103 rfl ?_
        refine gx_aload0 (q := 105) hG d_M_game_104 rfl ?_
        refine gx_get (q := 108) hG f_M_41 hpM rfl d_M_game_105 rfl ?_
        refine gx_iload2 (q := 109) hG d_M_game_108 rfl ?_
        refine gw_iald (q := 110) hG rfl (by omega) (by omega) d_M_game_109 rfl ?_
        refine gw_iast (q := 111) hG rfl (by omega) (by omega) d_M_game_110 rfl ?_
        refine gx_iinc2 (q := 114) hG d_M_game_111 rfl rfl ?_
        refine gx_goto (tgt := 91) hG d_M_game_114 rfl ?_
        refine ih (k + 1) W0 _ (by omega) hn e14 hR (fun b hb => by rw [wu_ne hb, h2 b hb]) (fun i i0 i1 => ?_) h4
        rw [wu_at, e87]
        unfold up
        split
        · rename_i c; rw [c]
        · exact h3 i i0 (by omega)
  have L1 : ∀ (n j k : Nat) (W0 W : Mem), k + j = n → n ≤ 2 → W0 76 12 = (n : Int) → (∀ i : Int, 0 ≤ i → i < (n : Int) → R3 (W0 86 i)) → (∀ b, b ≠ 84 → W b = W0 b) → (∀ i : Int, 0 ≤ i → i < k → W 84 i = W0 86 i) → (∀ W : Mem, (∀ b, b ≠ 84 → W b = W0 b) → (∀ i : Int, 0 ≤ i → i < (n : Int) → W 84 i = W0 86 i) → G 81 [some (Vr 76), some (Vi r), some (Vi (n : Int))] [] 102 (hp W)) → G 55 [some (Vr 76), some (Vi r), some (Vi (k : Int))] [] 102 (hp W) := by
    intro n j
    induction j with
    | zero =>
      intro k W0 W h1 hn e14 hR h2 h3 h4
      have f14 : W 76 12 = (n : Int) := by rw [h2 76 (by decide), e14]
      have hk : k = n := by omega
      subst hk
      refine gx_iload2 (q := 56) hG d_M_game_55 rfl ?_
      refine gx_aload0 (q := 57) hG d_M_game_56 rfl ?_
      refine gx_get (q := 60) hG f_M_175 hpM rfl d_M_game_57 rfl ?_
      rw [f14]
      refine gx_icmp_ge (tgt := 81) (q := 63) hG d_M_game_60 rfl rfl (by omega) (by omega) (fun c60 => ?_) (fun c60 => ?_)
      · exact h4 W h2 h3
      · exfalso; omega
    | succ j ih =>
      intro k W0 W h1 hn e14 hR h2 h3 h4
      have f14 : W 76 12 = (n : Int) := by rw [h2 76 (by decide), e14]
      have e87 : W 86 = W0 86 := h2 86 (by decide)
      have hRk := hR k (by omega) (by omega)
      rw [← e87] at hRk
      refine gx_iload2 (q := 56) hG d_M_game_55 rfl ?_
      refine gx_aload0 (q := 57) hG d_M_game_56 rfl ?_
      refine gx_get (q := 60) hG f_M_175 hpM rfl d_M_game_57 rfl ?_
      rw [f14]
      refine gx_icmp_ge (tgt := 81) (q := 63) hG d_M_game_60 rfl rfl (by omega) (by omega) (fun c60 => ?_) (fun c60 => ?_)
      · exfalso; omega
      · refine gx_aload0 (q := 64) hG d_M_game_63 rfl ?_
        refine gx_get (q := 67) hG f_M_32 hpM rfl d_M_game_64 rfl ?_
        refine gx_iload2 (q := 68) hG d_M_game_67 rfl ?_
        refine gx_aload0 (q := 69) hG d_M_game_68 rfl ?_
        refine gx_get (q := 72) hG f_M_38 hpM rfl d_M_game_69 rfl ?_
        refine gx_iload2 (q := 73) hG d_M_game_72 rfl ?_
        refine gw_iald (q := 74) hG rfl (by omega) (by omega) d_M_game_73 rfl ?_
        refine gw_iast (q := 75) hG rfl (by omega) (by omega) d_M_game_74 rfl ?_
        refine gx_iinc2 (q := 78) hG d_M_game_75 rfl rfl ?_
        refine gx_goto (tgt := 55) hG d_M_game_78 rfl ?_
        refine ih (k + 1) W0 _ (by omega) hn e14 hR (fun b hb => by rw [wu_ne hb, h2 b hb]) (fun i i0 i1 => ?_) h4
        rw [wu_at, e87]
        unfold up
        split
        · rename_i c; rw [c]
        · exact h3 i i0 (by omega)
  have M3 : ∀ (w2 W1 W2 : Mem) (n m : Nat), RM w2 (pRun (aM w) r 60 1 p0).2 → PB (pRun (aM w) r 60 1 p0).2 → MF w w2 → (pRun (aM w) r 60 1 p0).2.n = (n : Int) → (pRun (aM w) r 60 1 p0).2.pl = (m : Int) → (0 ≤ (pRun (aM w) r 60 1 p0).2.n ∧ (pRun (aM w) r 60 1 p0).2.n ≤ 12) → (0 ≤ (pRun (aM w) r 60 1 p0).2.pl ∧ (pRun (aM w) r 60 1 p0).2.pl ≤ 2) → (∀ b, b ≠ 84 → W1 b = wu (wu w2 76 11 (w2 76 17)) 76 12 (wu w2 76 11 (w2 76 17) 76 19) b) → (∀ i : Int, 0 ≤ i → i < (m : Int) → W1 84 i = wu (wu w2 76 11 (w2 76 17)) 76 12 (wu w2 76 11 (w2 76 17) 76 19) 86 i) → W1 76 20 = (n : Int) → (0 ≤ r ∧ r < 4) → 0 ≤ w 81 r → (pRun (aM w) r 60 1 p0).1 = -9 → (∀ b, b ≠ 85 → W2 b = wu W1 76 14 (n : Int) b) → (∀ i : Int, 0 ≤ i → i < (n : Int) → W2 85 i = wu W1 76 14 (n : Int) 87 i) → G 117 [some (Vr 76), some (Vi r), some (Vi (n : Int))] [] 102 (hp W2) := by
    intro w2 W1 W2 n m hx hpb mf en em hn12 hm2 q1 q2 e20 hrr hs c31 q3 q4
    refine gx_iconst (q := 118) hG d_M_game_117 rfl ?_
    refine gx_istore2 (q := 119) hG d_M_game_118 rfl rfl ?_
    refine L3 3 0 W2 W2 (by omega) (fun _ _ => rfl) (fun i i0 i1 => by omega) (fun W q5 q6 => ?_)
    have f : ∀ b, b ≠ 76 → b ≠ 84 → b ≠ 85 → b ≠ 88 → W b = w2 b := fun b n0 n1 n2 n3 => by rw [q5 b n3, q3 b n2, wu_ne n0, q1 b n1, wu_ne n0, wu_ne n0]
    have f76 : ∀ j, j ≠ 11 → j ≠ 12 → j ≠ 14 → W 76 j = w2 76 j := fun j j1 j2 j3 => by rw [q5 76 (by decide), q3 76 (by decide), wu_pl j3, q1 76 (by decide), wu_pl j2, wu_pl j1]
    have E : aM W = gmS (aM w) (pRun (aM w) r 60 1 p0).2 := by
      refine aM_gm (w := w) (fun b b1 b2 b3 b4 b5 b6 b7 => by rw [f b b1 b3 b4 b7, mf.1 b b1 b2 b5 b6]) ⟨by rw [f76 0 (by decide) (by decide) (by decide), mf.2 0 (by decide)], by rw [f76 2 (by decide) (by decide) (by decide), mf.2 2 (by decide)], by rw [f76 3 (by decide) (by decide) (by decide), mf.2 3 (by decide)], by rw [f76 4 (by decide) (by decide) (by decide), mf.2 4 (by decide)]⟩ ?_ ?_ ?_ (fun i i0 i1 => ?_) (fun i i0 i1 => ?_) q6
      · rw [q5 76 (by decide), q3 76 (by decide), wu_pl (by decide), q1 76 (by decide), wu_eq, wu_pl (by decide)]; exact hx.2.2.1
      · rw [q5 76 (by decide), q3 76 (by decide), wu_eq, en]
      · rw [q5 76 (by decide), q3 76 (by decide), wu_pl (by decide), q1 76 (by decide), wu_pl (by decide), wu_eq]; exact hx.2.1
      · rw [q5 85 (by decide), q4 i i0 (by omega), wu_ne (by decide), q1 87 (by decide), wu_ne (by decide), wu_ne (by decide)]; exact hx.2.2.2.2.1 i i0 i1
      · rw [q5 84 (by decide), q3 84 (by decide), wu_ne (by decide), q2 i i0 (by omega), wu_ne (by decide), wu_ne (by decide)]; exact hx.2.2.2.2.2 i i0 i1
    unfold sp_game
    rw [if_neg (by omega), if_neg (by rw [aM_at2 hrr]; omega), if_neg (fun q => q c31)]
    refine ⟨by rw [q3 76 (by decide), wu_eq]; exact en.symm, E, fun b hb => by rw [f b (by omega) (by omega) (by omega) (by omega), mf.1 b (by omega) (by omega) (by omega) (by omega)]⟩
  have M2 : ∀ (w2 W1 : Mem) (n m : Nat), RM w2 (pRun (aM w) r 60 1 p0).2 → PB (pRun (aM w) r 60 1 p0).2 → MF w w2 → (pRun (aM w) r 60 1 p0).2.n = (n : Int) → (pRun (aM w) r 60 1 p0).2.pl = (m : Int) → (0 ≤ (pRun (aM w) r 60 1 p0).2.n ∧ (pRun (aM w) r 60 1 p0).2.n ≤ 12) → (0 ≤ (pRun (aM w) r 60 1 p0).2.pl ∧ (pRun (aM w) r 60 1 p0).2.pl ≤ 2) → (∀ b, b ≠ 84 → W1 b = wu (wu w2 76 11 (w2 76 17)) 76 12 (wu w2 76 11 (w2 76 17) 76 19) b) → (∀ i : Int, 0 ≤ i → i < (m : Int) → W1 84 i = wu (wu w2 76 11 (w2 76 17)) 76 12 (wu w2 76 11 (w2 76 17) 76 19) 86 i) → W1 76 20 = (n : Int) → (0 ≤ r ∧ r < 4) → 0 ≤ w 81 r → (pRun (aM w) r 60 1 p0).1 = -9 → G 81 [some (Vr 76), some (Vi r), some (Vi (m : Int))] [] 102 (hp W1) := by
    intro w2 W1 n m hx hpb mf en em hn12 hm2 q1 q2 e20 hrr hs c31
    have g87 : W1 87 = w2 87 := by rw [q1 87 (by decide), wu_ne (by decide), wu_ne (by decide)]
    refine gx_aload0 (q := 82) hG d_M_game_81 rfl ?_
    refine gx_aload0 (q := 83) hG d_M_game_82 rfl ?_
    refine gx_get (q := 86) hG f_M_151 hpM rfl d_M_game_83 rfl ?_
    rw [e20]
    refine gw_puti (q := 89) hG f_M_178 hpM (Nat.le_of_ble_eq_true rfl) vfit_i (Or.inl rfl) d_M_game_86 rfl 14 rfl rfl ?_
    refine gx_iconst (q := 90) hG d_M_game_89 rfl ?_
    refine gx_istore2 (q := 91) hG d_M_game_90 rfl rfl ?_
    refine L2 n n 0 _ _ (by omega) (by omega) wu_eq (fun i i0 i1 => ?_) (fun _ _ => rfl) (fun i i0 i1 => by omega) (fun W2 q3 q4 => ?_)
    · rw [wu_ne (by decide), g87, hx.2.2.2.2.1 i i0 (by omega)]
      have := hpb.2.2.2.2.1 i i0 (by omega)
      omega
    refine M3 w2 W1 W2 n m hx hpb mf en em hn12 hm2 q1 q2 e20 hrr hs c31 q3 q4
  refine gx_iload1 (q := 1) hG d_M_game_0 rfl ?_
  refine gw_S1X (q := 4) hG l_M_124 c_M_isText (ev_M_isText (by omega)) (by decide) (Nat.le_of_ble_eq_true rfl) d_M_game_1 rfl (by decide) ?_
  refine gx_if_ne (tgt := 9) (q := 7) hG d_M_game_4 rfl rfl (bi_R _) (fun c4 => ?_) (fun c4 => ?_)
  · have c4 := bi_ne0.mp c4
    have hrr : 0 ≤ r ∧ r < 4 := by omega
    have hpp := pRun_pos (s := aM w) (t := r) 60 1 p0 PB_0 (hO.ts r hrr.1 hrr.2).2
    have hs := hO.m2 (r := r) (by omega)
    refine gx_aload0 (q := 10) hG d_M_game_9 rfl ?_
    refine gx_get (q := 13) hG f_M_22 hpM rfl d_M_game_10 rfl ?_
    refine gx_iload1 (q := 14) hG d_M_game_13 rfl ?_
    refine gw_iald (q := 15) hG rfl (by omega) (by omega) d_M_game_14 rfl ?_
    refine gx_if_ge (tgt := 24) (q := 18) hG d_M_game_15 rfl rfl (by omega) (fun c15 => ?_) (fun c15 => ?_)
    · refine gx_aload0 (q := 25) hG d_M_game_24 rfl ?_
      refine gx_iload1 (q := 26) hG d_M_game_25 rfl ?_
      refine gw_V1I (q := 29) hG l_M_169 c_M_faultOf (ev_M_faultOf hO (by omega)) hpM rfl (by decide) (Nat.le_of_ble_eq_true rfl) d_M_game_26 rfl (by decide) (fun z26 w2 h26 => ?_)
      obtain ⟨rfl, mf, hR⟩ := h26
      refine gx_bipush (q := 31) hG d_M_game_29 rfl rfl ?_
      refine gx_icmp_eq (tgt := 37) (q := 34) hG d_M_game_31 rfl rfl (by omega) (by omega) (fun c31 => ?_) (fun c31 => ?_)
      · obtain ⟨hx, hpb⟩ := hR c31
        obtain ⟨n, en⟩ : ∃ n : Nat, (pRun (aM w) r 60 1 p0).2.n = (n : Int) := ⟨(pRun (aM w) r 60 1 p0).2.n.toNat, by have := hpb.2.2.1; omega⟩
        obtain ⟨m, em⟩ : ∃ m : Nat, (pRun (aM w) r 60 1 p0).2.pl = (m : Int) := ⟨(pRun (aM w) r 60 1 p0).2.pl.toNat, by have := hpb.2.2.2.1; omega⟩
        have hn12 := hpb.2.2.1
        have hm2 := hpb.2.2.2.1
        refine gx_aload0 (q := 38) hG d_M_game_37 rfl ?_
        refine gx_aload0 (q := 39) hG d_M_game_38 rfl ?_
        refine gx_get (q := 42) hG f_M_148 hpM rfl d_M_game_39 rfl ?_
        refine gw_puti (q := 45) hG f_M_172 hpM (Nat.le_of_ble_eq_true rfl) vfit_i (Or.inl rfl) d_M_game_42 rfl 11 rfl rfl ?_
        refine gx_aload0 (q := 46) hG d_M_game_45 rfl ?_
        refine gx_aload0 (q := 47) hG d_M_game_46 rfl ?_
        refine gx_get (q := 50) hG f_M_163 hpM rfl d_M_game_47 rfl ?_
        refine gw_puti (q := 53) hG f_M_175 hpM (Nat.le_of_ble_eq_true rfl) vfit_i (Or.inl rfl) d_M_game_50 rfl 12 rfl rfl ?_
        refine gx_iconst (q := 54) hG d_M_game_53 rfl ?_
        refine gx_istore2 (q := 55) hG d_M_game_54 rfl rfl ?_
        refine L1 m m 0 _ _ (by omega) (by omega) (by rw [wu_eq, wu_pl (by decide), hx.2.2.1, em]) (fun i i0 i1 => ?_) (fun _ _ => rfl) (fun i i0 i1 => by omega) (fun W1 q1 q2 => ?_)
        · rw [wu_ne (by decide), wu_ne (by decide), hx.2.2.2.2.2 i i0 (by omega)]
          have := hpb.2.2.2.2.2 i i0 (by omega)
          omega
        have e20 : W1 76 20 = (n : Int) := by rw [q1 76 (by decide), wu_pl (by decide), wu_pl (by decide), hx.2.2.2.1, en]
        refine M2 w2 W1 n m hx hpb mf en em hn12 hm2 q1 q2 e20 hrr (by omega) c31
      · refine gx_bipush (q := 36) hG d_M_game_34 rfl rfl ?_
        refine gx_ireturn hG d_M_game_36 rfl rfl ?_
        refine ⟨_, rfl, _, rfl, ?_⟩
        unfold sp_game
        rw [if_neg (by omega), if_neg (by rw [aM_at2 hrr]; omega), if_pos c31]; exact ⟨rfl, mf.sm.1, mf.sm.2⟩
    · refine gx_aload0 (q := 19) hG d_M_game_18 rfl ?_
      refine gx_iconst (q := 20) hG d_M_game_19 rfl ?_
      refine gw_V1I (q := 23) hG l_M_114 c_M_meets (ev_M_meets (by omega)) hpM rfl (by decide) (Nat.le_of_ble_eq_true rfl) d_M_game_20 rfl (by decide) (fun z20 w1 h20 => ?_)
      refine gx_ireturn hG d_M_game_23 rfl rfl ?_
      refine ⟨_, rfl, _, rfl, ?_⟩
      unfold sp_game
      rw [if_neg (by omega), if_pos (by rw [aM_at2 (by omega)]; omega)]; obtain ⟨rfl, rfl⟩ := h20; exact PM_fd (by omega)
  · have c4 := bi_eq0.mp c4
    refine gx_iconst (q := 8) hG d_M_game_7 rfl ?_
    refine gx_ireturn hG d_M_game_8 rfl rfl ?_
    refine ⟨_, rfl, _, rfl, ?_⟩
    unfold sp_game
    rw [if_pos (by omega)]; exact PM_id

