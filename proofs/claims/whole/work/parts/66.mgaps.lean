/-! part 66: gaps, the reference's calls -/
theorem ev_M_isEndless {w : Mem} (hO : OK (aM w)) : EvX y_M_isEndless b_M_isEndless 1 (some .boolean) (3) [Vr 76] w (Vi (bi (endS (aM w)))) := by
  refine Ev.mk (isI := false) (by decide +kernel) nofun (Nat.le_of_ble_eq_true rfl) (fun G hG => ?_)
  show G 0 [some (Vr 76)] [] 102 (hp w)
  have hn := hO.nn
  have hl := hO.law
  have e1 : aM w 4 1 = w 76 14 := rfl
  have e0 : aM w 4 0 = w 76 11 := rfl
  rw [e1] at hn
  rw [e0] at hl
  obtain ⟨n, en⟩ : ∃ n : Nat, w 76 14 = (n : Int) := ⟨(w 76 14).toNat, by omega⟩
  have hgl := gN_le (num := w 85) n (fun i i0 i1 => hO.mn i i0 (by omega))
  have ec : comS (aM w) = (gN (w 85) n : Nat) := by
    show ((gN (aM w 5) (w 76 14).toNat : Nat) : Int) = _
    rw [← gN_congr (num := w 85) (num' := aM w 5) (w 76 14).toNat numM, show (w 76 14).toNat = n by omega]
  have ee : endS (aM w) ↔ (w 76 11 = 2 ∨ ((gN (w 85) n : Nat) : Int) ≠ 1) := by unfold endS; rw [ec]; exact Iff.rfl
  refine gx_aload0 (q := 1) hG d_M_isEndless_0 rfl ?_
  refine gx_get (q := 4) hG f_M_172 hpM rfl d_M_isEndless_1 rfl ?_
  refine gx_iconst (q := 5) hG d_M_isEndless_4 rfl ?_
  refine gx_icmp_eq (tgt := 24) (q := 8) hG d_M_isEndless_5 rfl rfl (by omega) (by omega) (fun c5 => ?_) (fun c5 => ?_)
  · refine gx_iconst (q := 25) hG d_M_isEndless_24 rfl ?_
    refine gx_goto (tgt := 29) hG d_M_isEndless_25 rfl ?_
    refine gx_zreturn hG d_M_isEndless_29 rfl rfl (by first | exact bi_01 _ | decide | omega) ?_
    first
      | exact ⟨_, rfl, by rw [bi_t (ee.mpr (by omega))], rfl⟩
      | exact ⟨_, rfl, by rw [bi_f (fun q => by have := ee.mp q; omega)], rfl⟩
  · refine gx_aload0 (q := 9) hG d_M_isEndless_8 rfl ?_
    refine gx_aload0 (q := 10) hG d_M_isEndless_9 rfl ?_
    refine gx_get (q := 13) hG f_M_35 hpM rfl d_M_isEndless_10 rfl ?_
    refine gx_aload0 (q := 14) hG d_M_isEndless_13 rfl ?_
    refine gx_get (q := 17) hG f_M_178 hpM rfl d_M_isEndless_14 rfl ?_
    rw [en]
    refine gw_V2X (q := 20) hG l_M_206 c_M_commonOf (ev_M_commonOf (N := 14) rfl (by omega) (by omega) (fun i i0 i1 => hO.mn i i0 (by omega))) hpM rfl (by decide) (Nat.le_of_ble_eq_true rfl) d_M_isEndless_17 rfl (by decide) ?_
    refine gx_iconst (q := 21) hG d_M_isEndless_20 rfl ?_
    refine gx_icmp_eq (tgt := 28) (q := 24) hG d_M_isEndless_21 rfl rfl (by omega) (by omega) (fun c21 => ?_) (fun c21 => ?_)
    · refine gx_iconst (q := 29) hG d_M_isEndless_28 rfl ?_
      refine gx_zreturn hG d_M_isEndless_29 rfl rfl (by first | exact bi_01 _ | decide | omega) ?_
      first
        | exact ⟨_, rfl, by rw [bi_t (ee.mpr (by omega))], rfl⟩
        | exact ⟨_, rfl, by rw [bi_f (fun q => by have := ee.mp q; omega)], rfl⟩
    · refine gx_iconst (q := 25) hG d_M_isEndless_24 rfl ?_
      refine gx_goto (tgt := 29) hG d_M_isEndless_25 rfl ?_
      refine gx_zreturn hG d_M_isEndless_29 rfl rfl (by first | exact bi_01 _ | decide | omega) ?_
      first
        | exact ⟨_, rfl, by rw [bi_t (ee.mpr (by omega))], rfl⟩
        | exact ⟨_, rfl, by rw [bi_f (fun q => by have := ee.mp q; omega)], rfl⟩
def HT (s : Sta) (T : Int → Int) : Prop := ∀ v, 0 ≤ v → v ≤ 4000 → (0 ≤ T v ∧ T v ≤ 99999) ∧ (T v < 99999 ↔ hadS s v)
theorem HT_of {w : Mem} {F : Int → Int} (hO : OK (aM w)) (hF : FZ (w 76 11) (w 85) (w 76 14).toNat F 4000) : HT (aM w) F := fun v v0 v1 => by
  have hn := hO.nn
  have hn1 : ∀ i : Int, 0 ≤ i → i < ((w 76 14).toNat : Int) → 1 ≤ w 85 i := fun i i0 i1 => (hO.mn i i0 (by omega)).1
  refine ⟨FZ_bd hF hn1 (by omega) ⟨v0, v1⟩, ?_⟩
  rw [FZ_had hF hn1 (by omega) ⟨v0, v1⟩]
  exact hadM
theorem ev_M_layGaps {w : Mem} (hO : OK (aM w)) : EvI y_M_layGaps b_M_layGaps 3 (some .int) (3) [Vr 76] w (fun z w' => z = grS (aM w) ∧ SM w w' ∧ w' 76 28 = gcS (aM w) ∧ HT (aM w) (w' 83) ∧ (∀ b, b ≠ 76 → b ≠ 83 → w' b = w b) ∧ ∀ j, j ≠ 28 → w' 76 j = w 76 j) := by
  refine Ev.mk (isI := false) (by decide +kernel) nofun (Nat.le_of_ble_eq_true rfl) (fun G hG => ?_)
  show G 0 [some (Vr 76), none, none] [] 102 (hp w)
  have hn := hO.nn
  have hl := hO.law
  have e1 : aM w 4 1 = w 76 14 := rfl
  have e0 : aM w 4 0 = w 76 11 := rfl
  rw [e1] at hn
  rw [e0] at hl
  obtain ⟨n, en⟩ : ∃ n : Nat, w 76 14 = (n : Int) := ⟨(w 76 14).toNat, by omega⟩
  have hnt : (w 76 14).toNat = n := by omega
  have L : ∀ (j k : Nat) (W : Mem), k + j = 4000 → HT (aM w) (W 83) → (∀ b, b ≠ 76 → b ≠ 83 → W b = w b) → (∀ j, j ≠ 28 → W 76 j = w 76 j) → W 76 28 = cn (fun v => ¬ hadS (aM w) v) k → G 28 [some (Vr 76), some (Vi (grN (hadS (aM w)) k)), some (Vi ((k : Int) + 1))] [] 102 (hp W) := by
    intro j
    induction j with
    | zero =>
      intro k W h1 h2 h3 h4 h5
      have hk : k = 4000 := by omega
      subst hk
      refine gx_iload2 (q := 29) hG d_M_layGaps_28 rfl ?_
      refine gx_sipush (q := 32) hG d_M_layGaps_29 rfl rfl ?_
      refine gx_icmp_gt (tgt := 61) (q := 35) hG d_M_layGaps_32 rfl rfl (by omega) (by omega) (fun c32 => ?_) (fun c32 => ?_)
      · refine gx_iload1 (q := 62) hG d_M_layGaps_61 rfl ?_
        refine gx_ireturn hG d_M_layGaps_62 rfl rfl ?_
        exact ⟨_, rfl, _, rfl, rfl, ⟨aM_scr (fun b hb => h3 b (by omega) (by omega)) (fun j hj => h4 j (by omega)), fun b hb => h3 b (by omega) (by omega)⟩, h5, h2, h3, h4⟩
      · exfalso; omega
    | succ j ih =>
      intro k W h1 h2 h3 h4 h5
      have hv := h2 ((k : Int) + 1) (by omega) (by omega)
      have cs : cn (fun v => ¬ hadS (aM w) v) (k + 1) = cn (fun v => ¬ hadS (aM w) v) k + bi (¬ hadS (aM w) ((k : Int) + 1)) := rfl
      have gs : grN (hadS (aM w)) (k + 1) = if bi (hadS (aM w) ((k : Int) + 1)) = 1 then grN (hadS (aM w)) k else ((k : Int) + 1) := rfl
      refine gx_iload2 (q := 29) hG d_M_layGaps_28 rfl ?_
      refine gx_sipush (q := 32) hG d_M_layGaps_29 rfl rfl ?_
      refine gx_icmp_gt (tgt := 61) (q := 35) hG d_M_layGaps_32 rfl rfl (by omega) (by omega) (fun c32 => ?_) (fun c32 => ?_)
      · exfalso; omega
      · refine gx_aload0 (q := 36) hG d_M_layGaps_35 rfl ?_
        refine gx_iload2 (q := 37) hG d_M_layGaps_36 rfl ?_
        refine gw_V1X (q := 40) hG l_M_135 c_M_isHad (ev_M_isHad (by omega) (by omega)) hpM rfl (by decide) (Nat.le_of_ble_eq_true rfl) d_M_layGaps_37 rfl (by decide) ?_
        refine gx_if_ne (tgt := 55) (q := 43) hG d_M_layGaps_40 rfl rfl (bi_R _) (fun c40 => ?_) (fun c40 => ?_)
        · have c40 := bi_ne0.mp c40
          rw [hv.2] at c40
          refine gx_iinc2 (q := 58) hG d_M_layGaps_55 rfl rfl ?_
          refine gx_goto (tgt := 28) hG d_M_layGaps_58 rfl ?_
          first
            | (have e := ih (k + 1) W (by omega) h2 h3 h4 (by rw [cs, bi_f (fun q => q c40), Int.add_zero]; exact h5)
               rw [gs, if_pos (bi_t c40)] at e
               exact e)
            | (have e := ih (k + 1) (wu W 76 28 (cn (fun v => ¬ hadS (aM w) v) k + 1)) (by omega) (by rw [wu_ne (by omega)]; exact h2) (fun b b1 b2 => by rw [wu_ne b1, h3 b b1 b2]) (fun j hj => by rw [wu_pl hj, h4 j hj]) (by rw [wu_eq, cs, bi_t c40])
               rw [gs, if_neg (fun q => c40 (bi_eq1.mp q))] at e
               exact e)
        · have c40 := bi_eq0.mp c40
          rw [hv.2] at c40
          refine gx_aload0 (q := 44) hG d_M_layGaps_43 rfl ?_
          refine gx_dupa (q := 45) hG d_M_layGaps_44 rfl ?_
          refine gx_get (q := 48) hG f_M_210 hpM rfl d_M_layGaps_45 rfl ?_
          refine gx_iconst (q := 49) hG d_M_layGaps_48 rfl ?_
          refine gx_iadd (q := 50) hG d_M_layGaps_49 rfl ?_
          rw [h5]
          refine gw_puti (q := 53) hG f_M_210 hpM (Nat.le_of_ble_eq_true rfl) vfit_i (Or.inl rfl) d_M_layGaps_50 rfl 28 rfl rfl ?_
          refine gx_iload2 (q := 54) hG d_M_layGaps_53 rfl ?_
          refine gx_istore1 (q := 55) hG d_M_layGaps_54 rfl rfl ?_
          refine gx_iinc2 (q := 58) hG d_M_layGaps_55 rfl rfl ?_
          refine gx_goto (tgt := 28) hG d_M_layGaps_58 rfl ?_
          first
            | (have e := ih (k + 1) W (by omega) h2 h3 h4 (by rw [cs, bi_f (fun q => q c40), Int.add_zero]; exact h5)
               rw [gs, if_pos (bi_t c40)] at e
               exact e)
            | (have e := ih (k + 1) (wu W 76 28 (cn (fun v => ¬ hadS (aM w) v) k + 1)) (by omega) (by rw [wu_ne (by omega)]; exact h2) (fun b b1 b2 => by rw [wu_ne b1, h3 b b1 b2]) (fun j hj => by rw [wu_pl hj, h4 j hj]) (by rw [wu_eq, cs, bi_t c40])
               rw [gs, if_neg (fun q => c40 (bi_eq1.mp q))] at e
               exact e)
  refine gx_aload0 (q := 1) hG d_M_layGaps_0 rfl ?_
  refine gx_aload0 (q := 2) hG d_M_layGaps_1 rfl ?_
  refine gx_get (q := 5) hG f_M_35 hpM rfl d_M_layGaps_2 rfl ?_
  refine gx_aload0 (q := 6) hG d_M_layGaps_5 rfl ?_
  refine gx_get (q := 9) hG f_M_178 hpM rfl d_M_layGaps_6 rfl ?_
  rw [en]
  refine gx_aload0 (q := 10) hG d_M_layGaps_9 rfl ?_
  refine gx_get (q := 13) hG f_M_172 hpM rfl d_M_layGaps_10 rfl ?_
  refine gx_sipush (q := 16) hG d_M_layGaps_13 rfl rfl ?_
  refine gw_V4V (q := 19) hG l_M_131 c_M_layFew (ev_M_layFew (N := 14) rfl (by decide) (by omega) (by omega) hl (by omega) (fun i i0 i1 => hO.mn i i0 (by omega))) hpM rfl (by decide) (Nat.le_of_ble_eq_true rfl) d_M_layGaps_16 rfl (by decide) (fun w1 h16 => ?_)
  obtain ⟨F, rfl, hF⟩ := h16
  refine gx_aload0 (q := 20) hG d_M_layGaps_19 rfl ?_
  refine gx_iconst (q := 21) hG d_M_layGaps_20 rfl ?_
  refine gw_puti (q := 24) hG f_M_210 hpM (Nat.le_of_ble_eq_true rfl) vfit_i (Or.inl rfl) d_M_layGaps_21 rfl 28 rfl rfl ?_
  refine gx_iconst (q := 25) hG d_M_layGaps_24 rfl ?_
  refine gx_istore1 (q := 26) hG d_M_layGaps_25 rfl rfl ?_
  refine gx_iconst (q := 27) hG d_M_layGaps_26 rfl ?_
  refine gx_istore2 (q := 28) hG d_M_layGaps_27 rfl rfl ?_
  exact L 4000 0 _ (by omega) (by rw [wu_ne (by omega), wc_eq]; exact HT_of hO (by rw [hnt]; exact hF)) (fun b b1 b2 => by rw [wu_ne b1, wc_ne b2]) (fun j hj => by rw [wu_pl hj, wc_ne (by omega)]) wu_eq
theorem ev_M_greatest {w : Mem} (hO : OK (aM w)) : EvI y_M_greatest b_M_greatest 2 (some .int) (4) [Vr 76] w (PM w (sp_greatest (aM w))) := by
  refine Ev.mk (isI := false) (by decide +kernel) nofun (Nat.le_of_ble_eq_true rfl) (fun G hG => ?_)
  show G 0 [some (Vr 76), none] [] 102 (hp w)
  refine gx_aload0 (q := 1) hG d_M_greatest_0 rfl ?_
  refine gw_V0X (q := 4) hG l_M_213 c_M_isEndless (ev_M_isEndless hO) hpM rfl (by decide) (Nat.le_of_ble_eq_true rfl) d_M_greatest_1 rfl (by decide) ?_
  refine gx_if_eq (tgt := 13) (q := 7) hG d_M_greatest_4 rfl rfl (bi_R _) (fun c4 => ?_) (fun c4 => ?_)
  · have c4 := bi_eq0.mp c4
    refine gx_aload0 (q := 14) hG d_M_greatest_13 rfl ?_
    refine gw_V0I (q := 17) hG l_M_216 c_M_layGaps (ev_M_layGaps hO) hpM rfl (by decide) (Nat.le_of_ble_eq_true rfl) d_M_greatest_14 rfl (by decide) (fun z14 w1 h14 => ?_)
    obtain ⟨rfl, hs, g1, g2, g3, g4⟩ := h14
    refine gx_istore1 (q := 18) hG d_M_greatest_17 rfl rfl ?_
    refine gx_aload0 (q := 19) hG d_M_greatest_18 rfl ?_
    refine gx_aload0 (q := 20) hG d_M_greatest_19 rfl ?_
    refine gx_get (q := 23) hG f_M_210 hpM rfl d_M_greatest_20 rfl ?_
    rw [g1]
    refine gx_iload1 (q := 24) hG d_M_greatest_23 rfl ?_
    refine gw_V2I (q := 27) hG l_M_121 c_M_tells (ev_M_tells) hpM rfl (by decide) (Nat.le_of_ble_eq_true rfl) d_M_greatest_24 rfl (by decide) (fun z24 w2 h24 => ?_)
    refine gx_ireturn hG d_M_greatest_27 rfl rfl ?_
    refine ⟨_, rfl, _, rfl, ?_⟩
    unfold sp_greatest; rw [if_neg (fun q => c4 (bi_eq1.mp q))]; obtain ⟨rfl, rfl⟩ := h24
    refine PM_tr hs ?_
    rw [← hs.1]
    exact PM_aside
  · have c4 := bi_ne0.mp c4
    refine gx_aload0 (q := 8) hG d_M_greatest_7 rfl ?_
    refine gx_iconst (q := 9) hG d_M_greatest_8 rfl ?_
    refine gw_V1I (q := 12) hG l_M_114 c_M_meets (ev_M_meets (by omega)) hpM rfl (by decide) (Nat.le_of_ble_eq_true rfl) d_M_greatest_9 rfl (by decide) (fun z9 w h9 => ?_)
    refine gx_ireturn hG d_M_greatest_12 rfl rfl ?_
    refine ⟨_, rfl, _, rfl, ?_⟩
    unfold sp_greatest; rw [if_pos (bi_t c4)]; obtain ⟨rfl, rfl⟩ := h9; exact PM_fd (by omega)
theorem ev_M_from {w : Mem} (hO : OK (aM w)) : EvI y_M_from b_M_from 1 (some .int) (4) [Vr 76] w (PM w (sp_from (aM w))) := by
  refine Ev.mk (isI := false) (by decide +kernel) nofun (Nat.le_of_ble_eq_true rfl) (fun G hG => ?_)
  show G 0 [some (Vr 76)] [] 102 (hp w)
  refine gx_aload0 (q := 1) hG d_M_from_0 rfl ?_
  refine gw_V0X (q := 4) hG l_M_213 c_M_isEndless (ev_M_isEndless hO) hpM rfl (by decide) (Nat.le_of_ble_eq_true rfl) d_M_from_1 rfl (by decide) ?_
  refine gx_if_eq (tgt := 12) (q := 7) hG d_M_from_4 rfl rfl (bi_R _) (fun c4 => ?_) (fun c4 => ?_)
  · have c4 := bi_eq0.mp c4
    refine gx_aload0 (q := 13) hG d_M_from_12 rfl ?_
    refine gw_V0I (q := 16) hG l_M_216 c_M_layGaps (ev_M_layGaps hO) hpM rfl (by decide) (Nat.le_of_ble_eq_true rfl) d_M_from_13 rfl (by decide) (fun z13 w1 h13 => ?_)
    refine gx_iconst (q := 17) hG d_M_from_16 rfl ?_
    refine gx_iadd (q := 18) hG d_M_from_17 rfl ?_
    refine gx_ireturn hG d_M_from_18 rfl rfl ?_
    refine ⟨_, rfl, _, rfl, ?_⟩
    unfold sp_from
    first
      | (rw [if_pos (bi_t c4)]; exact PM_id)
      | (rw [if_neg (fun q => c4 (bi_eq1.mp q))]; obtain ⟨rfl, hs, -⟩ := h13; exact ⟨rfl, hs⟩)
  · have c4 := bi_ne0.mp c4
    refine gx_bipush (q := 9) hG d_M_from_7 rfl rfl ?_
    refine gx_goto (tgt := 18) hG d_M_from_9 rfl ?_
    refine gx_ireturn hG d_M_from_18 rfl rfl ?_
    refine ⟨_, rfl, _, rfl, ?_⟩
    unfold sp_from
    first
      | (rw [if_pos (bi_t c4)]; exact PM_id)
      | (rw [if_neg (fun q => c4 (bi_eq1.mp q))]; obtain ⟨rfl, hs, -⟩ := h13; exact ⟨rfl, hs⟩)
theorem aM_row {w W : Mem} {r n : Int} {F : Int → Int} (hr : 0 ≤ r ∧ r < 6) (h : ∀ b, b ≠ 78 → b ≠ 79 → W b = w b) (h8 : ∀ j, j ≠ r → W 78 j = w 78 j) (hn : W 78 r = n) (h9 : ∀ j, ¬ (60 * r ≤ j ∧ j < 60 * r + 60) → W 79 j = w 79 j) (hF : ∀ i, 0 ≤ i → i < 60 → W 79 (60 * r + i) = F i) : aM W = ss (sr (aM w) 1 r F) 0 r n := by
  funext c i
  match c with
  | 0 =>
    show (if 0 ≤ i ∧ i < 6 then W 78 i else 0) = if (0 : Nat) = 0 ∧ i = r then n else (if (0 : Nat) = 1 ∧ _ then _ else (if 0 ≤ i ∧ i < 6 then w 78 i else 0))
    by_cases e : i = r
    · rw [if_pos (c := (0 : Nat) = 0 ∧ i = r) ⟨rfl, e⟩, e, if_pos hr, hn]
    · rw [if_neg (c := (0 : Nat) = 0 ∧ i = r) (fun q => e q.2), if_neg (c := (0 : Nat) = 1 ∧ _) (fun q => absurd q.1 (by decide)), h8 i e]
  | 1 =>
    show (if 0 ≤ i ∧ i < 360 then W 79 i else 0) = if (1 : Nat) = 0 ∧ i = r then n else (if (1 : Nat) = 1 ∧ 60 * r ≤ i ∧ i < 60 * r + 60 then F (i - 60 * r) else (if 0 ≤ i ∧ i < 360 then w 79 i else 0))
    rw [if_neg (c := (1 : Nat) = 0 ∧ i = r) (fun q => absurd q.1 (by decide))]
    by_cases e : 60 * r ≤ i ∧ i < 60 * r + 60
    · rw [if_pos (c := (1 : Nat) = 1 ∧ _) ⟨rfl, e⟩, if_pos (by omega), ← hF _ (by omega) (by omega), show 60 * r + (i - 60 * r) = i by omega]
    · rw [if_neg (c := (1 : Nat) = 1 ∧ _) (fun q => e q.2), h9 i e]
  | 2 => show (if 0 ≤ i ∧ i < 4 then W 81 i else 0) = (if 0 ≤ i ∧ i < 4 then w 81 i else 0); rw [h 81 (by omega) (by omega)]
  | 3 => show (if 0 ≤ i ∧ i < 240 then W 82 i else 0) = (if 0 ≤ i ∧ i < 240 then w 82 i else 0); rw [h 82 (by omega) (by omega)]
  | 4 => show aM W 4 i = aM w 4 i; simp only [aM, h 76 (by omega) (by omega)]
  | 5 => show aM W 5 i = aM w 5 i; simp only [aM, h 76 (by omega) (by omega), h 85 (by omega) (by omega)]
  | 6 => show aM W 6 i = aM w 6 i; simp only [aM, h 76 (by omega) (by omega), h 84 (by omega) (by omega)]
  | 7 => show aM W 7 i = aM w 7 i; simp only [aM, h 77 (by omega) (by omega)]
  | 8 => show aM W 8 i = aM w 8 i; simp only [aM, h 88 (by omega) (by omega)]
  | 9 => show aM W 9 i = aM w 9 i; simp only [aM, h 88 (by omega) (by omega), h 89 (by omega) (by omega)]
  | 10 => show aM W 10 i = aM w 10 i; simp only [aM, h 88 (by omega) (by omega), h 90 (by omega) (by omega)]
  | c + 11 => rfl
theorem aM_fl {w w1 W : Mem} {r : Int} {P : Int → Prop} {k N : Nat} (hr : 0 ≤ r ∧ r < 6) (hs : SM w w1) (hk : k ≤ N) (h : 60 ≤ cn P k ∨ ∀ u : Int, k < u → u ≤ N → ¬ P u) (f1 : ∀ b, b ≠ 78 → b ≠ 79 → W b = w1 b) (f2 : ∀ j, j ≠ r → W 78 j = w1 78 j) (f3 : W 78 r = min (cn P k) 60) (f4 : ∀ j, ¬ (60 * r ≤ j ∧ j < 60 * r + 60) → W 79 j = w1 79 j) (f5 : ∀ i, 0 ≤ i → i < 60 → W 79 (60 * r + i) = flF P k i) : aM W = flS (aM w) r P N ∧ ∀ b, b < 76 → W b = w b := by
  obtain ⟨d, hd⟩ : ∃ d, N = k + d := ⟨N - k, by omega⟩
  have st := fl_stop (P := P) (k := k) d (h.imp id (fun q u u0 u1 => q u u0 (by omega)))
  rw [← hd] at st
  refine ⟨?_, fun b hb => by rw [f1 b (by omega) (by omega), hs.2 b hb]⟩
  rw [aM_row hr f1 f2 f3 f4 f5, hs.1]
  unfold flS
  rw [st.1, st.2.1]
theorem ev_M_gaps {w : Mem} {r : Int} (hO : OK (aM w)) (hr : R3 r) : EvI y_M_gaps b_M_gaps 5 (some .int) (4) [Vr 76, Vi r] w (PM w (sp_gaps (aM w) r)) := by
  refine Ev.mk (isI := false) (by decide +kernel) nofun (Nat.le_of_ble_eq_true rfl) (fun G hG => ?_)
  show G 0 [some (Vr 76), some (Vi r), none, none, none] [] 102 (hp w)
  have sp := grN_spec (P := hadS (aM w)) 4000
  have eg : grS (aM w) = grN (hadS (aM w)) 4000 := rfl
  rw [← eg] at sp
  have E : ∀ (k : Nat) (w1 W : Mem), k ≤ 4000 → (0 ≤ r ∧ r < 6) → SM w w1 → w1 76 28 = gcS (aM w) → ¬ endS (aM w) → (60 ≤ cn (fun v => ¬ hadS (aM w) v) k ∨ ∀ u : Int, k < u → u ≤ (4000 : Nat) → ¬ ¬ hadS (aM w) u) → (∀ b, b ≠ 79 → W b = w1 b) → (∀ j, ¬ (60 * r ≤ j ∧ j < 60 * r + 60) → W 79 j = w1 79 j) → (∀ i, 0 ≤ i → i < 60 → W 79 (60 * r + i) = flF (fun v => ¬ hadS (aM w) v) k i) → G 104 [some (Vr 76), some (Vi r), some (Vi (grS (aM w))), some (Vi (min (cn (fun v => ¬ hadS (aM w) v) k) 60)), some (Vi ((k : Int) + 1))] [] 102 (hp W) := by
    intro k w1 W hk hrr hs g1 ne h6 f1 f2 f3
    refine gx_aload0 (q := 105) hG d_M_gaps_104 rfl ?_
    refine gx_get (q := 108) hG f_M_13 hpM rfl d_M_gaps_105 rfl ?_
    refine gx_iload1 (q := 109) hG d_M_gaps_108 rfl ?_
    refine gx_iload3 (q := 110) hG d_M_gaps_109 rfl ?_
    refine gw_iast (q := 111) hG rfl (by omega) (by omega) d_M_gaps_110 rfl ?_
    refine gx_aload0 (q := 112) hG d_M_gaps_111 rfl ?_
    refine gx_get (q := 115) hG f_M_210 hpM rfl d_M_gaps_112 rfl ?_
    rw [wu_ne (show (76 : Int) ≠ 78 by omega), f1 76 (by omega), g1]
    refine gx_ireturn hG d_M_gaps_115 rfl rfl ?_
    refine ⟨_, rfl, _, rfl, ?_⟩
    unfold sp_gaps
    rw [if_neg (by omega), if_neg (fun q => ne (bi_eq1.mp q))]
    refine ⟨rfl, aM_fl hrr hs hk h6 (fun b b1 b2 => by rw [wu_ne b1, f1 b b2]) (fun j hj => by rw [wu_pl hj, f1 78 (by omega)]) wu_eq (fun j hj => by rw [wu_ne (by omega)]; exact f2 j hj) (fun i i0 i1 => by rw [wu_ne (by omega)]; exact f3 i i0 i1)⟩
  have L : ∀ (j k : Nat) (w1 W : Mem), k + j = 4000 → (0 ≤ r ∧ r < 6) → SM w w1 → w1 76 28 = gcS (aM w) → HT (aM w) (w1 83) → ¬ endS (aM w) → (∀ b, b ≠ 79 → W b = w1 b) → (∀ j, ¬ (60 * r ≤ j ∧ j < 60 * r + 60) → W 79 j = w1 79 j) → (∀ i, 0 ≤ i → i < 60 → W 79 (60 * r + i) = flF (fun v => ¬ hadS (aM w) v) k i) → G 61 [some (Vr 76), some (Vi r), some (Vi (grS (aM w))), some (Vi (min (cn (fun v => ¬ hadS (aM w) v) k) 60)), some (Vi ((k : Int) + 1))] [] 102 (hp W) := by
    intro j
    induction j with
    | zero =>
      intro k w1 W h1 hrr hs g1 g2 ne f1 f2 f3
      have hcn := cn_bd (P := fun v => ¬ hadS (aM w) v) k
      refine gx_iload4 (q := 63) hG d_M_gaps_61 rfl ?_
      refine gx_iload2 (q := 64) hG d_M_gaps_63 rfl ?_
      refine gx_icmp_gt (tgt := 104) (q := 67) hG d_M_gaps_64 rfl rfl (by omega) (by omega) (fun c64 => ?_) (fun c64 => ?_)
      · exact E k w1 W (by omega) hrr hs g1 ne (Or.inr (fun u u0 u1 => by omega)) f1 f2 f3
      · exfalso; omega
    | succ j ih =>
      intro k w1 W h1 hrr hs g1 g2 ne f1 f2 f3
      have hcn := cn_bd (P := fun v => ¬ hadS (aM w) v) k
      have hv := g2 ((k : Int) + 1) (by omega) (by omega)
      have e83 : W 83 = w1 83 := f1 83 (by omega)
      have cs : cn (fun v => ¬ hadS (aM w) v) (k + 1) = cn (fun v => ¬ hadS (aM w) v) k + bi (¬ hadS (aM w) ((k : Int) + 1)) := rfl
      have fs : flF (fun v => ¬ hadS (aM w) v) (k + 1) = if bi (¬ hadS (aM w) ((k : Int) + 1)) = 1 ∧ cn (fun v => ¬ hadS (aM w) v) k < 60 then up (flF (fun v => ¬ hadS (aM w) v) k) (cn (fun v => ¬ hadS (aM w) v) k) ((k : Int) + 1) else flF (fun v => ¬ hadS (aM w) v) k := rfl
      refine gx_iload4 (q := 63) hG d_M_gaps_61 rfl ?_
      refine gx_iload2 (q := 64) hG d_M_gaps_63 rfl ?_
      refine gx_icmp_gt (tgt := 104) (q := 67) hG d_M_gaps_64 rfl rfl (by omega) (by omega) (fun c64 => ?_) (fun c64 => ?_)
      · first
          | exact E k w1 W (by omega) hrr hs g1 ne (Or.inl (by omega)) f1 f2 f3
          | exact E k w1 W (by omega) hrr hs g1 ne (Or.inr (fun u u0 u1 q => q (sp.2.2 u (by omega) (by omega)))) f1 f2 f3
      · refine gx_iload3 (q := 68) hG d_M_gaps_67 rfl ?_
        refine gx_bipush (q := 70) hG d_M_gaps_68 rfl rfl ?_
        refine gx_icmp_ge (tgt := 104) (q := 73) hG d_M_gaps_70 rfl rfl (by omega) (by omega) (fun c70 => ?_) (fun c70 => ?_)
        · first
            | exact E k w1 W (by omega) hrr hs g1 ne (Or.inl (by omega)) f1 f2 f3
            | exact E k w1 W (by omega) hrr hs g1 ne (Or.inr (fun u u0 u1 q => q (sp.2.2 u (by omega) (by omega)))) f1 f2 f3
        · refine gx_aload0 (q := 74) hG d_M_gaps_73 rfl ?_
          refine gx_iload4 (q := 76) hG d_M_gaps_74 rfl ?_
          refine gw_V1X (q := 79) hG l_M_135 c_M_isHad (ev_M_isHad (by omega) (by rw [e83]; omega)) hpM rfl (by decide) (Nat.le_of_ble_eq_true rfl) d_M_gaps_76 rfl (by decide) ?_
          rw [e83, propext hv.2]
          refine gx_if_ne (tgt := 98) (q := 82) hG d_M_gaps_79 rfl rfl (bi_R _) (fun c79 => ?_) (fun c79 => ?_)
          · have c79 := bi_ne0.mp c79
            refine gx_iinc4 (q := 101) hG d_M_gaps_98 rfl rfl ?_
            refine gx_goto (tgt := 61) hG d_M_gaps_101 rfl ?_
            first
              | (have e := ih (k + 1) w1 W (by omega) hrr hs g1 g2 ne f1 f2 (by rw [fs, bi_f (fun q => q c79), if_neg (by omega)]; exact f3)
                 rw [cs, bi_f (fun q => q c79), Int.add_zero] at e
                 exact e)
              | (have e60 : min (cn (fun v => ¬ hadS (aM w) v) k) 60 = cn (fun v => ¬ hadS (aM w) v) k := by omega
                 have e61 : min (cn (fun v => ¬ hadS (aM w) v) k + 1) 60 = cn (fun v => ¬ hadS (aM w) v) k + 1 := by omega
                 have e := ih (k + 1) w1 (wu W 79 (60 * r + cn (fun v => ¬ hadS (aM w) v) k) ((k : Int) + 1)) (by omega) hrr hs g1 g2 ne (fun b hb => by rw [wu_ne hb, f1 b hb]) (fun j hj => by rw [wu_pl (by omega)]; exact f2 j hj) (fun i i0 i1 => by
                   rw [fs, bi_t c79, if_pos (by omega), wu_at]
                   unfold up
                   by_cases c : i = cn (fun v => ¬ hadS (aM w) v) k
                   · rw [if_pos (by omega), if_pos c]
                   · rw [if_neg (by omega), if_neg c]; exact f3 i i0 i1)
                 rw [cs, bi_t c79, e61] at e
                 rw [e60]
                 exact e)
          · have c79 := bi_eq0.mp c79
            refine gx_aload0 (q := 83) hG d_M_gaps_82 rfl ?_
            refine gx_get (q := 86) hG f_M_16 hpM rfl d_M_gaps_83 rfl ?_
            refine gx_bipush (q := 88) hG d_M_gaps_86 rfl rfl ?_
            refine gx_iload1 (q := 89) hG d_M_gaps_88 rfl ?_
            refine gx_imul (q := 90) hG d_M_gaps_89 rfl ?_
            refine gx_iload3 (q := 91) hG d_M_gaps_90 rfl ?_
            refine gx_iadd (q := 92) hG d_M_gaps_91 rfl ?_
            refine gx_iload4 (q := 94) hG d_M_gaps_92 rfl ?_
            refine gw_iast (q := 95) hG rfl (by omega) (by omega) d_M_gaps_94 rfl ?_
            refine gx_iinc3 (q := 98) hG d_M_gaps_95 rfl rfl ?_
            refine gx_iinc4 (q := 101) hG d_M_gaps_98 rfl rfl ?_
            refine gx_goto (tgt := 61) hG d_M_gaps_101 rfl ?_
            first
              | (have e := ih (k + 1) w1 W (by omega) hrr hs g1 g2 ne f1 f2 (by rw [fs, bi_f (fun q => q c79), if_neg (by omega)]; exact f3)
                 rw [cs, bi_f (fun q => q c79), Int.add_zero] at e
                 exact e)
              | (have e60 : min (cn (fun v => ¬ hadS (aM w) v) k) 60 = cn (fun v => ¬ hadS (aM w) v) k := by omega
                 have e61 : min (cn (fun v => ¬ hadS (aM w) v) k + 1) 60 = cn (fun v => ¬ hadS (aM w) v) k + 1 := by omega
                 have e := ih (k + 1) w1 (wu W 79 (60 * r + cn (fun v => ¬ hadS (aM w) v) k) ((k : Int) + 1)) (by omega) hrr hs g1 g2 ne (fun b hb => by rw [wu_ne hb, f1 b hb]) (fun j hj => by rw [wu_pl (by omega)]; exact f2 j hj) (fun i i0 i1 => by
                   rw [fs, bi_t c79, if_pos (by omega), wu_at]
                   unfold up
                   by_cases c : i = cn (fun v => ¬ hadS (aM w) v) k
                   · rw [if_pos (by omega), if_pos c]
                   · rw [if_neg (by omega), if_neg c]; exact f3 i i0 i1)
                 rw [cs, bi_t c79, e61] at e
                 rw [e60]
                 exact e)
  have Z : ∀ (j k : Nat) (w1 : Mem), k + j = 60 → (0 ≤ r ∧ r < 6) → SM w w1 → w1 76 28 = gcS (aM w) → HT (aM w) (w1 83) → ¬ endS (aM w) → G 32 [some (Vr 76), some (Vi r), some (Vi (grS (aM w))), some (Vi 0), some (Vi (k : Int))] [] 102 (hp (wc w1 79 (fillR (60 * r) k (w1 79) 0))) := by
    intro j
    induction j with
    | zero =>
      intro k w1 h1 hrr hs g1 g2 ne
      refine gx_iload4 (q := 34) hG d_M_gaps_32 rfl ?_
      refine gx_bipush (q := 36) hG d_M_gaps_34 rfl rfl ?_
      refine gx_icmp_ge (tgt := 58) (q := 39) hG d_M_gaps_36 rfl rfl (by omega) (by omega) (fun c36 => ?_) (fun c36 => ?_)
      · refine gx_iconst (q := 59) hG d_M_gaps_58 rfl ?_
        refine gx_istore4 (q := 61) hG d_M_gaps_59 rfl rfl ?_
        exact L 4000 0 w1 _ (by omega) hrr hs g1 g2 ne (fun b hb => by rw [wc_ne hb]) (fun j hj => by rw [wc_eq]; unfold fillR; rw [if_neg (by omega)]) (fun i i0 i1 => by rw [wc_eq]; unfold fillR; rw [if_pos (by omega)]; rfl)
      · exfalso; omega
    | succ j ih =>
      intro k w1 h1 hrr hs g1 g2 ne
      refine gx_iload4 (q := 34) hG d_M_gaps_32 rfl ?_
      refine gx_bipush (q := 36) hG d_M_gaps_34 rfl rfl ?_
      refine gx_icmp_ge (tgt := 58) (q := 39) hG d_M_gaps_36 rfl rfl (by omega) (by omega) (fun c36 => ?_) (fun c36 => ?_)
      · exfalso; omega
      · refine gx_aload0 (q := 40) hG d_M_gaps_39 rfl ?_
        refine gx_get (q := 43) hG f_M_16 hpM rfl d_M_gaps_40 rfl ?_
        refine gx_bipush (q := 45) hG d_M_gaps_43 rfl rfl ?_
        refine gx_iload1 (q := 46) hG d_M_gaps_45 rfl ?_
        refine gx_imul (q := 47) hG d_M_gaps_46 rfl ?_
        refine gx_iload4 (q := 49) hG d_M_gaps_47 rfl ?_
        refine gx_iadd (q := 50) hG d_M_gaps_49 rfl ?_
        refine gx_iconst (q := 51) hG d_M_gaps_50 rfl ?_
        refine gw_iast (q := 52) hG rfl (by omega) (by omega) d_M_gaps_51 rfl ?_
        rw [fillR_s]
        refine gx_iinc4 (q := 55) hG d_M_gaps_52 rfl rfl ?_
        refine gx_goto (tgt := 32) hG d_M_gaps_55 rfl ?_
        exact ih (k + 1) w1 (by omega) hrr hs g1 g2 ne
  refine gx_iload1 (q := 1) hG d_M_gaps_0 rfl ?_
  refine gw_S1X (q := 4) hG l_M_110 c_M_isRow (ev_M_isRow (by omega)) (by decide) (Nat.le_of_ble_eq_true rfl) d_M_gaps_1 rfl (by decide) ?_
  refine gx_if_ne (tgt := 9) (q := 7) hG d_M_gaps_4 rfl rfl (bi_R _) (fun c4 => ?_) (fun c4 => ?_)
  · have c4 := bi_ne0.mp c4
    refine gx_aload0 (q := 10) hG d_M_gaps_9 rfl ?_
    refine gw_V0X (q := 13) hG l_M_213 c_M_isEndless (ev_M_isEndless hO) hpM rfl (by decide) (Nat.le_of_ble_eq_true rfl) d_M_gaps_10 rfl (by decide) ?_
    refine gx_if_eq (tgt := 22) (q := 16) hG d_M_gaps_13 rfl rfl (bi_R _) (fun c13 => ?_) (fun c13 => ?_)
    · have c13 := bi_eq0.mp c13
      refine gx_aload0 (q := 23) hG d_M_gaps_22 rfl ?_
      refine gw_V0I (q := 26) hG l_M_216 c_M_layGaps (ev_M_layGaps hO) hpM rfl (by decide) (Nat.le_of_ble_eq_true rfl) d_M_gaps_23 rfl (by decide) (fun z23 w1 h23 => ?_)
      obtain ⟨rfl, hs, g1, g2, g3, g4⟩ := h23
      refine gx_istore2 (q := 27) hG d_M_gaps_26 rfl rfl ?_
      refine gx_iconst (q := 28) hG d_M_gaps_27 rfl ?_
      refine gx_istore3 (q := 29) hG d_M_gaps_28 rfl rfl ?_
      refine gx_iconst (q := 30) hG d_M_gaps_29 rfl ?_
      refine gx_istore4 (q := 32) hG d_M_gaps_30 rfl rfl ?_
      have e := Z 60 0 w1 (by omega) (by omega) hs g1 g2 c13
      rw [fillR_0] at e
      exact e
    · have c13 := bi_ne0.mp c13
      refine gx_aload0 (q := 17) hG d_M_gaps_16 rfl ?_
      refine gx_iconst (q := 18) hG d_M_gaps_17 rfl ?_
      refine gw_V1I (q := 21) hG l_M_114 c_M_meets (ev_M_meets (by omega)) hpM rfl (by decide) (Nat.le_of_ble_eq_true rfl) d_M_gaps_18 rfl (by decide) (fun z18 w h18 => ?_)
      refine gx_ireturn hG d_M_gaps_21 rfl rfl ?_
      refine ⟨_, rfl, _, rfl, ?_⟩
      unfold sp_gaps; rw [if_neg (by omega), if_pos (bi_t c13)]; obtain ⟨rfl, rfl⟩ := h18; exact PM_fd (by omega)
  · have c4 := bi_eq0.mp c4
    refine gx_iconst (q := 8) hG d_M_gaps_7 rfl ?_
    refine gx_ireturn hG d_M_gaps_8 rfl rfl ?_
    refine ⟨_, rfl, _, rfl, ?_⟩
    unfold sp_gaps; rw [if_pos (by omega)]; exact PM_id
theorem ev_M_rest {w : Mem} {m i : Int} (hO : OK (aM w)) (hm : R3 m) (hi : R3 i) : EvI y_M_rest b_M_rest 4 (some .int) (3) [Vr 76, Vi m, Vi i] w (PM w (sp_rest (aM w) m i)) := by
  refine Ev.mk (isI := false) (by decide +kernel) nofun (Nat.le_of_ble_eq_true rfl) (fun G hG => ?_)
  show G 0 [some (Vr 76), some (Vi m), some (Vi i), none] [] 102 (hp w)
  have hn := hO.nn
  have hl := hO.law
  have e1 : aM w 4 1 = w 76 14 := rfl
  have e0 : aM w 4 0 = w 76 11 := rfl
  rw [e1] at hn
  rw [e0] at hl
  obtain ⟨n, en⟩ : ∃ n : Nat, w 76 14 = (n : Int) := ⟨(w 76 14).toNat, by omega⟩
  have hnt : (w 76 14).toNat = n := by omega
  have L : ∀ (j k : Nat) (F : Int → Int), k + j = 4000 → (2 ≤ m ∧ m ≤ 60 ∧ 0 ≤ i ∧ i < m) → w 76 11 = 0 → HT (aM w) F → (∀ u : Int, 1 ≤ u → u ≤ k → ¬ (u % m = i ∧ hadS (aM w) u)) → G 51 [some (Vr 76), some (Vi m), some (Vi i), some (Vi ((k : Int) + 1))] [] 102 (hp (wc w 83 F)) := by
    intro j
    induction j with
    | zero =>
      intro k F h1 hmi h0 hF hu
      refine gx_iload3 (q := 52) hG d_M_rest_51 rfl ?_
      refine gx_sipush (q := 55) hG d_M_rest_52 rfl rfl ?_
      refine gx_icmp_gt (tgt := 81) (q := 58) hG d_M_rest_55 rfl rfl (by omega) (by omega) (fun c55 => ?_) (fun c55 => ?_)
      · refine gx_bipush (q := 83) hG d_M_rest_81 rfl rfl ?_
        refine gx_ireturn hG d_M_rest_83 rfl rfl ?_
        refine ⟨_, rfl, _, rfl, ?_⟩
        unfold sp_rest
        rw [if_neg (by omega), if_neg (show ¬ aM w 4 0 ≠ 0 from fun q => q h0), leastZ_eq (z := -9) (Or.inr ⟨rfl, fun u u1 u2 => hu u u1 (by omega)⟩)]
        exact ⟨rfl, SM_83⟩
      · exfalso; omega
    | succ j ih =>
      intro k F h1 hmi h0 hF hu
      have hv := hF ((k : Int) + 1) (by omega) (by omega)
      have he : wc w 83 F 83 ((k : Int) + 1) = F ((k : Int) + 1) := by rw [wc_eq]
      have hx := mod_in (m := m) (by omega) ((k : Int) + 1)
      have nx : ¬ (((k : Int) + 1) % m = i ∧ hadS (aM w) ((k : Int) + 1)) → ∀ u : Int, 1 ≤ u → u ≤ ((k + 1 : Nat) : Int) → ¬ (u % m = i ∧ hadS (aM w) u) := fun q u u1 u2 => by
        by_cases c : u = (k : Int) + 1
        · rw [c]; exact q
        · exact hu u u1 (by omega)
      refine gx_iload3 (q := 52) hG d_M_rest_51 rfl ?_
      refine gx_sipush (q := 55) hG d_M_rest_52 rfl rfl ?_
      refine gx_icmp_gt (tgt := 81) (q := 58) hG d_M_rest_55 rfl rfl (by omega) (by omega) (fun c55 => ?_) (fun c55 => ?_)
      · exfalso; omega
      · refine gx_iload3 (q := 59) hG d_M_rest_58 rfl ?_
        refine gx_iload1 (q := 60) hG d_M_rest_59 rfl ?_
        refine gx_irem (q := 61) hG d_M_rest_60 rfl (by omega) (by omega) (by omega) (by omega) ?_
        refine gx_iload2 (q := 62) hG d_M_rest_61 rfl ?_
        refine gx_icmp_ne (tgt := 75) (q := 65) hG d_M_rest_62 rfl rfl (by omega) (by omega) (fun c62 => ?_) (fun c62 => ?_)
        · refine gx_iinc3 (q := 78) hG d_M_rest_75 rfl rfl ?_
          refine gx_goto (tgt := 51) hG d_M_rest_78 rfl ?_
          first
            | exact ih (k + 1) F (by omega) hmi h0 hF (nx (fun q => c62 q.1))
            | exact ih (k + 1) F (by omega) hmi h0 hF (nx (fun q => c70 q.2))
        · refine gx_aload0 (q := 66) hG d_M_rest_65 rfl ?_
          refine gx_iload3 (q := 67) hG d_M_rest_66 rfl ?_
          refine gw_V1X (q := 70) hG l_M_135 c_M_isHad (ev_M_isHad (by omega) (by rw [he]; omega)) hpM rfl (by decide) (Nat.le_of_ble_eq_true rfl) d_M_rest_67 rfl (by decide) ?_
          rw [he, propext hv.2]
          refine gx_if_eq (tgt := 75) (q := 73) hG d_M_rest_70 rfl rfl (bi_R _) (fun c70 => ?_) (fun c70 => ?_)
          · have c70 := bi_eq0.mp c70
            refine gx_iinc3 (q := 78) hG d_M_rest_75 rfl rfl ?_
            refine gx_goto (tgt := 51) hG d_M_rest_78 rfl ?_
            first
              | exact ih (k + 1) F (by omega) hmi h0 hF (nx (fun q => c62 q.1))
              | exact ih (k + 1) F (by omega) hmi h0 hF (nx (fun q => c70 q.2))
          · have c70 := bi_ne0.mp c70
            refine gx_iload3 (q := 74) hG d_M_rest_73 rfl ?_
            refine gx_ireturn hG d_M_rest_74 rfl rfl ?_
            refine ⟨_, rfl, _, rfl, ?_⟩
            unfold sp_rest
            rw [if_neg (by omega), if_neg (show ¬ aM w 4 0 ≠ 0 from fun q => q h0), leastZ_eq (z := (k : Int) + 1) (Or.inl ⟨by omega, by omega, ⟨c62, c70⟩, fun u u1 u2 => hu u u1 (by omega)⟩)]
            exact ⟨rfl, SM_83⟩
  refine gx_iload1 (q := 1) hG d_M_rest_0 rfl ?_
  refine gx_iconst (q := 2) hG d_M_rest_1 rfl ?_
  refine gx_bipush (q := 4) hG d_M_rest_2 rfl rfl ?_
  refine gw_S3X (q := 7) hG l_M_96 c_M_in (ev_M_in (by omega) (by omega) (by omega)) (by decide) (Nat.le_of_ble_eq_true rfl) d_M_rest_4 rfl (by decide) ?_
  refine gx_if_eq (tgt := 21) (q := 10) hG d_M_rest_7 rfl rfl (bi_R _) (fun c7 => ?_) (fun c7 => ?_)
  · have c7 := bi_eq0.mp c7
    refine gx_iconst (q := 22) hG d_M_rest_21 rfl ?_
    refine gx_ireturn hG d_M_rest_22 rfl rfl ?_
    refine ⟨_, rfl, _, rfl, ?_⟩
    unfold sp_rest; rw [if_pos (by omega)]; exact PM_id
  · have c7 := bi_ne0.mp c7
    refine gx_iload2 (q := 11) hG d_M_rest_10 rfl ?_
    refine gx_iconst (q := 12) hG d_M_rest_11 rfl ?_
    refine gx_iload1 (q := 13) hG d_M_rest_12 rfl ?_
    refine gx_iconst (q := 14) hG d_M_rest_13 rfl ?_
    refine gx_isub (q := 15) hG d_M_rest_14 rfl ?_
    refine gw_S3X (q := 18) hG l_M_96 c_M_in (ev_M_in (by omega) (by omega) (by omega)) (by decide) (Nat.le_of_ble_eq_true rfl) d_M_rest_15 rfl (by decide) ?_
    refine gx_if_ne (tgt := 23) (q := 21) hG d_M_rest_18 rfl rfl (bi_R _) (fun c18 => ?_) (fun c18 => ?_)
    · have c18 := bi_ne0.mp c18
      refine gx_aload0 (q := 24) hG d_M_rest_23 rfl ?_
      refine gx_get (q := 27) hG f_M_172 hpM rfl d_M_rest_24 rfl ?_
      refine gx_if_eq (tgt := 33) (q := 30) hG d_M_rest_27 rfl rfl (by omega) (fun c27 => ?_) (fun c27 => ?_)
      · refine gx_aload0 (q := 34) hG d_M_rest_33 rfl ?_
        refine gx_aload0 (q := 35) hG d_M_rest_34 rfl ?_
        refine gx_get (q := 38) hG f_M_35 hpM rfl d_M_rest_35 rfl ?_
        refine gx_aload0 (q := 39) hG d_M_rest_38 rfl ?_
        refine gx_get (q := 42) hG f_M_178 hpM rfl d_M_rest_39 rfl ?_
        rw [en]
        refine gx_iconst (q := 43) hG d_M_rest_42 rfl ?_
        refine gx_sipush (q := 46) hG d_M_rest_43 rfl rfl ?_
        refine gw_V4V (q := 49) hG l_M_131 c_M_layFew (ev_M_layFew (N := 14) rfl (by decide) (by omega) (by omega) (Or.inl rfl) (by omega) (fun i i0 i1 => hO.mn i i0 (by omega))) hpM rfl (by decide) (Nat.le_of_ble_eq_true rfl) d_M_rest_46 rfl (by decide) (fun w1 h46 => ?_)
        obtain ⟨F, rfl, hF⟩ := h46
        refine gx_iconst (q := 50) hG d_M_rest_49 rfl ?_
        refine gx_istore3 (q := 51) hG d_M_rest_50 rfl rfl ?_
        exact L 4000 0 F (by omega) (by omega) c27 (HT_of hO (by rw [hnt, c27]; exact hF)) (fun u u1 u2 => by omega)
      · refine gx_bipush (q := 32) hG d_M_rest_30 rfl rfl ?_
        refine gx_ireturn hG d_M_rest_32 rfl rfl ?_
        refine ⟨_, rfl, _, rfl, ?_⟩
        unfold sp_rest; rw [if_neg (by omega), if_pos (show aM w 4 0 ≠ 0 from c27)]; exact PM_id
    · have c18 := bi_eq0.mp c18
      refine gx_iconst (q := 22) hG d_M_rest_21 rfl ?_
      refine gx_ireturn hG d_M_rest_22 rfl rfl ?_
      refine ⟨_, rfl, _, rfl, ?_⟩
      unfold sp_rest; rw [if_pos (by omega)]; exact PM_id
theorem ev_M_areAll {w : Mem} {x v : Int} {n N : Nat} (hs : shp x = some (0, N)) (hx : x ≠ 83) (hnN : n ≤ N) (hn14 : n ≤ 14) (hv : 1 ≤ v ∧ v ≤ 4000) (hn : ∀ i : Int, 0 ≤ i → i < n → 1 ≤ w x i ∧ w x i ≤ 60) : EvI y_M_areAll b_M_areAll 6 (some .boolean) (3) [Vr 76, Vr x, Vi (n : Int), Vi v] w (fun z w' => z = bi (gN (w x) n = 1 ∧ ∀ u : Int, v ≤ u → u ≤ 4000 → rch 0 (w x) n u) ∧ ∀ b, b ≠ 83 → w' b = w b) := by
  refine Ev.mk (isI := false) (by decide +kernel) nofun (Nat.le_of_ble_eq_true rfl) (fun G hG => ?_)
  show G 0 [some (Vr 76), some (Vr x), some (Vi (n : Int)), some (Vi v), none, none] [] 102 (hp w)
  have hgl := gN_le (num := w x) n hn
  have hn1 : ∀ i : Int, 0 ≤ i → i < n → 1 ≤ w x i := fun i i0 i1 => (hn i i0 i1).1
  have L : ∀ (j : Nat) (y : Int) (F : Int → Int), y + j = 4001 → v ≤ y → gN (w x) n = 1 → FZ 0 (w x) n F 4000 → G 28 [some (Vr 76), some (Vr x), some (Vi (n : Int)), some (Vi v), some (Vi (bi (∀ u : Int, v ≤ u → u < y → rch 0 (w x) n u))), some (Vi y)] [] 102 (hp (wc w 83 F)) := by
    intro j
    induction j with
    | zero =>
      intro y F h1 h2 hg hF
      refine gx_iload5 (q := 30) hG d_M_areAll_28 rfl ?_
      refine gx_sipush (q := 33) hG d_M_areAll_30 rfl rfl ?_
      refine gx_icmp_gt (tgt := 63) (q := 36) hG d_M_areAll_33 rfl rfl (by omega) (by omega) (fun c33 => ?_) (fun c33 => ?_)
      · refine gx_iload4 (q := 65) hG d_M_areAll_63 rfl ?_
        refine gx_zreturn hG d_M_areAll_65 rfl rfl (bi_01 _) ?_
        refine ⟨_, rfl, _, rfl, ?_, fun b hb => wc_ne hb⟩
        refine bi_congr ⟨fun q => ⟨hg, fun u u0 u1 => q u u0 (by omega)⟩, fun q u u0 u1 => q.2 u u0 (by omega)⟩
      · exfalso; omega
    | succ j ih =>
      intro y F h1 h2 hg hF
      have hb := FZ_bd (v := y) hF hn1 (by omega) (by omega)
      have hh := FZ_had (v := y) hF hn1 (by omega) (by omega)
      have he : wc w 83 F 83 y = F y := by rw [wc_eq]
      have nx : (∀ u : Int, v ≤ u → u < y + 1 → rch 0 (w x) n u) ↔ ((∀ u : Int, v ≤ u → u < y → rch 0 (w x) n u) ∧ rch 0 (w x) n y) := by
        constructor
        · exact fun q => ⟨fun u u0 u1 => q u u0 (by omega), q y h2 (by omega)⟩
        · rintro ⟨q1, q2⟩ u u0 u1
          by_cases c : u = y
          · rw [c]; exact q2
          · exact q1 u u0 (by omega)
      refine gx_iload5 (q := 30) hG d_M_areAll_28 rfl ?_
      refine gx_sipush (q := 33) hG d_M_areAll_30 rfl rfl ?_
      refine gx_icmp_gt (tgt := 63) (q := 36) hG d_M_areAll_33 rfl rfl (by omega) (by omega) (fun c33 => ?_) (fun c33 => ?_)
      · exfalso; omega
      · refine gx_iload4 (q := 38) hG d_M_areAll_36 rfl ?_
        refine gx_if_eq (tgt := 54) (q := 41) hG d_M_areAll_38 rfl rfl (bi_R _) (fun c38 => ?_) (fun c38 => ?_)
        · have d38 := bi_eq0.mp c38
          refine gx_iconst (q := 55) hG d_M_areAll_54 rfl ?_
          refine gx_istore4 (q := 57) hG d_M_areAll_55 rfl rfl ?_
          refine gx_iinc5 (q := 60) hG d_M_areAll_57 rfl rfl ?_
          refine gx_goto (tgt := 28) hG d_M_areAll_60 rfl ?_
          have e := ih (y + 1) F (by omega) (by omega) hg hF
          rw [propext nx] at e
          first
            | (rw [bi_t ⟨d38, c47⟩] at e; exact e)
            | (rw [bi_f (fun q => c47 q.2)] at e; exact e)
            | (rw [bi_f (fun q => d38 q.1)] at e; exact e)
        · have d38 := bi_ne0.mp c38
          refine gx_aload0 (q := 42) hG d_M_areAll_41 rfl ?_
          refine gx_iload5 (q := 44) hG d_M_areAll_42 rfl ?_
          refine gw_V1X (q := 47) hG l_M_135 c_M_isHad (ev_M_isHad (by omega) (by rw [he]; omega)) hpM rfl (by decide) (Nat.le_of_ble_eq_true rfl) d_M_areAll_44 rfl (by decide) ?_
          rw [he, propext hh]
          refine gx_if_eq (tgt := 54) (q := 50) hG d_M_areAll_47 rfl rfl (bi_R _) (fun c47 => ?_) (fun c47 => ?_)
          · have c47 := bi_eq0.mp c47
            refine gx_iconst (q := 55) hG d_M_areAll_54 rfl ?_
            refine gx_istore4 (q := 57) hG d_M_areAll_55 rfl rfl ?_
            refine gx_iinc5 (q := 60) hG d_M_areAll_57 rfl rfl ?_
            refine gx_goto (tgt := 28) hG d_M_areAll_60 rfl ?_
            have e := ih (y + 1) F (by omega) (by omega) hg hF
            rw [propext nx] at e
            first
              | (rw [bi_t ⟨d38, c47⟩] at e; exact e)
              | (rw [bi_f (fun q => c47 q.2)] at e; exact e)
              | (rw [bi_f (fun q => d38 q.1)] at e; exact e)
          · have c47 := bi_ne0.mp c47
            refine gx_iconst (q := 51) hG d_M_areAll_50 rfl ?_
            refine gx_goto (tgt := 55) hG d_M_areAll_51 rfl ?_
            refine gx_istore4 (q := 57) hG d_M_areAll_55 rfl rfl ?_
            refine gx_iinc5 (q := 60) hG d_M_areAll_57 rfl rfl ?_
            refine gx_goto (tgt := 28) hG d_M_areAll_60 rfl ?_
            have e := ih (y + 1) F (by omega) (by omega) hg hF
            rw [propext nx] at e
            first
              | (rw [bi_t ⟨d38, c47⟩] at e; exact e)
              | (rw [bi_f (fun q => c47 q.2)] at e; exact e)
              | (rw [bi_f (fun q => d38 q.1)] at e; exact e)
  refine gx_aload0 (q := 1) hG d_M_areAll_0 rfl ?_
  refine gx_aload1 (q := 2) hG d_M_areAll_1 rfl ?_
  refine gx_iload2 (q := 3) hG d_M_areAll_2 rfl ?_
  refine gw_V2X (q := 6) hG l_M_206 c_M_commonOf (ev_M_commonOf hs hnN hn14 hn) hpM rfl (by decide) (Nat.le_of_ble_eq_true rfl) d_M_areAll_3 rfl (by decide) ?_
  refine gx_iconst (q := 7) hG d_M_areAll_6 rfl ?_
  refine gx_icmp_eq (tgt := 12) (q := 10) hG d_M_areAll_7 rfl rfl (by omega) (by omega) (fun c7 => ?_) (fun c7 => ?_)
  · refine gx_aload0 (q := 13) hG d_M_areAll_12 rfl ?_
    refine gx_aload1 (q := 14) hG d_M_areAll_13 rfl ?_
    refine gx_iload2 (q := 15) hG d_M_areAll_14 rfl ?_
    refine gx_iconst (q := 16) hG d_M_areAll_15 rfl ?_
    refine gx_sipush (q := 19) hG d_M_areAll_16 rfl rfl ?_
    refine gw_V4V (q := 22) hG l_M_131 c_M_layFew (ev_M_layFew hs hx hnN hn14 (Or.inl rfl) (by omega) hn) hpM rfl (by decide) (Nat.le_of_ble_eq_true rfl) d_M_areAll_19 rfl (by decide) (fun w1 h19 => ?_)
    obtain ⟨F, rfl, hF⟩ := h19
    refine gx_iconst (q := 23) hG d_M_areAll_22 rfl ?_
    refine gx_istore4 (q := 25) hG d_M_areAll_23 rfl rfl ?_
    refine gx_iload3 (q := 26) hG d_M_areAll_25 rfl ?_
    refine gx_istore5 (q := 28) hG d_M_areAll_26 rfl rfl ?_
    have e := L (4001 - v).toNat v F (by omega) (by omega) (by omega) hF
    rw [bi_t (fun u u0 u1 => by omega)] at e
    exact e
  · refine gx_iconst (q := 11) hG d_M_areAll_10 rfl ?_
    refine gx_zreturn hG d_M_areAll_11 rfl rfl (by first | exact bi_01 _ | decide | omega) ?_
    refine ⟨_, rfl, _, rfl, ?_, fun _ _ => rfl⟩
    rw [bi_f (fun q => by omega)]
theorem ev_M_layOthers {w : Mem} (hn : 0 ≤ w 76 14 ∧ w 76 14 ≤ 13) : EvV y_M_layOthers b_M_layOthers 2 none (1) [Vr 76] w (fun w' => (∀ b, b ≠ 93 → w' b = w b) ∧ ∀ i, 0 ≤ i → i < w 76 14 → w' 93 i = w 85 i) := by
  refine Ev.mk (isI := false) (by decide +kernel) nofun (Nat.le_of_ble_eq_true rfl) (fun G hG => ?_)
  show G 0 [some (Vr 76), none] [] 102 (hp w)
  have L : ∀ (j k : Nat) (W : Mem), (k : Int) + j = w 76 14 → (∀ b, b ≠ 93 → W b = w b) → (∀ i, 0 ≤ i → i < (k : Int) → W 93 i = w 85 i) → G 2 [some (Vr 76), some (Vi (k : Int))] [] 102 (hp W) := by
    intro j
    induction j with
    | zero =>
      intro k W h1 h2 h3
      have e14 : W 76 14 = w 76 14 := by rw [h2 76 (by omega)]
      refine gx_iload1 (q := 3) hG d_M_layOthers_2 rfl ?_
      refine gx_aload0 (q := 4) hG d_M_layOthers_3 rfl ?_
      refine gx_get (q := 7) hG f_M_178 hpM rfl d_M_layOthers_4 rfl ?_
      rw [e14]
      refine gx_icmp_ge (tgt := 28) (q := 10) hG d_M_layOthers_7 rfl rfl (by omega) (by omega) (fun c7 => ?_) (fun c7 => ?_)
      · refine gx_return hG d_M_layOthers_28 rfl rfl ?_
        exact ⟨_, rfl, rfl, h2, fun i i0 i1 => h3 i i0 (by omega)⟩
      · exfalso; omega
    | succ j ih =>
      intro k W h1 h2 h3
      have e14 : W 76 14 = w 76 14 := by rw [h2 76 (by omega)]
      have e85 : W 85 k = w 85 k := by rw [h2 85 (by omega)]
      refine gx_iload1 (q := 3) hG d_M_layOthers_2 rfl ?_
      refine gx_aload0 (q := 4) hG d_M_layOthers_3 rfl ?_
      refine gx_get (q := 7) hG f_M_178 hpM rfl d_M_layOthers_4 rfl ?_
      rw [e14]
      refine gx_icmp_ge (tgt := 28) (q := 10) hG d_M_layOthers_7 rfl rfl (by omega) (by omega) (fun c7 => ?_) (fun c7 => ?_)
      · exfalso; omega
      · refine gx_aload0 (q := 11) hG d_M_layOthers_10 rfl ?_
        refine gx_get (q := 14) hG f_M_60 hpM rfl d_M_layOthers_11 rfl ?_
        refine gx_iload1 (q := 15) hG d_M_layOthers_14 rfl ?_
        refine gx_aload0 (q := 16) hG d_M_layOthers_15 rfl ?_
        refine gx_get (q := 19) hG f_M_35 hpM rfl d_M_layOthers_16 rfl ?_
        refine gx_iload1 (q := 20) hG d_M_layOthers_19 rfl ?_
        refine gw_iald (q := 21) hG rfl (by omega) (by omega) d_M_layOthers_20 rfl ?_
        rw [e85]
        refine gw_iast (q := 22) hG rfl (by omega) (by omega) d_M_layOthers_21 rfl ?_
        refine gx_iinc1 (q := 25) hG d_M_layOthers_22 rfl rfl ?_
        refine gx_goto (tgt := 2) hG d_M_layOthers_25 rfl ?_
        refine ih (k + 1) _ (by omega) (fun b hb => by rw [wu_ne hb, h2 b hb]) (fun i i0 i1 => ?_)
        rw [wu_at]
        unfold up
        split
        · rename_i c; rw [c]
        · exact h3 i i0 (by omega)
  refine gx_iconst (q := 1) hG d_M_layOthers_0 rfl ?_
  refine gx_istore1 (q := 2) hG d_M_layOthers_1 rfl rfl ?_
  exact L (w 76 14).toNat 0 w (by omega) (fun _ _ => rfl) (fun i i0 i1 => by omega)
theorem all_gr {s : Sta} {v : Int} (hv : 1 ≤ v ∧ v ≤ 4000) : (∀ u : Int, v ≤ u → u ≤ 4000 → hadS s u) ↔ grS s < v := by
  have sp := grN_spec (P := hadS s) 4000
  have eg : grS s = grN (hadS s) 4000 := rfl
  rw [← eg] at sp
  constructor
  · intro q
    rcases Int.lt_or_le (grS s) v with c | c
    · exact c
    · rcases sp.2.1 with d | d
      · omega
      · exact absurd (q _ c (by omega)) d.2
  · intro q u u0 u1
    exact sp.2.2 u (by omega) (by omega)
theorem ev_M_wish {w : Mem} {v : Int} (hO : OK (aM w)) (hv : R3 v) : EvI y_M_wish b_M_wish 5 (some .int) (4) [Vr 76, Vi v] w (PM w (sp_wish (aM w) v)) := by
  refine Ev.mk (isI := false) (by decide +kernel) nofun (Nat.le_of_ble_eq_true rfl) (fun G hG => ?_)
  show G 0 [some (Vr 76), some (Vi v), none, none, none] [] 102 (hp w)
  have hn := hO.nn
  have hl := hO.law
  have e1 : aM w 4 1 = w 76 14 := rfl
  have e0 : aM w 4 0 = w 76 11 := rfl
  rw [e1] at hn
  rw [e0] at hl
  obtain ⟨n, en⟩ : ∃ n : Nat, w 76 14 = (n : Int) := ⟨(w 76 14).toNat, by omega⟩
  have hnt : (w 76 14).toNat = n := by omega
  have hmn : ∀ i : Int, 0 ≤ i → i < n → 1 ≤ w 85 i ∧ w 85 i ≤ 60 := fun i i0 i1 => hO.mn i i0 (by omega)
  have hST : w 76 11 = 0 → (1 ≤ v ∧ v ≤ 4000) → ((gN (w 85) n = 1 ∧ ∀ u : Int, v ≤ u → u ≤ 4000 → rch 0 (w 85) n u) ↔ (bi (endS (aM w)) = 0 ∧ grS (aM w) < v)) := fun q hv2 => by
    have ec : comS (aM w) = (gN (w 85) n : Nat) := by
      show ((gN (aM w 5) (w 76 14).toNat : Nat) : Int) = _
      rw [← gN_congr (num := w 85) (num' := aM w 5) (w 76 14).toNat numM, hnt]
    have eh : ∀ u, rch 0 (w 85) n u ↔ hadS (aM w) u := fun u => by
      have := hadM (w := w) (v := u)
      rw [q, hnt] at this
      exact this
    rw [← all_gr hv2, bi_eq0]
    unfold endS
    rw [ec, e0]
    constructor
    · rintro ⟨a, b⟩
      exact ⟨fun z => by omega, fun u u0 u1 => (eh u).mp (b u u0 u1)⟩
    · rintro ⟨a, b⟩
      exact ⟨by omega, fun u u0 u1 => (eh u).mpr (b u u0 u1)⟩
  have L : ∀ (j k : Nat) (W : Mem), k + j = 60 → 1 ≤ k → (1 ≤ v ∧ v ≤ 4000) → w 76 11 = 0 → ¬ (bi (endS (aM w)) = 0 ∧ grS (aM w) < v) → (∀ b, b ≠ 93 → b ≠ 83 → W b = w b) → (∀ i, 0 ≤ i → i < (n : Int) → W 93 i = w 85 i) → G 51 [some (Vr 76), some (Vi v), some (Vi (fsN (wishP (aM w) v) k)), some (Vi (cn (wishP (aM w) v) k)), some (Vi ((k : Int) + 1))] [] 102 (hp W) := by
    intro j
    induction j with
    | zero =>
      intro k W h1 h1' hvv h0 hns f1 f2
      have hk : k = 60 := by omega
      subst hk
      have hb := cn_bd (P := wishP (aM w) v) 60
      have hf := fsN_spec (P := wishP (aM w) v) 60
      have hs : SM w W := SM_scr (fun b hb => f1 b (by omega) (by omega))
      refine gx_iload4 (q := 53) hG d_M_wish_51 rfl ?_
      refine gx_bipush (q := 55) hG d_M_wish_53 rfl rfl ?_
      refine gx_icmp_gt (tgt := 116) (q := 58) hG d_M_wish_55 rfl rfl (by omega) (by omega) (fun c55 => ?_) (fun c55 => ?_)
      · refine gx_iload2 (q := 117) hG d_M_wish_116 rfl ?_
        refine gx_bipush (q := 119) hG d_M_wish_117 rfl rfl ?_
        refine gx_icmp_ne (tgt := 127) (q := 122) hG d_M_wish_119 rfl rfl (by omega) (by omega) (fun c119 => ?_) (fun c119 => ?_)
        · refine gx_aload0 (q := 128) hG d_M_wish_127 rfl ?_
          refine gx_iload3 (q := 129) hG d_M_wish_128 rfl ?_
          refine gx_iload2 (q := 130) hG d_M_wish_129 rfl ?_
          refine gw_V2I (q := 133) hG l_M_121 c_M_tells (ev_M_tells) hpM rfl (by decide) (Nat.le_of_ble_eq_true rfl) d_M_wish_130 rfl (by decide) (fun z w2 h130 => ?_)
          refine gx_ireturn hG d_M_wish_133 rfl rfl ?_
          refine ⟨_, rfl, _, rfl, ?_⟩
          unfold sp_wish
          rw [if_neg (by omega), if_neg (fun q => q.elim (fun q => q h0) hns)]
          first
            | (obtain ⟨rfl, rfl⟩ := h130; rw [if_pos (by omega)]; refine PM_tr hs ?_; rw [← hs.1]; exact PM_aside)
            | (rw [if_neg (by omega), show fsN (wishP (aM w) v) 60 = -9 by omega]; exact ⟨rfl, hs⟩)
        · refine gx_bipush (q := 124) hG d_M_wish_122 rfl rfl ?_
          refine gx_goto (tgt := 133) hG d_M_wish_124 rfl ?_
          refine gx_ireturn hG d_M_wish_133 rfl rfl ?_
          refine ⟨_, rfl, _, rfl, ?_⟩
          unfold sp_wish
          rw [if_neg (by omega), if_neg (fun q => q.elim (fun q => q h0) hns)]
          first
            | (obtain ⟨rfl, rfl⟩ := h130; rw [if_pos (by omega)]; refine PM_tr hs ?_; rw [← hs.1]; exact PM_aside)
            | (rw [if_neg (by omega), show fsN (wishP (aM w) v) 60 = -9 by omega]; exact ⟨rfl, hs⟩)
      · exfalso; omega
    | succ j ih =>
      intro k W h1 h1' hvv h0 hns f1 f2
      have hb := cn_bd (P := wishP (aM w) v) k
      have hf := fsN_spec (P := wishP (aM w) v) k
      have hs : SM w W := SM_scr (fun b hb => f1 b (by omega) (by omega))
      have cs : cn (wishP (aM w) v) (k + 1) = cn (wishP (aM w) v) k + bi (wishP (aM w) v ((k : Int) + 1)) := rfl
      have fs : fsN (wishP (aM w) v) (k + 1) = if bi (wishP (aM w) v ((k : Int) + 1)) = 1 ∧ cn (wishP (aM w) v) k = 0 then ((k : Int) + 1) else fsN (wishP (aM w) v) k := rfl
      refine gx_iload4 (q := 53) hG d_M_wish_51 rfl ?_
      refine gx_bipush (q := 55) hG d_M_wish_53 rfl rfl ?_
      refine gx_icmp_gt (tgt := 116) (q := 58) hG d_M_wish_55 rfl rfl (by omega) (by omega) (fun c55 => ?_) (fun c55 => ?_)
      · exfalso; omega
      · refine gx_aload0 (q := 59) hG d_M_wish_58 rfl ?_
        refine gx_iload4 (q := 61) hG d_M_wish_59 rfl ?_
        refine gw_V1I (q := 64) hG l_M_199 c_M_maySay (ev_M_maySay (hs.ok hO) (by omega)) hpM rfl (by decide) (Nat.le_of_ble_eq_true rfl) d_M_wish_61 rfl (by decide) (fun z61 w2 h61 => ?_)
        obtain ⟨rfl, F, rfl⟩ := h61
        rw [hs.1]
        have f14 : wc W 83 F 76 14 = n := by rw [wc_ne (by omega), f1 76 (by omega) (by omega), en]
        refine gx_if_eq (tgt := 110) (q := 67) hG d_M_wish_64 rfl rfl (bi_R _) (fun c64 => ?_) (fun c64 => ?_)
        · have no : ¬ wishP (aM w) v ((k : Int) + 1) := fun q => bi_eq0.mp c64 q.2.1
          refine gx_iinc4 (q := 113) hG d_M_wish_110 rfl rfl ?_
          refine gx_goto (tgt := 51) hG d_M_wish_113 rfl ?_
          first
            | (have e := ih (k + 1) (wc W 83 F) (by omega) (by omega) hvv h0 hns (fun b b1 b2 => by rw [wc_ne b2, f1 b b1 b2]) (fun i i0 i1 => by rw [wc_ne (by omega), f2 i i0 i1])
               rw [cs, fs, bi_f no, if_neg (by omega), Int.add_zero] at e
               exact e)
            | (have e := ih (k + 1) w3 (by omega) (by omega) hvv h0 hns (fun b b1 b2 => by rw [p1 b b2, wu_ne b1, wc_ne b2, f1 b b1 b2]) (fun i i0 i1 => by rw [p1 93 (by omega), wu_pl (by omega), wc_ne (by omega), f2 i i0 i1])
               first
                 | (rw [cs, fs, c93, if_neg (by omega), Int.add_zero] at e; exact e)
                 | (rw [cs, fs, bi_t (bi_ne0.mp c93), if_pos (by omega)] at e; exact e)
                 | (rw [cs, fs, bi_t (bi_ne0.mp c93), if_neg (by omega)] at e; exact e))
        · have ho := bi_ne0.mp c64
          have g14 : wu (wc W 83 F) 93 (n : Int) ((k : Int) + 1) 76 14 = n := by rw [wu_ne (by omega), f14]
          have g93 : ∀ i : Int, 0 ≤ i → i < ((n + 1 : Nat) : Int) → wu (wc W 83 F) 93 (n : Int) ((k : Int) + 1) 93 i = up (aM w 5) (w 76 14) ((k : Int) + 1) i := fun i i0 i1 => by
            rw [wu_at, en]
            unfold up
            split
            · rfl
            · rw [wc_ne (by omega), f2 i i0 (by omega)]
              exact (aM_at5 ⟨i0, by omega⟩).symm
          have hb9 : ∀ i : Int, 0 ≤ i → i < ((n + 1 : Nat) : Int) → 1 ≤ wu (wc W 83 F) 93 (n : Int) ((k : Int) + 1) 93 i ∧ wu (wc W 83 F) 93 (n : Int) ((k : Int) + 1) 93 i ≤ 60 := fun i i0 i1 => by
            rw [g93 i i0 i1]
            unfold up
            split
            · omega
            · exact hO.num i i0 (by omega)
          have hwp : (gN (wu (wc W 83 F) 93 (n : Int) ((k : Int) + 1) 93) (n + 1) = 1 ∧ ∀ u : Int, v ≤ u → u ≤ 4000 → rch 0 (wu (wc W 83 F) 93 (n : Int) ((k : Int) + 1) 93) (n + 1) u) ↔ wishP (aM w) v ((k : Int) + 1) := by
            unfold wishP
            rw [e1, hnt, gN_congr (n + 1) g93]
            constructor
            · rintro ⟨q1, q2⟩
              exact ⟨by omega, ho, q1, fun u u0 u1 => (rch_congr g93 u).mp (q2 u u0 u1)⟩
            · rintro ⟨-, -, q1, q2⟩
              exact ⟨q1, fun u u0 u1 => (rch_congr g93 u).mpr (q2 u u0 u1)⟩
          refine gx_aload0 (q := 68) hG d_M_wish_67 rfl ?_
          refine gx_get (q := 71) hG f_M_60 hpM rfl d_M_wish_68 rfl ?_
          refine gx_aload0 (q := 72) hG d_M_wish_71 rfl ?_
          refine gx_get (q := 75) hG f_M_178 hpM rfl d_M_wish_72 rfl ?_
          rw [f14]
          refine gx_iload4 (q := 77) hG d_M_wish_75 rfl ?_
          refine gw_iast (q := 78) hG rfl (by omega) (by omega) d_M_wish_77 rfl ?_
          refine gx_aload0 (q := 79) hG d_M_wish_78 rfl ?_
          refine gx_aload0 (q := 80) hG d_M_wish_79 rfl ?_
          refine gx_get (q := 83) hG f_M_60 hpM rfl d_M_wish_80 rfl ?_
          refine gx_aload0 (q := 84) hG d_M_wish_83 rfl ?_
          refine gx_get (q := 87) hG f_M_178 hpM rfl d_M_wish_84 rfl ?_
          rw [g14]
          refine gx_iconst (q := 88) hG d_M_wish_87 rfl ?_
          refine gx_iadd (q := 89) hG d_M_wish_88 rfl ?_
          refine gx_iload1 (q := 90) hG d_M_wish_89 rfl ?_
          rw [show (n : Int) + 1 = ((n + 1 : Nat) : Int) from rfl]
          refine gw_V3I (q := 93) hG l_M_222 c_M_areAll (ev_M_areAll (N := 14) rfl (by omega) (by omega) (by omega) hvv hb9) hpM rfl (by decide) (Nat.le_of_ble_eq_true rfl) d_M_wish_90 rfl (by decide) (fun z90 w3 h90 => ?_)
          obtain ⟨rfl, p1⟩ := h90
          rw [propext hwp]
          refine gx_if_eq (tgt := 110) (q := 96) hG d_M_wish_93 rfl rfl (bi_R _) (fun c93 => ?_) (fun c93 => ?_)
          · refine gx_iinc4 (q := 113) hG d_M_wish_110 rfl rfl ?_
            refine gx_goto (tgt := 51) hG d_M_wish_113 rfl ?_
            first
              | (have e := ih (k + 1) (wc W 83 F) (by omega) (by omega) hvv h0 hns (fun b b1 b2 => by rw [wc_ne b2, f1 b b1 b2]) (fun i i0 i1 => by rw [wc_ne (by omega), f2 i i0 i1])
                 rw [cs, fs, bi_f no, if_neg (by omega), Int.add_zero] at e
                 exact e)
              | (have e := ih (k + 1) w3 (by omega) (by omega) hvv h0 hns (fun b b1 b2 => by rw [p1 b b2, wu_ne b1, wc_ne b2, f1 b b1 b2]) (fun i i0 i1 => by rw [p1 93 (by omega), wu_pl (by omega), wc_ne (by omega), f2 i i0 i1])
                 first
                   | (rw [cs, fs, c93, if_neg (by omega), Int.add_zero] at e; exact e)
                   | (rw [cs, fs, bi_t (bi_ne0.mp c93), if_pos (by omega)] at e; exact e)
                   | (rw [cs, fs, bi_t (bi_ne0.mp c93), if_neg (by omega)] at e; exact e))
          · refine gx_iload3 (q := 97) hG d_M_wish_96 rfl ?_
            refine gx_if_ne (tgt := 105) (q := 100) hG d_M_wish_97 rfl rfl (by omega) (fun c97 => ?_) (fun c97 => ?_)
            · refine gx_iload2 (q := 106) hG d_M_wish_105 rfl ?_
              refine gx_istore2 (q := 107) hG d_M_wish_106 rfl rfl ?_
              refine gx_iinc3 (q := 110) hG d_M_wish_107 rfl rfl ?_
              refine gx_iinc4 (q := 113) hG d_M_wish_110 rfl rfl ?_
              refine gx_goto (tgt := 51) hG d_M_wish_113 rfl ?_
              first
                | (have e := ih (k + 1) (wc W 83 F) (by omega) (by omega) hvv h0 hns (fun b b1 b2 => by rw [wc_ne b2, f1 b b1 b2]) (fun i i0 i1 => by rw [wc_ne (by omega), f2 i i0 i1])
                   rw [cs, fs, bi_f no, if_neg (by omega), Int.add_zero] at e
                   exact e)
                | (have e := ih (k + 1) w3 (by omega) (by omega) hvv h0 hns (fun b b1 b2 => by rw [p1 b b2, wu_ne b1, wc_ne b2, f1 b b1 b2]) (fun i i0 i1 => by rw [p1 93 (by omega), wu_pl (by omega), wc_ne (by omega), f2 i i0 i1])
                   first
                     | (rw [cs, fs, c93, if_neg (by omega), Int.add_zero] at e; exact e)
                     | (rw [cs, fs, bi_t (bi_ne0.mp c93), if_pos (by omega)] at e; exact e)
                     | (rw [cs, fs, bi_t (bi_ne0.mp c93), if_neg (by omega)] at e; exact e))
            · refine gx_iload4 (q := 102) hG d_M_wish_100 rfl ?_
              refine gx_goto (tgt := 106) hG d_M_wish_102 rfl ?_
              refine gx_istore2 (q := 107) hG d_M_wish_106 rfl rfl ?_
              refine gx_iinc3 (q := 110) hG d_M_wish_107 rfl rfl ?_
              refine gx_iinc4 (q := 113) hG d_M_wish_110 rfl rfl ?_
              refine gx_goto (tgt := 51) hG d_M_wish_113 rfl ?_
              first
                | (have e := ih (k + 1) (wc W 83 F) (by omega) (by omega) hvv h0 hns (fun b b1 b2 => by rw [wc_ne b2, f1 b b1 b2]) (fun i i0 i1 => by rw [wc_ne (by omega), f2 i i0 i1])
                   rw [cs, fs, bi_f no, if_neg (by omega), Int.add_zero] at e
                   exact e)
                | (have e := ih (k + 1) w3 (by omega) (by omega) hvv h0 hns (fun b b1 b2 => by rw [p1 b b2, wu_ne b1, wc_ne b2, f1 b b1 b2]) (fun i i0 i1 => by rw [p1 93 (by omega), wu_pl (by omega), wc_ne (by omega), f2 i i0 i1])
                   first
                     | (rw [cs, fs, c93, if_neg (by omega), Int.add_zero] at e; exact e)
                     | (rw [cs, fs, bi_t (bi_ne0.mp c93), if_pos (by omega)] at e; exact e)
                     | (rw [cs, fs, bi_t (bi_ne0.mp c93), if_neg (by omega)] at e; exact e))
  refine gx_iload1 (q := 1) hG d_M_wish_0 rfl ?_
  refine gx_iconst (q := 2) hG d_M_wish_1 rfl ?_
  refine gx_sipush (q := 5) hG d_M_wish_2 rfl rfl ?_
  refine gw_S3X (q := 8) hG l_M_96 c_M_in (ev_M_in (by omega) (by omega) (by omega)) (by decide) (Nat.le_of_ble_eq_true rfl) d_M_wish_5 rfl (by decide) ?_
  refine gx_if_ne (tgt := 13) (q := 11) hG d_M_wish_8 rfl rfl (bi_R _) (fun c8 => ?_) (fun c8 => ?_)
  · have c8 := bi_ne0.mp c8
    refine gx_aload0 (q := 14) hG d_M_wish_13 rfl ?_
    refine gx_get (q := 17) hG f_M_172 hpM rfl d_M_wish_14 rfl ?_
    refine gx_if_ne (tgt := 36) (q := 20) hG d_M_wish_17 rfl rfl (by omega) (fun c17 => ?_) (fun c17 => ?_)
    · refine gx_bipush (q := 38) hG d_M_wish_36 rfl rfl ?_
      refine gx_ireturn hG d_M_wish_38 rfl rfl ?_
      refine ⟨_, rfl, _, rfl, ?_⟩
      unfold sp_wish; rw [if_neg (by omega)]
      first
        | (rw [if_pos (Or.inl (show aM w 4 0 ≠ 0 from c17))]; exact PM_id)
        | (rw [if_pos (Or.inr (bi_ne0.mp c33))]; exact ⟨rfl, hs1⟩)
    · refine gx_aload0 (q := 21) hG d_M_wish_20 rfl ?_
      refine gx_aload0 (q := 22) hG d_M_wish_21 rfl ?_
      refine gx_get (q := 25) hG f_M_35 hpM rfl d_M_wish_22 rfl ?_
      refine gx_aload0 (q := 26) hG d_M_wish_25 rfl ?_
      refine gx_get (q := 29) hG f_M_178 hpM rfl d_M_wish_26 rfl ?_
      rw [en]
      refine gx_iload1 (q := 30) hG d_M_wish_29 rfl ?_
      refine gw_V3I (q := 33) hG l_M_222 c_M_areAll (ev_M_areAll (N := 14) rfl (by decide) (by omega) (by omega) (by omega) hmn) hpM rfl (by decide) (Nat.le_of_ble_eq_true rfl) d_M_wish_30 rfl (by decide) (fun z30 w1 h30 => ?_)
      obtain ⟨rfl, p1⟩ := h30
      rw [propext (hST (by omega) (by omega))]
      have hs1 : SM w w1 := SM_scr (fun b hb => p1 b (by omega))
      have q14 : w1 76 14 = n := by rw [p1 76 (by omega), en]
      refine gx_if_eq (tgt := 39) (q := 36) hG d_M_wish_33 rfl rfl (bi_R _) (fun c33 => ?_) (fun c33 => ?_)
      · refine gx_bipush (q := 41) hG d_M_wish_39 rfl rfl ?_
        refine gx_istore2 (q := 42) hG d_M_wish_41 rfl rfl ?_
        refine gx_iconst (q := 43) hG d_M_wish_42 rfl ?_
        refine gx_istore3 (q := 44) hG d_M_wish_43 rfl rfl ?_
        refine gx_aload0 (q := 45) hG d_M_wish_44 rfl ?_
        refine gw_V0V (q := 48) hG l_M_226 c_M_layOthers (ev_M_layOthers (by omega)) hpM rfl (by decide) (Nat.le_of_ble_eq_true rfl) d_M_wish_45 rfl (by decide) (fun w2 h45 => ?_)
        obtain ⟨p2, p3⟩ := h45
        refine gx_iconst (q := 49) hG d_M_wish_48 rfl ?_
        refine gx_istore4 (q := 51) hG d_M_wish_49 rfl rfl ?_
        have x1 : cn (wishP (aM w) v) 1 = 0 := by show 0 + bi _ = 0; rw [bi_f (fun q => absurd q.1 (by decide))]; rfl
        have x2 : fsN (wishP (aM w) v) 1 = -9 := by rcases fsN_spec (P := wishP (aM w) v) 1 with q | q <;> omega
        have e := L 59 1 w2 (by omega) (by omega) (by omega) (by omega) (bi_eq0.mp c33) (fun b b1 b2 => by rw [p2 b b1, p1 b b2]) (fun i i0 i1 => by rw [p3 i i0 (by omega), p1 85 (by omega)])
        rw [x1, x2] at e
        exact e
      · refine gx_bipush (q := 38) hG d_M_wish_36 rfl rfl ?_
        refine gx_ireturn hG d_M_wish_38 rfl rfl ?_
        refine ⟨_, rfl, _, rfl, ?_⟩
        unfold sp_wish; rw [if_neg (by omega)]
        first
          | (rw [if_pos (Or.inl (show aM w 4 0 ≠ 0 from c17))]; exact PM_id)
          | (rw [if_pos (Or.inr (bi_ne0.mp c33))]; exact ⟨rfl, hs1⟩)
  · have c8 := bi_eq0.mp c8
    refine gx_iconst (q := 12) hG d_M_wish_11 rfl ?_
    refine gx_ireturn hG d_M_wish_12 rfl rfl ?_
    refine ⟨_, rfl, _, rfl, ?_⟩
    unfold sp_wish; rw [if_pos (by omega)]; exact PM_id

