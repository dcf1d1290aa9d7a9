/-! part 47: saying, on the reference's side -/
theorem FZ_bd {law : Int} {num F : Int → Int} {k : Nat} {top v : Int} (h : FZ law num k F top) (hn : ∀ i : Int, 0 ≤ i → i < k → 1 ≤ num i) (ht : top ≤ 4000) (hv : 0 ≤ v ∧ v ≤ top) : 0 ≤ F v ∧ F v ≤ 99999 := by
  by_cases c : law = 1
  · obtain ⟨h1, h2⟩ := h.2 c
    by_cases c2 : v = 0
    · rw [c2, h1]; omega
    · rw [h2 v (by omega) hv.2]
      split <;> omega
  · exact LW_bd (h.1 c v hv.1 hv.2) (fun t q => by have := wy_le k hn _ _ q; omega)
theorem FZ_had {law : Int} {num F : Int → Int} {k : Nat} {top v : Int} (h : FZ law num k F top) (hn : ∀ i : Int, 0 ≤ i → i < k → 1 ≤ num i) (ht : top ≤ 4000) (hv : 0 ≤ v ∧ v ≤ top) : F v < 99999 ↔ rch law num k v := by
  by_cases c : law = 1
  · obtain ⟨h1, h2⟩ := h.2 c
    by_cases c2 : v = 0
    · rw [c2, h1]
      exact ⟨fun _ => rch_zero, fun _ => by omega⟩
    · rw [h2 v (by omega) hv.2]
      unfold rch
      by_cases c3 : 0 < gN num k ∧ (gN num k : Int) ∣ v
      · rw [if_pos c3]
        exact ⟨fun _ => Or.inl ⟨c, Or.inr c3⟩, fun _ => by omega⟩
      · rw [if_neg c3]
        exact ⟨fun q => by omega, fun q => by rcases q with ⟨_, q | q⟩ | ⟨q, _⟩; (· exact absurd q c2); (· exact absurd q c3); (· exact absurd c q)⟩
  · have e := LW_lt (h.1 c v hv.1 hv.2) (fun t q => by have := wy_le k hn _ _ q; omega)
    rw [e, ← rc_wy]
    unfold rch
    exact ⟨fun q => Or.inr ⟨c, q⟩, fun q => q.elim (fun q => absurd q.1 c) (fun q => q.2)⟩
theorem ev_M_isHad {w : Mem} {v : Int} (hv : 0 ≤ v ∧ v ≤ 4000) (hb : R3 (w 83 v)) : EvX y_M_isHad b_M_isHad 2 (some .boolean) (1) [Vr 76, Vi v] w (Vi (bi (w 83 v < 99999))) := by
  refine Ev.mk (isI := false) (by decide +kernel) nofun (Nat.le_of_ble_eq_true rfl) (fun G hG => ?_)
  show G 0 [some (Vr 76), some (Vi v)] [] 102 (hp w)
  refine gx_aload0 (q := 1) hG d_M_isHad_0 rfl ?_
  refine gx_get (q := 4) hG f_M_29 hpM rfl d_M_isHad_1 rfl ?_
  refine gx_iload1 (q := 5) hG d_M_isHad_4 rfl ?_
  refine gw_iald (q := 6) hG rfl (by omega) (by omega) d_M_isHad_5 rfl ?_
  refine gx_ldc (q := 8) hG (99999) k_M_127 d_M_isHad_6 rfl rfl ?_
  refine gx_icmp_ge (tgt := 15) (q := 11) hG d_M_isHad_8 rfl rfl (by omega) (by omega) (fun c8 => ?_) (fun c8 => ?_)
  · refine gx_iconst (q := 16) hG d_M_isHad_15 rfl ?_
    refine gx_zreturn hG d_M_isHad_16 rfl rfl (by first | exact bi_01 _ | decide | omega) ?_
    refine ⟨w, rfl, ?_, rfl⟩; first | rfl | (rw [bi_t (by omega)]) | (rw [bi_f (by omega)])
  · refine gx_iconst (q := 12) hG d_M_isHad_11 rfl ?_
    refine gx_goto (tgt := 16) hG d_M_isHad_12 rfl ?_
    refine gx_zreturn hG d_M_isHad_16 rfl rfl (by first | exact bi_01 _ | decide | omega) ?_
    refine ⟨w, rfl, ?_, rfl⟩; first | rfl | (rw [bi_t (by omega)]) | (rw [bi_f (by omega)])
theorem aM_83 {w : Mem} {F : Int → Int} : aM (wc w 83 F) = aM w := by
  funext c i
  unfold aM
  match c with
  | 0 | 1 | 2 | 3 | 4 | 5 | 6 | 7 | 8 | 9 | 10 => simp [wc_get]
  | c + 11 => simp
theorem ev_M_leftOf {w : Mem} {x law : Int} {n N : Nat} (hs : shp x = some (0, N)) (hx : x ≠ 83) (hnN : n ≤ N) (hn14 : n ≤ 14) (hl : law = 0 ∨ law = 1 ∨ law = 2) (hn : ∀ i : Int, 0 ≤ i → i < n → 1 ≤ w x i ∧ w x i ≤ 60) : EvI y_M_leftOf b_M_leftOf 6 (some .int) (3) [Vr 76, Vr x, Vi (n : Int), Vi law] w (fun z w' => z = cn (fun v => ¬ rch law (w x) n v) 60 ∧ ∃ F, w' = wc w 83 F) := by
  refine Ev.mk (isI := false) (by decide +kernel) nofun (Nat.le_of_ble_eq_true rfl) (fun G hG => ?_)
  show G 0 [some (Vr 76), some (Vr x), some (Vi (n : Int)), some (Vi law), none, none] [] 102 (hp w)
  have L : ∀ (j k : Nat) (F : Int → Int), k + j = 60 → FZ law (w x) n F 60 → G 15 [some (Vr 76), some (Vr x), some (Vi (n : Int)), some (Vi law), some (Vi (cn (fun v => ¬ rch law (w x) n v) k)), some (Vi ((k : Int) + 1))] [] 102 (hp (wc w 83 F)) := by
    intro j
    induction j with
    | zero =>
      intro k F h1 h2
      refine gx_iload5 (q := 17) hG d_M_leftOf_15 rfl ?_
      refine gx_bipush (q := 19) hG d_M_leftOf_17 rfl rfl ?_
      refine gx_icmp_gt (tgt := 47) (q := 22) hG d_M_leftOf_19 rfl rfl (by omega) (by omega) (fun c19 => ?_) (fun c19 => ?_)
      · refine gx_iload4 (q := 49) hG d_M_leftOf_47 rfl ?_
        refine gx_ireturn hG d_M_leftOf_49 rfl rfl ?_
        exact ⟨_, rfl, _, rfl, by rw [show k = 60 by omega], F, rfl⟩
      · exfalso; omega
    | succ j ih =>
      intro k F h1 h2
      have hn1 : ∀ i : Int, 0 ≤ i → i < n → 1 ≤ w x i := fun i i0 i1 => (hn i i0 i1).1
      have hb := FZ_bd (v := (k : Int) + 1) h2 hn1 (by omega) (by omega)
      have hh := FZ_had (v := (k : Int) + 1) h2 hn1 (by omega) (by omega)
      have he : wc w 83 F 83 ((k : Int) + 1) = F ((k : Int) + 1) := by rw [wc_eq]
      have ce : cn (fun v => ¬ rch law (w x) n v) (k + 1) = cn (fun v => ¬ rch law (w x) n v) k + bi (¬ rch law (w x) n ((k : Int) + 1)) := rfl
      refine gx_iload5 (q := 17) hG d_M_leftOf_15 rfl ?_
      refine gx_bipush (q := 19) hG d_M_leftOf_17 rfl rfl ?_
      refine gx_icmp_gt (tgt := 47) (q := 22) hG d_M_leftOf_19 rfl rfl (by omega) (by omega) (fun c19 => ?_) (fun c19 => ?_)
      · exfalso; omega
      · refine gx_iload4 (q := 24) hG d_M_leftOf_22 rfl ?_
        refine gx_aload0 (q := 25) hG d_M_leftOf_24 rfl ?_
        refine gx_iload5 (q := 27) hG d_M_leftOf_25 rfl ?_
        refine gw_V1X (q := 30) hG l_M_135 c_M_isHad (ev_M_isHad (by omega) (by rw [he]; omega)) hpM rfl (by decide) (Nat.le_of_ble_eq_true rfl) d_M_leftOf_27 rfl (by decide) ?_
        refine gx_if_eq (tgt := 37) (q := 33) hG d_M_leftOf_30 rfl rfl (bi_R _) (fun c30 => ?_) (fun c30 => ?_)
        · have c30 := bi_eq0.mp c30
          rw [he, hh] at c30
          refine gx_iconst (q := 38) hG d_M_leftOf_37 rfl ?_
          refine gx_iadd (q := 39) hG d_M_leftOf_38 rfl ?_
          refine gx_istore4 (q := 41) hG d_M_leftOf_39 rfl rfl ?_
          refine gx_iinc5 (q := 44) hG d_M_leftOf_41 rfl rfl ?_
          refine gx_goto (tgt := 15) hG d_M_leftOf_44 rfl ?_
          have e := ih (k + 1) F (by omega) h2
          rw [ce] at e
          first
            | (rw [bi_t c30] at e; exact e)
            | (rw [bi_f (fun q => q c30)] at e; exact e)
        · have c30 := bi_ne0.mp c30
          rw [he, hh] at c30
          refine gx_iconst (q := 34) hG d_M_leftOf_33 rfl ?_
          refine gx_goto (tgt := 38) hG d_M_leftOf_34 rfl ?_
          refine gx_iadd (q := 39) hG d_M_leftOf_38 rfl ?_
          refine gx_istore4 (q := 41) hG d_M_leftOf_39 rfl rfl ?_
          refine gx_iinc5 (q := 44) hG d_M_leftOf_41 rfl rfl ?_
          refine gx_goto (tgt := 15) hG d_M_leftOf_44 rfl ?_
          have e := ih (k + 1) F (by omega) h2
          rw [ce] at e
          first
            | (rw [bi_t c30] at e; exact e)
            | (rw [bi_f (fun q => q c30)] at e; exact e)
  refine gx_aload0 (q := 1) hG d_M_leftOf_0 rfl ?_
  refine gx_aload1 (q := 2) hG d_M_leftOf_1 rfl ?_
  refine gx_iload2 (q := 3) hG d_M_leftOf_2 rfl ?_
  refine gx_iload3 (q := 4) hG d_M_leftOf_3 rfl ?_
  refine gx_bipush (q := 6) hG d_M_leftOf_4 rfl rfl ?_
  refine gw_V4V (q := 9) hG l_M_131 c_M_layFew (ev_M_layFew hs hx hnN hn14 hl (by omega) hn) hpM rfl (by decide) (Nat.le_of_ble_eq_true rfl) d_M_leftOf_6 rfl (by decide) (fun w1 h6 => ?_)
  obtain ⟨F, rfl, hF⟩ := h6
  refine gx_iconst (q := 10) hG d_M_leftOf_9 rfl ?_
  refine gx_istore4 (q := 12) hG d_M_leftOf_10 rfl rfl ?_
  refine gx_iconst (q := 13) hG d_M_leftOf_12 rfl ?_
  refine gx_istore5 (q := 15) hG d_M_leftOf_13 rfl rfl ?_
  exact L 60 0 F (by omega) hF
theorem aM_at5 {w : Mem} {i : Int} (h : 0 ≤ i ∧ i < w 76 14) : aM w 5 i = w 85 i := if_pos h
theorem OK.num {s : Sta} (h : OK s) : ∀ i, 0 ≤ i → i < s 4 1 → 1 ≤ s 5 i ∧ s 5 i ≤ 60 := h.2.2.2.2.2.2.2.1
theorem OK.law {s : Sta} (h : OK s) : s 4 0 = 0 ∨ s 4 0 = 1 ∨ s 4 0 = 2 := h.2.2.2.2.1
theorem OK.mn {w : Mem} (h : OK (aM w)) : ∀ i, 0 ≤ i → i < w 76 14 → 1 ≤ w 85 i ∧ w 85 i ≤ 60 := fun i i0 i1 => by
  have := h.num i i0 i1
  rw [aM_at5 ⟨i0, i1⟩] at this
  exact this
theorem hadM {w : Mem} {v : Int} : rch (w 76 11) (w 85) (w 76 14).toNat v ↔ hadS (aM w) v := rch_ext rfl (fun i i0 i1 => (aM_at5 ⟨i0, by omega⟩).symm)
theorem ev_M_leftNow {w : Mem} (hO : OK (aM w)) : EvI y_M_leftNow b_M_leftNow 1 (some .int) (4) [Vr 76] w (fun z w' => z = leftS (aM w) ∧ ∃ F, w' = wc w 83 F) := by
  refine Ev.mk (isI := false) (by decide +kernel) nofun (Nat.le_of_ble_eq_true rfl) (fun G hG => ?_)
  show G 0 [some (Vr 76)] [] 102 (hp w)
  have hn := hO.nn
  have hl := hO.law
  have e1 : aM w 4 1 = w 76 14 := rfl
  have e0 : aM w 4 0 = w 76 11 := rfl
  rw [e1] at hn
  rw [e0] at hl
  obtain ⟨n, en⟩ : ∃ n : Nat, w 76 14 = (n : Int) := ⟨(w 76 14).toNat, by omega⟩
  refine gx_aload0 (q := 1) hG d_M_leftNow_0 rfl ?_
  refine gx_aload0 (q := 2) hG d_M_leftNow_1 rfl ?_
  refine gx_get (q := 5) hG f_M_35 hpM rfl d_M_leftNow_2 rfl ?_
  refine gx_aload0 (q := 6) hG d_M_leftNow_5 rfl ?_
  refine gx_get (q := 9) hG f_M_178 hpM rfl d_M_leftNow_6 rfl ?_
  rw [en]
  refine gx_aload0 (q := 10) hG d_M_leftNow_9 rfl ?_
  refine gx_get (q := 13) hG f_M_172 hpM rfl d_M_leftNow_10 rfl ?_
  refine gw_V3I (q := 16) hG l_M_184 c_M_leftOf (ev_M_leftOf (N := 14) rfl (by decide) (by omega) (by omega) hl (fun i i0 i1 => hO.mn i i0 (by omega))) hpM rfl (by decide) (Nat.le_of_ble_eq_true rfl) d_M_leftNow_13 rfl (by decide) (fun z13 w h13 => ?_)
  refine gx_ireturn hG d_M_leftNow_16 rfl rfl ?_
  refine ⟨_, rfl, _, rfl, ?_, h13.2⟩
  rw [h13.1]
  refine cn_congr 60 (fun v _ _ => not_congr ?_)
  rw [← hadM, en]
  exact Iff.rfl
theorem ev_M_maySay {w : Mem} {v : Int} (hO : OK (aM w)) (hv : 0 ≤ v ∧ v ≤ 60) : EvI y_M_maySay b_M_maySay 2 (some .boolean) (3) [Vr 76, Vi v] w (fun z w' => z = bi (¬ hadS (aM w) v) ∧ ∃ F, w' = wc w 83 F) := by
  refine Ev.mk (isI := false) (by decide +kernel) nofun (Nat.le_of_ble_eq_true rfl) (fun G hG => ?_)
  show G 0 [some (Vr 76), some (Vi v)] [] 102 (hp w)
  have hn := hO.nn
  have hl := hO.law
  have e1 : aM w 4 1 = w 76 14 := rfl
  have e0 : aM w 4 0 = w 76 11 := rfl
  rw [e1] at hn
  rw [e0] at hl
  obtain ⟨n, en⟩ : ∃ n : Nat, w 76 14 = (n : Int) := ⟨(w 76 14).toNat, by omega⟩
  have hn1 : ∀ i : Int, 0 ≤ i → i < n → 1 ≤ w 85 i := fun i i0 i1 => (hO.mn i i0 (by omega)).1
  refine gx_aload0 (q := 1) hG d_M_maySay_0 rfl ?_
  refine gx_aload0 (q := 2) hG d_M_maySay_1 rfl ?_
  refine gx_get (q := 5) hG f_M_35 hpM rfl d_M_maySay_2 rfl ?_
  refine gx_aload0 (q := 6) hG d_M_maySay_5 rfl ?_
  refine gx_get (q := 9) hG f_M_178 hpM rfl d_M_maySay_6 rfl ?_
  rw [en]
  refine gx_aload0 (q := 10) hG d_M_maySay_9 rfl ?_
  refine gx_get (q := 13) hG f_M_172 hpM rfl d_M_maySay_10 rfl ?_
  refine gx_bipush (q := 15) hG d_M_maySay_13 rfl rfl ?_
  refine gw_V4V (q := 18) hG l_M_131 c_M_layFew (ev_M_layFew (N := 14) rfl (by decide) (by omega) (by omega) hl (by omega) (fun i i0 i1 => hO.mn i i0 (by omega))) hpM rfl (by decide) (Nat.le_of_ble_eq_true rfl) d_M_maySay_15 rfl (by decide) (fun w1 h15 => ?_)
  obtain ⟨F, rfl, hF⟩ := h15
  have hb := FZ_bd (v := v) hF hn1 (by omega) (by omega)
  have hh := FZ_had (v := v) hF hn1 (by omega) (by omega)
  have he : wc w 83 F 83 v = F v := by rw [wc_eq]
  have hM := hadM (w := w) (v := v)
  rw [en] at hM
  refine gx_aload0 (q := 19) hG d_M_maySay_18 rfl ?_
  refine gx_iload1 (q := 20) hG d_M_maySay_19 rfl ?_
  refine gw_V1X (q := 23) hG l_M_135 c_M_isHad (ev_M_isHad (by omega) (by rw [he]; omega)) hpM rfl (by decide) (Nat.le_of_ble_eq_true rfl) d_M_maySay_20 rfl (by decide) ?_
  refine gx_if_ne (tgt := 30) (q := 26) hG d_M_maySay_23 rfl rfl (bi_R _) (fun c23 => ?_) (fun c23 => ?_)
  · have c23 := bi_ne0.mp c23
    rw [he, hh] at c23
    refine gx_iconst (q := 31) hG d_M_maySay_30 rfl ?_
    refine gx_zreturn hG d_M_maySay_31 rfl rfl (by first | exact bi_01 _ | decide | omega) ?_
    first
      | exact ⟨_, rfl, _, rfl, by rw [bi_t (fun q => c23 (hM.mpr q))], F, rfl⟩
      | exact ⟨_, rfl, _, rfl, by rw [bi_f (fun q => q (hM.mp c23))], F, rfl⟩
  · have c23 := bi_eq0.mp c23
    rw [he, hh] at c23
    refine gx_iconst (q := 27) hG d_M_maySay_26 rfl ?_
    refine gx_goto (tgt := 31) hG d_M_maySay_27 rfl ?_
    refine gx_zreturn hG d_M_maySay_31 rfl rfl (by first | exact bi_01 _ | decide | omega) ?_
    first
      | exact ⟨_, rfl, _, rfl, by rw [bi_t (fun q => c23 (hM.mpr q))], F, rfl⟩
      | exact ⟨_, rfl, _, rfl, by rw [bi_f (fun q => q (hM.mp c23))], F, rfl⟩

