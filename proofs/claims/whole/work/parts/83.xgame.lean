/-! part 83: fault and game of the class -/
theorem pr_0 {s : Sta} {t f : Int} {p : Ps} : pRun s t 0 f p = (-9, p) := rfl
theorem pr_end {s : Sta} {t f : Int} {j : Nat} {p : Ps} (h : s 2 t ≤ p.pos) : pRun s t (j + 1) f p = (-9, p) := if_pos h
theorem pr_bl {s : Sta} {t f : Int} {j : Nat} {p : Ps} (h : p.pos < s 2 t) (h2 : byS s t p.pos = 32) : pRun s t (j + 1) f p = pRun s t j f (p.pos + 1, p.law, p.n, p.pl, p.num, p.kd) := (if_neg (by omega)).trans (if_pos h2)
theorem pr_1 {s : Sta} {t f : Int} {j : Nat} {p : Ps} (h : p.pos < s 2 t) (h2 : byS s t p.pos ≠ 32) (h3 : (pItem s t f p).1 = 1) : pRun s t (j + 1) f p = pRun s t j 0 (pItem s t f p).2 := ((if_neg (by omega)).trans (if_neg h2)).trans (if_pos h3)
theorem pr_no {s : Sta} {t f : Int} {j : Nat} {p : Ps} (h : p.pos < s 2 t) (h2 : byS s t p.pos ≠ 32) (h3 : (pItem s t f p).1 ≠ 1) : pRun s t (j + 1) f p = ((pItem s t f p).2.pos, (pItem s t f p).2) := ((if_neg (by omega)).trans (if_neg h2)).trans (if_neg h3)
theorem pItem_01 {s : Sta} {t f : Int} {p : Ps} : (pItem s t f p).1 = 0 ∨ (pItem s t f p).1 = 1 := by
  unfold pItem
  split
  · split
    · exact pLaw_01
    · exact Or.inl rfl
  · split
    · exact pNum_01
    · split
      · exact Or.inl rfl
      · exact pPl_01
theorem RX_pos {w : Mem} {p : Ps} {x : Int} (h : RX w p) : RX (wu w 15 3 x) (x, p.law, p.n, p.pl, p.num, p.kd) :=
  ⟨wu_eq, by rw [wu_pl (by decide)]; exact h.2.1, GI16 h.2.2.1 (wu_ne (by decide)) (wu_ne (by decide)), by rw [wu_ne (by decide)]; exact h.2.2.2.1, by rw [wu_ne (by decide)]; exact h.2.2.2.2.1, fun i i0 i1 => by rw [wu_ne (by decide)]; exact h.2.2.2.2.2.1 i i0 i1, fun i i0 i1 => by rw [wu_ne (by decide)]; exact h.2.2.2.2.2.2 i i0 i1⟩
theorem RX_0 {w : Mem} : RX (wu (wu (wu (wu (wu w 16 2 0) 16 1 0) 16 3 1) 15 2 0) 15 3 0) p0 := by
  have g := wo_GI_begin (w := w) (a := 16) (r := 0) (by unfold isG; omega) (by omega)
  refine ⟨wu_eq, by rw [wu_pl (by decide), wu_eq]; rfl, GI16 g (by rw [wu_ne (by decide), wu_ne (by decide)]) (by rw [wu_ne (by decide), wu_ne (by decide)]), ?_, ?_, fun i i0 i1 => by have i1 : i < 0 := i1; omega, fun i i0 i1 => by have i1 : i < 0 := i1; omega⟩
  · rw [wu_ne (by decide), wu_ne (by decide), wu_pl (by decide), wu_eq]; rfl
  · rw [wu_ne (by decide), wu_ne (by decide), wu_pl (by decide), wu_pl (by decide), wu_eq]; rfl
theorem ev_Rd_faultOf {w : Mem} {t : Int} (hO : OK (aX w)) (hj : XJ w) (ht : 0 ≤ t ∧ t < 4) : EvI y_Rd_faultOf b_Rd_faultOf 4 (some .int) (10) [Vr 15, Vr (62 + 2 * t)] w (fun z w' => z = (pRun (aX w) t 60 1 p0).1 ∧ SX w w' ∧ (z = -9 → RX w' (pRun (aX w) t 60 1 p0).2 ∧ PB (pRun (aX w) t 60 1 p0).2)) := by
  refine Ev.mk (isI := false) (by decide +kernel) nofun (Nat.le_of_ble_eq_true rfl) (fun G hG => ?_)
  show G 0 [some (Vr 15), some (Vr (62 + 2 * t)), none, none] [] 102 (hp w)
  have hs0 := hO.t0 ht
  have L : ∀ (j : Nat) (w1 : Mem) (f : Int) (p : Ps), RX w1 p → PB p → RF w w1 → (f = 0 ∨ f = 1) → (f = 1 → p.n = 0) → pRun (aX w) t j f p = pRun (aX w) t 60 1 p0 → j ≤ 60 → G 22 [some (Vr 15), some (Vr (62 + 2 * t)), some (Vi f), some (Vi (60 - (j : Int)))] [] 102 (hp w1) := by
    intro j
    induction j with
    | zero =>
      intro w1 f p hr hb hf h01 hn0 he hj60
      rw [pr_0] at he
      refine gx_iload3 (q := 23) hG d_Rd_faultOf_22 rfl ?_
      refine gx_bipush (q := 25) hG d_Rd_faultOf_23 rfl rfl ?_
      refine gx_icmp_ge (tgt := 91) (q := 28) hG d_Rd_faultOf_25 rfl rfl (by omega) (by omega) (fun c25 => ?_) (fun c25 => ?_)
      · refine gx_bipush (q := 93) hG d_Rd_faultOf_91 rfl rfl ?_
        refine gx_ireturn hG d_Rd_faultOf_93 rfl rfl ?_
        refine ⟨_, rfl, _, rfl, ?_⟩
        rw [← he]
        exact ⟨rfl, hf.sx hj, fun _ => ⟨hr, hb⟩⟩
      · exfalso; omega
    | succ j ih =>
      intro w1 f p hr hb hf h01 hn0 he hj60
      have s1 := hf.sx hj
      have hb1 := hb.1
      have e62 : w1 (62 + 2 * t) = w (62 + 2 * t) := hf _ (by omega)
      have eS : aX w 2 t = w (62 + 2 * t) 1 := aX_at2 ht
      have eb := byX (w := w1) ht hb1.1 (by rw [e62]; exact hs0.2)
      rw [s1.1, e62] at eb
      have hO1 : OK (aX w1) := by rw [s1.1]; exact hO
      refine gx_iload3 (q := 23) hG d_Rd_faultOf_22 rfl ?_
      refine gx_bipush (q := 25) hG d_Rd_faultOf_23 rfl rfl ?_
      refine gx_icmp_ge (tgt := 91) (q := 28) hG d_Rd_faultOf_25 rfl rfl (by omega) (by omega) (fun c25 => ?_) (fun c25 => ?_)
      · exfalso; omega
      · refine gx_aload0 (q := 29) hG d_Rd_faultOf_28 rfl ?_
        refine gx_get (q := 32) hG f_Rd_30 hpRd rfl d_Rd_faultOf_29 rfl ?_
        rw [hr.1]
        refine gx_aload1 (q := 33) hG d_Rd_faultOf_32 rfl ?_
        refine gx_get (q := 36) hG f_Rd_33 (hpRow (by omega)) rfl d_Rd_faultOf_33 rfl ?_
        rw [e62]
        refine gx_icmp_ge (tgt := 91) (q := 39) hG d_Rd_faultOf_36 rfl rfl (by omega) (by omega) (fun c36 => ?_) (fun c36 => ?_)
        · rw [pr_end (by omega)] at he
          refine gx_bipush (q := 93) hG d_Rd_faultOf_91 rfl rfl ?_
          refine gx_ireturn hG d_Rd_faultOf_93 rfl rfl ?_
          refine ⟨_, rfl, _, rfl, ?_⟩
          rw [← he]
          exact ⟨rfl, s1, fun _ => ⟨hr, hb⟩⟩
        · rw [if_pos (by omega)] at eb
          have hbb := hO1.t1 ht (i := p.pos) (by omega)
          rw [show 63 + 2 * t = 62 + 2 * t + 1 by omega, ← eb] at hbb
          refine gx_aload1 (q := 40) hG d_Rd_faultOf_39 rfl ?_
          refine gx_get (q := 43) hG f_Rd_38 (hpRow (by omega)) rfl d_Rd_faultOf_40 rfl ?_
          refine gx_aload0 (q := 44) hG d_Rd_faultOf_43 rfl ?_
          refine gx_get (q := 47) hG f_Rd_30 hpRd rfl d_Rd_faultOf_44 rfl ?_
          rw [hr.1]
          rw [eb] at hbb
          refine gw_iald (q := 48) hG (shp_rowA (by omega)) (by omega) (by omega) d_Rd_faultOf_47 rfl ?_
          rw [← eb] at hbb ⊢
          refine gx_bipush (q := 50) hG d_Rd_faultOf_48 rfl rfl ?_
          refine gx_icmp_ne (tgt := 66) (q := 53) hG d_Rd_faultOf_50 rfl rfl (by omega) (by omega) (fun c50 => ?_) (fun c50 => ?_)
          · refine gx_aload0 (q := 67) hG d_Rd_faultOf_66 rfl ?_
            refine gx_aload1 (q := 68) hG d_Rd_faultOf_67 rfl ?_
            refine gx_iload2 (q := 69) hG d_Rd_faultOf_68 rfl ?_
            refine gw_V2I (q := 72) hG l_Rd_41 c_Rd_takesItem (ev_Rd_takesItem hO1 s1.2.1 ht hr hb (by omega) (by rw [s1.1]; omega) h01 hn0) hpRd rfl (by decide) (Nat.le_of_ble_eq_true rfl) d_Rd_faultOf_69 rfl (by decide) (fun z69 w2 h69 => ?_)
            rw [s1.1] at h69
            have z01 : z69 = 0 ∨ z69 = 1 := by rw [h69.1]; exact pItem_01
            have hb2 := PB_item (s := aX w) (t := t) (f := f) hb (by omega)
            refine gx_if_eq (tgt := 80) (q := 75) hG d_Rd_faultOf_72 rfl rfl (by omega) (fun c72 => ?_) (fun c72 => ?_)
            · refine gx_aload0 (q := 81) hG d_Rd_faultOf_80 rfl ?_
              refine gx_get (q := 84) hG f_Rd_30 hpRd rfl d_Rd_faultOf_81 rfl ?_
              rw [h69.2.2.1]
              refine gx_ireturn hG d_Rd_faultOf_84 rfl rfl ?_
              refine ⟨_, rfl, _, rfl, ?_⟩
              rw [pr_no (by omega) c50 (by rw [← h69.1]; omega)] at he
              rw [← he]
              exact ⟨rfl, (hf.tr h69.2.1).sx hj, fun q => by have := hb2.1; have q : (pItem (aX w) t f p).2.pos = -9 := q; omega⟩
            · rw [pr_1 (by omega) c50 (by rw [← h69.1]; omega)] at he
              have e := ih w2 0 (pItem (aX w) t f p).2 (h69.2.2.2 (by rw [← h69.1]; omega)) hb2 (hf.tr h69.2.1) (Or.inl rfl) (fun q => absurd q (by decide)) he (by omega)
              rw [show 60 - (j : Int) = 60 - ((j + 1 : Nat) : Int) + 1 by omega] at e
              refine gx_iconst (q := 76) hG d_Rd_faultOf_75 rfl ?_
              refine gx_istore2 (q := 77) hG d_Rd_faultOf_76 rfl rfl ?_
              refine gx_goto (tgt := 85) hG d_Rd_faultOf_77 rfl ?_
              refine gx_iinc3 (q := 88) hG d_Rd_faultOf_85 rfl rfl ?_
              refine gx_goto (tgt := 22) hG d_Rd_faultOf_88 rfl ?_
              exact e
          · rw [pr_bl (by omega) c50] at he
            have e := ih (wu w1 15 3 (p.pos + 1)) f (p.pos + 1, p.law, p.n, p.pl, p.num, p.kd) (RX_pos hr) ⟨⟨by show 0 ≤ p.pos + 1; omega, by show p.pos + 1 ≤ 62; omega⟩, hb.2⟩ (hf.tr (fun b hb => wu_ne (by omega))) h01 hn0 he (by omega)
            rw [show 60 - (j : Int) = 60 - ((j + 1 : Nat) : Int) + 1 by omega] at e
            refine gx_aload0 (q := 54) hG d_Rd_faultOf_53 rfl ?_
            refine gx_dupa (q := 55) hG d_Rd_faultOf_54 rfl ?_
            refine gx_get (q := 58) hG f_Rd_30 hpRd rfl d_Rd_faultOf_55 rfl ?_
            rw [hr.1]
            refine gx_iconst (q := 59) hG d_Rd_faultOf_58 rfl ?_
            refine gx_iadd (q := 60) hG d_Rd_faultOf_59 rfl ?_
            refine gw_puti (q := 63) hG f_Rd_30 hpRd (Nat.le_of_ble_eq_true rfl) vfit_i (Or.inl rfl) d_Rd_faultOf_60 rfl 3 rfl rfl ?_
            refine gx_goto (tgt := 85) hG d_Rd_faultOf_63 rfl ?_
            refine gx_iinc3 (q := 88) hG d_Rd_faultOf_85 rfl rfl ?_
            refine gx_goto (tgt := 22) hG d_Rd_faultOf_88 rfl ?_
            exact e
  refine gx_aload0 (q := 1) hG d_Rd_faultOf_0 rfl ?_
  refine gx_get (q := 4) hG f_Rd_12 hpRd rfl d_Rd_faultOf_1 rfl ?_
  refine gx_iconst (q := 5) hG d_Rd_faultOf_4 rfl ?_
  refine gw_V1V (q := 8) hG l_Rd_22 c_Gm_begin (ev_Gm_begin (by unfold isG; omega)) (hpGame (by unfold isG; omega)) rfl (by decide) (Nat.le_of_ble_eq_true rfl) d_Rd_faultOf_5 rfl (by decide) (fun w1 h5 => ?_)
  subst h5
  refine gx_aload0 (q := 9) hG d_Rd_faultOf_8 rfl ?_
  refine gx_iconst (q := 10) hG d_Rd_faultOf_9 rfl ?_
  refine gw_puti (q := 13) hG f_Rd_26 hpRd (Nat.le_of_ble_eq_true rfl) vfit_i (Or.inl rfl) d_Rd_faultOf_10 rfl 2 rfl rfl ?_
  refine gx_aload0 (q := 14) hG d_Rd_faultOf_13 rfl ?_
  refine gx_iconst (q := 15) hG d_Rd_faultOf_14 rfl ?_
  refine gw_puti (q := 18) hG f_Rd_30 hpRd (Nat.le_of_ble_eq_true rfl) vfit_i (Or.inl rfl) d_Rd_faultOf_15 rfl 3 rfl rfl ?_
  refine gx_iconst (q := 19) hG d_Rd_faultOf_18 rfl ?_
  refine gx_istore2 (q := 20) hG d_Rd_faultOf_19 rfl rfl ?_
  refine gx_iconst (q := 21) hG d_Rd_faultOf_20 rfl ?_
  refine gx_istore3 (q := 22) hG d_Rd_faultOf_21 rfl rfl ?_
  have e := L 60 _ 1 p0 (RX_0 (w := w)) PB_0 (fun b hb => by rw [wu_ne (by omega), wu_ne (by omega), wu_ne (by omega), wu_ne (by omega), wu_ne (by omega)]) (Or.inr rfl) (fun _ => rfl) rfl (by omega)
  rw [show (60 : Int) - ((60 : Nat) : Int) = 0 by omega] at e
  exact e
theorem pRun_pos {s : Sta} {t : Int} : ∀ (j : Nat) (f : Int) (p : Ps), PB p → s 2 t ≤ 60 → (pRun s t j f p).1 = -9 ∨ (0 ≤ (pRun s t j f p).1 ∧ (pRun s t j f p).1 ≤ 62)
  | 0, _, _, _, _ => Or.inl rfl
  | j + 1, f, p, h, hs => by
    by_cases c1 : s 2 t ≤ p.pos
    · rw [pr_end c1]; exact Or.inl rfl
    · by_cases c2 : byS s t p.pos = 32
      · rw [pr_bl (by omega) c2]
        have := h.1
        exact pRun_pos j f _ ⟨⟨by show 0 ≤ p.pos + 1; omega, by show p.pos + 1 ≤ 62; omega⟩, h.2⟩ hs
      · have hb := PB_item (s := s) (t := t) (f := f) h (by omega)
        by_cases c3 : (pItem s t f p).1 = 1
        · rw [pr_1 (by omega) c2 c3]
          exact pRun_pos j 0 _ hb hs
        · rw [pr_no (by omega) c2 c3]
          exact Or.inr hb.1
noncomputable def sp_fault (s : Sta) (t : Int) : Int × Sta := if ¬ (0 ≤ t ∧ t < 4) then (-1, s) else if s 2 t < 0 then fdS s 1 else ((pRun s t 60 1 p0).1, s)
def gmS (s : Sta) (p : Ps) : Sta := fun c i => match c with
  | 4 => if i = 0 then p.law else if i = 1 then p.n else if i = 2 then p.pl else s 4 i
  | 5 => if 0 ≤ i ∧ i < p.n then p.num i else 0
  | 6 => if 0 ≤ i ∧ i < p.pl then p.kd i else 0
  | 8 => if 0 ≤ i ∧ i < 3 then -1 else 0
  | 9 => 0
  | 10 => 0
  | c => s c i
noncomputable def sp_game (s : Sta) (t : Int) : Int × Sta := if ¬ (0 ≤ t ∧ t < 4) then (-1, s) else if s 2 t < 0 then fdS s 1 else if (pRun s t 60 1 p0).1 ≠ -9 then (-4, s) else ((pRun s t 60 1 p0).2.n, gmS s (pRun s t 60 1 p0).2)
theorem aX_gm {w W : Mem} {p : Ps} (h : ∀ b, (b ≠ 0 ∧ b < 15 ∧ b ≠ 3 ∧ b ≠ 4 ∧ b ≠ 6 ∧ b ≠ 14) ∨ 18 < b → W b = w b) (h0 : ∀ j, j ≠ 7 → W 0 j = w 0 j) (h7 : W 0 7 = p.pl) (h1 : W 3 1 = p.n) (h2 : W 3 2 = p.law) (h4 : ∀ i, 0 ≤ i → i < p.n → W 4 i = p.num i) (h14 : ∀ i, 0 ≤ i → i < p.pl → W 14 i = p.kd i) (h6 : ∀ k, 0 ≤ k → k < 3 → W 6 k = 0) : aX W = gmS (aX w) p := by
  funext c i
  match c with
  | 0 => show (if 0 ≤ i ∧ i < 6 then W (50 + 2 * i) 1 else 0) = if 0 ≤ i ∧ i < 6 then w (50 + 2 * i) 1 else 0; split; (· rw [h _ (by omega)]); (· rfl)
  | 1 => show (if 0 ≤ i ∧ i < 360 then W (51 + 2 * (i / 60)) (i % 60) else 0) = if 0 ≤ i ∧ i < 360 then w (51 + 2 * (i / 60)) (i % 60) else 0; split; (· rw [h _ (by omega)]); (· rfl)
  | 2 => show (if 0 ≤ i ∧ i < 4 then W (62 + 2 * i) 1 else 0) = if 0 ≤ i ∧ i < 4 then w (62 + 2 * i) 1 else 0; split; (· rw [h _ (by omega)]); (· rfl)
  | 3 => show (if 0 ≤ i ∧ i < 240 then W (63 + 2 * (i / 60)) (i % 60) else 0) = if 0 ≤ i ∧ i < 240 then w (63 + 2 * (i / 60)) (i % 60) else 0; split; (· rw [h _ (by omega)]); (· rfl)
  | 4 =>
    show (if i = 0 then W 3 2 else if i = 1 then W 3 1 else if i = 2 then W 0 7 else if i = 3 then W 0 11 else if i = 4 then W 0 12 else if i = 5 then W 0 13 else if i = 6 then W 0 14 else 0) = if i = 0 then p.law else if i = 1 then p.n else if i = 2 then p.pl else (if i = 0 then w 3 2 else if i = 1 then w 3 1 else if i = 2 then w 0 7 else if i = 3 then w 0 11 else if i = 4 then w 0 12 else if i = 5 then w 0 13 else if i = 6 then w 0 14 else 0)
    rw [h2, h1, h7, h0 11 (by decide), h0 12 (by decide), h0 13 (by decide), h0 14 (by decide)]
    by_cases e0 : i = 0
    · rw [if_pos e0, if_pos e0]
    · rw [if_neg e0, if_neg e0]
      by_cases e1 : i = 1
      · rw [if_pos e1, if_pos e1]
      · rw [if_neg e1, if_neg e1]
        by_cases e2 : i = 2
        · rw [if_pos e2, if_pos e2]
        · rw [if_neg e2, if_neg e2, if_neg e0, if_neg e1, if_neg e2]
  | 5 => show (if 0 ≤ i ∧ i < W 3 1 then W 4 i else 0) = if 0 ≤ i ∧ i < p.n then p.num i else 0; rw [h1]; split; (· exact h4 i (by omega) (by omega)); (· rfl)
  | 6 => show (if 0 ≤ i ∧ i < W 0 7 then W 14 i else 0) = if 0 ≤ i ∧ i < p.pl then p.kd i else 0; rw [h7]; split; (· exact h14 i (by omega) (by omega)); (· rfl)
  | 7 => show (if 1 ≤ i ∧ i ≤ 5 then W 49 i else 0) = if 1 ≤ i ∧ i ≤ 5 then w 49 i else 0; rw [h 49 (by omega)]
  | 8 =>
    show (if 0 ≤ i ∧ i < 3 then (if W 6 i = 1 then W (70 + 2 * i) 1 else -1) else 0) = if 0 ≤ i ∧ i < 3 then -1 else 0
    split
    · rw [h6 i (by omega) (by omega), if_neg (by decide)]
    · rfl
  | 9 =>
    show (if 0 ≤ i ∧ i < 3 ∧ W 6 i = 1 then W (70 + 2 * i) 2 else 0) = 0
    exact if_neg (fun q => by have := h6 i q.1 q.2.1; omega)
  | 10 =>
    show (if 0 ≤ i ∧ i < 42 ∧ W 6 (i / 14) = 1 ∧ i % 14 < W (70 + 2 * (i / 14)) 1 then W (71 + 2 * (i / 14)) (i % 14) else 0) = 0
    exact if_neg (fun q => by have := h6 (i / 14) (by omega) (by omega); omega)
  | c + 11 => rfl
theorem ev_X_fault {w : Mem} {r : Int} (hO : OK (aX w)) (hj : XJ w) (hr : R3 r) : EvI y_X_fault b_X_fault 3 (some .int) (12) [Vr 0, Vi r] w (PX w (sp_fault (aX w) r)) := by
  refine Ev.mk (isI := false) (by decide +kernel) nofun (Nat.le_of_ble_eq_true rfl) (fun G hG => ?_)
  show G 0 [some (Vr 0), some (Vi r), none] [] 102 (hp w)
  refine gx_aload0 (q := 1) hG d_X_fault_0 rfl ?_
  refine gx_aload0 (q := 2) hG d_X_fault_1 rfl ?_
  refine gx_get (q := 5) hG f_X_15 hpX rfl d_X_fault_2 rfl ?_
  refine gx_iload1 (q := 6) hG d_X_fault_5 rfl ?_
  refine gw_V2I (q := 9) hG l_X_103 c_X_refusedRow (ev_X_refusedRow (RA_t hO) hr) hpX rfl (by decide) (Nat.le_of_ble_eq_true rfl) d_X_fault_6 rfl (by decide) (fun z6 w1 h6 => ?_)
  refine gx_istore2 (q := 10) hG d_X_fault_9 rfl rfl ?_
  refine gx_iload2 (q := 11) hG d_X_fault_10 rfl ?_
  refine gx_if_eq (tgt := 16) (q := 14) hG d_X_fault_11 rfl rfl (by rcases h6 with h | h | h <;> omega) (fun c11 => ?_) (fun c11 => ?_)
  · have q : w1 = w ∧ (0 ≤ r ∧ r < 4) ∧ 0 ≤ w (62 + 2 * r) 1 := by
      rcases h6 with h | h | h
      · exact ⟨h.2.1, h.2.2.1, h.2.2.2⟩
      · omega
      · omega
    obtain ⟨ew, hrr, hsz⟩ := q
    rw [ew]
    refine gx_aload0 (q := 17) hG d_X_fault_16 rfl ?_
    refine gx_get (q := 20) hG f_X_62 hpX rfl d_X_fault_17 rfl ?_
    refine gx_aload0 (q := 21) hG d_X_fault_20 rfl ?_
    refine gx_get (q := 24) hG f_X_15 hpX rfl d_X_fault_21 rfl ?_
    refine gx_iload1 (q := 25) hG d_X_fault_24 rfl ?_
    refine gx_rald (q := 26) hG hpTexts (by decide) (by omega) (by omega) (by first | decide | omega) (by first | decide | omega) d_X_fault_25 rfl ?_
    refine gw_V1I (q := 29) hG l_X_131 c_Rd_faultOf (ev_Rd_faultOf hO hj hrr) hpRd rfl (by omega) (Nat.le_of_ble_eq_true rfl) d_X_fault_26 rfl (by decide) (fun z26 w2 h26 => ?_)
    refine gx_ireturn hG d_X_fault_29 rfl rfl ?_
    refine ⟨_, rfl, _, rfl, ?_⟩
    unfold sp_fault
    rw [if_neg (by omega), if_neg (by rw [aX_at2 hrr]; omega)]
    exact ⟨h26.1, h26.2.1⟩
  · refine gx_iload2 (q := 15) hG d_X_fault_14 rfl ?_
    refine gx_ireturn hG d_X_fault_15 rfl rfl ?_
    refine ⟨_, rfl, _, rfl, ?_⟩
    unfold sp_fault
    rcases h6 with h | ⟨rfl, rfl, h⟩ | ⟨rfl, rfl, h⟩
    · omega
    · rw [if_pos (by omega)]; exact PX_id hj
    · rw [if_neg (by omega), if_pos (by rw [aX_at2 (by omega)]; exact h.2)]; exact PX_fd (by omega) hj
theorem OK.ts {s : Sta} (h : OK s) : ∀ t, 0 ≤ t → t < 4 → -1 ≤ s 2 t ∧ s 2 t ≤ 60 := h.2.2.1
theorem ev_X_game {w : Mem} {r : Int} (hO : OK (aX w)) (hj : XJ w) (hr : R3 r) : EvI y_X_game b_X_game 4 (some .int) (12) [Vr 0, Vi r] w (PX w (sp_game (aX w) r)) := by
  refine Ev.mk (isI := false) (by decide +kernel) nofun (Nat.le_of_ble_eq_true rfl) (fun G hG => ?_)
  show G 0 [some (Vr 0), some (Vi r), none, none] [] 102 (hp w)
  have L : ∀ (j k : Nat) (W0 W : Mem) (z6 : Int), k + j = 3 → (∀ b, b ≠ 6 → W b = W0 b) → (∀ i : Int, 0 ≤ i → i < k → W 6 i = 0) → (∀ W : Mem, (∀ b, b ≠ 6 → W b = W0 b) → (∀ i : Int, 0 ≤ i → i < 3 → W 6 i = 0) → PX w (sp_game (aX w) r) (W0 3 1) W) → G 81 [some (Vr 0), some (Vi r), some (Vi z6), some (Vi (k : Int))] [] 102 (hp W) := by
    intro j
    induction j with
    | zero =>
      intro k W0 W z6 h1 h2 h3 h4
      refine gx_iload3 (q := 82) hG d_X_game_81 rfl ?_
      refine gx_iconst (q := 83) hG d_X_game_82 rfl ?_
      refine gx_icmp_ge (tgt := 99) (q := 86) hG d_X_game_83 rfl rfl (by omega) (by omega) (fun c83 => ?_) (fun c83 => ?_)
      · refine gx_aload0 (q := 100) hG d_X_game_99 rfl ?_
        refine gx_get (q := 103) hG f_X_21 hpX rfl d_X_game_100 rfl ?_
        refine gx_get (q := 106) hG f_X_147 (hpGame (by unfold isG; omega)) rfl d_X_game_103 rfl ?_
        rw [h2 3 (by decide)]
        refine gx_ireturn hG d_X_game_106 rfl rfl ?_
        exact ⟨_, rfl, _, rfl, h4 W h2 (fun i i0 i1 => h3 i i0 (by omega))⟩
      · exfalso; omega
    | succ j ih =>
      intro k W0 W z6 h1 h2 h3 h4
      refine gx_iload3 (q := 82) hG d_X_game_81 rfl ?_
      refine gx_iconst (q := 83) hG d_X_game_82 rfl ?_
      refine gx_icmp_ge (tgt := 99) (q := 86) hG d_X_game_83 rfl rfl (by omega) (by omega) (fun c83 => ?_) (fun c83 => ?_)
      · exfalso; omega
      · refine gx_aload0 (q := 87) hG d_X_game_86 rfl ?_
        refine gx_get (q := 90) hG f_X_29 hpX rfl d_X_game_87 rfl ?_
        refine gx_iload3 (q := 91) hG d_X_game_90 rfl ?_
        refine gx_iconst (q := 92) hG d_X_game_91 rfl ?_
        refine gw_zast (q := 93) hG rfl (by omega) (by omega) (by first | decide | omega) d_X_game_92 rfl ?_
        refine gx_iinc3 (q := 96) hG d_X_game_93 rfl rfl ?_
        refine gx_goto (tgt := 81) hG d_X_game_96 rfl ?_
        refine ih (k + 1) W0 _ z6 (by omega) (fun b hb => by rw [wu_ne hb, h2 b hb]) (fun i i0 i1 => ?_) h4
        rw [wu_at]
        unfold up
        split
        · rfl
        · exact h3 i i0 (by omega)
  refine gx_aload0 (q := 1) hG d_X_game_0 rfl ?_
  refine gx_aload0 (q := 2) hG d_X_game_1 rfl ?_
  refine gx_get (q := 5) hG f_X_15 hpX rfl d_X_game_2 rfl ?_
  refine gx_iload1 (q := 6) hG d_X_game_5 rfl ?_
  refine gw_V2I (q := 9) hG l_X_103 c_X_refusedRow (ev_X_refusedRow (RA_t hO) hr) hpX rfl (by decide) (Nat.le_of_ble_eq_true rfl) d_X_game_6 rfl (by decide) (fun z6 w1 h6 => ?_)
  refine gx_istore2 (q := 10) hG d_X_game_9 rfl rfl ?_
  refine gx_iload2 (q := 11) hG d_X_game_10 rfl ?_
  refine gx_if_eq (tgt := 16) (q := 14) hG d_X_game_11 rfl rfl (by rcases h6 with h | h | h <;> omega) (fun c11 => ?_) (fun c11 => ?_)
  · have q : w1 = w ∧ (0 ≤ r ∧ r < 4) ∧ 0 ≤ w (62 + 2 * r) 1 := by
      rcases h6 with h | h | h
      · exact ⟨h.2.1, h.2.2.1, h.2.2.2⟩
      · omega
      · omega
    obtain ⟨ew, hrr, hsz⟩ := q
    rw [ew]
    have hpp := pRun_pos (s := aX w) (t := r) 60 1 p0 PB_0 (hO.ts r hrr.1 hrr.2).2
    refine gx_aload0 (q := 17) hG d_X_game_16 rfl ?_
    refine gx_get (q := 20) hG f_X_62 hpX rfl d_X_game_17 rfl ?_
    refine gx_aload0 (q := 21) hG d_X_game_20 rfl ?_
    refine gx_get (q := 24) hG f_X_15 hpX rfl d_X_game_21 rfl ?_
    refine gx_iload1 (q := 25) hG d_X_game_24 rfl ?_
    refine gx_rald (q := 26) hG hpTexts (by decide) (by omega) (by omega) (by first | decide | omega) (by first | decide | omega) d_X_game_25 rfl ?_
    refine gw_V1I (q := 29) hG l_X_131 c_Rd_faultOf (ev_Rd_faultOf hO hj hrr) hpRd rfl (by omega) (Nat.le_of_ble_eq_true rfl) d_X_game_26 rfl (by decide) (fun z26 w2 h26 => ?_)
    obtain ⟨rfl, s2, hR⟩ := h26
    refine gx_bipush (q := 31) hG d_X_game_29 rfl rfl ?_
    refine gx_icmp_eq (tgt := 37) (q := 34) hG d_X_game_31 rfl rfl (by omega) (by omega) (fun c31 => ?_) (fun c31 => ?_)
    · obtain ⟨hx, hpb⟩ := hR c31
      refine gx_aload0 (q := 38) hG d_X_game_37 rfl ?_
      refine gx_get (q := 41) hG f_X_21 hpX rfl d_X_game_38 rfl ?_
      refine gx_aload0 (q := 42) hG d_X_game_41 rfl ?_
      refine gx_get (q := 45) hG f_X_62 hpX rfl d_X_game_42 rfl ?_
      refine gx_get (q := 48) hG f_X_135 hpRd rfl d_X_game_45 rfl ?_
      refine gw_V1V (q := 51) hG l_X_138 c_Gm_become (ev_Gm_become hx.2.2.1 (by unfold isG; omega) (by omega)) (hpGame (by unfold isG; omega)) rfl (by omega) (Nat.le_of_ble_eq_true rfl) d_X_game_48 rfl (by decide) (fun w3 h48 => ?_)
      refine gx_aload0 (q := 52) hG d_X_game_51 rfl ?_
      refine gx_aload0 (q := 53) hG d_X_game_52 rfl ?_
      refine gx_get (q := 56) hG f_X_62 hpX rfl d_X_game_53 rfl ?_
      refine gx_get (q := 59) hG f_X_142 hpRd rfl d_X_game_56 rfl ?_
      refine gw_puti (q := 62) hG f_X_145 hpX (Nat.le_of_ble_eq_true rfl) vfit_i (Or.inl rfl) d_X_game_59 rfl 7 rfl rfl ?_
      refine gx_aload0 (q := 63) hG d_X_game_62 rfl ?_
      refine gx_get (q := 66) hG f_X_62 hpX rfl d_X_game_63 rfl ?_
      refine gx_get (q := 69) hG f_X_146 hpRd rfl d_X_game_66 rfl ?_
      refine gx_iconst (q := 70) hG d_X_game_69 rfl ?_
      refine gx_aload0 (q := 71) hG d_X_game_70 rfl ?_
      refine gx_get (q := 74) hG f_X_55 hpX rfl d_X_game_71 rfl ?_
      refine gx_iconst (q := 75) hG d_X_game_74 rfl ?_
      refine gx_iconst (q := 76) hG d_X_game_75 rfl ?_
      refine gw_acopy (q := 79) hG l_X_125 (N := 2) (M := 2) rfl rfl (by omega) (by omega) (by omega) (by omega) (by omega) (by decide) (Nat.le_of_ble_eq_true rfl) d_X_game_76 rfl ?_
      refine gx_iconst (q := 80) hG d_X_game_79 rfl ?_
      refine gx_istore3 (q := 81) hG d_X_game_80 rfl rfl ?_
      refine L 3 0 _ _ z6 (by omega) (fun _ _ => rfl) (fun i i0 i1 => by omega) (fun W q1 q2 => ?_)
      obtain ⟨b1, b2, b3, b4, b5⟩ := h48
      have b5' : ∀ b, b ≠ 3 → b ≠ 4 → w3 b = w2 b := b5
      have e15 : w3 15 2 = w2 15 2 := by rw [b5' 15 (by decide) (by decide)]
      have f : ∀ b, b ≠ 0 → b ≠ 3 → b ≠ 4 → b ≠ 6 → b ≠ 14 → W b = w2 b := fun b n0 n3 n4 n6 n14 => by rw [q1 b n6, wc_ne n14, wu_ne n0, b5' b n3 n4]
      have f3 : W 3 = w3 3 := by rw [q1 3 (by decide), wc_ne (by decide), wu_ne (by decide)]
      have f4 : W 4 = w3 4 := by rw [q1 4 (by decide), wc_ne (by decide), wu_ne (by decide)]
      have E : aX W = gmS (aX w) (pRun (aX w) r 60 1 p0).2 := by
        rw [← s2.1]
        refine aX_gm (w := w2) (fun b hb => f b (by omega) (by omega) (by omega) (by omega) (by omega)) (fun j hj => ?_) ?_ ?_ ?_ (fun i i0 i1 => ?_) (fun i i0 i1 => ?_) q2
        · rw [q1 0 (by decide), wc_ne (by decide), wu_pl hj, b5' 0 (by decide) (by decide)]
        · rw [q1 0 (by decide), wc_ne (by decide), wu_eq, e15, s2.1]; exact hx.2.1
        · rw [f3, b2, s2.1]; exact hx.2.2.2.1
        · rw [f3, b3, s2.1]; exact hx.2.2.2.2.1
        · rw [f4, s2.1]
          rw [s2.1] at i1
          have hn := hpb.2.2.1
          exact (b4 i i0 (by omega)).trans (hx.2.2.2.2.2.1 i i0 i1)
        · rw [s2.1] at i1 ⊢
          have hn := hpb.2.2.2.1
          rw [q1 14 (by decide), wc_eq]
          unfold cpy
          rw [if_pos (by omega), wu_ne (by decide), b5' 18 (by decide) (by decide), show 0 + (i - 0) = i by omega]
          exact hx.2.2.2.2.2.2 i i0 i1
      unfold sp_game
      rw [if_neg (by omega), if_neg (by rw [aX_at2 hrr]; omega), if_neg (fun q => q c31)]
      refine ⟨?_, E, ?_, fun b hb => by rw [f b (by omega) (by omega) (by omega) (by omega) (by omega), s2.2.2 b hb]⟩
      · rw [wc_ne (by decide), wu_ne (by decide), b2]; exact hx.2.2.2.1
      · refine ⟨fun k k0 k1 => Or.inl (q2 k k0 k1), ?_, fun k k0 k1 q => by have := q2 k k0 k1; omega, ?_⟩
        · unfold GI0
          rw [f3, show (3 : Int) + 1 = 4 from rfl, f4]
          exact b1.2.2.2.2
        · rw [f 46 (by decide) (by decide) (by decide) (by decide) (by decide), f 47 (by decide) (by decide) (by decide) (by decide) (by decide), f 48 (by decide) (by decide) (by decide) (by decide) (by decide)]
          exact s2.2.1.2.2.2
    · refine gx_bipush (q := 36) hG d_X_game_34 rfl rfl ?_
      refine gx_ireturn hG d_X_game_36 rfl rfl ?_
      refine ⟨_, rfl, _, rfl, ?_⟩
      unfold sp_game
      rw [if_neg (by omega), if_neg (by rw [aX_at2 hrr]; omega), if_pos c31]
      exact ⟨rfl, s2⟩
  · refine gx_iload2 (q := 15) hG d_X_game_14 rfl ?_
    refine gx_ireturn hG d_X_game_15 rfl rfl ?_
    refine ⟨_, rfl, _, rfl, ?_⟩
    unfold sp_game
    rcases h6 with h | ⟨rfl, rfl, h⟩ | ⟨rfl, rfl, h⟩
    · omega
    · rw [if_pos (by omega)]; exact PX_id hj
    · rw [if_neg (by omega), if_pos (by rw [aX_at2 (by omega)]; exact h.2)]; exact PX_fd (by omega) hj

