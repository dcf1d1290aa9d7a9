/-! part 82: the class reads a text -/
abbrev Ps : Type := Int × Int × Int × Int × (Int → Int) × (Int → Int)
abbrev Ps.pos (p : Ps) : Int := p.1
abbrev Ps.law (p : Ps) : Int := p.2.1
abbrev Ps.n (p : Ps) : Int := p.2.2.1
abbrev Ps.pl (p : Ps) : Int := p.2.2.2.1
abbrev Ps.num (p : Ps) : Int → Int := p.2.2.2.2.1
abbrev Ps.kd (p : Ps) : Int → Int := p.2.2.2.2.2
def byS (s : Sta) (t i : Int) : Int := if i < s 2 t then s 3 (60 * t + i) else 0
def fgS (s : Sta) (t i : Int) : Int := if 48 ≤ byS s t i ∧ byS s t i ≤ 57 then byS s t i - 48 else -1
def pLaw (s : Sta) (t : Int) (p : Ps) : Int × Ps := if 0 ≤ fgS s t (p.pos + 1) ∧ fgS s t (p.pos + 1) ≤ 2 then (1, (p.pos + 2, fgS s t (p.pos + 1), p.n, p.pl, p.num, p.kd)) else (0, (p.pos + 1, p.law, p.n, p.pl, p.num, p.kd))
def kdC (c : Int) : Int := if c = 112 then 0 else if c = 115 then 1 else if c = 97 then 2 else if c = 98 then 3 else if c = 103 then 4 else if c = 99 then 5 else -9
def pPl (p : Ps) (k : Int) : Int × Ps := if p.pl < 2 then (1, (p.pos + 1, p.law, p.n, p.pl + 1, p.num, up p.kd p.pl k)) else (0, p)
def vN (s : Sta) (t x : Int) : Int := if fgS s t (x + 2) < 0 then fgS s t (x + 1) else 10 * fgS s t (x + 1) + fgS s t (x + 2)
def xN (s : Sta) (t x : Int) : Int := if fgS s t (x + 2) < 0 then x + 2 else x + 3
noncomputable def pNum (s : Sta) (t : Int) (p : Ps) : Int × Ps := if 12 ≤ p.n then (0, p) else if fgS s t (p.pos + 1) < 0 then (0, (p.pos + 1, p.law, p.n, p.pl, p.num, p.kd)) else if 2 ≤ vN s t p.pos ∧ vN s t p.pos ≤ 60 ∧ bi (rch p.law p.num p.n.toNat (vN s t p.pos)) = 0 then (1, (xN s t p.pos, p.law, p.n + 1, p.pl, up p.num p.n (vN s t p.pos), p.kd)) else (0, (xN s t p.pos, p.law, p.n, p.pl, p.num, p.kd))
noncomputable def pItem (s : Sta) (t f : Int) (p : Ps) : Int × Ps := if byS s t p.pos = 108 then (if f = 1 then pLaw s t p else (0, p)) else if byS s t p.pos = 110 then pNum s t p else if kdC (byS s t p.pos) = -9 then (0, p) else pPl p (kdC (byS s t p.pos))
noncomputable def pRun (s : Sta) (t : Int) : Nat → Int → Ps → Int × Ps
  | 0, _, p => (-9, p)
  | j + 1, f, p => if s 2 t ≤ p.pos then (-9, p) else if byS s t p.pos = 32 then pRun s t j f (p.pos + 1, p.law, p.n, p.pl, p.num, p.kd) else if (pItem s t f p).1 = 1 then pRun s t j 0 (pItem s t f p).2 else ((pItem s t f p).2.pos, (pItem s t f p).2)
def p0 : Ps := (0, 0, 0, 0, fun _ => 0, fun _ => 0)
def PB (p : Ps) : Prop := (0 ≤ p.pos ∧ p.pos ≤ 62) ∧ (p.law = 0 ∨ p.law = 1 ∨ p.law = 2) ∧ (0 ≤ p.n ∧ p.n ≤ 12) ∧ (0 ≤ p.pl ∧ p.pl ≤ 2) ∧ (∀ i, 0 ≤ i → i < p.n → 1 ≤ p.num i ∧ p.num i ≤ 60) ∧ ∀ i, 0 ≤ i → i < p.pl → 0 ≤ p.kd i ∧ p.kd i ≤ 5
theorem fgS_bd {s : Sta} {t i : Int} : -1 ≤ fgS s t i ∧ fgS s t i ≤ 9 := by
  unfold fgS
  split <;> omega
theorem PB_law {s : Sta} {t : Int} {p : Ps} (h : PB p) (hp0 : p.pos ≤ 59) : PB (pLaw s t p).2 := by
  obtain ⟨a1, a2, a3, a4, a5, a6⟩ := h
  unfold pLaw
  split
  · exact ⟨⟨by show 0 ≤ p.pos + 2; omega, by show p.pos + 2 ≤ 62; omega⟩, by show fgS s t (p.pos + 1) = 0 ∨ fgS s t (p.pos + 1) = 1 ∨ fgS s t (p.pos + 1) = 2; omega, a3, a4, a5, a6⟩
  · exact ⟨⟨by show 0 ≤ p.pos + 1; omega, by show p.pos + 1 ≤ 62; omega⟩, a2, a3, a4, a5, a6⟩
theorem PB_pl {p : Ps} {k : Int} (h : PB p) (hp0 : p.pos ≤ 59) (hk : 0 ≤ k ∧ k ≤ 5) : PB (pPl p k).2 := by
  obtain ⟨a1, a2, a3, a4, a5, a6⟩ := h
  unfold pPl
  split
  · refine ⟨⟨by show 0 ≤ p.pos + 1; omega, by show p.pos + 1 ≤ 62; omega⟩, a2, a3, ⟨by show 0 ≤ p.pl + 1; omega, by show p.pl + 1 ≤ 2; omega⟩, a5, fun i i0 i1 => ?_⟩
    have i1' : i < p.pl + 1 := i1
    show 0 ≤ up p.kd p.pl k i ∧ up p.kd p.pl k i ≤ 5
    unfold up
    split
    · exact hk
    · exact a6 i i0 (by omega)
  · exact ⟨a1, a2, a3, a4, a5, a6⟩
theorem PB_num {s : Sta} {t : Int} {p : Ps} (h : PB p) (hp0 : p.pos ≤ 59) : PB (pNum s t p).2 := by
  obtain ⟨a1, a2, a3, a4, a5, a6⟩ := h
  have hx : 0 ≤ xN s t p.pos ∧ xN s t p.pos ≤ 62 := by unfold xN; split <;> omega
  unfold pNum
  split
  · exact ⟨a1, a2, a3, a4, a5, a6⟩
  · split
    · exact ⟨⟨by show 0 ≤ p.pos + 1; omega, by show p.pos + 1 ≤ 62; omega⟩, a2, a3, a4, a5, a6⟩
    · split
      · rename_i c1 c2 c3
        refine ⟨hx, a2, ⟨by show 0 ≤ p.n + 1; omega, by show p.n + 1 ≤ 12; omega⟩, a4, fun i i0 i1 => ?_, a6⟩
        have i1' : i < p.n + 1 := i1
        show 1 ≤ up p.num p.n (vN s t p.pos) i ∧ up p.num p.n (vN s t p.pos) i ≤ 60
        unfold up
        split
        · omega
        · exact a5 i i0 (by omega)
      · exact ⟨hx, a2, a3, a4, a5, a6⟩
theorem kdC_bd {c : Int} : kdC c = -9 ∨ (0 ≤ kdC c ∧ kdC c ≤ 5) := by
  unfold kdC
  repeat' split
  all_goals omega
theorem PB_item {s : Sta} {t f : Int} {p : Ps} (h : PB p) (hp0 : p.pos ≤ 59) : PB (pItem s t f p).2 := by
  unfold pItem
  split
  · split
    · exact PB_law h hp0
    · exact h
  · split
    · exact PB_num h hp0
    · split
      · exact h
      · exact PB_pl h hp0 (kdC_bd.resolve_left (by assumption))
theorem PB_0 : PB p0 := ⟨⟨by decide, by decide⟩, Or.inl rfl, ⟨by decide, by decide⟩, ⟨by decide, by decide⟩, fun i i0 i1 => by have : i < 0 := i1; omega, fun i i0 i1 => by have : i < 0 := i1; omega⟩
/-- what the class's reader holds -/
def RX (w : Mem) (p : Ps) : Prop := w 15 3 = p.pos ∧ w 15 2 = p.pl ∧ GI w 16 ∧ w 16 1 = p.n ∧ w 16 2 = p.law ∧ (∀ i, 0 ≤ i → i < p.n → w 17 i = p.num i) ∧ ∀ i, 0 ≤ i → i < p.pl → w 18 i = p.kd i
def RF (w w' : Mem) : Prop := ∀ b, b < 15 ∨ 18 < b → w' b = w b
theorem RF_id {w : Mem} : RF w w := fun _ _ => rfl
theorem RF.tr {w w' w2 : Mem} (h : RF w w') (h2 : RF w' w2) : RF w w2 := fun b hb => (h2 b hb).trans (h b hb)
theorem RF.sx {w w' : Mem} (h : RF w w') (hj : XJ w) : SX w w' := SX_scr hj (fun b hb => h b (by omega))
theorem GI16 {w w' : Mem} (h : GI w 16) (e1 : w' 16 = w 16) (e2 : w' 17 = w 17) : GI w' 16 := by
  unfold GI at h ⊢
  rw [e1, show (16 : Int) + 1 = 17 from rfl, e2]
  exact h
theorem hd16 {w : Mem} {p : Ps} (h : RX w p) (v : Int) : hd w 16 v ↔ rch p.law p.num p.n.toNat v := by
  obtain ⟨a1, a2, a3, a4, a5, a6, a7⟩ := h
  unfold hd
  rw [a5]
  exact rch_ext (by rw [a4]) (fun i i0 i1 => a6 i i0 (by have := a3.2.1; omega))
def IT (w : Mem) (q : Int × Ps) : Int → Mem → Prop := fun z w' => z = q.1 ∧ RF w w' ∧ w' 15 3 = q.2.pos ∧ (q.1 = 1 → RX w' q.2)
def FH (s : Sta) (t i z : Int) : Prop := (0 ≤ fgS s t i → z = fgS s t i) ∧ (fgS s t i < 0 → z < 0) ∧ -200 ≤ z ∧ z ≤ 9
theorem byX {w : Mem} {t i : Int} (ht : 0 ≤ t ∧ t < 4) (hi : 0 ≤ i) (hs : w (62 + 2 * t) 1 ≤ 60) : byS (aX w) t i = if i < w (62 + 2 * t) 1 then w (62 + 2 * t + 1) i else 0 := by
  unfold byS
  rw [aX_at2 ht]
  split
  · rw [aX_at3 ht ⟨hi, by omega⟩, show 62 + 2 * t + 1 = 63 + 2 * t by omega]
  · rfl
theorem ev_Rd_figureHere {w : Mem} {t : Int} (hO : OK (aX w)) (ht : 0 ≤ t ∧ t < 4) (hp0 : 0 ≤ w 15 3 ∧ w 15 3 ≤ 70) : EvY y_Rd_figureHere b_Rd_figureHere 3 (some .int) (2) [Vr 15, Vr (62 + 2 * t)] w (FH (aX w) t (w 15 3)) := by
  refine Ev.mk (isI := false) (by decide +kernel) nofun (Nat.le_of_ble_eq_true rfl) (fun G hG => ?_)
  show G 0 [some (Vr 15), some (Vr (62 + 2 * t)), none] [] 102 (hp w)
  have hs := hO.t0 ht
  have eb := byX (w := w) ht hp0.1 hs.2
  refine gx_aload0 (q := 1) hG d_Rd_figureHere_0 rfl ?_
  refine gx_get (q := 4) hG f_Rd_30 hpRd rfl d_Rd_figureHere_1 rfl ?_
  refine gx_aload1 (q := 5) hG d_Rd_figureHere_4 rfl ?_
  refine gx_get (q := 8) hG f_Rd_33 (hpRow (by omega)) rfl d_Rd_figureHere_5 rfl ?_
  refine gw_N2X (q := 11) hG n_Rd_60 s_X_isIn c_X_isIn (ev_X_isIn (by first | assumption | omega) (by first | assumption | omega)) (by decide) (Nat.le_of_ble_eq_true rfl) d_Rd_figureHere_8 rfl (by decide) ?_
  refine gx_if_ne (tgt := 16) (q := 14) hG d_Rd_figureHere_11 rfl rfl (bi_R _) (fun c11 => ?_) (fun c11 => ?_)
  · have c11 := bi_ne0.mp c11
    have hb := hO.t1 ht (i := w 15 3) (by omega)
    rw [show 63 + 2 * t = 62 + 2 * t + 1 by omega] at hb
    rw [if_pos c11.2] at eb
    refine gx_aload1 (q := 17) hG d_Rd_figureHere_16 rfl ?_
    refine gx_get (q := 20) hG f_Rd_38 (hpRow (by omega)) rfl d_Rd_figureHere_17 rfl ?_
    refine gx_aload0 (q := 21) hG d_Rd_figureHere_20 rfl ?_
    refine gx_get (q := 24) hG f_Rd_30 hpRd rfl d_Rd_figureHere_21 rfl ?_
    refine gw_iald (q := 25) hG (shp_rowA (by omega)) (by omega) (by omega) d_Rd_figureHere_24 rfl ?_
    refine gx_bipush (q := 27) hG d_Rd_figureHere_25 rfl rfl ?_
    refine gx_isub (q := 28) hG d_Rd_figureHere_27 rfl ?_
    refine gx_istore2 (q := 29) hG d_Rd_figureHere_28 rfl rfl ?_
    refine gx_iload2 (q := 30) hG d_Rd_figureHere_29 rfl ?_
    refine gx_bipush (q := 32) hG d_Rd_figureHere_30 rfl rfl ?_
    refine gx_icmp_gt (tgt := 39) (q := 35) hG d_Rd_figureHere_32 rfl rfl (by omega) (by omega) (fun c32 => ?_) (fun c32 => ?_)
    · refine gx_iconst (q := 40) hG d_Rd_figureHere_39 rfl ?_
      refine gx_ireturn hG d_Rd_figureHere_40 rfl rfl ?_
      refine ⟨_, rfl, _, rfl, rfl, ?_⟩
      unfold FH fgS
      rw [eb]
      refine ⟨fun q => ?_, fun q => ?_, by omega, by omega⟩
      · split at q <;> omega
      · split at q <;> omega
    · refine gx_iload2 (q := 36) hG d_Rd_figureHere_35 rfl ?_
      refine gx_goto (tgt := 40) hG d_Rd_figureHere_36 rfl ?_
      refine gx_ireturn hG d_Rd_figureHere_40 rfl rfl ?_
      refine ⟨_, rfl, _, rfl, rfl, ?_⟩
      unfold FH fgS
      rw [eb]
      refine ⟨fun q => ?_, fun q => ?_, by omega, by omega⟩
      · split at q <;> omega
      · split at q <;> omega
  · have c11 := bi_eq0.mp c11
    refine gx_iconst (q := 15) hG d_Rd_figureHere_14 rfl ?_
    refine gx_ireturn hG d_Rd_figureHere_15 rfl rfl ?_
    refine ⟨_, rfl, _, rfl, rfl, ?_⟩
    rw [if_neg (by omega)] at eb
    unfold FH fgS
    rw [eb]
    refine ⟨fun q => ?_, fun q => ?_, by omega, by omega⟩
    · split at q <;> omega
    · omega
theorem ev_Rd_takesLaw {w : Mem} {t : Int} {p : Ps} (hO : OK (aX w)) (hj : XJ w) (ht : 0 ≤ t ∧ t < 4) (hr : RX w p) (hb : PB p) (hp0 : p.pos ≤ 59) (hn0 : p.n = 0) : EvI y_Rd_takesLaw b_Rd_takesLaw 3 (some .boolean) (4) [Vr 15, Vr (62 + 2 * t)] w (IT w (pLaw (aX w) t p)) := by
  refine Ev.mk (isI := false) (by decide +kernel) nofun (Nat.le_of_ble_eq_true rfl) (fun G hG => ?_)
  show G 0 [some (Vr 15), some (Vr (62 + 2 * t)), none] [] 102 (hp w)
  have hfb := fgS_bd (s := aX w) (t := t) (i := p.pos + 1)
  have hb1 := hb.1
  have sx : SX w (wu w 15 3 (p.pos + 1)) := SX_scr hj (fun b hb => wu_ne (by omega))
  refine gx_aload0 (q := 1) hG d_Rd_takesLaw_0 rfl ?_
  refine gx_dupa (q := 2) hG d_Rd_takesLaw_1 rfl ?_
  refine gx_get (q := 5) hG f_Rd_30 hpRd rfl d_Rd_takesLaw_2 rfl ?_
  rw [hr.1]
  refine gx_iconst (q := 6) hG d_Rd_takesLaw_5 rfl ?_
  refine gx_iadd (q := 7) hG d_Rd_takesLaw_6 rfl ?_
  refine gw_puti (q := 10) hG f_Rd_30 hpRd (Nat.le_of_ble_eq_true rfl) vfit_i (Or.inl rfl) d_Rd_takesLaw_7 rfl 3 rfl rfl ?_
  refine gx_aload0 (q := 11) hG d_Rd_takesLaw_10 rfl ?_
  refine gx_aload1 (q := 12) hG d_Rd_takesLaw_11 rfl ?_
  refine gw_V1Y (q := 15) hG l_Rd_56 c_Rd_figureHere (ev_Rd_figureHere (by rw [sx.1]; exact hO) ht (by rw [wu_eq]; omega)) hpRd rfl (by decide) (Nat.le_of_ble_eq_true rfl) d_Rd_takesLaw_12 rfl (by decide) (fun z12 h12 => ?_)
  rw [sx.1, wu_eq] at h12
  obtain ⟨g1, g2, g3, g4⟩ := h12
  refine gx_istore2 (q := 16) hG d_Rd_takesLaw_15 rfl rfl ?_
  refine gx_iload2 (q := 17) hG d_Rd_takesLaw_16 rfl ?_
  refine gx_if_lt (tgt := 25) (q := 20) hG d_Rd_takesLaw_17 rfl rfl (by omega) (fun c17 => ?_) (fun c17 => ?_)
  · refine gx_iconst (q := 26) hG d_Rd_takesLaw_25 rfl ?_
    refine gx_zreturn hG d_Rd_takesLaw_26 rfl rfl (by first | exact bi_01 _ | decide | omega) ?_
    refine ⟨_, rfl, _, rfl, ?_⟩
    unfold pLaw
    rw [if_neg (by omega)]
    exact ⟨rfl, fun b hb => wu_ne (by omega), wu_eq, fun q => absurd (show (0 : Int) = 1 from q) (by decide)⟩
  · refine gx_iload2 (q := 21) hG d_Rd_takesLaw_20 rfl ?_
    refine gx_iconst (q := 22) hG d_Rd_takesLaw_21 rfl ?_
    refine gx_icmp_le (tgt := 27) (q := 25) hG d_Rd_takesLaw_22 rfl rfl (by omega) (by omega) (fun c22 => ?_) (fun c22 => ?_)
    · refine gx_aload0 (q := 28) hG d_Rd_takesLaw_27 rfl ?_
      refine gx_get (q := 31) hG f_Rd_12 hpRd rfl d_Rd_takesLaw_28 rfl ?_
      refine gx_iload2 (q := 32) hG d_Rd_takesLaw_31 rfl ?_
      refine gw_V1V (q := 35) hG l_Rd_22 c_Gm_begin (ev_Gm_begin (by unfold isG; omega)) (hpGame (by unfold isG; omega)) rfl (by decide) (Nat.le_of_ble_eq_true rfl) d_Rd_takesLaw_32 rfl (by decide) (fun w2 h32 => ?_)
      subst h32
      refine gx_aload0 (q := 36) hG d_Rd_takesLaw_35 rfl ?_
      refine gx_dupa (q := 37) hG d_Rd_takesLaw_36 rfl ?_
      refine gx_get (q := 40) hG f_Rd_30 hpRd rfl d_Rd_takesLaw_37 rfl ?_
      rw [wu_ne (by omega), wu_ne (by omega), wu_ne (by omega), wu_eq]
      refine gx_iconst (q := 41) hG d_Rd_takesLaw_40 rfl ?_
      refine gx_iadd (q := 42) hG d_Rd_takesLaw_41 rfl ?_
      refine gw_puti (q := 45) hG f_Rd_30 hpRd (Nat.le_of_ble_eq_true rfl) vfit_i (Or.inl rfl) d_Rd_takesLaw_42 rfl 3 rfl rfl ?_
      refine gx_iconst (q := 46) hG d_Rd_takesLaw_45 rfl ?_
      refine gx_zreturn hG d_Rd_takesLaw_46 rfl rfl (by first | exact bi_01 _ | decide | omega) ?_
      refine ⟨_, rfl, _, rfl, ?_⟩
      have e := g1 (by omega)
      unfold pLaw
      rw [if_pos (by omega)]
      refine ⟨rfl, fun b hb => by rw [wu_ne (by omega), wu_ne (by omega), wu_ne (by omega), wu_ne (by omega), wu_ne (by omega)], by rw [wu_eq]; show _ = p.pos + 2; omega, fun _ => ⟨by rw [wu_eq]; show _ = p.pos + 2; omega, ?_, ?_, ?_, ?_, ?_, ?_⟩⟩
      · rw [wu_pl (by omega), wu_ne (by omega), wu_ne (by omega), wu_ne (by omega), wu_pl (by omega)]; exact hr.2.1
      · exact GI16 (wo_GI_begin (w := wu w 15 3 (p.pos + 1)) (a := 16) (r := z12) (by unfold isG; omega) (by omega)) (by rw [wu_ne (by omega)]) (by rw [wu_ne (by omega)])
      · rw [wu_ne (by omega), wu_pl (by omega), wu_eq]; exact hn0.symm
      · rw [wu_ne (by omega), wu_pl (by omega), wu_pl (by omega), wu_eq]; exact e
      · exact fun i i0 i1 => by have : i < p.n := i1; omega
      · exact fun i i0 i1 => by rw [wu_ne (by omega), wu_ne (by omega), wu_ne (by omega), wu_ne (by omega), wu_ne (by omega)]; exact hr.2.2.2.2.2.2 i i0 i1
    · refine gx_iconst (q := 26) hG d_Rd_takesLaw_25 rfl ?_
      refine gx_zreturn hG d_Rd_takesLaw_26 rfl rfl (by first | exact bi_01 _ | decide | omega) ?_
      refine ⟨_, rfl, _, rfl, ?_⟩
      unfold pLaw
      rw [if_neg (by omega)]
      exact ⟨rfl, fun b hb => wu_ne (by omega), wu_eq, fun q => absurd (show (0 : Int) = 1 from q) (by decide)⟩
theorem ev_Rd_takesPlayer {w : Mem} {k : Int} {p : Ps} (hr : RX w p) (hb : PB p) : EvI y_Rd_takesPlayer b_Rd_takesPlayer 2 (some .boolean) (2) [Vr 15, Vi k] w (IT w (pPl p k)) := by
  refine Ev.mk (isI := false) (by decide +kernel) nofun (Nat.le_of_ble_eq_true rfl) (fun G hG => ?_)
  show G 0 [some (Vr 15), some (Vi k)] [] 102 (hp w)
  have h2 := hr.2.1
  have hpl := hb.2.2.2.1
  have hb1 := hb.1
  refine gx_aload0 (q := 1) hG d_Rd_takesPlayer_0 rfl ?_
  refine gx_get (q := 4) hG f_Rd_26 hpRd rfl d_Rd_takesPlayer_1 rfl ?_
  rw [h2]
  refine gx_iconst (q := 5) hG d_Rd_takesPlayer_4 rfl ?_
  refine gw_N2X (q := 8) hG n_Rd_60 s_X_isIn c_X_isIn (ev_X_isIn (by first | assumption | omega) (by first | assumption | omega)) (by decide) (Nat.le_of_ble_eq_true rfl) d_Rd_takesPlayer_5 rfl (by decide) ?_
  refine gx_if_ne (tgt := 13) (q := 11) hG d_Rd_takesPlayer_8 rfl rfl (bi_R _) (fun c8 => ?_) (fun c8 => ?_)
  · have c8 := bi_ne0.mp c8
    refine gx_aload0 (q := 14) hG d_Rd_takesPlayer_13 rfl ?_
    refine gx_get (q := 17) hG f_Rd_18 hpRd rfl d_Rd_takesPlayer_14 rfl ?_
    refine gx_aload0 (q := 18) hG d_Rd_takesPlayer_17 rfl ?_
    refine gx_get (q := 21) hG f_Rd_26 hpRd rfl d_Rd_takesPlayer_18 rfl ?_
    rw [h2]
    refine gx_iload1 (q := 22) hG d_Rd_takesPlayer_21 rfl ?_
    refine gw_iast (q := 23) hG rfl (by omega) (by omega) d_Rd_takesPlayer_22 rfl ?_
    refine gx_aload0 (q := 24) hG d_Rd_takesPlayer_23 rfl ?_
    refine gx_dupa (q := 25) hG d_Rd_takesPlayer_24 rfl ?_
    refine gx_get (q := 28) hG f_Rd_26 hpRd rfl d_Rd_takesPlayer_25 rfl ?_
    rw [wu_ne (by omega), h2]
    refine gx_iconst (q := 29) hG d_Rd_takesPlayer_28 rfl ?_
    refine gx_iadd (q := 30) hG d_Rd_takesPlayer_29 rfl ?_
    refine gw_puti (q := 33) hG f_Rd_26 hpRd (Nat.le_of_ble_eq_true rfl) vfit_i (Or.inl rfl) d_Rd_takesPlayer_30 rfl 2 rfl rfl ?_
    refine gx_aload0 (q := 34) hG d_Rd_takesPlayer_33 rfl ?_
    refine gx_dupa (q := 35) hG d_Rd_takesPlayer_34 rfl ?_
    refine gx_get (q := 38) hG f_Rd_30 hpRd rfl d_Rd_takesPlayer_35 rfl ?_
    rw [wu_pl (by omega), wu_ne (by omega), hr.1]
    refine gx_iconst (q := 39) hG d_Rd_takesPlayer_38 rfl ?_
    refine gx_iadd (q := 40) hG d_Rd_takesPlayer_39 rfl ?_
    refine gw_puti (q := 43) hG f_Rd_30 hpRd (Nat.le_of_ble_eq_true rfl) vfit_i (Or.inl rfl) d_Rd_takesPlayer_40 rfl 3 rfl rfl ?_
    refine gx_iconst (q := 44) hG d_Rd_takesPlayer_43 rfl ?_
    refine gx_zreturn hG d_Rd_takesPlayer_44 rfl rfl (by first | exact bi_01 _ | decide | omega) ?_
    refine ⟨_, rfl, _, rfl, ?_⟩
    unfold pPl
    rw [if_pos (by omega)]
    refine ⟨rfl, fun b hb => by rw [wu_ne (by omega), wu_ne (by omega), wu_ne (by omega)], wu_eq, fun _ => ⟨wu_eq, by rw [wu_pl (by omega), wu_eq], GI16 hr.2.2.1 (by rw [wu_ne (by omega), wu_ne (by omega), wu_ne (by omega)]) (by rw [wu_ne (by omega), wu_ne (by omega), wu_ne (by omega)]), ?_, ?_, ?_, ?_⟩⟩
    · rw [wu_ne (by omega), wu_ne (by omega), wu_ne (by omega)]; exact hr.2.2.2.1
    · rw [wu_ne (by omega), wu_ne (by omega), wu_ne (by omega)]; exact hr.2.2.2.2.1
    · exact fun i i0 i1 => by rw [wu_ne (by omega), wu_ne (by omega), wu_ne (by omega)]; exact hr.2.2.2.2.2.1 i i0 i1
    · intro i i0 i1
      have i1' : i < p.pl + 1 := i1
      show _ = up p.kd p.pl k i
      rw [wu_ne (by omega), wu_ne (by omega), wu_at]
      unfold up
      split
      · rfl
      · exact hr.2.2.2.2.2.2 i i0 (by omega)
  · have c8 := bi_eq0.mp c8
    refine gx_iconst (q := 12) hG d_Rd_takesPlayer_11 rfl ?_
    refine gx_zreturn hG d_Rd_takesPlayer_12 rfl rfl (by first | exact bi_01 _ | decide | omega) ?_
    refine ⟨_, rfl, _, rfl, ?_⟩
    unfold pPl
    rw [if_neg (by omega)]
    exact ⟨rfl, RF_id, hr.1, fun q => absurd (show (0 : Int) = 1 from q) (by decide)⟩
theorem xN_bd {s : Sta} {t x : Int} : x + 2 ≤ xN s t x ∧ xN s t x ≤ x + 3 := by
  unfold xN
  split <;> omega
theorem vN_bd {s : Sta} {t x : Int} (h : 0 ≤ fgS s t (x + 1)) : 0 ≤ vN s t x ∧ vN s t x ≤ 99 := by
  have a := fgS_bd (s := s) (t := t) (i := x + 1)
  have b := fgS_bd (s := s) (t := t) (i := x + 2)
  unfold vN
  split <;> omega
theorem num_y {s : Sta} {t : Int} {p : Ps} (h1 : p.n < 12) (h2 : 0 ≤ fgS s t (p.pos + 1)) (h3 : 2 ≤ vN s t p.pos ∧ vN s t p.pos ≤ 60) (h4 : ¬ rch p.law p.num p.n.toNat (vN s t p.pos)) : pNum s t p = (1, (xN s t p.pos, p.law, p.n + 1, p.pl, up p.num p.n (vN s t p.pos), p.kd)) := by
  unfold pNum
  rw [if_neg (by omega), if_neg (by omega), if_pos ⟨h3.1, h3.2, bi_f h4⟩]
theorem num_n {s : Sta} {t : Int} {p : Ps} (h1 : p.n < 12) (h2 : 0 ≤ fgS s t (p.pos + 1)) (h3 : ¬ (2 ≤ vN s t p.pos ∧ vN s t p.pos ≤ 60 ∧ ¬ rch p.law p.num p.n.toNat (vN s t p.pos))) : pNum s t p = (0, (xN s t p.pos, p.law, p.n, p.pl, p.num, p.kd)) := by
  unfold pNum
  rw [if_neg (by omega), if_neg (by omega), if_neg (fun q => h3 ⟨q.1, q.2.1, bi_eq0.mp q.2.2⟩)]
theorem num_f {s : Sta} {t : Int} {p : Ps} (h1 : p.n < 12) (h2 : fgS s t (p.pos + 1) < 0) : pNum s t p = (0, (p.pos + 1, p.law, p.n, p.pl, p.num, p.kd)) := by
  unfold pNum
  rw [if_neg (by omega), if_pos h2]
theorem num_b {s : Sta} {t : Int} {p : Ps} (h1 : 12 ≤ p.n) : pNum s t p = (0, p) := if_pos h1
theorem ev_Rd_takesNumber {w : Mem} {t : Int} {p : Ps} (hO : OK (aX w)) (hj : XJ w) (ht : 0 ≤ t ∧ t < 4) (hr : RX w p) (hb : PB p) (hp0 : p.pos ≤ 59) : EvI y_Rd_takesNumber b_Rd_takesNumber 4 (some .boolean) (7) [Vr 15, Vr (62 + 2 * t)] w (IT w (pNum (aX w) t p)) := by
  refine Ev.mk (isI := false) (by decide +kernel) nofun (Nat.le_of_ble_eq_true rfl) (fun G hG => ?_)
  show G 0 [some (Vr 15), some (Vr (62 + 2 * t)), none, none] [] 102 (hp w)
  have hfb := fgS_bd (s := aX w) (t := t) (i := p.pos + 1)
  have hfb2 := fgS_bd (s := aX w) (t := t) (i := p.pos + 2)
  have hxb := xN_bd (s := aX w) (t := t) (x := p.pos)
  have hvb := vN_bd (s := aX w) (t := t) (x := p.pos)
  have hb1 := hb.1
  have hbn := hb.2.2.1
  have s1 : SX w (wu w 15 3 (p.pos + 1)) := SX_scr hj (fun b hb => wu_ne (by omega))
  have s2 : SX w (wu (wu w 15 3 (p.pos + 1)) 15 3 (p.pos + 2)) := SX_scr hj (fun b hb => by rw [wu_ne (by omega), wu_ne (by omega)])
  have fin : ∀ (W : Mem) (v : Int), v = vN (aX w) t p.pos → 0 ≤ fgS (aX w) t (p.pos + 1) → (∀ b, b ≠ 15 → W b = w b) → W 15 3 = xN (aX w) t p.pos → W 15 2 = w 15 2 → p.n < 12 → ∀ o : Option Value, one1 [o] 0 = true → G 73 [some (Vr 15), some (Vr (62 + 2 * t)), some (Vi v), o] [] 102 (hp W) := by
    intro W v ev h1 hW hx h2 hn o ho
    have hvb' := hvb h1
    have e16 : W 16 = w 16 := hW 16 (by decide)
    have e17 : W 17 = w 17 := hW 17 (by decide)
    have hg : GI W 16 := GI16 hr.2.2.1 e16 e17
    have hh : hd W 16 v ↔ rch p.law p.num p.n.toNat v := by
      rw [← hd16 hr]
      unfold hd
      rw [e16, show (16 : Int) + 1 = 17 from rfl, e17]
    have hsz : W 16 1 = p.n := by rw [e16]; exact hr.2.2.2.1
    refine gx_iload2 (q := 74) hG d_Rd_takesNumber_73 rfl ?_
    refine gx_iconst (q := 75) hG d_Rd_takesNumber_74 rfl ?_
    refine gx_icmp_lt (tgt := 89) (q := 78) hG d_Rd_takesNumber_75 rfl rfl (by omega) (by omega) (fun c75 => ?_) (fun c75 => ?_)
    · refine gx_iconst (q := 90) hG d_Rd_takesNumber_89 rfl ?_
      refine gx_zreturn hG d_Rd_takesNumber_90 rfl rfl (by first | exact bi_01 _ | decide | omega) ?_
      refine ⟨_, rfl, _, rfl, ?_⟩
      rw [num_n hn h1 (by
        rw [← ev, ← hh]
        first
          | (intro q; omega)
          | exact fun q => c86 ⟨by omega, q.2⟩)]
      exact ⟨rfl, fun b hb => hW b (by omega), hx, fun q => absurd (show (0 : Int) = 1 from q) (by decide)⟩
    · refine gx_aload0 (q := 79) hG d_Rd_takesNumber_78 rfl ?_
      refine gx_get (q := 82) hG f_Rd_12 hpRd rfl d_Rd_takesNumber_79 rfl ?_
      refine gx_iload2 (q := 83) hG d_Rd_takesNumber_82 rfl ?_
      refine gw_V1X (q := 86) hG l_Rd_65 c_Gm_isOpen (ev_Gm_isOpen hg (by omega)) (hpGame (by unfold isG; omega)) rfl (by decide) (Nat.le_of_ble_eq_true rfl) d_Rd_takesNumber_83 rfl (by decide) ?_
      refine gx_if_ne (tgt := 91) (q := 89) hG d_Rd_takesNumber_86 rfl rfl (bi_R _) (fun c86 => ?_) (fun c86 => ?_)
      · have c86 := bi_ne0.mp c86
        refine gx_aload0 (q := 92) hG d_Rd_takesNumber_91 rfl ?_
        refine gx_get (q := 95) hG f_Rd_12 hpRd rfl d_Rd_takesNumber_92 rfl ?_
        refine gx_iload2 (q := 96) hG d_Rd_takesNumber_95 rfl ?_
        refine gw_V1V (q := 99) hG l_Rd_68 c_Gm_add (ev_Gm_add hg (by omega) (by omega)) (hpGame (by unfold isG; omega)) rfl (by decide) (Nat.le_of_ble_eq_true rfl) d_Rd_takesNumber_96 rfl (by decide) (fun w2 h96 => ?_)
        refine gx_iconst (q := 100) hG d_Rd_takesNumber_99 rfl ?_
        refine gx_zreturn hG d_Rd_takesNumber_100 rfl rfl (by first | exact bi_01 _ | decide | omega) ?_
        refine ⟨_, rfl, _, rfl, ?_⟩
        obtain ⟨a1, a2, a3, a4, a5⟩ := h96
        rw [num_y hn h1 (by omega) (by rw [← ev, ← hh]; exact c86.2.2), ← ev]
        refine ⟨rfl, fun b hb => by rw [a5 b (by omega) (by omega), hW b (by omega)], by rw [a5 15 (by decide) (by decide)]; exact hx, fun _ => ⟨by rw [a5 15 (by decide) (by decide)]; exact hx, by rw [a5 15 (by decide) (by decide), h2]; exact hr.2.1, a1, ?_, ?_, ?_, ?_⟩⟩
        · rw [a2, hsz]
        · rw [a3, e16]; exact hr.2.2.2.2.1
        · intro i i0 i1
          have i1' : i < p.n + 1 := i1
          have a4' : w2 17 = up (W 17) (W 16 1) v := a4
          show w2 17 i = up p.num p.n v i
          rw [a4', hsz, e17]
          unfold up
          split
          · rfl
          · exact hr.2.2.2.2.2.1 i i0 (by omega)
        · intro i i0 i1
          rw [a5 18 (by decide) (by decide), hW 18 (by decide)]
          exact hr.2.2.2.2.2.2 i i0 i1
      · have c86 := bi_eq0.mp c86
        refine gx_iconst (q := 90) hG d_Rd_takesNumber_89 rfl ?_
        refine gx_zreturn hG d_Rd_takesNumber_90 rfl rfl (by first | exact bi_01 _ | decide | omega) ?_
        refine ⟨_, rfl, _, rfl, ?_⟩
        rw [num_n hn h1 (by
          rw [← ev, ← hh]
          first
            | (intro q; omega)
            | exact fun q => c86 ⟨by omega, q.2⟩)]
        exact ⟨rfl, fun b hb => hW b (by omega), hx, fun q => absurd (show (0 : Int) = 1 from q) (by decide)⟩
  refine gx_aload0 (q := 1) hG d_Rd_takesNumber_0 rfl ?_
  refine gx_get (q := 4) hG f_Rd_12 hpRd rfl d_Rd_takesNumber_1 rfl ?_
  refine gx_get (q := 7) hG f_Rd_64 (hpGame (by unfold isG; omega)) rfl d_Rd_takesNumber_4 rfl ?_
  rw [hr.2.2.2.1]
  refine gx_bipush (q := 9) hG d_Rd_takesNumber_7 rfl rfl ?_
  refine gx_icmp_lt (tgt := 14) (q := 12) hG d_Rd_takesNumber_9 rfl rfl (by omega) (by omega) (fun c9 => ?_) (fun c9 => ?_)
  · refine gx_aload0 (q := 15) hG d_Rd_takesNumber_14 rfl ?_
    refine gx_dupa (q := 16) hG d_Rd_takesNumber_15 rfl ?_
    refine gx_get (q := 19) hG f_Rd_30 hpRd rfl d_Rd_takesNumber_16 rfl ?_
    rw [hr.1]
    refine gx_iconst (q := 20) hG d_Rd_takesNumber_19 rfl ?_
    refine gx_iadd (q := 21) hG d_Rd_takesNumber_20 rfl ?_
    refine gw_puti (q := 24) hG f_Rd_30 hpRd (Nat.le_of_ble_eq_true rfl) vfit_i (Or.inl rfl) d_Rd_takesNumber_21 rfl 3 rfl rfl ?_
    refine gx_aload0 (q := 25) hG d_Rd_takesNumber_24 rfl ?_
    refine gx_aload1 (q := 26) hG d_Rd_takesNumber_25 rfl ?_
    refine gw_V1Y (q := 29) hG l_Rd_56 c_Rd_figureHere (ev_Rd_figureHere (by rw [s1.1]; exact hO) ht (by rw [wu_eq]; omega)) hpRd rfl (by decide) (Nat.le_of_ble_eq_true rfl) d_Rd_takesNumber_26 rfl (by decide) (fun z26 h26 => ?_)
    rw [s1.1, wu_eq] at h26
    obtain ⟨g1, g2, g3, g4⟩ := h26
    refine gx_istore2 (q := 30) hG d_Rd_takesNumber_29 rfl rfl ?_
    refine gx_iload2 (q := 31) hG d_Rd_takesNumber_30 rfl ?_
    refine gx_if_ge (tgt := 36) (q := 34) hG d_Rd_takesNumber_31 rfl rfl (by omega) (fun c31 => ?_) (fun c31 => ?_)
    · refine gx_aload0 (q := 37) hG d_Rd_takesNumber_36 rfl ?_
      refine gx_dupa (q := 38) hG d_Rd_takesNumber_37 rfl ?_
      refine gx_get (q := 41) hG f_Rd_30 hpRd rfl d_Rd_takesNumber_38 rfl ?_
      rw [wu_eq]
      refine gx_iconst (q := 42) hG d_Rd_takesNumber_41 rfl ?_
      refine gx_iadd (q := 43) hG d_Rd_takesNumber_42 rfl ?_
      rw [show p.pos + 1 + 1 = p.pos + 2 by omega]
      refine gw_puti (q := 46) hG f_Rd_30 hpRd (Nat.le_of_ble_eq_true rfl) vfit_i (Or.inl rfl) d_Rd_takesNumber_43 rfl 3 rfl rfl ?_
      refine gx_aload0 (q := 47) hG d_Rd_takesNumber_46 rfl ?_
      refine gx_aload1 (q := 48) hG d_Rd_takesNumber_47 rfl ?_
      refine gw_V1Y (q := 51) hG l_Rd_56 c_Rd_figureHere (ev_Rd_figureHere (by rw [s2.1]; exact hO) ht (by rw [wu_eq]; omega)) hpRd rfl (by decide) (Nat.le_of_ble_eq_true rfl) d_Rd_takesNumber_48 rfl (by decide) (fun z48 h48 => ?_)
      rw [s2.1, wu_eq] at h48
      obtain ⟨k1, k2, k3, k4⟩ := h48
      have f1 := g1 (by omega)
      refine gx_istore3 (q := 52) hG d_Rd_takesNumber_51 rfl rfl ?_
      refine gx_iload3 (q := 53) hG d_Rd_takesNumber_52 rfl ?_
      refine gx_if_lt (tgt := 73) (q := 56) hG d_Rd_takesNumber_53 rfl rfl (by omega) (fun c53 => ?_) (fun c53 => ?_)
      · have ex : xN (aX w) t p.pos = p.pos + 2 := if_pos (by omega)
        have ev : vN (aX w) t p.pos = fgS (aX w) t (p.pos + 1) := if_pos (by omega)
        exact fin _ _ (by omega) (by omega) (fun b hb => by repeat rw [wu_ne hb]) (by rw [wu_eq]; omega) (by repeat rw [wu_pl (by decide)]) (by omega) _ rfl
      · have ex : xN (aX w) t p.pos = p.pos + 3 := if_neg (by omega)
        have ev : vN (aX w) t p.pos = 10 * fgS (aX w) t (p.pos + 1) + fgS (aX w) t (p.pos + 2) := if_neg (by omega)
        refine gx_bipush (q := 58) hG d_Rd_takesNumber_56 rfl rfl ?_
        refine gx_iload2 (q := 59) hG d_Rd_takesNumber_58 rfl ?_
        refine gx_imul (q := 60) hG d_Rd_takesNumber_59 rfl ?_
        refine gx_iload3 (q := 61) hG d_Rd_takesNumber_60 rfl ?_
        refine gx_iadd (q := 62) hG d_Rd_takesNumber_61 rfl ?_
        refine gx_istore2 (q := 63) hG d_Rd_takesNumber_62 rfl rfl ?_
        refine gx_aload0 (q := 64) hG d_Rd_takesNumber_63 rfl ?_
        refine gx_dupa (q := 65) hG d_Rd_takesNumber_64 rfl ?_
        refine gx_get (q := 68) hG f_Rd_30 hpRd rfl d_Rd_takesNumber_65 rfl ?_
        rw [wu_eq]
        refine gx_iconst (q := 69) hG d_Rd_takesNumber_68 rfl ?_
        refine gx_iadd (q := 70) hG d_Rd_takesNumber_69 rfl ?_
        refine gw_puti (q := 73) hG f_Rd_30 hpRd (Nat.le_of_ble_eq_true rfl) vfit_i (Or.inl rfl) d_Rd_takesNumber_70 rfl 3 rfl rfl ?_
        exact fin _ _ (by omega) (by omega) (fun b hb => by repeat rw [wu_ne hb]) (by rw [wu_eq]; omega) (by repeat rw [wu_pl (by decide)]) (by omega) _ rfl
    · refine gx_iconst (q := 35) hG d_Rd_takesNumber_34 rfl ?_
      refine gx_zreturn hG d_Rd_takesNumber_35 rfl rfl (by first | exact bi_01 _ | decide | omega) ?_
      refine ⟨_, rfl, _, rfl, ?_⟩
      rw [num_f (by omega) (by omega)]
      exact ⟨rfl, fun b hb => wu_ne (by omega), wu_eq, fun q => absurd (show (0 : Int) = 1 from q) (by decide)⟩
  · refine gx_iconst (q := 13) hG d_Rd_takesNumber_12 rfl ?_
    refine gx_zreturn hG d_Rd_takesNumber_13 rfl rfl (by first | exact bi_01 _ | decide | omega) ?_
    refine ⟨_, rfl, _, rfl, ?_⟩
    rw [num_b (by omega)]
    exact ⟨rfl, RF_id, hr.1, fun q => absurd (show (0 : Int) = 1 from q) (by decide)⟩
theorem kd_108 : kdC 108 = -9 := by decide
theorem kd_110 : kdC 110 = -9 := by decide
theorem it_law {s : Sta} {t f : Int} {p : Ps} (h : byS s t p.pos = 108) (hf : f = 1) : pItem s t f p = pLaw s t p := by
  unfold pItem
  rw [if_pos h, if_pos hf]
theorem it_nl {s : Sta} {t f : Int} {p : Ps} (h : byS s t p.pos = 108) (hf : f ≠ 1) : pItem s t f p = (0, p) := by
  unfold pItem
  rw [if_pos h, if_neg hf]
theorem it_num {s : Sta} {t f : Int} {p : Ps} (h : byS s t p.pos = 110) : pItem s t f p = pNum s t p := by
  unfold pItem
  rw [if_neg (by omega), if_pos h]
theorem it_pl {s : Sta} {t f k : Int} {p : Ps} (h : kdC (byS s t p.pos) = k) (hk : 0 ≤ k) : pItem s t f p = pPl p k := by
  have h1 : byS s t p.pos ≠ 108 := fun q => by rw [q, kd_108] at h; omega
  have h2 : byS s t p.pos ≠ 110 := fun q => by rw [q, kd_110] at h; omega
  unfold pItem
  rw [if_neg h1, if_neg h2, h, if_neg (by omega)]
theorem it_no {s : Sta} {t f : Int} {p : Ps} (h : kdC (byS s t p.pos) = -9) (h1 : byS s t p.pos ≠ 108) (h2 : byS s t p.pos ≠ 110) : pItem s t f p = (0, p) := by
  unfold pItem
  rw [if_neg h1, if_neg h2, if_pos h]
theorem pLaw_01 {s : Sta} {t : Int} {p : Ps} : (pLaw s t p).1 = 0 ∨ (pLaw s t p).1 = 1 := by
  unfold pLaw
  split
  · exact Or.inr rfl
  · exact Or.inl rfl
theorem pPl_01 {p : Ps} {k : Int} : (pPl p k).1 = 0 ∨ (pPl p k).1 = 1 := by
  unfold pPl
  split
  · exact Or.inr rfl
  · exact Or.inl rfl
theorem pNum_01 {s : Sta} {t : Int} {p : Ps} : (pNum s t p).1 = 0 ∨ (pNum s t p).1 = 1 := by
  unfold pNum
  split
  · exact Or.inl rfl
  · split
    · exact Or.inl rfl
    · split
      · exact Or.inr rfl
      · exact Or.inl rfl
theorem ev_Rd_takesItem {w : Mem} {t f : Int} {p : Ps} (hO : OK (aX w)) (hj : XJ w) (ht : 0 ≤ t ∧ t < 4) (hr : RX w p) (hb : PB p) (hp0 : p.pos ≤ 59) (hs : p.pos < aX w 2 t) (hf : f = 0 ∨ f = 1) (hn0 : f = 1 → p.n = 0) : EvI y_Rd_takesItem b_Rd_takesItem 3 (some .boolean) (8) [Vr 15, Vr (62 + 2 * t), Vi f] w (IT w (pItem (aX w) t f p)) := by
  refine Ev.mk (isI := false) (by decide +kernel) nofun (Nat.le_of_ble_eq_true rfl) (fun G hG => ?_)
  show G 0 [some (Vr 15), some (Vr (62 + 2 * t)), some (Vi f)] [] 102 (hp w)
  have hb1 := hb.1
  have hs0 := hO.t0 ht
  rw [aX_at2 ht] at hs
  have eb := byX (w := w) ht hb1.1 hs0.2
  rw [if_pos hs] at eb
  have hbb := hO.t1 ht (i := p.pos) (by omega)
  rw [show 63 + 2 * t = 62 + 2 * t + 1 by omega] at hbb
  obtain ⟨c, ec⟩ : ∃ c, c = w (62 + 2 * t + 1) p.pos := ⟨_, rfl⟩
  rw [← ec] at eb hbb
  refine gx_aload1 (q := 1) hG d_Rd_takesItem_0 rfl ?_
  refine gx_get (q := 4) hG f_Rd_38 (hpRow (by omega)) rfl d_Rd_takesItem_1 rfl ?_
  refine gx_aload0 (q := 5) hG d_Rd_takesItem_4 rfl ?_
  refine gx_get (q := 8) hG f_Rd_30 hpRd rfl d_Rd_takesItem_5 rfl ?_
  rw [hr.1]
  rw [ec] at hbb
  refine gw_iald (q := 9) hG (shp_rowA (by omega)) (by omega) (by omega) d_Rd_takesItem_8 rfl ?_
  rw [← ec] at hbb ⊢
  refine gx_tsw (tgt := 160) hG d_Rd_takesItem_9 (by omega) (by decide) rfl (fun c9 => ?_) (fun i9 o9 h9 c9 => ?_)
  · refine gx_iconst (q := 161) hG d_Rd_takesItem_160 rfl ?_
    refine gx_zreturn hG d_Rd_takesItem_161 rfl rfl (by first | exact bi_01 _ | decide | omega) ?_
    refine ⟨_, rfl, _, rfl, ?_⟩
    rw [it_no (by rw [eb]; unfold kdC; repeat rw [if_neg (by omega)]) (by omega) (by omega)]
    exact ⟨rfl, RF_id, hr.1, fun q => absurd (show (0 : Int) = 1 from q) (by decide)⟩
  · match i9, h9 with
    | 0, h9 =>
      cases h9
      have c9 : _ = (97 : Int) := c9
      refine ⟨136, rfl, ?_⟩
      refine gx_aload0 (q := 137) hG d_Rd_takesItem_136 rfl ?_
      refine gx_iconst (q := 138) hG d_Rd_takesItem_137 rfl ?_
      refine gw_V1I (q := 141) hG l_Rd_52 c_Rd_takesPlayer (ev_Rd_takesPlayer hr hb) hpRd rfl (by decide) (Nat.le_of_ble_eq_true rfl) d_Rd_takesItem_138 rfl (by decide) (fun z138 w1 h138 => ?_)
      have z01 : z138 = 0 ∨ z138 = 1 := by rw [h138.1]; exact pPl_01
      refine gx_zreturn hG d_Rd_takesItem_141 rfl rfl (by first | exact bi_01 _ | decide | omega) ?_
      refine ⟨_, rfl, _, rfl, ?_⟩
      rw [it_pl (k := 2) (by rw [eb, c9]; decide) (by decide)]
      exact h138
    | 1, h9 =>
      cases h9
      have c9 : _ = (98 : Int) := c9
      refine ⟨142, rfl, ?_⟩
      refine gx_aload0 (q := 143) hG d_Rd_takesItem_142 rfl ?_
      refine gx_iconst (q := 144) hG d_Rd_takesItem_143 rfl ?_
      refine gw_V1I (q := 147) hG l_Rd_52 c_Rd_takesPlayer (ev_Rd_takesPlayer hr hb) hpRd rfl (by decide) (Nat.le_of_ble_eq_true rfl) d_Rd_takesItem_144 rfl (by decide) (fun z144 w1 h144 => ?_)
      have z01 : z144 = 0 ∨ z144 = 1 := by rw [h144.1]; exact pPl_01
      refine gx_zreturn hG d_Rd_takesItem_147 rfl rfl (by first | exact bi_01 _ | decide | omega) ?_
      refine ⟨_, rfl, _, rfl, ?_⟩
      rw [it_pl (k := 3) (by rw [eb, c9]; decide) (by decide)]
      exact h144
    | 2, h9 =>
      cases h9
      have c9 : _ = (99 : Int) := c9
      refine ⟨154, rfl, ?_⟩
      refine gx_aload0 (q := 155) hG d_Rd_takesItem_154 rfl ?_
      refine gx_iconst (q := 156) hG d_Rd_takesItem_155 rfl ?_
      refine gw_V1I (q := 159) hG l_Rd_52 c_Rd_takesPlayer (ev_Rd_takesPlayer hr hb) hpRd rfl (by decide) (Nat.le_of_ble_eq_true rfl) d_Rd_takesItem_156 rfl (by decide) (fun z156 w1 h156 => ?_)
      have z01 : z156 = 0 ∨ z156 = 1 := by rw [h156.1]; exact pPl_01
      refine gx_zreturn hG d_Rd_takesItem_159 rfl rfl (by first | exact bi_01 _ | decide | omega) ?_
      refine ⟨_, rfl, _, rfl, ?_⟩
      rw [it_pl (k := 5) (by rw [eb, c9]; decide) (by decide)]
      exact h156
    | 3, h9 =>
      cases h9
      have c9 : _ = (100 : Int) := c9
      refine ⟨160, rfl, ?_⟩
      refine gx_iconst (q := 161) hG d_Rd_takesItem_160 rfl ?_
      refine gx_zreturn hG d_Rd_takesItem_161 rfl rfl (by first | exact bi_01 _ | decide | omega) ?_
      refine ⟨_, rfl, _, rfl, ?_⟩
      rw [it_no (by rw [eb]; unfold kdC; repeat rw [if_neg (by omega)]) (by omega) (by omega)]
      exact ⟨rfl, RF_id, hr.1, fun q => absurd (show (0 : Int) = 1 from q) (by decide)⟩
    | 4, h9 =>
      cases h9
      have c9 : _ = (101 : Int) := c9
      refine ⟨160, rfl, ?_⟩
      refine gx_iconst (q := 161) hG d_Rd_takesItem_160 rfl ?_
      refine gx_zreturn hG d_Rd_takesItem_161 rfl rfl (by first | exact bi_01 _ | decide | omega) ?_
      refine ⟨_, rfl, _, rfl, ?_⟩
      rw [it_no (by rw [eb]; unfold kdC; repeat rw [if_neg (by omega)]) (by omega) (by omega)]
      exact ⟨rfl, RF_id, hr.1, fun q => absurd (show (0 : Int) = 1 from q) (by decide)⟩
    | 5, h9 =>
      cases h9
      have c9 : _ = (102 : Int) := c9
      refine ⟨160, rfl, ?_⟩
      refine gx_iconst (q := 161) hG d_Rd_takesItem_160 rfl ?_
      refine gx_zreturn hG d_Rd_takesItem_161 rfl rfl (by first | exact bi_01 _ | decide | omega) ?_
      refine ⟨_, rfl, _, rfl, ?_⟩
      rw [it_no (by rw [eb]; unfold kdC; repeat rw [if_neg (by omega)]) (by omega) (by omega)]
      exact ⟨rfl, RF_id, hr.1, fun q => absurd (show (0 : Int) = 1 from q) (by decide)⟩
    | 6, h9 =>
      cases h9
      have c9 : _ = (103 : Int) := c9
      refine ⟨148, rfl, ?_⟩
      refine gx_aload0 (q := 149) hG d_Rd_takesItem_148 rfl ?_
      refine gx_iconst (q := 150) hG d_Rd_takesItem_149 rfl ?_
      refine gw_V1I (q := 153) hG l_Rd_52 c_Rd_takesPlayer (ev_Rd_takesPlayer hr hb) hpRd rfl (by decide) (Nat.le_of_ble_eq_true rfl) d_Rd_takesItem_150 rfl (by decide) (fun z150 w1 h150 => ?_)
      have z01 : z150 = 0 ∨ z150 = 1 := by rw [h150.1]; exact pPl_01
      refine gx_zreturn hG d_Rd_takesItem_153 rfl rfl (by first | exact bi_01 _ | decide | omega) ?_
      refine ⟨_, rfl, _, rfl, ?_⟩
      rw [it_pl (k := 4) (by rw [eb, c9]; decide) (by decide)]
      exact h150
    | 7, h9 =>
      cases h9
      have c9 : _ = (104 : Int) := c9
      refine ⟨160, rfl, ?_⟩
      refine gx_iconst (q := 161) hG d_Rd_takesItem_160 rfl ?_
      refine gx_zreturn hG d_Rd_takesItem_161 rfl rfl (by first | exact bi_01 _ | decide | omega) ?_
      refine ⟨_, rfl, _, rfl, ?_⟩
      rw [it_no (by rw [eb]; unfold kdC; repeat rw [if_neg (by omega)]) (by omega) (by omega)]
      exact ⟨rfl, RF_id, hr.1, fun q => absurd (show (0 : Int) = 1 from q) (by decide)⟩
    | 8, h9 =>
      cases h9
      have c9 : _ = (105 : Int) := c9
      refine ⟨160, rfl, ?_⟩
      refine gx_iconst (q := 161) hG d_Rd_takesItem_160 rfl ?_
      refine gx_zreturn hG d_Rd_takesItem_161 rfl rfl (by first | exact bi_01 _ | decide | omega) ?_
      refine ⟨_, rfl, _, rfl, ?_⟩
      rw [it_no (by rw [eb]; unfold kdC; repeat rw [if_neg (by omega)]) (by omega) (by omega)]
      exact ⟨rfl, RF_id, hr.1, fun q => absurd (show (0 : Int) = 1 from q) (by decide)⟩
    | 9, h9 =>
      cases h9
      have c9 : _ = (106 : Int) := c9
      refine ⟨160, rfl, ?_⟩
      refine gx_iconst (q := 161) hG d_Rd_takesItem_160 rfl ?_
      refine gx_zreturn hG d_Rd_takesItem_161 rfl rfl (by first | exact bi_01 _ | decide | omega) ?_
      refine ⟨_, rfl, _, rfl, ?_⟩
      rw [it_no (by rw [eb]; unfold kdC; repeat rw [if_neg (by omega)]) (by omega) (by omega)]
      exact ⟨rfl, RF_id, hr.1, fun q => absurd (show (0 : Int) = 1 from q) (by decide)⟩
    | 10, h9 =>
      cases h9
      have c9 : _ = (107 : Int) := c9
      refine ⟨160, rfl, ?_⟩
      refine gx_iconst (q := 161) hG d_Rd_takesItem_160 rfl ?_
      refine gx_zreturn hG d_Rd_takesItem_161 rfl rfl (by first | exact bi_01 _ | decide | omega) ?_
      refine ⟨_, rfl, _, rfl, ?_⟩
      rw [it_no (by rw [eb]; unfold kdC; repeat rw [if_neg (by omega)]) (by omega) (by omega)]
      exact ⟨rfl, RF_id, hr.1, fun q => absurd (show (0 : Int) = 1 from q) (by decide)⟩
    | 11, h9 =>
      cases h9
      have c9 : _ = (108 : Int) := c9
      refine ⟨100, rfl, ?_⟩
      refine gx_iload2 (q := 101) hG d_Rd_takesItem_100 rfl ?_
      refine gx_if_eq (tgt := 116) (q := 104) hG d_Rd_takesItem_101 rfl rfl (by omega) (fun c101 => ?_) (fun c101 => ?_)
      · refine gx_iconst (q := 117) hG d_Rd_takesItem_116 rfl ?_
        refine gx_zreturn hG d_Rd_takesItem_117 rfl rfl (by first | exact bi_01 _ | decide | omega) ?_
        refine ⟨_, rfl, _, rfl, ?_⟩
        first
          | (rw [it_nl (by omega) (by omega)]; exact ⟨rfl, RF_id, hr.1, fun q => absurd (show (0 : Int) = 1 from q) (by decide)⟩)
          | (rw [it_law (by omega) (by omega)]; exact ⟨by have := h106.1; omega, h106.2⟩)
      · refine gx_aload0 (q := 105) hG d_Rd_takesItem_104 rfl ?_
        refine gx_aload1 (q := 106) hG d_Rd_takesItem_105 rfl ?_
        refine gw_V1I (q := 109) hG l_Rd_45 c_Rd_takesLaw (ev_Rd_takesLaw hO hj ht hr hb hp0 (hn0 (by omega))) hpRd rfl (by decide) (Nat.le_of_ble_eq_true rfl) d_Rd_takesItem_106 rfl (by decide) (fun z106 w1 h106 => ?_)
        have z01 : z106 = 0 ∨ z106 = 1 := by rw [h106.1]; exact pLaw_01
        refine gx_if_eq (tgt := 116) (q := 112) hG d_Rd_takesItem_109 rfl rfl (by omega) (fun c109 => ?_) (fun c109 => ?_)
        · refine gx_iconst (q := 117) hG d_Rd_takesItem_116 rfl ?_
          refine gx_zreturn hG d_Rd_takesItem_117 rfl rfl (by first | exact bi_01 _ | decide | omega) ?_
          refine ⟨_, rfl, _, rfl, ?_⟩
          first
            | (rw [it_nl (by omega) (by omega)]; exact ⟨rfl, RF_id, hr.1, fun q => absurd (show (0 : Int) = 1 from q) (by decide)⟩)
            | (rw [it_law (by omega) (by omega)]; exact ⟨by have := h106.1; omega, h106.2⟩)
        · refine gx_iconst (q := 113) hG d_Rd_takesItem_112 rfl ?_
          refine gx_goto (tgt := 117) hG d_Rd_takesItem_113 rfl ?_
          refine gx_zreturn hG d_Rd_takesItem_117 rfl rfl (by first | exact bi_01 _ | decide | omega) ?_
          refine ⟨_, rfl, _, rfl, ?_⟩
          first
            | (rw [it_nl (by omega) (by omega)]; exact ⟨rfl, RF_id, hr.1, fun q => absurd (show (0 : Int) = 1 from q) (by decide)⟩)
            | (rw [it_law (by omega) (by omega)]; exact ⟨by have := h106.1; omega, h106.2⟩)
    | 12, h9 =>
      cases h9
      have c9 : _ = (109 : Int) := c9
      refine ⟨160, rfl, ?_⟩
      refine gx_iconst (q := 161) hG d_Rd_takesItem_160 rfl ?_
      refine gx_zreturn hG d_Rd_takesItem_161 rfl rfl (by first | exact bi_01 _ | decide | omega) ?_
      refine ⟨_, rfl, _, rfl, ?_⟩
      rw [it_no (by rw [eb]; unfold kdC; repeat rw [if_neg (by omega)]) (by omega) (by omega)]
      exact ⟨rfl, RF_id, hr.1, fun q => absurd (show (0 : Int) = 1 from q) (by decide)⟩
    | 13, h9 =>
      cases h9
      have c9 : _ = (110 : Int) := c9
      refine ⟨118, rfl, ?_⟩
      refine gx_aload0 (q := 119) hG d_Rd_takesItem_118 rfl ?_
      refine gx_aload1 (q := 120) hG d_Rd_takesItem_119 rfl ?_
      refine gw_V1I (q := 123) hG l_Rd_49 c_Rd_takesNumber (ev_Rd_takesNumber hO hj ht hr hb hp0) hpRd rfl (by decide) (Nat.le_of_ble_eq_true rfl) d_Rd_takesItem_120 rfl (by decide) (fun z120 w1 h120 => ?_)
      have z01 : z120 = 0 ∨ z120 = 1 := by rw [h120.1]; exact pNum_01
      refine gx_zreturn hG d_Rd_takesItem_123 rfl rfl (by first | exact bi_01 _ | decide | omega) ?_
      refine ⟨_, rfl, _, rfl, ?_⟩
      rw [it_num (by omega)]
      exact h120
    | 14, h9 =>
      cases h9
      have c9 : _ = (111 : Int) := c9
      refine ⟨160, rfl, ?_⟩
      refine gx_iconst (q := 161) hG d_Rd_takesItem_160 rfl ?_
      refine gx_zreturn hG d_Rd_takesItem_161 rfl rfl (by first | exact bi_01 _ | decide | omega) ?_
      refine ⟨_, rfl, _, rfl, ?_⟩
      rw [it_no (by rw [eb]; unfold kdC; repeat rw [if_neg (by omega)]) (by omega) (by omega)]
      exact ⟨rfl, RF_id, hr.1, fun q => absurd (show (0 : Int) = 1 from q) (by decide)⟩
    | 15, h9 =>
      cases h9
      have c9 : _ = (112 : Int) := c9
      refine ⟨124, rfl, ?_⟩
      refine gx_aload0 (q := 125) hG d_Rd_takesItem_124 rfl ?_
      refine gx_iconst (q := 126) hG d_Rd_takesItem_125 rfl ?_
      refine gw_V1I (q := 129) hG l_Rd_52 c_Rd_takesPlayer (ev_Rd_takesPlayer hr hb) hpRd rfl (by decide) (Nat.le_of_ble_eq_true rfl) d_Rd_takesItem_126 rfl (by decide) (fun z126 w1 h126 => ?_)
      have z01 : z126 = 0 ∨ z126 = 1 := by rw [h126.1]; exact pPl_01
      refine gx_zreturn hG d_Rd_takesItem_129 rfl rfl (by first | exact bi_01 _ | decide | omega) ?_
      refine ⟨_, rfl, _, rfl, ?_⟩
      rw [it_pl (k := 0) (by rw [eb, c9]; decide) (by decide)]
      exact h126
    | 16, h9 =>
      cases h9
      have c9 : _ = (113 : Int) := c9
      refine ⟨160, rfl, ?_⟩
      refine gx_iconst (q := 161) hG d_Rd_takesItem_160 rfl ?_
      refine gx_zreturn hG d_Rd_takesItem_161 rfl rfl (by first | exact bi_01 _ | decide | omega) ?_
      refine ⟨_, rfl, _, rfl, ?_⟩
      rw [it_no (by rw [eb]; unfold kdC; repeat rw [if_neg (by omega)]) (by omega) (by omega)]
      exact ⟨rfl, RF_id, hr.1, fun q => absurd (show (0 : Int) = 1 from q) (by decide)⟩
    | 17, h9 =>
      cases h9
      have c9 : _ = (114 : Int) := c9
      refine ⟨160, rfl, ?_⟩
      refine gx_iconst (q := 161) hG d_Rd_takesItem_160 rfl ?_
      refine gx_zreturn hG d_Rd_takesItem_161 rfl rfl (by first | exact bi_01 _ | decide | omega) ?_
      refine ⟨_, rfl, _, rfl, ?_⟩
      rw [it_no (by rw [eb]; unfold kdC; repeat rw [if_neg (by omega)]) (by omega) (by omega)]
      exact ⟨rfl, RF_id, hr.1, fun q => absurd (show (0 : Int) = 1 from q) (by decide)⟩
    | 18, h9 =>
      cases h9
      have c9 : _ = (115 : Int) := c9
      refine ⟨130, rfl, ?_⟩
      refine gx_aload0 (q := 131) hG d_Rd_takesItem_130 rfl ?_
      refine gx_iconst (q := 132) hG d_Rd_takesItem_131 rfl ?_
      refine gw_V1I (q := 135) hG l_Rd_52 c_Rd_takesPlayer (ev_Rd_takesPlayer hr hb) hpRd rfl (by decide) (Nat.le_of_ble_eq_true rfl) d_Rd_takesItem_132 rfl (by decide) (fun z132 w1 h132 => ?_)
      have z01 : z132 = 0 ∨ z132 = 1 := by rw [h132.1]; exact pPl_01
      refine gx_zreturn hG d_Rd_takesItem_135 rfl rfl (by first | exact bi_01 _ | decide | omega) ?_
      refine ⟨_, rfl, _, rfl, ?_⟩
      rw [it_pl (k := 1) (by rw [eb, c9]; decide) (by decide)]
      exact h132
    | i9 + 19, h9 => simp at h9

