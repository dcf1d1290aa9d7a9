/-! part 22: the class Game, the rest -/
theorem ev_X_highestOf {w : Mem} {m : Nat} (hm : m < 2 ^ 63) : EvY y_X_highestOf b_X_highestOf 3 (some .int) (1) [Vj (m : Int)] w (HighB m) := by
  refine Ev.mk (isI := false) (by decide +kernel) nofun (Nat.le_of_ble_eq_true rfl) (fun G hG => ?_)
  show G 0 [some (Vj (m : Int)), none, none] [] 102 (hp w)
  have L : ∀ (k : Nat), k ≤ 60 → (∀ u, k < u → u ≤ 60 → m.testBit u = false) → G 3 [some (Vj (m : Int)), none, some (Vi (k : Int))] [] 102 (hp w) := by
    intro k
    induction k with
    | zero =>
      intro h1 h2
      refine gx_iload2 (q := 4) hG d_X_highestOf_3 rfl ?_
      refine gx_if_le (tgt := 25) (q := 7) hG d_X_highestOf_4 rfl rfl (by omega) (fun c4 => ?_) (fun c4 => ?_)
      · refine gx_iconst (q := 26) hG d_X_highestOf_25 rfl ?_
        refine gx_ireturn hG d_X_highestOf_26 rfl rfl ?_
        exact ⟨w, rfl, _, rfl, rfl, Or.inr ⟨rfl, h2⟩⟩
      · exact absurd c4 (by decide)
    | succ k ih =>
      intro h1 h2
      refine gx_iload2 (q := 4) hG d_X_highestOf_3 rfl ?_
      refine gx_if_le (tgt := 25) (q := 7) hG d_X_highestOf_4 rfl rfl (by omega) (fun c4 => ?_) (fun c4 => ?_)
      · exfalso; omega
      · refine gx_lload0 (q := 8) hG d_X_highestOf_7 rfl ?_
        refine gx_iload2 (q := 9) hG d_X_highestOf_8 rfl ?_
        refine gx_lshr (q := 10) hG (((m >>> (k + 1) : Nat) : Int)) d_X_highestOf_9 rfl (j_shr m (k + 1) (by omega) hm) ?_
        refine gx_lconst (q := 11) hG 1 d_X_highestOf_10 rfl rfl ?_
        refine gx_land (q := 12) hG (bi (m.testBit (k + 1) = true)) d_X_highestOf_11 rfl (j_bit m (k + 1) (by omega) hm) ?_
        refine gx_lconst (q := 13) hG 1 d_X_highestOf_12 rfl rfl ?_
        refine gx_lcmp (q := 14) hG d_X_highestOf_13 rfl (by have := bi_01 (m.testBit (k + 1) = true); omega) (by have := bi_01 (m.testBit (k + 1) = true); omega) ?_
        refine gx_if_ne (tgt := 19) (q := 17) hG d_X_highestOf_14 rfl rfl (cmp3_R _ _) (fun c14 => ?_) (fun c14 => ?_)
        · have c14 := cmp3_ne.mp c14
          have c2 := bi_eq0.mp (show bi (m.testBit (k + 1) = true) = 0 by have := bi_01 (m.testBit (k + 1) = true); omega)
          refine gx_iinc2 (q := 22) hG d_X_highestOf_19 rfl rfl ?_
          rw [show (((k + 1 : Nat) : Int) + (-1)) = (k : Int) by omega]
          refine gx_goto (tgt := 3) hG d_X_highestOf_22 rfl ?_
          exact ih (by omega) (fun u hu hu2 => (Nat.eq_or_lt_of_le hu).elim (fun e => by rw [← e]; simpa using c2) (fun e => h2 u e hu2))
        · have c14 := cmp3_eq.mp c14
          have c2 := bi_eq1.mp c14
          refine gx_iload2 (q := 18) hG d_X_highestOf_17 rfl ?_
          refine gx_ireturn hG d_X_highestOf_18 rfl rfl ?_
          exact ⟨w, rfl, _, rfl, rfl, Or.inl ⟨k + 1, rfl, by omega, h1, c2, h2⟩⟩
  refine gx_bipush (q := 2) hG d_X_highestOf_0 rfl rfl ?_
  refine gx_istore2 (q := 3) hG d_X_highestOf_2 rfl rfl ?_
  exact L 60 (by omega) (fun u a b => by omega)
theorem great_mask {m : Nat} {P : Int → Prop} {z : Int} (h : ∀ v : Nat, v ≤ 60 → (m.testBit v = true ↔ P v)) (hz : HighB m z) : GreatA P z := by
  rcases hz with ⟨v, rfl, a0, a1, a2, a3⟩ | ⟨rfl, a1⟩
  · refine Or.inl ⟨by omega, by omega, (h v a1).mp a2, fun u u1 u2 q => ?_⟩
    obtain ⟨k, rfl⟩ := Int.eq_ofNat_of_zero_le (show 0 ≤ u by omega)
    have := (h k (by omega)).mpr q
    rw [a3 k (by omega) (by omega)] at this
    cases this
  · refine Or.inr ⟨rfl, fun u u1 u2 q => ?_⟩
    obtain ⟨k, rfl⟩ := Int.eq_ofNat_of_zero_le (show 0 ≤ u by omega)
    have := (h k (by omega)).mpr q
    rw [a1 k (by omega) (by omega)] at this
    cases this
theorem ev_Gm_pairNumber {w : Mem} {a : Int} (h : GI w a) : EvY y_Gm_pairNumber b_Gm_pairNumber 1 (some .int) (4) [Vr a] w (fun z => ∃ g, GreatA (fun v => ¬ hd w a v) g ∧ z = g - lastN w a) := by
  refine Ev.mk (isI := false) (by decide +kernel) nofun (Nat.le_of_ble_eq_true rfl) (fun G hG => ?_)
  show G 0 [some (Vr a)] [] 102 (hp w)
  obtain ⟨m, e1, e2, e3⟩ := GI_bits h
  have hg := h.1
  refine gx_aload0 (q := 1) hG d_Gm_pairNumber_0 rfl ?_
  refine gw_V0X (q := 4) hG l_Gm_51 c_Gm_open (ev_Gm_open hg e1) (hpGame hg) rfl (by decide) (Nat.le_of_ble_eq_true rfl) d_Gm_pairNumber_1 rfl (by decide) ?_
  refine gw_N1Y (q := 7) hG n_Gm_69 s_X_highestOf c_X_highestOf (ev_X_highestOf (Nat.lt_trans (opn_lt m) (by decide))) (by decide) (Nat.le_of_ble_eq_true rfl) d_Gm_pairNumber_4 rfl (by decide) (fun z4 h4 => ?_)
  refine gx_aload0 (q := 8) hG d_Gm_pairNumber_7 rfl ?_
  refine gw_V0X (q := 11) hG l_Gm_72 c_Gm_last (ev_Gm_last hg h.2.1) (hpGame hg) rfl (by decide) (Nat.le_of_ble_eq_true rfl) d_Gm_pairNumber_8 rfl (by decide) ?_
  refine gx_isub (q := 12) hG d_Gm_pairNumber_11 rfl ?_
  refine gx_ireturn hG d_Gm_pairNumber_12 rfl rfl ?_
  exact ⟨w, rfl, _, rfl, rfl, z4, great_mask (opn_iff e3) h4, rfl⟩
def over (w : Mem) (a : Int) : Prop := lastN w a = 1 ∨ ∀ v : Int, 1 ≤ v → v ≤ 60 → hd w a v
theorem open_zero {m : Nat} {P : Int → Prop} (h : ∀ v : Nat, v ≤ 60 → (m.testBit v = true ↔ P v)) (h0 : P 0) : opn m = 0 ↔ ∀ u : Int, 1 ≤ u → u ≤ 60 → P u := by
  constructor
  · intro e u u1 u2
    obtain ⟨k, rfl⟩ := Int.eq_ofNat_of_zero_le (show 0 ≤ u by omega)
    refine Classical.byContradiction fun q => ?_
    have := (opn_iff h k (by omega)).mpr q
    rw [e, Nat.zero_testBit] at this
    cases this
  · intro q
    refine mask_zero (opn_lt m) (fun v hv => ?_)
    cases hc : (opn m).testBit v
    · rfl
    · exfalso
      have b := (opn_iff h v hv).mp hc
      have b3 : v ≠ 0 := fun z => b (by rw [z]; exact h0)
      exact b (q v (by omega) (by omega))
theorem ev_Gm_isOver {w : Mem} {a : Int} (h : GI w a) : EvX y_Gm_isOver b_Gm_isOver 1 (some .boolean) (3) [Vr a] w (Vi (bi (over w a))) := by
  refine Ev.mk (isI := false) (by decide +kernel) nofun (Nat.le_of_ble_eq_true rfl) (fun G hG => ?_)
  show G 0 [some (Vr a)] [] 102 (hp w)
  obtain ⟨m, e1, e2, e3⟩ := GI_bits h
  have hg := h.1
  have hno := open_zero e3 hd_zero
  have hol := opn_lt m
  have hlb := lastN_bd h
  have hl0 : lastN w a = if 1 ≤ w a 1 then w (a + 1) (w a 1 - 1) else 0 := rfl
  refine gx_aload0 (q := 1) hG d_Gm_isOver_0 rfl ?_
  refine gw_V0X (q := 4) hG l_Gm_72 c_Gm_last (ev_Gm_last hg h.2.1) (hpGame hg) rfl (by decide) (Nat.le_of_ble_eq_true rfl) d_Gm_isOver_1 rfl (by decide) ?_
  rw [← hl0]
  refine gx_iconst (q := 5) hG d_Gm_isOver_4 rfl ?_
  refine gx_icmp_eq (tgt := 17) (q := 8) hG d_Gm_isOver_5 rfl rfl (by omega) (by omega) (fun c5 => ?_) (fun c5 => ?_)
  · refine gx_iconst (q := 18) hG d_Gm_isOver_17 rfl ?_
    refine gx_goto (tgt := 22) hG d_Gm_isOver_18 rfl ?_
    refine gx_zreturn hG d_Gm_isOver_22 rfl rfl (by first | exact bi_01 _ | decide | omega) ?_
    first
      | exact ⟨w, rfl, congrArg (fun z => some (Vi z)) (bi_t (Or.inl (by omega))).symm, rfl⟩
      | exact ⟨w, rfl, congrArg (fun z => some (Vi z)) (bi_t (Or.inr (hno.mp (by omega)))).symm, rfl⟩
      | exact ⟨w, rfl, congrArg (fun z => some (Vi z)) (bi_f (fun z => z.elim (fun q => by omega) (fun q => by have := hno.mpr q; omega))).symm, rfl⟩
  · refine gx_aload0 (q := 9) hG d_Gm_isOver_8 rfl ?_
    refine gw_V0X (q := 12) hG l_Gm_51 c_Gm_open (ev_Gm_open hg e1) (hpGame hg) rfl (by decide) (Nat.le_of_ble_eq_true rfl) d_Gm_isOver_9 rfl (by decide) ?_
    refine gx_lconst (q := 13) hG 0 d_Gm_isOver_12 rfl rfl ?_
    refine gx_lcmp (q := 14) hG d_Gm_isOver_13 rfl (by omega) (by omega) ?_
    refine gx_if_ne (tgt := 21) (q := 17) hG d_Gm_isOver_14 rfl rfl (cmp3_R _ _) (fun c14 => ?_) (fun c14 => ?_)
    · have c14 := cmp3_ne.mp c14
      refine gx_iconst (q := 22) hG d_Gm_isOver_21 rfl ?_
      refine gx_zreturn hG d_Gm_isOver_22 rfl rfl (by first | exact bi_01 _ | decide | omega) ?_
      first
        | exact ⟨w, rfl, congrArg (fun z => some (Vi z)) (bi_t (Or.inl (by omega))).symm, rfl⟩
        | exact ⟨w, rfl, congrArg (fun z => some (Vi z)) (bi_t (Or.inr (hno.mp (by omega)))).symm, rfl⟩
        | exact ⟨w, rfl, congrArg (fun z => some (Vi z)) (bi_f (fun z => z.elim (fun q => by omega) (fun q => by have := hno.mpr q; omega))).symm, rfl⟩
    · have c14 := cmp3_eq.mp c14
      refine gx_iconst (q := 18) hG d_Gm_isOver_17 rfl ?_
      refine gx_goto (tgt := 22) hG d_Gm_isOver_18 rfl ?_
      refine gx_zreturn hG d_Gm_isOver_22 rfl rfl (by first | exact bi_01 _ | decide | omega) ?_
      first
        | exact ⟨w, rfl, congrArg (fun z => some (Vi z)) (bi_t (Or.inl (by omega))).symm, rfl⟩
        | exact ⟨w, rfl, congrArg (fun z => some (Vi z)) (bi_t (Or.inr (hno.mp (by omega)))).symm, rfl⟩
        | exact ⟨w, rfl, congrArg (fun z => some (Vi z)) (bi_f (fun z => z.elim (fun q => by omega) (fun q => by have := hno.mpr q; omega))).symm, rfl⟩
noncomputable def loserN (w : Mem) (a : Int) : Int := @ite _ (over w a) (Classical.propDecidable _) (if lastN w a = 1 then (w a 1 - 1) % 2 else w a 1 % 2) (-9)
theorem ev_Gm_loser {w : Mem} {a : Int} (h : GI w a) : EvX y_Gm_loser b_Gm_loser 1 (some .int) (4) [Vr a] w (Vi (loserN w a)) := by
  refine Ev.mk (isI := false) (by decide +kernel) nofun (Nat.le_of_ble_eq_true rfl) (fun G hG => ?_)
  show G 0 [some (Vr a)] [] 102 (hp w)
  have hg := h.1
  have hlb := lastN_bd h
  have hl0 : lastN w a = if 1 ≤ w a 1 then w (a + 1) (w a 1 - 1) else 0 := rfl
  have hsz := h.2.1
  have hl1 : lastN w a = 1 → 1 ≤ w a 1 := fun e => by rw [hl0] at e; split at e <;> omega
  refine gx_aload0 (q := 1) hG d_Gm_loser_0 rfl ?_
  refine gw_V0X (q := 4) hG l_Gm_76 c_Gm_isOver (ev_Gm_isOver (by assumption)) (hpGame hg) rfl (by decide) (Nat.le_of_ble_eq_true rfl) d_Gm_loser_1 rfl (by decide) ?_
  refine gx_if_ne (tgt := 10) (q := 7) hG d_Gm_loser_4 rfl rfl (bi_R _) (fun c4 => ?_) (fun c4 => ?_)
  · have c4 := bi_ne0.mp c4
    refine gx_aload0 (q := 11) hG d_Gm_loser_10 rfl ?_
    refine gw_V0X (q := 14) hG l_Gm_72 c_Gm_last (ev_Gm_last hg h.2.1) (hpGame hg) rfl (by decide) (Nat.le_of_ble_eq_true rfl) d_Gm_loser_11 rfl (by decide) ?_
    rw [← hl0]
    refine gx_iconst (q := 15) hG d_Gm_loser_14 rfl ?_
    refine gx_icmp_ne (tgt := 29) (q := 18) hG d_Gm_loser_15 rfl rfl (by omega) (by omega) (fun c15 => ?_) (fun c15 => ?_)
    · refine gx_aload0 (q := 30) hG d_Gm_loser_29 rfl ?_
      refine gx_get (q := 33) hG f_Gm_23 (hpGame hg) rfl d_Gm_loser_30 rfl ?_
      refine gx_iconst (q := 34) hG d_Gm_loser_33 rfl ?_
      refine gx_irem (q := 35) hG d_Gm_loser_34 rfl (by omega) (by omega) (by omega) (by omega) ?_
      refine gx_ireturn hG d_Gm_loser_35 rfl rfl ?_
      refine ⟨w, rfl, congrArg (fun z => some (Vi z)) ?_, rfl⟩
      unfold loserN
      first
        | (rw [if_neg c4]; done)
        | (rw [if_pos c4, if_pos (by omega)]; done)
        | (rw [if_pos c4, if_neg (by omega)]; done)
    · have := hl1 (by omega)
      refine gx_aload0 (q := 19) hG d_Gm_loser_18 rfl ?_
      refine gx_get (q := 22) hG f_Gm_23 (hpGame hg) rfl d_Gm_loser_19 rfl ?_
      refine gx_iconst (q := 23) hG d_Gm_loser_22 rfl ?_
      refine gx_isub (q := 24) hG d_Gm_loser_23 rfl ?_
      refine gx_iconst (q := 25) hG d_Gm_loser_24 rfl ?_
      refine gx_irem (q := 26) hG d_Gm_loser_25 rfl (by omega) (by omega) (by omega) (by omega) ?_
      refine gx_goto (tgt := 35) hG d_Gm_loser_26 rfl ?_
      refine gx_ireturn hG d_Gm_loser_35 rfl rfl ?_
      refine ⟨w, rfl, congrArg (fun z => some (Vi z)) ?_, rfl⟩
      unfold loserN
      first
        | (rw [if_neg c4]; done)
        | (rw [if_pos c4, if_pos (by omega)]; done)
        | (rw [if_pos c4, if_neg (by omega)]; done)
  · have c4 := bi_eq0.mp c4
    refine gx_bipush (q := 9) hG d_Gm_loser_7 rfl rfl ?_
    refine gx_ireturn hG d_Gm_loser_9 rfl rfl ?_
    refine ⟨w, rfl, congrArg (fun z => some (Vi z)) ?_, rfl⟩
    unfold loserN
    first
      | (rw [if_neg c4]; done)
      | (rw [if_pos c4, if_pos (by omega)]; done)
      | (rw [if_pos c4, if_neg (by omega)]; done)
theorem ev_Gm_divisor {w : Mem} {a : Int} (hg : isG a) (hs : 0 ≤ w a 1 ∧ w a 1 ≤ 13) (hn : ∀ i : Int, 0 ≤ i → i < w a 1 → 1 ≤ w (a + 1) i ∧ w (a + 1) i ≤ 60) : EvX y_Gm_divisor b_Gm_divisor 3 (some .int) (2) [Vr a] w (Vi (gN (w (a + 1)) (w a 1).toNat : Nat)) := by
  refine Ev.mk (isI := false) (by decide +kernel) nofun (Nat.le_of_ble_eq_true rfl) (fun G hG => ?_)
  show G 0 [some (Vr a), none, none] [] 102 (hp w)
  have L : ∀ (j k : Nat), (k : Int) + j = w a 1 → G 4 [some (Vr a), some (Vi (gN (w (a + 1)) k : Nat)), some (Vi (k : Int))] [] 102 (hp w) := by
    intro j
    induction j with
    | zero =>
      intro k h1
      refine gx_iload2 (q := 5) hG d_Gm_divisor_4 rfl ?_
      refine gx_aload0 (q := 6) hG d_Gm_divisor_5 rfl ?_
      refine gx_get (q := 9) hG f_Gm_23 (hpGame hg) rfl d_Gm_divisor_6 rfl ?_
      refine gx_icmp_ge (tgt := 29) (q := 12) hG d_Gm_divisor_9 rfl rfl (by omega) (by omega) (fun c9 => ?_) (fun c9 => ?_)
      · refine gx_iload1 (q := 30) hG d_Gm_divisor_29 rfl ?_
        refine gx_ireturn hG d_Gm_divisor_30 rfl rfl ?_
        exact ⟨w, rfl, by rw [show (w a 1).toNat = k by omega], rfl⟩
      · exfalso; omega
    | succ j ih =>
      intro k h1
      have hk := hn k (by omega) (by omega)
      have hgl := gN_le (num := w (a + 1)) k (fun i i0 i1 => hn i i0 (by omega))
      obtain ⟨nn, hnn⟩ := Int.eq_ofNat_of_zero_le (show 0 ≤ w (a + 1) k by omega)
      have hst : Nat.gcd (gN (w (a + 1)) k) nn = gN (w (a + 1)) (k + 1) := by
        show _ = Nat.gcd _ (w (a + 1) k).toNat
        rw [hnn]; rfl
      refine gx_iload2 (q := 5) hG d_Gm_divisor_4 rfl ?_
      refine gx_aload0 (q := 6) hG d_Gm_divisor_5 rfl ?_
      refine gx_get (q := 9) hG f_Gm_23 (hpGame hg) rfl d_Gm_divisor_6 rfl ?_
      refine gx_icmp_ge (tgt := 29) (q := 12) hG d_Gm_divisor_9 rfl rfl (by omega) (by omega) (fun c9 => ?_) (fun c9 => ?_)
      · exfalso; omega
      · refine gx_iload1 (q := 13) hG d_Gm_divisor_12 rfl ?_
        refine gx_aload0 (q := 14) hG d_Gm_divisor_13 rfl ?_
        refine gx_get (q := 17) hG f_Gm_9 (hpGame hg) rfl d_Gm_divisor_14 rfl ?_
        refine gx_iload2 (q := 18) hG d_Gm_divisor_17 rfl ?_
        refine gw_iald (q := 19) hG (shp_gameA hg) (by omega) (by omega) d_Gm_divisor_18 rfl ?_
        rw [hnn]
        refine gw_N2X (q := 22) hG n_Gm_43 s_X_divisorOf c_X_divisorOf (ev_X_divisorOf (x := gN (w (a + 1)) k) (y := nn) (by omega) (by omega)) (by decide) (Nat.le_of_ble_eq_true rfl) d_Gm_divisor_19 rfl (by decide) ?_
        rw [hst]
        refine gx_istore1 (q := 23) hG d_Gm_divisor_22 rfl rfl ?_
        refine gx_iinc2 (q := 26) hG d_Gm_divisor_23 rfl rfl ?_
        refine gx_goto (tgt := 4) hG d_Gm_divisor_26 rfl ?_
        exact ih (k + 1) (by omega)
  refine gx_iconst (q := 1) hG d_Gm_divisor_0 rfl ?_
  refine gx_istore1 (q := 2) hG d_Gm_divisor_1 rfl rfl ?_
  refine gx_iconst (q := 3) hG d_Gm_divisor_2 rfl ?_
  refine gx_istore2 (q := 4) hG d_Gm_divisor_3 rfl rfl ?_
  exact L (w a 1).toNat 0 (by omega)
/-- the numbers but the one in place i -/
def wo (num : Int → Int) (i : Int) : Int → Int := fun j => if i < 0 ∨ j < i then num j else num (j + 1)
theorem wo_none {num : Int → Int} {i : Int} (h : i < 0) : wo num i = num := funext fun j => if_pos (Or.inl h)
theorem ev_Gm_reachedWithout {w : Mem} {a i : Int} (hg : isG a) (hs : 0 ≤ w a 1 ∧ w a 1 ≤ 13) (hl : w a 2 = 0 ∨ w a 2 = 1 ∨ w a 2 = 2) (hn : ∀ i : Int, 0 ≤ i → i < w a 1 → 1 ≤ w (a + 1) i ∧ w (a + 1) i ≤ 60) (hi : i < w a 1) (hi2 : R3 i) : EvZ y_Gm_reachedWithout b_Gm_reachedWithout 5 (some .long) (4) [Vr a, Vi i] w (fun z => Mk z (rch (w a 2) (wo (w (a + 1)) i) (if 0 ≤ i then (w a 1).toNat - 1 else (w a 1).toNat))) := by
  refine Ev.mk (isI := false) (by decide +kernel) nofun (Nat.le_of_ble_eq_true rfl) (fun G hG => ?_)
  show G 0 [some (Vr a), some (Vi i), none, none, none] [] 102 (hp w)
  have L : ∀ (j k q m : Nat), (k : Int) + j = w a 1 → (q : Int) = (if 0 ≤ i ∧ i < k then (k : Int) - 1 else k) → m < 2 ^ 61 → (∀ v : Nat, v ≤ 60 → (m.testBit v = true ↔ rch (w a 2) (wo (w (a + 1)) i) q v)) → G 5 [some (Vr a), some (Vi i), some (Vj (m : Int)), none, some (Vi (k : Int))] [] 102 (hp w) := by
    intro j
    induction j with
    | zero =>
      intro k q m h1 h2 h3 h4
      refine gx_iload4 (q := 7) hG d_Gm_reachedWithout_5 rfl ?_
      refine gx_aload0 (q := 8) hG d_Gm_reachedWithout_7 rfl ?_
      refine gx_get (q := 11) hG f_Gm_23 (hpGame hg) rfl d_Gm_reachedWithout_8 rfl ?_
      refine gx_icmp_ge (tgt := 42) (q := 14) hG d_Gm_reachedWithout_11 rfl rfl (by omega) (by omega) (fun c11 => ?_) (fun c11 => ?_)
      · refine gx_lload2 (q := 43) hG d_Gm_reachedWithout_42 rfl ?_
        refine gx_lreturn hG d_Gm_reachedWithout_43 rfl rfl ?_
        refine ⟨w, rfl, _, rfl, rfl, m, rfl, h3, fun v hv => ?_⟩
        rw [h4 v hv]
        have e : q = (if 0 ≤ i then (w a 1).toNat - 1 else (w a 1).toNat) := by
          by_cases e : 0 ≤ i
          · rw [if_pos e]; rw [if_pos (by omega)] at h2; omega
          · rw [if_neg e]; rw [if_neg (by omega)] at h2; omega
        rw [e]
      · exfalso; omega
    | succ j ih =>
      intro k q m h1 h2 h3 h4
      have hk := hn k (by omega) (by omega)
      obtain ⟨nn, hnn⟩ := Int.eq_ofNat_of_zero_le (show 0 ≤ w (a + 1) k by omega)
      have hrange : ∀ x : Int, 0 ≤ x → x < q + 1 → (q : Int) < w a 1 - (if 0 ≤ i then 1 else 0) → 1 ≤ wo (w (a + 1)) i x ∧ wo (w (a + 1)) i x ≤ 60 := by
        intro x x0 x1 x2
        unfold wo
        split
        · exact hn x x0 (by split at x2 <;> omega)
        · exact hn (x + 1) (by omega) (by split at x2 <;> omega)
      refine gx_iload4 (q := 7) hG d_Gm_reachedWithout_5 rfl ?_
      refine gx_aload0 (q := 8) hG d_Gm_reachedWithout_7 rfl ?_
      refine gx_get (q := 11) hG f_Gm_23 (hpGame hg) rfl d_Gm_reachedWithout_8 rfl ?_
      refine gx_icmp_ge (tgt := 42) (q := 14) hG d_Gm_reachedWithout_11 rfl rfl (by omega) (by omega) (fun c11 => ?_) (fun c11 => ?_)
      · exfalso; omega
      · refine gx_iload4 (q := 16) hG d_Gm_reachedWithout_14 rfl ?_
        refine gx_iload1 (q := 17) hG d_Gm_reachedWithout_16 rfl ?_
        refine gx_icmp_eq (tgt := 36) (q := 20) hG d_Gm_reachedWithout_17 rfl rfl (by omega) (by omega) (fun c17 => ?_) (fun c17 => ?_)
        · have hq : (q : Int) = k := by rw [h2, if_neg (by omega)]
          refine gx_iinc4 (q := 39) hG d_Gm_reachedWithout_36 rfl rfl ?_
          refine gx_goto (tgt := 5) hG d_Gm_reachedWithout_39 rfl ?_
          first
            | exact ih (k + 1) (q + 1) m2 (by omega) (by by_cases e : 0 ≤ i ∧ i < k; (· rw [if_pos e] at h2; rw [if_pos (by omega)]; omega); (· rw [if_neg e] at h2; rw [if_neg (by omega)]; omega)) g2 g3
            | exact ih (k + 1) q m (by omega) (by rw [if_pos (by omega)]; omega) h3 h4
        · have hq2 : wo (w (a + 1)) i (q : Int) = (nn : Int) := by
            unfold wo
            by_cases e : 0 ≤ i ∧ i < k
            · rw [if_pos e] at h2
              rw [if_neg (by omega), show (q : Int) + 1 = k by omega, hnn]
            · rw [if_neg e] at h2
              rw [if_pos (by omega), h2, hnn]
          refine gx_aload0 (q := 21) hG d_Gm_reachedWithout_20 rfl ?_
          refine gx_get (q := 24) hG f_Gm_19 (hpGame hg) rfl d_Gm_reachedWithout_21 rfl ?_
          refine gx_lload2 (q := 25) hG d_Gm_reachedWithout_24 rfl ?_
          refine gx_aload0 (q := 26) hG d_Gm_reachedWithout_25 rfl ?_
          refine gx_get (q := 29) hG f_Gm_9 (hpGame hg) rfl d_Gm_reachedWithout_26 rfl ?_
          refine gx_iload4 (q := 31) hG d_Gm_reachedWithout_29 rfl ?_
          refine gw_iald (q := 32) hG (shp_gameA hg) (by omega) (by omega) d_Gm_reachedWithout_31 rfl ?_
          rw [hnn]
          refine gw_S3Z (q := 35) hG l_Gm_82 c_Gm_widened (ev_Gm_widened (num := wo (w (a + 1)) i) (k := q) hl h3 h4 (fun x x0 x1 => hrange x x0 x1 (by by_cases e : 0 ≤ i; (· rw [if_pos e]; by_cases e2 : i < k; (· rw [if_pos ⟨e, e2⟩] at h2; omega); (· rw [if_neg (by omega)] at h2; omega)); (· rw [if_neg e]; rw [if_neg (by omega)] at h2; omega))) hq2) (by decide) (Nat.le_of_ble_eq_true rfl) d_Gm_reachedWithout_32 rfl (by decide) (fun z32 h32 => ?_)
          obtain ⟨m2, rfl, g2, g3⟩ := h32
          refine gx_lstore2 (q := 36) hG d_Gm_reachedWithout_35 rfl rfl ?_
          refine gx_iinc4 (q := 39) hG d_Gm_reachedWithout_36 rfl rfl ?_
          refine gx_goto (tgt := 5) hG d_Gm_reachedWithout_39 rfl ?_
          first
            | exact ih (k + 1) (q + 1) m2 (by omega) (by by_cases e : 0 ≤ i ∧ i < k; (· rw [if_pos e] at h2; rw [if_pos (by omega)]; omega); (· rw [if_neg e] at h2; rw [if_neg (by omega)]; omega)) g2 g3
            | exact ih (k + 1) q m (by omega) (by rw [if_pos (by omega)]; omega) h3 h4
  obtain ⟨m0, e0, g2, g3⟩ := Mk_one (P := rch (w a 2) (wo (w (a + 1)) i) 0) rch_zero (fun v v0 v1 => by
    rintro (⟨-, z | ⟨z, -⟩⟩ | ⟨-, z⟩)
    · omega
    · exact absurd (show 0 < 0 from z) (by decide)
    · have z : v = 0 := z
      omega)
  have e0 : m0 = 1 := by omega
  subst e0
  refine gx_lconst (q := 1) hG 1 d_Gm_reachedWithout_0 rfl rfl ?_
  refine gx_lstore2 (q := 2) hG d_Gm_reachedWithout_1 rfl rfl ?_
  refine gx_iconst (q := 3) hG d_Gm_reachedWithout_2 rfl ?_
  refine gx_istore4 (q := 5) hG d_Gm_reachedWithout_3 rfl rfl ?_
  exact L (w a 1).toNat 0 0 1 (by omega) (by rw [if_neg (by omega)]) g2 g3
theorem ev_Gm_cut {w : Mem} {a i : Int} (h : GI w a) (hi : 0 ≤ i ∧ i ≤ w a 1) : EvV y_Gm_cut b_Gm_cut 2 none (5) [Vr a, Vi i] w (fun w' => GI w' a ∧ w' a 1 = i ∧ w' a 2 = w a 2 ∧ ∀ b, b ≠ a → w' b = w b) := by
  refine Ev.mk (isI := false) (by decide +kernel) nofun (Nat.le_of_ble_eq_true rfl) (fun G hG => ?_)
  show G 0 [some (Vr a), some (Vi i)] [] 102 (hp w)
  have hg := h.1
  have hsz := h.2.1
  have ha1 : a ≠ a + 1 := by omega
  have hnn : ∀ j : Int, 0 ≤ j → j < wu w a 1 i a 1 → 1 ≤ wu w a 1 i (a + 1) j ∧ wu w a 1 i (a + 1) j ≤ 60 := fun j j0 j1 => by
    rw [wu_eq] at j1
    rw [wu_ne (by omega)]
    exact h.2.2.2.1 j j0 (by omega)
  refine gx_aload0 (q := 1) hG d_Gm_cut_0 rfl ?_
  refine gx_iload1 (q := 2) hG d_Gm_cut_1 rfl ?_
  refine gw_puti (q := 5) hG f_Gm_23 (hpGame hg) (Nat.le_of_ble_eq_true rfl) vfit_i (Or.inl rfl) d_Gm_cut_2 rfl 1 rfl (hpGm1 hg) ?_
  refine gx_aload0 (q := 6) hG d_Gm_cut_5 rfl ?_
  refine gx_aload0 (q := 7) hG d_Gm_cut_6 rfl ?_
  refine gx_bipush (q := 9) hG d_Gm_cut_7 rfl rfl ?_
  refine gw_V1Z (q := 12) hG l_Gm_34 c_Gm_reachedWithout (ev_Gm_reachedWithout hg (by rw [wu_eq]; omega) (by rw [wu_pl (by decide)]; exact h.2.2.1) hnn (by rw [wu_eq]; omega) (by decide)) (hpGame hg) rfl (by decide) (Nat.le_of_ble_eq_true rfl) d_Gm_cut_9 rfl (by decide) (fun z9 h9 => ?_)
  refine gw_putj (q := 15) hG f_Gm_15 (hpGame hg) (Nat.le_of_ble_eq_true rfl) vfit_l (Or.inl rfl) d_Gm_cut_12 rfl 3 rfl (hpGm3 hg) ?_
  refine gx_return hG d_Gm_cut_15 rfl rfl ?_
  refine ⟨_, rfl, rfl, ?_, ?_, ?_, ?_⟩
  · refine ⟨hg, by rw [wu_pl (by decide), wu_eq]; omega, by rw [wu_pl (by decide), wu_pl (by decide)]; exact h.2.2.1, fun j j0 j1 => ?_, ?_⟩
    · rw [wu_pl (by decide)] at j1
      rw [wu_ne (by omega)]
      exact hnn j j0 j1
    · rw [if_neg (by decide), wo_none (by decide)] at h9
      have k2 : wu (wu w a 1 i) a 3 z9 a 2 = wu w a 1 i a 2 := wu_pl (by decide)
      have kA : wu (wu w a 1 i) a 3 z9 (a + 1) = wu w a 1 i (a + 1) := wu_ne (by omega)
      have k1 : wu (wu w a 1 i) a 3 z9 a 1 = wu w a 1 i a 1 := wu_pl (by decide)
      rw [wu_eq, k2, kA, k1]
      exact h9
  · rw [wu_pl (by decide), wu_eq]
  · rw [wu_pl (by decide), wu_pl (by decide)]
  · exact fun b hb => by rw [wu_ne hb, wu_ne hb]
theorem ev_Gm_become {w : Mem} {a c : Int} (h : GI w c) (hg : isG a) (hac : a ≠ c ∧ a + 1 ≠ c ∧ c + 1 ≠ a) : EvV y_Gm_become b_Gm_become 2 none (2) [Vr a, Vr c] w (fun w' => GI w' a ∧ w' a 1 = w c 1 ∧ w' a 2 = w c 2 ∧ (∀ i, 0 ≤ i → i < 13 → w' (a + 1) i = w (c + 1) i) ∧ ∀ b, b ≠ a → b ≠ a + 1 → w' b = w b) := by
  refine Ev.mk (isI := false) (by decide +kernel) nofun (Nat.le_of_ble_eq_true rfl) (fun G hG => ?_)
  show G 0 [some (Vr a), some (Vr c)] [] 102 (hp w)
  have hc := h.1
  obtain ⟨w2, hw2⟩ : ∃ w2, w2 = wc w (a + 1) (cpy (w (c + 1)) (w (a + 1)) 0 0 13) := ⟨_, rfl⟩
  have g1 : ∀ b, b ≠ a + 1 → w2 b = w b := fun b hb => by rw [hw2, wc_ne hb]
  have g2 : ∀ i, 0 ≤ i → i < 13 → w2 (a + 1) i = w (c + 1) i := fun i i0 i1 => by
    rw [hw2, wc_eq]
    unfold cpy
    rw [if_pos (by omega), show 0 + (i - 0) = i by omega]
  refine gx_aload1 (q := 1) hG d_Gm_become_0 rfl ?_
  refine gx_get (q := 4) hG f_Gm_9 (hpGame hc) rfl d_Gm_become_1 rfl ?_
  refine gx_iconst (q := 5) hG d_Gm_become_4 rfl ?_
  refine gx_aload0 (q := 6) hG d_Gm_become_5 rfl ?_
  refine gx_get (q := 9) hG f_Gm_9 (hpGame hg) rfl d_Gm_become_6 rfl ?_
  refine gx_iconst (q := 10) hG d_Gm_become_9 rfl ?_
  refine gx_aload0 (q := 11) hG d_Gm_become_10 rfl ?_
  refine gx_get (q := 14) hG f_Gm_9 (hpGame hg) rfl d_Gm_become_11 rfl ?_
  refine gw_alen (q := 15) hG (shp_gameA hg) (by decide) d_Gm_become_14 rfl ?_
  refine gw_acopy (q := 18) hG l_Gm_37 (shp_gameA hc) (shp_gameA hg) (by decide) (by decide) (by decide) (by decide) (by decide) (by decide) (Nat.le_of_ble_eq_true rfl) d_Gm_become_15 rfl ?_
  rw [show ((13 : Nat) : Int) = 13 from rfl, ← hw2]
  refine gx_aload0 (q := 19) hG d_Gm_become_18 rfl ?_
  refine gx_aload1 (q := 20) hG d_Gm_become_19 rfl ?_
  refine gx_get (q := 23) hG f_Gm_23 (hpGame hc) rfl d_Gm_become_20 rfl ?_
  refine gw_puti (q := 26) hG f_Gm_23 (hpGame hg) (Nat.le_of_ble_eq_true rfl) vfit_i (Or.inl rfl) d_Gm_become_23 rfl 1 rfl (hpGm1 hg) ?_
  refine gx_aload0 (q := 27) hG d_Gm_become_26 rfl ?_
  refine gx_aload1 (q := 28) hG d_Gm_become_27 rfl ?_
  refine gx_get (q := 31) hG f_Gm_19 (hpGame hc) rfl d_Gm_become_28 rfl ?_
  rw [wu_ne hac.1.symm]
  refine gw_puti (q := 34) hG f_Gm_19 (hpGame hg) (Nat.le_of_ble_eq_true rfl) vfit_i (Or.inl rfl) d_Gm_become_31 rfl 2 rfl (hpGm2 hg) ?_
  refine gx_aload0 (q := 35) hG d_Gm_become_34 rfl ?_
  refine gx_aload1 (q := 36) hG d_Gm_become_35 rfl ?_
  refine gx_get (q := 39) hG f_Gm_15 (hpGame hc) rfl d_Gm_become_36 rfl ?_
  rw [wu_ne hac.1.symm, wu_ne hac.1.symm]
  refine gw_putj (q := 42) hG f_Gm_15 (hpGame hg) (Nat.le_of_ble_eq_true rfl) vfit_l (Or.inl rfl) d_Gm_become_39 rfl 3 rfl (hpGm3 hg) ?_
  refine gx_return hG d_Gm_become_42 rfl rfl ?_
  refine ⟨_, rfl, rfl, ?_, ?_, ?_, ?_, ?_⟩
  · refine ⟨hg, ?_, ?_, fun j j0 j1 => ?_, ?_⟩
    · rw [wu_pl (by decide), wu_pl (by decide), wu_eq, g1 c (by omega)]; exact h.2.1
    · rw [wu_pl (by decide), wu_eq, g1 c (by omega)]; exact h.2.2.1
    · rw [wu_pl (by decide), wu_pl (by decide), wu_eq, g1 c (by omega)] at j1
      have := h.2.1
      rw [wu_ne (by omega), wu_ne (by omega), wu_ne (by omega), g2 j j0 (by omega)]
      exact h.2.2.2.1 j j0 j1
    · rw [wu_eq, wu_pl (by decide), wu_eq, wu_pl (by decide), wu_pl (by decide), wu_eq, wu_ne (show a + 1 ≠ a by omega), wu_ne (show a + 1 ≠ a by omega), wu_ne (show a + 1 ≠ a by omega), g1 c (by omega)]
      have := h.2.1
      exact Mk_congr h.2.2.2.2 (fun v v0 v1 => rch_congr (fun i i0 i1 => (g2 i i0 (by omega)).symm) v)
  · rw [wu_pl (by decide), wu_pl (by decide), wu_eq, g1 c (by omega)]
  · rw [wu_pl (by decide), wu_eq, g1 c (by omega)]
  · exact fun i i0 i1 => by rw [wu_ne (by omega), wu_ne (by omega), wu_ne (by omega), g2 i i0 i1]
  · exact fun b b1 b2 => by rw [wu_ne b1, wu_ne b1, wu_ne b1, g1 b b2]
def dg (num : Int → Int) : Nat → Int → Int
  | 0, h => h
  | k + 1, h => 31 * dg num k h + num k
theorem ev_Gm_digestNumbers {w : Mem} {a x : Int} (hg : isG a) (hs : 0 ≤ w a 1 ∧ w a 1 ≤ 13) (hn : ∀ i : Int, 0 ≤ i → i < w a 1 → 1 ≤ w (a + 1) i ∧ w (a + 1) i ≤ 60) : EvX y_Gm_digestNumbers b_Gm_digestNumbers 6 (some .long) (2) [Vr a, Vj x] w (Vj (dg (w (a + 1)) (w a 1).toNat x)) := by
  refine Ev.mk (isI := false) (by decide +kernel) nofun (Nat.le_of_ble_eq_true rfl) (fun G hG => ?_)
  show G 0 [some (Vr a), some (Vj x), none, none, none, none] [] 102 (hp w)
  have L : ∀ (j k : Nat), (k : Int) + j = w a 1 → G 5 [some (Vr a), some (Vj x), none, some (Vj (dg (w (a + 1)) k x)), none, some (Vi (k : Int))] [] 102 (hp w) := by
    intro j
    induction j with
    | zero =>
      intro k h1
      refine gx_iload5 (q := 7) hG d_Gm_digestNumbers_5 rfl ?_
      refine gx_aload0 (q := 8) hG d_Gm_digestNumbers_7 rfl ?_
      refine gx_get (q := 11) hG f_Gm_23 (hpGame hg) rfl d_Gm_digestNumbers_8 rfl ?_
      refine gx_icmp_ge (tgt := 35) (q := 14) hG d_Gm_digestNumbers_11 rfl rfl (by omega) (by omega) (fun c11 => ?_) (fun c11 => ?_)
      · refine gx_lload3 (q := 36) hG d_Gm_digestNumbers_35 rfl ?_
        refine gx_lreturn hG d_Gm_digestNumbers_36 rfl rfl ?_
        exact ⟨w, rfl, by rw [show (w a 1).toNat = k by omega], rfl⟩
      · exfalso; omega
    | succ j ih =>
      intro k h1
      have hk := hn k (by omega) (by omega)
      refine gx_iload5 (q := 7) hG d_Gm_digestNumbers_5 rfl ?_
      refine gx_aload0 (q := 8) hG d_Gm_digestNumbers_7 rfl ?_
      refine gx_get (q := 11) hG f_Gm_23 (hpGame hg) rfl d_Gm_digestNumbers_8 rfl ?_
      refine gx_icmp_ge (tgt := 35) (q := 14) hG d_Gm_digestNumbers_11 rfl rfl (by omega) (by omega) (fun c11 => ?_) (fun c11 => ?_)
      · exfalso; omega
      · refine gx_ldc2 (q := 17) hG (31) k_Gm_80 d_Gm_digestNumbers_14 rfl rfl ?_
        refine gx_lload3 (q := 18) hG d_Gm_digestNumbers_17 rfl ?_
        refine gx_lmul (q := 19) hG d_Gm_digestNumbers_18 rfl ?_
        refine gx_aload0 (q := 20) hG d_Gm_digestNumbers_19 rfl ?_
        refine gx_get (q := 23) hG f_Gm_9 (hpGame hg) rfl d_Gm_digestNumbers_20 rfl ?_
        refine gx_iload5 (q := 25) hG d_Gm_digestNumbers_23 rfl ?_
        refine gw_iald (q := 26) hG (shp_gameA hg) (by omega) (by omega) d_Gm_digestNumbers_25 rfl ?_
        refine gx_i2l (q := 27) hG d_Gm_digestNumbers_26 rfl (by omega) ?_
        refine gx_ladd (q := 28) hG d_Gm_digestNumbers_27 rfl ?_
        refine gx_lstore3 (q := 29) hG d_Gm_digestNumbers_28 rfl rfl ?_
        refine gx_iinc5 (q := 32) hG d_Gm_digestNumbers_29 rfl rfl ?_
        refine gx_goto (tgt := 5) hG d_Gm_digestNumbers_32 rfl ?_
        exact ih (k + 1) (by omega)
  refine gx_lload1 (q := 1) hG d_Gm_digestNumbers_0 rfl ?_
  refine gx_lstore3 (q := 2) hG d_Gm_digestNumbers_1 rfl rfl ?_
  refine gx_iconst (q := 3) hG d_Gm_digestNumbers_2 rfl ?_
  refine gx_istore5 (q := 5) hG d_Gm_digestNumbers_3 rfl rfl ?_
  exact L (w a 1).toNat 0 (by omega)
theorem ev_Gm_neededBits {w : Mem} {a : Int} (h : GI w a) : EvY y_Gm_neededBits b_Gm_neededBits 3 (some .int) (5) [Vr a] w (fun z => ∃ m : Nat, z = (m : Int) ∧ m < 2 ^ 13 ∧ ∀ i : Nat, i < 13 → (m.testBit i = true ↔ (i : Int) < w a 1 ∧ ¬ rch (w a 2) (wo (w (a + 1)) i) ((w a 1).toNat - 1) (w (a + 1) i))) := by
  refine Ev.mk (isI := false) (by decide +kernel) nofun (Nat.le_of_ble_eq_true rfl) (fun G hG => ?_)
  show G 0 [some (Vr a), none, none] [] 102 (hp w)
  have hg := h.1
  have hsz := h.2.1
  have L : ∀ (j k m : Nat), (k : Int) + j = w a 1 → m < 2 ^ 13 → (∀ i : Nat, i < 13 → (m.testBit i = true ↔ i < k ∧ ¬ rch (w a 2) (wo (w (a + 1)) i) ((w a 1).toNat - 1) (w (a + 1) i))) → G 4 [some (Vr a), some (Vi (m : Int)), some (Vi (k : Int))] [] 102 (hp w) := by
    intro j
    induction j with
    | zero =>
      intro k m h1 h2 h3
      refine gx_iload2 (q := 5) hG d_Gm_neededBits_4 rfl ?_
      refine gx_aload0 (q := 6) hG d_Gm_neededBits_5 rfl ?_
      refine gx_get (q := 9) hG f_Gm_23 (hpGame hg) rfl d_Gm_neededBits_6 rfl ?_
      refine gx_icmp_ge (tgt := 43) (q := 12) hG d_Gm_neededBits_9 rfl rfl (by omega) (by omega) (fun c9 => ?_) (fun c9 => ?_)
      · refine gx_iload1 (q := 44) hG d_Gm_neededBits_43 rfl ?_
        refine gx_ireturn hG d_Gm_neededBits_44 rfl rfl ?_
        exact ⟨w, rfl, _, rfl, rfl, m, rfl, h2, fun i hi => by rw [h3 i hi]; constructor <;> intro q <;> exact ⟨by have := q.1; omega, q.2⟩⟩
      · exfalso; omega
    | succ j ih =>
      intro k m h1 h2 h3
      have hk := h.2.2.2.1 k (by omega) (by omega)
      obtain ⟨nn, hnn⟩ := Int.eq_ofNat_of_zero_le (show 0 ≤ w (a + 1) k by omega)
      have hor : (m ||| 1 <<< k) < 2 ^ 13 := Nat.or_lt_two_pow h2 (by rw [Nat.one_shiftLeft]; exact Nat.pow_lt_pow_right (by decide) (by omega))
      have hob : ∀ i : Nat, (m ||| 1 <<< k).testBit i = (m.testBit i || decide (i = k)) := fun i => by
        rw [Nat.testBit_or, Nat.one_shiftLeft, Nat.testBit_two_pow]
        congr 1
        exact decide_eq_decide.mpr ⟨fun e => e.symm, fun e => e.symm⟩
      refine gx_iload2 (q := 5) hG d_Gm_neededBits_4 rfl ?_
      refine gx_aload0 (q := 6) hG d_Gm_neededBits_5 rfl ?_
      refine gx_get (q := 9) hG f_Gm_23 (hpGame hg) rfl d_Gm_neededBits_6 rfl ?_
      refine gx_icmp_ge (tgt := 43) (q := 12) hG d_Gm_neededBits_9 rfl rfl (by omega) (by omega) (fun c9 => ?_) (fun c9 => ?_)
      · exfalso; omega
      · refine gx_aload0 (q := 13) hG d_Gm_neededBits_12 rfl ?_
        refine gx_iload2 (q := 14) hG d_Gm_neededBits_13 rfl ?_
        refine gw_V1Z (q := 17) hG l_Gm_34 c_Gm_reachedWithout (ev_Gm_reachedWithout hg hsz h.2.2.1 h.2.2.2.1 (by omega) (by omega)) (hpGame hg) rfl (by decide) (Nat.le_of_ble_eq_true rfl) d_Gm_neededBits_14 rfl (by decide) (fun z14 h14 => ?_)
        rw [if_pos (by omega)] at h14
        obtain ⟨m2, rfl, g2, g3⟩ := h14
        refine gx_aload0 (q := 18) hG d_Gm_neededBits_17 rfl ?_
        refine gx_get (q := 21) hG f_Gm_9 (hpGame hg) rfl d_Gm_neededBits_18 rfl ?_
        refine gx_iload2 (q := 22) hG d_Gm_neededBits_21 rfl ?_
        refine gw_iald (q := 23) hG (shp_gameA hg) (by omega) (by omega) d_Gm_neededBits_22 rfl ?_
        rw [hnn]
        refine gx_lshr (q := 24) hG (((m2 >>> nn : Nat) : Int)) d_Gm_neededBits_23 rfl (j_shr m2 nn (by omega) (Nat.lt_trans g2 (by decide))) ?_
        refine gx_lconst (q := 25) hG 1 d_Gm_neededBits_24 rfl rfl ?_
        refine gx_land (q := 26) hG (bi (m2.testBit nn = true)) d_Gm_neededBits_25 rfl (j_bit m2 nn (by omega) (Nat.lt_trans g2 (by decide))) ?_
        refine gx_lconst (q := 27) hG 0 d_Gm_neededBits_26 rfl rfl ?_
        refine gx_lcmp (q := 28) hG d_Gm_neededBits_27 rfl (by have := bi_01 (m2.testBit nn = true); omega) (by have := bi_01 (m2.testBit nn = true); omega) ?_
        refine gx_if_ne (tgt := 37) (q := 31) hG d_Gm_neededBits_28 rfl rfl (cmp3_R _ _) (fun c28 => ?_) (fun c28 => ?_)
        · have c28 := cmp3_ne.mp c28
          have c2 : rch (w a 2) (wo (w (a + 1)) k) ((w a 1).toNat - 1) (w (a + 1) k) := by rw [hnn]; exact (g3 nn (by omega)).mp (bi_ne0.mp c28)
          refine gx_iinc2 (q := 40) hG d_Gm_neededBits_37 rfl rfl ?_
          refine gx_goto (tgt := 4) hG d_Gm_neededBits_40 rfl ?_
          first
            | exact ih (k + 1) m (by omega) h2 (fun i hi => by rw [h3 i hi]; constructor; (· exact fun q => ⟨by omega, q.2⟩); (· exact fun q => ⟨by have := q.1; have e : i ≠ k := fun e => q.2 (e ▸ c2); omega, q.2⟩))
            | exact ih (k + 1) (m ||| 1 <<< k) (by omega) hor (fun i hi => by rw [hob, Bool.or_eq_true, h3 i hi, decide_eq_true_eq]; constructor; (· rintro (q | q); (· exact ⟨by omega, q.2⟩); (· subst q; exact ⟨by omega, c2⟩)); (· intro q; by_cases e : i = k; (· exact Or.inr e); (· exact Or.inl ⟨by omega, q.2⟩)))
        · have c28 := cmp3_eq.mp c28
          have c2 : ¬ rch (w a 2) (wo (w (a + 1)) k) ((w a 1).toNat - 1) (w (a + 1) k) := by rw [hnn]; exact fun q => bi_eq0.mp c28 ((g3 nn (by omega)).mpr q)
          refine gx_iload1 (q := 32) hG d_Gm_neededBits_31 rfl ?_
          refine gx_iconst (q := 33) hG d_Gm_neededBits_32 rfl ?_
          refine gx_iload2 (q := 34) hG d_Gm_neededBits_33 rfl ?_
          refine gx_ishl (q := 35) hG (((1 <<< k : Nat) : Int)) d_Gm_neededBits_34 rfl (i_shl 1 k (by omega)) ?_
          refine gx_ior (q := 36) hG (((m ||| 1 <<< k : Nat) : Int)) d_Gm_neededBits_35 rfl (i_or m (1 <<< k)) ?_
          refine gx_istore1 (q := 37) hG d_Gm_neededBits_36 rfl rfl ?_
          refine gx_iinc2 (q := 40) hG d_Gm_neededBits_37 rfl rfl ?_
          refine gx_goto (tgt := 4) hG d_Gm_neededBits_40 rfl ?_
          first
            | exact ih (k + 1) m (by omega) h2 (fun i hi => by rw [h3 i hi]; constructor; (· exact fun q => ⟨by omega, q.2⟩); (· exact fun q => ⟨by have := q.1; have e : i ≠ k := fun e => q.2 (e ▸ c2); omega, q.2⟩))
            | exact ih (k + 1) (m ||| 1 <<< k) (by omega) hor (fun i hi => by rw [hob, Bool.or_eq_true, h3 i hi, decide_eq_true_eq]; constructor; (· rintro (q | q); (· exact ⟨by omega, q.2⟩); (· subst q; exact ⟨by omega, c2⟩)); (· intro q; by_cases e : i = k; (· exact Or.inr e); (· exact Or.inl ⟨by omega, q.2⟩)))
  refine gx_iconst (q := 1) hG d_Gm_neededBits_0 rfl ?_
  refine gx_istore1 (q := 2) hG d_Gm_neededBits_1 rfl rfl ?_
  refine gx_iconst (q := 3) hG d_Gm_neededBits_2 rfl ?_
  refine gx_istore2 (q := 4) hG d_Gm_neededBits_3 rfl rfl ?_
  exact L (w a 1).toNat 0 0 (by omega) (by decide) (fun i hi => by rw [Nat.zero_testBit]; constructor; (· intro q; cases q); (· intro q; omega))

