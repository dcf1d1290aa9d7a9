/-! part 23: rows; the class's own small methods -/
def fillA (N : Nat) (F : Int → Int) (z : Int) : Int → Int := fun j => if 0 ≤ j ∧ j < N then z else F j
theorem ev_Ar_fillI {w : Mem} {a z : Int} {N : Nat} (hs : shp a = some (0, N)) : EvV y_Ar_fillI b_Ar_fillI 4 none (1) [Vr a, Vi z] w (fun w' => w' = wc w a (fillA N (w a) z)) := by
  refine Ev.mkF (isI := false) (by decide +kernel) nofun (Nat.le_of_ble_eq_true rfl) (fun G hG => ?_)
  show G 0 [some (Vr a), some (Vi z), none, none] [] 102 (hp w)
  have hN := shp_le hs
  have L : ∀ (j k : Nat), k + j = N → G 5 [some (Vr a), some (Vi z), some (Vi (k : Int)), some (Vi (N : Int))] [] 102 (hp (wc w a (fillA k (w a) z))) := by
    intro j
    induction j with
    | zero =>
      intro k h1
      refine gx_iload2 (q := 6) hG d_Ar_fillI_5 rfl ?_
      refine gx_iload3 (q := 7) hG d_Ar_fillI_6 rfl ?_
      refine gx_icmp_ge (tgt := 20) (q := 10) hG d_Ar_fillI_7 rfl rfl (by omega) (by omega) (fun c7 => ?_) (fun c7 => ?_)
      · refine gx_return hG d_Ar_fillI_20 rfl rfl ?_
        exact ⟨_, rfl, rfl, by rw [show k = N by omega]⟩
      · exfalso; omega
    | succ j ih =>
      intro k h1
      have e : wu (wc w a (fillA k (w a) z)) a k z = wc w a (fillA (k + 1) (w a) z) := by
        funext b
        unfold wu
        by_cases hb : b = a
        · rw [if_pos hb, wc_eq, hb, wc_eq]
          funext i
          unfold up fillA
          by_cases h2 : i = k
          · rw [if_pos h2, if_pos (by omega)]
          · rw [if_neg h2]
            by_cases h3 : 0 ≤ i ∧ i < k
            · rw [if_pos h3, if_pos (by omega)]
            · rw [if_neg h3, if_neg (by omega)]
        · rw [if_neg hb, wc_ne hb, wc_ne hb]
      refine gx_iload2 (q := 6) hG d_Ar_fillI_5 rfl ?_
      refine gx_iload3 (q := 7) hG d_Ar_fillI_6 rfl ?_
      refine gx_icmp_ge (tgt := 20) (q := 10) hG d_Ar_fillI_7 rfl rfl (by omega) (by omega) (fun c7 => ?_) (fun c7 => ?_)
      · exfalso; omega
      · refine gx_aload0 (q := 11) hG d_Ar_fillI_10 rfl ?_
        refine gx_iload2 (q := 12) hG d_Ar_fillI_11 rfl ?_
        refine gx_iload1 (q := 13) hG d_Ar_fillI_12 rfl ?_
        refine gw_iast (q := 14) hG hs (by omega) (by omega) d_Ar_fillI_13 rfl ?_
        rw [e]
        refine gx_iinc2 (q := 17) hG d_Ar_fillI_14 rfl rfl ?_
        refine gx_goto (tgt := 5) hG d_Ar_fillI_17 rfl ?_
        exact ih (k + 1) (by omega)
  have e0 : w = wc w a (fillA 0 (w a) z) := by
    funext b
    unfold wc
    split
    · rename_i hb
      subst hb
      funext i
      unfold fillA
      rw [if_neg (by omega)]
    · rfl
  refine gx_iconst (q := 1) hG d_Ar_fillI_0 rfl ?_
  refine gx_istore2 (q := 2) hG d_Ar_fillI_1 rfl rfl ?_
  refine gx_aload0 (q := 3) hG d_Ar_fillI_2 rfl ?_
  refine gw_alen (q := 4) hG hs (by decide) d_Ar_fillI_3 rfl ?_
  refine gx_istore3 (q := 5) hG d_Ar_fillI_4 rfl rfl ?_
  rw [e0]
  exact L N 0 (by omega)
theorem ev_Ar_fillJ {w : Mem} {a z : Int} {N : Nat} (hs : shp a = some (1, N)) : EvV y_Ar_fillJ b_Ar_fillJ 5 none (1) [Vr a, Vj z] w (fun w' => w' = wc w a (fillA N (w a) z)) := by
  refine Ev.mkF (isI := false) (by decide +kernel) nofun (Nat.le_of_ble_eq_true rfl) (fun G hG => ?_)
  show G 0 [some (Vr a), some (Vj z), none, none, none] [] 102 (hp w)
  have hN := shp_le hs
  have L : ∀ (j k : Nat), k + j = N → G 6 [some (Vr a), some (Vj z), none, some (Vi (k : Int)), some (Vi (N : Int))] [] 102 (hp (wc w a (fillA k (w a) z))) := by
    intro j
    induction j with
    | zero =>
      intro k h1
      refine gx_iload3 (q := 7) hG d_Ar_fillJ_6 rfl ?_
      refine gx_iload4 (q := 9) hG d_Ar_fillJ_7 rfl ?_
      refine gx_icmp_ge (tgt := 22) (q := 12) hG d_Ar_fillJ_9 rfl rfl (by omega) (by omega) (fun c9 => ?_) (fun c9 => ?_)
      · refine gx_return hG d_Ar_fillJ_22 rfl rfl ?_
        exact ⟨_, rfl, rfl, by rw [show k = N by omega]⟩
      · exfalso; omega
    | succ j ih =>
      intro k h1
      have e : wu (wc w a (fillA k (w a) z)) a k z = wc w a (fillA (k + 1) (w a) z) := by
        funext b
        unfold wu
        by_cases hb : b = a
        · rw [if_pos hb, wc_eq, hb, wc_eq]
          funext i
          unfold up fillA
          by_cases h2 : i = k
          · rw [if_pos h2, if_pos (by omega)]
          · rw [if_neg h2]
            by_cases h3 : 0 ≤ i ∧ i < k
            · rw [if_pos h3, if_pos (by omega)]
            · rw [if_neg h3, if_neg (by omega)]
        · rw [if_neg hb, wc_ne hb, wc_ne hb]
      refine gx_iload3 (q := 7) hG d_Ar_fillJ_6 rfl ?_
      refine gx_iload4 (q := 9) hG d_Ar_fillJ_7 rfl ?_
      refine gx_icmp_ge (tgt := 22) (q := 12) hG d_Ar_fillJ_9 rfl rfl (by omega) (by omega) (fun c9 => ?_) (fun c9 => ?_)
      · exfalso; omega
      · refine gx_aload0 (q := 13) hG d_Ar_fillJ_12 rfl ?_
        refine gx_iload3 (q := 14) hG d_Ar_fillJ_13 rfl ?_
        refine gx_lload1 (q := 15) hG d_Ar_fillJ_14 rfl ?_
        refine gw_last (q := 16) hG hs (by omega) (by omega) d_Ar_fillJ_15 rfl ?_
        rw [e]
        refine gx_iinc3 (q := 19) hG d_Ar_fillJ_16 rfl rfl ?_
        refine gx_goto (tgt := 6) hG d_Ar_fillJ_19 rfl ?_
        exact ih (k + 1) (by omega)
  have e0 : w = wc w a (fillA 0 (w a) z) := by
    funext b
    unfold wc
    split
    · rename_i hb
      subst hb
      funext i
      unfold fillA
      rw [if_neg (by omega)]
    · rfl
  refine gx_iconst (q := 1) hG d_Ar_fillJ_0 rfl ?_
  refine gx_istore3 (q := 2) hG d_Ar_fillJ_1 rfl rfl ?_
  refine gx_aload0 (q := 3) hG d_Ar_fillJ_2 rfl ?_
  refine gw_alen (q := 4) hG hs (by decide) d_Ar_fillJ_3 rfl ?_
  refine gx_istore4 (q := 6) hG d_Ar_fillJ_4 rfl rfl ?_
  rw [e0]
  exact L N 0 (by omega)
abbrev isR (a : Int) : Prop := 50 ≤ a ∧ a < 70 ∧ a % 2 = 0
theorem ev_Rw_holdsRun {w : Mem} {a i n : Int} (ha : isR a) (hs : -1 ≤ w a 1 ∧ w a 1 ≤ 60) (hi : R3 i) (hn : R3 n) (hn0 : 0 ≤ n) : EvX y_Rw_holdsRun b_Rw_holdsRun 3 (some .boolean) (1) [Vr a, Vi i, Vi n] w (Vi (bi (0 ≤ i ∧ i + n ≤ w a 1))) := by
  refine Ev.mk (isI := false) (by decide +kernel) nofun (Nat.le_of_ble_eq_true rfl) (fun G hG => ?_)
  show G 0 [some (Vr a), some (Vi i), some (Vi n)] [] 102 (hp w)
  refine gx_iload1 (q := 1) hG d_Rw_holdsRun_0 rfl ?_
  refine gx_if_lt (tgt := 26) (q := 4) hG d_Rw_holdsRun_1 rfl rfl (by omega) (fun c1 => ?_) (fun c1 => ?_)
  · refine gx_iconst (q := 27) hG d_Rw_holdsRun_26 rfl ?_
    refine gx_zreturn hG d_Rw_holdsRun_27 rfl rfl (by first | exact bi_01 _ | decide | omega) ?_
    refine ⟨w, rfl, ?_, rfl⟩; first | rfl | (rw [bi_t (by omega)]) | (rw [bi_f (by omega)])
  · refine gx_iload1 (q := 5) hG d_Rw_holdsRun_4 rfl ?_
    refine gx_aload0 (q := 6) hG d_Rw_holdsRun_5 rfl ?_
    refine gx_get (q := 9) hG f_Rw_15 (hpRow (by omega)) rfl d_Rw_holdsRun_6 rfl ?_
    refine gx_icmp_gt (tgt := 26) (q := 12) hG d_Rw_holdsRun_9 rfl rfl (by omega) (by omega) (fun c9 => ?_) (fun c9 => ?_)
    · refine gx_iconst (q := 27) hG d_Rw_holdsRun_26 rfl ?_
      refine gx_zreturn hG d_Rw_holdsRun_27 rfl rfl (by first | exact bi_01 _ | decide | omega) ?_
      refine ⟨w, rfl, ?_, rfl⟩; first | rfl | (rw [bi_t (by omega)]) | (rw [bi_f (by omega)])
    · refine gx_iload2 (q := 13) hG d_Rw_holdsRun_12 rfl ?_
      refine gx_aload0 (q := 14) hG d_Rw_holdsRun_13 rfl ?_
      refine gx_get (q := 17) hG f_Rw_15 (hpRow (by omega)) rfl d_Rw_holdsRun_14 rfl ?_
      refine gx_iload1 (q := 18) hG d_Rw_holdsRun_17 rfl ?_
      refine gx_isub (q := 19) hG d_Rw_holdsRun_18 rfl ?_
      refine gx_icmp_gt (tgt := 26) (q := 22) hG d_Rw_holdsRun_19 rfl rfl (by omega) (by omega) (fun c19 => ?_) (fun c19 => ?_)
      · refine gx_iconst (q := 27) hG d_Rw_holdsRun_26 rfl ?_
        refine gx_zreturn hG d_Rw_holdsRun_27 rfl rfl (by first | exact bi_01 _ | decide | omega) ?_
        refine ⟨w, rfl, ?_, rfl⟩; first | rfl | (rw [bi_t (by omega)]) | (rw [bi_f (by omega)])
      · refine gx_iconst (q := 23) hG d_Rw_holdsRun_22 rfl ?_
        refine gx_goto (tgt := 27) hG d_Rw_holdsRun_23 rfl ?_
        refine gx_zreturn hG d_Rw_holdsRun_27 rfl rfl (by first | exact bi_01 _ | decide | omega) ?_
        refine ⟨w, rfl, ?_, rfl⟩; first | rfl | (rw [bi_t (by omega)]) | (rw [bi_f (by omega)])
theorem ev_Rw_begin {w : Mem} {a n z : Int} (ha : isR a) : EvV y_Rw_begin b_Rw_begin 3 none (2) [Vr a, Vi n, Vi z] w (fun w' => w' = wu (wc w (a + 1) (fillA 60 (w (a + 1)) z)) a 1 n) := by
  refine Ev.mk (isI := false) (by decide +kernel) nofun (Nat.le_of_ble_eq_true rfl) (fun G hG => ?_)
  show G 0 [some (Vr a), some (Vi n), some (Vi z)] [] 102 (hp w)
  refine gx_aload0 (q := 1) hG d_Rw_begin_0 rfl ?_
  refine gx_get (q := 4) hG f_Rw_9 (hpRow (by omega)) rfl d_Rw_begin_1 rfl ?_
  refine gx_iload2 (q := 5) hG d_Rw_begin_4 rfl ?_
  refine gw_S2V (q := 8) hG l_Rw_19 c_Ar_fillI (ev_Ar_fillI (shp_rowA ha)) (by decide) (Nat.le_of_ble_eq_true rfl) d_Rw_begin_5 rfl (by decide) (fun w h5 => ?_)
  rw [h5]
  refine gx_aload0 (q := 9) hG d_Rw_begin_8 rfl ?_
  refine gx_iload1 (q := 10) hG d_Rw_begin_9 rfl ?_
  refine gw_puti (q := 13) hG f_Rw_15 (hpRow (by omega)) (Nat.le_of_ble_eq_true rfl) vfit_i (Or.inl rfl) d_Rw_begin_10 rfl 1 rfl (hpRw1 (by omega)) ?_
  refine gx_return hG d_Rw_begin_13 rfl rfl ?_
  exact ⟨_, rfl, rfl, rfl⟩
theorem ev_Rw_add {w : Mem} {a v : Int} (ha : isR a) (hs : 0 ≤ w a 1 ∧ w a 1 ≤ 60) : EvV y_Rw_add b_Rw_add 2 none (2) [Vr a, Vi v] w (fun w' => w' = if w a 1 < 60 then wu (wu w (a + 1) (w a 1) v) a 1 (w a 1 + 1) else w) := by
  refine Ev.mk (isI := false) (by decide +kernel) nofun (Nat.le_of_ble_eq_true rfl) (fun G hG => ?_)
  show G 0 [some (Vr a), some (Vi v)] [] 102 (hp w)
  refine gx_aload0 (q := 1) hG d_Rw_add_0 rfl ?_
  refine gx_get (q := 4) hG f_Rw_15 (hpRow (by omega)) rfl d_Rw_add_1 rfl ?_
  refine gx_bipush (q := 6) hG d_Rw_add_4 rfl rfl ?_
  refine gw_N2X (q := 9) hG n_Rw_25 s_X_isIn c_X_isIn (ev_X_isIn (by first | assumption | omega) (by first | assumption | omega)) (by decide) (Nat.le_of_ble_eq_true rfl) d_Rw_add_6 rfl (by decide) ?_
  refine gx_if_eq (tgt := 32) (q := 12) hG d_Rw_add_9 rfl rfl (bi_R _) (fun c9 => ?_) (fun c9 => ?_)
  · have c9 := bi_eq0.mp c9
    refine gx_return hG d_Rw_add_32 rfl rfl ?_
    first
      | exact ⟨_, rfl, rfl, by rw [if_pos (by omega)]⟩
      | exact ⟨_, rfl, rfl, by rw [if_neg (by omega)]⟩
  · have c9 := bi_ne0.mp c9
    refine gx_aload0 (q := 13) hG d_Rw_add_12 rfl ?_
    refine gx_get (q := 16) hG f_Rw_9 (hpRow (by omega)) rfl d_Rw_add_13 rfl ?_
    refine gx_aload0 (q := 17) hG d_Rw_add_16 rfl ?_
    refine gx_get (q := 20) hG f_Rw_15 (hpRow (by omega)) rfl d_Rw_add_17 rfl ?_
    refine gx_iload1 (q := 21) hG d_Rw_add_20 rfl ?_
    refine gw_iast (q := 22) hG (shp_rowA ha) (by omega) (by omega) d_Rw_add_21 rfl ?_
    refine gx_aload0 (q := 23) hG d_Rw_add_22 rfl ?_
    refine gx_dupa (q := 24) hG d_Rw_add_23 rfl ?_
    refine gx_get (q := 27) hG f_Rw_15 (hpRow (by omega)) rfl d_Rw_add_24 rfl ?_
    rw [wu_ne (show a ≠ a + 1 by omega)]
    refine gx_iconst (q := 28) hG d_Rw_add_27 rfl ?_
    refine gx_iadd (q := 29) hG d_Rw_add_28 rfl ?_
    refine gw_puti (q := 32) hG f_Rw_15 (hpRow (by omega)) (Nat.le_of_ble_eq_true rfl) vfit_i (Or.inl rfl) d_Rw_add_29 rfl 1 rfl (hpRw1 (by omega)) ?_
    refine gx_return hG d_Rw_add_32 rfl rfl ?_
    first
      | exact ⟨_, rfl, rfl, by rw [if_pos (by omega)]⟩
      | exact ⟨_, rfl, rfl, by rw [if_neg (by omega)]⟩
/-- a list of numbers of a row: its mask, -1 if one is none or comes twice -/
def goodL (F : Int → Int) (n : Int) : Prop := (∀ i, 0 ≤ i → i < n → 1 ≤ F i ∧ F i ≤ 60) ∧ ∀ i j, 0 ≤ i → i < j → j < n → F i ≠ F j
def inL (F : Int → Int) (n v : Int) : Prop := ∃ i, 0 ≤ i ∧ i < n ∧ F i = v
theorem ev_Rw_asBits {w : Mem} {a : Int} (ha : isR a) (hs : 0 ≤ w a 1 ∧ w a 1 ≤ 60) (hR : ∀ i, 0 ≤ i → i < 60 → R3 (w (a + 1) i)) : EvZ y_Rw_asBits b_Rw_asBits 5 (some .long) (2) [Vr a] w (fun z => (z = -1 ∧ ¬ goodL (w (a + 1)) (w a 1)) ∨ (goodL (w (a + 1)) (w a 1) ∧ Mk z (inL (w (a + 1)) (w a 1)))) := by
  refine Ev.mk (isI := false) (by decide +kernel) nofun (Nat.le_of_ble_eq_true rfl) (fun G hG => ?_)
  show G 0 [some (Vr a), none, none, none, none] [] 102 (hp w)
  have L : ∀ (j k m : Nat) (o : Option Value), (k : Int) + j = w a 1 → m < 2 ^ 61 → goodL (w (a + 1)) k → (∀ v : Nat, v ≤ 60 → (m.testBit v = true ↔ inL (w (a + 1)) k v)) → G 4 [some (Vr a), some (Vj (m : Int)), none, some (Vi (k : Int)), o] [] 102 (hp w) := by
    intro j
    induction j with
    | zero =>
      intro k m o h1 h2 h3 h4
      refine gx_iload3 (q := 5) hG d_Rw_asBits_4 rfl ?_
      refine gx_aload0 (q := 6) hG d_Rw_asBits_5 rfl ?_
      refine gx_get (q := 9) hG f_Rw_15 (hpRow (by omega)) rfl d_Rw_asBits_6 rfl ?_
      refine gx_icmp_ge (tgt := 61) (q := 12) hG d_Rw_asBits_9 rfl rfl (by omega) (by omega) (fun c9 => ?_) (fun c9 => ?_)
      · refine gx_lload1 (q := 62) hG d_Rw_asBits_61 rfl ?_
        refine gx_lreturn hG d_Rw_asBits_62 rfl rfl ?_
        exact ⟨w, rfl, _, rfl, rfl, Or.inr (by rw [show w a 1 = k by omega]; exact ⟨h3, m, rfl, h2, h4⟩)⟩
      · exfalso; omega
    | succ j ih =>
      intro k m o h1 h2 h3 h4
      have hk := hR k (by omega) (by omega)
      obtain ⟨x, hx⟩ : ∃ x, x = w (a + 1) k := ⟨_, rfl⟩
      rw [← hx] at hk
      refine gx_iload3 (q := 5) hG d_Rw_asBits_4 rfl ?_
      refine gx_aload0 (q := 6) hG d_Rw_asBits_5 rfl ?_
      refine gx_get (q := 9) hG f_Rw_15 (hpRow (by omega)) rfl d_Rw_asBits_6 rfl ?_
      refine gx_icmp_ge (tgt := 61) (q := 12) hG d_Rw_asBits_9 rfl rfl (by omega) (by omega) (fun c9 => ?_) (fun c9 => ?_)
      · exfalso; omega
      · refine gx_aload0 (q := 13) hG d_Rw_asBits_12 rfl ?_
        refine gx_get (q := 16) hG f_Rw_9 (hpRow (by omega)) rfl d_Rw_asBits_13 rfl ?_
        refine gx_iload3 (q := 17) hG d_Rw_asBits_16 rfl ?_
        refine gw_iald (q := 18) hG (shp_rowA ha) (by omega) (by omega) d_Rw_asBits_17 rfl ?_
        rw [← hx]
        refine gx_istore4 (q := 20) hG d_Rw_asBits_18 rfl rfl ?_
        refine gx_iload4 (q := 22) hG d_Rw_asBits_20 rfl ?_
        refine gx_iconst (q := 23) hG d_Rw_asBits_22 rfl ?_
        refine gx_icmp_lt (tgt := 44) (q := 26) hG d_Rw_asBits_23 rfl rfl (by omega) (by omega) (fun c23 => ?_) (fun c23 => ?_)
        · refine gx_ldc2 (q := 47) hG (-1) k_Rw_29 d_Rw_asBits_44 rfl rfl ?_
          refine gx_lreturn hG d_Rw_asBits_47 rfl rfl ?_
          first
            | exact ⟨w, rfl, _, rfl, rfl, Or.inl ⟨rfl, fun q => by have := q.1 k (by omega) (by omega); rw [← hx] at this; omega⟩⟩
            | exact ⟨w, rfl, _, rfl, rfl, Or.inl ⟨rfl, fun q => by obtain ⟨i, i0, i1, i2⟩ := c2; exact q.2 i k i0 i1 (by omega) (by rw [i2, hx])⟩⟩
        · refine gx_iload4 (q := 28) hG d_Rw_asBits_26 rfl ?_
          refine gx_bipush (q := 30) hG d_Rw_asBits_28 rfl rfl ?_
          refine gx_icmp_gt (tgt := 44) (q := 33) hG d_Rw_asBits_30 rfl rfl (by omega) (by omega) (fun c30 => ?_) (fun c30 => ?_)
          · refine gx_ldc2 (q := 47) hG (-1) k_Rw_29 d_Rw_asBits_44 rfl rfl ?_
            refine gx_lreturn hG d_Rw_asBits_47 rfl rfl ?_
            first
              | exact ⟨w, rfl, _, rfl, rfl, Or.inl ⟨rfl, fun q => by have := q.1 k (by omega) (by omega); rw [← hx] at this; omega⟩⟩
              | exact ⟨w, rfl, _, rfl, rfl, Or.inl ⟨rfl, fun q => by obtain ⟨i, i0, i1, i2⟩ := c2; exact q.2 i k i0 i1 (by omega) (by rw [i2, hx])⟩⟩
          · obtain ⟨nn, rfl⟩ := Int.eq_ofNat_of_zero_le (show 0 ≤ x by omega)
            refine gx_lload1 (q := 34) hG d_Rw_asBits_33 rfl ?_
            refine gx_iload4 (q := 36) hG d_Rw_asBits_34 rfl ?_
            refine gx_lshr (q := 37) hG (((m >>> nn : Nat) : Int)) d_Rw_asBits_36 rfl (j_shr m nn (by omega) (Nat.lt_trans h2 (by decide))) ?_
            refine gx_lconst (q := 38) hG 1 d_Rw_asBits_37 rfl rfl ?_
            refine gx_land (q := 39) hG (bi (m.testBit nn = true)) d_Rw_asBits_38 rfl (j_bit m nn (by omega) (Nat.lt_trans h2 (by decide))) ?_
            refine gx_lconst (q := 40) hG 1 d_Rw_asBits_39 rfl rfl ?_
            refine gx_lcmp (q := 41) hG d_Rw_asBits_40 rfl (by have := bi_01 (m.testBit nn = true); omega) (by have := bi_01 (m.testBit nn = true); omega) ?_
            refine gx_if_ne (tgt := 48) (q := 44) hG d_Rw_asBits_41 rfl rfl (cmp3_R _ _) (fun c41 => ?_) (fun c41 => ?_)
            · have c41 := cmp3_ne.mp c41
              have c2 : ¬ inL (w (a + 1)) k nn := fun q => c41 (bi_eq1.mpr ((h4 nn (by omega)).mpr q))
              have hor : (m ||| 1 <<< nn) < 2 ^ 61 := Nat.or_lt_two_pow h2 (by rw [Nat.one_shiftLeft]; exact Nat.pow_lt_pow_right (by decide) (by omega))
              refine gx_lload1 (q := 49) hG d_Rw_asBits_48 rfl ?_
              refine gx_lconst (q := 50) hG 1 d_Rw_asBits_49 rfl rfl ?_
              refine gx_iload4 (q := 52) hG d_Rw_asBits_50 rfl ?_
              refine gx_lshl (q := 53) hG (((1 <<< nn : Nat) : Int)) d_Rw_asBits_52 rfl (j_shl 1 nn (by omega)) ?_
              refine gx_lor (q := 54) hG (((m ||| 1 <<< nn : Nat) : Int)) d_Rw_asBits_53 rfl (j_or m (1 <<< nn)) ?_
              refine gx_lstore1 (q := 55) hG d_Rw_asBits_54 rfl rfl ?_
              refine gx_iinc3 (q := 58) hG d_Rw_asBits_55 rfl rfl ?_
              refine gx_goto (tgt := 4) hG d_Rw_asBits_58 rfl ?_
              exact ih (k + 1) (m ||| 1 <<< nn) _ (by omega) hor ⟨fun i i0 i1 => (by by_cases e : i = k; (· rw [e, ← hx]; omega); (· exact h3.1 i i0 (by omega))), fun i l i0 il l1 q => (by by_cases e : l = k; (· exact c2 ⟨i, i0, by omega, by rw [q, e, ← hx]⟩); (· exact h3.2 i l i0 il (by omega) q))⟩ (fun v hv => by rw [Nat.testBit_or, Nat.one_shiftLeft, Nat.testBit_two_pow, Bool.or_eq_true, h4 v hv, decide_eq_true_eq]; constructor; (· rintro (⟨i, i0, i1, i2⟩ | q); (· exact ⟨i, i0, by omega, i2⟩); (· exact ⟨k, by omega, by omega, by rw [← hx, q]⟩)); (· rintro ⟨i, i0, i1, i2⟩; by_cases e : i = k; (· right; rw [e, ← hx] at i2; omega); (· exact Or.inl ⟨i, i0, by omega, i2⟩)))
            · have c41 := cmp3_eq.mp c41
              have c2 := (h4 nn (by omega)).mp (bi_eq1.mp c41)
              refine gx_ldc2 (q := 47) hG (-1) k_Rw_29 d_Rw_asBits_44 rfl rfl ?_
              refine gx_lreturn hG d_Rw_asBits_47 rfl rfl ?_
              first
                | exact ⟨w, rfl, _, rfl, rfl, Or.inl ⟨rfl, fun q => by have := q.1 k (by omega) (by omega); rw [← hx] at this; omega⟩⟩
                | exact ⟨w, rfl, _, rfl, rfl, Or.inl ⟨rfl, fun q => by obtain ⟨i, i0, i1, i2⟩ := c2; exact q.2 i k i0 i1 (by omega) (by rw [i2, hx])⟩⟩
  refine gx_lconst (q := 1) hG 0 d_Rw_asBits_0 rfl rfl ?_
  refine gx_lstore1 (q := 2) hG d_Rw_asBits_1 rfl rfl ?_
  refine gx_iconst (q := 3) hG d_Rw_asBits_2 rfl ?_
  refine gx_istore3 (q := 4) hG d_Rw_asBits_3 rfl rfl ?_
  exact L (w a 1).toNat 0 0 none (by omega) (by decide) ⟨fun i i0 i1 => by omega, fun i l i0 il l1 => by omega⟩ (fun v hv => by rw [Nat.zero_testBit]; constructor; (· intro q; cases q); (· rintro ⟨i, i0, i1, i2⟩; omega))
theorem ev_Rw_digestPlaces {w : Mem} {a x : Int} (ha : isR a) (hs : -1 ≤ w a 1 ∧ w a 1 ≤ 60) (hR : ∀ i, 0 ≤ i → i < 60 → R3 (w (a + 1) i)) : EvX y_Rw_digestPlaces b_Rw_digestPlaces 6 (some .long) (2) [Vr a, Vj x] w (Vj (dg (w (a + 1)) (w a 1).toNat (31 * x + w a 1))) := by
  refine Ev.mk (isI := false) (by decide +kernel) nofun (Nat.le_of_ble_eq_true rfl) (fun G hG => ?_)
  show G 0 [some (Vr a), some (Vj x), none, none, none, none] [] 102 (hp w)
  have L : ∀ (j k : Nat), (k : Int) + j = (w a 1).toNat → G 15 [some (Vr a), some (Vj x), none, some (Vj (dg (w (a + 1)) k (31 * x + w a 1))), none, some (Vi (k : Int))] [] 102 (hp w) := by
    intro j
    induction j with
    | zero =>
      intro k h1
      refine gx_iload5 (q := 17) hG d_Rw_digestPlaces_15 rfl ?_
      refine gx_aload0 (q := 18) hG d_Rw_digestPlaces_17 rfl ?_
      refine gx_get (q := 21) hG f_Rw_15 (hpRow (by omega)) rfl d_Rw_digestPlaces_18 rfl ?_
      refine gx_icmp_ge (tgt := 45) (q := 24) hG d_Rw_digestPlaces_21 rfl rfl (by omega) (by omega) (fun c21 => ?_) (fun c21 => ?_)
      · refine gx_lload3 (q := 46) hG d_Rw_digestPlaces_45 rfl ?_
        refine gx_lreturn hG d_Rw_digestPlaces_46 rfl rfl ?_
        exact ⟨w, rfl, by rw [show (w a 1).toNat = k by omega], rfl⟩
      · exfalso; omega
    | succ j ih =>
      intro k h1
      have hk := hR k (by omega) (by omega)
      refine gx_iload5 (q := 17) hG d_Rw_digestPlaces_15 rfl ?_
      refine gx_aload0 (q := 18) hG d_Rw_digestPlaces_17 rfl ?_
      refine gx_get (q := 21) hG f_Rw_15 (hpRow (by omega)) rfl d_Rw_digestPlaces_18 rfl ?_
      refine gx_icmp_ge (tgt := 45) (q := 24) hG d_Rw_digestPlaces_21 rfl rfl (by omega) (by omega) (fun c21 => ?_) (fun c21 => ?_)
      · exfalso; omega
      · refine gx_ldc2 (q := 27) hG (31) k_Rw_31 d_Rw_digestPlaces_24 rfl rfl ?_
        refine gx_lload3 (q := 28) hG d_Rw_digestPlaces_27 rfl ?_
        refine gx_lmul (q := 29) hG d_Rw_digestPlaces_28 rfl ?_
        refine gx_aload0 (q := 30) hG d_Rw_digestPlaces_29 rfl ?_
        refine gx_get (q := 33) hG f_Rw_9 (hpRow (by omega)) rfl d_Rw_digestPlaces_30 rfl ?_
        refine gx_iload5 (q := 35) hG d_Rw_digestPlaces_33 rfl ?_
        refine gw_iald (q := 36) hG (shp_rowA ha) (by omega) (by omega) d_Rw_digestPlaces_35 rfl ?_
        refine gx_i2l (q := 37) hG d_Rw_digestPlaces_36 rfl (by omega) ?_
        refine gx_ladd (q := 38) hG d_Rw_digestPlaces_37 rfl ?_
        refine gx_lstore3 (q := 39) hG d_Rw_digestPlaces_38 rfl rfl ?_
        refine gx_iinc5 (q := 42) hG d_Rw_digestPlaces_39 rfl rfl ?_
        refine gx_goto (tgt := 15) hG d_Rw_digestPlaces_42 rfl ?_
        exact ih (k + 1) (by omega)
  refine gx_ldc2 (q := 3) hG (31) k_Rw_31 d_Rw_digestPlaces_0 rfl rfl ?_
  refine gx_lload1 (q := 4) hG d_Rw_digestPlaces_3 rfl ?_
  refine gx_lmul (q := 5) hG d_Rw_digestPlaces_4 rfl ?_
  refine gx_aload0 (q := 6) hG d_Rw_digestPlaces_5 rfl ?_
  refine gx_get (q := 9) hG f_Rw_15 (hpRow (by omega)) rfl d_Rw_digestPlaces_6 rfl ?_
  refine gx_i2l (q := 10) hG d_Rw_digestPlaces_9 rfl (by omega) ?_
  refine gx_ladd (q := 11) hG d_Rw_digestPlaces_10 rfl ?_
  refine gx_lstore3 (q := 12) hG d_Rw_digestPlaces_11 rfl rfl ?_
  refine gx_iconst (q := 13) hG d_Rw_digestPlaces_12 rfl ?_
  refine gx_istore5 (q := 15) hG d_Rw_digestPlaces_13 rfl rfl ?_
  exact L (w a 1).toNat 0 (by omega)

