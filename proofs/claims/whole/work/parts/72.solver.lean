/-! part 72: the class Solver -/
theorem i_ushrZ (x y : Int) : ∃ z, ((Int32.ofInt x).toUInt32 >>> ((Int32.ofInt y).toUInt32 &&& Int32.toUInt32 31)).toInt32 = Int32.ofInt z := ⟨_, (Int32.ofInt_toInt _).symm⟩
theorem i_and1023 (x : Int) : ∃ z : Int, Int32.ofInt x &&& Int32.ofInt 1023 = Int32.ofInt z ∧ 0 ≤ z ∧ z < 1024 := by
  refine ⟨(((Int32.ofInt x).toBitVec.toNat &&& 1023 : Nat) : Int), ?_, by omega, ?_⟩
  · have e := i_and (Int32.ofInt x).toBitVec.toNat 1023
    rw [← e]
    congr 1
    apply Int32.toBitVec_inj.mp
    rw [i_bv, BitVec.ofNat_toNat]
    simp
  · have : (Int32.ofInt x).toBitVec.toNat &&& 1023 ≤ 1023 := Nat.and_le_right
    omega
def SV (w w' : Mem) : Prop := (∀ b, b ≠ 46 → b ≠ 47 → b ≠ 48 → w' b = w b) ∧ w' 46 0 = w 46 0 ∧ SolOK (w' 46) (w' 47) (w' 48)
theorem SV.tr {w w' w2 : Mem} (h : SV w w') (h2 : SV w' w2) : SV w w2 := ⟨fun b b1 b2 b3 => (h2.1 b b1 b2 b3).trans (h.1 b b1 b2 b3), h2.2.1.trans h.2.1, h2.2.2⟩
theorem SV_id {w : Mem} (h : SolOK (w 46) (w 47) (w 48)) : SV w w := ⟨fun _ _ _ _ => rfl, rfl, h⟩
theorem SV_X {w w' : Mem} (hj : XJ w) (h1 : ∀ b, b ≠ 46 → b ≠ 47 → b ≠ 48 → w' b = w b) (h2 : SolOK (w' 46) (w' 47) (w' 48)) : SX w w' := by
  refine ⟨aX_scr (fun b hb => h1 b (by omega) (by omega) (by omega)), ⟨fun k k0 k1 => by rw [h1 6 (by omega) (by omega) (by omega)]; exact hj.1 k k0 k1, ?_, fun k k0 k1 => ?_, h2⟩, fun b hb => h1 b (by omega) (by omega) (by omega)⟩
  · unfold GI0
    rw [show (3 : Int) + 1 = 4 by omega, h1 3 (by omega) (by omega) (by omega), h1 4 (by omega) (by omega) (by omega)]
    exact hj.2.1
  · rw [h1 6 (by omega) (by omega) (by omega)]
    unfold GI0
    rw [h1 (70 + 2 * k) (by omega) (by omega) (by omega), h1 (70 + 2 * k + 1) (by omega) (by omega) (by omega)]
    exact hj.2.2.1 k k0 k1
theorem SolOK_kb {so k v : Int → Int} (h : SolOK so k v) {i : Int} (hi : 0 ≤ i ∧ i < 1024) : 0 ≤ k i ∧ k i ≤ 268435455 := by
  rcases h.2 i hi.1 hi.2 with q | ⟨m, a, b, c, -⟩
  · omega
  · omega
theorem ev_So_isWin {w : Mem} {x : Int} (hx : 0 ≤ x ∧ x ≤ 1000) : EvX y_So_isWin b_So_isWin 1 (some .boolean) (1) [Vi x] w (Vi (bi (x % 2 = 1))) := by
  refine Ev.mk (isI := false) (by decide +kernel) nofun (Nat.le_of_ble_eq_true rfl) (fun G hG => ?_)
  show G 0 [some (Vi x)] [] 102 (hp w)
  refine gx_iload0 (q := 1) hG d_So_isWin_0 rfl ?_
  refine gx_iconst (q := 2) hG d_So_isWin_1 rfl ?_
  refine gx_irem (q := 3) hG d_So_isWin_2 rfl (by omega) (by omega) (by omega) (by omega) ?_
  refine gx_iconst (q := 4) hG d_So_isWin_3 rfl ?_
  refine gx_icmp_ne (tgt := 11) (q := 7) hG d_So_isWin_4 rfl rfl (by omega) (by omega) (fun c4 => ?_) (fun c4 => ?_)
  · refine gx_iconst (q := 12) hG d_So_isWin_11 rfl ?_
    refine gx_zreturn hG d_So_isWin_12 rfl rfl (by first | exact bi_01 _ | decide | omega) ?_
    refine ⟨w, rfl, ?_, rfl⟩; first | rfl | (rw [bi_t (by omega)]) | (rw [bi_f (by omega)])
  · refine gx_iconst (q := 8) hG d_So_isWin_7 rfl ?_
    refine gx_goto (tgt := 12) hG d_So_isWin_8 rfl ?_
    refine gx_zreturn hG d_So_isWin_12 rfl rfl (by first | exact bi_01 _ | decide | omega) ?_
    refine ⟨w, rfl, ?_, rfl⟩; first | rfl | (rw [bi_t (by omega)]) | (rw [bi_f (by omega)])
theorem ev_So_gapsBehind {w : Mem} {m n : Nat} (hm : m < 2 ^ 28) (hn : 2 ≤ n ∧ n < 28) : EvX y_So_gapsBehind b_So_gapsBehind 4 (some .int) (1) [Vi (m : Int), Vi (n : Int)] w (Vi (gb m n : Nat)) := by
  refine Ev.mk (isI := false) (by decide +kernel) nofun (Nat.le_of_ble_eq_true rfl) (fun G hG => ?_)
  show G 0 [some (Vi (m : Int)), some (Vi (n : Int)), none, none] [] 102 (hp w)
  have L : ∀ (j k : Nat), k + j = 27 / n → G 9 [some (Vi (m : Int)), some (Vi (n : Int)), some (Vi (gbStep (AL &&& (AL ^^^ m)) n k : Nat)), some (Vi ((k : Int) + 1))] [] 102 (hp w) := by
    intro j
    induction j with
    | zero =>
      intro k h1
      have hk : 27 < (k + 1) * n := by
        have := Nat.lt_mul_of_div_lt (show 27 / n < k + 1 by omega) (show 0 < n by omega)
        exact this
      have hk2 : ((k : Int) + 1) * n = (((k + 1) * n : Nat) : Int) := by rw [Int.natCast_mul]; rfl
      have hk3 : (k + 1) * n ≤ 28 * 28 := Nat.mul_le_mul (by have := Nat.div_le_self 27 n; omega) (by omega)
      have hkn : k = 27 / n := by omega
      refine gx_iload3 (q := 10) hG d_So_gapsBehind_9 rfl ?_
      refine gx_iload1 (q := 11) hG d_So_gapsBehind_10 rfl ?_
      refine gx_imul (q := 12) hG d_So_gapsBehind_11 rfl ?_
      rw [hk2]
      refine gx_bipush (q := 14) hG d_So_gapsBehind_12 rfl rfl ?_
      refine gx_icmp_ge (tgt := 38) (q := 17) hG d_So_gapsBehind_14 rfl rfl (by omega) (by omega) (fun c14 => ?_) (fun c14 => ?_)
      · refine gx_iload2 (q := 39) hG d_So_gapsBehind_38 rfl ?_
        refine gx_iconst (q := 40) hG d_So_gapsBehind_39 rfl ?_
        refine gx_ixor (q := 41) hG (-1 - ((gbStep (AL &&& (AL ^^^ m)) n k : Nat) : Int)) d_So_gapsBehind_40 rfl (i_not _) ?_
        refine gx_ldc (q := 43) hG (268435455) k_So_66 d_So_gapsBehind_41 rfl rfl ?_
        refine gx_iand (q := 44) hG (((AL &&& (AL ^^^ gbStep (AL &&& (AL ^^^ m)) n k) : Nat) : Int)) d_So_gapsBehind_43 rfl (i_notand _ AL) ?_
        refine gx_ireturn hG d_So_gapsBehind_44 rfl rfl ?_
        exact ⟨_, rfl, by rw [hkn]; rfl, rfl⟩
      · exfalso; omega
    | succ j ih =>
      intro k h1
      have hk : (k + 1) * n ≤ 27 := (Nat.le_div_iff_mul_le (by omega)).mp (show k + 1 ≤ 27 / n by omega)
      have hk2 : ((k : Int) + 1) * n = (((k + 1) * n : Nat) : Int) := by rw [Int.natCast_mul]; rfl
      have hk4 : k ≤ 26 := by have := Nat.div_le_self 27 n; omega
      refine gx_iload3 (q := 10) hG d_So_gapsBehind_9 rfl ?_
      refine gx_iload1 (q := 11) hG d_So_gapsBehind_10 rfl ?_
      refine gx_imul (q := 12) hG d_So_gapsBehind_11 rfl ?_
      rw [hk2]
      refine gx_bipush (q := 14) hG d_So_gapsBehind_12 rfl rfl ?_
      refine gx_icmp_ge (tgt := 38) (q := 17) hG d_So_gapsBehind_14 rfl rfl (by omega) (by omega) (fun c14 => ?_) (fun c14 => ?_)
      · exfalso; omega
      · refine gx_iload3 (q := 18) hG d_So_gapsBehind_17 rfl ?_
        refine gx_bipush (q := 20) hG d_So_gapsBehind_18 rfl rfl ?_
        refine gx_icmp_ge (tgt := 38) (q := 23) hG d_So_gapsBehind_20 rfl rfl (by omega) (by omega) (fun c20 => ?_) (fun c20 => ?_)
        · exfalso; omega
        · refine gx_iload2 (q := 24) hG d_So_gapsBehind_23 rfl ?_
          refine gx_iload2 (q := 25) hG d_So_gapsBehind_24 rfl ?_
          refine gx_iload1 (q := 26) hG d_So_gapsBehind_25 rfl ?_
          refine gx_ishl (q := 27) hG (((gbStep (AL &&& (AL ^^^ m)) n k <<< n : Nat) : Int)) d_So_gapsBehind_26 rfl (i_shl _ n (by omega)) ?_
          refine gx_ldc (q := 29) hG (268435455) k_So_66 d_So_gapsBehind_27 rfl rfl ?_
          refine gx_iand (q := 30) hG ((((gbStep (AL &&& (AL ^^^ m)) n k <<< n) &&& AL : Nat) : Int)) d_So_gapsBehind_29 rfl (i_and _ AL) ?_
          refine gx_ior (q := 31) hG (((gbStep (AL &&& (AL ^^^ m)) n k ||| ((gbStep (AL &&& (AL ^^^ m)) n k <<< n) &&& AL) : Nat) : Int)) d_So_gapsBehind_30 rfl (i_or _ _) ?_
          refine gx_istore2 (q := 32) hG d_So_gapsBehind_31 rfl rfl ?_
          refine gx_iinc3 (q := 35) hG d_So_gapsBehind_32 rfl rfl ?_
          refine gx_goto (tgt := 9) hG d_So_gapsBehind_35 rfl ?_
          exact ih (k + 1) (by omega)
  refine gx_iload0 (q := 1) hG d_So_gapsBehind_0 rfl ?_
  refine gx_iconst (q := 2) hG d_So_gapsBehind_1 rfl ?_
  refine gx_ixor (q := 3) hG (-1 - (m : Int)) d_So_gapsBehind_2 rfl (i_not _) ?_
  refine gx_ldc (q := 5) hG (268435455) k_So_66 d_So_gapsBehind_3 rfl rfl ?_
  refine gx_iand (q := 6) hG (((AL &&& (AL ^^^ m) : Nat) : Int)) d_So_gapsBehind_5 rfl (i_notand m AL) ?_
  refine gx_istore2 (q := 7) hG d_So_gapsBehind_6 rfl rfl ?_
  refine gx_iconst (q := 8) hG d_So_gapsBehind_7 rfl ?_
  refine gx_istore3 (q := 9) hG d_So_gapsBehind_8 rfl rfl ?_
  exact L (27 / n) 0 (by omega)
theorem ev_So_slotOf {w : Mem} {m : Int} (hm : R3 m) (hk : ∀ i, 0 ≤ i → i < 1024 → 0 ≤ w 47 i ∧ w 47 i ≤ 268435455) : EvY y_So_slotOf b_So_slotOf 5 (some .int) (1) [Vr 46, Vi m] w (fun z => z = -1 ∨ (0 ≤ z ∧ z < 1024 ∧ (w 47 z = m ∨ w 47 z = 0))) := by
  refine Ev.mk (isI := false) (by decide +kernel) nofun (Nat.le_of_ble_eq_true rfl) (fun G hG => ?_)
  show G 0 [some (Vr 46), some (Vi m), none, none, none] [] 102 (hp w)
  have L : ∀ (j k : Nat) (fi : Int) (o : Option Value), k + j = 1024 → one1 [o] 0 = true → G 10 [some (Vr 46), some (Vi m), some (Vi fi), some (Vi (k : Int)), o] [] 102 (hp w) := by
    intro j
    induction j with
    | zero =>
      intro k fi o h1 g
      refine gx_iload3 (q := 11) hG d_So_slotOf_10 rfl ?_
      refine gx_sipush (q := 14) hG d_So_slotOf_11 rfl rfl ?_
      refine gx_icmp_ge (tgt := 56) (q := 17) hG d_So_slotOf_14 rfl rfl (by omega) (by omega) (fun c14 => ?_) (fun c14 => ?_)
      · refine gx_iconst (q := 57) hG d_So_slotOf_56 rfl ?_
        refine gx_ireturn hG d_So_slotOf_57 rfl rfl ?_
        exact ⟨w, rfl, _, rfl, rfl, Or.inl rfl⟩
      · exfalso; omega
    | succ j ih =>
      intro k fi o h1 g
      obtain ⟨sl, hsl, s0, s1⟩ := i_and1023 (fi + k)
      have hb := hk sl s0 s1
      refine gx_iload3 (q := 11) hG d_So_slotOf_10 rfl ?_
      refine gx_sipush (q := 14) hG d_So_slotOf_11 rfl rfl ?_
      refine gx_icmp_ge (tgt := 56) (q := 17) hG d_So_slotOf_14 rfl rfl (by omega) (by omega) (fun c14 => ?_) (fun c14 => ?_)
      · exfalso; omega
      · refine gx_iload2 (q := 18) hG d_So_slotOf_17 rfl ?_
        refine gx_iload3 (q := 19) hG d_So_slotOf_18 rfl ?_
        refine gx_iadd (q := 20) hG d_So_slotOf_19 rfl ?_
        refine gx_sipush (q := 23) hG d_So_slotOf_20 rfl rfl ?_
        refine gx_iand (q := 24) hG (sl) d_So_slotOf_23 rfl (hsl) ?_
        refine gx_istore4 (q := 26) hG d_So_slotOf_24 rfl rfl ?_
        refine gx_aload0 (q := 27) hG d_So_slotOf_26 rfl ?_
        refine gx_get (q := 30) hG f_So_11 hpSo rfl d_So_slotOf_27 rfl ?_
        refine gx_iload4 (q := 32) hG d_So_slotOf_30 rfl ?_
        refine gw_iald (q := 33) hG rfl (by omega) (by omega) d_So_slotOf_32 rfl ?_
        refine gx_iload1 (q := 34) hG d_So_slotOf_33 rfl ?_
        refine gx_icmp_eq (tgt := 47) (q := 37) hG d_So_slotOf_34 rfl rfl (by omega) (by omega) (fun c34 => ?_) (fun c34 => ?_)
        · refine gx_iload4 (q := 49) hG d_So_slotOf_47 rfl ?_
          refine gx_ireturn hG d_So_slotOf_49 rfl rfl ?_
          first
            | exact ⟨w, rfl, _, rfl, rfl, Or.inr ⟨s0, s1, Or.inl (by omega)⟩⟩
            | exact ⟨w, rfl, _, rfl, rfl, Or.inr ⟨s0, s1, Or.inr (by omega)⟩⟩
        · refine gx_aload0 (q := 38) hG d_So_slotOf_37 rfl ?_
          refine gx_get (q := 41) hG f_So_11 hpSo rfl d_So_slotOf_38 rfl ?_
          refine gx_iload4 (q := 43) hG d_So_slotOf_41 rfl ?_
          refine gw_iald (q := 44) hG rfl (by omega) (by omega) d_So_slotOf_43 rfl ?_
          refine gx_if_ne (tgt := 50) (q := 47) hG d_So_slotOf_44 rfl rfl (by omega) (fun c44 => ?_) (fun c44 => ?_)
          · refine gx_iinc3 (q := 53) hG d_So_slotOf_50 rfl rfl ?_
            refine gx_goto (tgt := 10) hG d_So_slotOf_53 rfl ?_
            exact ih (k + 1) fi _ (by omega) rfl
          · refine gx_iload4 (q := 49) hG d_So_slotOf_47 rfl ?_
            refine gx_ireturn hG d_So_slotOf_49 rfl rfl ?_
            first
              | exact ⟨w, rfl, _, rfl, rfl, Or.inr ⟨s0, s1, Or.inl (by omega)⟩⟩
              | exact ⟨w, rfl, _, rfl, rfl, Or.inr ⟨s0, s1, Or.inr (by omega)⟩⟩
  refine gx_iload1 (q := 1) hG d_So_slotOf_0 rfl ?_
  refine gx_ldc (q := 3) hG (-1640531527) k_So_79 d_So_slotOf_1 rfl rfl ?_
  refine gx_imul (q := 4) hG d_So_slotOf_3 rfl ?_
  refine gx_bipush (q := 6) hG d_So_slotOf_4 rfl rfl ?_
  obtain ⟨fi, hfi⟩ := i_ushrZ (m * (-1640531527)) 22
  refine gx_iushr (q := 7) hG fi d_So_slotOf_6 rfl hfi ?_
  refine gx_istore2 (q := 8) hG d_So_slotOf_7 rfl rfl ?_
  refine gx_iconst (q := 9) hG d_So_slotOf_8 rfl ?_
  refine gx_istore3 (q := 10) hG d_So_slotOf_9 rfl rfl ?_
  exact L 1024 0 fi none (by omega) rfl
theorem ev_So_remember {w : Mem} {m : Nat} {v : Int} (hS : SolOK (w 46) (w 47) (w 48)) (hm : 2 < m ∧ m < 2 ^ 28) (hb : bs m 28 ≤ 14) (hv : v = vS m) : EvV y_So_remember b_So_remember 4 none (2) [Vr 46, Vi (m : Int), Vi v] w (fun w' => SV w w') := by
  refine Ev.mk (isI := false) (by decide +kernel) nofun (Nat.le_of_ble_eq_true rfl) (fun G hG => ?_)
  show G 0 [some (Vr 46), some (Vi (m : Int)), some (Vi v), none] [] 102 (hp w)
  have hz := nzc_bd (k := w 47) 1024
  have hs1 := hS.1
  refine gx_aload0 (q := 1) hG d_So_remember_0 rfl ?_
  refine gx_iload1 (q := 2) hG d_So_remember_1 rfl ?_
  refine gw_V1Y (q := 5) hG l_So_67 c_So_slotOf (ev_So_slotOf (by omega) (fun i i0 i1 => SolOK_kb hS ⟨i0, i1⟩)) hpSo rfl (by decide) (Nat.le_of_ble_eq_true rfl) d_So_remember_2 rfl (by decide) (fun z2 h2 => ?_)
  refine gx_istore3 (q := 6) hG d_So_remember_5 rfl rfl ?_
  refine gx_iload3 (q := 7) hG d_So_remember_6 rfl ?_
  refine gx_if_lt (tgt := 43) (q := 10) hG d_So_remember_7 rfl rfl (by rcases h2 with h | h <;> omega) (fun c7 => ?_) (fun c7 => ?_)
  · refine gx_return hG d_So_remember_43 rfl rfl ?_
    first
      | exact ⟨_, rfl, rfl, SV_id hS⟩
      | (refine ⟨_, rfl, rfl, fun b b1 b2 b3 => by rw [wu_ne b1, wu_ne b3, wu_ne b2], by rw [wu_pl (by omega), wu_ne (by omega), wu_ne (by omega)], ?_, fun i i0 i1 => ?_⟩
         · rw [wu_eq, wu_ne (by omega), wu_ne (by omega), wu_ne (show (47 : Int) ≠ 46 by omega), wu_ne (show (47 : Int) ≠ 48 by omega), wu_at, nzc_up q3.1 (by omega) (by omega), hs1, if_pos (by omega)]
         · rw [wu_ne (show (47 : Int) ≠ 46 by omega), wu_ne (show (47 : Int) ≠ 48 by omega), wu_at, wu_ne (show (48 : Int) ≠ 46 by omega), wu_at, wu_ne (show (48 : Int) ≠ 47 by omega)]
           unfold up
           by_cases c : i = z2
           · rw [if_pos c, if_pos c]
             exact Or.inr ⟨m, rfl, hm.1, hm.2, hb, hv⟩
           · rw [if_neg c, if_neg c]
             exact hS.2 i i0 i1)
  · have q2 : w 47 z2 = (m : Int) ∨ w 47 z2 = 0 := by rcases h2 with h | h; (· omega); (· exact h.2.2)
    have q3 : 0 ≤ z2 ∧ z2 < 1024 := by rcases h2 with h | h; (· omega); (· exact ⟨h.1, h.2.1⟩)
    have q4 := SolOK_kb hS q3
    refine gx_aload0 (q := 11) hG d_So_remember_10 rfl ?_
    refine gx_get (q := 14) hG f_So_11 hpSo rfl d_So_remember_11 rfl ?_
    refine gx_iload3 (q := 15) hG d_So_remember_14 rfl ?_
    refine gw_iald (q := 16) hG rfl (by omega) (by omega) d_So_remember_15 rfl ?_
    refine gx_if_ne (tgt := 43) (q := 19) hG d_So_remember_16 rfl rfl (by omega) (fun c16 => ?_) (fun c16 => ?_)
    · refine gx_return hG d_So_remember_43 rfl rfl ?_
      first
        | exact ⟨_, rfl, rfl, SV_id hS⟩
        | (refine ⟨_, rfl, rfl, fun b b1 b2 b3 => by rw [wu_ne b1, wu_ne b3, wu_ne b2], by rw [wu_pl (by omega), wu_ne (by omega), wu_ne (by omega)], ?_, fun i i0 i1 => ?_⟩
           · rw [wu_eq, wu_ne (by omega), wu_ne (by omega), wu_ne (show (47 : Int) ≠ 46 by omega), wu_ne (show (47 : Int) ≠ 48 by omega), wu_at, nzc_up q3.1 (by omega) (by omega), hs1, if_pos (by omega)]
           · rw [wu_ne (show (47 : Int) ≠ 46 by omega), wu_ne (show (47 : Int) ≠ 48 by omega), wu_at, wu_ne (show (48 : Int) ≠ 46 by omega), wu_at, wu_ne (show (48 : Int) ≠ 47 by omega)]
             unfold up
             by_cases c : i = z2
             · rw [if_pos c, if_pos c]
               exact Or.inr ⟨m, rfl, hm.1, hm.2, hb, hv⟩
             · rw [if_neg c, if_neg c]
               exact hS.2 i i0 i1)
    · refine gx_aload0 (q := 20) hG d_So_remember_19 rfl ?_
      refine gx_get (q := 23) hG f_So_11 hpSo rfl d_So_remember_20 rfl ?_
      refine gx_iload3 (q := 24) hG d_So_remember_23 rfl ?_
      refine gx_iload1 (q := 25) hG d_So_remember_24 rfl ?_
      refine gw_iast (q := 26) hG rfl (by omega) (by omega) d_So_remember_25 rfl ?_
      refine gx_aload0 (q := 27) hG d_So_remember_26 rfl ?_
      refine gx_get (q := 30) hG f_So_15 hpSo rfl d_So_remember_27 rfl ?_
      refine gx_iload3 (q := 31) hG d_So_remember_30 rfl ?_
      refine gx_iload2 (q := 32) hG d_So_remember_31 rfl ?_
      refine gw_iast (q := 33) hG rfl (by omega) (by omega) d_So_remember_32 rfl ?_
      refine gx_aload0 (q := 34) hG d_So_remember_33 rfl ?_
      refine gx_dupa (q := 35) hG d_So_remember_34 rfl ?_
      refine gx_get (q := 38) hG f_So_37 hpSo rfl d_So_remember_35 rfl ?_
      refine gx_iconst (q := 39) hG d_So_remember_38 rfl ?_
      refine gx_iadd (q := 40) hG d_So_remember_39 rfl ?_
      refine gw_puti (q := 43) hG f_So_37 hpSo (Nat.le_of_ble_eq_true rfl) vfit_i (Or.inl rfl) d_So_remember_40 rfl 3 rfl rfl ?_
      refine gx_return hG d_So_remember_43 rfl rfl ?_
      first
        | exact ⟨_, rfl, rfl, SV_id hS⟩
        | (refine ⟨_, rfl, rfl, fun b b1 b2 b3 => by rw [wu_ne b1, wu_ne b3, wu_ne b2], by rw [wu_pl (by omega), wu_ne (by omega), wu_ne (by omega)], ?_, fun i i0 i1 => ?_⟩
           · rw [wu_eq, wu_ne (by omega), wu_ne (by omega), wu_ne (show (47 : Int) ≠ 46 by omega), wu_ne (show (47 : Int) ≠ 48 by omega), wu_at, nzc_up q3.1 (by omega) (by omega), hs1, if_pos (by omega)]
           · rw [wu_ne (show (47 : Int) ≠ 46 by omega), wu_ne (show (47 : Int) ≠ 48 by omega), wu_at, wu_ne (show (48 : Int) ≠ 46 by omega), wu_at, wu_ne (show (48 : Int) ≠ 47 by omega)]
             unfold up
             by_cases c : i = z2
             · rw [if_pos c, if_pos c]
               exact Or.inr ⟨m, rfl, hm.1, hm.2, hb, hv⟩
             · rw [if_neg c, if_neg c]
               exact hS.2 i i0 i1)
theorem ev_So_solved : ∀ (p : Nat) {w : Mem} {m : Nat} {dep : Int}, SolOK (w 46) (w 47) (w 48) → m < 2 ^ 28 → m.testBit 0 = false → bs m 28 ≤ p → 0 ≤ dep → dep + p ≤ 14 → EvI y_So_solved b_So_solved 8 (some .int) (p + 5) [Vr 46, Vi (m : Int), Vi dep] w (fun z w' => z = vS m ∧ SV w w') := by
  intro p
  induction p with
  | zero =>
    intro w m dep hS hm h0 hb d0 d1
    refine Ev.mk (isI := false) (by decide +kernel) nofun (Nat.le_of_ble_eq_true rfl) (fun G hG => ?_)
    show G 0 [some (Vr 46), some (Vi (m : Int)), some (Vi dep), none, none, none, none, none] [] 102 (hp w)
    have hm0 : m ≤ 2 := by
      rcases Nat.lt_or_ge 2 m with c | c
      · obtain ⟨i, i1, i2, i3⟩ := big_bit hm h0 c
        have := gb_pop (n := i) ⟨by omega, i2⟩ h0 i3
        omega
      · exact c
    have hv := vS_lo hm0
    refine gx_iload1 (q := 1) hG d_So_solved_0 rfl ?_
    refine gx_iconst (q := 2) hG d_So_solved_1 rfl ?_
    refine gx_icmp_le (tgt := 11) (q := 5) hG d_So_solved_2 rfl rfl (by omega) (by omega) (fun c2 => ?_) (fun c2 => ?_)
    · refine gx_iload1 (q := 12) hG d_So_solved_11 rfl ?_
      refine gx_iconst (q := 13) hG d_So_solved_12 rfl ?_
      refine gx_icmp_ne (tgt := 20) (q := 16) hG d_So_solved_13 rfl rfl (by omega) (by omega) (fun c13 => ?_) (fun c13 => ?_)
      · refine gx_iconst (q := 21) hG d_So_solved_20 rfl ?_
        refine gx_ireturn hG d_So_solved_21 rfl rfl ?_
        first
          | exact ⟨_, rfl, _, rfl, by rw [hv, if_pos (by omega)], SV_id hS⟩
          | exact ⟨_, rfl, _, rfl, by rw [hv, if_neg (by omega)], SV_id hS⟩
      · refine gx_iconst (q := 17) hG d_So_solved_16 rfl ?_
        refine gx_goto (tgt := 21) hG d_So_solved_17 rfl ?_
        refine gx_ireturn hG d_So_solved_21 rfl rfl ?_
        first
          | exact ⟨_, rfl, _, rfl, by rw [hv, if_pos (by omega)], SV_id hS⟩
          | exact ⟨_, rfl, _, rfl, by rw [hv, if_neg (by omega)], SV_id hS⟩
    · exfalso; omega
  | succ p ih =>
    intro w m dep hS hm h0 hb d0 d1
    refine Ev.mk (isI := false) (by decide +kernel) nofun (Nat.le_of_ble_eq_true rfl) (fun G hG => ?_)
    show G 0 [some (Vr 46), some (Vi (m : Int)), some (Vi dep), none, none, none, none, none] [] 102 (hp w)
    have bd := fun k => slStep_bd (V := vS) (fun m => (slF_bd 15 m).1) (m := m) k
    have L : ∀ (j k : Nat) (W : Mem) (sl : Int) (o7 : Option Value), k + j = 28 → 2 ≤ k → 2 < m → one1 [o7] 0 = true → SV w W → G 59 [some (Vr 46), some (Vi (m : Int)), some (Vi dep), some (Vi sl), some (Vi (slStep vS m k).1), some (Vi (slStep vS m k).2), some (Vi (k : Int)), o7] [] 102 (hp W) := by
      intro j
      induction j with
      | zero =>
        intro k W sl o7 h1 h2 h3 g h4
        have hk : k = 28 := by omega
        subst hk
        have b := bd 28
        have ev := vS_eq h3 h0 (by omega)
        refine gx_iload6 (q := 61) hG d_So_solved_59 rfl ?_
        refine gx_bipush (q := 63) hG d_So_solved_61 rfl rfl ?_
        refine gx_icmp_ge (tgt := 126) (q := 66) hG d_So_solved_63 rfl rfl (by omega) (by omega) (fun c63 => ?_) (fun c63 => ?_)
        · refine gx_aload0 (q := 127) hG d_So_solved_126 rfl ?_
          refine gx_iload1 (q := 128) hG d_So_solved_127 rfl ?_
          refine gx_iconst (q := 129) hG d_So_solved_128 rfl ?_
          refine gx_iload4 (q := 131) hG d_So_solved_129 rfl ?_
          refine gx_imul (q := 132) hG d_So_solved_131 rfl ?_
          refine gx_iload5 (q := 134) hG d_So_solved_132 rfl ?_
          refine gx_iadd (q := 135) hG d_So_solved_134 rfl ?_
          refine gw_V2V (q := 138) hG l_So_75 c_So_remember (ev_So_remember h4.2.2 ⟨h3, hm⟩ (by omega) ev.symm) hpSo rfl (by omega) (Nat.le_of_ble_eq_true rfl) d_So_solved_135 rfl (by decide) (fun w2 h135 => ?_)
          refine gx_iconst (q := 139) hG d_So_solved_138 rfl ?_
          refine gx_iload4 (q := 141) hG d_So_solved_139 rfl ?_
          refine gx_imul (q := 142) hG d_So_solved_141 rfl ?_
          refine gx_iload5 (q := 144) hG d_So_solved_142 rfl ?_
          refine gx_iadd (q := 145) hG d_So_solved_144 rfl ?_
          refine gx_ireturn hG d_So_solved_145 rfl rfl ?_
          exact ⟨_, rfl, _, rfl, ev.symm, h4.tr h135⟩
        · exfalso; omega
      | succ j ihj =>
        intro k W sl o7 h1 h2 h3 g h4
        have b := bd k
        have es : slStep vS m (k + 1) = if 2 ≤ k ∧ m.testBit k = true then (min (slStep vS m k).1 (1 + vS (gb m k) / 2), if vS (gb m k) % 2 = 1 then (slStep vS m k).2 else 1) else slStep vS m k := rfl
        have hvb := slF_bd 15 (gb m k)
        have hvb : 0 ≤ vS (gb m k) ∧ vS (gb m k) ≤ 29 := hvb
        refine gx_iload6 (q := 61) hG d_So_solved_59 rfl ?_
        refine gx_bipush (q := 63) hG d_So_solved_61 rfl rfl ?_
        refine gx_icmp_ge (tgt := 126) (q := 66) hG d_So_solved_63 rfl rfl (by omega) (by omega) (fun c63 => ?_) (fun c63 => ?_)
        · exfalso; omega
        · refine gx_iload1 (q := 67) hG d_So_solved_66 rfl ?_
          refine gx_iload6 (q := 69) hG d_So_solved_67 rfl ?_
          refine gx_ishr (q := 70) hG (((m >>> k : Nat) : Int)) d_So_solved_69 rfl (i_shr m k (by omega) (by omega)) ?_
          refine gx_iconst (q := 71) hG d_So_solved_70 rfl ?_
          refine gx_iand (q := 72) hG (bi (m.testBit k = true)) d_So_solved_71 rfl (i_bit m k) ?_
          refine gx_iconst (q := 73) hG d_So_solved_72 rfl ?_
          refine gx_icmp_ne (tgt := 120) (q := 76) hG d_So_solved_73 rfl rfl (by have := bi_01 (m.testBit k = true); omega) (by have := bi_01 (m.testBit k = true); omega) (fun c73 => ?_) (fun c73 => ?_)
          · rw [if_neg (fun q => c73 (bi_t q.2))] at es
            refine gx_iinc6 (q := 123) hG d_So_solved_120 rfl rfl ?_
            refine gx_goto (tgt := 59) hG d_So_solved_123 rfl ?_
            first
              | (have e := ihj (k + 1) W sl o7 (by omega) (by omega) h3 g h4
                 rw [es] at e
                 exact e)
              | (have e := ihj (k + 1) w2 sl (some (Vi (vS (gb m k)))) (by omega) (by omega) h3 rfl (h4.tr s2)
                 rw [es] at e
                 first
                   | (rw [if_pos c109] at e; exact e)
                   | (rw [if_neg c109] at e; exact e))
          · have c9 := bi_eq1.mp c73
            rw [if_pos ⟨h2, c9⟩] at es
            have hp9 := gb_pop (n := k) ⟨by omega, by omega⟩ h0 c9
            refine gx_aload0 (q := 77) hG d_So_solved_76 rfl ?_
            refine gx_iload1 (q := 78) hG d_So_solved_77 rfl ?_
            refine gx_iload6 (q := 80) hG d_So_solved_78 rfl ?_
            refine gw_S2X (q := 83) hG l_So_51 c_So_gapsBehind (ev_So_gapsBehind hm (by omega)) (by omega) (Nat.le_of_ble_eq_true rfl) d_So_solved_80 rfl (by decide) ?_
            refine gx_iload2 (q := 84) hG d_So_solved_83 rfl ?_
            refine gx_iconst (q := 85) hG d_So_solved_84 rfl ?_
            refine gx_iadd (q := 86) hG d_So_solved_85 rfl ?_
            refine gw_S3I (q := 89) hG l_So_55 c_So_solved (ih h4.2.2 gb_lt (gb_zero (by omega) h0) (by omega) (by omega) (by omega)) (by omega) (Nat.le_of_ble_eq_true rfl) d_So_solved_86 rfl (by decide) (fun z86 w2 h86 => ?_)
            obtain ⟨rfl, s2⟩ := h86
            refine gx_istore7 (q := 91) hG d_So_solved_89 rfl rfl ?_
            refine gx_iload4 (q := 93) hG d_So_solved_91 rfl ?_
            refine gx_iconst (q := 94) hG d_So_solved_93 rfl ?_
            refine gx_iload7 (q := 96) hG d_So_solved_94 rfl ?_
            refine gx_iconst (q := 97) hG d_So_solved_96 rfl ?_
            refine gx_idiv (q := 98) hG d_So_solved_97 rfl (by omega) (by omega) (by omega) (by omega) ?_
            refine gx_iadd (q := 99) hG d_So_solved_98 rfl ?_
            refine gw_S2X (q := 102) hG l_So_70 c_Ma_min (ev_Ma_min (by first | assumption | omega) (by first | assumption | omega)) (by omega) (Nat.le_of_ble_eq_true rfl) d_So_solved_99 rfl (by decide) ?_
            refine gx_istore4 (q := 104) hG d_So_solved_102 rfl rfl ?_
            refine gx_iload7 (q := 106) hG d_So_solved_104 rfl ?_
            refine gw_S1X (q := 109) hG l_So_59 c_So_isWin (ev_So_isWin (by omega)) (by omega) (Nat.le_of_ble_eq_true rfl) d_So_solved_106 rfl (by decide) ?_
            refine gx_if_eq (tgt := 117) (q := 112) hG d_So_solved_109 rfl rfl (bi_R _) (fun c109 => ?_) (fun c109 => ?_)
            · have c109 := bi_eq0.mp c109
              refine gx_iconst (q := 118) hG d_So_solved_117 rfl ?_
              refine gx_istore5 (q := 120) hG d_So_solved_118 rfl rfl ?_
              refine gx_iinc6 (q := 123) hG d_So_solved_120 rfl rfl ?_
              refine gx_goto (tgt := 59) hG d_So_solved_123 rfl ?_
              first
                | (have e := ihj (k + 1) W sl o7 (by omega) (by omega) h3 g h4
                   rw [es] at e
                   exact e)
                | (have e := ihj (k + 1) w2 sl (some (Vi (vS (gb m k)))) (by omega) (by omega) h3 rfl (h4.tr s2)
                   rw [es] at e
                   first
                     | (rw [if_pos c109] at e; exact e)
                     | (rw [if_neg c109] at e; exact e))
            · have c109 := bi_ne0.mp c109
              refine gx_iload5 (q := 114) hG d_So_solved_112 rfl ?_
              refine gx_goto (tgt := 118) hG d_So_solved_114 rfl ?_
              refine gx_istore5 (q := 120) hG d_So_solved_118 rfl rfl ?_
              refine gx_iinc6 (q := 123) hG d_So_solved_120 rfl rfl ?_
              refine gx_goto (tgt := 59) hG d_So_solved_123 rfl ?_
              first
                | (have e := ihj (k + 1) W sl o7 (by omega) (by omega) h3 g h4
                   rw [es] at e
                   exact e)
                | (have e := ihj (k + 1) w2 sl (some (Vi (vS (gb m k)))) (by omega) (by omega) h3 rfl (h4.tr s2)
                   rw [es] at e
                   first
                     | (rw [if_pos c109] at e; exact e)
                     | (rw [if_neg c109] at e; exact e))
    refine gx_iload1 (q := 1) hG d_So_solved_0 rfl ?_
    refine gx_iconst (q := 2) hG d_So_solved_1 rfl ?_
    refine gx_icmp_le (tgt := 11) (q := 5) hG d_So_solved_2 rfl rfl (by omega) (by omega) (fun c2 => ?_) (fun c2 => ?_)
    · refine gx_iload1 (q := 12) hG d_So_solved_11 rfl ?_
      refine gx_iconst (q := 13) hG d_So_solved_12 rfl ?_
      refine gx_icmp_ne (tgt := 20) (q := 16) hG d_So_solved_13 rfl rfl (by omega) (by omega) (fun c13 => ?_) (fun c13 => ?_)
      · refine gx_iconst (q := 21) hG d_So_solved_20 rfl ?_
        refine gx_ireturn hG d_So_solved_21 rfl rfl ?_
        have hv := vS_lo (m := m) (by omega)
        first
          | exact ⟨_, rfl, _, rfl, by rw [hv, if_pos (by omega)], SV_id hS⟩
          | exact ⟨_, rfl, _, rfl, by rw [hv, if_neg (by omega)], SV_id hS⟩
      · refine gx_iconst (q := 17) hG d_So_solved_16 rfl ?_
        refine gx_goto (tgt := 21) hG d_So_solved_17 rfl ?_
        refine gx_ireturn hG d_So_solved_21 rfl rfl ?_
        have hv := vS_lo (m := m) (by omega)
        first
          | exact ⟨_, rfl, _, rfl, by rw [hv, if_pos (by omega)], SV_id hS⟩
          | exact ⟨_, rfl, _, rfl, by rw [hv, if_neg (by omega)], SV_id hS⟩
    · refine gx_iload2 (q := 6) hG d_So_solved_5 rfl ?_
      refine gx_bipush (q := 8) hG d_So_solved_6 rfl rfl ?_
      refine gx_icmp_le (tgt := 22) (q := 11) hG d_So_solved_8 rfl rfl (by omega) (by omega) (fun c8 => ?_) (fun c8 => ?_)
      · refine gx_aload0 (q := 23) hG d_So_solved_22 rfl ?_
        refine gx_iload1 (q := 24) hG d_So_solved_23 rfl ?_
        refine gw_V1Y (q := 27) hG l_So_67 c_So_slotOf (ev_So_slotOf (by omega) (fun i i0 i1 => SolOK_kb hS ⟨i0, i1⟩)) hpSo rfl (by omega) (Nat.le_of_ble_eq_true rfl) d_So_solved_24 rfl (by decide) (fun z24 h24 => ?_)
        refine gx_istore3 (q := 28) hG d_So_solved_27 rfl rfl ?_
        refine gx_iload3 (q := 29) hG d_So_solved_28 rfl ?_
        refine gx_if_lt (tgt := 49) (q := 32) hG d_So_solved_29 rfl rfl (by rcases h24 with h | h <;> omega) (fun c29 => ?_) (fun c29 => ?_)
        · refine gx_bipush (q := 51) hG d_So_solved_49 rfl rfl ?_
          refine gx_istore4 (q := 53) hG d_So_solved_51 rfl rfl ?_
          refine gx_iconst (q := 54) hG d_So_solved_53 rfl ?_
          refine gx_istore5 (q := 56) hG d_So_solved_54 rfl rfl ?_
          refine gx_iconst (q := 57) hG d_So_solved_56 rfl ?_
          refine gx_istore6 (q := 59) hG d_So_solved_57 rfl rfl ?_
          have e := L 26 2 w z24 none (by omega) (by omega) (by omega) rfl (SV_id hS)
          have e2 : slStep vS m 2 = (14, 0) := by unfold slStep; rw [if_neg (fun q => absurd q.1 (by decide))]; unfold slStep; rw [if_neg (fun q => absurd q.1 (by decide))]; rfl
          rw [e2] at e
          exact e
        · have q2 : w 47 z24 = (m : Int) ∨ w 47 z24 = 0 := by rcases h24 with h | h; (· omega); (· exact h.2.2)
          have q3 : 0 ≤ z24 ∧ z24 < 1024 := by rcases h24 with h | h; (· omega); (· exact ⟨h.1, h.2.1⟩)
          have q4 := SolOK_kb hS q3
          refine gx_aload0 (q := 33) hG d_So_solved_32 rfl ?_
          refine gx_get (q := 36) hG f_So_11 hpSo rfl d_So_solved_33 rfl ?_
          refine gx_iload3 (q := 37) hG d_So_solved_36 rfl ?_
          refine gw_iald (q := 38) hG rfl (by omega) (by omega) d_So_solved_37 rfl ?_
          refine gx_iload1 (q := 39) hG d_So_solved_38 rfl ?_
          refine gx_icmp_ne (tgt := 49) (q := 42) hG d_So_solved_39 rfl rfl (by omega) (by omega) (fun c39 => ?_) (fun c39 => ?_)
          · refine gx_bipush (q := 51) hG d_So_solved_49 rfl rfl ?_
            refine gx_istore4 (q := 53) hG d_So_solved_51 rfl rfl ?_
            refine gx_iconst (q := 54) hG d_So_solved_53 rfl ?_
            refine gx_istore5 (q := 56) hG d_So_solved_54 rfl rfl ?_
            refine gx_iconst (q := 57) hG d_So_solved_56 rfl ?_
            refine gx_istore6 (q := 59) hG d_So_solved_57 rfl rfl ?_
            have e := L 26 2 w z24 none (by omega) (by omega) (by omega) rfl (SV_id hS)
            have e2 : slStep vS m 2 = (14, 0) := by unfold slStep; rw [if_neg (fun q => absurd q.1 (by decide))]; unfold slStep; rw [if_neg (fun q => absurd q.1 (by decide))]; rfl
            rw [e2] at e
            exact e
          · refine gx_aload0 (q := 43) hG d_So_solved_42 rfl ?_
            refine gx_get (q := 46) hG f_So_15 hpSo rfl d_So_solved_43 rfl ?_
            refine gx_iload3 (q := 47) hG d_So_solved_46 rfl ?_
            refine gw_iald (q := 48) hG rfl (by omega) (by omega) d_So_solved_47 rfl ?_
            refine gx_ireturn hG d_So_solved_48 rfl rfl ?_
            refine ⟨_, rfl, _, rfl, ?_, SV_id hS⟩
            rcases hS.2 z24 q3.1 q3.2 with q | ⟨m', a1, a2, a3, a4, a5⟩
            · omega
            · rw [a5, show m' = m by omega]
              rfl
      · exfalso; omega
theorem winP_iff {m k : Nat} (hk : 2 ≤ k ∧ k < 28) : winP m k ↔ (m.testBit k = true ∧ ¬ vS (gb m k) % 2 = 1) := by
  have h := slF_bd 15 (gb m k)
  have h : 0 ≤ vS (gb m k) ∧ vS (gb m k) ≤ 29 := h
  unfold winP
  rw [show (k : Int).toNat = k by omega]
  exact ⟨fun q => ⟨q.2.2.1, by omega⟩, fun q => ⟨by omega, by omega, q.1, by omega⟩⟩
theorem ev_So_winsBy {w : Mem} {m n : Nat} (hS : SolOK (w 46) (w 47) (w 48)) (hg : w 46 0 = (m : Int)) (hm : m < 2 ^ 28) (h0 : m.testBit 0 = false) (hb : bs m 28 ≤ 14) (hn : n ≤ 60) : EvI y_So_winsBy b_So_winsBy 2 (some .boolean) (21) [Vr 46, Vi (n : Int)] w (fun z w' => z = bi (winP m n) ∧ SV w w') := by
  refine Ev.mk (isI := false) (by decide +kernel) nofun (Nat.le_of_ble_eq_true rfl) (fun G hG => ?_)
  show G 0 [some (Vr 46), some (Vi (n : Int))] [] 102 (hp w)
  refine gx_iload1 (q := 1) hG d_So_winsBy_0 rfl ?_
  refine gx_iconst (q := 2) hG d_So_winsBy_1 rfl ?_
  refine gx_icmp_le (tgt := 46) (q := 5) hG d_So_winsBy_2 rfl rfl (by omega) (by omega) (fun c2 => ?_) (fun c2 => ?_)
  · refine gx_iconst (q := 47) hG d_So_winsBy_46 rfl ?_
    refine gx_zreturn hG d_So_winsBy_47 rfl rfl (by first | exact bi_01 _ | decide | omega) ?_
    first
      | exact ⟨_, rfl, _, rfl, (bi_f (fun q : winP m n => by have := q.1; omega)).symm, SV_id hS⟩
      | exact ⟨_, rfl, _, rfl, (bi_f (fun q : winP m n => by have := q.2.1; omega)).symm, SV_id hS⟩
      | exact ⟨_, rfl, _, rfl, (bi_f (fun q : winP m n => by have q9 := q.2.2.1; rw [show (n : Int).toNat = n by omega] at q9; exact c20 (bi_t q9))).symm, SV_id hS⟩
      | exact ⟨_, rfl, _, rfl, (bi_f (fun q : winP m n => (hw.mp q).2 c39)).symm, s1⟩
      | exact ⟨_, rfl, _, rfl, (bi_t (hw.mpr ⟨c9, c39⟩)).symm, s1⟩
  · refine gx_iload1 (q := 6) hG d_So_winsBy_5 rfl ?_
    refine gx_bipush (q := 8) hG d_So_winsBy_6 rfl rfl ?_
    refine gx_icmp_ge (tgt := 46) (q := 11) hG d_So_winsBy_8 rfl rfl (by omega) (by omega) (fun c8 => ?_) (fun c8 => ?_)
    · refine gx_iconst (q := 47) hG d_So_winsBy_46 rfl ?_
      refine gx_zreturn hG d_So_winsBy_47 rfl rfl (by first | exact bi_01 _ | decide | omega) ?_
      first
        | exact ⟨_, rfl, _, rfl, (bi_f (fun q : winP m n => by have := q.1; omega)).symm, SV_id hS⟩
        | exact ⟨_, rfl, _, rfl, (bi_f (fun q : winP m n => by have := q.2.1; omega)).symm, SV_id hS⟩
        | exact ⟨_, rfl, _, rfl, (bi_f (fun q : winP m n => by have q9 := q.2.2.1; rw [show (n : Int).toNat = n by omega] at q9; exact c20 (bi_t q9))).symm, SV_id hS⟩
        | exact ⟨_, rfl, _, rfl, (bi_f (fun q : winP m n => (hw.mp q).2 c39)).symm, s1⟩
        | exact ⟨_, rfl, _, rfl, (bi_t (hw.mpr ⟨c9, c39⟩)).symm, s1⟩
    · refine gx_aload0 (q := 12) hG d_So_winsBy_11 rfl ?_
      refine gx_get (q := 15) hG f_So_34 hpSo rfl d_So_winsBy_12 rfl ?_
      rw [hg]
      refine gx_iload1 (q := 16) hG d_So_winsBy_15 rfl ?_
      refine gx_ishr (q := 17) hG (((m >>> n : Nat) : Int)) d_So_winsBy_16 rfl (i_shr m n (by omega) (by omega)) ?_
      refine gx_iconst (q := 18) hG d_So_winsBy_17 rfl ?_
      refine gx_iand (q := 19) hG (bi (m.testBit n = true)) d_So_winsBy_18 rfl (i_bit m n) ?_
      refine gx_iconst (q := 20) hG d_So_winsBy_19 rfl ?_
      refine gx_icmp_ne (tgt := 46) (q := 23) hG d_So_winsBy_20 rfl rfl (by have := bi_01 (m.testBit n = true); omega) (by have := bi_01 (m.testBit n = true); omega) (fun c20 => ?_) (fun c20 => ?_)
      · refine gx_iconst (q := 47) hG d_So_winsBy_46 rfl ?_
        refine gx_zreturn hG d_So_winsBy_47 rfl rfl (by first | exact bi_01 _ | decide | omega) ?_
        first
          | exact ⟨_, rfl, _, rfl, (bi_f (fun q : winP m n => by have := q.1; omega)).symm, SV_id hS⟩
          | exact ⟨_, rfl, _, rfl, (bi_f (fun q : winP m n => by have := q.2.1; omega)).symm, SV_id hS⟩
          | exact ⟨_, rfl, _, rfl, (bi_f (fun q : winP m n => by have q9 := q.2.2.1; rw [show (n : Int).toNat = n by omega] at q9; exact c20 (bi_t q9))).symm, SV_id hS⟩
          | exact ⟨_, rfl, _, rfl, (bi_f (fun q : winP m n => (hw.mp q).2 c39)).symm, s1⟩
          | exact ⟨_, rfl, _, rfl, (bi_t (hw.mpr ⟨c9, c39⟩)).symm, s1⟩
      · have c9 := bi_eq1.mp c20
        have hp9 := gb_pop (n := n) ⟨by omega, by omega⟩ h0 c9
        have hvb := slF_bd 15 (gb m n)
        have hvb : 0 ≤ vS (gb m n) ∧ vS (gb m n) ≤ 29 := hvb
        have hw := winP_iff (m := m) (k := n) ⟨by omega, by omega⟩
        refine gx_aload0 (q := 24) hG d_So_winsBy_23 rfl ?_
        refine gx_aload0 (q := 25) hG d_So_winsBy_24 rfl ?_
        refine gx_get (q := 28) hG f_So_34 hpSo rfl d_So_winsBy_25 rfl ?_
        rw [hg]
        refine gx_iload1 (q := 29) hG d_So_winsBy_28 rfl ?_
        refine gw_S2X (q := 32) hG l_So_51 c_So_gapsBehind (ev_So_gapsBehind hm (by omega)) (by omega) (Nat.le_of_ble_eq_true rfl) d_So_winsBy_29 rfl (by decide) ?_
        refine gx_iconst (q := 33) hG d_So_winsBy_32 rfl ?_
        refine gw_S3I (q := 36) hG l_So_55 c_So_solved (ev_So_solved 13 hS gb_lt (gb_zero (by omega) h0) (by omega) (by omega) (by omega)) (by omega) (Nat.le_of_ble_eq_true rfl) d_So_winsBy_33 rfl (by decide) (fun z33 w1 h33 => ?_)
        obtain ⟨rfl, s1⟩ := h33
        refine gw_S1X (q := 39) hG l_So_59 c_So_isWin (ev_So_isWin (by omega)) (by omega) (Nat.le_of_ble_eq_true rfl) d_So_winsBy_36 rfl (by decide) ?_
        refine gx_if_ne (tgt := 46) (q := 42) hG d_So_winsBy_39 rfl rfl (bi_R _) (fun c39 => ?_) (fun c39 => ?_)
        · have c39 := bi_ne0.mp c39
          refine gx_iconst (q := 47) hG d_So_winsBy_46 rfl ?_
          refine gx_zreturn hG d_So_winsBy_47 rfl rfl (by first | exact bi_01 _ | decide | omega) ?_
          first
            | exact ⟨_, rfl, _, rfl, (bi_f (fun q : winP m n => by have := q.1; omega)).symm, SV_id hS⟩
            | exact ⟨_, rfl, _, rfl, (bi_f (fun q : winP m n => by have := q.2.1; omega)).symm, SV_id hS⟩
            | exact ⟨_, rfl, _, rfl, (bi_f (fun q : winP m n => by have q9 := q.2.2.1; rw [show (n : Int).toNat = n by omega] at q9; exact c20 (bi_t q9))).symm, SV_id hS⟩
            | exact ⟨_, rfl, _, rfl, (bi_f (fun q : winP m n => (hw.mp q).2 c39)).symm, s1⟩
            | exact ⟨_, rfl, _, rfl, (bi_t (hw.mpr ⟨c9, c39⟩)).symm, s1⟩
        · have c39 := bi_eq0.mp c39
          refine gx_iconst (q := 43) hG d_So_winsBy_42 rfl ?_
          refine gx_goto (tgt := 47) hG d_So_winsBy_43 rfl ?_
          refine gx_zreturn hG d_So_winsBy_47 rfl rfl (by first | exact bi_01 _ | decide | omega) ?_
          first
            | exact ⟨_, rfl, _, rfl, (bi_f (fun q : winP m n => by have := q.1; omega)).symm, SV_id hS⟩
            | exact ⟨_, rfl, _, rfl, (bi_f (fun q : winP m n => by have := q.2.1; omega)).symm, SV_id hS⟩
            | exact ⟨_, rfl, _, rfl, (bi_f (fun q : winP m n => by have q9 := q.2.2.1; rw [show (n : Int).toNat = n by omega] at q9; exact c20 (bi_t q9))).symm, SV_id hS⟩
            | exact ⟨_, rfl, _, rfl, (bi_f (fun q : winP m n => (hw.mp q).2 c39)).symm, s1⟩
            | exact ⟨_, rfl, _, rfl, (bi_t (hw.mpr ⟨c9, c39⟩)).symm, s1⟩
theorem winP_lo {m : Nat} {n : Int} (h : n < 2) : ¬ winP m n := fun q => by have := q.1; omega
theorem ev_So_winCount {w : Mem} {m : Nat} (hS : SolOK (w 46) (w 47) (w 48)) (hg : w 46 0 = (m : Int)) (hm : m < 2 ^ 28) (h0 : m.testBit 0 = false) (hb : bs m 28 ≤ 14) : EvI y_So_winCount b_So_winCount 3 (some .int) (23) [Vr 46] w (fun z w' => z = cn (winP m) 27 ∧ SV w w') := by
  refine Ev.mk (isI := false) (by decide +kernel) nofun (Nat.le_of_ble_eq_true rfl) (fun G hG => ?_)
  show G 0 [some (Vr 46), none, none] [] 102 (hp w)
  have L : ∀ (j k : Nat) (W : Mem), k + j = 27 → 1 ≤ k → SV w W → G 4 [some (Vr 46), some (Vi (cn (winP m) k)), some (Vi ((k : Int) + 1))] [] 102 (hp W) := by
    intro j
    induction j with
    | zero =>
      intro k W h1 h2 h3
      have hk : k = 27 := by omega
      subst hk
      refine gx_iload2 (q := 5) hG d_So_winCount_4 rfl ?_
      refine gx_bipush (q := 7) hG d_So_winCount_5 rfl rfl ?_
      refine gx_icmp_ge (tgt := 27) (q := 10) hG d_So_winCount_7 rfl rfl (by omega) (by omega) (fun c7 => ?_) (fun c7 => ?_)
      · refine gx_iload1 (q := 28) hG d_So_winCount_27 rfl ?_
        refine gx_ireturn hG d_So_winCount_28 rfl rfl ?_
        exact ⟨_, rfl, _, rfl, rfl, h3⟩
      · exfalso; omega
    | succ j ih =>
      intro k W h1 h2 h3
      have cs : cn (winP m) (k + 1) = cn (winP m) k + bi (winP m ((k + 1 : Nat) : Int)) := rfl
      refine gx_iload2 (q := 5) hG d_So_winCount_4 rfl ?_
      refine gx_bipush (q := 7) hG d_So_winCount_5 rfl rfl ?_
      refine gx_icmp_ge (tgt := 27) (q := 10) hG d_So_winCount_7 rfl rfl (by omega) (by omega) (fun c7 => ?_) (fun c7 => ?_)
      · exfalso; omega
      · refine gx_aload0 (q := 11) hG d_So_winCount_10 rfl ?_
        refine gx_iload2 (q := 12) hG d_So_winCount_11 rfl ?_
        refine gw_V1I (q := 15) hG l_So_63 c_So_winsBy (ev_So_winsBy (n := k + 1) h3.2.2 (h3.2.1.trans hg) hm h0 hb (by omega)) hpSo rfl (by omega) (Nat.le_of_ble_eq_true rfl) d_So_winCount_12 rfl (by decide) (fun z12 w2 h12 => ?_)
        obtain ⟨rfl, s2⟩ := h12
        refine gx_if_eq (tgt := 21) (q := 18) hG d_So_winCount_15 rfl rfl (bi_R _) (fun c15 => ?_) (fun c15 => ?_)
        · refine gx_iinc2 (q := 24) hG d_So_winCount_21 rfl rfl ?_
          refine gx_goto (tgt := 4) hG d_So_winCount_24 rfl ?_
          have e := ih (k + 1) w2 (by omega) (by omega) (h3.tr s2)
          rw [cs] at e
          first
            | (rw [bi_t (bi_ne0.mp c15)] at e; exact e)
            | (rw [c15, Int.add_zero] at e; exact e)
        · refine gx_iinc1 (q := 21) hG d_So_winCount_18 rfl rfl ?_
          refine gx_iinc2 (q := 24) hG d_So_winCount_21 rfl rfl ?_
          refine gx_goto (tgt := 4) hG d_So_winCount_24 rfl ?_
          have e := ih (k + 1) w2 (by omega) (by omega) (h3.tr s2)
          rw [cs] at e
          first
            | (rw [bi_t (bi_ne0.mp c15)] at e; exact e)
            | (rw [c15, Int.add_zero] at e; exact e)
  refine gx_iconst (q := 1) hG d_So_winCount_0 rfl ?_
  refine gx_istore1 (q := 2) hG d_So_winCount_1 rfl rfl ?_
  refine gx_iconst (q := 3) hG d_So_winCount_2 rfl ?_
  refine gx_istore2 (q := 4) hG d_So_winCount_3 rfl rfl ?_
  have e := L 26 1 w (by omega) (by omega) (SV_id hS)
  have e1 : cn (winP m) 1 = 0 := by show 0 + bi _ = 0; rw [bi_f (winP_lo (by decide))]; rfl
  rw [e1] at e
  exact e
/-- the least by which it wins, 0 if there is none -/
noncomputable def lwN (P : Int → Prop) : Nat → Int
  | 0 => 0
  | k + 1 => if bi (P ((k + 1 : Nat) : Int)) = 1 ∧ cn P k = 0 then ((k + 1 : Nat) : Int) else lwN P k
theorem lwN_spec {P : Int → Prop} : ∀ k : Nat, (cn P k = 0 ∧ lwN P k = 0) ∨ (1 ≤ cn P k ∧ 1 ≤ lwN P k ∧ lwN P k ≤ k ∧ P (lwN P k))
  | 0 => Or.inl ⟨rfl, rfl⟩
  | k + 1 => by
    have h := lwN_spec (P := P) k
    have hb := bi_01 (P ((k + 1 : Nat) : Int))
    unfold cn lwN
    by_cases c : bi (P ((k + 1 : Nat) : Int)) = 1 ∧ cn P k = 0
    · rw [if_pos c]
      exact Or.inr ⟨by omega, by omega, by omega, bi_eq1.mp c.1⟩
    · rw [if_neg c]
      rcases h with h | h
      · left
        omega
      · right
        exact ⟨by omega, h.2.1, by omega, h.2.2.2⟩
theorem lwN_eq {P : Int → Prop} {z : Int} (h1 : 1 ≤ z) (hz : P z) (hl : ∀ u, 1 ≤ u → u < z → ¬ P u) : ∀ k : Nat, z ≤ k → lwN P k = z
  | 0, h => by omega
  | k + 1, h => by
    unfold lwN
    by_cases c : z = ((k + 1 : Nat) : Int)
    · have c0 : cn P k = 0 := (cn_zero k).mpr (fun u u0 u1 => hl u u0 (by omega))
      rw [if_pos ⟨bi_t (by rw [← c]; exact hz), c0⟩, c]
    · have c1 : cn P k ≠ 0 := fun q => (cn_zero k).mp q z h1 (by omega) hz
      rw [if_neg (fun q => c1 q.2)]
      exact lwN_eq h1 hz hl k (by omega)
theorem ev_So_leastWin {w : Mem} {m : Nat} (hS : SolOK (w 46) (w 47) (w 48)) (hg : w 46 0 = (m : Int)) (hm : m < 2 ^ 28) (h0 : m.testBit 0 = false) (hb : bs m 28 ≤ 14) : EvI y_So_leastWin b_So_leastWin 2 (some .int) (23) [Vr 46] w (fun z w' => z = lwN (winP m) 27 ∧ SV w w') := by
  refine Ev.mk (isI := false) (by decide +kernel) nofun (Nat.le_of_ble_eq_true rfl) (fun G hG => ?_)
  show G 0 [some (Vr 46), none] [] 102 (hp w)
  have L : ∀ (j k : Nat) (W : Mem), k + j = 27 → 1 ≤ k → cn (winP m) k = 0 → SV w W → G 2 [some (Vr 46), some (Vi ((k : Int) + 1))] [] 102 (hp W) := by
    intro j
    induction j with
    | zero =>
      intro k W h1 h2 h2' h3
      have hk : k = 27 := by omega
      subst hk
      refine gx_iload1 (q := 3) hG d_So_leastWin_2 rfl ?_
      refine gx_bipush (q := 5) hG d_So_leastWin_3 rfl rfl ?_
      refine gx_icmp_ge (tgt := 24) (q := 8) hG d_So_leastWin_5 rfl rfl (by omega) (by omega) (fun c5 => ?_) (fun c5 => ?_)
      · refine gx_iconst (q := 25) hG d_So_leastWin_24 rfl ?_
        refine gx_ireturn hG d_So_leastWin_25 rfl rfl ?_
        refine ⟨_, rfl, _, rfl, ?_, h3⟩
        rcases lwN_spec (P := winP m) 27 with q | q
        · exact q.2.symm
        · omega
      · exfalso; omega
    | succ j ih =>
      intro k W h1 h2 h2' h3
      have cs : cn (winP m) (k + 1) = cn (winP m) k + bi (winP m ((k + 1 : Nat) : Int)) := rfl
      refine gx_iload1 (q := 3) hG d_So_leastWin_2 rfl ?_
      refine gx_bipush (q := 5) hG d_So_leastWin_3 rfl rfl ?_
      refine gx_icmp_ge (tgt := 24) (q := 8) hG d_So_leastWin_5 rfl rfl (by omega) (by omega) (fun c5 => ?_) (fun c5 => ?_)
      · exfalso; omega
      · refine gx_aload0 (q := 9) hG d_So_leastWin_8 rfl ?_
        refine gx_iload1 (q := 10) hG d_So_leastWin_9 rfl ?_
        refine gw_V1I (q := 13) hG l_So_63 c_So_winsBy (ev_So_winsBy (n := k + 1) h3.2.2 (h3.2.1.trans hg) hm h0 hb (by omega)) hpSo rfl (by omega) (Nat.le_of_ble_eq_true rfl) d_So_leastWin_10 rfl (by decide) (fun z10 w2 h10 => ?_)
        obtain ⟨rfl, s2⟩ := h10
        refine gx_if_eq (tgt := 18) (q := 16) hG d_So_leastWin_13 rfl rfl (bi_R _) (fun c13 => ?_) (fun c13 => ?_)
        · refine gx_iinc1 (q := 21) hG d_So_leastWin_18 rfl rfl ?_
          refine gx_goto (tgt := 2) hG d_So_leastWin_21 rfl ?_
          exact ih (k + 1) w2 (by omega) (by omega) (by rw [cs, h2', c13]; rfl) (h3.tr s2)
        · refine gx_iload1 (q := 17) hG d_So_leastWin_16 rfl ?_
          refine gx_ireturn hG d_So_leastWin_17 rfl rfl ?_
          refine ⟨_, rfl, _, rfl, ?_, h3.tr s2⟩
          exact (lwN_eq (by omega) (bi_ne0.mp c13) (fun u u0 u1 => (cn_zero k).mp h2' u u0 (by omega)) 27 (by omega)).symm
  refine gx_iconst (q := 1) hG d_So_leastWin_0 rfl ?_
  refine gx_istore1 (q := 2) hG d_So_leastWin_1 rfl rfl ?_
  exact L 26 1 w (by omega) (by omega) (by show 0 + bi _ = 0; rw [bi_f (winP_lo (by decide))]; rfl) (SV_id hS)
theorem ev_So_shortest {w : Mem} {m : Nat} (hS : SolOK (w 46) (w 47) (w 48)) (hg : w 46 0 = (m : Int)) (hm : m < 2 ^ 28) (h0 : m.testBit 0 = false) (hb : bs m 28 ≤ 14) : EvI y_So_shortest b_So_shortest 1 (some .int) (21) [Vr 46] w (fun z w' => z = vS m / 2 ∧ SV w w') := by
  refine Ev.mk (isI := false) (by decide +kernel) nofun (Nat.le_of_ble_eq_true rfl) (fun G hG => ?_)
  show G 0 [some (Vr 46)] [] 102 (hp w)
  have hvb := slF_bd 15 m
  have hvb : 0 ≤ vS m ∧ vS m ≤ 29 := hvb
  refine gx_aload0 (q := 1) hG d_So_shortest_0 rfl ?_
  refine gx_aload0 (q := 2) hG d_So_shortest_1 rfl ?_
  refine gx_get (q := 5) hG f_So_34 hpSo rfl d_So_shortest_2 rfl ?_
  rw [hg]
  refine gx_iconst (q := 6) hG d_So_shortest_5 rfl ?_
  refine gw_S3I (q := 9) hG l_So_55 c_So_solved (ev_So_solved 14 hS hm h0 hb (by omega) (by omega)) (by omega) (Nat.le_of_ble_eq_true rfl) d_So_shortest_6 rfl (by decide) (fun z6 w1 h6 => ?_)
  obtain ⟨rfl, s1⟩ := h6
  refine gx_iconst (q := 10) hG d_So_shortest_9 rfl ?_
  refine gx_idiv (q := 11) hG d_So_shortest_10 rfl (by omega) (by omega) (by omega) (by omega) ?_
  refine gx_ireturn hG d_So_shortest_11 rfl rfl ?_
  exact ⟨_, rfl, _, rfl, rfl, s1⟩
theorem ev_So_gapCount {w : Mem} {m : Nat} (hg : w 46 0 = (m : Int)) (hm : m < 2 ^ 28) : EvX y_So_gapCount b_So_gapCount 1 (some .int) (2) [Vr 46] w (Vi (bs m 28 : Nat)) := by
  refine Ev.mk (isI := false) (by decide +kernel) nofun (Nat.le_of_ble_eq_true rfl) (fun G hG => ?_)
  show G 0 [some (Vr 46)] [] 102 (hp w)
  refine gx_aload0 (q := 1) hG d_So_gapCount_0 rfl ?_
  refine gx_get (q := 4) hG f_So_34 hpSo rfl d_So_gapCount_1 rfl ?_
  rw [hg]
  refine gw_S1X (q := 7) hG l_So_46 c_In_bitCount (ev_In_bitCount (by omega)) (by decide) (Nat.le_of_ble_eq_true rfl) d_So_gapCount_4 rfl (by decide) ?_
  refine gx_ireturn hG d_So_gapCount_7 rfl rfl ?_
  exact ⟨_, rfl, by rw [show 32 = 28 + 4 from rfl, bs_more (n := 28) (fun v hv => Nat.testBit_lt_two_pow (Nat.lt_of_lt_of_le hm (Nat.pow_le_pow_right (by decide) hv)))], rfl⟩
/-- the gaps as a mask, when all are below 28 -/
noncomputable def gapm (s : Sta) : Nat := mkN (fun v => ¬ hadS s v) 28
def canS (s : Sta) : Prop := s 4 0 = 0 ∧ (∀ v : Int, 28 ≤ v → v ≤ 60 → hadS s v) ∧ cn (fun v => ¬ hadS s v) 60 ≤ 14
theorem hadS_0 {s : Sta} : hadS s 0 := rch_zero
theorem gapm_0 {s : Sta} : (gapm s).testBit 0 = false := by
  cases hc : (gapm s).testBit 0
  · rfl
  · exact absurd hadS_0 ((mkN_bit 28 0).mp hc).2
theorem mkN_lt {P : Nat → Prop} : ∀ k, mkN P k < 2 ^ k := fun k => Nat.lt_pow_two_of_testBit _ (fun i hi => by
  cases hc : (mkN P k).testBit i
  · rfl
  · have := ((mkN_bit k i).mp hc).1
    omega)
theorem gapm_cn {s : Sta} (h : ∀ v : Int, 28 ≤ v → v ≤ 60 → hadS s v) : ((bs (gapm s) 28 : Nat) : Int) = cn (fun v => ¬ hadS s v) 27 ∧ cn (fun v => ¬ hadS s v) 60 = cn (fun v => ¬ hadS s v) 27 := by
  refine ⟨?_, ?_⟩
  · rw [cn_bs gapm_0 27]
    refine cn_congr 27 (fun v v1 v2 => ?_)
    obtain ⟨k, rfl⟩ := Int.eq_ofNat_of_zero_le (show 0 ≤ v by omega)
    unfold gapm
    rw [show (k : Int).toNat = k by omega, mkN_bit]
    exact ⟨fun q => q.2, fun q => ⟨by omega, q⟩⟩
  · have key : ∀ d : Nat, d ≤ 33 → cn (fun v => ¬ hadS s v) (27 + d) = cn (fun v => ¬ hadS s v) 27 := by
      intro d
      induction d with
      | zero => intro _; rfl
      | succ d ih =>
        intro hd
        show cn _ (27 + d) + bi (¬ hadS s ((27 + d + 1 : Nat) : Int)) = _
        rw [ih (by omega), bi_f (fun q => q (h _ (by omega) (by omega)))]
        omega
    exact key 33 (by omega)
theorem ev_So_load {w : Mem} (hO : OK (aX w)) (hj : XJ w) : EvI y_So_load b_So_load 4 (some .boolean) (3) [Vr 46, Vr 3] w (fun z w' => z = bi (canS (aX w)) ∧ SX w w' ∧ (canS (aX w) → w' 46 0 = (gapm (aX w) : Int) ∧ SolOK (w' 46) (w' 47) (w' 48))) := by
  refine Ev.mk (isI := false) (by decide +kernel) nofun (Nat.le_of_ble_eq_true rfl) (fun G hG => ?_)
  show G 0 [some (Vr 46), some (Vr 3), none, none] [] 102 (hp w)
  have hg := hO.gi hj
  obtain ⟨m, e1, e2, e3⟩ := GI_bits hg
  have hol := opn_lt m
  have hoi := opn_iff e3
  have hS := hj.2.2.2
  have hnz := nzc_bd (k := w 47) 1024
  have hs1 := hS.1
  have hlw := hg.2.2.1
  have hhi : opn m < 2 ^ 28 ↔ ∀ v : Int, 28 ≤ v → v ≤ 60 → hadS (aX w) v := by
    constructor
    · intro q v v0 v1
      obtain ⟨k, rfl⟩ := Int.eq_ofNat_of_zero_le (show 0 ≤ v by omega)
      refine Classical.byContradiction fun z => ?_
      have := (hoi k (by omega)).mpr (fun z2 => z (hadX.mp z2))
      rw [Nat.testBit_lt_two_pow (Nat.lt_of_lt_of_le q (Nat.pow_le_pow_right (by decide) (by omega)))] at this
      cases this
    · intro q
      refine Nat.lt_pow_two_of_testBit _ (fun i hi => ?_)
      cases hc : (opn m).testBit i
      · rfl
      · exfalso
        rcases Nat.lt_or_ge 60 i with c | c
        · rw [tb_big hol c] at hc; cases hc
        · exact (hoi i c).mp hc (hadX.mpr (q i (by omega) (by omega)))
  have hcn : ((bs (opn m) 64 : Nat) : Int) = cn (fun v => ¬ hadS (aX w) v) 60 := by
    rw [cn_mask (P := fun v => ¬ hd w 3 v) hol hoi (fun z => z hd_zero)]
    exact cn_congr 60 (fun v _ _ => not_congr hadX)
  have hgm : opn m < 2 ^ 28 → opn m = gapm (aX w) := fun q => mkN_eq q (fun i hi => by
    rw [hoi i (by omega)]
    exact not_congr hadX)
  have hsh : ((opn m >>> 28 : Nat) : Int) = 0 ↔ opn m < 2 ^ 28 := by
    rw [Nat.shiftRight_eq_div_pow]
    omega
  have hshb : opn m >>> 28 ≤ opn m := by rw [Nat.shiftRight_eq_div_pow]; exact Nat.div_le_self _ _
  have hbs := bs_le (opn m) 64
  have hA : SolOK (wu (wc (wu w 46 0 ((opn m : Nat) : Int)) 47 (fillA 1024 (wu w 46 0 ((opn m : Nat) : Int) 47) 0)) 46 3 0 46) (wu (wc (wu w 46 0 ((opn m : Nat) : Int)) 47 (fillA 1024 (wu w 46 0 ((opn m : Nat) : Int) 47) 0)) 46 3 0 47) (wu (wc (wu w 46 0 ((opn m : Nat) : Int)) 47 (fillA 1024 (wu w 46 0 ((opn m : Nat) : Int) 47) 0)) 46 3 0 48) := by
    have e47 : ∀ (W : Mem) (F : Int → Int), wu (wc W 47 F) 46 3 0 47 = F := fun W F => by rw [wu_ne (by omega), wc_eq]
    rw [e47]
    refine ⟨?_, fun i i0 i1 => Or.inl ?_⟩
    · rw [wu_eq, nzc_zero 1024 (fun i i0 i1 => by unfold fillA; rw [if_pos (by omega)])]
    · unfold fillA
      rw [if_pos (by omega)]
  have hB : SolOK (wu w 46 0 ((opn m : Nat) : Int) 46) (wu w 46 0 ((opn m : Nat) : Int) 47) (wu w 46 0 ((opn m : Nat) : Int) 48) := by
    rw [wu_ne (show (47 : Int) ≠ 46 by omega), wu_ne (show (48 : Int) ≠ 46 by omega)]
    exact ⟨by rw [wu_pl (by omega)]; exact hs1, hS.2⟩
  refine gx_aload1 (q := 1) hG d_So_load_0 rfl ?_
  refine gw_V0X (q := 4) hG l_So_18 c_Gm_open (ev_Gm_open hg.1 e1) (hpGame hg.1) rfl (by decide) (Nat.le_of_ble_eq_true rfl) d_So_load_1 rfl (by decide) ?_
  refine gx_lstore2 (q := 5) hG d_So_load_4 rfl rfl ?_
  refine gx_aload1 (q := 6) hG d_So_load_5 rfl ?_
  refine gx_get (q := 9) hG f_So_24 (hpGame (by unfold isG; omega)) rfl d_So_load_6 rfl ?_
  refine gx_if_ne (tgt := 30) (q := 12) hG d_So_load_9 rfl rfl (by omega) (fun c9 => ?_) (fun c9 => ?_)
  · refine gx_iconst (q := 31) hG d_So_load_30 rfl ?_
    refine gx_zreturn hG d_So_load_31 rfl rfl (by first | exact bi_01 _ | decide | omega) ?_
    refine ⟨_, rfl, _, rfl, ?_, SX_id hj, ?_⟩
    · refine (bi_f (fun q : canS (aX w) => ?_)).symm
      first
        | exact c9 q.1
        | (have := hhi.mpr q.2.1; exact c18 (hsh.mpr this))
        | (have := q.2.2; omega)
    · intro q
      exfalso
      first
        | exact c9 q.1
        | (have := hhi.mpr q.2.1; exact c18 (hsh.mpr this))
        | (have := q.2.2; omega)
  · refine gx_lload2 (q := 13) hG d_So_load_12 rfl ?_
    refine gx_bipush (q := 15) hG d_So_load_13 rfl rfl ?_
    refine gx_lshr (q := 16) hG (((opn m >>> 28 : Nat) : Int)) d_So_load_15 rfl (j_shr (opn m) 28 (by decide) (by omega)) ?_
    refine gx_lconst (q := 17) hG 0 d_So_load_16 rfl rfl ?_
    refine gx_lcmp (q := 18) hG d_So_load_17 rfl (by omega) (by omega) ?_
    refine gx_if_ne (tgt := 30) (q := 21) hG d_So_load_18 rfl rfl (cmp3_R _ _) (fun c18 => ?_) (fun c18 => ?_)
    · have c18 := cmp3_ne.mp c18
      refine gx_iconst (q := 31) hG d_So_load_30 rfl ?_
      refine gx_zreturn hG d_So_load_31 rfl rfl (by first | exact bi_01 _ | decide | omega) ?_
      refine ⟨_, rfl, _, rfl, ?_, SX_id hj, ?_⟩
      · refine (bi_f (fun q : canS (aX w) => ?_)).symm
        first
          | exact c9 q.1
          | (have := hhi.mpr q.2.1; exact c18 (hsh.mpr this))
          | (have := q.2.2; omega)
      · intro q
        exfalso
        first
          | exact c9 q.1
          | (have := hhi.mpr q.2.1; exact c18 (hsh.mpr this))
          | (have := q.2.2; omega)
    · have c18 := cmp3_eq.mp c18
      refine gx_lload2 (q := 22) hG d_So_load_21 rfl ?_
      refine gw_S1X (q := 25) hG l_So_28 c_Lg_bitCount (ev_Lg_bitCount (by omega)) (by decide) (Nat.le_of_ble_eq_true rfl) d_So_load_22 rfl (by decide) ?_
      refine gx_bipush (q := 27) hG d_So_load_25 rfl rfl ?_
      refine gx_icmp_le (tgt := 32) (q := 30) hG d_So_load_27 rfl rfl (by omega) (by omega) (fun c27 => ?_) (fun c27 => ?_)
      · refine gx_aload0 (q := 33) hG d_So_load_32 rfl ?_
        refine gx_lload2 (q := 34) hG d_So_load_33 rfl ?_
        refine gx_l2i (q := 35) hG d_So_load_34 rfl ?_
        refine gw_puti (q := 38) hG f_So_34 hpSo (Nat.le_of_ble_eq_true rfl) vfit_i (Or.inl rfl) d_So_load_35 rfl 0 rfl rfl ?_
        refine gx_aload0 (q := 39) hG d_So_load_38 rfl ?_
        refine gx_get (q := 42) hG f_So_37 hpSo rfl d_So_load_39 rfl ?_
        rw [wu_pl (show (3 : Int) ≠ 0 by decide)]
        refine gx_sipush (q := 45) hG d_So_load_42 rfl rfl ?_
        refine gx_icmp_le (tgt := 61) (q := 48) hG d_So_load_45 rfl rfl (by omega) (by omega) (fun c45 => ?_) (fun c45 => ?_)
        · refine gx_iconst (q := 62) hG d_So_load_61 rfl ?_
          refine gx_zreturn hG d_So_load_62 rfl rfl (by first | exact bi_01 _ | decide | omega) ?_
          have hlt := hsh.mp c18
          have hcan : canS (aX w) := ⟨c9, hhi.mp hlt, by omega⟩
          first
            | exact ⟨_, rfl, _, rfl, (bi_t hcan).symm, SV_X hj (fun b b1 b2 b3 => by rw [wu_ne b1]) hB, fun _ => ⟨by rw [wu_eq, hgm hlt], hB⟩⟩
            | exact ⟨_, rfl, _, rfl, (bi_t hcan).symm, SV_X hj (fun b b1 b2 b3 => by rw [wu_ne b1, wc_ne b2, wu_ne b1]) hA, fun _ => ⟨by rw [wu_pl (by omega), wc_ne (by omega), wu_eq, hgm hlt], hA⟩⟩
        · refine gx_aload0 (q := 49) hG d_So_load_48 rfl ?_
          refine gx_get (q := 52) hG f_So_11 hpSo rfl d_So_load_49 rfl ?_
          refine gx_iconst (q := 53) hG d_So_load_52 rfl ?_
          refine gw_S2V (q := 56) hG l_So_40 c_Ar_fillI (ev_Ar_fillI (N := 1024) rfl) (by decide) (Nat.le_of_ble_eq_true rfl) d_So_load_53 rfl (by decide) (fun w1 h53 => ?_)
          subst h53
          refine gx_aload0 (q := 57) hG d_So_load_56 rfl ?_
          refine gx_iconst (q := 58) hG d_So_load_57 rfl ?_
          refine gw_puti (q := 61) hG f_So_37 hpSo (Nat.le_of_ble_eq_true rfl) vfit_i (Or.inl rfl) d_So_load_58 rfl 3 rfl rfl ?_
          refine gx_iconst (q := 62) hG d_So_load_61 rfl ?_
          refine gx_zreturn hG d_So_load_62 rfl rfl (by first | exact bi_01 _ | decide | omega) ?_
          have hlt := hsh.mp c18
          have hcan : canS (aX w) := ⟨c9, hhi.mp hlt, by omega⟩
          first
            | exact ⟨_, rfl, _, rfl, (bi_t hcan).symm, SV_X hj (fun b b1 b2 b3 => by rw [wu_ne b1]) hB, fun _ => ⟨by rw [wu_eq, hgm hlt], hB⟩⟩
            | exact ⟨_, rfl, _, rfl, (bi_t hcan).symm, SV_X hj (fun b b1 b2 b3 => by rw [wu_ne b1, wc_ne b2, wu_ne b1]) hA, fun _ => ⟨by rw [wu_pl (by omega), wc_ne (by omega), wu_eq, hgm hlt], hA⟩⟩
      · refine gx_iconst (q := 31) hG d_So_load_30 rfl ?_
        refine gx_zreturn hG d_So_load_31 rfl rfl (by first | exact bi_01 _ | decide | omega) ?_
        refine ⟨_, rfl, _, rfl, ?_, SX_id hj, ?_⟩
        · refine (bi_f (fun q : canS (aX w) => ?_)).symm
          first
            | exact c9 q.1
            | (have := hhi.mpr q.2.1; exact c18 (hsh.mpr this))
            | (have := q.2.2; omega)
        · intro q
          exfalso
          first
            | exact c9 q.1
            | (have := hhi.mpr q.2.1; exact c18 (hsh.mpr this))
            | (have := q.2.2; omega)

