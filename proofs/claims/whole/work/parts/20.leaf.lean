/-! part 20: small methods of the class -/
theorem ev_X_isIn {w : Mem} {i e : Int} (hi : R3 i) (he : R3 e) : EvX y_X_isIn b_X_isIn 2 (some .boolean) (1) [Vi i, Vi e] w (Vi (bi (0 ≤ i ∧ i < e))) := by
  refine Ev.mk (isI := false) (by decide +kernel) nofun (Nat.le_of_ble_eq_true rfl) (fun G hG => ?_)
  show G 0 [some (Vi i), some (Vi e)] [] 102 (hp w)
  refine gx_iload0 (q := 1) hG d_X_isIn_0 rfl ?_
  refine gx_if_lt (tgt := 13) (q := 4) hG d_X_isIn_1 rfl rfl (by omega) (fun c1 => ?_) (fun c1 => ?_)
  · refine gx_iconst (q := 14) hG d_X_isIn_13 rfl ?_
    refine gx_zreturn hG d_X_isIn_14 rfl rfl (by first | exact bi_01 _ | decide | omega) ?_
    refine ⟨w, rfl, ?_, rfl⟩; first | rfl | (rw [bi_t (by omega)]) | (rw [bi_f (by omega)])
  · refine gx_iload0 (q := 5) hG d_X_isIn_4 rfl ?_
    refine gx_iload1 (q := 6) hG d_X_isIn_5 rfl ?_
    refine gx_icmp_ge (tgt := 13) (q := 9) hG d_X_isIn_6 rfl rfl (by omega) (by omega) (fun c6 => ?_) (fun c6 => ?_)
    · refine gx_iconst (q := 14) hG d_X_isIn_13 rfl ?_
      refine gx_zreturn hG d_X_isIn_14 rfl rfl (by first | exact bi_01 _ | decide | omega) ?_
      refine ⟨w, rfl, ?_, rfl⟩; first | rfl | (rw [bi_t (by omega)]) | (rw [bi_f (by omega)])
    · refine gx_iconst (q := 10) hG d_X_isIn_9 rfl ?_
      refine gx_goto (tgt := 14) hG d_X_isIn_10 rfl ?_
      refine gx_zreturn hG d_X_isIn_14 rfl rfl (by first | exact bi_01 _ | decide | omega) ?_
      refine ⟨w, rfl, ?_, rfl⟩; first | rfl | (rw [bi_t (by omega)]) | (rw [bi_f (by omega)])
theorem ev_Rw_isThere {w : Mem} {a : Int} (ha : 50 ≤ a ∧ a < 70 ∧ a % 2 = 0) (hs : R3 (w a 1)) : EvX y_Rw_isThere b_Rw_isThere 1 (some .boolean) (1) [Vr a] w (Vi (bi (0 ≤ w a 1))) := by
  refine Ev.mk (isI := false) (by decide +kernel) nofun (Nat.le_of_ble_eq_true rfl) (fun G hG => ?_)
  show G 0 [some (Vr a)] [] 102 (hp w)
  refine gx_aload0 (q := 1) hG d_Rw_isThere_0 rfl ?_
  refine gx_get (q := 4) hG f_Rw_15 (hpRow (by omega)) rfl d_Rw_isThere_1 rfl ?_
  refine gx_if_lt (tgt := 11) (q := 7) hG d_Rw_isThere_4 rfl rfl (by omega) (fun c4 => ?_) (fun c4 => ?_)
  · refine gx_iconst (q := 12) hG d_Rw_isThere_11 rfl ?_
    refine gx_zreturn hG d_Rw_isThere_12 rfl rfl (by first | exact bi_01 _ | decide | omega) ?_
    refine ⟨w, rfl, ?_, rfl⟩; first | rfl | (rw [bi_t (by omega)]) | (rw [bi_f (by omega)])
  · refine gx_iconst (q := 8) hG d_Rw_isThere_7 rfl ?_
    refine gx_goto (tgt := 12) hG d_Rw_isThere_8 rfl ?_
    refine gx_zreturn hG d_Rw_isThere_12 rfl rfl (by first | exact bi_01 _ | decide | omega) ?_
    refine ⟨w, rfl, ?_, rfl⟩; first | rfl | (rw [bi_t (by omega)]) | (rw [bi_f (by omega)])
theorem ev_Ma_min {w : Mem} {x y : Int} (hx : R3 x) (hy : R3 y) : EvX y_Ma_min b_Ma_min 2 (some .int) (1) [Vi x, Vi y] w (Vi (min x y)) := by
  refine Ev.mkF (isI := false) (by decide +kernel) nofun (Nat.le_of_ble_eq_true rfl) (fun G hG => ?_)
  show G 0 [some (Vi x), some (Vi y)] [] 102 (hp w)
  refine gx_iload0 (q := 1) hG d_Ma_min_0 rfl ?_
  refine gx_iload1 (q := 2) hG d_Ma_min_1 rfl ?_
  refine gx_icmp_gt (tgt := 9) (q := 5) hG d_Ma_min_2 rfl rfl (by omega) (by omega) (fun c2 => ?_) (fun c2 => ?_)
  · refine gx_iload1 (q := 10) hG d_Ma_min_9 rfl ?_
    refine gx_ireturn hG d_Ma_min_10 rfl rfl ?_
    refine ⟨w, rfl, ?_, rfl⟩; first | (rw [Int.min_eq_left (by omega)]) | (rw [Int.min_eq_right (by omega)])
  · refine gx_iload0 (q := 6) hG d_Ma_min_5 rfl ?_
    refine gx_goto (tgt := 10) hG d_Ma_min_6 rfl ?_
    refine gx_ireturn hG d_Ma_min_10 rfl rfl ?_
    refine ⟨w, rfl, ?_, rfl⟩; first | (rw [Int.min_eq_left (by omega)]) | (rw [Int.min_eq_right (by omega)])
theorem ev_Ma_max {w : Mem} {x y : Int} (hx : R3 x) (hy : R3 y) : EvX y_Ma_max b_Ma_max 2 (some .int) (1) [Vi x, Vi y] w (Vi (max x y)) := by
  refine Ev.mkF (isI := false) (by decide +kernel) nofun (Nat.le_of_ble_eq_true rfl) (fun G hG => ?_)
  show G 0 [some (Vi x), some (Vi y)] [] 102 (hp w)
  refine gx_iload0 (q := 1) hG d_Ma_max_0 rfl ?_
  refine gx_iload1 (q := 2) hG d_Ma_max_1 rfl ?_
  refine gx_icmp_lt (tgt := 9) (q := 5) hG d_Ma_max_2 rfl rfl (by omega) (by omega) (fun c2 => ?_) (fun c2 => ?_)
  · refine gx_iload1 (q := 10) hG d_Ma_max_9 rfl ?_
    refine gx_ireturn hG d_Ma_max_10 rfl rfl ?_
    refine ⟨w, rfl, ?_, rfl⟩; first | (rw [Int.max_eq_left (by omega)]) | (rw [Int.max_eq_right (by omega)])
  · refine gx_iload0 (q := 6) hG d_Ma_max_5 rfl ?_
    refine gx_goto (tgt := 10) hG d_Ma_max_6 rfl ?_
    refine gx_ireturn hG d_Ma_max_10 rfl rfl ?_
    refine ⟨w, rfl, ?_, rfl⟩; first | (rw [Int.max_eq_left (by omega)]) | (rw [Int.max_eq_right (by omega)])
/-- Euclid: the smaller number falls by half in two steps -/
theorem gcd_step {a b : Nat} (h : b ≠ 0) : Nat.gcd a b = Nat.gcd b (a % b) := by
  rw [Nat.gcd_comm a b, Nat.gcd_rec b a, Nat.gcd_comm]
theorem ev_X_divisorOf {w : Mem} {x y : Nat} (hx : x ≤ 2147483647) (hy : y ≤ 60) : EvX y_X_divisorOf b_X_divisorOf 6 (some .int) (1) [Vi (x : Int), Vi (y : Int)] w (Vi (Nat.gcd x y : Nat)) := by
  refine Ev.mk (isI := false) (by decide +kernel) nofun (Nat.le_of_ble_eq_true rfl) (fun G hG => ?_)
  show G 0 [some (Vi (x : Int)), some (Vi (y : Int)), none, none, none, none] [] 102 (hp w)
  refine gx_iload0 (q := 1) hG d_X_divisorOf_0 rfl ?_
  refine gx_istore2 (q := 2) hG d_X_divisorOf_1 rfl rfl ?_
  refine gx_iload1 (q := 3) hG d_X_divisorOf_2 rfl ?_
  refine gx_istore3 (q := 4) hG d_X_divisorOf_3 rfl rfl ?_
  refine gx_iconst (q := 5) hG d_X_divisorOf_4 rfl ?_
  refine gx_istore4 (q := 7) hG d_X_divisorOf_5 rfl rfl ?_
  skip
  have L : ∀ (j : Nat) (s x1 y1 : Nat) (o5 : Option Value), s + j = 64 → x1 ≤ 2147483647 → y1 < j → Nat.gcd x1 y1 = Nat.gcd x y → one1 [o5] 0 = true → G 7 [some (Vi (x : Int)), some (Vi (y : Int)), some (Vi (x1 : Int)), some (Vi (y1 : Int)), some (Vi (s : Int)), o5] [] 102 (hp w) := by
    intro j
    induction j with
    | zero => intro s x1 y1 o5 h1 h2 h3; omega
    | succ j ih =>
      intro s x1 y1 o5 h1 h2 h3 h4 h5
      refine gx_iload4 (q := 9) hG d_X_divisorOf_7 rfl ?_
      refine gx_bipush (q := 11) hG d_X_divisorOf_9 rfl rfl ?_
      refine gx_icmp_ge (tgt := 34) (q := 14) hG d_X_divisorOf_11 rfl rfl (by omega) (by omega) (fun c11 => ?_) (fun c11 => ?_)
      · exfalso; omega
      · refine gx_iload3 (q := 15) hG d_X_divisorOf_14 rfl ?_
        refine gx_if_eq (tgt := 34) (q := 18) hG d_X_divisorOf_15 rfl rfl (by omega) (fun c15 => ?_) (fun c15 => ?_)
        · refine gx_iload2 (q := 35) hG d_X_divisorOf_34 rfl ?_
          refine gx_ireturn hG d_X_divisorOf_35 rfl rfl ?_
          exact ⟨w, rfl, by rw [← h4, show y1 = 0 by omega, Nat.gcd_zero_right], rfl⟩
        · refine gx_iload2 (q := 19) hG d_X_divisorOf_18 rfl ?_
          refine gx_iload3 (q := 20) hG d_X_divisorOf_19 rfl ?_
          refine gx_irem (q := 21) hG d_X_divisorOf_20 rfl (by omega) (by omega) (by omega) (by omega) ?_
          refine gx_istore5 (q := 23) hG d_X_divisorOf_21 rfl rfl ?_
          refine gx_iload3 (q := 24) hG d_X_divisorOf_23 rfl ?_
          refine gx_istore2 (q := 25) hG d_X_divisorOf_24 rfl rfl ?_
          refine gx_iload5 (q := 27) hG d_X_divisorOf_25 rfl ?_
          refine gx_istore3 (q := 28) hG d_X_divisorOf_27 rfl rfl ?_
          refine gx_iinc4 (q := 31) hG d_X_divisorOf_28 rfl rfl ?_
          refine gx_goto (tgt := 7) hG d_X_divisorOf_31 rfl ?_
          exact ih (s + 1) y1 (x1 % y1) _ (by omega) (by omega) (by have := Nat.mod_lt x1 (show y1 > 0 by omega); omega) (by rw [← h4]; exact (gcd_step (by omega)).symm) rfl
  exact L 64 0 x y none (by omega) hx (by omega) rfl rfl
theorem ev_X_lowestOf {w : Mem} {m : Nat} (hm : m < 2 ^ 63) : EvY y_X_lowestOf b_X_lowestOf 3 (some .int) (1) [Vj (m : Int)] w (LowB m) := by
  refine Ev.mk (isI := false) (by decide +kernel) nofun (Nat.le_of_ble_eq_true rfl) (fun G hG => ?_)
  show G 0 [some (Vj (m : Int)), none, none] [] 102 (hp w)
  refine gx_iconst (q := 1) hG d_X_lowestOf_0 rfl ?_
  refine gx_istore2 (q := 2) hG d_X_lowestOf_1 rfl rfl ?_
  skip
  have L : ∀ (j k : Nat), k + j = 61 → (∀ u, u < k → m.testBit u = false) → G 2 [some (Vj (m : Int)), none, some (Vi (k : Int))] [] 102 (hp w) := by
    intro j
    induction j with
    | zero =>
      intro k h1 h2
      refine gx_iload2 (q := 3) hG d_X_lowestOf_2 rfl ?_
      refine gx_bipush (q := 5) hG d_X_lowestOf_3 rfl rfl ?_
      refine gx_icmp_gt (tgt := 26) (q := 8) hG d_X_lowestOf_5 rfl rfl (by omega) (by omega) (fun c5 => ?_) (fun c5 => ?_)
      · refine gx_iconst (q := 27) hG d_X_lowestOf_26 rfl ?_
        refine gx_ireturn hG d_X_lowestOf_27 rfl rfl ?_
        exact ⟨w, rfl, _, rfl, rfl, Or.inr ⟨rfl, fun u hu => h2 u (by omega)⟩⟩
      · exfalso; omega
    | succ j ih =>
      intro k h1 h2
      refine gx_iload2 (q := 3) hG d_X_lowestOf_2 rfl ?_
      refine gx_bipush (q := 5) hG d_X_lowestOf_3 rfl rfl ?_
      refine gx_icmp_gt (tgt := 26) (q := 8) hG d_X_lowestOf_5 rfl rfl (by omega) (by omega) (fun c5 => ?_) (fun c5 => ?_)
      · exfalso; omega
      · refine gx_lload0 (q := 9) hG d_X_lowestOf_8 rfl ?_
        refine gx_iload2 (q := 10) hG d_X_lowestOf_9 rfl ?_
        refine gx_lshr (q := 11) hG (((m >>> k : Nat) : Int)) d_X_lowestOf_10 rfl (j_shr m k (by omega) hm) ?_
        refine gx_lconst (q := 12) hG 1 d_X_lowestOf_11 rfl rfl ?_
        refine gx_land (q := 13) hG (bi (m.testBit k = true)) d_X_lowestOf_12 rfl (j_bit m k (by omega) hm) ?_
        refine gx_lconst (q := 14) hG 1 d_X_lowestOf_13 rfl rfl ?_
        refine gx_lcmp (q := 15) hG d_X_lowestOf_14 rfl (by have := bi_01 (m.testBit k = true); omega) (by have := bi_01 (m.testBit k = true); omega) ?_
        refine gx_if_ne (tgt := 20) (q := 18) hG d_X_lowestOf_15 rfl rfl (cmp3_R _ _) (fun c15 => ?_) (fun c15 => ?_)
        · have c15 := cmp3_ne.mp c15
          have c2 := bi_eq0.mp (show bi (m.testBit k = true) = 0 by have := bi_01 (m.testBit k = true); omega)
          refine gx_iinc2 (q := 23) hG d_X_lowestOf_20 rfl rfl ?_
          refine gx_goto (tgt := 2) hG d_X_lowestOf_23 rfl ?_
          exact ih (k + 1) (by omega) (fun u hu => (Nat.lt_succ_iff_lt_or_eq.mp hu).elim (h2 u) (fun e => by rw [e]; simpa using c2))
        · have c15 := cmp3_eq.mp c15
          have c2 := bi_eq1.mp c15
          refine gx_iload2 (q := 19) hG d_X_lowestOf_18 rfl ?_
          refine gx_ireturn hG d_X_lowestOf_19 rfl rfl ?_
          exact ⟨w, rfl, _, rfl, rfl, Or.inl ⟨k, rfl, by omega, c2, h2⟩⟩
  exact L 61 0 (by omega) (fun u hu => by omega)
theorem ev_Lg_bitCount {w : Mem} {x : Nat} (hx : x < 2 ^ 63) : EvX y_Lg_bitCount b_Lg_bitCount 2 (some .int) (1) [Vj (x : Int)] w (Vi (bs x 64 : Nat)) := by
  refine Ev.mkF (isI := false) (by decide +kernel) nofun (Nat.le_of_ble_eq_true rfl) (fun G hG => ?_)
  show G 0 [some (Vj (x : Int)), none] [] 102 (hp w)
  obtain ⟨c0, c1, c2, c3, c4, c5, c6, c7, g0, g1, g2, g3, g4, g5, g6, g7, e3, eb⟩ := P_eq8 (show x < 2 ^ 64 by omega)
  obtain ⟨y1, hy1⟩ : ∃ y, y = P1 8 x := ⟨_, rfl⟩
  have hl1 : y1 ≤ x := by rw [hy1]; exact Nat.sub_le _ _
  obtain ⟨y2, hy2⟩ : ∃ y, y = P2 8 y1 := ⟨_, rfl⟩
  have hl2 : y2 ≤ 7378697629483820646 := by rw [hy2]; have := P2_le 8 y1; rw [mk8.2.1] at this; omega
  obtain ⟨y3, hy3⟩ : ∃ y, y = P3 8 y2 := ⟨_, rfl⟩
  have hl3 : y3 ≤ 1085102592571150095 := by rw [hy3]; have := P3_le 8 y2; rw [mk8.2.2] at this; omega
  have e4 : y3 = c0 + 256 * (c1 + 256 * (c2 + 256 * (c3 + 256 * (c4 + 256 * (c5 + 256 * (c6 + 256 * c7)))))) := by rw [hy3, hy2, hy1]; exact e3
  have e5 := fold8 g0 g1 g2 g3 g4 g5 g6 g7 e4
  have hi1 := P1_int 8 x
  rw [← hy1, mk8.1] at hi1
  unfold P2 at hy2
  rw [mk8.2.1] at hy2
  unfold P3 at hy3
  rw [mk8.2.2] at hy3
  obtain ⟨y4, hy4⟩ : ∃ y, y = y3 + y3 / 256 := ⟨_, rfl⟩
  obtain ⟨y5, hy5⟩ : ∃ y, y = y4 + y4 / 65536 := ⟨_, rfl⟩
  rw [← hy4, ← hy5] at e5
  refine gx_lload0 (q := 1) hG d_Lg_bitCount_0 rfl ?_
  refine gx_lload0 (q := 2) hG d_Lg_bitCount_1 rfl ?_
  refine gx_iconst (q := 3) hG d_Lg_bitCount_2 rfl ?_
  refine gx_lushr (q := 4) hG (((x / 2 : Nat) : Int)) d_Lg_bitCount_3 rfl (j_ushr x 1 (by decide) (by omega)) ?_
  refine gx_ldc2 (q := 7) hG (6148914691236517205) k_Lg_314 d_Lg_bitCount_4 rfl rfl ?_
  refine gx_land (q := 8) hG (((x / 2 &&& 6148914691236517205 : Nat) : Int)) d_Lg_bitCount_7 rfl (j_and (x / 2) 6148914691236517205) ?_
  refine gx_lsub (q := 9) hG d_Lg_bitCount_8 rfl ?_
  rw [← hi1]
  refine gx_lstore0 (q := 10) hG d_Lg_bitCount_9 rfl ?_
  refine gx_lload0 (q := 11) hG d_Lg_bitCount_10 rfl ?_
  refine gx_ldc2 (q := 14) hG (3689348814741910323) k_Lg_316 d_Lg_bitCount_11 rfl rfl ?_
  refine gx_land (q := 15) hG (((y1 &&& 3689348814741910323 : Nat) : Int)) d_Lg_bitCount_14 rfl (j_and y1 3689348814741910323) ?_
  refine gx_lload0 (q := 16) hG d_Lg_bitCount_15 rfl ?_
  refine gx_iconst (q := 17) hG d_Lg_bitCount_16 rfl ?_
  refine gx_lushr (q := 18) hG (((y1 / 4 : Nat) : Int)) d_Lg_bitCount_17 rfl (j_ushr y1 2 (by decide) (by omega)) ?_
  refine gx_ldc2 (q := 21) hG (3689348814741910323) k_Lg_316 d_Lg_bitCount_18 rfl rfl ?_
  refine gx_land (q := 22) hG (((y1 / 4 &&& 3689348814741910323 : Nat) : Int)) d_Lg_bitCount_21 rfl (j_and (y1 / 4) 3689348814741910323) ?_
  refine gx_ladd (q := 23) hG d_Lg_bitCount_22 rfl ?_
  rw [← Int.natCast_add, ← hy2]
  refine gx_lstore0 (q := 24) hG d_Lg_bitCount_23 rfl ?_
  refine gx_lload0 (q := 25) hG d_Lg_bitCount_24 rfl ?_
  refine gx_lload0 (q := 26) hG d_Lg_bitCount_25 rfl ?_
  refine gx_iconst (q := 27) hG d_Lg_bitCount_26 rfl ?_
  refine gx_lushr (q := 28) hG (((y2 / 16 : Nat) : Int)) d_Lg_bitCount_27 rfl (j_ushr y2 4 (by decide) (by omega)) ?_
  refine gx_ladd (q := 29) hG d_Lg_bitCount_28 rfl ?_
  rw [← Int.natCast_add]
  refine gx_ldc2 (q := 32) hG (1085102592571150095) k_Lg_318 d_Lg_bitCount_29 rfl rfl ?_
  refine gx_land (q := 33) hG (((y3 : Nat) : Int)) d_Lg_bitCount_32 rfl ((j_and (y2 + y2 / 16) 1085102592571150095).trans (by rw [← hy3])) ?_
  refine gx_lstore0 (q := 34) hG d_Lg_bitCount_33 rfl ?_
  refine gx_lload0 (q := 35) hG d_Lg_bitCount_34 rfl ?_
  refine gx_lload0 (q := 36) hG d_Lg_bitCount_35 rfl ?_
  refine gx_bipush (q := 38) hG d_Lg_bitCount_36 rfl rfl ?_
  refine gx_lushr (q := 39) hG (((y3 / 256 : Nat) : Int)) d_Lg_bitCount_38 rfl (j_ushr y3 8 (by decide) (by omega)) ?_
  refine gx_ladd (q := 40) hG d_Lg_bitCount_39 rfl ?_
  rw [← Int.natCast_add, ← hy4]
  refine gx_lstore0 (q := 41) hG d_Lg_bitCount_40 rfl ?_
  refine gx_lload0 (q := 42) hG d_Lg_bitCount_41 rfl ?_
  refine gx_lload0 (q := 43) hG d_Lg_bitCount_42 rfl ?_
  refine gx_bipush (q := 45) hG d_Lg_bitCount_43 rfl rfl ?_
  refine gx_lushr (q := 46) hG (((y4 / 65536 : Nat) : Int)) d_Lg_bitCount_45 rfl (j_ushr y4 16 (by decide) (by omega)) ?_
  refine gx_ladd (q := 47) hG d_Lg_bitCount_46 rfl ?_
  rw [← Int.natCast_add, ← hy5]
  refine gx_lstore0 (q := 48) hG d_Lg_bitCount_47 rfl ?_
  refine gx_lload0 (q := 49) hG d_Lg_bitCount_48 rfl ?_
  refine gx_lload0 (q := 50) hG d_Lg_bitCount_49 rfl ?_
  refine gx_bipush (q := 52) hG d_Lg_bitCount_50 rfl rfl ?_
  refine gx_lushr (q := 53) hG (((y5 / 4294967296 : Nat) : Int)) d_Lg_bitCount_52 rfl (j_ushr y5 32 (by decide) (by omega)) ?_
  refine gx_ladd (q := 54) hG d_Lg_bitCount_53 rfl ?_
  rw [← Int.natCast_add]
  refine gx_lstore0 (q := 55) hG d_Lg_bitCount_54 rfl ?_
  refine gx_lload0 (q := 56) hG d_Lg_bitCount_55 rfl ?_
  refine gx_l2i (q := 57) hG d_Lg_bitCount_56 rfl ?_
  refine gx_bipush (q := 59) hG d_Lg_bitCount_57 rfl rfl ?_
  refine gx_iand (q := 60) hG ((((y5 + y5 / 4294967296) % 128 : Nat) : Int)) d_Lg_bitCount_59 rfl ((i_and (y5 + y5 / 4294967296) 127).trans (by rw [show (127 : Nat) = 2 ^ 7 - 1 from rfl, Nat.and_two_pow_sub_one_eq_mod])) ?_
  refine gx_ireturn hG d_Lg_bitCount_60 rfl rfl ?_
  exact ⟨w, rfl, by rw [e5, eb], rfl⟩
theorem ev_In_bitCount {w : Mem} {x : Nat} (hx : x < 2 ^ 31) : EvX y_In_bitCount b_In_bitCount 1 (some .int) (1) [Vi (x : Int)] w (Vi (bs x 32 : Nat)) := by
  refine Ev.mkF (isI := false) (by decide +kernel) nofun (Nat.le_of_ble_eq_true rfl) (fun G hG => ?_)
  show G 0 [some (Vi (x : Int))] [] 102 (hp w)
  obtain ⟨c0, c1, c2, c3, g0, g1, g2, g3, e3, eb⟩ := P_eq4 (show x < 2 ^ 32 by omega)
  obtain ⟨y1, hy1⟩ : ∃ y, y = P1 4 x := ⟨_, rfl⟩
  have hl1 : y1 ≤ x := by rw [hy1]; exact Nat.sub_le _ _
  obtain ⟨y2, hy2⟩ : ∃ y, y = P2 4 y1 := ⟨_, rfl⟩
  have hl2 : y2 ≤ 1717986918 := by rw [hy2]; have := P2_le 4 y1; rw [mk4.2.1] at this; omega
  obtain ⟨y3, hy3⟩ : ∃ y, y = P3 4 y2 := ⟨_, rfl⟩
  have hl3 : y3 ≤ 252645135 := by rw [hy3]; have := P3_le 4 y2; rw [mk4.2.2] at this; omega
  have e4 : y3 = c0 + 256 * (c1 + 256 * (c2 + 256 * c3)) := by rw [hy3, hy2, hy1]; exact e3
  have e5 := fold4 g0 g1 g2 g3 e4
  have hi1 := P1_int 4 x
  rw [← hy1, mk4.1] at hi1
  unfold P2 at hy2
  rw [mk4.2.1] at hy2
  unfold P3 at hy3
  rw [mk4.2.2] at hy3
  obtain ⟨y4, hy4⟩ : ∃ y, y = y3 + y3 / 256 := ⟨_, rfl⟩
  rw [← hy4] at e5
  refine gx_iload0 (q := 1) hG d_In_bitCount_0 rfl ?_
  refine gx_iload0 (q := 2) hG d_In_bitCount_1 rfl ?_
  refine gx_iconst (q := 3) hG d_In_bitCount_2 rfl ?_
  refine gx_iushr (q := 4) hG (((x / 2 : Nat) : Int)) d_In_bitCount_3 rfl (i_ushr x 1 (by decide) (by omega)) ?_
  refine gx_ldcw (q := 7) hG (1431655765) k_In_265 d_In_bitCount_4 rfl rfl ?_
  refine gx_iand (q := 8) hG (((x / 2 &&& 1431655765 : Nat) : Int)) d_In_bitCount_7 rfl (i_and (x / 2) 1431655765) ?_
  refine gx_isub (q := 9) hG d_In_bitCount_8 rfl ?_
  rw [← hi1]
  refine gx_istore0 (q := 10) hG d_In_bitCount_9 rfl ?_
  refine gx_iload0 (q := 11) hG d_In_bitCount_10 rfl ?_
  refine gx_ldcw (q := 14) hG (858993459) k_In_266 d_In_bitCount_11 rfl rfl ?_
  refine gx_iand (q := 15) hG (((y1 &&& 858993459 : Nat) : Int)) d_In_bitCount_14 rfl (i_and y1 858993459) ?_
  refine gx_iload0 (q := 16) hG d_In_bitCount_15 rfl ?_
  refine gx_iconst (q := 17) hG d_In_bitCount_16 rfl ?_
  refine gx_iushr (q := 18) hG (((y1 / 4 : Nat) : Int)) d_In_bitCount_17 rfl (i_ushr y1 2 (by decide) (by omega)) ?_
  refine gx_ldcw (q := 21) hG (858993459) k_In_266 d_In_bitCount_18 rfl rfl ?_
  refine gx_iand (q := 22) hG (((y1 / 4 &&& 858993459 : Nat) : Int)) d_In_bitCount_21 rfl (i_and (y1 / 4) 858993459) ?_
  refine gx_iadd (q := 23) hG d_In_bitCount_22 rfl ?_
  rw [← Int.natCast_add, ← hy2]
  refine gx_istore0 (q := 24) hG d_In_bitCount_23 rfl ?_
  refine gx_iload0 (q := 25) hG d_In_bitCount_24 rfl ?_
  refine gx_iload0 (q := 26) hG d_In_bitCount_25 rfl ?_
  refine gx_iconst (q := 27) hG d_In_bitCount_26 rfl ?_
  refine gx_iushr (q := 28) hG (((y2 / 16 : Nat) : Int)) d_In_bitCount_27 rfl (i_ushr y2 4 (by decide) (by omega)) ?_
  refine gx_iadd (q := 29) hG d_In_bitCount_28 rfl ?_
  rw [← Int.natCast_add]
  refine gx_ldcw (q := 32) hG (252645135) k_In_267 d_In_bitCount_29 rfl rfl ?_
  refine gx_iand (q := 33) hG (((y3 : Nat) : Int)) d_In_bitCount_32 rfl ((i_and (y2 + y2 / 16) 252645135).trans (by rw [← hy3])) ?_
  refine gx_istore0 (q := 34) hG d_In_bitCount_33 rfl ?_
  refine gx_iload0 (q := 35) hG d_In_bitCount_34 rfl ?_
  refine gx_iload0 (q := 36) hG d_In_bitCount_35 rfl ?_
  refine gx_bipush (q := 38) hG d_In_bitCount_36 rfl rfl ?_
  refine gx_iushr (q := 39) hG (((y3 / 256 : Nat) : Int)) d_In_bitCount_38 rfl (i_ushr y3 8 (by decide) (by omega)) ?_
  refine gx_iadd (q := 40) hG d_In_bitCount_39 rfl ?_
  rw [← Int.natCast_add, ← hy4]
  refine gx_istore0 (q := 41) hG d_In_bitCount_40 rfl ?_
  refine gx_iload0 (q := 42) hG d_In_bitCount_41 rfl ?_
  refine gx_iload0 (q := 43) hG d_In_bitCount_42 rfl ?_
  refine gx_bipush (q := 45) hG d_In_bitCount_43 rfl rfl ?_
  refine gx_iushr (q := 46) hG (((y4 / 65536 : Nat) : Int)) d_In_bitCount_45 rfl (i_ushr y4 16 (by decide) (by omega)) ?_
  refine gx_iadd (q := 47) hG d_In_bitCount_46 rfl ?_
  rw [← Int.natCast_add]
  refine gx_istore0 (q := 48) hG d_In_bitCount_47 rfl ?_
  refine gx_iload0 (q := 49) hG d_In_bitCount_48 rfl ?_
  refine gx_bipush (q := 51) hG d_In_bitCount_49 rfl rfl ?_
  refine gx_iand (q := 52) hG ((((y4 + y4 / 65536) % 64 : Nat) : Int)) d_In_bitCount_51 rfl ((i_and (y4 + y4 / 65536) 63).trans (by rw [show (63 : Nat) = 2 ^ 6 - 1 from rfl, Nat.and_two_pow_sub_one_eq_mod])) ?_
  refine gx_ireturn hG d_In_bitCount_52 rfl rfl ?_
  exact ⟨w, rfl, by rw [e5, eb], rfl⟩

