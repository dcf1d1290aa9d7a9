/-! part 40: the class's calls: rows and texts -/
theorem ev_X_found {w : Mem} {f : Int} (hf : 1 ≤ f ∧ f ≤ 5) : EvI y_X_found b_X_found 2 (some .int) (1) [Vr 0, Vi f] w (fun z w' => z = -3 ∧ w' = wfd w f) := by
  refine Ev.mk (isI := false) (by decide +kernel) nofun (Nat.le_of_ble_eq_true rfl) (fun G hG => ?_)
  show G 0 [some (Vr 0), some (Vi f)] [] 102 (hp w)
  refine gx_aload0 (q := 1) hG d_X_found_0 rfl ?_
  refine gx_iload1 (q := 2) hG d_X_found_1 rfl ?_
  refine gw_puti (q := 5) hG f_X_302 hpX (Nat.le_of_ble_eq_true rfl) vfit_i (Or.inl rfl) d_X_found_2 rfl 14 rfl rfl ?_
  refine gx_aload0 (q := 6) hG d_X_found_5 rfl ?_
  refine gx_get (q := 9) hG f_X_84 hpX rfl d_X_found_6 rfl ?_
  refine gx_iload1 (q := 10) hG d_X_found_9 rfl ?_
  refine gx_dup2 (q := 11) hG d_X_found_10 rfl ?_
  refine gw_iald (q := 12) hG rfl (by omega) (by omega) d_X_found_11 rfl ?_
  refine gx_iconst (q := 13) hG d_X_found_12 rfl ?_
  rw [wu_ne (show (49 : Int) ≠ 0 by omega)]
  refine gx_iadd (q := 14) hG d_X_found_13 rfl ?_
  refine gw_iast (q := 15) hG rfl (by omega) (by omega) d_X_found_14 rfl ?_
  refine gx_bipush (q := 17) hG d_X_found_15 rfl rfl ?_
  refine gx_ireturn hG d_X_found_17 rfl rfl ?_
  exact ⟨_, rfl, _, rfl, rfl, rfl⟩
def RA (w : Mem) (x B : Int) (N : Nat) : Prop := hp w x = cA 4 N (fun r => B + 2 * r) ∧ 50 ≤ B ∧ B % 2 = 0 ∧ B + 2 * N ≤ 70 ∧ ∀ r : Int, 0 ≤ r → r < N → -1 ≤ w (B + 2 * r) 1 ∧ w (B + 2 * r) 1 ≤ 60
theorem ev_X_begin {w : Mem} {x B r n z : Int} {N : Nat} (hA : RA w x B N) (hr : R3 r) (hn : R3 n) : EvI y_X_begin b_X_begin 5 (some .int) (3) [Vr 0, Vr x, Vi r, Vi n, Vi z] w (fun v w' => (v = -1 ∧ w' = w ∧ (¬ (0 ≤ r ∧ r < N) ∨ 60 < n)) ∨ (v = -3 ∧ w' = wfd w 5 ∧ (0 ≤ r ∧ r < N) ∧ n < 0) ∨ (v = n ∧ w' = wu (wc w (B + 2 * r + 1) (fillA 60 (w (B + 2 * r + 1)) z)) (B + 2 * r) 1 n ∧ (0 ≤ r ∧ r < N) ∧ 0 ≤ n ∧ n ≤ 60)) := by
  refine Ev.mk (isI := false) (by decide +kernel) nofun (Nat.le_of_ble_eq_true rfl) (fun G hG => ?_)
  show G 0 [some (Vr 0), some (Vr x), some (Vi r), some (Vi n), some (Vi z)] [] 102 (hp w)
  obtain ⟨hx, hB, hB2, hN, hS⟩ := hA
  refine gx_iload2 (q := 1) hG d_X_begin_0 rfl ?_
  refine gx_aload1 (q := 2) hG d_X_begin_1 rfl ?_
  refine gx_alen (q := 3) hG hx (by decide) d_X_begin_2 rfl ?_
  refine gw_S2X (q := 6) hG l_X_110 c_X_isIn (ev_X_isIn (by first | assumption | omega) (by first | assumption | omega)) (by decide) (Nat.le_of_ble_eq_true rfl) d_X_begin_3 rfl (by decide) ?_
  refine gx_if_eq (tgt := 15) (q := 9) hG d_X_begin_6 rfl rfl (bi_R _) (fun c6 => ?_) (fun c6 => ?_)
  · have c6 := bi_eq0.mp c6
    refine gx_iconst (q := 16) hG d_X_begin_15 rfl ?_
    refine gx_ireturn hG d_X_begin_16 rfl rfl ?_
    first
      | exact ⟨_, rfl, _, rfl, Or.inl ⟨rfl, rfl, by omega⟩⟩
      | exact ⟨_, rfl, _, rfl, Or.inr (Or.inl ⟨h23.1, h23.2, by omega, by omega⟩)⟩
      | exact ⟨_, rfl, _, rfl, Or.inr (Or.inr ⟨rfl, h33, by omega, by omega, by omega⟩)⟩
  · have c6 := bi_ne0.mp c6
    refine gx_iload3 (q := 10) hG d_X_begin_9 rfl ?_
    refine gx_bipush (q := 12) hG d_X_begin_10 rfl rfl ?_
    refine gx_icmp_le (tgt := 17) (q := 15) hG d_X_begin_12 rfl rfl (by omega) (by omega) (fun c12 => ?_) (fun c12 => ?_)
    · refine gx_iload3 (q := 18) hG d_X_begin_17 rfl ?_
      refine gx_if_ge (tgt := 27) (q := 21) hG d_X_begin_18 rfl rfl (by omega) (fun c18 => ?_) (fun c18 => ?_)
      · refine gx_aload1 (q := 28) hG d_X_begin_27 rfl ?_
        refine gx_iload2 (q := 29) hG d_X_begin_28 rfl ?_
        refine gx_rald (q := 30) hG hx (by decide) (by omega) (by omega) (by first | decide | omega) (by first | decide | omega) d_X_begin_29 rfl ?_
        refine gx_iload3 (q := 31) hG d_X_begin_30 rfl ?_
        refine gx_iload4 (q := 33) hG d_X_begin_31 rfl ?_
        refine gw_V2V (q := 36) hG l_X_238 c_Rw_begin (ev_Rw_begin (by omega)) (hpRow (by omega)) rfl (by decide) (Nat.le_of_ble_eq_true rfl) d_X_begin_33 rfl (by decide) (fun w h33 => ?_)
        refine gx_iload3 (q := 37) hG d_X_begin_36 rfl ?_
        refine gx_ireturn hG d_X_begin_37 rfl rfl ?_
        first
          | exact ⟨_, rfl, _, rfl, Or.inl ⟨rfl, rfl, by omega⟩⟩
          | exact ⟨_, rfl, _, rfl, Or.inr (Or.inl ⟨h23.1, h23.2, by omega, by omega⟩)⟩
          | exact ⟨_, rfl, _, rfl, Or.inr (Or.inr ⟨rfl, h33, by omega, by omega, by omega⟩)⟩
      · refine gx_aload0 (q := 22) hG d_X_begin_21 rfl ?_
        refine gx_iconst (q := 23) hG d_X_begin_22 rfl ?_
        refine gw_V1I (q := 26) hG l_X_114 c_X_found (ev_X_found (by omega)) hpX rfl (by decide) (Nat.le_of_ble_eq_true rfl) d_X_begin_23 rfl (by decide) (fun z23 w h23 => ?_)
        refine gx_ireturn hG d_X_begin_26 rfl rfl ?_
        first
          | exact ⟨_, rfl, _, rfl, Or.inl ⟨rfl, rfl, by omega⟩⟩
          | exact ⟨_, rfl, _, rfl, Or.inr (Or.inl ⟨h23.1, h23.2, by omega, by omega⟩)⟩
          | exact ⟨_, rfl, _, rfl, Or.inr (Or.inr ⟨rfl, h33, by omega, by omega, by omega⟩)⟩
    · refine gx_iconst (q := 16) hG d_X_begin_15 rfl ?_
      refine gx_ireturn hG d_X_begin_16 rfl rfl ?_
      first
        | exact ⟨_, rfl, _, rfl, Or.inl ⟨rfl, rfl, by omega⟩⟩
        | exact ⟨_, rfl, _, rfl, Or.inr (Or.inl ⟨h23.1, h23.2, by omega, by omega⟩)⟩
        | exact ⟨_, rfl, _, rfl, Or.inr (Or.inr ⟨rfl, h33, by omega, by omega, by omega⟩)⟩
theorem ev_X_refusedRow {w : Mem} {x B r : Int} {N : Nat} (hA : RA w x B N) (hr : R3 r) : EvI y_X_refusedRow b_X_refusedRow 3 (some .int) (2) [Vr 0, Vr x, Vi r] w (fun v w' => (v = 0 ∧ w' = w ∧ (0 ≤ r ∧ r < N) ∧ 0 ≤ w (B + 2 * r) 1) ∨ (v = -1 ∧ w' = w ∧ ¬ (0 ≤ r ∧ r < N)) ∨ (v = -3 ∧ w' = wfd w 1 ∧ (0 ≤ r ∧ r < N) ∧ w (B + 2 * r) 1 < 0)) := by
  refine Ev.mk (isI := false) (by decide +kernel) nofun (Nat.le_of_ble_eq_true rfl) (fun G hG => ?_)
  show G 0 [some (Vr 0), some (Vr x), some (Vi r)] [] 102 (hp w)
  obtain ⟨hx, hB, hB2, hN, hS⟩ := hA
  refine gx_iload2 (q := 1) hG d_X_refusedRow_0 rfl ?_
  refine gx_aload1 (q := 2) hG d_X_refusedRow_1 rfl ?_
  refine gx_alen (q := 3) hG hx (by decide) d_X_refusedRow_2 rfl ?_
  refine gw_S2X (q := 6) hG l_X_110 c_X_isIn (ev_X_isIn (by first | assumption | omega) (by first | assumption | omega)) (by decide) (Nat.le_of_ble_eq_true rfl) d_X_refusedRow_3 rfl (by decide) ?_
  refine gx_if_ne (tgt := 11) (q := 9) hG d_X_refusedRow_6 rfl rfl (bi_R _) (fun c6 => ?_) (fun c6 => ?_)
  · have c6 := bi_ne0.mp c6
    have hs := hS r (by omega) (by omega)
    refine gx_aload1 (q := 12) hG d_X_refusedRow_11 rfl ?_
    refine gx_iload2 (q := 13) hG d_X_refusedRow_12 rfl ?_
    refine gx_rald (q := 14) hG hx (by decide) (by omega) (by omega) (by first | decide | omega) (by first | decide | omega) d_X_refusedRow_13 rfl ?_
    refine gw_V0X (q := 17) hG l_X_118 c_Rw_isThere (ev_Rw_isThere (by first | assumption | omega) (by first | assumption | omega)) (hpRow (by omega)) rfl (by decide) (Nat.le_of_ble_eq_true rfl) d_X_refusedRow_14 rfl (by decide) ?_
    refine gx_if_eq (tgt := 24) (q := 20) hG d_X_refusedRow_17 rfl rfl (bi_R _) (fun c17 => ?_) (fun c17 => ?_)
    · have c17 := bi_eq0.mp c17
      refine gx_aload0 (q := 25) hG d_X_refusedRow_24 rfl ?_
      refine gx_iconst (q := 26) hG d_X_refusedRow_25 rfl ?_
      refine gw_V1I (q := 29) hG l_X_114 c_X_found (ev_X_found (by omega)) hpX rfl (by decide) (Nat.le_of_ble_eq_true rfl) d_X_refusedRow_26 rfl (by decide) (fun z26 w h26 => ?_)
      refine gx_ireturn hG d_X_refusedRow_29 rfl rfl ?_
      first
        | exact ⟨_, rfl, _, rfl, Or.inl ⟨rfl, rfl, by omega, by omega⟩⟩
        | exact ⟨_, rfl, _, rfl, Or.inr (Or.inl ⟨rfl, rfl, by omega⟩)⟩
        | exact ⟨_, rfl, _, rfl, Or.inr (Or.inr ⟨h26.1, h26.2, by omega, by omega⟩)⟩
    · have c17 := bi_ne0.mp c17
      refine gx_iconst (q := 21) hG d_X_refusedRow_20 rfl ?_
      refine gx_goto (tgt := 29) hG d_X_refusedRow_21 rfl ?_
      refine gx_ireturn hG d_X_refusedRow_29 rfl rfl ?_
      first
        | exact ⟨_, rfl, _, rfl, Or.inl ⟨rfl, rfl, by omega, by omega⟩⟩
        | exact ⟨_, rfl, _, rfl, Or.inr (Or.inl ⟨rfl, rfl, by omega⟩)⟩
        | exact ⟨_, rfl, _, rfl, Or.inr (Or.inr ⟨h26.1, h26.2, by omega, by omega⟩)⟩
  · have c6 := bi_eq0.mp c6
    refine gx_iconst (q := 10) hG d_X_refusedRow_9 rfl ?_
    refine gx_ireturn hG d_X_refusedRow_10 rfl rfl ?_
    first
      | exact ⟨_, rfl, _, rfl, Or.inl ⟨rfl, rfl, by omega, by omega⟩⟩
      | exact ⟨_, rfl, _, rfl, Or.inr (Or.inl ⟨rfl, rfl, by omega⟩)⟩
      | exact ⟨_, rfl, _, rfl, Or.inr (Or.inr ⟨h26.1, h26.2, by omega, by omega⟩)⟩
theorem ev_X_refusedPlace {w : Mem} {x B r i : Int} {N : Nat} (hA : RA w x B N) (hr : R3 r) (hi : R3 i) : EvI y_X_refusedPlace b_X_refusedPlace 5 (some .int) (3) [Vr 0, Vr x, Vi r, Vi i] w (fun v w' => (v = 0 ∧ w' = w ∧ (0 ≤ r ∧ r < N) ∧ 0 ≤ i ∧ i < w (B + 2 * r) 1) ∨ (v = -1 ∧ w' = w ∧ ¬ (0 ≤ r ∧ r < N)) ∨ (v = -3 ∧ w' = wfd w 1 ∧ (0 ≤ r ∧ r < N) ∧ w (B + 2 * r) 1 < 0) ∨ (v = -3 ∧ w' = wfd w 2 ∧ (0 ≤ r ∧ r < N) ∧ 0 ≤ w (B + 2 * r) 1 ∧ ¬ (0 ≤ i ∧ i < w (B + 2 * r) 1))) := by
  refine Ev.mk (isI := false) (by decide +kernel) nofun (Nat.le_of_ble_eq_true rfl) (fun G hG => ?_)
  show G 0 [some (Vr 0), some (Vr x), some (Vi r), some (Vi i), none] [] 102 (hp w)
  refine gx_aload0 (q := 1) hG d_X_refusedPlace_0 rfl ?_
  refine gx_aload1 (q := 2) hG d_X_refusedPlace_1 rfl ?_
  refine gx_iload2 (q := 3) hG d_X_refusedPlace_2 rfl ?_
  refine gw_V2I (q := 6) hG l_X_103 c_X_refusedRow (ev_X_refusedRow hA hr) hpX rfl (by decide) (Nat.le_of_ble_eq_true rfl) d_X_refusedPlace_3 rfl (by decide) (fun v w' h3 => ?_)
  obtain ⟨hx, hB, hB2, hN, hS⟩ := hA
  refine gx_istore4 (q := 8) hG d_X_refusedPlace_6 rfl rfl ?_
  refine gx_iload4 (q := 10) hG d_X_refusedPlace_8 rfl ?_
  refine gx_if_eq (tgt := 16) (q := 13) hG d_X_refusedPlace_10 rfl rfl (by omega) (fun c10 => ?_) (fun c10 => ?_)
  · obtain ⟨rfl, hrr, hs0⟩ : w' = w ∧ (0 ≤ r ∧ r < N) ∧ 0 ≤ w (B + 2 * r) 1 := by rcases h3 with h | h | h; (· exact h.2); (· exfalso; omega); (· exfalso; omega)
    have hs := hS r (by omega) (by omega)
    refine gx_iload3 (q := 17) hG d_X_refusedPlace_16 rfl ?_
    refine gx_aload1 (q := 18) hG d_X_refusedPlace_17 rfl ?_
    refine gx_iload2 (q := 19) hG d_X_refusedPlace_18 rfl ?_
    refine gx_rald (q := 20) hG hx (by decide) (by omega) (by omega) (by first | decide | omega) (by first | decide | omega) d_X_refusedPlace_19 rfl ?_
    refine gx_get (q := 23) hG f_X_107 (hpRow (by omega)) rfl d_X_refusedPlace_20 rfl ?_
    refine gw_S2X (q := 26) hG l_X_110 c_X_isIn (ev_X_isIn (by first | assumption | omega) (by first | assumption | omega)) (by decide) (Nat.le_of_ble_eq_true rfl) d_X_refusedPlace_23 rfl (by decide) ?_
    refine gx_if_eq (tgt := 33) (q := 29) hG d_X_refusedPlace_26 rfl rfl (bi_R _) (fun c26 => ?_) (fun c26 => ?_)
    · have c26 := bi_eq0.mp c26
      refine gx_aload0 (q := 34) hG d_X_refusedPlace_33 rfl ?_
      refine gx_iconst (q := 35) hG d_X_refusedPlace_34 rfl ?_
      refine gw_V1I (q := 38) hG l_X_114 c_X_found (ev_X_found (by omega)) hpX rfl (by decide) (Nat.le_of_ble_eq_true rfl) d_X_refusedPlace_35 rfl (by decide) (fun z35 w h35 => ?_)
      refine gx_ireturn hG d_X_refusedPlace_38 rfl rfl ?_
      first
        | exact ⟨_, rfl, _, rfl, Or.inl ⟨rfl, rfl, by omega, by omega⟩⟩
        | exact ⟨_, rfl, _, rfl, Or.inr (Or.inr (Or.inr ⟨h35.1, h35.2, by omega, by omega, by omega⟩))⟩
        | (rcases h3 with h | h | h; (· exfalso; omega); (· exact ⟨_, rfl, _, rfl, Or.inr (Or.inl h)⟩); (· exact ⟨_, rfl, _, rfl, Or.inr (Or.inr (Or.inl h))⟩))
    · have c26 := bi_ne0.mp c26
      refine gx_iconst (q := 30) hG d_X_refusedPlace_29 rfl ?_
      refine gx_goto (tgt := 38) hG d_X_refusedPlace_30 rfl ?_
      refine gx_ireturn hG d_X_refusedPlace_38 rfl rfl ?_
      first
        | exact ⟨_, rfl, _, rfl, Or.inl ⟨rfl, rfl, by omega, by omega⟩⟩
        | exact ⟨_, rfl, _, rfl, Or.inr (Or.inr (Or.inr ⟨h35.1, h35.2, by omega, by omega, by omega⟩))⟩
        | (rcases h3 with h | h | h; (· exfalso; omega); (· exact ⟨_, rfl, _, rfl, Or.inr (Or.inl h)⟩); (· exact ⟨_, rfl, _, rfl, Or.inr (Or.inr (Or.inl h))⟩))
  · refine gx_iload4 (q := 15) hG d_X_refusedPlace_13 rfl ?_
    refine gx_ireturn hG d_X_refusedPlace_15 rfl rfl ?_
    first
      | exact ⟨_, rfl, _, rfl, Or.inl ⟨rfl, rfl, by omega, by omega⟩⟩
      | exact ⟨_, rfl, _, rfl, Or.inr (Or.inr (Or.inr ⟨h35.1, h35.2, by omega, by omega, by omega⟩))⟩
      | (rcases h3 with h | h | h; (· exfalso; omega); (· exact ⟨_, rfl, _, rfl, Or.inr (Or.inl h)⟩); (· exact ⟨_, rfl, _, rfl, Or.inr (Or.inr (Or.inl h))⟩))
theorem RA_r {w : Mem} (h : OK (aX w)) : RA w 1 50 6 := ⟨hpRows, by omega, by omega, by omega, fun r r0 r1 => h.r0 ⟨r0, r1⟩⟩
theorem RA_t {w : Mem} (h : OK (aX w)) : RA w 2 62 4 := ⟨hpTexts, by omega, by omega, by omega, fun r r0 r1 => h.t0 ⟨r0, r1⟩⟩
theorem ev_X_row {w : Mem} {r n : Int} (hO : OK (aX w)) (hj : XJ w) (hr : R3 r) (hn : R3 n) : EvI y_X_row b_X_row 3 (some .int) (4) [Vr 0, Vi r, Vi n] w (PX w (sp_row (aX w) r n)) := by
  refine Ev.mk (isI := false) (by decide +kernel) nofun (Nat.le_of_ble_eq_true rfl) (fun G hG => ?_)
  show G 0 [some (Vr 0), some (Vi r), some (Vi n)] [] 102 (hp w)
  refine gx_aload0 (q := 1) hG d_X_row_0 rfl ?_
  refine gx_aload0 (q := 2) hG d_X_row_1 rfl ?_
  refine gx_get (q := 5) hG f_X_11 hpX rfl d_X_row_2 rfl ?_
  refine gx_iload1 (q := 6) hG d_X_row_5 rfl ?_
  refine gx_iload2 (q := 7) hG d_X_row_6 rfl ?_
  refine gx_iconst (q := 8) hG d_X_row_7 rfl ?_
  refine gw_V4I (q := 11) hG l_X_88 c_X_begin (ev_X_begin (RA_r hO) hr hn) hpX rfl (by decide) (Nat.le_of_ble_eq_true rfl) d_X_row_8 rfl (by decide) (fun z8 w h8 => ?_)
  refine gx_ireturn hG d_X_row_11 rfl rfl ?_
  refine ⟨_, rfl, _, rfl, ?_⟩
  rcases h8 with ⟨rfl, rfl, h⟩ | ⟨rfl, rfl, h⟩ | ⟨rfl, rfl, h⟩
  · unfold sp_row; rw [if_pos (by omega)]; exact PX_id hj
  · unfold sp_row; rw [if_neg (by omega), if_pos (by omega)]; exact PX_fd (by omega) hj
  · unfold sp_row; rw [if_neg (by omega), if_neg (by omega)]
    refine PX_mk ?_ hj (fun b hb => by rw [wu_ne (by omega), wc_ne (by omega)])
    rw [show 50 + 2 * r + 1 = 51 + 2 * r by omega, aX_rs (by omega), aX_rc (by omega), sr_cong (F := fillA 60 (w (51 + 2 * r)) 0) (F' := fun _ => 0) (fun i i0 i1 => if_pos (by omega))]
theorem ev_X_text {w : Mem} {r n : Int} (hO : OK (aX w)) (hj : XJ w) (hr : R3 r) (hn : R3 n) : EvI y_X_text b_X_text 3 (some .int) (4) [Vr 0, Vi r, Vi n] w (PX w (sp_text (aX w) r n)) := by
  refine Ev.mk (isI := false) (by decide +kernel) nofun (Nat.le_of_ble_eq_true rfl) (fun G hG => ?_)
  show G 0 [some (Vr 0), some (Vi r), some (Vi n)] [] 102 (hp w)
  refine gx_aload0 (q := 1) hG d_X_text_0 rfl ?_
  refine gx_aload0 (q := 2) hG d_X_text_1 rfl ?_
  refine gx_get (q := 5) hG f_X_15 hpX rfl d_X_text_2 rfl ?_
  refine gx_iload1 (q := 6) hG d_X_text_5 rfl ?_
  refine gx_iload2 (q := 7) hG d_X_text_6 rfl ?_
  refine gx_bipush (q := 9) hG d_X_text_7 rfl rfl ?_
  refine gw_V4I (q := 12) hG l_X_88 c_X_begin (ev_X_begin (RA_t hO) hr hn) hpX rfl (by decide) (Nat.le_of_ble_eq_true rfl) d_X_text_9 rfl (by decide) (fun z9 w h9 => ?_)
  refine gx_ireturn hG d_X_text_12 rfl rfl ?_
  refine ⟨_, rfl, _, rfl, ?_⟩
  rcases h9 with ⟨rfl, rfl, h⟩ | ⟨rfl, rfl, h⟩ | ⟨rfl, rfl, h⟩
  · unfold sp_text; rw [if_pos (by omega)]; exact PX_id hj
  · unfold sp_text; rw [if_neg (by omega), if_pos (by omega)]; exact PX_fd (by omega) hj
  · unfold sp_text; rw [if_neg (by omega), if_neg (by omega)]
    refine PX_mk ?_ hj (fun b hb => by rw [wu_ne (by omega), wc_ne (by omega)])
    rw [show 62 + 2 * r + 1 = 63 + 2 * r by omega, aX_ts (by omega), aX_tc (by omega), sr_cong (F := fillA 60 (w (63 + 2 * r)) 32) (F' := fun _ => 32) (fun i i0 i1 => if_pos (by omega))]
theorem X_pl {w w' : Mem} {p : Int × Sta} {r i v B : Int} {N c : Nat} {k : Int × Sta} (hs : ∀ r : Int, 0 ≤ r → r < N → aX w c r = w (B + 2 * r) 1) (hj : XJ w) (h : (v = 0 ∧ w' = w ∧ (0 ≤ r ∧ r < N) ∧ 0 ≤ i ∧ i < w (B + 2 * r) 1) ∨ (v = -1 ∧ w' = w ∧ ¬ (0 ≤ r ∧ r < N)) ∨ (v = -3 ∧ w' = wfd w 1 ∧ (0 ≤ r ∧ r < N) ∧ w (B + 2 * r) 1 < 0) ∨ (v = -3 ∧ w' = wfd w 2 ∧ (0 ≤ r ∧ r < N) ∧ 0 ≤ w (B + 2 * r) 1 ∧ ¬ (0 ≤ i ∧ i < w (B + 2 * r) 1))) (hv : v ≠ 0) (he : p = if ¬ (0 ≤ r ∧ r < N) then (-1, aX w) else if aX w c r < 0 then fdS (aX w) 1 else if ¬ (0 ≤ i ∧ i < aX w c r) then fdS (aX w) 2 else k) : PX w p v w' := by
  subst he
  rcases h with h | h | h | h
  · exact absurd h.1 hv
  · obtain ⟨rfl, rfl, h⟩ := h
    rw [if_pos h]
    exact PX_id hj
  · obtain ⟨rfl, rfl, h1, h2⟩ := h
    have e := hs r h1.1 h1.2
    rw [if_neg (fun q => q h1), if_pos (by omega)]
    exact PX_fd (by omega) hj
  · obtain ⟨rfl, rfl, h1, h2, h3⟩ := h
    have e := hs r h1.1 h1.2
    rw [if_neg (fun q => q h1), if_neg (by omega), if_pos (by omega)]
    exact PX_fd (by omega) hj
theorem ev_X_lay {w : Mem} {r i v : Int} (hO : OK (aX w)) (hj : XJ w) (hr : R3 r) (hi : R3 i) : EvI y_X_lay b_X_lay 5 (some .int) (5) [Vr 0, Vi r, Vi i, Vi v] w (PX w (sp_lay (aX w) r i v)) := by
  refine Ev.mk (isI := false) (by decide +kernel) nofun (Nat.le_of_ble_eq_true rfl) (fun G hG => ?_)
  show G 0 [some (Vr 0), some (Vi r), some (Vi i), some (Vi v), none] [] 102 (hp w)
  refine gx_aload0 (q := 1) hG d_X_lay_0 rfl ?_
  refine gx_aload0 (q := 2) hG d_X_lay_1 rfl ?_
  refine gx_get (q := 5) hG f_X_11 hpX rfl d_X_lay_2 rfl ?_
  refine gx_iload1 (q := 6) hG d_X_lay_5 rfl ?_
  refine gx_iload2 (q := 7) hG d_X_lay_6 rfl ?_
  refine gw_V3I (q := 10) hG l_X_92 c_X_refusedPlace (ev_X_refusedPlace (RA_r hO) hr hi) hpX rfl (by decide) (Nat.le_of_ble_eq_true rfl) d_X_lay_7 rfl (by decide) (fun z w1 h7 => ?_)
  refine gx_istore4 (q := 12) hG d_X_lay_10 rfl rfl ?_
  refine gx_iload4 (q := 14) hG d_X_lay_12 rfl ?_
  refine gx_if_eq (tgt := 20) (q := 17) hG d_X_lay_14 rfl rfl (by omega) (fun c14 => ?_) (fun c14 => ?_)
  · obtain ⟨rfl, hrr, hi0, hi1⟩ : w1 = w ∧ (0 ≤ r ∧ r < 6) ∧ 0 ≤ i ∧ i < w (50 + 2 * r) 1 := by rcases h7 with h | h | h | h; (· exact h.2); (· exfalso; omega); (· exfalso; omega); (· exfalso; omega)
    have hs := hO.r0 hrr
    refine gx_aload0 (q := 21) hG d_X_lay_20 rfl ?_
    refine gx_aload0 (q := 22) hG d_X_lay_21 rfl ?_
    refine gx_get (q := 25) hG f_X_11 hpX rfl d_X_lay_22 rfl ?_
    refine gx_iload1 (q := 26) hG d_X_lay_25 rfl ?_
    refine gx_rald (q := 27) hG hpRows (by decide) (by omega) (by omega) (by first | decide | omega) (by first | decide | omega) d_X_lay_26 rfl ?_
    refine gx_get (q := 30) hG f_X_96 (hpRow (by omega)) rfl d_X_lay_27 rfl ?_
    refine gx_iload2 (q := 31) hG d_X_lay_30 rfl ?_
    refine gw_iald (q := 32) hG (shp_rowA (by omega)) (by omega) (by omega) d_X_lay_31 rfl ?_
    refine gw_puti (q := 35) hG f_X_99 hpX (Nat.le_of_ble_eq_true rfl) vfit_i (Or.inl rfl) d_X_lay_32 rfl 11 rfl rfl ?_
    refine gx_aload0 (q := 36) hG d_X_lay_35 rfl ?_
    refine gx_get (q := 39) hG f_X_11 hpX rfl d_X_lay_36 rfl ?_
    refine gx_iload1 (q := 40) hG d_X_lay_39 rfl ?_
    refine gx_rald (q := 41) hG hpRows (by decide) (by omega) (by omega) (by first | decide | omega) (by first | decide | omega) d_X_lay_40 rfl ?_
    refine gx_get (q := 44) hG f_X_96 (hpRow (by omega)) rfl d_X_lay_41 rfl ?_
    refine gx_iload2 (q := 45) hG d_X_lay_44 rfl ?_
    refine gx_iload3 (q := 46) hG d_X_lay_45 rfl ?_
    refine gw_iast (q := 47) hG (shp_rowA (by omega)) (by omega) (by omega) d_X_lay_46 rfl ?_
    refine gx_iconst (q := 48) hG d_X_lay_47 rfl ?_
    refine gx_ireturn hG d_X_lay_48 rfl rfl ?_
    refine ⟨_, rfl, _, rfl, ?_⟩
    unfold sp_lay
    rw [if_neg (by omega), aX_at0 hrr, if_neg (by omega), if_neg (by omega)]
    refine PX_mk ?_ hj (fun b hb => by rw [wu_ne (by omega), wu_ne (by omega)])
    rw [show 50 + 2 * r + 1 = 51 + 2 * r by omega, aX_rp hrr (by omega), aX_u11, aX_at1 hrr (by omega)]
  · refine gx_iload4 (q := 19) hG d_X_lay_17 rfl ?_
    refine gx_ireturn hG d_X_lay_19 rfl rfl ?_
    exact ⟨_, rfl, _, rfl, X_pl (c := 0) (fun r r0 r1 => aX_at0 ⟨r0, r1⟩) hj h7 c14 rfl⟩
theorem ev_X_at {w : Mem} {r i : Int} (hO : OK (aX w)) (hj : XJ w) (hr : R3 r) (hi : R3 i) : EvI y_X_at b_X_at 4 (some .int) (5) [Vr 0, Vi r, Vi i] w (PX w (sp_at (aX w) r i)) := by
  refine Ev.mk (isI := false) (by decide +kernel) nofun (Nat.le_of_ble_eq_true rfl) (fun G hG => ?_)
  show G 0 [some (Vr 0), some (Vi r), some (Vi i), none] [] 102 (hp w)
  refine gx_aload0 (q := 1) hG d_X_at_0 rfl ?_
  refine gx_aload0 (q := 2) hG d_X_at_1 rfl ?_
  refine gx_get (q := 5) hG f_X_11 hpX rfl d_X_at_2 rfl ?_
  refine gx_iload1 (q := 6) hG d_X_at_5 rfl ?_
  refine gx_iload2 (q := 7) hG d_X_at_6 rfl ?_
  refine gw_V3I (q := 10) hG l_X_92 c_X_refusedPlace (ev_X_refusedPlace (RA_r hO) hr hi) hpX rfl (by decide) (Nat.le_of_ble_eq_true rfl) d_X_at_7 rfl (by decide) (fun z w1 h7 => ?_)
  refine gx_istore3 (q := 11) hG d_X_at_10 rfl rfl ?_
  refine gx_iload3 (q := 12) hG d_X_at_11 rfl ?_
  refine gx_if_eq (tgt := 17) (q := 15) hG d_X_at_12 rfl rfl (by omega) (fun c12 => ?_) (fun c12 => ?_)
  · obtain ⟨rfl, hrr, hi0, hi1⟩ : w1 = w ∧ (0 ≤ r ∧ r < 6) ∧ 0 ≤ i ∧ i < w (50 + 2 * r) 1 := by rcases h7 with h | h | h | h; (· exact h.2); (· exfalso; omega); (· exfalso; omega); (· exfalso; omega)
    have hs := hO.r0 hrr
    refine gx_aload0 (q := 18) hG d_X_at_17 rfl ?_
    refine gx_aload0 (q := 19) hG d_X_at_18 rfl ?_
    refine gx_get (q := 22) hG f_X_11 hpX rfl d_X_at_19 rfl ?_
    refine gx_iload1 (q := 23) hG d_X_at_22 rfl ?_
    refine gx_rald (q := 24) hG hpRows (by decide) (by omega) (by omega) (by first | decide | omega) (by first | decide | omega) d_X_at_23 rfl ?_
    refine gx_get (q := 27) hG f_X_96 (hpRow (by omega)) rfl d_X_at_24 rfl ?_
    refine gx_iload2 (q := 28) hG d_X_at_27 rfl ?_
    refine gw_iald (q := 29) hG (shp_rowA (by omega)) (by omega) (by omega) d_X_at_28 rfl ?_
    refine gw_puti (q := 32) hG f_X_99 hpX (Nat.le_of_ble_eq_true rfl) vfit_i (Or.inl rfl) d_X_at_29 rfl 11 rfl rfl ?_
    refine gx_iconst (q := 33) hG d_X_at_32 rfl ?_
    refine gx_ireturn hG d_X_at_33 rfl rfl ?_
    refine ⟨_, rfl, _, rfl, ?_⟩
    unfold sp_at
    rw [if_neg (by omega), aX_at0 hrr, if_neg (by omega), if_neg (by omega)]
    refine PX_mk ?_ hj (fun b hb => by rw [wu_ne (by omega)])
    rw [show 50 + 2 * r + 1 = 51 + 2 * r by omega, aX_u11, aX_at1 hrr (by omega)]
  · refine gx_iload3 (q := 16) hG d_X_at_15 rfl ?_
    refine gx_ireturn hG d_X_at_16 rfl rfl ?_
    exact ⟨_, rfl, _, rfl, X_pl (c := 0) (fun r r0 r1 => aX_at0 ⟨r0, r1⟩) hj h7 c12 rfl⟩
theorem ev_X_tear {w : Mem} {r : Int} (hO : OK (aX w)) (hj : XJ w) (hr : R3 r) : EvI y_X_tear b_X_tear 3 (some .int) (4) [Vr 0, Vi r] w (PX w (sp_tear (aX w) r)) := by
  refine Ev.mk (isI := false) (by decide +kernel) nofun (Nat.le_of_ble_eq_true rfl) (fun G hG => ?_)
  show G 0 [some (Vr 0), some (Vi r), none] [] 102 (hp w)
  refine gx_aload0 (q := 1) hG d_X_tear_0 rfl ?_
  refine gx_aload0 (q := 2) hG d_X_tear_1 rfl ?_
  refine gx_get (q := 5) hG f_X_11 hpX rfl d_X_tear_2 rfl ?_
  refine gx_iload1 (q := 6) hG d_X_tear_5 rfl ?_
  refine gw_V2I (q := 9) hG l_X_103 c_X_refusedRow (ev_X_refusedRow (RA_r hO) hr) hpX rfl (by decide) (Nat.le_of_ble_eq_true rfl) d_X_tear_6 rfl (by decide) (fun z w1 h7 => ?_)
  refine gx_istore2 (q := 10) hG d_X_tear_9 rfl rfl ?_
  refine gx_iload2 (q := 11) hG d_X_tear_10 rfl ?_
  refine gx_if_eq (tgt := 16) (q := 14) hG d_X_tear_11 rfl rfl (by omega) (fun c11 => ?_) (fun c11 => ?_)
  · obtain ⟨rfl, hrr, hi0⟩ : w1 = w ∧ (0 ≤ r ∧ r < 6) ∧ 0 ≤ w (50 + 2 * r) 1 := by rcases h7 with h | h | h; (· exact h.2); (· exfalso; omega); (· exfalso; omega)
    refine gx_aload0 (q := 17) hG d_X_tear_16 rfl ?_
    refine gx_get (q := 20) hG f_X_11 hpX rfl d_X_tear_17 rfl ?_
    refine gx_iload1 (q := 21) hG d_X_tear_20 rfl ?_
    refine gx_rald (q := 22) hG hpRows (by decide) (by omega) (by omega) (by first | decide | omega) (by first | decide | omega) d_X_tear_21 rfl ?_
    refine gx_iconst (q := 23) hG d_X_tear_22 rfl ?_
    refine gw_puti (q := 26) hG f_X_107 (hpRow (by omega)) (Nat.le_of_ble_eq_true rfl) vfit_i (Or.inl rfl) d_X_tear_23 rfl 1 rfl (hpRw1 (by omega)) ?_
    refine gx_iconst (q := 27) hG d_X_tear_26 rfl ?_
    refine gx_ireturn hG d_X_tear_27 rfl rfl ?_
    refine ⟨_, rfl, _, rfl, ?_⟩
    unfold sp_tear
    rw [if_neg (by omega), aX_at0 hrr, if_neg (by omega)]
    refine PX_mk ?_ hj (fun b hb => by rw [wu_ne (by omega)])
    rw [aX_rs hrr]
  · refine gx_iload2 (q := 15) hG d_X_tear_14 rfl ?_
    refine gx_ireturn hG d_X_tear_15 rfl rfl ?_
    refine ⟨_, rfl, _, rfl, ?_⟩
    unfold sp_tear
    rcases h7 with h | ⟨rfl, rfl, h⟩ | ⟨rfl, rfl, h, h1⟩
    · exact absurd h.1 c11
    · rw [if_pos (by omega)]; exact PX_id hj
    · rw [if_neg (by omega), aX_at0 h, if_pos (by omega)]; exact PX_fd (by omega) hj
theorem ev_X_put {w : Mem} {r i v : Int} (hO : OK (aX w)) (hj : XJ w) (hr : R3 r) (hi : R3 i) : EvI y_X_put b_X_put 6 (some .int) (5) [Vr 0, Vi r, Vi i, Vi v] w (PX w (sp_put (aX w) r i v)) := by
  refine Ev.mk (isI := false) (by decide +kernel) nofun (Nat.le_of_ble_eq_true rfl) (fun G hG => ?_)
  show G 0 [some (Vr 0), some (Vi r), some (Vi i), some (Vi v), none, none] [] 102 (hp w)
  refine gx_aload0 (q := 1) hG d_X_put_0 rfl ?_
  refine gx_aload0 (q := 2) hG d_X_put_1 rfl ?_
  refine gx_get (q := 5) hG f_X_15 hpX rfl d_X_put_2 rfl ?_
  refine gx_iload1 (q := 6) hG d_X_put_5 rfl ?_
  refine gx_iload2 (q := 7) hG d_X_put_6 rfl ?_
  refine gw_V3I (q := 10) hG l_X_92 c_X_refusedPlace (ev_X_refusedPlace (RA_t hO) hr hi) hpX rfl (by decide) (Nat.le_of_ble_eq_true rfl) d_X_put_7 rfl (by decide) (fun z w1 h7 => ?_)
  refine gx_istore4 (q := 12) hG d_X_put_10 rfl rfl ?_
  refine gx_iload4 (q := 14) hG d_X_put_12 rfl ?_
  refine gx_if_eq (tgt := 20) (q := 17) hG d_X_put_14 rfl rfl (by omega) (fun c14 => ?_) (fun c14 => ?_)
  · obtain ⟨rfl, hrr, hi0, hi1⟩ : w1 = w ∧ (0 ≤ r ∧ r < 4) ∧ 0 ≤ i ∧ i < w (62 + 2 * r) 1 := by rcases h7 with h | h | h | h; (· exact h.2); (· exfalso; omega); (· exfalso; omega); (· exfalso; omega)
    have hs := hO.t0 hrr
    refine gx_aload0 (q := 21) hG d_X_put_20 rfl ?_
    refine gx_get (q := 24) hG f_X_15 hpX rfl d_X_put_21 rfl ?_
    refine gx_iload1 (q := 25) hG d_X_put_24 rfl ?_
    refine gx_rald (q := 26) hG hpTexts (by decide) (by omega) (by omega) (by first | decide | omega) (by first | decide | omega) d_X_put_25 rfl ?_
    refine gx_get (q := 29) hG f_X_96 (hpRow (by omega)) rfl d_X_put_26 rfl ?_
    refine gx_iload2 (q := 30) hG d_X_put_29 rfl ?_
    refine gw_iald (q := 31) hG (shp_rowA (by omega)) (by omega) (by omega) d_X_put_30 rfl ?_
    refine gx_istore5 (q := 33) hG d_X_put_31 rfl rfl ?_
    refine gx_aload0 (q := 34) hG d_X_put_33 rfl ?_
    refine gx_get (q := 37) hG f_X_15 hpX rfl d_X_put_34 rfl ?_
    refine gx_iload1 (q := 38) hG d_X_put_37 rfl ?_
    refine gx_rald (q := 39) hG hpTexts (by decide) (by omega) (by omega) (by first | decide | omega) (by first | decide | omega) d_X_put_38 rfl ?_
    refine gx_get (q := 42) hG f_X_96 (hpRow (by omega)) rfl d_X_put_39 rfl ?_
    refine gx_iload2 (q := 43) hG d_X_put_42 rfl ?_
    refine gx_iload3 (q := 44) hG d_X_put_43 rfl ?_
    refine gx_i2b (q := 45) hG (byI v) d_X_put_44 rfl ((by unfold byI; exact (Int32.ofInt_toInt _).symm)) ?_
    refine gw_iast (q := 46) hG (shp_rowA (by omega)) (by omega) (by omega) d_X_put_45 rfl ?_
    refine gx_iload5 (q := 48) hG d_X_put_46 rfl ?_
    refine gx_sipush (q := 51) hG d_X_put_48 rfl rfl ?_
    refine gx_iadd (q := 52) hG d_X_put_51 rfl ?_
    refine gx_ireturn hG d_X_put_52 rfl rfl ?_
    refine ⟨_, rfl, _, rfl, ?_⟩
    unfold sp_put
    rw [if_neg (by omega), aX_at2 hrr, if_neg (by omega), if_neg (by omega), aX_at3 hrr (by omega), show 62 + 2 * r + 1 = 63 + 2 * r by omega]
    exact PX_mk (aX_tp hrr (by omega)) hj (fun b hb => by rw [wu_ne (by omega)])
  · refine gx_iload4 (q := 19) hG d_X_put_17 rfl ?_
    refine gx_ireturn hG d_X_put_19 rfl rfl ?_
    exact ⟨_, rfl, _, rfl, X_pl (c := 2) (fun r r0 r1 => aX_at2 ⟨r0, r1⟩) hj h7 c14 rfl⟩
theorem ev_X_copy {w : Mem} {r i t j n : Int} (hO : OK (aX w)) (hj : XJ w) (hr : R3 r) (hi : R3 i) (ht : R3 t) (hjj : R3 j) (hn : R3 n) : EvI y_X_copy b_X_copy 6 (some .int) (3) [Vr 0, Vi r, Vi i, Vi t, Vi j, Vi n] w (PX w (sp_copy (aX w) r i t j n)) := by
  refine Ev.mk (isI := false) (by decide +kernel) nofun (Nat.le_of_ble_eq_true rfl) (fun G hG => ?_)
  show G 0 [some (Vr 0), some (Vi r), some (Vi i), some (Vi t), some (Vi j), some (Vi n)] [] 102 (hp w)
  refine gx_iload1 (q := 1) hG d_X_copy_0 rfl ?_
  refine gx_aload0 (q := 2) hG d_X_copy_1 rfl ?_
  refine gx_get (q := 5) hG f_X_11 hpX rfl d_X_copy_2 rfl ?_
  refine gx_alen (q := 6) hG hpRows (by decide) d_X_copy_5 rfl ?_
  refine gw_S2X (q := 9) hG l_X_110 c_X_isIn (ev_X_isIn (by first | assumption | omega) (by first | assumption | omega)) (by decide) (Nat.le_of_ble_eq_true rfl) d_X_copy_6 rfl (by decide) ?_
  refine gx_if_eq (tgt := 24) (q := 12) hG d_X_copy_9 rfl rfl (bi_R _) (fun c9 => ?_) (fun c9 => ?_)
  · have c9 := bi_eq0.mp c9
    refine gx_iconst (q := 25) hG d_X_copy_24 rfl ?_
    refine gx_ireturn hG d_X_copy_25 rfl rfl ?_
    refine ⟨_, rfl, _, rfl, ?_⟩
    unfold sp_copy; rw [if_pos (by omega)]; exact PX_id hj
  · have c9 := bi_ne0.mp c9
    refine gx_iload3 (q := 13) hG d_X_copy_12 rfl ?_
    refine gx_aload0 (q := 14) hG d_X_copy_13 rfl ?_
    refine gx_get (q := 17) hG f_X_11 hpX rfl d_X_copy_14 rfl ?_
    refine gx_alen (q := 18) hG hpRows (by decide) d_X_copy_17 rfl ?_
    refine gw_S2X (q := 21) hG l_X_110 c_X_isIn (ev_X_isIn (by first | assumption | omega) (by first | assumption | omega)) (by decide) (Nat.le_of_ble_eq_true rfl) d_X_copy_18 rfl (by decide) ?_
    refine gx_if_ne (tgt := 26) (q := 24) hG d_X_copy_21 rfl rfl (bi_R _) (fun c21 => ?_) (fun c21 => ?_)
    · have c21 := bi_ne0.mp c21
      refine gx_iload5 (q := 28) hG d_X_copy_26 rfl ?_
      refine gx_if_ge (tgt := 37) (q := 31) hG d_X_copy_28 rfl rfl (by omega) (fun c28 => ?_) (fun c28 => ?_)
      · have s1 := hO.r0 (r := r) (by omega)
        have s2 := hO.r0 (r := t) (by omega)
        refine gx_aload0 (q := 38) hG d_X_copy_37 rfl ?_
        refine gx_get (q := 41) hG f_X_11 hpX rfl d_X_copy_38 rfl ?_
        refine gx_iload1 (q := 42) hG d_X_copy_41 rfl ?_
        refine gx_rald (q := 43) hG hpRows (by decide) (by omega) (by omega) (by first | decide | omega) (by first | decide | omega) d_X_copy_42 rfl ?_
        refine gw_V0X (q := 46) hG l_X_118 c_Rw_isThere (ev_Rw_isThere (by first | assumption | omega) (by first | assumption | omega)) (hpRow (by omega)) rfl (by decide) (Nat.le_of_ble_eq_true rfl) d_X_copy_43 rfl (by decide) ?_
        refine gx_if_eq (tgt := 61) (q := 49) hG d_X_copy_46 rfl rfl (bi_R _) (fun c46 => ?_) (fun c46 => ?_)
        · have c46 := bi_eq0.mp c46
          refine gx_aload0 (q := 62) hG d_X_copy_61 rfl ?_
          refine gx_iconst (q := 63) hG d_X_copy_62 rfl ?_
          refine gw_V1I (q := 66) hG l_X_114 c_X_found (ev_X_found (by omega)) hpX rfl (by decide) (Nat.le_of_ble_eq_true rfl) d_X_copy_63 rfl (by decide) (fun z63 w h63 => ?_)
          refine gx_ireturn hG d_X_copy_66 rfl rfl ?_
          refine ⟨_, rfl, _, rfl, ?_⟩
          unfold sp_copy; rw [if_neg (by omega), if_neg (by omega), aX_at0 (by omega), aX_at0 (by omega), if_pos (by omega)]; obtain ⟨rfl, rfl⟩ := h63; exact PX_fd (by omega) hj
        · have c46 := bi_ne0.mp c46
          refine gx_aload0 (q := 50) hG d_X_copy_49 rfl ?_
          refine gx_get (q := 53) hG f_X_11 hpX rfl d_X_copy_50 rfl ?_
          refine gx_iload3 (q := 54) hG d_X_copy_53 rfl ?_
          refine gx_rald (q := 55) hG hpRows (by decide) (by omega) (by omega) (by first | decide | omega) (by first | decide | omega) d_X_copy_54 rfl ?_
          refine gw_V0X (q := 58) hG l_X_118 c_Rw_isThere (ev_Rw_isThere (by first | assumption | omega) (by first | assumption | omega)) (hpRow (by omega)) rfl (by decide) (Nat.le_of_ble_eq_true rfl) d_X_copy_55 rfl (by decide) ?_
          refine gx_if_ne (tgt := 67) (q := 61) hG d_X_copy_58 rfl rfl (bi_R _) (fun c58 => ?_) (fun c58 => ?_)
          · have c58 := bi_ne0.mp c58
            refine gx_aload0 (q := 68) hG d_X_copy_67 rfl ?_
            refine gx_get (q := 71) hG f_X_11 hpX rfl d_X_copy_68 rfl ?_
            refine gx_iload1 (q := 72) hG d_X_copy_71 rfl ?_
            refine gx_rald (q := 73) hG hpRows (by decide) (by omega) (by omega) (by first | decide | omega) (by first | decide | omega) d_X_copy_72 rfl ?_
            refine gx_iload2 (q := 74) hG d_X_copy_73 rfl ?_
            refine gx_iload5 (q := 76) hG d_X_copy_74 rfl ?_
            refine gw_V2X (q := 79) hG l_X_122 c_Rw_holdsRun (ev_Rw_holdsRun (by omega) (by omega) (by omega) (by omega) (by omega)) (hpRow (by omega)) rfl (by decide) (Nat.le_of_ble_eq_true rfl) d_X_copy_76 rfl (by decide) ?_
            refine gx_if_eq (tgt := 98) (q := 82) hG d_X_copy_79 rfl rfl (bi_R _) (fun c79 => ?_) (fun c79 => ?_)
            · have c79 := bi_eq0.mp c79
              refine gx_aload0 (q := 99) hG d_X_copy_98 rfl ?_
              refine gx_iconst (q := 100) hG d_X_copy_99 rfl ?_
              refine gw_V1I (q := 103) hG l_X_114 c_X_found (ev_X_found (by omega)) hpX rfl (by decide) (Nat.le_of_ble_eq_true rfl) d_X_copy_100 rfl (by decide) (fun z100 w h100 => ?_)
              refine gx_ireturn hG d_X_copy_103 rfl rfl ?_
              refine ⟨_, rfl, _, rfl, ?_⟩
              unfold sp_copy; rw [if_neg (by omega), if_neg (by omega), aX_at0 (by omega), aX_at0 (by omega), if_neg (by omega), if_pos (by omega)]; obtain ⟨rfl, rfl⟩ := h100; exact PX_fd (by omega) hj
            · have c79 := bi_ne0.mp c79
              refine gx_aload0 (q := 83) hG d_X_copy_82 rfl ?_
              refine gx_get (q := 86) hG f_X_11 hpX rfl d_X_copy_83 rfl ?_
              refine gx_iload3 (q := 87) hG d_X_copy_86 rfl ?_
              refine gx_rald (q := 88) hG hpRows (by decide) (by omega) (by omega) (by first | decide | omega) (by first | decide | omega) d_X_copy_87 rfl ?_
              refine gx_iload4 (q := 90) hG d_X_copy_88 rfl ?_
              refine gx_iload5 (q := 92) hG d_X_copy_90 rfl ?_
              refine gw_V2X (q := 95) hG l_X_122 c_Rw_holdsRun (ev_Rw_holdsRun (by omega) (by omega) (by omega) (by omega) (by omega)) (hpRow (by omega)) rfl (by decide) (Nat.le_of_ble_eq_true rfl) d_X_copy_92 rfl (by decide) ?_
              refine gx_if_ne (tgt := 104) (q := 98) hG d_X_copy_95 rfl rfl (bi_R _) (fun c95 => ?_) (fun c95 => ?_)
              · have c95 := bi_ne0.mp c95
                refine gx_aload0 (q := 105) hG d_X_copy_104 rfl ?_
                refine gx_get (q := 108) hG f_X_11 hpX rfl d_X_copy_105 rfl ?_
                refine gx_iload1 (q := 109) hG d_X_copy_108 rfl ?_
                refine gx_rald (q := 110) hG hpRows (by decide) (by omega) (by omega) (by first | decide | omega) (by first | decide | omega) d_X_copy_109 rfl ?_
                refine gx_get (q := 113) hG f_X_96 (hpRow (by omega)) rfl d_X_copy_110 rfl ?_
                refine gx_iload2 (q := 114) hG d_X_copy_113 rfl ?_
                refine gx_aload0 (q := 115) hG d_X_copy_114 rfl ?_
                refine gx_get (q := 118) hG f_X_11 hpX rfl d_X_copy_115 rfl ?_
                refine gx_iload3 (q := 119) hG d_X_copy_118 rfl ?_
                refine gx_rald (q := 120) hG hpRows (by decide) (by omega) (by omega) (by first | decide | omega) (by first | decide | omega) d_X_copy_119 rfl ?_
                refine gx_get (q := 123) hG f_X_96 (hpRow (by omega)) rfl d_X_copy_120 rfl ?_
                refine gx_iload4 (q := 125) hG d_X_copy_123 rfl ?_
                refine gx_iload5 (q := 127) hG d_X_copy_125 rfl ?_
                refine gw_acopy (q := 130) hG l_X_125 (shp_rowA (by omega)) (shp_rowA (by omega)) (by omega) (by omega) (by omega) (by omega) (by omega) (by decide) (Nat.le_of_ble_eq_true rfl) d_X_copy_127 rfl ?_
                refine gx_iconst (q := 131) hG d_X_copy_130 rfl ?_
                refine gx_ireturn hG d_X_copy_131 rfl rfl ?_
                refine ⟨_, rfl, _, rfl, ?_⟩
                unfold sp_copy; rw [if_neg (by omega), if_neg (by omega), aX_at0 (by omega), aX_at0 (by omega), if_neg (by omega), if_neg (by omega)]
                rw [show 50 + 2 * r + 1 = 51 + 2 * r by omega, show 50 + 2 * t + 1 = 51 + 2 * t by omega]
                exact PX_mk (aX_cp (by omega) (by omega) (by omega) (by omega) (by omega) (by omega)) hj (fun b hb => by rw [wc_ne (by omega)])
              · have c95 := bi_eq0.mp c95
                refine gx_aload0 (q := 99) hG d_X_copy_98 rfl ?_
                refine gx_iconst (q := 100) hG d_X_copy_99 rfl ?_
                refine gw_V1I (q := 103) hG l_X_114 c_X_found (ev_X_found (by omega)) hpX rfl (by decide) (Nat.le_of_ble_eq_true rfl) d_X_copy_100 rfl (by decide) (fun z100 w h100 => ?_)
                refine gx_ireturn hG d_X_copy_103 rfl rfl ?_
                refine ⟨_, rfl, _, rfl, ?_⟩
                unfold sp_copy; rw [if_neg (by omega), if_neg (by omega), aX_at0 (by omega), aX_at0 (by omega), if_neg (by omega), if_pos (by omega)]; obtain ⟨rfl, rfl⟩ := h100; exact PX_fd (by omega) hj
          · have c58 := bi_eq0.mp c58
            refine gx_aload0 (q := 62) hG d_X_copy_61 rfl ?_
            refine gx_iconst (q := 63) hG d_X_copy_62 rfl ?_
            refine gw_V1I (q := 66) hG l_X_114 c_X_found (ev_X_found (by omega)) hpX rfl (by decide) (Nat.le_of_ble_eq_true rfl) d_X_copy_63 rfl (by decide) (fun z63 w h63 => ?_)
            refine gx_ireturn hG d_X_copy_66 rfl rfl ?_
            refine ⟨_, rfl, _, rfl, ?_⟩
            unfold sp_copy; rw [if_neg (by omega), if_neg (by omega), aX_at0 (by omega), aX_at0 (by omega), if_pos (by omega)]; obtain ⟨rfl, rfl⟩ := h63; exact PX_fd (by omega) hj
      · refine gx_aload0 (q := 32) hG d_X_copy_31 rfl ?_
        refine gx_iconst (q := 33) hG d_X_copy_32 rfl ?_
        refine gw_V1I (q := 36) hG l_X_114 c_X_found (ev_X_found (by omega)) hpX rfl (by decide) (Nat.le_of_ble_eq_true rfl) d_X_copy_33 rfl (by decide) (fun z33 w h33 => ?_)
        refine gx_ireturn hG d_X_copy_36 rfl rfl ?_
        refine ⟨_, rfl, _, rfl, ?_⟩
        unfold sp_copy; rw [if_neg (by omega), if_pos (by omega)]; obtain ⟨rfl, rfl⟩ := h33; exact PX_fd (by omega) hj
    · have c21 := bi_eq0.mp c21
      refine gx_iconst (q := 25) hG d_X_copy_24 rfl ?_
      refine gx_ireturn hG d_X_copy_25 rfl rfl ?_
      refine ⟨_, rfl, _, rfl, ?_⟩
      unfold sp_copy; rw [if_pos (by omega)]; exact PX_id hj
theorem ev_X_mean {w : Mem} {r : Int} (hO : OK (aX w)) (hj : XJ w) (hr : R3 r) : EvI y_X_mean b_X_mean 7 (some .int) (4) [Vr 0, Vi r] w (PX w (sp_mean (aX w) r)) := by
  refine Ev.mk (isI := false) (by decide +kernel) nofun (Nat.le_of_ble_eq_true rfl) (fun G hG => ?_)
  show G 0 [some (Vr 0), some (Vi r), none, none, none, none, none] [] 102 (hp w)
  have L : ∀ (j k : Nat) (o : Option Value), (0 ≤ r ∧ r < 6) → 0 < w (50 + 2 * r) 1 → (k : Int) + j = w (50 + 2 * r) 1 → G 42 [some (Vr 0), some (Vi r), o, some (Vi (w (50 + 2 * r) 1)), some (Vj (smF (aX w 1) (60 * r) k)), none, some (Vi (k : Int))] [] 102 (hp w) := by
    intro j
    induction j with
    | zero =>
      intro k o hrr h0 h1
      have hs := hO.r0 hrr
      have hb := smF_bd (F := aX w 1) (x := 60 * r) k (fun i i0 i1 => by rw [aX_at1 hrr (by omega)]; exact hO.r1 hrr (by omega))
      refine gx_iload6 (q := 44) hG d_X_mean_42 rfl ?_
      refine gx_iload3 (q := 45) hG d_X_mean_44 rfl ?_
      refine gx_icmp_ge (tgt := 72) (q := 48) hG d_X_mean_45 rfl rfl (by omega) (by omega) (fun c45 => ?_) (fun c45 => ?_)
      · refine gx_aload0 (q := 73) hG d_X_mean_72 rfl ?_
        refine gx_lload4 (q := 75) hG d_X_mean_73 rfl ?_
        refine gx_iload3 (q := 76) hG d_X_mean_75 rfl ?_
        refine gx_i2l (q := 77) hG d_X_mean_76 rfl (by omega) ?_
        refine gx_ldiv (q := 78) hG d_X_mean_77 rfl (by omega) (by omega) (by omega) (by omega) ?_
        refine gx_l2i (q := 79) hG d_X_mean_78 rfl ?_
        refine gw_puti (q := 82) hG f_X_99 hpX (Nat.le_of_ble_eq_true rfl) vfit_i (Or.inl rfl) d_X_mean_79 rfl 11 rfl rfl ?_
        refine gx_iconst (q := 83) hG d_X_mean_82 rfl ?_
        refine gx_ireturn hG d_X_mean_83 rfl rfl ?_
        refine ⟨_, rfl, _, rfl, ?_⟩
        unfold sp_mean
        rw [if_neg (by omega), aX_at0 hrr, if_neg (by omega), if_neg (by omega), show (w (50 + 2 * r) 1).toNat = k by omega]
        exact PX_mk aX_u11 hj (fun b hb => by rw [wu_ne (by omega)])
      · exfalso; omega
    | succ j ih =>
      intro k o hrr h0 h1
      have hs := hO.r0 hrr
      have hb := hO.r1 hrr (i := k) (by omega)
      have e : w (50 + 2 * r + 1) k = aX w 1 (60 * r + k) := by rw [aX_at1 (w := w) (i := k) hrr (by omega), show 50 + 2 * r + 1 = 51 + 2 * r by omega]
      rw [← aX_at1 (w := w) (i := k) hrr (by omega)] at hb
      refine gx_iload6 (q := 44) hG d_X_mean_42 rfl ?_
      refine gx_iload3 (q := 45) hG d_X_mean_44 rfl ?_
      refine gx_icmp_ge (tgt := 72) (q := 48) hG d_X_mean_45 rfl rfl (by omega) (by omega) (fun c45 => ?_) (fun c45 => ?_)
      · exfalso; omega
      · refine gx_lload4 (q := 50) hG d_X_mean_48 rfl ?_
        refine gx_aload0 (q := 51) hG d_X_mean_50 rfl ?_
        refine gx_get (q := 54) hG f_X_11 hpX rfl d_X_mean_51 rfl ?_
        refine gx_iload1 (q := 55) hG d_X_mean_54 rfl ?_
        refine gx_rald (q := 56) hG hpRows (by decide) (by omega) (by omega) (by first | decide | omega) (by first | decide | omega) d_X_mean_55 rfl ?_
        refine gx_get (q := 59) hG f_X_96 (hpRow (by omega)) rfl d_X_mean_56 rfl ?_
        refine gx_iload6 (q := 61) hG d_X_mean_59 rfl ?_
        refine gw_iald (q := 62) hG (shp_rowA (by omega)) (by omega) (by omega) d_X_mean_61 rfl ?_
        rw [e]
        refine gx_i2l (q := 63) hG d_X_mean_62 rfl (by omega) ?_
        refine gx_ladd (q := 64) hG d_X_mean_63 rfl ?_
        refine gx_lstore4 (q := 66) hG d_X_mean_64 rfl rfl ?_
        refine gx_iinc6 (q := 69) hG d_X_mean_66 rfl rfl ?_
        refine gx_goto (tgt := 42) hG d_X_mean_69 rfl ?_
        exact ih (k + 1) o hrr h0 (by omega)
  refine gx_aload0 (q := 1) hG d_X_mean_0 rfl ?_
  refine gx_aload0 (q := 2) hG d_X_mean_1 rfl ?_
  refine gx_get (q := 5) hG f_X_11 hpX rfl d_X_mean_2 rfl ?_
  refine gx_iload1 (q := 6) hG d_X_mean_5 rfl ?_
  refine gw_V2I (q := 9) hG l_X_103 c_X_refusedRow (ev_X_refusedRow (RA_r hO) hr) hpX rfl (by decide) (Nat.le_of_ble_eq_true rfl) d_X_mean_6 rfl (by decide) (fun z w1 h7 => ?_)
  refine gx_istore2 (q := 10) hG d_X_mean_9 rfl rfl ?_
  refine gx_iload2 (q := 11) hG d_X_mean_10 rfl ?_
  refine gx_if_eq (tgt := 16) (q := 14) hG d_X_mean_11 rfl rfl (by omega) (fun c11 => ?_) (fun c11 => ?_)
  · obtain ⟨rfl, hrr, hi0⟩ : w1 = w ∧ (0 ≤ r ∧ r < 6) ∧ 0 ≤ w (50 + 2 * r) 1 := by rcases h7 with h | h | h; (· exact h.2); (· exfalso; omega); (· exfalso; omega)
    have hs := hO.r0 hrr
    refine gx_aload0 (q := 17) hG d_X_mean_16 rfl ?_
    refine gx_get (q := 20) hG f_X_11 hpX rfl d_X_mean_17 rfl ?_
    refine gx_iload1 (q := 21) hG d_X_mean_20 rfl ?_
    refine gx_rald (q := 22) hG hpRows (by decide) (by omega) (by omega) (by first | decide | omega) (by first | decide | omega) d_X_mean_21 rfl ?_
    refine gx_get (q := 25) hG f_X_107 (hpRow (by omega)) rfl d_X_mean_22 rfl ?_
    refine gx_istore3 (q := 26) hG d_X_mean_25 rfl rfl ?_
    refine gx_iload3 (q := 27) hG d_X_mean_26 rfl ?_
    refine gx_if_gt (tgt := 36) (q := 30) hG d_X_mean_27 rfl rfl (by omega) (fun c27 => ?_) (fun c27 => ?_)
    · refine gx_lconst (q := 37) hG 0 d_X_mean_36 rfl rfl ?_
      refine gx_lstore4 (q := 39) hG d_X_mean_37 rfl rfl ?_
      refine gx_iconst (q := 40) hG d_X_mean_39 rfl ?_
      refine gx_istore6 (q := 42) hG d_X_mean_40 rfl rfl ?_
      exact L (w1 (50 + 2 * r) 1).toNat 0 _ hrr (by omega) (by omega)
    · refine gx_aload0 (q := 31) hG d_X_mean_30 rfl ?_
      refine gx_iconst (q := 32) hG d_X_mean_31 rfl ?_
      refine gw_V1I (q := 35) hG l_X_114 c_X_found (ev_X_found (by omega)) hpX rfl (by decide) (Nat.le_of_ble_eq_true rfl) d_X_mean_32 rfl (by decide) (fun z32 w h32 => ?_)
      refine gx_ireturn hG d_X_mean_35 rfl rfl ?_
      refine ⟨_, rfl, _, rfl, ?_⟩
      unfold sp_mean
      rw [if_neg (by omega), aX_at0 hrr, if_neg (by omega), if_pos (by omega)]
      obtain ⟨rfl, rfl⟩ := h32; exact PX_fd (by omega) hj
  · refine gx_iload2 (q := 15) hG d_X_mean_14 rfl ?_
    refine gx_ireturn hG d_X_mean_15 rfl rfl ?_
    refine ⟨_, rfl, _, rfl, ?_⟩
    unfold sp_mean
    rcases h7 with h | ⟨rfl, rfl, h⟩ | ⟨rfl, rfl, h, h1⟩
    · exact absurd h.1 c11
    · rw [if_pos (by omega)]; exact PX_id hj
    · rw [if_neg (by omega), aX_at0 h, if_pos (by omega)]; exact PX_fd (by omega) hj

