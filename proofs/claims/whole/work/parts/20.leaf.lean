/-! part 20: small methods of the class -/
theorem ev_X_isIn {w : Mem} {i e : Int} (hi : R3 i) (he : R3 e) : EvX y_X_isIn b_X_isIn 2 (some .boolean) (1) [Vi i, Vi e] w (Vi (bi (0 ≤ i ∧ i < e))) := by
  refine Ev.mk (isI := false) rfl nofun (Nat.le_of_ble_eq_true rfl) (fun G hG => ?_)
  show G 0 [some (Vi i), some (Vi e)] [] 102 (hp w)
  refine gx_iload0 (q := 1) hG d_X_isIn_0 rfl ?_
  refine gx_if_lt (tgt := 13) (q := 4) hG d_X_isIn_1 rfl rfl (by omega) (fun c1 => ?_) (fun c1 => ?_)
  · refine gx_iconst (q := 14) hG d_X_isIn_13 rfl ?_
    refine gx_zreturn hG d_X_isIn_14 rfl rfl (by first | exact bi_01 _ | decide | omega) ?_
    refine ⟨w, rfl, ?_, rfl⟩; first | rfl | (rw [bi_t (by omega)]) | (rw [bi_f (by omega)])
  · refine gx_iload0 (q := 5) hG d_X_isIn_4 rfl ?_
    refine gx_iload1 (q := 6) hG d_X_isIn_5 rfl ?_
    refine gx_icmp_ge (tgt := 13) (q := 9) hG d_X_isIn_6 rfl rfl (by omega) (by omega) (fun c6 => ?_) (fun c6 => ?_)
    · refine gx_iconst (q := 14) hG d_X_isIn_13 rfl ?_
      refine gx_zreturn hG d_X_isIn_14 rfl rfl (by first | exact bi_01 _ | decide | omega) ?_
      refine ⟨w, rfl, ?_, rfl⟩; first | rfl | (rw [bi_t (by omega)]) | (rw [bi_f (by omega)])
    · refine gx_iconst (q := 10) hG d_X_isIn_9 rfl ?_
      refine gx_goto (tgt := 14) hG d_X_isIn_10 rfl ?_
      refine gx_zreturn hG d_X_isIn_14 rfl rfl (by first | exact bi_01 _ | decide | omega) ?_
      refine ⟨w, rfl, ?_, rfl⟩; first | rfl | (rw [bi_t (by omega)]) | (rw [bi_f (by omega)])
theorem ev_Rw_isThere {w : Mem} {a : Int} (ha : 50 ≤ a ∧ a < 70 ∧ a % 2 = 0) (hs : R3 (w a 1)) : EvX y_Rw_isThere b_Rw_isThere 1 (some .boolean) (1) [Vr a] w (Vi (bi (0 ≤ w a 1))) := by
  refine Ev.mk (isI := false) rfl nofun (Nat.le_of_ble_eq_true rfl) (fun G hG => ?_)
  show G 0 [some (Vr a)] [] 102 (hp w)
  refine gx_aload0 (q := 1) hG d_Rw_isThere_0 rfl ?_
  refine gx_get (q := 4) hG f_Rw_15 (hpRow (by omega)) rfl d_Rw_isThere_1 rfl ?_
  refine gx_if_lt (tgt := 11) (q := 7) hG d_Rw_isThere_4 rfl rfl (by omega) (fun c4 => ?_) (fun c4 => ?_)
  · refine gx_iconst (q := 12) hG d_Rw_isThere_11 rfl ?_
    refine gx_zreturn hG d_Rw_isThere_12 rfl rfl (by first | exact bi_01 _ | decide | omega) ?_
    refine ⟨w, rfl, ?_, rfl⟩; first | rfl | (rw [bi_t (by omega)]) | (rw [bi_f (by omega)])
  · refine gx_iconst (q := 8) hG d_Rw_isThere_7 rfl ?_
    refine gx_goto (tgt := 12) hG d_Rw_isThere_8 rfl ?_
    refine gx_zreturn hG d_Rw_isThere_12 rfl rfl (by first | exact bi_01 _ | decide | omega) ?_
    refine ⟨w, rfl, ?_, rfl⟩; first | rfl | (rw [bi_t (by omega)]) | (rw [bi_f (by omega)])

