/-! part 87: the small constructors -/
theorem ev_Rw_init {n : Nat} {h : AH} {x : Int} (h1 : h x = cO 1 [.null, Vi 0]) (h2 : 0 ≤ x ∧ x < n) : Ev y_Rw_init b_Rw_init 1 none 2 1 [Vr x] n h (fun v h' => v = none ∧ h' = hset (hset h n (cA 0 60 (fun _ => 0))) x (cO 1 [Vr n, Vi (-1)])) := by
  refine Ev.mk (isI := true) (by decide +kernel) (fun _ => rfl) (Nat.le_of_ble_eq_true rfl) (fun G hG => ?_)
  show G 0 [some (Vr x)] [] n h
  refine gx_aload0 (q := 1) hG d_Rw_init_0 rfl ?_
  refine gx_objinit (q := 4) hG l_Rw_3 h2.1 w_ob (by decide) (by decide) d_Rw_init_1 rfl ?_
  refine gx_aload0 (q := 5) hG d_Rw_init_4 rfl ?_
  refine gx_bipush (q := 7) hG d_Rw_init_5 rfl rfl ?_
  refine gx_newa (q := 9) (t := 0) (N := 60) hG (by decide) rfl ac_int (by decide) (Nat.le_refl _) d_Rw_init_7 rfl ?_
  refine gx_put (q := 12) (k := 0) hG f_Rw_9 (by rw [hset_ne (by omega)]; exact h1) (Nat.le_of_ble_eq_true rfl) vfit_a (Or.inr rfl) d_Rw_init_9 rfl ?_
  refine gx_aload0 (q := 13) hG d_Rw_init_12 rfl ?_
  refine gx_iconst (q := 14) hG d_Rw_init_13 rfl ?_
  refine gx_put (q := 17) (k := 1) hG f_Rw_15 hset_eq (Nat.le_of_ble_eq_true rfl) vfit_i (Or.inr rfl) d_Rw_init_14 rfl ?_
  rw [hset_hset]
  exact gx_return hG d_Rw_init_17 rfl rfl ⟨rfl, rfl⟩
theorem ev_Gm_init {n : Nat} {h : AH} {x : Int} (h1 : h x = cO 2 [.null, Vi 0, Vi 0, Vj 0]) (h2 : 0 ≤ x ∧ x < n) : Ev y_Gm_init b_Gm_init 1 none 2 1 [Vr x] n h (fun v h' => v = none ∧ h' = hset (hset h n (cA 0 13 (fun _ => 0))) x (cO 2 [Vr n, Vi 0, Vi 0, Vj 1])) := by
  refine Ev.mk (isI := true) (by decide +kernel) (fun _ => rfl) (Nat.le_of_ble_eq_true rfl) (fun G hG => ?_)
  show G 0 [some (Vr x)] [] n h
  refine gx_aload0 (q := 1) hG d_Gm_init_0 rfl ?_
  refine gx_objinit (q := 4) hG l_Gm_3 h2.1 w_ob (by decide) (by decide) d_Gm_init_1 rfl ?_
  refine gx_aload0 (q := 5) hG d_Gm_init_4 rfl ?_
  refine gx_bipush (q := 7) hG d_Gm_init_5 rfl rfl ?_
  refine gx_newa (q := 9) (t := 0) (N := 13) hG (by decide) rfl ac_int (by decide) (Nat.le_refl _) d_Gm_init_7 rfl ?_
  refine gx_put (q := 12) (k := 0) hG f_Gm_9 (by rw [hset_ne (by omega)]; exact h1) (Nat.le_of_ble_eq_true rfl) vfit_a (Or.inr rfl) d_Gm_init_9 rfl ?_
  refine gx_aload0 (q := 13) hG d_Gm_init_12 rfl ?_
  refine gx_lconst (q := 14) hG 1 d_Gm_init_13 rfl rfl ?_
  refine gx_put (q := 17) (k := 3) hG f_Gm_15 hset_eq (Nat.le_of_ble_eq_true rfl) vfit_l (Or.inr rfl) d_Gm_init_14 rfl ?_
  rw [hset_hset]
  exact gx_return hG d_Gm_init_17 rfl rfl ⟨rfl, rfl⟩
theorem ev_Pl_init {n : Nat} {h : AH} {x : Int} (h2 : 0 ≤ x) : Ev y_Pl_init b_Pl_init 1 none 2 0 [Vr x] n h (fun v h' => v = none ∧ h' = h) := by
  refine Ev.mk (isI := true) (by decide +kernel) (fun _ => rfl) (Nat.le_of_ble_eq_true rfl) (fun G hG => ?_)
  show G 0 [some (Vr x)] [] n h
  refine gx_aload0 (q := 1) hG d_Pl_init_0 rfl ?_
  refine gx_objinit (q := 4) hG l_Pl_1 h2 w_ob (by decide) (by decide) d_Pl_init_1 rfl ?_
  exact gx_return hG d_Pl_init_4 rfl rfl ⟨rfl, rfl⟩
theorem ev_Sm_init {n : Nat} {h : AH} {x : Int} {ci : Nat} (h2 : 0 ≤ x) (h1 : h x = cO ci []) : Ev y_Sm_init b_Sm_init 1 none 3 0 [Vr x] n h (fun v h' => v = none ∧ h' = h) := by
  refine Ev.mk (isI := true) (by decide +kernel) (fun _ => rfl) (Nat.le_of_ble_eq_true rfl) (fun G hG => ?_)
  show G 0 [some (Vr x)] [] n h
  refine gx_aload0 (q := 1) hG d_Sm_init_0 rfl ?_
  refine gx_callIN (rt' := none) (As := []) (q := 4) hG n_Sm_3 i_Pl_init rfl c_Pl_init (ev_Pl_init h2) h1 (by decide) (by omega) (by decide) rfl d_Sm_init_1 rfl (fun v h' z => ?_)
  obtain ⟨rfl, rfl⟩ := z
  exact gx_return hG d_Sm_init_4 rfl rfl ⟨rfl, rfl⟩
theorem ev_Pr_init {n : Nat} {h : AH} {x : Int} {ci : Nat} (h2 : 0 ≤ x) (h1 : h x = cO ci []) : Ev y_Pr_init b_Pr_init 1 none 3 0 [Vr x] n h (fun v h' => v = none ∧ h' = h) := by
  refine Ev.mk (isI := true) (by decide +kernel) (fun _ => rfl) (Nat.le_of_ble_eq_true rfl) (fun G hG => ?_)
  show G 0 [some (Vr x)] [] n h
  refine gx_aload0 (q := 1) hG d_Pr_init_0 rfl ?_
  refine gx_callIN (rt' := none) (As := []) (q := 4) hG n_Pr_1 i_Pl_init rfl c_Pl_init (ev_Pl_init h2) h1 (by decide) (by omega) (by decide) rfl d_Pr_init_1 rfl (fun v h' z => ?_)
  obtain ⟨rfl, rfl⟩ := z
  exact gx_return hG d_Pr_init_4 rfl rfl ⟨rfl, rfl⟩
theorem ev_Bs_init {n : Nat} {h : AH} {x : Int} {ci : Nat} (h2 : 0 ≤ x) (h1 : h x = cO ci []) : Ev y_Bs_init b_Bs_init 1 none 3 0 [Vr x] n h (fun v h' => v = none ∧ h' = h) := by
  refine Ev.mk (isI := true) (by decide +kernel) (fun _ => rfl) (Nat.le_of_ble_eq_true rfl) (fun G hG => ?_)
  show G 0 [some (Vr x)] [] n h
  refine gx_aload0 (q := 1) hG d_Bs_init_0 rfl ?_
  refine gx_callIN (rt' := none) (As := []) (q := 4) hG n_Bs_1 i_Pl_init rfl c_Pl_init (ev_Pl_init h2) h1 (by decide) (by omega) (by decide) rfl d_Bs_init_1 rfl (fun v h' z => ?_)
  obtain ⟨rfl, rfl⟩ := z
  exact gx_return hG d_Bs_init_4 rfl rfl ⟨rfl, rfl⟩
theorem ev_Lo_init {n : Nat} {h : AH} {x : Int} {ci : Nat} (h2 : 0 ≤ x) (h1 : h x = cO ci []) : Ev y_Lo_init b_Lo_init 1 none 4 0 [Vr x] n h (fun v h' => v = none ∧ h' = h) := by
  refine Ev.mk (isI := true) (by decide +kernel) (fun _ => rfl) (Nat.le_of_ble_eq_true rfl) (fun G hG => ?_)
  show G 0 [some (Vr x)] [] n h
  refine gx_aload0 (q := 1) hG d_Lo_init_0 rfl ?_
  refine gx_callIN (rt' := none) (As := []) (q := 4) hG n_Lo_1 i_Sm_init rfl c_Sm_init (ev_Sm_init h2 h1) h1 (by decide) (by omega) (by decide) rfl d_Lo_init_1 rfl (fun v h' z => ?_)
  obtain ⟨rfl, rfl⟩ := z
  exact gx_return hG d_Lo_init_4 rfl rfl ⟨rfl, rfl⟩
theorem ev_Ch_init {n : Nat} {h : AH} {x : Int} {ci : Nat} (h2 : 0 ≤ x) (h1 : h x = cO ci []) : Ev y_Ch_init b_Ch_init 1 none 4 0 [Vr x] n h (fun v h' => v = none ∧ h' = h) := by
  refine Ev.mk (isI := true) (by decide +kernel) (fun _ => rfl) (Nat.le_of_ble_eq_true rfl) (fun G hG => ?_)
  show G 0 [some (Vr x)] [] n h
  refine gx_aload0 (q := 1) hG d_Ch_init_0 rfl ?_
  refine gx_callIN (rt' := none) (As := []) (q := 4) hG n_Ch_1 i_Pr_init rfl c_Pr_init (ev_Pr_init h2 h1) h1 (by decide) (by omega) (by decide) rfl d_Ch_init_1 rfl (fun v h' z => ?_)
  obtain ⟨rfl, rfl⟩ := z
  exact gx_return hG d_Ch_init_4 rfl rfl ⟨rfl, rfl⟩
theorem ev_Rd_init {n : Nat} {h : AH} {x : Int} (h1 : h x = cO 9 [.null, .null, Vi 0, Vi 0]) (h2 : 0 ≤ x ∧ x < n) : Ev y_Rd_init b_Rd_init 1 none 4 3 [Vr x] n h (fun v h' => v = none ∧ h' = hset (hset (hset (hset (hset (hset h n (cO 2 [.null, Vi 0, Vi 0, Vj 0])) ((n + 1 : Nat) : Int) (cA 0 13 (fun _ => 0))) n (cO 2 [Vr ((n + 1 : Nat) : Int), Vi 0, Vi 0, Vj 1])) x (cO 9 [Vr n, .null, Vi 0, Vi 0])) ((n + 1 + 1 : Nat) : Int) (cA 0 2 (fun _ => 0))) x (cO 9 [Vr n, Vr ((n + 1 + 1 : Nat) : Int), Vi 0, Vi 0])) := by
  refine Ev.mk (isI := true) (by decide +kernel) (fun _ => rfl) (Nat.le_of_ble_eq_true rfl) (fun G hG => ?_)
  show G 0 [some (Vr x)] [] n h
  refine gx_aload0 (q := 1) hG d_Rd_init_0 rfl ?_
  refine gx_objinit (q := 4) hG l_Rd_3 h2.1 w_ob (by decide) (by decide) d_Rd_init_1 rfl ?_
  refine gx_aload0 (q := 5) hG d_Rd_init_4 rfl ?_
  refine gx_new (q := 8) hG a_Rd_9 (by omega) d_Rd_init_5 rfl ?_
  refine gx_dupa (q := 9) hG d_Rd_init_8 rfl ?_
  refine gx_callIN (rt' := none) (As := []) (q := 12) hG n_Rd_11 i_Gm_init rfl c_Gm_init (ev_Gm_init hset_eq (by omega)) hset_eq (by decide) (by omega) (Nat.le_of_ble_eq_true rfl) rfl d_Rd_init_9 rfl (fun v h' z => ?_)
  obtain ⟨rfl, rfl⟩ := z
  refine gx_put (q := 15) (k := 0) hG f_Rd_12 (by rw [hset_ne (by omega), hset_ne (by omega), hset_ne (by omega)]; exact h1) (Nat.le_of_ble_eq_true rfl) vfit_o (Or.inr rfl) d_Rd_init_12 rfl ?_
  refine gx_aload0 (q := 16) hG d_Rd_init_15 rfl ?_
  refine gx_iconst (q := 17) hG d_Rd_init_16 rfl ?_
  refine gx_newa (q := 19) (t := 0) (N := 2) hG (by decide) rfl ac_int (by decide) (by omega) d_Rd_init_17 rfl ?_
  refine gx_put (q := 22) (k := 1) hG f_Rd_18 (by rw [hset_ne (by omega), hset_eq]) (Nat.le_of_ble_eq_true rfl) vfit_a (Or.inr rfl) d_Rd_init_19 rfl ?_
  exact gx_return hG d_Rd_init_22 rfl rfl ⟨rfl, rfl⟩
theorem ev_So_init {n : Nat} {h : AH} {x : Int} (h1 : h x = cO 11 [Vi 0, .null, .null, Vi 0]) (h2 : 0 ≤ x ∧ x < n) : Ev y_So_init b_So_init 1 none 2 2 [Vr x] n h (fun v h' => v = none ∧ h' = hset (hset (hset (hset h n (cA 0 1024 (fun _ => 0))) x (cO 11 [Vi 0, Vr n, .null, Vi 0])) ((n + 1 : Nat) : Int) (cA 0 1024 (fun _ => 0))) x (cO 11 [Vi 0, Vr n, Vr ((n + 1 : Nat) : Int), Vi 0])) := by
  refine Ev.mk (isI := true) (by decide +kernel) (fun _ => rfl) (Nat.le_of_ble_eq_true rfl) (fun G hG => ?_)
  show G 0 [some (Vr x)] [] n h
  refine gx_aload0 (q := 1) hG d_So_init_0 rfl ?_
  refine gx_objinit (q := 4) hG l_So_3 h2.1 w_ob (by decide) (by decide) d_So_init_1 rfl ?_
  refine gx_aload0 (q := 5) hG d_So_init_4 rfl ?_
  refine gx_sipush (q := 8) hG d_So_init_5 rfl rfl ?_
  refine gx_newa (q := 10) (t := 0) (N := 1024) hG (by decide) rfl ac_int (by decide) (by omega) d_So_init_8 rfl ?_
  refine gx_put (q := 13) (k := 1) hG f_So_11 (by rw [hset_ne (by omega)]; exact h1) (Nat.le_of_ble_eq_true rfl) vfit_a (Or.inr rfl) d_So_init_10 rfl ?_
  refine gx_aload0 (q := 14) hG d_So_init_13 rfl ?_
  refine gx_sipush (q := 17) hG d_So_init_14 rfl rfl ?_
  refine gx_newa (q := 19) (t := 0) (N := 1024) hG (by decide) rfl ac_int (by decide) (by omega) d_So_init_17 rfl ?_
  refine gx_put (q := 22) (k := 2) hG f_So_15 (by rw [hset_ne (by omega), hset_eq]) (Nat.le_of_ble_eq_true rfl) vfit_a (Or.inr rfl) d_So_init_19 rfl ?_
  exact gx_return hG d_So_init_22 rfl rfl ⟨rfl, rfl⟩
