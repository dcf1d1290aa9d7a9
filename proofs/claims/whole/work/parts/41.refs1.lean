/-! part 41: the reference's calls: rows and texts -/
def mfd (w : Mem) (f : Int) : Mem := wu (wu w 76 0 f) 77 f (w 77 f + 1)
def fillR (b : Int) (k : Nat) (F : Int → Int) (z : Int) : Int → Int := fun j => if b ≤ j ∧ j < b + k then z else F j
theorem PM_mk {w w' : Mem} {s : Sta} {z : Int} (e : aM w' = s) (hx : ∀ b, b < 76 → w' b = w b) : PM w (z, s) z w' := ⟨rfl, e, hx⟩
theorem PM_id {w : Mem} {z : Int} : PM w (z, aM w) z w := ⟨rfl, rfl, fun _ _ => rfl⟩
theorem aM_at0 {w : Mem} {r : Int} (h : 0 ≤ r ∧ r < 6) : aM w 0 r = w 78 r := if_pos h
theorem aM_at1 {w : Mem} {r : Int} (h : 0 ≤ r ∧ r < 360) : aM w 1 r = w 79 r := if_pos h
theorem aM_at2 {w : Mem} {r : Int} (h : 0 ≤ r ∧ r < 4) : aM w 2 r = w 81 r := if_pos h
theorem aM_at3 {w : Mem} {r : Int} (h : 0 ≤ r ∧ r < 240) : aM w 3 r = w 82 r := if_pos h
theorem aM_at7 {w : Mem} {f : Int} (h : 1 ≤ f ∧ f ≤ 5) : aM w 7 f = w 77 f := if_pos h
theorem mfd_ne {w : Mem} {f b : Int} (h0 : b ≠ 76) (h1 : b ≠ 77) : mfd w f b = w b := by
  unfold mfd
  rw [wu_ne h1, wu_ne h0]
theorem aM_fd {w : Mem} {f : Int} (h : 1 ≤ f ∧ f ≤ 5) : aM (mfd w f) = (fdS (aM w) f).2 := by
  unfold mfd fdS
  rw [aM_u77 h, aM_u0, aM_at7 h]
theorem PM_fd {w : Mem} {f : Int} (h : 1 ≤ f ∧ f ≤ 5) : PM w (fdS (aM w) f) (-3) (mfd w f) :=
  ⟨rfl, aM_fd h, fun b hb => mfd_ne (by omega) (by omega)⟩
theorem OK.m0 {w : Mem} (h : OK (aM w)) {r : Int} (hr : 0 ≤ r ∧ r < 6) : -1 ≤ w 78 r ∧ w 78 r ≤ 60 := by
  have := h.1 r hr.1 hr.2
  rw [aM_at0 hr] at this
  exact this
theorem OK.m1 {w : Mem} (h : OK (aM w)) {r : Int} (hr : 0 ≤ r ∧ r < 360) : R3 (w 79 r) := by
  have := h.2.1 r hr.1 hr.2
  rw [aM_at1 hr] at this
  exact this
theorem OK.m2 {w : Mem} (h : OK (aM w)) {r : Int} (hr : 0 ≤ r ∧ r < 4) : -1 ≤ w 81 r ∧ w 81 r ≤ 60 := by
  have := h.2.2.1 r hr.1 hr.2
  rw [aM_at2 hr] at this
  exact this
theorem OK.m3 {w : Mem} (h : OK (aM w)) {r : Int} (hr : 0 ≤ r ∧ r < 240) : -128 ≤ w 82 r ∧ w 82 r ≤ 127 := by
  have := h.2.2.2.1 r hr.1 hr.2
  rw [aM_at3 hr] at this
  exact this
theorem fillR_0 {w : Mem} {a b z : Int} : wc w a (fillR b 0 (w a) z) = w := by
  funext x
  unfold wc
  split
  · rename_i h
    subst h
    funext j
    exact if_neg (by omega)
  · rfl
theorem fillR_s {w : Mem} {a b z : Int} {k : Nat} {F : Int → Int} : wu (wc w a (fillR b k F z)) a (b + k) z = wc w a (fillR b (k + 1) F z) := by
  funext x i
  rw [wu_get, wc_get, wc_get]
  unfold fillR
  by_cases hx : x = a
  · rw [if_pos hx, if_pos hx]
    by_cases h : i = b + k
    · rw [if_pos ⟨hx, h⟩, if_pos (by omega)]
    · rw [if_neg (fun q => h q.2)]
      by_cases h2 : b ≤ i ∧ i < b + k
      · rw [if_pos h2, if_pos (by omega)]
      · rw [if_neg h2, if_neg (by omega)]
  · rw [if_neg (fun q => hx q.1), if_neg hx, if_neg hx]
theorem cpy_0 {w : Mem} {a s t : Int} {F : Int → Int} : wc w a (cpy F (w a) s t 0) = w := by
  funext x
  unfold wc
  split
  · rename_i h
    subst h
    funext j
    exact if_neg (by omega)
  · rfl
theorem cpy_s {w : Mem} {a s t : Int} {k : Nat} {F F' : Int → Int} : wu (wc w a (cpy F F' s t k)) a (t + k) (F (s + k)) = wc w a (cpy F F' s t (k + 1 : Nat)) := by
  funext x i
  rw [wu_get, wc_get, wc_get]
  unfold cpy
  by_cases hx : x = a
  · rw [if_pos hx, if_pos hx]
    by_cases h : i = t + k
    · rw [if_pos ⟨hx, h⟩, if_pos (by omega), h, show t + (k : Int) - t = k by omega]
    · rw [if_neg (fun q => h q.2)]
      by_cases h2 : t ≤ i ∧ i < t + k
      · rw [if_pos h2, if_pos (by omega)]
      · rw [if_neg h2, if_neg (by omega)]
  · rw [if_neg (fun q => hx q.1), if_neg hx, if_neg hx]
theorem aM_c1 {w : Mem} {F G : Int → Int} (h : ∀ i, 0 ≤ i → i < 360 → F i = G i) (h2 : ∀ i, ¬ (0 ≤ i ∧ i < 360) → G i = 0) : aM (wc w 79 F) = sc (aM w) 1 G := by
  funext c i
  unfold aM sc
  match c with
  | 1 =>
    show (if _ then _ else _) = G i
    by_cases e : 0 ≤ i ∧ i < 360
    · rw [if_pos e, wc_get, if_pos rfl]; exact h i e.1 e.2
    · rw [if_neg e]; exact (h2 i e).symm
  | 0 | 2 | 3 | 4 | 5 | 6 | 7 | 8 | 9 | 10 => simp [wc_get]
  | c + 11 => simp
theorem aM_c3 {w : Mem} {F G : Int → Int} (h : ∀ i, 0 ≤ i → i < 240 → F i = G i) (h2 : ∀ i, ¬ (0 ≤ i ∧ i < 240) → G i = 0) : aM (wc w 82 F) = sc (aM w) 3 G := by
  funext c i
  unfold aM sc
  match c with
  | 3 =>
    show (if _ then _ else _) = G i
    by_cases e : 0 ≤ i ∧ i < 240
    · rw [if_pos e, wc_get, if_pos rfl]; exact h i e.1 e.2
    · rw [if_neg e]; exact (h2 i e).symm
  | 0 | 1 | 2 | 4 | 5 | 6 | 7 | 8 | 9 | 10 => simp [wc_get]
  | c + 11 => simp
theorem sr_sc {s : Sta} {c : Nat} {r : Int} {F : Int → Int} : sr s c r F = sc s c (fun i => if 60 * r ≤ i ∧ i < 60 * r + 60 then F (i - 60 * r) else s c i) := by
  funext c' i
  unfold sr sc
  by_cases h : c' = c
  · subst h
    rw [if_pos rfl]
    by_cases h2 : 60 * r ≤ i ∧ i < 60 * r + 60
    · rw [if_pos ⟨rfl, h2.1, h2.2⟩, if_pos h2]
    · rw [if_neg (fun q => h2 q.2), if_neg h2]
  · rw [if_neg (fun q => h q.1), if_neg h]
theorem sr_ss {s : Sta} {c c' : Nat} {r i v : Int} {F : Int → Int} (h : c ≠ c') : sr (ss s c' i v) c r F = ss (sr s c r F) c' i v := by
  funext x j
  unfold sr ss
  dsimp only
  by_cases h1 : x = c ∧ 60 * r ≤ j ∧ j < 60 * r + 60
  · rw [if_pos h1, if_neg (fun q => h (h1.1.symm.trans q.1)), if_pos h1]
  · rw [if_neg h1, if_neg h1]
theorem aM_o1 {w : Mem} {i : Int} (h : ¬ (0 ≤ i ∧ i < 360)) : aM w 1 i = 0 := if_neg h
theorem aM_o3 {w : Mem} {i : Int} (h : ¬ (0 ≤ i ∧ i < 240)) : aM w 3 i = 0 := if_neg h
theorem aM_fr {w : Mem} {r z : Int} {F : Int → Int} (hr : 0 ≤ r ∧ r < 6) (hF : F = w 79) : aM (wc w 79 (fillR (60 * r) 60 F z)) = sr (aM w) 1 r (fun _ => z) := by
  subst hF
  rw [sr_sc]
  refine aM_c1 (fun i i0 i1 => ?_) (fun i hi => ?_)
  · show (if _ then _ else _) = if _ then _ else _
    rw [aM_at1 ⟨i0, i1⟩]
    rfl
  · show (if _ then _ else _) = _
    rw [if_neg (by omega), aM_o1 hi]
theorem aM_ft {w : Mem} {r z : Int} {F : Int → Int} (hr : 0 ≤ r ∧ r < 4) (hF : F = w 82) : aM (wc w 82 (fillR (60 * r) 60 F z)) = sr (aM w) 3 r (fun _ => z) := by
  subst hF
  rw [sr_sc]
  refine aM_c3 (fun i i0 i1 => ?_) (fun i hi => ?_)
  · show (if _ then _ else _) = if _ then _ else _
    rw [aM_at3 ⟨i0, i1⟩]
    rfl
  · show (if _ then _ else _) = _
    rw [if_neg (by omega), aM_o3 hi]
theorem aM_80 {w : Mem} {F : Int → Int} : aM (wc w 80 F) = aM w := by
  funext c i
  unfold aM
  match c with
  | 0 | 1 | 2 | 3 | 4 | 5 | 6 | 7 | 8 | 9 | 10 => simp [wc_get]
  | c + 11 => simp
theorem nar_by {v : Int} : narrow .byte (.int (Int32.ofInt (byI v))) = .int (Int32.ofInt (byI v)) := by
  unfold byI
  rw [Int32.ofInt_toInt]
  show Value.int _ = _
  simp
theorem ev_M_in {w : Mem} {x l u : Int} (hx : R3 x) (hl : R3 l) (hu : R3 u) : EvX y_M_in b_M_in 3 (some .boolean) (1) [Vi x, Vi l, Vi u] w (Vi (bi (l ≤ x ∧ x ≤ u))) := by
  refine Ev.mk (isI := false) (by decide +kernel) nofun (Nat.le_of_ble_eq_true rfl) (fun G hG => ?_)
  show G 0 [some (Vi x), some (Vi l), some (Vi u)] [] 102 (hp w)
  refine gx_iload0 (q := 1) hG d_M_in_0 rfl ?_
  refine gx_iload1 (q := 2) hG d_M_in_1 rfl ?_
  refine gx_icmp_lt (tgt := 14) (q := 5) hG d_M_in_2 rfl rfl (by omega) (by omega) (fun c2 => ?_) (fun c2 => ?_)
  · refine gx_iconst (q := 15) hG d_M_in_14 rfl ?_
    refine gx_zreturn hG d_M_in_15 rfl rfl (by first | exact bi_01 _ | decide | omega) ?_
    refine ⟨w, rfl, ?_, rfl⟩; first | rfl | (rw [bi_t (by omega)]) | (rw [bi_f (by omega)])
  · refine gx_iload0 (q := 6) hG d_M_in_5 rfl ?_
    refine gx_iload2 (q := 7) hG d_M_in_6 rfl ?_
    refine gx_icmp_gt (tgt := 14) (q := 10) hG d_M_in_7 rfl rfl (by omega) (by omega) (fun c7 => ?_) (fun c7 => ?_)
    · refine gx_iconst (q := 15) hG d_M_in_14 rfl ?_
      refine gx_zreturn hG d_M_in_15 rfl rfl (by first | exact bi_01 _ | decide | omega) ?_
      refine ⟨w, rfl, ?_, rfl⟩; first | rfl | (rw [bi_t (by omega)]) | (rw [bi_f (by omega)])
    · refine gx_iconst (q := 11) hG d_M_in_10 rfl ?_
      refine gx_goto (tgt := 15) hG d_M_in_11 rfl ?_
      refine gx_zreturn hG d_M_in_15 rfl rfl (by first | exact bi_01 _ | decide | omega) ?_
      refine ⟨w, rfl, ?_, rfl⟩; first | rfl | (rw [bi_t (by omega)]) | (rw [bi_f (by omega)])
theorem ev_M_isRow {w : Mem} {x : Int} (hx : R3 x) : EvX y_M_isRow b_M_isRow 1 (some .boolean) (2) [Vi x] w (Vi (bi (0 ≤ x ∧ x ≤ 5))) := by
  refine Ev.mk (isI := false) (by decide +kernel) nofun (Nat.le_of_ble_eq_true rfl) (fun G hG => ?_)
  show G 0 [some (Vi x)] [] 102 (hp w)
  refine gx_iload0 (q := 1) hG d_M_isRow_0 rfl ?_
  refine gx_iconst (q := 2) hG d_M_isRow_1 rfl ?_
  refine gx_iconst (q := 3) hG d_M_isRow_2 rfl ?_
  refine gw_S3X (q := 6) hG l_M_96 c_M_in (ev_M_in hx (by omega) (by omega)) (by decide) (Nat.le_of_ble_eq_true rfl) d_M_isRow_3 rfl (by decide) ?_
  refine gx_zreturn hG d_M_isRow_6 rfl rfl (by first | exact bi_01 _ | decide | omega) ?_
  exact ⟨_, rfl, rfl, rfl⟩
theorem ev_M_isText {w : Mem} {x : Int} (hx : R3 x) : EvX y_M_isText b_M_isText 1 (some .boolean) (2) [Vi x] w (Vi (bi (0 ≤ x ∧ x ≤ 3))) := by
  refine Ev.mk (isI := false) (by decide +kernel) nofun (Nat.le_of_ble_eq_true rfl) (fun G hG => ?_)
  show G 0 [some (Vi x)] [] 102 (hp w)
  refine gx_iload0 (q := 1) hG d_M_isText_0 rfl ?_
  refine gx_iconst (q := 2) hG d_M_isText_1 rfl ?_
  refine gx_iconst (q := 3) hG d_M_isText_2 rfl ?_
  refine gw_S3X (q := 6) hG l_M_96 c_M_in (ev_M_in hx (by omega) (by omega)) (by decide) (Nat.le_of_ble_eq_true rfl) d_M_isText_3 rfl (by decide) ?_
  refine gx_zreturn hG d_M_isText_6 rfl rfl (by first | exact bi_01 _ | decide | omega) ?_
  exact ⟨_, rfl, rfl, rfl⟩
theorem ev_M_meets {w : Mem} {f : Int} (hf : 1 ≤ f ∧ f ≤ 5) : EvI y_M_meets b_M_meets 2 (some .int) (1) [Vr 76, Vi f] w (fun z w' => z = -3 ∧ w' = mfd w f) := by
  refine Ev.mk (isI := false) (by decide +kernel) nofun (Nat.le_of_ble_eq_true rfl) (fun G hG => ?_)
  show G 0 [some (Vr 76), some (Vi f)] [] 102 (hp w)
  refine gx_aload0 (q := 1) hG d_M_meets_0 rfl ?_
  refine gx_iload1 (q := 2) hG d_M_meets_1 rfl ?_
  refine gw_puti (q := 5) hG f_M_92 hpM (Nat.le_of_ble_eq_true rfl) vfit_i (Or.inl rfl) d_M_meets_2 rfl 0 rfl rfl ?_
  refine gx_aload0 (q := 6) hG d_M_meets_5 rfl ?_
  refine gx_get (q := 9) hG f_M_7 hpM rfl d_M_meets_6 rfl ?_
  refine gx_iload1 (q := 10) hG d_M_meets_9 rfl ?_
  refine gx_dup2 (q := 11) hG d_M_meets_10 rfl ?_
  refine gw_iald (q := 12) hG rfl (by omega) (by omega) d_M_meets_11 rfl ?_
  refine gx_iconst (q := 13) hG d_M_meets_12 rfl ?_
  rw [wu_ne (show (77 : Int) ≠ 76 by omega)]
  refine gx_iadd (q := 14) hG d_M_meets_13 rfl ?_
  refine gw_iast (q := 15) hG rfl (by omega) (by omega) d_M_meets_14 rfl ?_
  refine gx_bipush (q := 17) hG d_M_meets_15 rfl rfl ?_
  refine gx_ireturn hG d_M_meets_17 rfl rfl ?_
  exact ⟨_, rfl, _, rfl, rfl, rfl⟩
theorem ev_M_tells {w : Mem} {x v : Int} : EvI y_M_tells b_M_tells 3 (some .int) (1) [Vr 76, Vi x, Vi v] w (fun z w' => z = v ∧ w' = wu w 76 2 x) := by
  refine Ev.mk (isI := false) (by decide +kernel) nofun (Nat.le_of_ble_eq_true rfl) (fun G hG => ?_)
  show G 0 [some (Vr 76), some (Vi x), some (Vi v)] [] 102 (hp w)
  refine gx_aload0 (q := 1) hG d_M_tells_0 rfl ?_
  refine gx_iload1 (q := 2) hG d_M_tells_1 rfl ?_
  refine gw_puti (q := 5) hG f_M_100 hpM (Nat.le_of_ble_eq_true rfl) vfit_i (Or.inl rfl) d_M_tells_2 rfl 2 rfl rfl ?_
  refine gx_iload2 (q := 6) hG d_M_tells_5 rfl ?_
  refine gx_ireturn hG d_M_tells_6 rfl rfl ?_
  exact ⟨_, rfl, _, rfl, rfl, rfl⟩
theorem ev_M_rowAt {w : Mem} {r i : Int} (hr : 0 ≤ r ∧ r < 6) (hi : 0 ≤ i ∧ i < 60) : EvX y_M_rowAt b_M_rowAt 3 (some .int) (1) [Vr 76, Vi r, Vi i] w (Vi (w 79 (60 * r + i))) := by
  refine Ev.mk (isI := false) (by decide +kernel) nofun (Nat.le_of_ble_eq_true rfl) (fun G hG => ?_)
  show G 0 [some (Vr 76), some (Vi r), some (Vi i)] [] 102 (hp w)
  refine gx_aload0 (q := 1) hG d_M_rowAt_0 rfl ?_
  refine gx_get (q := 4) hG f_M_16 hpM rfl d_M_rowAt_1 rfl ?_
  refine gx_bipush (q := 6) hG d_M_rowAt_4 rfl rfl ?_
  refine gx_iload1 (q := 7) hG d_M_rowAt_6 rfl ?_
  refine gx_imul (q := 8) hG d_M_rowAt_7 rfl ?_
  refine gx_iload2 (q := 9) hG d_M_rowAt_8 rfl ?_
  refine gx_iadd (q := 10) hG d_M_rowAt_9 rfl ?_
  refine gw_iald (q := 11) hG rfl (by omega) (by omega) d_M_rowAt_10 rfl ?_
  refine gx_ireturn hG d_M_rowAt_11 rfl rfl ?_
  exact ⟨_, rfl, rfl, rfl⟩
theorem ev_M_row {w : Mem} {r n : Int} (hO : OK (aM w)) (hr : R3 r) (hn : R3 n) : EvI y_M_row b_M_row 4 (some .int) (3) [Vr 76, Vi r, Vi n] w (PM w (sp_row (aM w) r n)) := by
  refine Ev.mk (isI := false) (by decide +kernel) nofun (Nat.le_of_ble_eq_true rfl) (fun G hG => ?_)
  show G 0 [some (Vr 76), some (Vi r), some (Vi n), none] [] 102 (hp w)
  have L : ∀ (j k : Nat), k + j = 60 → (0 ≤ r ∧ r < 6) → (0 ≤ n ∧ n ≤ 60) → G 34 [some (Vr 76), some (Vi r), some (Vi n), some (Vi (k : Int))] [] 102 (hp (wc (wu w 78 r n) 79 (fillR (60 * r) k (w 79) 0))) := by
    intro j
    induction j with
    | zero =>
      intro k h1 hrr hnn
      refine gx_iload3 (q := 35) hG d_M_row_34 rfl ?_
      refine gx_bipush (q := 37) hG d_M_row_35 rfl rfl ?_
      refine gx_icmp_ge (tgt := 58) (q := 40) hG d_M_row_37 rfl rfl (by omega) (by omega) (fun c37 => ?_) (fun c37 => ?_)
      · refine gx_iload2 (q := 59) hG d_M_row_58 rfl ?_
        refine gx_ireturn hG d_M_row_59 rfl rfl ?_
        refine ⟨_, rfl, _, rfl, ?_⟩
        unfold sp_row; rw [if_neg (by omega), if_neg (by omega)]
        refine PM_mk ?_ (fun b hb => by rw [wc_ne (by omega), wu_ne (by omega)])
        rw [show k = 60 by omega, aM_fr hrr (by rw [wu_ne (by omega)]), aM_rs hrr, sr_ss (by decide)]
      · exfalso; omega
    | succ j ih =>
      intro k h1 hrr hnn
      refine gx_iload3 (q := 35) hG d_M_row_34 rfl ?_
      refine gx_bipush (q := 37) hG d_M_row_35 rfl rfl ?_
      refine gx_icmp_ge (tgt := 58) (q := 40) hG d_M_row_37 rfl rfl (by omega) (by omega) (fun c37 => ?_) (fun c37 => ?_)
      · exfalso; omega
      · refine gx_aload0 (q := 41) hG d_M_row_40 rfl ?_
        refine gx_get (q := 44) hG f_M_16 hpM rfl d_M_row_41 rfl ?_
        refine gx_bipush (q := 46) hG d_M_row_44 rfl rfl ?_
        refine gx_iload1 (q := 47) hG d_M_row_46 rfl ?_
        refine gx_imul (q := 48) hG d_M_row_47 rfl ?_
        refine gx_iload3 (q := 49) hG d_M_row_48 rfl ?_
        refine gx_iadd (q := 50) hG d_M_row_49 rfl ?_
        refine gx_iconst (q := 51) hG d_M_row_50 rfl ?_
        refine gw_iast (q := 52) hG rfl (by omega) (by omega) d_M_row_51 rfl ?_
        rw [fillR_s]
        refine gx_iinc3 (q := 55) hG d_M_row_52 rfl rfl ?_
        refine gx_goto (tgt := 34) hG d_M_row_55 rfl ?_
        exact ih (k + 1) (by omega) hrr hnn
  refine gx_iload1 (q := 1) hG d_M_row_0 rfl ?_
  refine gw_S1X (q := 4) hG l_M_110 c_M_isRow (ev_M_isRow (by omega)) (by decide) (Nat.le_of_ble_eq_true rfl) d_M_row_1 rfl (by decide) ?_
  refine gx_if_eq (tgt := 13) (q := 7) hG d_M_row_4 rfl rfl (bi_R _) (fun c4 => ?_) (fun c4 => ?_)
  · have c4 := bi_eq0.mp c4
    refine gx_iconst (q := 14) hG d_M_row_13 rfl ?_
    refine gx_ireturn hG d_M_row_14 rfl rfl ?_
    refine ⟨_, rfl, _, rfl, ?_⟩
    unfold sp_row; rw [if_pos (by omega)]; exact PM_id
  · have c4 := bi_ne0.mp c4
    refine gx_iload2 (q := 8) hG d_M_row_7 rfl ?_
    refine gx_bipush (q := 10) hG d_M_row_8 rfl rfl ?_
    refine gx_icmp_le (tgt := 15) (q := 13) hG d_M_row_10 rfl rfl (by omega) (by omega) (fun c10 => ?_) (fun c10 => ?_)
    · refine gx_iload2 (q := 16) hG d_M_row_15 rfl ?_
      refine gx_if_ge (tgt := 25) (q := 19) hG d_M_row_16 rfl rfl (by omega) (fun c16 => ?_) (fun c16 => ?_)
      · refine gx_aload0 (q := 26) hG d_M_row_25 rfl ?_
        refine gx_get (q := 29) hG f_M_13 hpM rfl d_M_row_26 rfl ?_
        refine gx_iload1 (q := 30) hG d_M_row_29 rfl ?_
        refine gx_iload2 (q := 31) hG d_M_row_30 rfl ?_
        refine gw_iast (q := 32) hG rfl (by omega) (by omega) d_M_row_31 rfl ?_
        refine gx_iconst (q := 33) hG d_M_row_32 rfl ?_
        refine gx_istore3 (q := 34) hG d_M_row_33 rfl rfl ?_
        have e := L 60 0 (by omega) (by omega) (by omega)
        rw [← wu_ne (w := w) (a := 78) (i := r) (v := n) (show (79 : Int) ≠ 78 by omega), fillR_0] at e
        exact e
      · refine gx_aload0 (q := 20) hG d_M_row_19 rfl ?_
        refine gx_iconst (q := 21) hG d_M_row_20 rfl ?_
        refine gw_V1I (q := 24) hG l_M_114 c_M_meets (ev_M_meets (by omega)) hpM rfl (by decide) (Nat.le_of_ble_eq_true rfl) d_M_row_21 rfl (by decide) (fun z21 w h21 => ?_)
        refine gx_ireturn hG d_M_row_24 rfl rfl ?_
        refine ⟨_, rfl, _, rfl, ?_⟩
        unfold sp_row; rw [if_neg (by omega), if_pos (by omega)]; obtain ⟨rfl, rfl⟩ := h21; exact PM_fd (by omega)
    · refine gx_iconst (q := 14) hG d_M_row_13 rfl ?_
      refine gx_ireturn hG d_M_row_14 rfl rfl ?_
      refine ⟨_, rfl, _, rfl, ?_⟩
      unfold sp_row; rw [if_pos (by omega)]; exact PM_id
theorem ev_M_text {w : Mem} {r n : Int} (hO : OK (aM w)) (hr : R3 r) (hn : R3 n) : EvI y_M_text b_M_text 4 (some .int) (3) [Vr 76, Vi r, Vi n] w (PM w (sp_text (aM w) r n)) := by
  refine Ev.mk (isI := false) (by decide +kernel) nofun (Nat.le_of_ble_eq_true rfl) (fun G hG => ?_)
  show G 0 [some (Vr 76), some (Vi r), some (Vi n), none] [] 102 (hp w)
  have L : ∀ (j k : Nat), k + j = 60 → (0 ≤ r ∧ r < 4) → (0 ≤ n ∧ n ≤ 60) → G 34 [some (Vr 76), some (Vi r), some (Vi n), some (Vi (k : Int))] [] 102 (hp (wc (wu w 81 r n) 82 (fillR (60 * r) k (w 82) 32))) := by
    intro j
    induction j with
    | zero =>
      intro k h1 hrr hnn
      refine gx_iload3 (q := 35) hG d_M_text_34 rfl ?_
      refine gx_bipush (q := 37) hG d_M_text_35 rfl rfl ?_
      refine gx_icmp_ge (tgt := 59) (q := 40) hG d_M_text_37 rfl rfl (by omega) (by omega) (fun c37 => ?_) (fun c37 => ?_)
      · refine gx_iload2 (q := 60) hG d_M_text_59 rfl ?_
        refine gx_ireturn hG d_M_text_60 rfl rfl ?_
        refine ⟨_, rfl, _, rfl, ?_⟩
        unfold sp_text; rw [if_neg (by omega), if_neg (by omega)]
        refine PM_mk ?_ (fun b hb => by rw [wc_ne (by omega), wu_ne (by omega)])
        rw [show k = 60 by omega, aM_ft hrr (by rw [wu_ne (by omega)]), aM_ts hrr, sr_ss (by decide)]
      · exfalso; omega
    | succ j ih =>
      intro k h1 hrr hnn
      refine gx_iload3 (q := 35) hG d_M_text_34 rfl ?_
      refine gx_bipush (q := 37) hG d_M_text_35 rfl rfl ?_
      refine gx_icmp_ge (tgt := 59) (q := 40) hG d_M_text_37 rfl rfl (by omega) (by omega) (fun c37 => ?_) (fun c37 => ?_)
      · exfalso; omega
      · refine gx_aload0 (q := 41) hG d_M_text_40 rfl ?_
        refine gx_get (q := 44) hG f_M_25 hpM rfl d_M_text_41 rfl ?_
        refine gx_bipush (q := 46) hG d_M_text_44 rfl rfl ?_
        refine gx_iload1 (q := 47) hG d_M_text_46 rfl ?_
        refine gx_imul (q := 48) hG d_M_text_47 rfl ?_
        refine gx_iload3 (q := 49) hG d_M_text_48 rfl ?_
        refine gx_iadd (q := 50) hG d_M_text_49 rfl ?_
        refine gx_bipush (q := 52) hG d_M_text_50 rfl rfl ?_
        refine gw_bast (q := 53) hG rfl (by omega) (by omega) (by rfl) d_M_text_52 rfl ?_
        rw [fillR_s]
        refine gx_iinc3 (q := 56) hG d_M_text_53 rfl rfl ?_
        refine gx_goto (tgt := 34) hG d_M_text_56 rfl ?_
        exact ih (k + 1) (by omega) hrr hnn
  refine gx_iload1 (q := 1) hG d_M_text_0 rfl ?_
  refine gw_S1X (q := 4) hG l_M_124 c_M_isText (ev_M_isText (by omega)) (by decide) (Nat.le_of_ble_eq_true rfl) d_M_text_1 rfl (by decide) ?_
  refine gx_if_eq (tgt := 13) (q := 7) hG d_M_text_4 rfl rfl (bi_R _) (fun c4 => ?_) (fun c4 => ?_)
  · have c4 := bi_eq0.mp c4
    refine gx_iconst (q := 14) hG d_M_text_13 rfl ?_
    refine gx_ireturn hG d_M_text_14 rfl rfl ?_
    refine ⟨_, rfl, _, rfl, ?_⟩
    unfold sp_text; rw [if_pos (by omega)]; exact PM_id
  · have c4 := bi_ne0.mp c4
    refine gx_iload2 (q := 8) hG d_M_text_7 rfl ?_
    refine gx_bipush (q := 10) hG d_M_text_8 rfl rfl ?_
    refine gx_icmp_le (tgt := 15) (q := 13) hG d_M_text_10 rfl rfl (by omega) (by omega) (fun c10 => ?_) (fun c10 => ?_)
    · refine gx_iload2 (q := 16) hG d_M_text_15 rfl ?_
      refine gx_if_ge (tgt := 25) (q := 19) hG d_M_text_16 rfl rfl (by omega) (fun c16 => ?_) (fun c16 => ?_)
      · refine gx_aload0 (q := 26) hG d_M_text_25 rfl ?_
        refine gx_get (q := 29) hG f_M_22 hpM rfl d_M_text_26 rfl ?_
        refine gx_iload1 (q := 30) hG d_M_text_29 rfl ?_
        refine gx_iload2 (q := 31) hG d_M_text_30 rfl ?_
        refine gw_iast (q := 32) hG rfl (by omega) (by omega) d_M_text_31 rfl ?_
        refine gx_iconst (q := 33) hG d_M_text_32 rfl ?_
        refine gx_istore3 (q := 34) hG d_M_text_33 rfl rfl ?_
        have e := L 60 0 (by omega) (by omega) (by omega)
        rw [← wu_ne (w := w) (a := 81) (i := r) (v := n) (show (82 : Int) ≠ 81 by omega), fillR_0] at e
        exact e
      · refine gx_aload0 (q := 20) hG d_M_text_19 rfl ?_
        refine gx_iconst (q := 21) hG d_M_text_20 rfl ?_
        refine gw_V1I (q := 24) hG l_M_114 c_M_meets (ev_M_meets (by omega)) hpM rfl (by decide) (Nat.le_of_ble_eq_true rfl) d_M_text_21 rfl (by decide) (fun z21 w h21 => ?_)
        refine gx_ireturn hG d_M_text_24 rfl rfl ?_
        refine ⟨_, rfl, _, rfl, ?_⟩
        unfold sp_text; rw [if_neg (by omega), if_pos (by omega)]; obtain ⟨rfl, rfl⟩ := h21; exact PM_fd (by omega)
    · refine gx_iconst (q := 14) hG d_M_text_13 rfl ?_
      refine gx_ireturn hG d_M_text_14 rfl rfl ?_
      refine ⟨_, rfl, _, rfl, ?_⟩
      unfold sp_text; rw [if_pos (by omega)]; exact PM_id
theorem ev_M_lay {w : Mem} {r i v : Int} (hO : OK (aM w)) (hr : R3 r) (hi : R3 i) : EvI y_M_lay b_M_lay 5 (some .int) (3) [Vr 76, Vi r, Vi i, Vi v] w (PM w (sp_lay (aM w) r i v)) := by
  refine Ev.mk (isI := false) (by decide +kernel) nofun (Nat.le_of_ble_eq_true rfl) (fun G hG => ?_)
  show G 0 [some (Vr 76), some (Vi r), some (Vi i), some (Vi v), none] [] 102 (hp w)
  refine gx_iload1 (q := 1) hG d_M_lay_0 rfl ?_
  refine gw_S1X (q := 4) hG l_M_110 c_M_isRow (ev_M_isRow (by omega)) (by decide) (Nat.le_of_ble_eq_true rfl) d_M_lay_1 rfl (by decide) ?_
  refine gx_if_ne (tgt := 9) (q := 7) hG d_M_lay_4 rfl rfl (bi_R _) (fun c4 => ?_) (fun c4 => ?_)
  · have c4 := bi_ne0.mp c4
    have hs := hO.m0 (r := r) (by omega)
    refine gx_aload0 (q := 10) hG d_M_lay_9 rfl ?_
    refine gx_get (q := 13) hG f_M_13 hpM rfl d_M_lay_10 rfl ?_
    refine gx_iload1 (q := 14) hG d_M_lay_13 rfl ?_
    refine gw_iald (q := 15) hG rfl (by omega) (by omega) d_M_lay_14 rfl ?_
    refine gx_if_ge (tgt := 24) (q := 18) hG d_M_lay_15 rfl rfl (by omega) (fun c15 => ?_) (fun c15 => ?_)
    · refine gx_iload2 (q := 25) hG d_M_lay_24 rfl ?_
      refine gx_iconst (q := 26) hG d_M_lay_25 rfl ?_
      refine gx_aload0 (q := 27) hG d_M_lay_26 rfl ?_
      refine gx_get (q := 30) hG f_M_13 hpM rfl d_M_lay_27 rfl ?_
      refine gx_iload1 (q := 31) hG d_M_lay_30 rfl ?_
      refine gw_iald (q := 32) hG rfl (by omega) (by omega) d_M_lay_31 rfl ?_
      refine gx_iconst (q := 33) hG d_M_lay_32 rfl ?_
      refine gx_isub (q := 34) hG d_M_lay_33 rfl ?_
      refine gw_S3X (q := 37) hG l_M_96 c_M_in (ev_M_in (by omega) (by omega) (by omega)) (by decide) (Nat.le_of_ble_eq_true rfl) d_M_lay_34 rfl (by decide) ?_
      refine gx_if_ne (tgt := 46) (q := 40) hG d_M_lay_37 rfl rfl (bi_R _) (fun c37 => ?_) (fun c37 => ?_)
      · have c37 := bi_ne0.mp c37
        refine gx_aload0 (q := 47) hG d_M_lay_46 rfl ?_
        refine gx_iload1 (q := 48) hG d_M_lay_47 rfl ?_
        refine gx_iload2 (q := 49) hG d_M_lay_48 rfl ?_
        refine gw_V2X (q := 52) hG l_M_118 c_M_rowAt (ev_M_rowAt (by omega) (by omega)) hpM rfl (by decide) (Nat.le_of_ble_eq_true rfl) d_M_lay_49 rfl (by decide) ?_
        refine gx_istore4 (q := 54) hG d_M_lay_52 rfl rfl ?_
        refine gx_aload0 (q := 55) hG d_M_lay_54 rfl ?_
        refine gx_get (q := 58) hG f_M_16 hpM rfl d_M_lay_55 rfl ?_
        refine gx_bipush (q := 60) hG d_M_lay_58 rfl rfl ?_
        refine gx_iload1 (q := 61) hG d_M_lay_60 rfl ?_
        refine gx_imul (q := 62) hG d_M_lay_61 rfl ?_
        refine gx_iload2 (q := 63) hG d_M_lay_62 rfl ?_
        refine gx_iadd (q := 64) hG d_M_lay_63 rfl ?_
        refine gx_iload3 (q := 65) hG d_M_lay_64 rfl ?_
        refine gw_iast (q := 66) hG rfl (by omega) (by omega) d_M_lay_65 rfl ?_
        refine gx_aload0 (q := 67) hG d_M_lay_66 rfl ?_
        refine gx_iload4 (q := 69) hG d_M_lay_67 rfl ?_
        refine gx_iconst (q := 70) hG d_M_lay_69 rfl ?_
        refine gw_V2I (q := 73) hG l_M_121 c_M_tells (ev_M_tells) hpM rfl (by decide) (Nat.le_of_ble_eq_true rfl) d_M_lay_70 rfl (by decide) (fun z70 w h70 => ?_)
        refine gx_ireturn hG d_M_lay_73 rfl rfl ?_
        refine ⟨_, rfl, _, rfl, ?_⟩
        unfold sp_lay; rw [if_neg (by omega), aM_at0 (by omega), if_neg (by omega), if_neg (by omega)]; obtain ⟨rfl, rfl⟩ := h70
        refine PM_mk ?_ (fun b hb => by rw [wu_ne (by omega), wu_ne (by omega)])
        rw [aM_u2, aM_rp (by omega), aM_at1 (by omega), ss_ss (by decide)]
      · have c37 := bi_eq0.mp c37
        refine gx_aload0 (q := 41) hG d_M_lay_40 rfl ?_
        refine gx_iconst (q := 42) hG d_M_lay_41 rfl ?_
        refine gw_V1I (q := 45) hG l_M_114 c_M_meets (ev_M_meets (by omega)) hpM rfl (by decide) (Nat.le_of_ble_eq_true rfl) d_M_lay_42 rfl (by decide) (fun z42 w h42 => ?_)
        refine gx_ireturn hG d_M_lay_45 rfl rfl ?_
        refine ⟨_, rfl, _, rfl, ?_⟩
        unfold sp_lay; rw [if_neg (by omega), aM_at0 (by omega), if_neg (by omega), if_pos (by omega)]; obtain ⟨rfl, rfl⟩ := h42; exact PM_fd (by omega)
    · refine gx_aload0 (q := 19) hG d_M_lay_18 rfl ?_
      refine gx_iconst (q := 20) hG d_M_lay_19 rfl ?_
      refine gw_V1I (q := 23) hG l_M_114 c_M_meets (ev_M_meets (by omega)) hpM rfl (by decide) (Nat.le_of_ble_eq_true rfl) d_M_lay_20 rfl (by decide) (fun z20 w h20 => ?_)
      refine gx_ireturn hG d_M_lay_23 rfl rfl ?_
      refine ⟨_, rfl, _, rfl, ?_⟩
      unfold sp_lay; rw [if_neg (by omega), aM_at0 (by omega), if_pos (by omega)]; obtain ⟨rfl, rfl⟩ := h20; exact PM_fd (by omega)
  · have c4 := bi_eq0.mp c4
    refine gx_iconst (q := 8) hG d_M_lay_7 rfl ?_
    refine gx_ireturn hG d_M_lay_8 rfl rfl ?_
    refine ⟨_, rfl, _, rfl, ?_⟩
    unfold sp_lay; rw [if_pos (by omega)]; exact PM_id
theorem ev_M_at {w : Mem} {r i : Int} (hO : OK (aM w)) (hr : R3 r) (hi : R3 i) : EvI y_M_at b_M_at 3 (some .int) (3) [Vr 76, Vi r, Vi i] w (PM w (sp_at (aM w) r i)) := by
  refine Ev.mk (isI := false) (by decide +kernel) nofun (Nat.le_of_ble_eq_true rfl) (fun G hG => ?_)
  show G 0 [some (Vr 76), some (Vi r), some (Vi i)] [] 102 (hp w)
  refine gx_iload1 (q := 1) hG d_M_at_0 rfl ?_
  refine gw_S1X (q := 4) hG l_M_110 c_M_isRow (ev_M_isRow (by omega)) (by decide) (Nat.le_of_ble_eq_true rfl) d_M_at_1 rfl (by decide) ?_
  refine gx_if_ne (tgt := 9) (q := 7) hG d_M_at_4 rfl rfl (bi_R _) (fun c4 => ?_) (fun c4 => ?_)
  · have c4 := bi_ne0.mp c4
    have hs := hO.m0 (r := r) (by omega)
    refine gx_aload0 (q := 10) hG d_M_at_9 rfl ?_
    refine gx_get (q := 13) hG f_M_13 hpM rfl d_M_at_10 rfl ?_
    refine gx_iload1 (q := 14) hG d_M_at_13 rfl ?_
    refine gw_iald (q := 15) hG rfl (by omega) (by omega) d_M_at_14 rfl ?_
    refine gx_if_ge (tgt := 24) (q := 18) hG d_M_at_15 rfl rfl (by omega) (fun c15 => ?_) (fun c15 => ?_)
    · refine gx_iload2 (q := 25) hG d_M_at_24 rfl ?_
      refine gx_iconst (q := 26) hG d_M_at_25 rfl ?_
      refine gx_aload0 (q := 27) hG d_M_at_26 rfl ?_
      refine gx_get (q := 30) hG f_M_13 hpM rfl d_M_at_27 rfl ?_
      refine gx_iload1 (q := 31) hG d_M_at_30 rfl ?_
      refine gw_iald (q := 32) hG rfl (by omega) (by omega) d_M_at_31 rfl ?_
      refine gx_iconst (q := 33) hG d_M_at_32 rfl ?_
      refine gx_isub (q := 34) hG d_M_at_33 rfl ?_
      refine gw_S3X (q := 37) hG l_M_96 c_M_in (ev_M_in (by omega) (by omega) (by omega)) (by decide) (Nat.le_of_ble_eq_true rfl) d_M_at_34 rfl (by decide) ?_
      refine gx_if_eq (tgt := 54) (q := 40) hG d_M_at_37 rfl rfl (bi_R _) (fun c37 => ?_) (fun c37 => ?_)
      · have c37 := bi_eq0.mp c37
        refine gx_aload0 (q := 55) hG d_M_at_54 rfl ?_
        refine gx_iconst (q := 56) hG d_M_at_55 rfl ?_
        refine gw_V1I (q := 59) hG l_M_114 c_M_meets (ev_M_meets (by omega)) hpM rfl (by decide) (Nat.le_of_ble_eq_true rfl) d_M_at_56 rfl (by decide) (fun z56 w h56 => ?_)
        refine gx_ireturn hG d_M_at_59 rfl rfl ?_
        refine ⟨_, rfl, _, rfl, ?_⟩
        unfold sp_at; rw [if_neg (by omega), aM_at0 (by omega), if_neg (by omega)]
        first
          | (rw [if_pos (by omega)]; obtain ⟨rfl, rfl⟩ := h56; exact PM_fd (by omega))
          | (rw [if_neg (by omega)]; obtain ⟨rfl, rfl⟩ := h48; refine PM_mk ?_ (fun b hb => by rw [wu_ne (by omega)]); rw [aM_u2, aM_at1 (by omega)])
      · have c37 := bi_ne0.mp c37
        refine gx_aload0 (q := 41) hG d_M_at_40 rfl ?_
        refine gx_aload0 (q := 42) hG d_M_at_41 rfl ?_
        refine gx_iload1 (q := 43) hG d_M_at_42 rfl ?_
        refine gx_iload2 (q := 44) hG d_M_at_43 rfl ?_
        refine gw_V2X (q := 47) hG l_M_118 c_M_rowAt (ev_M_rowAt (by omega) (by omega)) hpM rfl (by decide) (Nat.le_of_ble_eq_true rfl) d_M_at_44 rfl (by decide) ?_
        refine gx_iconst (q := 48) hG d_M_at_47 rfl ?_
        refine gw_V2I (q := 51) hG l_M_121 c_M_tells (ev_M_tells) hpM rfl (by decide) (Nat.le_of_ble_eq_true rfl) d_M_at_48 rfl (by decide) (fun z48 w h48 => ?_)
        refine gx_goto (tgt := 59) hG d_M_at_51 rfl ?_
        refine gx_ireturn hG d_M_at_59 rfl rfl ?_
        refine ⟨_, rfl, _, rfl, ?_⟩
        unfold sp_at; rw [if_neg (by omega), aM_at0 (by omega), if_neg (by omega)]
        first
          | (rw [if_pos (by omega)]; obtain ⟨rfl, rfl⟩ := h56; exact PM_fd (by omega))
          | (rw [if_neg (by omega)]; obtain ⟨rfl, rfl⟩ := h48; refine PM_mk ?_ (fun b hb => by rw [wu_ne (by omega)]); rw [aM_u2, aM_at1 (by omega)])
    · refine gx_aload0 (q := 19) hG d_M_at_18 rfl ?_
      refine gx_iconst (q := 20) hG d_M_at_19 rfl ?_
      refine gw_V1I (q := 23) hG l_M_114 c_M_meets (ev_M_meets (by omega)) hpM rfl (by decide) (Nat.le_of_ble_eq_true rfl) d_M_at_20 rfl (by decide) (fun z20 w h20 => ?_)
      refine gx_ireturn hG d_M_at_23 rfl rfl ?_
      refine ⟨_, rfl, _, rfl, ?_⟩
      unfold sp_at; rw [if_neg (by omega), aM_at0 (by omega), if_pos (by omega)]; obtain ⟨rfl, rfl⟩ := h20; exact PM_fd (by omega)
  · have c4 := bi_eq0.mp c4
    refine gx_iconst (q := 8) hG d_M_at_7 rfl ?_
    refine gx_ireturn hG d_M_at_8 rfl rfl ?_
    refine ⟨_, rfl, _, rfl, ?_⟩
    unfold sp_at; rw [if_pos (by omega)]; exact PM_id
theorem ev_M_tear {w : Mem} {r : Int} (hO : OK (aM w)) (hr : R3 r) : EvI y_M_tear b_M_tear 2 (some .int) (3) [Vr 76, Vi r] w (PM w (sp_tear (aM w) r)) := by
  refine Ev.mk (isI := false) (by decide +kernel) nofun (Nat.le_of_ble_eq_true rfl) (fun G hG => ?_)
  show G 0 [some (Vr 76), some (Vi r)] [] 102 (hp w)
  refine gx_iload1 (q := 1) hG d_M_tear_0 rfl ?_
  refine gw_S1X (q := 4) hG l_M_110 c_M_isRow (ev_M_isRow (by omega)) (by decide) (Nat.le_of_ble_eq_true rfl) d_M_tear_1 rfl (by decide) ?_
  refine gx_if_ne (tgt := 9) (q := 7) hG d_M_tear_4 rfl rfl (bi_R _) (fun c4 => ?_) (fun c4 => ?_)
  · have c4 := bi_ne0.mp c4
    have hs := hO.m0 (r := r) (by omega)
    refine gx_aload0 (q := 10) hG d_M_tear_9 rfl ?_
    refine gx_get (q := 13) hG f_M_13 hpM rfl d_M_tear_10 rfl ?_
    refine gx_iload1 (q := 14) hG d_M_tear_13 rfl ?_
    refine gw_iald (q := 15) hG rfl (by omega) (by omega) d_M_tear_14 rfl ?_
    refine gx_if_ge (tgt := 24) (q := 18) hG d_M_tear_15 rfl rfl (by omega) (fun c15 => ?_) (fun c15 => ?_)
    · refine gx_aload0 (q := 25) hG d_M_tear_24 rfl ?_
      refine gx_get (q := 28) hG f_M_13 hpM rfl d_M_tear_25 rfl ?_
      refine gx_iload1 (q := 29) hG d_M_tear_28 rfl ?_
      refine gx_iconst (q := 30) hG d_M_tear_29 rfl ?_
      refine gw_iast (q := 31) hG rfl (by omega) (by omega) d_M_tear_30 rfl ?_
      refine gx_iconst (q := 32) hG d_M_tear_31 rfl ?_
      refine gx_ireturn hG d_M_tear_32 rfl rfl ?_
      refine ⟨_, rfl, _, rfl, ?_⟩
      unfold sp_tear; rw [if_neg (by omega), aM_at0 (by omega), if_neg (by omega)]
      exact PM_mk (aM_rs (by omega)) (fun b hb => by rw [wu_ne (by omega)])
    · refine gx_aload0 (q := 19) hG d_M_tear_18 rfl ?_
      refine gx_iconst (q := 20) hG d_M_tear_19 rfl ?_
      refine gw_V1I (q := 23) hG l_M_114 c_M_meets (ev_M_meets (by omega)) hpM rfl (by decide) (Nat.le_of_ble_eq_true rfl) d_M_tear_20 rfl (by decide) (fun z20 w h20 => ?_)
      refine gx_ireturn hG d_M_tear_23 rfl rfl ?_
      refine ⟨_, rfl, _, rfl, ?_⟩
      unfold sp_tear; rw [if_neg (by omega), aM_at0 (by omega), if_pos (by omega)]; obtain ⟨rfl, rfl⟩ := h20; exact PM_fd (by omega)
  · have c4 := bi_eq0.mp c4
    refine gx_iconst (q := 8) hG d_M_tear_7 rfl ?_
    refine gx_ireturn hG d_M_tear_8 rfl rfl ?_
    refine ⟨_, rfl, _, rfl, ?_⟩
    unfold sp_tear; rw [if_pos (by omega)]; exact PM_id
theorem ev_M_put {w : Mem} {r i v : Int} (hO : OK (aM w)) (hr : R3 r) (hi : R3 i) : EvI y_M_put b_M_put 5 (some .int) (3) [Vr 76, Vi r, Vi i, Vi v] w (PM w (sp_put (aM w) r i v)) := by
  refine Ev.mk (isI := false) (by decide +kernel) nofun (Nat.le_of_ble_eq_true rfl) (fun G hG => ?_)
  show G 0 [some (Vr 76), some (Vi r), some (Vi i), some (Vi v), none] [] 102 (hp w)
  refine gx_iload1 (q := 1) hG d_M_put_0 rfl ?_
  refine gw_S1X (q := 4) hG l_M_124 c_M_isText (ev_M_isText (by omega)) (by decide) (Nat.le_of_ble_eq_true rfl) d_M_put_1 rfl (by decide) ?_
  refine gx_if_ne (tgt := 9) (q := 7) hG d_M_put_4 rfl rfl (bi_R _) (fun c4 => ?_) (fun c4 => ?_)
  · have c4 := bi_ne0.mp c4
    have hs := hO.m2 (r := r) (by omega)
    refine gx_aload0 (q := 10) hG d_M_put_9 rfl ?_
    refine gx_get (q := 13) hG f_M_22 hpM rfl d_M_put_10 rfl ?_
    refine gx_iload1 (q := 14) hG d_M_put_13 rfl ?_
    refine gw_iald (q := 15) hG rfl (by omega) (by omega) d_M_put_14 rfl ?_
    refine gx_if_ge (tgt := 24) (q := 18) hG d_M_put_15 rfl rfl (by omega) (fun c15 => ?_) (fun c15 => ?_)
    · refine gx_iload2 (q := 25) hG d_M_put_24 rfl ?_
      refine gx_iconst (q := 26) hG d_M_put_25 rfl ?_
      refine gx_aload0 (q := 27) hG d_M_put_26 rfl ?_
      refine gx_get (q := 30) hG f_M_22 hpM rfl d_M_put_27 rfl ?_
      refine gx_iload1 (q := 31) hG d_M_put_30 rfl ?_
      refine gw_iald (q := 32) hG rfl (by omega) (by omega) d_M_put_31 rfl ?_
      refine gx_iconst (q := 33) hG d_M_put_32 rfl ?_
      refine gx_isub (q := 34) hG d_M_put_33 rfl ?_
      refine gw_S3X (q := 37) hG l_M_96 c_M_in (ev_M_in (by omega) (by omega) (by omega)) (by decide) (Nat.le_of_ble_eq_true rfl) d_M_put_34 rfl (by decide) ?_
      refine gx_if_ne (tgt := 46) (q := 40) hG d_M_put_37 rfl rfl (bi_R _) (fun c37 => ?_) (fun c37 => ?_)
      · have c37 := bi_ne0.mp c37
        refine gx_aload0 (q := 47) hG d_M_put_46 rfl ?_
        refine gx_get (q := 50) hG f_M_25 hpM rfl d_M_put_47 rfl ?_
        refine gx_bipush (q := 52) hG d_M_put_50 rfl rfl ?_
        refine gx_iload1 (q := 53) hG d_M_put_52 rfl ?_
        refine gx_imul (q := 54) hG d_M_put_53 rfl ?_
        refine gx_iload2 (q := 55) hG d_M_put_54 rfl ?_
        refine gx_iadd (q := 56) hG d_M_put_55 rfl ?_
        refine gw_bald (q := 57) hG rfl (by omega) (by omega) d_M_put_56 rfl ?_
        refine gx_istore4 (q := 59) hG d_M_put_57 rfl rfl ?_
        refine gx_aload0 (q := 60) hG d_M_put_59 rfl ?_
        refine gx_get (q := 63) hG f_M_25 hpM rfl d_M_put_60 rfl ?_
        refine gx_bipush (q := 65) hG d_M_put_63 rfl rfl ?_
        refine gx_iload1 (q := 66) hG d_M_put_65 rfl ?_
        refine gx_imul (q := 67) hG d_M_put_66 rfl ?_
        refine gx_iload2 (q := 68) hG d_M_put_67 rfl ?_
        refine gx_iadd (q := 69) hG d_M_put_68 rfl ?_
        refine gx_iload3 (q := 70) hG d_M_put_69 rfl ?_
        refine gx_i2b (q := 71) hG (byI v) d_M_put_70 rfl ((by unfold byI; exact (Int32.ofInt_toInt _).symm)) ?_
        refine gw_bast (q := 72) hG rfl (by omega) (by omega) (nar_by) d_M_put_71 rfl ?_
        refine gx_sipush (q := 75) hG d_M_put_72 rfl rfl ?_
        refine gx_iload4 (q := 77) hG d_M_put_75 rfl ?_
        refine gx_iadd (q := 78) hG d_M_put_77 rfl ?_
        refine gx_ireturn hG d_M_put_78 rfl rfl ?_
        refine ⟨_, rfl, _, rfl, ?_⟩
        unfold sp_put; rw [if_neg (by omega), aM_at2 (by omega), if_neg (by omega), if_neg (by omega), aM_at3 (by omega), show w 82 (60 * r + i) + 1000 = 1000 + w 82 (60 * r + i) by omega]
        exact PM_mk (aM_tp (by omega)) (fun b hb => by rw [wu_ne (by omega)])
      · have c37 := bi_eq0.mp c37
        refine gx_aload0 (q := 41) hG d_M_put_40 rfl ?_
        refine gx_iconst (q := 42) hG d_M_put_41 rfl ?_
        refine gw_V1I (q := 45) hG l_M_114 c_M_meets (ev_M_meets (by omega)) hpM rfl (by decide) (Nat.le_of_ble_eq_true rfl) d_M_put_42 rfl (by decide) (fun z42 w h42 => ?_)
        refine gx_ireturn hG d_M_put_45 rfl rfl ?_
        refine ⟨_, rfl, _, rfl, ?_⟩
        unfold sp_put; rw [if_neg (by omega), aM_at2 (by omega), if_neg (by omega), if_pos (by omega)]; obtain ⟨rfl, rfl⟩ := h42; exact PM_fd (by omega)
    · refine gx_aload0 (q := 19) hG d_M_put_18 rfl ?_
      refine gx_iconst (q := 20) hG d_M_put_19 rfl ?_
      refine gw_V1I (q := 23) hG l_M_114 c_M_meets (ev_M_meets (by omega)) hpM rfl (by decide) (Nat.le_of_ble_eq_true rfl) d_M_put_20 rfl (by decide) (fun z20 w h20 => ?_)
      refine gx_ireturn hG d_M_put_23 rfl rfl ?_
      refine ⟨_, rfl, _, rfl, ?_⟩
      unfold sp_put; rw [if_neg (by omega), aM_at2 (by omega), if_pos (by omega)]; obtain ⟨rfl, rfl⟩ := h20; exact PM_fd (by omega)
  · have c4 := bi_eq0.mp c4
    refine gx_iconst (q := 8) hG d_M_put_7 rfl ?_
    refine gx_ireturn hG d_M_put_8 rfl rfl ?_
    refine ⟨_, rfl, _, rfl, ?_⟩
    unfold sp_put; rw [if_pos (by omega)]; exact PM_id
theorem ev_M_mean {w : Mem} {r : Int} (hO : OK (aM w)) (hr : R3 r) : EvI y_M_mean b_M_mean 5 (some .int) (3) [Vr 76, Vi r] w (PM w (sp_mean (aM w) r)) := by
  refine Ev.mk (isI := false) (by decide +kernel) nofun (Nat.le_of_ble_eq_true rfl) (fun G hG => ?_)
  show G 0 [some (Vr 76), some (Vi r), none, none, none] [] 102 (hp w)
  have L : ∀ (j k : Nat), (0 ≤ r ∧ r < 6) → 0 < w 78 r → (k : Int) + j = w 78 r → G 44 [some (Vr 76), some (Vi r), some (Vj (smF (aM w 1) (60 * r) k)), none, some (Vi (k : Int))] [] 102 (hp w) := by
    intro j
    induction j with
    | zero =>
      intro k hrr h0 h1
      have hs := hO.m0 hrr
      have hb := smF_bd (F := aM w 1) (x := 60 * r) k (fun i i0 i1 => by rw [aM_at1 (by omega)]; exact hO.m1 (by omega))
      refine gx_iload4 (q := 46) hG d_M_mean_44 rfl ?_
      refine gx_aload0 (q := 47) hG d_M_mean_46 rfl ?_
      refine gx_get (q := 50) hG f_M_13 hpM rfl d_M_mean_47 rfl ?_
      refine gx_iload1 (q := 51) hG d_M_mean_50 rfl ?_
      refine gw_iald (q := 52) hG rfl (by omega) (by omega) d_M_mean_51 rfl ?_
      refine gx_icmp_ge (tgt := 72) (q := 55) hG d_M_mean_52 rfl rfl (by omega) (by omega) (fun c52 => ?_) (fun c52 => ?_)
      · refine gx_aload0 (q := 73) hG d_M_mean_72 rfl ?_
        refine gx_lload2 (q := 74) hG d_M_mean_73 rfl ?_
        refine gx_aload0 (q := 75) hG d_M_mean_74 rfl ?_
        refine gx_get (q := 78) hG f_M_13 hpM rfl d_M_mean_75 rfl ?_
        refine gx_iload1 (q := 79) hG d_M_mean_78 rfl ?_
        refine gw_iald (q := 80) hG rfl (by omega) (by omega) d_M_mean_79 rfl ?_
        refine gx_i2l (q := 81) hG d_M_mean_80 rfl (by omega) ?_
        refine gx_ldiv (q := 82) hG d_M_mean_81 rfl (by omega) (by omega) (by omega) (by omega) ?_
        refine gx_l2i (q := 83) hG d_M_mean_82 rfl ?_
        refine gx_iconst (q := 84) hG d_M_mean_83 rfl ?_
        refine gw_V2I (q := 87) hG l_M_121 c_M_tells (ev_M_tells) hpM rfl (by decide) (Nat.le_of_ble_eq_true rfl) d_M_mean_84 rfl (by decide) (fun z84 w1 h84 => ?_)
        refine gx_ireturn hG d_M_mean_87 rfl rfl ?_
        refine ⟨_, rfl, _, rfl, ?_⟩
        unfold sp_mean
        rw [if_neg (by omega), aM_at0 hrr, if_neg (by omega), if_neg (by omega), show (w 78 r).toNat = k by omega]
        obtain ⟨rfl, rfl⟩ := h84
        exact PM_mk aM_u2 (fun b hb => by rw [wu_ne (by omega)])
      · exfalso; omega
    | succ j ih =>
      intro k hrr h0 h1
      have hs := hO.m0 hrr
      have hb := hO.m1 (r := 60 * r + k) (by omega)
      have e : w 79 (60 * r + k) = aM w 1 (60 * r + k) := (aM_at1 (w := w) (r := 60 * r + k) (by omega)).symm
      rw [e] at hb
      refine gx_iload4 (q := 46) hG d_M_mean_44 rfl ?_
      refine gx_aload0 (q := 47) hG d_M_mean_46 rfl ?_
      refine gx_get (q := 50) hG f_M_13 hpM rfl d_M_mean_47 rfl ?_
      refine gx_iload1 (q := 51) hG d_M_mean_50 rfl ?_
      refine gw_iald (q := 52) hG rfl (by omega) (by omega) d_M_mean_51 rfl ?_
      refine gx_icmp_ge (tgt := 72) (q := 55) hG d_M_mean_52 rfl rfl (by omega) (by omega) (fun c52 => ?_) (fun c52 => ?_)
      · exfalso; omega
      · refine gx_lload2 (q := 56) hG d_M_mean_55 rfl ?_
        refine gx_aload0 (q := 57) hG d_M_mean_56 rfl ?_
        refine gx_iload1 (q := 58) hG d_M_mean_57 rfl ?_
        refine gx_iload4 (q := 60) hG d_M_mean_58 rfl ?_
        refine gw_V2X (q := 63) hG l_M_118 c_M_rowAt (ev_M_rowAt (by omega) (by omega)) hpM rfl (by decide) (Nat.le_of_ble_eq_true rfl) d_M_mean_60 rfl (by decide) ?_
        rw [e]
        refine gx_i2l (q := 64) hG d_M_mean_63 rfl (by omega) ?_
        refine gx_ladd (q := 65) hG d_M_mean_64 rfl ?_
        refine gx_lstore2 (q := 66) hG d_M_mean_65 rfl rfl ?_
        refine gx_iinc4 (q := 69) hG d_M_mean_66 rfl rfl ?_
        refine gx_goto (tgt := 44) hG d_M_mean_69 rfl ?_
        exact ih (k + 1) hrr h0 (by omega)
  refine gx_iload1 (q := 1) hG d_M_mean_0 rfl ?_
  refine gw_S1X (q := 4) hG l_M_110 c_M_isRow (ev_M_isRow (by omega)) (by decide) (Nat.le_of_ble_eq_true rfl) d_M_mean_1 rfl (by decide) ?_
  refine gx_if_ne (tgt := 9) (q := 7) hG d_M_mean_4 rfl rfl (bi_R _) (fun c4 => ?_) (fun c4 => ?_)
  · have c4 := bi_ne0.mp c4
    have hs := hO.m0 (r := r) (by omega)
    refine gx_aload0 (q := 10) hG d_M_mean_9 rfl ?_
    refine gx_get (q := 13) hG f_M_13 hpM rfl d_M_mean_10 rfl ?_
    refine gx_iload1 (q := 14) hG d_M_mean_13 rfl ?_
    refine gw_iald (q := 15) hG rfl (by omega) (by omega) d_M_mean_14 rfl ?_
    refine gx_if_ge (tgt := 24) (q := 18) hG d_M_mean_15 rfl rfl (by omega) (fun c15 => ?_) (fun c15 => ?_)
    · refine gx_aload0 (q := 25) hG d_M_mean_24 rfl ?_
      refine gx_get (q := 28) hG f_M_13 hpM rfl d_M_mean_25 rfl ?_
      refine gx_iload1 (q := 29) hG d_M_mean_28 rfl ?_
      refine gw_iald (q := 30) hG rfl (by omega) (by omega) d_M_mean_29 rfl ?_
      refine gx_if_ne (tgt := 39) (q := 33) hG d_M_mean_30 rfl rfl (by omega) (fun c30 => ?_) (fun c30 => ?_)
      · refine gx_lconst (q := 40) hG 0 d_M_mean_39 rfl rfl ?_
        refine gx_lstore2 (q := 41) hG d_M_mean_40 rfl rfl ?_
        refine gx_iconst (q := 42) hG d_M_mean_41 rfl ?_
        refine gx_istore4 (q := 44) hG d_M_mean_42 rfl rfl ?_
        exact L (w 78 r).toNat 0 (by omega) (by omega) (by omega)
      · refine gx_aload0 (q := 34) hG d_M_mean_33 rfl ?_
        refine gx_iconst (q := 35) hG d_M_mean_34 rfl ?_
        refine gw_V1I (q := 38) hG l_M_114 c_M_meets (ev_M_meets (by omega)) hpM rfl (by decide) (Nat.le_of_ble_eq_true rfl) d_M_mean_35 rfl (by decide) (fun z35 w h35 => ?_)
        refine gx_ireturn hG d_M_mean_38 rfl rfl ?_
        refine ⟨_, rfl, _, rfl, ?_⟩
        unfold sp_mean; rw [if_neg (by omega), aM_at0 (by omega), if_neg (by omega), if_pos (by omega)]; obtain ⟨rfl, rfl⟩ := h35; exact PM_fd (by omega)
    · refine gx_aload0 (q := 19) hG d_M_mean_18 rfl ?_
      refine gx_iconst (q := 20) hG d_M_mean_19 rfl ?_
      refine gw_V1I (q := 23) hG l_M_114 c_M_meets (ev_M_meets (by omega)) hpM rfl (by decide) (Nat.le_of_ble_eq_true rfl) d_M_mean_20 rfl (by decide) (fun z20 w h20 => ?_)
      refine gx_ireturn hG d_M_mean_23 rfl rfl ?_
      refine ⟨_, rfl, _, rfl, ?_⟩
      unfold sp_mean; rw [if_neg (by omega), aM_at0 (by omega), if_pos (by omega)]; obtain ⟨rfl, rfl⟩ := h20; exact PM_fd (by omega)
  · have c4 := bi_eq0.mp c4
    refine gx_iconst (q := 8) hG d_M_mean_7 rfl ?_
    refine gx_ireturn hG d_M_mean_8 rfl rfl ?_
    refine ⟨_, rfl, _, rfl, ?_⟩
    unfold sp_mean; rw [if_pos (by omega)]; exact PM_id
theorem ev_M_copy {w : Mem} {r i t j n : Int} (hO : OK (aM w)) (hr : R3 r) (hi : R3 i) (ht : R3 t) (hjj : R3 j) (hn : R3 n) : EvI y_M_copy b_M_copy 7 (some .int) (3) [Vr 76, Vi r, Vi i, Vi t, Vi j, Vi n] w (PM w (sp_copy (aM w) r i t j n)) := by
  refine Ev.mk (isI := false) (by decide +kernel) nofun (Nat.le_of_ble_eq_true rfl) (fun G hG => ?_)
  show G 0 [some (Vr 76), some (Vi r), some (Vi i), some (Vi t), some (Vi j), some (Vi n), none] [] 102 (hp w)
  have L2 : ∀ (m k : Nat) (o : Option Value), (k : Int) + m = n → (0 ≤ r ∧ r < 6 ∧ 0 ≤ t ∧ t < 6) → (0 ≤ i ∧ 0 ≤ j ∧ i + n ≤ w 78 r ∧ j + n ≤ w 78 t) → G 136 [some (Vr 76), some (Vi r), some (Vi i), some (Vi t), some (Vi j), some (Vi n), some (Vi (k : Int))] [] 102 (hp (wc (wc w 80 (cpy (w 79) (w 80) (60 * r + i) 0 n)) 79 (cpy (fun x => w 79 (60 * r + i + x)) (w 79) 0 (60 * t + j) k))) := by
    intro m
    induction m with
    | zero =>
      intro k o h1 hrr hh
      have s1 := hO.m0 (r := r) (by omega)
      have s2 := hO.m0 (r := t) (by omega)
      refine gx_iload6 (q := 138) hG d_M_copy_136 rfl ?_
      refine gx_iload5 (q := 140) hG d_M_copy_138 rfl ?_
      refine gx_icmp_ge (tgt := 171) (q := 143) hG d_M_copy_140 rfl rfl (by omega) (by omega) (fun c140 => ?_) (fun c140 => ?_)
      · refine gx_iconst (q := 172) hG d_M_copy_171 rfl ?_
        refine gx_ireturn hG d_M_copy_172 rfl rfl ?_
        refine ⟨_, rfl, _, rfl, ?_⟩
        unfold sp_copy; rw [if_neg (by omega), if_neg (by omega), aM_at0 (by omega), aM_at0 (by omega), if_neg (by omega), if_neg (by omega)]
        refine PM_mk ?_ (fun b hb => by rw [wc_ne (by omega), wc_ne (by omega)])
        rw [← aM_80 (w := w) (F := cpy (w 79) (w 80) (60 * r + i) 0 n)]
        refine aM_c1 (fun x x0 x1 => ?_) (fun x hx => ?_)
        · unfold cpy cpyS
          rw [aM_80]
          by_cases h2 : 60 * t + j ≤ x ∧ x < 60 * t + j + n
          · rw [if_pos (by omega), if_pos h2, aM_at1 (by omega)]; show w 79 _ = _; rw [show 60 * r + i + (0 + (x - (60 * t + j))) = 60 * r + i + (x - (60 * t + j)) by omega]
          · rw [if_neg (by omega), if_neg h2, aM_at1 (by omega)]
        · unfold cpyS
          rw [if_neg (by omega), aM_o1 hx]
      · exfalso; omega
    | succ m ih =>
      intro k o h1 hrr hh
      have s1 := hO.m0 (r := r) (by omega)
      have s2 := hO.m0 (r := t) (by omega)
      refine gx_iload6 (q := 138) hG d_M_copy_136 rfl ?_
      refine gx_iload5 (q := 140) hG d_M_copy_138 rfl ?_
      refine gx_icmp_ge (tgt := 171) (q := 143) hG d_M_copy_140 rfl rfl (by omega) (by omega) (fun c140 => ?_) (fun c140 => ?_)
      · exfalso; omega
      · refine gx_aload0 (q := 144) hG d_M_copy_143 rfl ?_
        refine gx_get (q := 147) hG f_M_16 hpM rfl d_M_copy_144 rfl ?_
        refine gx_bipush (q := 149) hG d_M_copy_147 rfl rfl ?_
        refine gx_iload3 (q := 150) hG d_M_copy_149 rfl ?_
        refine gx_imul (q := 151) hG d_M_copy_150 rfl ?_
        refine gx_iload4 (q := 153) hG d_M_copy_151 rfl ?_
        refine gx_iadd (q := 154) hG d_M_copy_153 rfl ?_
        refine gx_iload6 (q := 156) hG d_M_copy_154 rfl ?_
        refine gx_iadd (q := 157) hG d_M_copy_156 rfl ?_
        refine gx_aload0 (q := 158) hG d_M_copy_157 rfl ?_
        refine gx_get (q := 161) hG f_M_19 hpM rfl d_M_copy_158 rfl ?_
        refine gx_iload6 (q := 163) hG d_M_copy_161 rfl ?_
        refine gw_iald (q := 164) hG rfl (by omega) (by omega) d_M_copy_163 rfl ?_
        rw [wc_ne (show (80 : Int) ≠ 79 by omega), wc_eq, show cpy (w 79) (w 80) (60 * r + i) 0 n k = (fun x => w 79 (60 * r + i + x)) (0 + k) from by show (if _ then _ else _) = _; rw [if_pos (by omega)]; show w 79 _ = w 79 _; rw [show 60 * r + i + ((k : Int) - 0) = 60 * r + i + (0 + k) by omega]]
        refine gw_iast (q := 165) hG rfl (by omega) (by omega) d_M_copy_164 rfl ?_
        rw [cpy_s]
        refine gx_iinc6 (q := 168) hG d_M_copy_165 rfl rfl ?_
        refine gx_goto (tgt := 136) hG d_M_copy_168 rfl ?_
        exact ih (k + 1) o (by omega) hrr hh
  have L1 : ∀ (m k : Nat) (o : Option Value), (k : Int) + m = n → (0 ≤ r ∧ r < 6 ∧ 0 ≤ t ∧ t < 6) → (0 ≤ i ∧ 0 ≤ j ∧ i + n ≤ w 78 r ∧ j + n ≤ w 78 t) → G 104 [some (Vr 76), some (Vi r), some (Vi i), some (Vi t), some (Vi j), some (Vi n), some (Vi (k : Int))] [] 102 (hp (wc w 80 (cpy (w 79) (w 80) (60 * r + i) 0 k))) := by
    intro m
    induction m with
    | zero =>
      intro k o h1 hrr hh
      have s1 := hO.m0 (r := r) (by omega)
      have s2 := hO.m0 (r := t) (by omega)
      refine gx_iload6 (q := 106) hG d_M_copy_104 rfl ?_
      refine gx_iload5 (q := 108) hG d_M_copy_106 rfl ?_
      refine gx_icmp_ge (tgt := 133) (q := 111) hG d_M_copy_108 rfl rfl (by omega) (by omega) (fun c108 => ?_) (fun c108 => ?_)
      · refine gx_iconst (q := 134) hG d_M_copy_133 rfl ?_
        refine gx_istore6 (q := 136) hG d_M_copy_134 rfl rfl ?_
        have e := L2 n.toNat 0 o (by omega) hrr hh
        rw [show ((k : Int)) = n by omega]
        have e3 : ∀ W F : _, wc W 79 (cpy F (W 79) 0 (60 * t + j) 0) = W := fun W F => cpy_0 (w := W) (a := 79)
        have e4 := e3 (wc w 80 (cpy (w 79) (w 80) (60 * r + i) 0 n)) (fun x => w 79 (60 * r + i + x))
        rw [wc_ne (show (79 : Int) ≠ 80 by omega)] at e4
        rw [show ((0 : Nat) : Int) = 0 from rfl, e4] at e
        exact e
      · exfalso; omega
    | succ m ih =>
      intro k o h1 hrr hh
      have s1 := hO.m0 (r := r) (by omega)
      have s2 := hO.m0 (r := t) (by omega)
      refine gx_iload6 (q := 106) hG d_M_copy_104 rfl ?_
      refine gx_iload5 (q := 108) hG d_M_copy_106 rfl ?_
      refine gx_icmp_ge (tgt := 133) (q := 111) hG d_M_copy_108 rfl rfl (by omega) (by omega) (fun c108 => ?_) (fun c108 => ?_)
      · exfalso; omega
      · refine gx_aload0 (q := 112) hG d_M_copy_111 rfl ?_
        refine gx_get (q := 115) hG f_M_19 hpM rfl d_M_copy_112 rfl ?_
        refine gx_iload6 (q := 117) hG d_M_copy_115 rfl ?_
        refine gx_aload0 (q := 118) hG d_M_copy_117 rfl ?_
        refine gx_iload1 (q := 119) hG d_M_copy_118 rfl ?_
        refine gx_iload2 (q := 120) hG d_M_copy_119 rfl ?_
        refine gx_iload6 (q := 122) hG d_M_copy_120 rfl ?_
        refine gx_iadd (q := 123) hG d_M_copy_122 rfl ?_
        refine gw_V2X (q := 126) hG l_M_118 c_M_rowAt (ev_M_rowAt (by omega) (by omega)) hpM rfl (by decide) (Nat.le_of_ble_eq_true rfl) d_M_copy_123 rfl (by decide) ?_
        rw [wc_ne (show (79 : Int) ≠ 80 by omega), show 60 * r + (i + (k : Int)) = 60 * r + i + k by omega]
        refine gw_iast (q := 127) hG rfl (by omega) (by omega) d_M_copy_126 rfl ?_
        rw [show (wu (wc w 80 (cpy (w 79) (w 80) (60 * r + i) 0 k)) 80 k (w 79 (60 * r + i + k))) = wc w 80 (cpy (w 79) (w 80) (60 * r + i) 0 (k + 1 : Nat)) by rw [← cpy_s, show (0 : Int) + k = k by omega]]
        refine gx_iinc6 (q := 130) hG d_M_copy_127 rfl rfl ?_
        refine gx_goto (tgt := 104) hG d_M_copy_130 rfl ?_
        exact ih (k + 1) o (by omega) hrr hh
  refine gx_iload1 (q := 1) hG d_M_copy_0 rfl ?_
  refine gw_S1X (q := 4) hG l_M_110 c_M_isRow (ev_M_isRow (by omega)) (by decide) (Nat.le_of_ble_eq_true rfl) d_M_copy_1 rfl (by decide) ?_
  refine gx_if_eq (tgt := 14) (q := 7) hG d_M_copy_4 rfl rfl (bi_R _) (fun c4 => ?_) (fun c4 => ?_)
  · have c4 := bi_eq0.mp c4
    refine gx_iconst (q := 15) hG d_M_copy_14 rfl ?_
    refine gx_ireturn hG d_M_copy_15 rfl rfl ?_
    refine ⟨_, rfl, _, rfl, ?_⟩
    unfold sp_copy; rw [if_pos (by omega)]; exact PM_id
  · have c4 := bi_ne0.mp c4
    refine gx_iload3 (q := 8) hG d_M_copy_7 rfl ?_
    refine gw_S1X (q := 11) hG l_M_110 c_M_isRow (ev_M_isRow (by omega)) (by decide) (Nat.le_of_ble_eq_true rfl) d_M_copy_8 rfl (by decide) ?_
    refine gx_if_ne (tgt := 16) (q := 14) hG d_M_copy_11 rfl rfl (bi_R _) (fun c11 => ?_) (fun c11 => ?_)
    · have c11 := bi_ne0.mp c11
      refine gx_iload5 (q := 18) hG d_M_copy_16 rfl ?_
      refine gx_if_ge (tgt := 27) (q := 21) hG d_M_copy_18 rfl rfl (by omega) (fun c18 => ?_) (fun c18 => ?_)
      · have s1 := hO.m0 (r := r) (by omega)
        have s2 := hO.m0 (r := t) (by omega)
        refine gx_aload0 (q := 28) hG d_M_copy_27 rfl ?_
        refine gx_get (q := 31) hG f_M_13 hpM rfl d_M_copy_28 rfl ?_
        refine gx_iload1 (q := 32) hG d_M_copy_31 rfl ?_
        refine gw_iald (q := 33) hG rfl (by omega) (by omega) d_M_copy_32 rfl ?_
        refine gx_if_lt (tgt := 45) (q := 36) hG d_M_copy_33 rfl rfl (by omega) (fun c33 => ?_) (fun c33 => ?_)
        · refine gx_aload0 (q := 46) hG d_M_copy_45 rfl ?_
          refine gx_iconst (q := 47) hG d_M_copy_46 rfl ?_
          refine gw_V1I (q := 50) hG l_M_114 c_M_meets (ev_M_meets (by omega)) hpM rfl (by decide) (Nat.le_of_ble_eq_true rfl) d_M_copy_47 rfl (by decide) (fun z47 w h47 => ?_)
          refine gx_ireturn hG d_M_copy_50 rfl rfl ?_
          refine ⟨_, rfl, _, rfl, ?_⟩
          unfold sp_copy; rw [if_neg (by omega), if_neg (by omega), aM_at0 (by omega), aM_at0 (by omega), if_pos (by omega)]; obtain ⟨rfl, rfl⟩ := h47; exact PM_fd (by omega)
        · refine gx_aload0 (q := 37) hG d_M_copy_36 rfl ?_
          refine gx_get (q := 40) hG f_M_13 hpM rfl d_M_copy_37 rfl ?_
          refine gx_iload3 (q := 41) hG d_M_copy_40 rfl ?_
          refine gw_iald (q := 42) hG rfl (by omega) (by omega) d_M_copy_41 rfl ?_
          refine gx_if_ge (tgt := 51) (q := 45) hG d_M_copy_42 rfl rfl (by omega) (fun c42 => ?_) (fun c42 => ?_)
          · refine gx_iload2 (q := 52) hG d_M_copy_51 rfl ?_
            refine gx_if_lt (tgt := 95) (q := 55) hG d_M_copy_52 rfl rfl (by omega) (fun c52 => ?_) (fun c52 => ?_)
            · refine gx_aload0 (q := 96) hG d_M_copy_95 rfl ?_
              refine gx_iconst (q := 97) hG d_M_copy_96 rfl ?_
              refine gw_V1I (q := 100) hG l_M_114 c_M_meets (ev_M_meets (by omega)) hpM rfl (by decide) (Nat.le_of_ble_eq_true rfl) d_M_copy_97 rfl (by decide) (fun z97 w h97 => ?_)
              refine gx_ireturn hG d_M_copy_100 rfl rfl ?_
              refine ⟨_, rfl, _, rfl, ?_⟩
              unfold sp_copy; rw [if_neg (by omega), if_neg (by omega), aM_at0 (by omega), aM_at0 (by omega), if_neg (by omega), if_pos (by omega)]; obtain ⟨rfl, rfl⟩ := h97; exact PM_fd (by omega)
            · refine gx_iload4 (q := 57) hG d_M_copy_55 rfl ?_
              refine gx_if_lt (tgt := 95) (q := 60) hG d_M_copy_57 rfl rfl (by omega) (fun c57 => ?_) (fun c57 => ?_)
              · refine gx_aload0 (q := 96) hG d_M_copy_95 rfl ?_
                refine gx_iconst (q := 97) hG d_M_copy_96 rfl ?_
                refine gw_V1I (q := 100) hG l_M_114 c_M_meets (ev_M_meets (by omega)) hpM rfl (by decide) (Nat.le_of_ble_eq_true rfl) d_M_copy_97 rfl (by decide) (fun z97 w h97 => ?_)
                refine gx_ireturn hG d_M_copy_100 rfl rfl ?_
                refine ⟨_, rfl, _, rfl, ?_⟩
                unfold sp_copy; rw [if_neg (by omega), if_neg (by omega), aM_at0 (by omega), aM_at0 (by omega), if_neg (by omega), if_pos (by omega)]; obtain ⟨rfl, rfl⟩ := h97; exact PM_fd (by omega)
              · refine gx_iload2 (q := 61) hG d_M_copy_60 rfl ?_
                refine gx_i2l (q := 62) hG d_M_copy_61 rfl (by omega) ?_
                refine gx_iload5 (q := 64) hG d_M_copy_62 rfl ?_
                refine gx_i2l (q := 65) hG d_M_copy_64 rfl (by omega) ?_
                refine gx_ladd (q := 66) hG d_M_copy_65 rfl ?_
                refine gx_aload0 (q := 67) hG d_M_copy_66 rfl ?_
                refine gx_get (q := 70) hG f_M_13 hpM rfl d_M_copy_67 rfl ?_
                refine gx_iload1 (q := 71) hG d_M_copy_70 rfl ?_
                refine gw_iald (q := 72) hG rfl (by omega) (by omega) d_M_copy_71 rfl ?_
                refine gx_i2l (q := 73) hG d_M_copy_72 rfl (by omega) ?_
                refine gx_lcmp (q := 74) hG d_M_copy_73 rfl (by omega) (by omega) ?_
                refine gx_if_gt (tgt := 95) (q := 77) hG d_M_copy_74 rfl rfl (cmp3_R _ _) (fun c74 => ?_) (fun c74 => ?_)
                · have c74 := cmp3_gt.mp c74
                  refine gx_aload0 (q := 96) hG d_M_copy_95 rfl ?_
                  refine gx_iconst (q := 97) hG d_M_copy_96 rfl ?_
                  refine gw_V1I (q := 100) hG l_M_114 c_M_meets (ev_M_meets (by omega)) hpM rfl (by decide) (Nat.le_of_ble_eq_true rfl) d_M_copy_97 rfl (by decide) (fun z97 w h97 => ?_)
                  refine gx_ireturn hG d_M_copy_100 rfl rfl ?_
                  refine ⟨_, rfl, _, rfl, ?_⟩
                  unfold sp_copy; rw [if_neg (by omega), if_neg (by omega), aM_at0 (by omega), aM_at0 (by omega), if_neg (by omega), if_pos (by omega)]; obtain ⟨rfl, rfl⟩ := h97; exact PM_fd (by omega)
                · have c74 := cmp3_le.mp c74
                  refine gx_iload4 (q := 79) hG d_M_copy_77 rfl ?_
                  refine gx_i2l (q := 80) hG d_M_copy_79 rfl (by omega) ?_
                  refine gx_iload5 (q := 82) hG d_M_copy_80 rfl ?_
                  refine gx_i2l (q := 83) hG d_M_copy_82 rfl (by omega) ?_
                  refine gx_ladd (q := 84) hG d_M_copy_83 rfl ?_
                  refine gx_aload0 (q := 85) hG d_M_copy_84 rfl ?_
                  refine gx_get (q := 88) hG f_M_13 hpM rfl d_M_copy_85 rfl ?_
                  refine gx_iload3 (q := 89) hG d_M_copy_88 rfl ?_
                  refine gw_iald (q := 90) hG rfl (by omega) (by omega) d_M_copy_89 rfl ?_
                  refine gx_i2l (q := 91) hG d_M_copy_90 rfl (by omega) ?_
                  refine gx_lcmp (q := 92) hG d_M_copy_91 rfl (by omega) (by omega) ?_
                  refine gx_if_le (tgt := 101) (q := 95) hG d_M_copy_92 rfl rfl (cmp3_R _ _) (fun c92 => ?_) (fun c92 => ?_)
                  · have c92 := cmp3_le.mp c92
                    refine gx_iconst (q := 102) hG d_M_copy_101 rfl ?_
                    refine gx_istore6 (q := 104) hG d_M_copy_102 rfl rfl ?_
                    have e := L1 n.toNat 0 none (by omega) (by omega) (by omega)
                    rw [show ((0 : Nat) : Int) = 0 from rfl, cpy_0] at e
                    exact e
                  · have c92 := cmp3_gt.mp c92
                    refine gx_aload0 (q := 96) hG d_M_copy_95 rfl ?_
                    refine gx_iconst (q := 97) hG d_M_copy_96 rfl ?_
                    refine gw_V1I (q := 100) hG l_M_114 c_M_meets (ev_M_meets (by omega)) hpM rfl (by decide) (Nat.le_of_ble_eq_true rfl) d_M_copy_97 rfl (by decide) (fun z97 w h97 => ?_)
                    refine gx_ireturn hG d_M_copy_100 rfl rfl ?_
                    refine ⟨_, rfl, _, rfl, ?_⟩
                    unfold sp_copy; rw [if_neg (by omega), if_neg (by omega), aM_at0 (by omega), aM_at0 (by omega), if_neg (by omega), if_pos (by omega)]; obtain ⟨rfl, rfl⟩ := h97; exact PM_fd (by omega)
          · refine gx_aload0 (q := 46) hG d_M_copy_45 rfl ?_
            refine gx_iconst (q := 47) hG d_M_copy_46 rfl ?_
            refine gw_V1I (q := 50) hG l_M_114 c_M_meets (ev_M_meets (by omega)) hpM rfl (by decide) (Nat.le_of_ble_eq_true rfl) d_M_copy_47 rfl (by decide) (fun z47 w h47 => ?_)
            refine gx_ireturn hG d_M_copy_50 rfl rfl ?_
            refine ⟨_, rfl, _, rfl, ?_⟩
            unfold sp_copy; rw [if_neg (by omega), if_neg (by omega), aM_at0 (by omega), aM_at0 (by omega), if_pos (by omega)]; obtain ⟨rfl, rfl⟩ := h47; exact PM_fd (by omega)
      · refine gx_aload0 (q := 22) hG d_M_copy_21 rfl ?_
        refine gx_iconst (q := 23) hG d_M_copy_22 rfl ?_
        refine gw_V1I (q := 26) hG l_M_114 c_M_meets (ev_M_meets (by omega)) hpM rfl (by decide) (Nat.le_of_ble_eq_true rfl) d_M_copy_23 rfl (by decide) (fun z23 w h23 => ?_)
        refine gx_ireturn hG d_M_copy_26 rfl rfl ?_
        refine ⟨_, rfl, _, rfl, ?_⟩
        unfold sp_copy; rw [if_neg (by omega), if_pos (by omega)]; obtain ⟨rfl, rfl⟩ := h23; exact PM_fd (by omega)
    · have c11 := bi_eq0.mp c11
      refine gx_iconst (q := 15) hG d_M_copy_14 rfl ?_
      refine gx_ireturn hG d_M_copy_15 rfl rfl ?_
      refine ⟨_, rfl, _, rfl, ?_⟩
      unfold sp_copy; rw [if_pos (by omega)]; exact PM_id

