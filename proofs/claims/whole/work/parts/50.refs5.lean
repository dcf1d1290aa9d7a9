/-! part 50: the reference keeps -/
theorem aM_at8 {w : Mem} {k : Int} (hk : 0 ≤ k ∧ k < 3) : aM w 8 k = w 88 k := if_pos hk
theorem aM_at9 {w : Mem} {k : Int} (hk : 0 ≤ k ∧ k < 3) (h1 : 0 ≤ w 88 k) : aM w 9 k = w 89 k := if_pos ⟨hk.1, hk.2, h1⟩
theorem aM_at10 {w : Mem} {k i : Int} (hk : 0 ≤ k ∧ k < 3) (hi : 0 ≤ i ∧ i < 14) (h1 : i < w 88 k) : aM w 10 (14 * k + i) = w 90 (14 * k + i) := by
  show (if _ then _ else _) = _
  rw [show (14 * k + i) / 14 = k by omega, show (14 * k + i) % 14 = i by omega, if_pos ⟨by omega, by omega, h1⟩]
theorem aM_sk {w w' : Mem} {k : Int} (hk : 0 ≤ k ∧ k < 3) (h : ∀ b, b ≠ 88 → b ≠ 89 → b ≠ 90 → w' b = w b) (h8 : ∀ j, j ≠ k → w' 88 j = w 88 j) (h9 : ∀ j, j ≠ k → w' 89 j = w 89 j) (h0 : ∀ j, ¬ (14 * k ≤ j ∧ j < 14 * k + 14) → w' 90 j = w 90 j) (hp : 0 ≤ w' 88 k) : aM w' = sk (aM w) k (w' 89 k) (w' 88 k) (fun j => w' 90 (14 * k + j)) := by
  funext c i
  match c with
  | 0 => show (if 0 ≤ i ∧ i < 6 then w' 78 i else 0) = (if 0 ≤ i ∧ i < 6 then w 78 i else 0); rw [h 78 (by omega) (by omega) (by omega)]
  | 1 => show (if 0 ≤ i ∧ i < 360 then w' 79 i else 0) = (if 0 ≤ i ∧ i < 360 then w 79 i else 0); rw [h 79 (by omega) (by omega) (by omega)]
  | 2 => show (if 0 ≤ i ∧ i < 4 then w' 81 i else 0) = (if 0 ≤ i ∧ i < 4 then w 81 i else 0); rw [h 81 (by omega) (by omega) (by omega)]
  | 3 => show (if 0 ≤ i ∧ i < 240 then w' 82 i else 0) = (if 0 ≤ i ∧ i < 240 then w 82 i else 0); rw [h 82 (by omega) (by omega) (by omega)]
  | 4 =>
    show (if i = 0 then w' 76 11 else if i = 1 then w' 76 14 else if i = 2 then w' 76 12 else if i = 3 then w' 76 2 else if i = 4 then w' 76 3 else if i = 5 then w' 76 4 else if i = 6 then w' 76 0 else 0) = _
    rw [h 76 (by omega) (by omega) (by omega)]
    rfl
  | 5 => show (if 0 ≤ i ∧ i < w' 76 14 then w' 85 i else 0) = (if 0 ≤ i ∧ i < w 76 14 then w 85 i else 0); rw [h 76 (by omega) (by omega) (by omega), h 85 (by omega) (by omega) (by omega)]
  | 6 => show (if 0 ≤ i ∧ i < w' 76 12 then w' 84 i else 0) = (if 0 ≤ i ∧ i < w 76 12 then w 84 i else 0); rw [h 76 (by omega) (by omega) (by omega), h 84 (by omega) (by omega) (by omega)]
  | 7 => show (if 1 ≤ i ∧ i ≤ 5 then w' 77 i else 0) = (if 1 ≤ i ∧ i ≤ 5 then w 77 i else 0); rw [h 77 (by omega) (by omega) (by omega)]
  | 8 =>
    show (if 0 ≤ i ∧ i < 3 then w' 88 i else 0) = if (8 : Nat) = 8 ∧ i = k then w' 88 k else (if 0 ≤ i ∧ i < 3 then w 88 i else 0)
    by_cases e : i = k
    · subst e
      rw [if_pos hk, if_pos ⟨rfl, rfl⟩]
    · rw [h8 i e, if_neg (show ¬ ((8 : Nat) = 8 ∧ i = k) from fun q => e q.2)]
  | 9 =>
    show (if 0 ≤ i ∧ i < 3 ∧ 0 ≤ w' 88 i then w' 89 i else 0) = if (9 : Nat) = 9 ∧ i = k then w' 89 k else (if 0 ≤ i ∧ i < 3 ∧ 0 ≤ w 88 i then w 89 i else 0)
    by_cases e : i = k
    · subst e
      rw [if_pos ⟨hk.1, hk.2, hp⟩, if_pos ⟨rfl, rfl⟩]
    · rw [h8 i e, h9 i e, if_neg (show ¬ ((9 : Nat) = 9 ∧ i = k) from fun q => e q.2)]
  | 10 =>
    show (if 0 ≤ i ∧ i < 42 ∧ i % 14 < w' 88 (i / 14) then w' 90 i else 0) = if (10 : Nat) = 10 ∧ 14 * k ≤ i ∧ i < 14 * k + 14 then (if i - 14 * k < w' 88 k then w' 90 (14 * k + (i - 14 * k)) else 0) else (if 0 ≤ i ∧ i < 42 ∧ i % 14 < w 88 (i / 14) then w 90 i else 0)
    by_cases e : 14 * k ≤ i ∧ i < 14 * k + 14
    · rw [if_pos (c := (10 : Nat) = 10 ∧ 14 * k ≤ i ∧ i < 14 * k + 14) ⟨rfl, e⟩, show i / 14 = k by omega, show i % 14 = i - 14 * k by omega, show 14 * k + (i - 14 * k) = i by omega]
      by_cases e2 : i - 14 * k < w' 88 k
      · rw [if_pos ⟨by omega, by omega, e2⟩, if_pos e2]
      · rw [if_neg (fun q => e2 q.2.2), if_neg e2]
    · rw [if_neg (c := (10 : Nat) = 10 ∧ 14 * k ≤ i ∧ i < 14 * k + 14) (fun q => e q.2)]
      by_cases e3 : 0 ≤ i ∧ i < 42
      · rw [h8 (i / 14) (by omega), h0 i e]
      · rw [if_neg (fun q => e3 ⟨q.1, q.2.1⟩), if_neg (fun q => e3 ⟨q.1, q.2.1⟩)]
  | c + 11 => rfl
theorem ev_M_keep {w : Mem} {k : Int} (hO : OK (aM w)) (hk : R3 k) : EvI y_M_keep b_M_keep 3 (some .int) (2) [Vr 76, Vi k] w (PM w (sp_keep (aM w) k)) := by
  refine Ev.mk (isI := false) (by decide +kernel) nofun (Nat.le_of_ble_eq_true rfl) (fun G hG => ?_)
  show G 0 [some (Vr 76), some (Vi k), none] [] 102 (hp w)
  have hn := hO.nn
  have e1 : aM w 4 1 = w 76 14 := rfl
  rw [e1] at hn
  have eN : ∀ F, wc (wu (wu w 88 k (w 76 14)) 89 k (w 76 11)) 90 F 76 14 = w 76 14 := fun F => by rw [wc_ne (by omega), wu_ne (by omega), wu_ne (by omega)]
  have L : ∀ (j m : Nat), (m : Int) + j = w 76 14 → (0 ≤ k ∧ k < 3) → G 33 [some (Vr 76), some (Vi k), some (Vi (m : Int))] [] 102 (hp (wc (wu (wu w 88 k (w 76 14)) 89 k (w 76 11)) 90 (cpy (w 85) (w 90) 0 (14 * k) m))) := by
    intro j
    induction j with
    | zero =>
      intro m h1 hkk
      refine gx_iload2 (q := 34) hG d_M_keep_33 rfl ?_
      refine gx_aload0 (q := 35) hG d_M_keep_34 rfl ?_
      refine gx_get (q := 38) hG f_M_178 hpM rfl d_M_keep_35 rfl ?_
      rw [eN]
      refine gx_icmp_ge (tgt := 64) (q := 41) hG d_M_keep_38 rfl rfl (by omega) (by omega) (fun c38 => ?_) (fun c38 => ?_)
      · refine gx_aload0 (q := 65) hG d_M_keep_64 rfl ?_
        refine gx_get (q := 68) hG f_M_178 hpM rfl d_M_keep_65 rfl ?_
        rw [eN]
        refine gx_ireturn hG d_M_keep_68 rfl rfl ?_
        refine ⟨_, rfl, _, rfl, ?_⟩
        unfold sp_keep; rw [e1, if_neg (by omega)]
        refine PM_mk ?_ (fun b hb => by rw [wc_ne (by omega), wu_ne (by omega), wu_ne (by omega)])
        refine (aM_sk (w := w) hkk (fun b b8 b9 b0 => by rw [wc_ne b0, wu_ne b9, wu_ne b8]) (fun i hi => ?_) (fun i hi => ?_) (fun i hi => ?_) ?_).trans ?_
        · rw [wc_ne (by omega), wu_ne (by omega), wu_get, if_neg (fun q => hi q.2)]
        · rw [wc_ne (by omega), wu_get, if_neg (fun q => hi q.2), wu_ne (by omega)]
        · rw [wc_eq]; exact if_neg (by omega)
        · rw [wc_ne (by omega), wu_ne (by omega), wu_get, if_pos ⟨rfl, rfl⟩]; omega
        rw [wc_ne (show (89 : Int) ≠ 90 by omega), wc_ne (show (88 : Int) ≠ 90 by omega), wu_get, if_pos ⟨rfl, rfl⟩, wu_ne (show (88 : Int) ≠ 89 by omega), wu_get, if_pos ⟨rfl, rfl⟩, wc_eq]
        refine sk_cong (fun i i0 i1 => ?_)
        rw [aM_at5 ⟨i0, i1⟩]
        unfold cpy
        rw [if_pos (by omega), show 0 + (14 * k + i - 14 * k) = i by omega]
      · exfalso; omega
    | succ j ih =>
      intro m h1 hkk
      have e : wu (wc (wu (wu w 88 k (w 76 14)) 89 k (w 76 11)) 90 (cpy (w 85) (w 90) 0 (14 * k) m)) 90 (14 * k + m) (w 85 m) = wc (wu (wu w 88 k (w 76 14)) 89 k (w 76 11)) 90 (cpy (w 85) (w 90) 0 (14 * k) (m + 1 : Nat)) := by
        rw [← cpy_s, show (0 : Int) + m = m by omega]
      have e2 : wc (wu (wu w 88 k (w 76 14)) 89 k (w 76 11)) 90 (cpy (w 85) (w 90) 0 (14 * k) m) 85 m = w 85 m := by rw [wc_ne (by omega), wu_ne (by omega), wu_ne (by omega)]
      refine gx_iload2 (q := 34) hG d_M_keep_33 rfl ?_
      refine gx_aload0 (q := 35) hG d_M_keep_34 rfl ?_
      refine gx_get (q := 38) hG f_M_178 hpM rfl d_M_keep_35 rfl ?_
      rw [eN]
      refine gx_icmp_ge (tgt := 64) (q := 41) hG d_M_keep_38 rfl rfl (by omega) (by omega) (fun c38 => ?_) (fun c38 => ?_)
      · exfalso; omega
      · refine gx_aload0 (q := 42) hG d_M_keep_41 rfl ?_
        refine gx_get (q := 45) hG f_M_50 hpM rfl d_M_keep_42 rfl ?_
        refine gx_bipush (q := 47) hG d_M_keep_45 rfl rfl ?_
        refine gx_iload1 (q := 48) hG d_M_keep_47 rfl ?_
        refine gx_imul (q := 49) hG d_M_keep_48 rfl ?_
        refine gx_iload2 (q := 50) hG d_M_keep_49 rfl ?_
        refine gx_iadd (q := 51) hG d_M_keep_50 rfl ?_
        refine gx_aload0 (q := 52) hG d_M_keep_51 rfl ?_
        refine gx_get (q := 55) hG f_M_35 hpM rfl d_M_keep_52 rfl ?_
        refine gx_iload2 (q := 56) hG d_M_keep_55 rfl ?_
        refine gw_iald (q := 57) hG rfl (by omega) (by omega) d_M_keep_56 rfl ?_
        rw [e2]
        refine gw_iast (q := 58) hG rfl (by omega) (by omega) d_M_keep_57 rfl ?_
        rw [e]
        refine gx_iinc2 (q := 61) hG d_M_keep_58 rfl rfl ?_
        refine gx_goto (tgt := 33) hG d_M_keep_61 rfl ?_
        exact ih (m + 1) (by omega) hkk
  refine gx_iload1 (q := 1) hG d_M_keep_0 rfl ?_
  refine gx_iconst (q := 2) hG d_M_keep_1 rfl ?_
  refine gx_iconst (q := 3) hG d_M_keep_2 rfl ?_
  refine gw_S3X (q := 6) hG l_M_96 c_M_in (ev_M_in (by omega) (by omega) (by omega)) (by decide) (Nat.le_of_ble_eq_true rfl) d_M_keep_3 rfl (by decide) ?_
  refine gx_if_ne (tgt := 11) (q := 9) hG d_M_keep_6 rfl rfl (bi_R _) (fun c6 => ?_) (fun c6 => ?_)
  · have c6 := bi_ne0.mp c6
    refine gx_aload0 (q := 12) hG d_M_keep_11 rfl ?_
    refine gx_get (q := 15) hG f_M_44 hpM rfl d_M_keep_12 rfl ?_
    refine gx_iload1 (q := 16) hG d_M_keep_15 rfl ?_
    refine gx_aload0 (q := 17) hG d_M_keep_16 rfl ?_
    refine gx_get (q := 20) hG f_M_178 hpM rfl d_M_keep_17 rfl ?_
    refine gw_iast (q := 21) hG rfl (by omega) (by omega) d_M_keep_20 rfl ?_
    refine gx_aload0 (q := 22) hG d_M_keep_21 rfl ?_
    refine gx_get (q := 25) hG f_M_47 hpM rfl d_M_keep_22 rfl ?_
    refine gx_iload1 (q := 26) hG d_M_keep_25 rfl ?_
    refine gx_aload0 (q := 27) hG d_M_keep_26 rfl ?_
    refine gx_get (q := 30) hG f_M_172 hpM rfl d_M_keep_27 rfl ?_
    refine gw_iast (q := 31) hG rfl (by omega) (by omega) d_M_keep_30 rfl ?_
    refine gx_iconst (q := 32) hG d_M_keep_31 rfl ?_
    refine gx_istore2 (q := 33) hG d_M_keep_32 rfl rfl ?_
    have e := L (w 76 14).toNat 0 (by omega) (by omega)
    rw [show ((0 : Nat) : Int) = 0 from rfl, show w 90 = wu (wu w 88 k (w 76 14)) 89 k (w 76 11) 90 by rw [wu_ne (by omega), wu_ne (by omega)], cpy_0] at e
    exact e
  · have c6 := bi_eq0.mp c6
    refine gx_iconst (q := 10) hG d_M_keep_9 rfl ?_
    refine gx_ireturn hG d_M_keep_10 rfl rfl ?_
    refine ⟨_, rfl, _, rfl, ?_⟩
    unfold sp_keep; rw [if_pos (by omega)]; exact PM_id

