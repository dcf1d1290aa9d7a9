/-! part 63: the class Sums: its table -/
def TB (m : Int) (T : Int → Int) : Prop := ∀ r, 0 ≤ r → r < m → 0 ≤ T r ∧ T r ≤ 1048576
theorem LD_TB {law : Int} {num : Int → Int} {k : Nat} {m : Int} {T : Int → Int} (h : LD law num k m T) : TB m T := fun r r0 r1 => by
  rcases h.2.2.2 r r0 r1 with ⟨a, -⟩ | ⟨a, b, -, -⟩ <;> omega
theorem WID_TB {m n : Int} {T F : Int → Int} (h : WID m n T F) (hT : TB m T) : TB m F := fun r r0 r1 => by
  have := h.1 r r0 r1
  have := hT r r0 r1
  omega
theorem WID_congr {m n : Int} {T T' F : Int → Int} (hm : 1 ≤ m) (e : ∀ r, 0 ≤ r → r < m → T r = T' r) (h : WID m n T F) : WID m n T' F := by
  obtain ⟨a, b, c⟩ := h
  exact ⟨fun r r0 r1 => by rw [← e r r0 r1]; exact a r r0 r1, fun s t s0 s1 t0 => by rw [← e s s0 s1]; exact b s t s0 s1 t0, fun S s1 s2 r r0 r1 q => c S (fun r r0 r1 q => by rw [e r r0 r1] at q ⊢; exact s1 r r0 r1 q) s2 r r0 r1 q⟩
theorem ev_Su_widen {w : Mem} {a : Int} {m n : Nat} (ha : a = 20 ∨ a = 21) (hm : m ≤ 60) (hn : 1 ≤ n ∧ n ≤ 60) (hT : TB m (w a)) : EvV y_Su_widen b_Su_widen 9 none (2) [Vr a, Vi (m : Int), Vi (n : Int)] w (fun w' => (m = 0 ∧ w' = w) ∨ (1 ≤ m ∧ ∃ F, w' = wc w a F ∧ WID m n (w a) F)) := by
  refine Ev.mk (isI := false) (by decide +kernel) nofun (Nat.le_of_ble_eq_true rfl) (fun G hG => ?_)
  show G 0 [some (Vr a), some (Vi (m : Int)), some (Vi (n : Int)), none, none, none, none, none, none] [] 102 (hp w)
  have hs : shp a = some (0, 60) := by rcases ha with rfl | rfl <;> rfl
  -- round a ring
  have I : ∀ (i j ρ : Nat) (F : Int → Int) (o8 : Option Value), 1 ≤ m → j + i = 2 * (m / Nat.gcd m n) → ρ < Nat.gcd m n → one1 [o8] 0 = true → WI m n (w a) F → DR m n (Nat.gcd m n : Nat) ρ (w a) F → DC m n ρ j (w a) F → (∀ (F' : Int → Int) (h' j' : Int) (o8' : Option Value), one1 [o8'] 0 = true → WI m n (w a) F' → DR m n (Nat.gcd m n : Nat) ((ρ + 1 : Nat) : Int) (w a) F' → G 100 [some (Vr a), some (Vi (m : Int)), some (Vi (n : Int)), some (Vi (Nat.gcd m n : Nat)), some (Vi ((2 * (m / Nat.gcd m n) : Nat) : Int)), some (Vi (ρ : Int)), some (Vi h'), some (Vi j'), o8'] [] 102 (hp (wc w a F'))) → G 58 [some (Vr a), some (Vi (m : Int)), some (Vi (n : Int)), some (Vi (Nat.gcd m n : Nat)), some (Vi ((2 * (m / Nat.gcd m n) : Nat) : Int)), some (Vi (ρ : Int)), some (Vi (((ρ : Int) + j * n) % m)), some (Vi (j : Int)), o8] [] 102 (hp (wc w a F)) := by
    intro i
    induction i with
    | zero =>
      intro j ρ F o8 h0 h1 h2 g h3 h4 h5 hk
      have hdl : m / Nat.gcd m n ≤ m := Nat.div_le_self _ _
      refine gx_iload7 (q := 60) hG d_Su_widen_58 rfl ?_
      refine gx_iload4 (q := 62) hG d_Su_widen_60 rfl ?_
      refine gx_icmp_ge (tgt := 100) (q := 65) hG d_Su_widen_62 rfl rfl (by omega) (by omega) (fun c62 => ?_) (fun c62 => ?_)
      · exact hk F _ _ o8 g h3 (DR_next (by omega) (by omega) h4 (by rw [← show j = 2 * (m / Nat.gcd m n) by omega]; exact h5))
      · exfalso; omega
    | succ i ih =>
      intro j ρ F o8 h0 h1 h2 g h3 h4 h5 hk
      have hdl : m / Nat.gcd m n ≤ m := Nat.div_le_self _ _
      have hh := mod_in (m := (m : Int)) (by omega) ((ρ : Int) + j * n)
      obtain ⟨x, hx⟩ : ∃ x, x = ((ρ : Int) + j * n) % m := ⟨_, rfl⟩
      rw [← hx] at hh ⊢
      have hy := mod_in (m := (m : Int)) (by omega) (x + n)
      have b1 := h3.1 x hh.1 hh.2
      have b2 := hT x hh.1 hh.2
      have b3 := h3.1 _ hy.1 hy.2
      have b4 := hT _ hy.1 hy.2
      refine gx_iload7 (q := 60) hG d_Su_widen_58 rfl ?_
      refine gx_iload4 (q := 62) hG d_Su_widen_60 rfl ?_
      refine gx_icmp_ge (tgt := 100) (q := 65) hG d_Su_widen_62 rfl rfl (by omega) (by omega) (fun c62 => ?_) (fun c62 => ?_)
      · exfalso; omega
      · refine gx_iload6 (q := 67) hG d_Su_widen_65 rfl ?_
        refine gx_iload2 (q := 68) hG d_Su_widen_67 rfl ?_
        refine gx_iadd (q := 69) hG d_Su_widen_68 rfl ?_
        refine gx_iload1 (q := 70) hG d_Su_widen_69 rfl ?_
        refine gx_irem (q := 71) hG d_Su_widen_70 rfl (by omega) (by omega) (by omega) (by omega) ?_
        refine gx_istore8 (q := 73) hG d_Su_widen_71 rfl rfl ?_
        refine gx_aload0 (q := 74) hG d_Su_widen_73 rfl ?_
        refine gx_iload8 (q := 76) hG d_Su_widen_74 rfl ?_
        refine gx_aload0 (q := 77) hG d_Su_widen_76 rfl ?_
        refine gx_iload8 (q := 79) hG d_Su_widen_77 rfl ?_
        refine gw_iald (q := 80) hG hs (by omega) (by omega) d_Su_widen_79 rfl ?_
        rw [wc_eq]
        refine gx_aload0 (q := 81) hG d_Su_widen_80 rfl ?_
        refine gx_iload6 (q := 83) hG d_Su_widen_81 rfl ?_
        refine gw_iald (q := 84) hG hs (by omega) (by omega) d_Su_widen_83 rfl ?_
        rw [wc_eq]
        refine gx_iload2 (q := 85) hG d_Su_widen_84 rfl ?_
        refine gx_iadd (q := 86) hG d_Su_widen_85 rfl ?_
        refine gw_S2X (q := 89) hG l_Su_80 c_Ma_min (ev_Ma_min (by first | assumption | omega) (by first | assumption | omega)) (by decide) (Nat.le_of_ble_eq_true rfl) d_Su_widen_86 rfl (by decide) ?_
        refine gw_iast (q := 90) hG hs (by omega) (by omega) d_Su_widen_89 rfl ?_
        rw [wu_wcc]
        refine gx_iload8 (q := 92) hG d_Su_widen_90 rfl ?_
        refine gx_istore6 (q := 94) hG d_Su_widen_92 rfl rfl ?_
        refine gx_iinc7 (q := 97) hG d_Su_widen_94 rfl rfl ?_
        refine gx_goto (tgt := 58) hG d_Su_widen_97 rfl ?_
        have e := ih (j + 1) ρ (up F ((x + n) % m) (min (F ((x + n) % m)) (F x + n))) (some (Vi ((x + n) % m))) h0 (by omega) h2 rfl (WI_step (by omega) (by omega) hh h3) (DR_step h4) (by rw [hx]; exact DC_step (by omega) h3 h5) hk
        rw [← mod_step, ← hx] at e
        exact e
  have R : ∀ (i ρ : Nat) (F : Int → Int) (o6 o7 o8 : Option Value), 1 ≤ m → ρ + i = Nat.gcd m n → one1 [o6] 0 = true → one1 [o7] 0 = true → one1 [o8] 0 = true → WI m n (w a) F → DR m n (Nat.gcd m n : Nat) ρ (w a) F → G 39 [some (Vr a), some (Vi (m : Int)), some (Vi (n : Int)), some (Vi (Nat.gcd m n : Nat)), some (Vi ((2 * (m / Nat.gcd m n) : Nat) : Int)), some (Vi (ρ : Int)), o6, o7, o8] [] 102 (hp (wc w a F)) := by
    intro i
    induction i with
    | zero =>
      intro ρ F o6 o7 o8 h0 h1 g6 g7 g8 h3 h4
      have hgl := Nat.gcd_le_left n (show 0 < m by omega)
      refine gx_iload5 (q := 41) hG d_Su_widen_39 rfl ?_
      refine gx_iload3 (q := 42) hG d_Su_widen_41 rfl ?_
      refine gx_icmp_ge (tgt := 106) (q := 45) hG d_Su_widen_42 rfl rfl (by omega) (by omega) (fun c42 => ?_) (fun c42 => ?_)
      · refine gx_return hG d_Su_widen_106 rfl rfl ?_
        exact ⟨_, rfl, rfl, Or.inr ⟨h0, F, rfl, WID_of (by omega) h3 (by rw [show ρ = Nat.gcd m n by omega] at h4; exact h4)⟩⟩
      · exfalso; omega
    | succ i ih =>
      intro ρ F o6 o7 o8 h0 h1 g6 g7 g8 h3 h4
      have hgl := Nat.gcd_le_left n (show 0 < m by omega)
      have K : ∀ (F' : Int → Int) (h' j' : Int) (o8' : Option Value), one1 [o8'] 0 = true → WI m n (w a) F' → DR m n (Nat.gcd m n : Nat) ((ρ + 1 : Nat) : Int) (w a) F' → G 100 [some (Vr a), some (Vi (m : Int)), some (Vi (n : Int)), some (Vi (Nat.gcd m n : Nat)), some (Vi ((2 * (m / Nat.gcd m n) : Nat) : Int)), some (Vi (ρ : Int)), some (Vi h'), some (Vi j'), o8'] [] 102 (hp (wc w a F')) := by
        intro F' h' j' o8' q0 q1 q2
        refine gx_iinc5 (q := 103) hG d_Su_widen_100 rfl rfl ?_
        refine gx_goto (tgt := 39) hG d_Su_widen_103 rfl ?_
        exact ih (ρ + 1) F' _ _ o8' h0 (by omega) rfl rfl q0 q1 q2
      have e0 : ((ρ : Int) + ((0 : Nat) : Int) * n) % m = ρ := by
        rw [show (ρ : Int) + ((0 : Nat) : Int) * n = ρ by omega]
        exact Int.emod_eq_of_lt (by omega) (by omega)
      refine gx_iload5 (q := 41) hG d_Su_widen_39 rfl ?_
      refine gx_iload3 (q := 42) hG d_Su_widen_41 rfl ?_
      refine gx_icmp_ge (tgt := 106) (q := 45) hG d_Su_widen_42 rfl rfl (by omega) (by omega) (fun c42 => ?_) (fun c42 => ?_)
      · exfalso; omega
      · refine gx_iload5 (q := 47) hG d_Su_widen_45 rfl ?_
        refine gx_iload1 (q := 48) hG d_Su_widen_47 rfl ?_
        refine gx_icmp_ge (tgt := 106) (q := 51) hG d_Su_widen_48 rfl rfl (by omega) (by omega) (fun c48 => ?_) (fun c48 => ?_)
        · exfalso; omega
        · refine gx_iload5 (q := 53) hG d_Su_widen_51 rfl ?_
          refine gx_istore6 (q := 55) hG d_Su_widen_53 rfl rfl ?_
          refine gx_iconst (q := 56) hG d_Su_widen_55 rfl ?_
          refine gx_istore7 (q := 58) hG d_Su_widen_56 rfl rfl ?_
          have e := I (2 * (m / Nat.gcd m n)) 0 ρ F o8 h0 (by omega) (by omega) g8 h3 h4 (DC_in (by omega) h3) K
          rw [e0] at e
          exact e
  have hgp : 1 ≤ m → 0 < Nat.gcd m n ∧ Nat.gcd m n ≤ m := fun q => ⟨Nat.gcd_pos_of_pos_left _ (by omega), Nat.gcd_le_left n (by omega)⟩
  have e2 : 1 ≤ m → (2 * (m : Int)) / ((Nat.gcd m n : Nat) : Int) = ((2 * (m / Nat.gcd m n) : Nat) : Int) := fun q => by
    have hg := (hgp q).1
    obtain ⟨l, hl⟩ := Nat.gcd_dvd_left m n
    generalize Nat.gcd m n = g at hl hg ⊢
    rw [show m / g = l by rw [hl]; exact Nat.mul_div_cancel_left l hg, show (2 * (m : Int)) = (g : Int) * (2 * l) by rw [hl, Int.natCast_mul]; simp only [Int.mul_left_comm]]
    rw [Int.mul_ediv_cancel_left _ (by omega)]
    omega
  have ew : w = wc w a (w a) := by
    funext b
    show w b = if b = a then w a else w b
    split
    · rename_i h
      rw [h]
    · rfl
  refine gx_iload1 (q := 1) hG d_Su_widen_0 rfl ?_
  refine gx_iconst (q := 2) hG d_Su_widen_1 rfl ?_
  refine gx_icmp_lt (tgt := 16) (q := 5) hG d_Su_widen_2 rfl rfl (by omega) (by omega) (fun c2 => ?_) (fun c2 => ?_)
  · refine gx_return hG d_Su_widen_16 rfl rfl ?_
    exact ⟨_, rfl, rfl, Or.inl ⟨by omega, rfl⟩⟩
  · refine gx_iload1 (q := 6) hG d_Su_widen_5 rfl ?_
    refine gx_bipush (q := 8) hG d_Su_widen_6 rfl rfl ?_
    refine gx_icmp_gt (tgt := 16) (q := 11) hG d_Su_widen_8 rfl rfl (by omega) (by omega) (fun c8 => ?_) (fun c8 => ?_)
    · refine gx_return hG d_Su_widen_16 rfl rfl ?_
      exact ⟨_, rfl, rfl, Or.inl ⟨by omega, rfl⟩⟩
    · refine gx_iload2 (q := 12) hG d_Su_widen_11 rfl ?_
      refine gx_iconst (q := 13) hG d_Su_widen_12 rfl ?_
      refine gx_icmp_ge (tgt := 17) (q := 16) hG d_Su_widen_13 rfl rfl (by omega) (by omega) (fun c13 => ?_) (fun c13 => ?_)
      · refine gx_iload1 (q := 18) hG d_Su_widen_17 rfl ?_
        refine gx_iload2 (q := 19) hG d_Su_widen_18 rfl ?_
        have hg := hgp (by omega)
        refine gw_N2X (q := 22) hG n_Su_86 s_X_divisorOf c_X_divisorOf (ev_X_divisorOf (x := m) (y := n) (by omega) (by omega)) (by decide) (Nat.le_of_ble_eq_true rfl) d_Su_widen_19 rfl (by decide) ?_
        refine gx_istore3 (q := 23) hG d_Su_widen_22 rfl rfl ?_
        refine gx_iload3 (q := 24) hG d_Su_widen_23 rfl ?_
        refine gx_iconst (q := 25) hG d_Su_widen_24 rfl ?_
        refine gx_icmp_ge (tgt := 29) (q := 28) hG d_Su_widen_25 rfl rfl (by omega) (by omega) (fun c25 => ?_) (fun c25 => ?_)
        · refine gx_iconst (q := 30) hG d_Su_widen_29 rfl ?_
          refine gx_iload1 (q := 31) hG d_Su_widen_30 rfl ?_
          refine gx_imul (q := 32) hG d_Su_widen_31 rfl ?_
          refine gx_iload3 (q := 33) hG d_Su_widen_32 rfl ?_
          refine gx_idiv (q := 34) hG d_Su_widen_33 rfl (by omega) (by omega) (by omega) (by omega) ?_
          rw [e2 (by omega)]
          refine gx_istore4 (q := 36) hG d_Su_widen_34 rfl rfl ?_
          refine gx_iconst (q := 37) hG d_Su_widen_36 rfl ?_
          refine gx_istore5 (q := 39) hG d_Su_widen_37 rfl rfl ?_
          have e := R (Nat.gcd m n) 0 (w a) none none none (by omega) (by omega) rfl rfl rfl ⟨fun r r0 r1 => by have := hT r r0 r1; omega, fun S s1 s2 r r0 r1 q => s1 r r0 r1 q⟩ (fun s t s0 s1 t0 q => by have := Int.emod_nonneg s (show ((Nat.gcd m n : Nat) : Int) ≠ 0 by omega); omega)
          rw [← ew] at e
          exact e
        · exfalso; omega
      · refine gx_return hG d_Su_widen_16 rfl rfl ?_
        exact ⟨_, rfl, rfl, Or.inl ⟨by omega, rfl⟩⟩
theorem ev_Su_greatestOf {w : Mem} {a m : Int} (ha : a = 20 ∨ a = 21) (hm : 0 ≤ m ∧ m ≤ 60) (hT : TB m (w a)) : EvX y_Su_greatestOf b_Su_greatestOf 4 (some .int) (2) [Vr a, Vi m] w (Vi (gofT (w a) m)) := by
  refine Ev.mk (isI := false) (by decide +kernel) nofun (Nat.le_of_ble_eq_true rfl) (fun G hG => ?_)
  show G 0 [some (Vr a), some (Vi m), none, none] [] 102 (hp w)
  have hs : shp a = some (0, 60) := by rcases ha with rfl | rfl <;> rfl
  have hb : ∀ k : Nat, (k : Int) ≤ m → 0 ≤ mxT (w a) k ∧ mxT (w a) k ≤ 1048576 := fun k hk => by
    have h1 := mxT_ge (T := w a) k
    refine ⟨h1.1, ?_⟩
    rcases mxT_at (T := w a) k with q | ⟨r, r1, r2⟩
    · omega
    · have := hT r (by omega) (by omega)
      omega
  have L : ∀ (j k : Nat), 1 ≤ m → (k : Int) + j = m → G 18 [some (Vr a), some (Vi m), some (Vi (mxT (w a) k)), some (Vi (k : Int))] [] 102 (hp w) := by
    intro j
    induction j with
    | zero =>
      intro k h0 h1
      have b1 := hb k (by omega)
      have e1 : gofT (w a) m = if 1048576 ≤ mxT (w a) k then 1048576 else max 0 (mxT (w a) k - m) := by
        unfold gofT
        rw [if_neg (by omega), show m.toNat = k by omega]
      refine gx_iload3 (q := 19) hG d_Su_greatestOf_18 rfl ?_
      refine gx_iload1 (q := 20) hG d_Su_greatestOf_19 rfl ?_
      refine gx_icmp_ge (tgt := 37) (q := 23) hG d_Su_greatestOf_20 rfl rfl (by omega) (by omega) (fun c20 => ?_) (fun c20 => ?_)
      · refine gx_iload2 (q := 38) hG d_Su_greatestOf_37 rfl ?_
        refine gx_ldc (q := 40) hG (1048576) k_Su_34 d_Su_greatestOf_38 rfl rfl ?_
        refine gx_icmp_lt (tgt := 48) (q := 43) hG d_Su_greatestOf_40 rfl rfl (by omega) (by omega) (fun c40 => ?_) (fun c40 => ?_)
        · refine gx_iconst (q := 49) hG d_Su_greatestOf_48 rfl ?_
          refine gx_iload2 (q := 50) hG d_Su_greatestOf_49 rfl ?_
          refine gx_iload1 (q := 51) hG d_Su_greatestOf_50 rfl ?_
          refine gx_isub (q := 52) hG d_Su_greatestOf_51 rfl ?_
          refine gw_S2X (q := 55) hG l_Su_89 c_Ma_max (ev_Ma_max (by first | assumption | omega) (by first | assumption | omega)) (by decide) (Nat.le_of_ble_eq_true rfl) d_Su_greatestOf_52 rfl (by decide) ?_
          refine gx_ireturn hG d_Su_greatestOf_55 rfl rfl ?_
          first
            | exact ⟨_, rfl, by rw [e1, if_pos (by omega)], rfl⟩
            | exact ⟨_, rfl, by rw [e1, if_neg (by omega)], rfl⟩
        · refine gx_ldc (q := 45) hG (1048576) k_Su_34 d_Su_greatestOf_43 rfl rfl ?_
          refine gx_goto (tgt := 55) hG d_Su_greatestOf_45 rfl ?_
          refine gx_ireturn hG d_Su_greatestOf_55 rfl rfl ?_
          first
            | exact ⟨_, rfl, by rw [e1, if_pos (by omega)], rfl⟩
            | exact ⟨_, rfl, by rw [e1, if_neg (by omega)], rfl⟩
      · exfalso; omega
    | succ j ih =>
      intro k h0 h1
      have b1 := hb k (by omega)
      have b2 := hT k (by omega) (by omega)
      refine gx_iload3 (q := 19) hG d_Su_greatestOf_18 rfl ?_
      refine gx_iload1 (q := 20) hG d_Su_greatestOf_19 rfl ?_
      refine gx_icmp_ge (tgt := 37) (q := 23) hG d_Su_greatestOf_20 rfl rfl (by omega) (by omega) (fun c20 => ?_) (fun c20 => ?_)
      · exfalso; omega
      · refine gx_iload2 (q := 24) hG d_Su_greatestOf_23 rfl ?_
        refine gx_aload0 (q := 25) hG d_Su_greatestOf_24 rfl ?_
        refine gx_iload3 (q := 26) hG d_Su_greatestOf_25 rfl ?_
        refine gw_iald (q := 27) hG hs (by omega) (by omega) d_Su_greatestOf_26 rfl ?_
        refine gw_S2X (q := 30) hG l_Su_89 c_Ma_max (ev_Ma_max (by first | assumption | omega) (by first | assumption | omega)) (by decide) (Nat.le_of_ble_eq_true rfl) d_Su_greatestOf_27 rfl (by decide) ?_
        refine gx_istore2 (q := 31) hG d_Su_greatestOf_30 rfl rfl ?_
        refine gx_iinc3 (q := 34) hG d_Su_greatestOf_31 rfl rfl ?_
        refine gx_goto (tgt := 18) hG d_Su_greatestOf_34 rfl ?_
        exact ih (k + 1) h0 (by omega)
  refine gx_iload1 (q := 1) hG d_Su_greatestOf_0 rfl ?_
  refine gx_iconst (q := 2) hG d_Su_greatestOf_1 rfl ?_
  refine gx_icmp_lt (tgt := 11) (q := 5) hG d_Su_greatestOf_2 rfl rfl (by omega) (by omega) (fun c2 => ?_) (fun c2 => ?_)
  · refine gx_ldc (q := 13) hG (1048576) k_Su_34 d_Su_greatestOf_11 rfl rfl ?_
    refine gx_ireturn hG d_Su_greatestOf_13 rfl rfl ?_
    exact ⟨_, rfl, by unfold gofT; rw [if_pos (by omega)], rfl⟩
  · refine gx_iload1 (q := 6) hG d_Su_greatestOf_5 rfl ?_
    refine gx_bipush (q := 8) hG d_Su_greatestOf_6 rfl rfl ?_
    refine gx_icmp_le (tgt := 14) (q := 11) hG d_Su_greatestOf_8 rfl rfl (by omega) (by omega) (fun c8 => ?_) (fun c8 => ?_)
    · refine gx_iconst (q := 15) hG d_Su_greatestOf_14 rfl ?_
      refine gx_istore2 (q := 16) hG d_Su_greatestOf_15 rfl rfl ?_
      refine gx_iconst (q := 17) hG d_Su_greatestOf_16 rfl ?_
      refine gx_istore3 (q := 18) hG d_Su_greatestOf_17 rfl rfl ?_
      exact L m.toNat 0 (by omega) (by omega)
    · refine gx_ldc (q := 13) hG (1048576) k_Su_34 d_Su_greatestOf_11 rfl rfl ?_
      refine gx_ireturn hG d_Su_greatestOf_13 rfl rfl ?_
      exact ⟨_, rfl, by unfold gofT; rw [if_pos (by omega)], rfl⟩
theorem ev_Su_greatestGap {w : Mem} (hm : 0 ≤ w 19 2 ∧ w 19 2 ≤ 60) (hT : TB (w 19 2) (w 20)) : EvX y_Su_greatestGap b_Su_greatestGap 1 (some .int) (3) [Vr 19] w (Vi (gofT (w 20) (w 19 2))) := by
  refine Ev.mk (isI := false) (by decide +kernel) nofun (Nat.le_of_ble_eq_true rfl) (fun G hG => ?_)
  show G 0 [some (Vr 19)] [] 102 (hp w)
  refine gx_aload0 (q := 1) hG d_Su_greatestGap_0 rfl ?_
  refine gx_get (q := 4) hG f_Su_9 hpSu rfl d_Su_greatestGap_1 rfl ?_
  refine gx_aload0 (q := 5) hG d_Su_greatestGap_4 rfl ?_
  refine gx_get (q := 8) hG f_Su_30 hpSu rfl d_Su_greatestGap_5 rfl ?_
  refine gw_S2X (q := 11) hG l_Su_60 c_Su_greatestOf (ev_Su_greatestOf (Or.inl rfl) hm hT) (by decide) (Nat.le_of_ble_eq_true rfl) d_Su_greatestGap_8 rfl (by decide) ?_
  refine gx_ireturn hG d_Su_greatestGap_11 rfl rfl ?_
  exact ⟨_, rfl, rfl, rfl⟩
theorem gofT_bd {T : Int → Int} {m : Int} (hm : 0 ≤ m ∧ m ≤ 60) : 0 ≤ gofT T m ∧ gofT T m ≤ 1048576 := by
  have := mxT_ge (T := T) m.toNat
  unfold gofT
  split
  · omega
  · split
    · omega
    · omega
theorem ev_Su_isEndless {w : Mem} (hm : 0 ≤ w 19 2 ∧ w 19 2 ≤ 60) (hT : TB (w 19 2) (w 20)) : EvX y_Su_isEndless b_Su_isEndless 1 (some .boolean) (3) [Vr 19] w (Vi (bi (1048576 ≤ gofT (w 20) (w 19 2)))) := by
  refine Ev.mk (isI := false) (by decide +kernel) nofun (Nat.le_of_ble_eq_true rfl) (fun G hG => ?_)
  show G 0 [some (Vr 19)] [] 102 (hp w)
  have hb := gofT_bd (T := w 20) hm
  refine gx_aload0 (q := 1) hG d_Su_isEndless_0 rfl ?_
  refine gx_get (q := 4) hG f_Su_9 hpSu rfl d_Su_isEndless_1 rfl ?_
  refine gx_aload0 (q := 5) hG d_Su_isEndless_4 rfl ?_
  refine gx_get (q := 8) hG f_Su_30 hpSu rfl d_Su_isEndless_5 rfl ?_
  refine gw_S2X (q := 11) hG l_Su_60 c_Su_greatestOf (ev_Su_greatestOf (Or.inl rfl) hm hT) (by decide) (Nat.le_of_ble_eq_true rfl) d_Su_isEndless_8 rfl (by decide) ?_
  refine gx_ldc (q := 13) hG (1048576) k_Su_34 d_Su_isEndless_11 rfl rfl ?_
  refine gx_icmp_lt (tgt := 20) (q := 16) hG d_Su_isEndless_13 rfl rfl (by omega) (by omega) (fun c13 => ?_) (fun c13 => ?_)
  · refine gx_iconst (q := 21) hG d_Su_isEndless_20 rfl ?_
    refine gx_zreturn hG d_Su_isEndless_21 rfl rfl (by first | exact bi_01 _ | decide | omega) ?_
    refine ⟨w, rfl, ?_, rfl⟩; first | rfl | (rw [bi_t (by omega)]) | (rw [bi_f (by omega)])
  · refine gx_iconst (q := 17) hG d_Su_isEndless_16 rfl ?_
    refine gx_goto (tgt := 21) hG d_Su_isEndless_17 rfl ?_
    refine gx_zreturn hG d_Su_isEndless_21 rfl rfl (by first | exact bi_01 _ | decide | omega) ?_
    refine ⟨w, rfl, ?_, rfl⟩; first | rfl | (rw [bi_t (by omega)]) | (rw [bi_f (by omega)])
theorem ev_Su_gapCount {w : Mem} (hm : 0 ≤ w 19 2 ∧ w 19 2 ≤ 60) (hT : TB (w 19 2) (w 20)) : EvX y_Su_gapCount b_Su_gapCount 3 (some .int) (1) [Vr 19] w (Vi (scT (w 20) (w 19 2) (w 19 2).toNat)) := by
  refine Ev.mk (isI := false) (by decide +kernel) nofun (Nat.le_of_ble_eq_true rfl) (fun G hG => ?_)
  show G 0 [some (Vr 19), none, none] [] 102 (hp w)
  have L : ∀ (j k : Nat), (k : Int) + j = w 19 2 → G 4 [some (Vr 19), some (Vi (scT (w 20) (w 19 2) k)), some (Vi (k : Int))] [] 102 (hp w) := by
    intro j
    induction j with
    | zero =>
      intro k h1
      refine gx_iload2 (q := 5) hG d_Su_gapCount_4 rfl ?_
      refine gx_aload0 (q := 6) hG d_Su_gapCount_5 rfl ?_
      refine gx_get (q := 9) hG f_Su_30 hpSu rfl d_Su_gapCount_6 rfl ?_
      refine gx_icmp_ge (tgt := 38) (q := 12) hG d_Su_gapCount_9 rfl rfl (by omega) (by omega) (fun c9 => ?_) (fun c9 => ?_)
      · refine gx_iload1 (q := 39) hG d_Su_gapCount_38 rfl ?_
        refine gx_ireturn hG d_Su_gapCount_39 rfl rfl ?_
        exact ⟨_, rfl, by rw [show (w 19 2).toNat = k by omega], rfl⟩
      · exfalso; omega
    | succ j ih =>
      intro k h1
      have b2 := hT k (by omega) (by omega)
      refine gx_iload2 (q := 5) hG d_Su_gapCount_4 rfl ?_
      refine gx_aload0 (q := 6) hG d_Su_gapCount_5 rfl ?_
      refine gx_get (q := 9) hG f_Su_30 hpSu rfl d_Su_gapCount_6 rfl ?_
      refine gx_icmp_ge (tgt := 38) (q := 12) hG d_Su_gapCount_9 rfl rfl (by omega) (by omega) (fun c9 => ?_) (fun c9 => ?_)
      · exfalso; omega
      · refine gx_iload2 (q := 13) hG d_Su_gapCount_12 rfl ?_
        refine gx_bipush (q := 15) hG d_Su_gapCount_13 rfl rfl ?_
        refine gx_icmp_ge (tgt := 38) (q := 18) hG d_Su_gapCount_15 rfl rfl (by omega) (by omega) (fun c15 => ?_) (fun c15 => ?_)
        · exfalso; omega
        · refine gx_iload1 (q := 19) hG d_Su_gapCount_18 rfl ?_
          refine gx_aload0 (q := 20) hG d_Su_gapCount_19 rfl ?_
          refine gx_get (q := 23) hG f_Su_9 hpSu rfl d_Su_gapCount_20 rfl ?_
          refine gx_iload2 (q := 24) hG d_Su_gapCount_23 rfl ?_
          refine gw_iald (q := 25) hG rfl (by omega) (by omega) d_Su_gapCount_24 rfl ?_
          refine gx_aload0 (q := 26) hG d_Su_gapCount_25 rfl ?_
          refine gx_get (q := 29) hG f_Su_30 hpSu rfl d_Su_gapCount_26 rfl ?_
          refine gx_idiv (q := 30) hG d_Su_gapCount_29 rfl (by omega) (by omega) (by omega) (by omega) ?_
          refine gx_iadd (q := 31) hG d_Su_gapCount_30 rfl ?_
          refine gx_istore1 (q := 32) hG d_Su_gapCount_31 rfl rfl ?_
          refine gx_iinc2 (q := 35) hG d_Su_gapCount_32 rfl rfl ?_
          refine gx_goto (tgt := 4) hG d_Su_gapCount_35 rfl ?_
          exact ih (k + 1) (by omega)
  refine gx_iconst (q := 1) hG d_Su_gapCount_0 rfl ?_
  refine gx_istore1 (q := 2) hG d_Su_gapCount_1 rfl rfl ?_
  refine gx_iconst (q := 3) hG d_Su_gapCount_2 rfl ?_
  refine gx_istore2 (q := 4) hG d_Su_gapCount_3 rfl rfl ?_
  exact L (w 19 2).toNat 0 (by omega)
theorem ev_Su_isHad {w : Mem} {v : Int} (hm : 0 ≤ w 19 2 ∧ w 19 2 ≤ 60) (hT : TB (w 19 2) (w 20)) (hv : 1 ≤ v ∧ v ≤ 4000) : EvX y_Su_isHad b_Su_isHad 2 (some .boolean) (1) [Vr 19, Vi v] w (Vi (bi (1 ≤ w 19 2 ∧ w 20 (v % w 19 2) ≤ v))) := by
  refine Ev.mk (isI := false) (by decide +kernel) nofun (Nat.le_of_ble_eq_true rfl) (fun G hG => ?_)
  show G 0 [some (Vr 19), some (Vi v)] [] 102 (hp w)
  refine gx_aload0 (q := 1) hG d_Su_isHad_0 rfl ?_
  refine gx_get (q := 4) hG f_Su_30 hpSu rfl d_Su_isHad_1 rfl ?_
  refine gx_if_le (tgt := 30) (q := 7) hG d_Su_isHad_4 rfl rfl (by omega) (fun c4 => ?_) (fun c4 => ?_)
  · refine gx_iconst (q := 31) hG d_Su_isHad_30 rfl ?_
    refine gx_zreturn hG d_Su_isHad_31 rfl rfl (by first | exact bi_01 _ | decide | omega) ?_
    refine ⟨w, rfl, ?_, rfl⟩; first | rfl | (rw [bi_t (by omega)]) | (rw [bi_f (by omega)])
  · have hx := mod_in (m := w 19 2) (by omega) v
    have hb := hT _ hx.1 hx.2
    refine gx_iload1 (q := 8) hG d_Su_isHad_7 rfl ?_
    refine gx_if_le (tgt := 30) (q := 11) hG d_Su_isHad_8 rfl rfl (by omega) (fun c8 => ?_) (fun c8 => ?_)
    · exfalso; omega
    · refine gx_aload0 (q := 12) hG d_Su_isHad_11 rfl ?_
      refine gx_get (q := 15) hG f_Su_9 hpSu rfl d_Su_isHad_12 rfl ?_
      refine gx_iload1 (q := 16) hG d_Su_isHad_15 rfl ?_
      refine gx_aload0 (q := 17) hG d_Su_isHad_16 rfl ?_
      refine gx_get (q := 20) hG f_Su_30 hpSu rfl d_Su_isHad_17 rfl ?_
      refine gx_irem (q := 21) hG d_Su_isHad_20 rfl (by omega) (by omega) (by omega) (by omega) ?_
      refine gw_iald (q := 22) hG rfl (by omega) (by omega) d_Su_isHad_21 rfl ?_
      refine gx_iload1 (q := 23) hG d_Su_isHad_22 rfl ?_
      refine gx_icmp_gt (tgt := 30) (q := 26) hG d_Su_isHad_23 rfl rfl (by omega) (by omega) (fun c23 => ?_) (fun c23 => ?_)
      · refine gx_iconst (q := 31) hG d_Su_isHad_30 rfl ?_
        refine gx_zreturn hG d_Su_isHad_31 rfl rfl (by first | exact bi_01 _ | decide | omega) ?_
        refine ⟨w, rfl, ?_, rfl⟩; first | rfl | (rw [bi_t (by omega)]) | (rw [bi_f (by omega)])
      · refine gx_iconst (q := 27) hG d_Su_isHad_26 rfl ?_
        refine gx_goto (tgt := 31) hG d_Su_isHad_27 rfl ?_
        refine gx_zreturn hG d_Su_isHad_31 rfl rfl (by first | exact bi_01 _ | decide | omega) ?_
        refine ⟨w, rfl, ?_, rfl⟩; first | rfl | (rw [bi_t (by omega)]) | (rw [bi_f (by omega)])
theorem ev_Su_load {w : Mem} (h : GI w 3) : EvV y_Su_load b_Su_load 3 none (3) [Vr 19, Vr 3] w (fun w' => (∀ b, b ≠ 19 → b ≠ 20 → w' b = w b) ∧ LD (w 3 2) (w 4) (w 3 1).toNat (w' 19 2) (w' 20) ∧ (w 3 2 = 0 → 1 ≤ w 3 1 → w' 19 2 = w 4 0 ∧ TL (w 4) (w 3 1).toNat (w' 20)) ∧ (w 3 2 = 0 → w 3 1 = 0 → w' 19 2 = 0)) := by
  refine Ev.mk (isI := false) (by decide +kernel) nofun (Nat.le_of_ble_eq_true rfl) (fun G hG => ?_)
  show G 0 [some (Vr 19), some (Vr 3), none] [] 102 (hp w)
  have hsz := h.2.1
  have hn : ∀ i : Int, 0 ≤ i → i < w 3 1 → 1 ≤ w 4 i ∧ w 4 i ≤ 60 := h.2.2.2.1
  have hlw := h.2.2.1
  have hnN : ∀ i : Int, 0 ≤ i → i < ((w 3 1).toNat : Int) → 1 ≤ w 4 i ∧ w 4 i ≤ 60 := fun i i0 i1 => hn i i0 (by omega)
  have L : ∀ (j i : Nat) (W : Mem), (i : Int) + j = w 3 1 → 1 ≤ i → w 3 2 = 0 → (∀ b, b ≠ 19 → b ≠ 20 → W b = w b) → W 19 2 = w 4 0 → TL (w 4) i (W 20) → G 73 [some (Vr 19), some (Vr 3), some (Vi (i : Int))] [] 102 (hp W) := by
    intro j
    induction j with
    | zero =>
      intro i W h1 h2 h0 h3 h4 h5
      have e1 : W 3 1 = w 3 1 := by rw [h3 3 (by omega) (by omega)]
      refine gx_iload2 (q := 74) hG d_Su_load_73 rfl ?_
      refine gx_aload1 (q := 75) hG d_Su_load_74 rfl ?_
      refine gx_get (q := 78) hG f_Su_50 (hpGame (by unfold isG; omega)) rfl d_Su_load_75 rfl ?_
      rw [e1]
      refine gx_icmp_ge (tgt := 104) (q := 81) hG d_Su_load_78 rfl rfl (by omega) (by omega) (fun c78 => ?_) (fun c78 => ?_)
      · refine gx_return hG d_Su_load_104 rfl rfl ?_
        refine ⟨_, rfl, rfl, h3, ?_, fun _ _ => ⟨h4, ?_⟩, fun _ _ => by omega⟩
        · rw [h4, h0, show (w 3 1).toNat = i by omega]
          exact LD_of (by omega) (fun x x0 x1 => hn x x0 (by omega)) h5
        · rw [show (w 3 1).toNat = i by omega]
          exact h5
      · exfalso; omega
    | succ j ih =>
      intro i W h1 h2 h0 h3 h4 h5
      have e1 : W 3 1 = w 3 1 := by rw [h3 3 (by omega) (by omega)]
      have hi := hn i (by omega) (by omega)
      have hi0 := hn 0 (by omega) (by omega)
      obtain ⟨mn, hmn⟩ := Int.eq_ofNat_of_zero_le (show 0 ≤ w 4 0 by omega)
      obtain ⟨nn, hnn⟩ := Int.eq_ofNat_of_zero_le (show 0 ≤ w 4 i by omega)
      have e4 : W (3 + 1) i = nn := by rw [show (3 : Int) + 1 = 4 by omega, h3 4 (by omega) (by omega), hnn]
      have hTB : TB (mn : Int) (W 20) := by
        rw [← hmn]
        exact TL_bd (fun x x0 x1 => (hn x x0 (by omega)).1) h5
      refine gx_iload2 (q := 74) hG d_Su_load_73 rfl ?_
      refine gx_aload1 (q := 75) hG d_Su_load_74 rfl ?_
      refine gx_get (q := 78) hG f_Su_50 (hpGame (by unfold isG; omega)) rfl d_Su_load_75 rfl ?_
      rw [e1]
      refine gx_icmp_ge (tgt := 104) (q := 81) hG d_Su_load_78 rfl rfl (by omega) (by omega) (fun c78 => ?_) (fun c78 => ?_)
      · exfalso; omega
      · refine gx_aload0 (q := 82) hG d_Su_load_81 rfl ?_
        refine gx_get (q := 85) hG f_Su_9 hpSu rfl d_Su_load_82 rfl ?_
        refine gx_aload0 (q := 86) hG d_Su_load_85 rfl ?_
        refine gx_get (q := 89) hG f_Su_30 hpSu rfl d_Su_load_86 rfl ?_
        rw [h4, hmn]
        refine gx_aload1 (q := 90) hG d_Su_load_89 rfl ?_
        refine gx_get (q := 93) hG f_Su_53 (hpGame (by unfold isG; omega)) rfl d_Su_load_90 rfl ?_
        refine gx_iload2 (q := 94) hG d_Su_load_93 rfl ?_
        refine gw_iald (q := 95) hG rfl (by omega) (by omega) d_Su_load_94 rfl ?_
        rw [e4]
        refine gw_S3V (q := 98) hG l_Su_56 c_Su_widen (ev_Su_widen (Or.inl rfl) (by omega) (by omega) hTB) (by decide) (Nat.le_of_ble_eq_true rfl) d_Su_load_95 rfl (by decide) (fun w1 h95 => ?_)
        obtain ⟨F, rfl, hF⟩ : ∃ F, w1 = wc W 20 F ∧ WID mn nn (W 20) F := h95.elim (fun q => by omega) (fun q => q.2)
        refine gx_iinc2 (q := 101) hG d_Su_load_98 rfl rfl ?_
        refine gx_goto (tgt := 73) hG d_Su_load_101 rfl ?_
        refine ih (i + 1) _ (by omega) (by omega) h0 (fun b b1 b2 => by rw [wc_ne b2, h3 b b1 b2]) (by rw [wc_ne (by omega), h4]) ?_
        rw [wc_eq]
        rw [← hmn, ← hnn] at hF
        exact TL_widen (by omega) (fun x x0 x1 => hn x x0 (by omega)) h5 hF
  obtain ⟨w2, hw2⟩ : ∃ w2, w2 = wc (wu w 19 2 0) 20 (fillA 60 (wu w 19 2 0 20) 1048576) := ⟨_, rfl⟩
  have g1 : ∀ b, b ≠ 19 → b ≠ 20 → w2 b = w b := fun b b1 b2 => by rw [hw2, wc_ne b2, wu_ne b1]
  have g3 : w2 3 = w 3 := g1 3 (by omega) (by omega)
  have g4 : w2 4 = w 4 := g1 4 (by omega) (by omega)
  have g20 : ∀ r, 0 ≤ r → r < 60 → w2 20 r = 1048576 := fun r r0 r1 => by
    rw [hw2, wc_eq]
    unfold fillA
    rw [if_pos (by omega)]
  have gm : w2 19 2 = 0 := by rw [hw2, wc_ne (by omega), wu_eq]
  have hgl := gN_le (num := w 4) (w 3 1).toNat hnN
  refine gx_aload0 (q := 1) hG d_Su_load_0 rfl ?_
  refine gx_iconst (q := 2) hG d_Su_load_1 rfl ?_
  refine gw_puti (q := 5) hG f_Su_30 hpSu (Nat.le_of_ble_eq_true rfl) vfit_i (Or.inl rfl) d_Su_load_2 rfl 2 rfl rfl ?_
  refine gx_aload0 (q := 6) hG d_Su_load_5 rfl ?_
  refine gx_get (q := 9) hG f_Su_9 hpSu rfl d_Su_load_6 rfl ?_
  refine gx_ldc (q := 11) hG (1048576) k_Su_34 d_Su_load_9 rfl rfl ?_
  refine gw_S2V (q := 14) hG l_Su_35 c_Ar_fillI (ev_Ar_fillI (N := 60) rfl) (by decide) (Nat.le_of_ble_eq_true rfl) d_Su_load_11 rfl (by decide) (fun w1 h11 => ?_)
  rw [h11, ← hw2]
  refine gx_aload1 (q := 15) hG d_Su_load_14 rfl ?_
  refine gx_get (q := 18) hG f_Su_41 (hpGame (by unfold isG; omega)) rfl d_Su_load_15 rfl ?_
  rw [g3]
  refine gx_iconst (q := 19) hG d_Su_load_18 rfl ?_
  refine gx_icmp_ne (tgt := 40) (q := 22) hG d_Su_load_19 rfl rfl (by omega) (by omega) (fun c19 => ?_) (fun c19 => ?_)
  · refine gx_aload1 (q := 41) hG d_Su_load_40 rfl ?_
    refine gx_get (q := 44) hG f_Su_41 (hpGame (by unfold isG; omega)) rfl d_Su_load_41 rfl ?_
    rw [g3]
    refine gx_if_ne (tgt := 104) (q := 47) hG d_Su_load_44 rfl rfl (by omega) (fun c44 => ?_) (fun c44 => ?_)
    · refine gx_return hG d_Su_load_104 rfl rfl ?_
      first
        | (refine ⟨_, rfl, rfl, fun b b1 b2 => by rw [wu_ne b2, wu_ne b1, g1 b b1 b2], ?_, fun _ _ => by omega, fun _ _ => by omega⟩
           rw [wu_ne (by omega), wu_eq, show w 3 2 = 1 by omega]
           refine LD_1 hnN wu_eq (fun r r0 r1 => ?_)
           rw [wu_pl (by omega), wu_ne (by omega)]
           exact g20 r (by omega) (by omega))
        | (refine ⟨_, rfl, rfl, g1, ?_, fun _ _ => by omega, fun _ _ => gm⟩
           rw [gm]
           exact LD_0 (by omega))
    · refine gx_aload1 (q := 48) hG d_Su_load_47 rfl ?_
      refine gx_get (q := 51) hG f_Su_50 (hpGame (by unfold isG; omega)) rfl d_Su_load_48 rfl ?_
      rw [g3]
      refine gx_if_le (tgt := 104) (q := 54) hG d_Su_load_51 rfl rfl (by omega) (fun c51 => ?_) (fun c51 => ?_)
      · refine gx_return hG d_Su_load_104 rfl rfl ?_
        first
          | (refine ⟨_, rfl, rfl, fun b b1 b2 => by rw [wu_ne b2, wu_ne b1, g1 b b1 b2], ?_, fun _ _ => by omega, fun _ _ => by omega⟩
             rw [wu_ne (by omega), wu_eq, show w 3 2 = 1 by omega]
             refine LD_1 hnN wu_eq (fun r r0 r1 => ?_)
             rw [wu_pl (by omega), wu_ne (by omega)]
             exact g20 r (by omega) (by omega))
          | (refine ⟨_, rfl, rfl, g1, ?_, fun _ _ => by omega, fun _ _ => gm⟩
             rw [gm]
             exact LD_0 (by omega))
      · refine gx_aload0 (q := 55) hG d_Su_load_54 rfl ?_
        refine gx_aload1 (q := 56) hG d_Su_load_55 rfl ?_
        refine gx_get (q := 59) hG f_Su_53 (hpGame (by unfold isG; omega)) rfl d_Su_load_56 rfl ?_
        refine gx_iconst (q := 60) hG d_Su_load_59 rfl ?_
        refine gw_iald (q := 61) hG rfl (by omega) (by omega) d_Su_load_60 rfl ?_
        rw [show (3 : Int) + 1 = 4 by omega, g4]
        refine gw_puti (q := 64) hG f_Su_30 hpSu (Nat.le_of_ble_eq_true rfl) vfit_i (Or.inl rfl) d_Su_load_61 rfl 2 rfl rfl ?_
        refine gx_aload0 (q := 65) hG d_Su_load_64 rfl ?_
        refine gx_get (q := 68) hG f_Su_9 hpSu rfl d_Su_load_65 rfl ?_
        refine gx_iconst (q := 69) hG d_Su_load_68 rfl ?_
        refine gx_iconst (q := 70) hG d_Su_load_69 rfl ?_
        refine gw_iast (q := 71) hG rfl (by omega) (by omega) d_Su_load_70 rfl ?_
        refine gx_iconst (q := 72) hG d_Su_load_71 rfl ?_
        refine gx_istore2 (q := 73) hG d_Su_load_72 rfl rfl ?_
        refine L ((w 3 1).toNat - 1) 1 _ (by omega) (by omega) (by omega) (fun b b1 b2 => by rw [wu_ne b2, wu_ne b1, g1 b b1 b2]) (by rw [wu_ne (by omega), wu_eq]) ?_
        have hi0 := hn 0 (by omega) (by omega)
        refine TL_one (by omega) wu_eq (fun r r0 r1 => ?_)
        rw [wu_pl (by omega), wu_ne (by omega)]
        exact g20 r (by omega) (by omega)
  · refine gx_aload0 (q := 23) hG d_Su_load_22 rfl ?_
    refine gx_aload1 (q := 24) hG d_Su_load_23 rfl ?_
    refine gw_V0X (q := 27) hG l_Su_46 c_Gm_divisor (ev_Gm_divisor (Or.inl rfl) (by rw [g3]; exact hsz) (by rw [g3, show (3 : Int) + 1 = 4 by omega, g4]; exact hn)) (hpGame (by unfold isG; omega)) rfl (by decide) (Nat.le_of_ble_eq_true rfl) d_Su_load_24 rfl (by decide) ?_
    rw [g3, show (3 : Int) + 1 = 4 by omega, g4]
    refine gw_puti (q := 30) hG f_Su_30 hpSu (Nat.le_of_ble_eq_true rfl) vfit_i (Or.inl rfl) d_Su_load_27 rfl 2 rfl rfl ?_
    refine gx_aload0 (q := 31) hG d_Su_load_30 rfl ?_
    refine gx_get (q := 34) hG f_Su_9 hpSu rfl d_Su_load_31 rfl ?_
    refine gx_iconst (q := 35) hG d_Su_load_34 rfl ?_
    refine gx_iconst (q := 36) hG d_Su_load_35 rfl ?_
    refine gw_iast (q := 37) hG rfl (by omega) (by omega) d_Su_load_36 rfl ?_
    refine gx_goto (tgt := 104) hG d_Su_load_37 rfl ?_
    refine gx_return hG d_Su_load_104 rfl rfl ?_
    first
      | (refine ⟨_, rfl, rfl, fun b b1 b2 => by rw [wu_ne b2, wu_ne b1, g1 b b1 b2], ?_, fun _ _ => by omega, fun _ _ => by omega⟩
         rw [wu_ne (by omega), wu_eq, show w 3 2 = 1 by omega]
         refine LD_1 hnN wu_eq (fun r r0 r1 => ?_)
         rw [wu_pl (by omega), wu_ne (by omega)]
         exact g20 r (by omega) (by omega))
      | (refine ⟨_, rfl, rfl, g1, ?_, fun _ _ => by omega, fun _ _ => gm⟩
         rw [gm]
         exact LD_0 (by omega))
theorem ev_Su_greatestWith {w : Mem} {n m : Nat} (hm0 : w 19 2 = (m : Int)) (hm : m ≤ 60) (hT : TB (w 19 2) (w 20)) (hn : 1 ≤ n ∧ n ≤ 60) : EvI y_Su_greatestWith b_Su_greatestWith 2 (some .int) (3) [Vr 19, Vi (n : Int)] w (fun z w' => (∀ b, b ≠ 21 → w' b = w b) ∧ ((m = 0 ∧ z = 1048576) ∨ (1 ≤ m ∧ ∃ F, WID m n (w 20) F ∧ z = gofT F m))) := by
  refine Ev.mk (isI := false) (by decide +kernel) nofun (Nat.le_of_ble_eq_true rfl) (fun G hG => ?_)
  show G 0 [some (Vr 19), some (Vi (n : Int))] [] 102 (hp w)
  obtain ⟨w2, hw2⟩ : ∃ w2, w2 = wc w 21 (cpy (w 20) (w 21) 0 0 60) := ⟨_, rfl⟩
  have g1 : ∀ b, b ≠ 21 → w2 b = w b := fun b hb => by rw [hw2, wc_ne hb]
  have g19 : w2 19 2 = m := by rw [g1 19 (by omega), hm0]
  have g21 : ∀ r, 0 ≤ r → r < 60 → w2 21 r = w 20 r := fun r r0 r1 => by
    rw [hw2, wc_eq]
    unfold cpy
    rw [if_pos (by omega), show 0 + (r - 0) = r by omega]
  rw [hm0] at hT
  have hTB : TB (m : Int) (w2 21) := fun r r0 r1 => by rw [g21 r r0 (by omega)]; exact hT r r0 r1
  refine gx_aload0 (q := 1) hG d_Su_greatestWith_0 rfl ?_
  refine gx_get (q := 4) hG f_Su_9 hpSu rfl d_Su_greatestWith_1 rfl ?_
  refine gx_iconst (q := 5) hG d_Su_greatestWith_4 rfl ?_
  refine gx_aload0 (q := 6) hG d_Su_greatestWith_5 rfl ?_
  refine gx_get (q := 9) hG f_Su_15 hpSu rfl d_Su_greatestWith_6 rfl ?_
  refine gx_iconst (q := 10) hG d_Su_greatestWith_9 rfl ?_
  refine gx_bipush (q := 12) hG d_Su_greatestWith_10 rfl rfl ?_
  refine gw_acopy (q := 15) hG l_Su_64 (N := 60) (M := 60) rfl rfl (by omega) (by omega) (by omega) (by omega) (by omega) (by decide) (Nat.le_of_ble_eq_true rfl) d_Su_greatestWith_12 rfl ?_
  rw [← hw2]
  refine gx_aload0 (q := 16) hG d_Su_greatestWith_15 rfl ?_
  refine gx_get (q := 19) hG f_Su_15 hpSu rfl d_Su_greatestWith_16 rfl ?_
  refine gx_aload0 (q := 20) hG d_Su_greatestWith_19 rfl ?_
  refine gx_get (q := 23) hG f_Su_30 hpSu rfl d_Su_greatestWith_20 rfl ?_
  rw [g19]
  refine gx_iload1 (q := 24) hG d_Su_greatestWith_23 rfl ?_
  refine gw_S3V (q := 27) hG l_Su_56 c_Su_widen (ev_Su_widen (Or.inr rfl) hm hn hTB) (by decide) (Nat.le_of_ble_eq_true rfl) d_Su_greatestWith_24 rfl (by decide) (fun w1 h24 => ?_)
  have g9 : w1 19 2 = m := by rcases h24 with ⟨-, rfl⟩ | ⟨-, F, rfl, -⟩; (· exact g19); (· rw [wc_ne (by omega)]; exact g19)
  have gT : TB (m : Int) (w1 21) := by rcases h24 with ⟨-, rfl⟩ | ⟨-, F, rfl, hF⟩; (· exact hTB); (· rw [wc_eq]; exact WID_TB hF hTB)
  refine gx_aload0 (q := 28) hG d_Su_greatestWith_27 rfl ?_
  refine gx_get (q := 31) hG f_Su_15 hpSu rfl d_Su_greatestWith_28 rfl ?_
  refine gx_aload0 (q := 32) hG d_Su_greatestWith_31 rfl ?_
  refine gx_get (q := 35) hG f_Su_30 hpSu rfl d_Su_greatestWith_32 rfl ?_
  rw [g9]
  refine gw_S2X (q := 38) hG l_Su_60 c_Su_greatestOf (ev_Su_greatestOf (Or.inr rfl) (by omega) gT) (by decide) (Nat.le_of_ble_eq_true rfl) d_Su_greatestWith_35 rfl (by decide) ?_
  refine gx_ireturn hG d_Su_greatestWith_38 rfl rfl ?_
  refine ⟨_, rfl, _, rfl, ?_⟩
  rcases h24 with ⟨q, rfl⟩ | ⟨q, F, rfl, hF⟩
  · refine ⟨g1, Or.inl ⟨q, ?_⟩⟩
    unfold gofT
    rw [if_pos (by omega)]
  · refine ⟨fun b hb => by rw [wc_ne hb, g1 b hb], Or.inr ⟨q, F, WID_congr (by omega) (fun r r0 r1 => g21 r r0 (by omega)) hF, by rw [wc_eq]⟩⟩

