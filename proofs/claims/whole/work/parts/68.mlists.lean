/-! part 68: lists of gaps, on the reference's side -/
def B01 (T : Int → Int) : Prop := ∀ v, 0 ≤ v → v < 122 → T v = 0 ∨ T v = 1
theorem ev_M_wrongSum {w : Mem} (h : B01 (w 99)) : EvX y_M_wrongSum b_M_wrongSum 3 (some .int) (1) [Vr 76] w (Vi (wrZ (fun v => w 99 v = 1))) := by
  refine Ev.mk (isI := false) (by decide +kernel) nofun (Nat.le_of_ble_eq_true rfl) (fun G hG => ?_)
  show G 0 [some (Vr 76), none, none] [] 102 (hp w)
  have I : ∀ (j k : Nat) (v : Int), k + j = 61 → 2 ≤ v ∧ v ≤ 60 → (∀ u, 1 ≤ u → u < v → ¬ (w 99 u = 1 ∧ paidP (fun v => w 99 v = 1) u)) → (∀ a, 1 ≤ a → a ≤ (k : Int) → 2 * a ≤ v → ¬ (w 99 v = 1 ∧ ¬ w 99 a = 1 ∧ ¬ w 99 (v - a) = 1)) → (∀ o : Option Value, ¬ (w 99 v = 1 ∧ paidP (fun v => w 99 v = 1) v) → one1 [o] 0 = true → G 54 [some (Vr 76), some (Vi v), o] [] 102 (hp w)) → G 10 [some (Vr 76), some (Vi v), some (Vi ((k : Int) + 1))] [] 102 (hp w) := by
    intro j
    induction j with
    | zero =>
      intro k v h1 hv hu h2 hk
      refine gx_iconst (q := 11) hG d_M_wrongSum_10 rfl ?_
      refine gx_iload2 (q := 12) hG d_M_wrongSum_11 rfl ?_
      refine gx_imul (q := 13) hG d_M_wrongSum_12 rfl ?_
      refine gx_iload1 (q := 14) hG d_M_wrongSum_13 rfl ?_
      refine gx_icmp_gt (tgt := 54) (q := 17) hG d_M_wrongSum_14 rfl rfl (by omega) (by omega) (fun c14 => ?_) (fun c14 => ?_)
      · exact hk _ (fun ⟨q, a, a1, a2, a3, a4⟩ => h2 a a1 (by omega) a2 ⟨q, a3, a4⟩) rfl
      · exfalso; omega
    | succ j ih =>
      intro k v h1 hv hu h2 hk
      have nx : ¬ (w 99 v = 1 ∧ ¬ w 99 ((k : Int) + 1) = 1 ∧ ¬ w 99 (v - ((k : Int) + 1)) = 1) → ∀ a, 1 ≤ a → a ≤ ((k + 1 : Nat) : Int) → 2 * a ≤ v → ¬ (w 99 v = 1 ∧ ¬ w 99 a = 1 ∧ ¬ w 99 (v - a) = 1) := fun q a a1 a2 a3 => by
        by_cases c : a = (k : Int) + 1
        · rw [c]; exact q
        · exact h2 a a1 (by omega) a3
      have b1 := h v (by omega) (by omega)
      refine gx_iconst (q := 11) hG d_M_wrongSum_10 rfl ?_
      refine gx_iload2 (q := 12) hG d_M_wrongSum_11 rfl ?_
      refine gx_imul (q := 13) hG d_M_wrongSum_12 rfl ?_
      refine gx_iload1 (q := 14) hG d_M_wrongSum_13 rfl ?_
      refine gx_icmp_gt (tgt := 54) (q := 17) hG d_M_wrongSum_14 rfl rfl (by omega) (by omega) (fun c14 => ?_) (fun c14 => ?_)
      · exact hk _ (fun ⟨q, a, a1, a2, a3, a4⟩ => h2 a a1 (by omega) a2 ⟨q, a3, a4⟩) rfl
      · have b2 := h ((k : Int) + 1) (by omega) (by omega)
        have b3 := h (v - ((k : Int) + 1)) (by omega) (by omega)
        refine gx_aload0 (q := 18) hG d_M_wrongSum_17 rfl ?_
        refine gx_get (q := 21) hG f_M_79 hpM rfl d_M_wrongSum_18 rfl ?_
        refine gx_iload1 (q := 22) hG d_M_wrongSum_21 rfl ?_
        refine gw_zald (q := 23) hG rfl (by omega) (by omega) d_M_wrongSum_22 rfl ?_
        refine gx_if_eq (tgt := 48) (q := 26) hG d_M_wrongSum_23 rfl rfl (by omega) (fun c23 => ?_) (fun c23 => ?_)
        · refine gx_iinc2 (q := 51) hG d_M_wrongSum_48 rfl rfl ?_
          refine gx_goto (tgt := 10) hG d_M_wrongSum_51 rfl ?_
          exact ih (k + 1) v (by omega) hv hu (nx (by omega)) hk
        · refine gx_aload0 (q := 27) hG d_M_wrongSum_26 rfl ?_
          refine gx_get (q := 30) hG f_M_79 hpM rfl d_M_wrongSum_27 rfl ?_
          refine gx_iload2 (q := 31) hG d_M_wrongSum_30 rfl ?_
          refine gw_zald (q := 32) hG rfl (by omega) (by omega) d_M_wrongSum_31 rfl ?_
          refine gx_if_ne (tgt := 48) (q := 35) hG d_M_wrongSum_32 rfl rfl (by omega) (fun c32 => ?_) (fun c32 => ?_)
          · refine gx_iinc2 (q := 51) hG d_M_wrongSum_48 rfl rfl ?_
            refine gx_goto (tgt := 10) hG d_M_wrongSum_51 rfl ?_
            exact ih (k + 1) v (by omega) hv hu (nx (by omega)) hk
          · refine gx_aload0 (q := 36) hG d_M_wrongSum_35 rfl ?_
            refine gx_get (q := 39) hG f_M_79 hpM rfl d_M_wrongSum_36 rfl ?_
            refine gx_iload1 (q := 40) hG d_M_wrongSum_39 rfl ?_
            refine gx_iload2 (q := 41) hG d_M_wrongSum_40 rfl ?_
            refine gx_isub (q := 42) hG d_M_wrongSum_41 rfl ?_
            refine gw_zald (q := 43) hG rfl (by omega) (by omega) d_M_wrongSum_42 rfl ?_
            refine gx_if_ne (tgt := 48) (q := 46) hG d_M_wrongSum_43 rfl rfl (by omega) (fun c43 => ?_) (fun c43 => ?_)
            · refine gx_iinc2 (q := 51) hG d_M_wrongSum_48 rfl rfl ?_
              refine gx_goto (tgt := 10) hG d_M_wrongSum_51 rfl ?_
              exact ih (k + 1) v (by omega) hv hu (nx (by omega)) hk
            · refine gx_iload1 (q := 47) hG d_M_wrongSum_46 rfl ?_
              refine gx_ireturn hG d_M_wrongSum_47 rfl rfl ?_
              exact ⟨_, rfl, congrArg (fun z => some (Vi z)) (wrZ_at (g := fun v => w 99 v = 1) ⟨by omega, by omega⟩ (by omega) ⟨(k : Int) + 1, by omega, by omega, by omega, by omega⟩ hu).symm, rfl⟩
  have L : ∀ (j k : Nat) (o : Option Value), k + j = 60 → 1 ≤ k → one1 [o] 0 = true → (∀ u, 1 ≤ u → u < (k : Int) + 1 → ¬ (w 99 u = 1 ∧ paidP (fun v => w 99 v = 1) u)) → G 2 [some (Vr 76), some (Vi ((k : Int) + 1)), o] [] 102 (hp w) := by
    intro j
    induction j with
    | zero =>
      intro k o h1 h1' g hu
      refine gx_iload1 (q := 3) hG d_M_wrongSum_2 rfl ?_
      refine gx_bipush (q := 5) hG d_M_wrongSum_3 rfl rfl ?_
      refine gx_icmp_gt (tgt := 60) (q := 8) hG d_M_wrongSum_5 rfl rfl (by omega) (by omega) (fun c5 => ?_) (fun c5 => ?_)
      · refine gx_iconst (q := 61) hG d_M_wrongSum_60 rfl ?_
        refine gx_ireturn hG d_M_wrongSum_61 rfl rfl ?_
        exact ⟨_, rfl, congrArg (fun z => some (Vi z)) (wrZ_none (g := fun v => w 99 v = 1) (fun u u0 u1 => hu u u0 (by omega))).symm, rfl⟩
      · exfalso; omega
    | succ j ih =>
      intro k o h1 h1' g hu
      have K : ∀ o' : Option Value, ¬ (w 99 ((k : Int) + 1) = 1 ∧ paidP (fun v => w 99 v = 1) ((k : Int) + 1)) → one1 [o'] 0 = true → G 54 [some (Vr 76), some (Vi ((k : Int) + 1)), o'] [] 102 (hp w) := by
        intro o' q1 q2
        refine gx_iinc1 (q := 57) hG d_M_wrongSum_54 rfl rfl ?_
        refine gx_goto (tgt := 2) hG d_M_wrongSum_57 rfl ?_
        refine ih (k + 1) o' (by omega) (by omega) q2 (fun u u0 u1 => ?_)
        by_cases c : u = (k : Int) + 1
        · rw [c]; exact q1
        · exact hu u u0 (by omega)
      refine gx_iload1 (q := 3) hG d_M_wrongSum_2 rfl ?_
      refine gx_bipush (q := 5) hG d_M_wrongSum_3 rfl rfl ?_
      refine gx_icmp_gt (tgt := 60) (q := 8) hG d_M_wrongSum_5 rfl rfl (by omega) (by omega) (fun c5 => ?_) (fun c5 => ?_)
      · exfalso; omega
      · refine gx_iconst (q := 9) hG d_M_wrongSum_8 rfl ?_
        refine gx_istore2 (q := 10) hG d_M_wrongSum_9 rfl rfl ?_
        exact I 61 0 ((k : Int) + 1) (by omega) (by omega) hu (fun a a0 a1 => by omega) K
  refine gx_iconst (q := 1) hG d_M_wrongSum_0 rfl ?_
  refine gx_istore1 (q := 2) hG d_M_wrongSum_1 rfl rfl ?_
  exact L 59 1 none (by omega) (by omega) rfl (fun u u0 u1 => by
    rintro ⟨-, a, a1, a2, -⟩
    omega)
theorem ev_M_isMaker {w : Mem} {v : Int} (h : B01 (w 99)) (hv : 1 ≤ v ∧ v < 122) : EvX y_M_isMaker b_M_isMaker 4 (some .boolean) (1) [Vr 76, Vi v] w (Vi (bi (makerP (fun v => w 99 v = 1) v))) := by
  refine Ev.mk (isI := false) (by decide +kernel) nofun (Nat.le_of_ble_eq_true rfl) (fun G hG => ?_)
  show G 0 [some (Vr 76), some (Vi v), none, none] [] 102 (hp w)
  have L : ∀ (j k : Nat), k + j = 61 → G 17 [some (Vr 76), some (Vi v), some (Vi (bi (¬ w 99 v = 1 ∧ ∀ a, 1 ≤ a → a ≤ (k : Int) → 2 * a ≤ v → w 99 a = 1 ∨ w 99 (v - a) = 1))), some (Vi ((k : Int) + 1))] [] 102 (hp w) := by
    intro j
    induction j with
    | zero =>
      intro k h1
      refine gx_iconst (q := 18) hG d_M_isMaker_17 rfl ?_
      refine gx_iload3 (q := 19) hG d_M_isMaker_18 rfl ?_
      refine gx_imul (q := 20) hG d_M_isMaker_19 rfl ?_
      refine gx_iload1 (q := 21) hG d_M_isMaker_20 rfl ?_
      refine gx_icmp_gt (tgt := 60) (q := 24) hG d_M_isMaker_21 rfl rfl (by omega) (by omega) (fun c21 => ?_) (fun c21 => ?_)
      · refine gx_iload2 (q := 61) hG d_M_isMaker_60 rfl ?_
        refine gx_zreturn hG d_M_isMaker_61 rfl rfl (bi_01 _) ?_
        refine ⟨_, rfl, congrArg (fun z => some (Vi z)) (bi_congr ?_), rfl⟩
        constructor
        · rintro ⟨q1, q2⟩
          exact ⟨q1, fun ⟨a, a1, a2, a3, a4⟩ => (q2 a a1 (by omega) a2).elim a3 a4⟩
        · rintro ⟨q1, q2⟩
          exact ⟨q1, fun a a1 _ a2 => Classical.byContradiction (fun q => q2 ⟨a, a1, a2, fun z => q (Or.inl z), fun z => q (Or.inr z)⟩)⟩
      · exfalso; omega
    | succ j ih =>
      intro k h1
      have nx : (¬ w 99 v = 1 ∧ ∀ a, 1 ≤ a → a ≤ ((k + 1 : Nat) : Int) → 2 * a ≤ v → w 99 a = 1 ∨ w 99 (v - a) = 1) ↔ ((¬ w 99 v = 1 ∧ ∀ a, 1 ≤ a → a ≤ (k : Int) → 2 * a ≤ v → w 99 a = 1 ∨ w 99 (v - a) = 1) ∧ (2 * ((k : Int) + 1) ≤ v → w 99 ((k : Int) + 1) = 1 ∨ w 99 (v - ((k : Int) + 1)) = 1)) := by
        constructor
        · rintro ⟨q1, q2⟩
          exact ⟨⟨q1, fun a a1 a2 => q2 a a1 (by omega)⟩, q2 _ (by omega) (by omega)⟩
        · rintro ⟨⟨q1, q2⟩, q3⟩
          refine ⟨q1, fun a a1 a2 a3 => ?_⟩
          by_cases c : a = (k : Int) + 1
          · rw [c] at a3 ⊢; exact q3 a3
          · exact q2 a a1 (by omega) a3
      have en : 2 * ((k : Int) + 1) > v → ((¬ w 99 v = 1 ∧ ∀ a, 1 ≤ a → a ≤ (k : Int) → 2 * a ≤ v → w 99 a = 1 ∨ w 99 (v - a) = 1) ↔ makerP (fun v => w 99 v = 1) v) := by
        intro c
        constructor
        · rintro ⟨q1, q2⟩
          exact ⟨q1, fun ⟨a, a1, a2, a3, a4⟩ => (q2 a a1 (by omega) a2).elim a3 a4⟩
        · rintro ⟨q1, q2⟩
          exact ⟨q1, fun a a1 _ a2 => Classical.byContradiction (fun q => q2 ⟨a, a1, a2, fun z => q (Or.inl z), fun z => q (Or.inr z)⟩)⟩
      refine gx_iconst (q := 18) hG d_M_isMaker_17 rfl ?_
      refine gx_iload3 (q := 19) hG d_M_isMaker_18 rfl ?_
      refine gx_imul (q := 20) hG d_M_isMaker_19 rfl ?_
      refine gx_iload1 (q := 21) hG d_M_isMaker_20 rfl ?_
      refine gx_icmp_gt (tgt := 60) (q := 24) hG d_M_isMaker_21 rfl rfl (by omega) (by omega) (fun c21 => ?_) (fun c21 => ?_)
      · refine gx_iload2 (q := 61) hG d_M_isMaker_60 rfl ?_
        refine gx_zreturn hG d_M_isMaker_61 rfl rfl (bi_01 _) ?_
        exact ⟨_, rfl, congrArg (fun z => some (Vi z)) (bi_congr (en (by omega))), rfl⟩
      · have b2 := h ((k : Int) + 1) (by omega) (by omega)
        have b3 := h (v - ((k : Int) + 1)) (by omega) (by omega)
        refine gx_iload2 (q := 25) hG d_M_isMaker_24 rfl ?_
        refine gx_if_eq (tgt := 52) (q := 28) hG d_M_isMaker_25 rfl rfl (bi_R _) (fun c25 => ?_) (fun c25 => ?_)
        · have d25 := bi_eq0.mp c25
          refine gx_iconst (q := 53) hG d_M_isMaker_52 rfl ?_
          refine gx_istore2 (q := 54) hG d_M_isMaker_53 rfl rfl ?_
          refine gx_iinc3 (q := 57) hG d_M_isMaker_54 rfl rfl ?_
          refine gx_goto (tgt := 17) hG d_M_isMaker_57 rfl ?_
          have e := ih (k + 1) (by omega)
          rw [propext nx] at e
          first
            | (rw [bi_t ⟨d25, fun _ => by omega⟩] at e; exact e)
            | (rw [bi_f (fun q => d25 q.1)] at e; exact e)
            | (rw [bi_f (fun q => by have := q.2 (by omega); omega)] at e; exact e)
        · have d25 := bi_ne0.mp c25
          refine gx_aload0 (q := 29) hG d_M_isMaker_28 rfl ?_
          refine gx_get (q := 32) hG f_M_79 hpM rfl d_M_isMaker_29 rfl ?_
          refine gx_iload3 (q := 33) hG d_M_isMaker_32 rfl ?_
          refine gw_zald (q := 34) hG rfl (by omega) (by omega) d_M_isMaker_33 rfl ?_
          refine gx_if_ne (tgt := 48) (q := 37) hG d_M_isMaker_34 rfl rfl (by omega) (fun c34 => ?_) (fun c34 => ?_)
          · refine gx_iconst (q := 49) hG d_M_isMaker_48 rfl ?_
            refine gx_goto (tgt := 53) hG d_M_isMaker_49 rfl ?_
            refine gx_istore2 (q := 54) hG d_M_isMaker_53 rfl rfl ?_
            refine gx_iinc3 (q := 57) hG d_M_isMaker_54 rfl rfl ?_
            refine gx_goto (tgt := 17) hG d_M_isMaker_57 rfl ?_
            have e := ih (k + 1) (by omega)
            rw [propext nx] at e
            first
              | (rw [bi_t ⟨d25, fun _ => by omega⟩] at e; exact e)
              | (rw [bi_f (fun q => d25 q.1)] at e; exact e)
              | (rw [bi_f (fun q => by have := q.2 (by omega); omega)] at e; exact e)
          · refine gx_aload0 (q := 38) hG d_M_isMaker_37 rfl ?_
            refine gx_get (q := 41) hG f_M_79 hpM rfl d_M_isMaker_38 rfl ?_
            refine gx_iload1 (q := 42) hG d_M_isMaker_41 rfl ?_
            refine gx_iload3 (q := 43) hG d_M_isMaker_42 rfl ?_
            refine gx_isub (q := 44) hG d_M_isMaker_43 rfl ?_
            refine gw_zald (q := 45) hG rfl (by omega) (by omega) d_M_isMaker_44 rfl ?_
            refine gx_if_eq (tgt := 52) (q := 48) hG d_M_isMaker_45 rfl rfl (by omega) (fun c45 => ?_) (fun c45 => ?_)
            · refine gx_iconst (q := 53) hG d_M_isMaker_52 rfl ?_
              refine gx_istore2 (q := 54) hG d_M_isMaker_53 rfl rfl ?_
              refine gx_iinc3 (q := 57) hG d_M_isMaker_54 rfl rfl ?_
              refine gx_goto (tgt := 17) hG d_M_isMaker_57 rfl ?_
              have e := ih (k + 1) (by omega)
              rw [propext nx] at e
              first
                | (rw [bi_t ⟨d25, fun _ => by omega⟩] at e; exact e)
                | (rw [bi_f (fun q => d25 q.1)] at e; exact e)
                | (rw [bi_f (fun q => by have := q.2 (by omega); omega)] at e; exact e)
            · refine gx_iconst (q := 49) hG d_M_isMaker_48 rfl ?_
              refine gx_goto (tgt := 53) hG d_M_isMaker_49 rfl ?_
              refine gx_istore2 (q := 54) hG d_M_isMaker_53 rfl rfl ?_
              refine gx_iinc3 (q := 57) hG d_M_isMaker_54 rfl rfl ?_
              refine gx_goto (tgt := 17) hG d_M_isMaker_57 rfl ?_
              have e := ih (k + 1) (by omega)
              rw [propext nx] at e
              first
                | (rw [bi_t ⟨d25, fun _ => by omega⟩] at e; exact e)
                | (rw [bi_f (fun q => d25 q.1)] at e; exact e)
                | (rw [bi_f (fun q => by have := q.2 (by omega); omega)] at e; exact e)
  have b1 := h v (by omega) (by omega)
  refine gx_aload0 (q := 1) hG d_M_isMaker_0 rfl ?_
  refine gx_get (q := 4) hG f_M_79 hpM rfl d_M_isMaker_1 rfl ?_
  refine gx_iload1 (q := 5) hG d_M_isMaker_4 rfl ?_
  refine gw_zald (q := 6) hG rfl (by omega) (by omega) d_M_isMaker_5 rfl ?_
  refine gx_if_ne (tgt := 13) (q := 9) hG d_M_isMaker_6 rfl rfl (by omega) (fun c6 => ?_) (fun c6 => ?_)
  · refine gx_iconst (q := 14) hG d_M_isMaker_13 rfl ?_
    refine gx_istore2 (q := 15) hG d_M_isMaker_14 rfl rfl ?_
    refine gx_iconst (q := 16) hG d_M_isMaker_15 rfl ?_
    refine gx_istore3 (q := 17) hG d_M_isMaker_16 rfl rfl ?_
    have e := L 61 0 (by omega)
    first
      | (rw [bi_t ⟨by omega, fun a a1 a2 => by omega⟩] at e; exact e)
      | (rw [bi_f (fun q => q.1 (by omega))] at e; exact e)
  · refine gx_iconst (q := 10) hG d_M_isMaker_9 rfl ?_
    refine gx_goto (tgt := 14) hG d_M_isMaker_10 rfl ?_
    refine gx_istore2 (q := 15) hG d_M_isMaker_14 rfl rfl ?_
    refine gx_iconst (q := 16) hG d_M_isMaker_15 rfl ?_
    refine gx_istore3 (q := 17) hG d_M_isMaker_16 rfl rfl ?_
    have e := L 61 0 (by omega)
    first
      | (rw [bi_t ⟨by omega, fun a a1 a2 => by omega⟩] at e; exact e)
      | (rw [bi_f (fun q => q.1 (by omega))] at e; exact e)
theorem goodL_s {F : Int → Int} {k : Nat} : goodL F ((k + 1 : Nat) : Int) ↔ (goodL F k ∧ (1 ≤ F k ∧ F k ≤ 60) ∧ ¬ inL F k (F k)) := by
  unfold goodL inL
  constructor
  · rintro ⟨a, b⟩
    exact ⟨⟨fun i i0 i1 => a i i0 (by omega), fun i j i0 ij j1 => b i j i0 ij (by omega)⟩, a k (by omega) (by omega), fun ⟨i, i0, i1, i2⟩ => b i k i0 (by omega) (by omega) i2⟩
  · rintro ⟨⟨a, b⟩, c, d⟩
    refine ⟨fun i i0 i1 => ?_, fun i j i0 ij j1 q => ?_⟩
    · by_cases e : i = k
      · rw [e]; exact c
      · exact a i i0 (by omega)
    · by_cases e : j = k
      · rw [e] at q ij
        exact d ⟨i, i0, ij, q⟩
      · exact b i j i0 ij (by omega) q
theorem goodL_mono {F : Int → Int} {k n : Int} (h : goodL F n) (hk : k ≤ n) : goodL F k := ⟨fun i i0 i1 => h.1 i i0 (by omega), fun i j i0 ij j1 => h.2 i j i0 ij (by omega)⟩
theorem ev_M_needList {w : Mem} {r : Int} (hO : OK (aM w)) (hr : 0 ≤ r ∧ r < 6) : EvI y_M_needList b_M_needList 5 (some .int) (2) [Vr 76, Vi r] w (fun z w' => (z = -3 ∧ aM w 0 r < 0 ∧ w' = mfd w 1) ∨ (0 ≤ aM w 0 r ∧ ¬ okL (aM w) r ∧ z = -3 ∧ ∃ w1, SM w w1 ∧ w' = mfd w1 3) ∨ (0 ≤ aM w 0 r ∧ okL (aM w) r ∧ z = 0 ∧ (∀ b, b ≠ 99 → w' b = w b) ∧ B01 (w' 99) ∧ ∀ v, 1 ≤ v → v < 122 → (w' 99 v = 1 ↔ gL (aM w) r v))) := by
  refine Ev.mk (isI := false) (by decide +kernel) nofun (Nat.le_of_ble_eq_true rfl) (fun G hG => ?_)
  show G 0 [some (Vr 76), some (Vi r), none, none, none] [] 102 (hp w)
  have hs := hO.m0 hr
  have ea : aM w 0 r = w 78 r := aM_at0 hr
  have hF : ∀ i, 0 ≤ i → i < w 78 r → aM w 1 (60 * r + i) = w 79 (60 * r + i) := fun i i0 i1 => aM_at1 (by omega)
  -- it is no good list
  have N : ∀ (o : Option Value) (k i : Int) (W : Mem), 0 ≤ aM w 0 r → ¬ okL (aM w) r → (∀ b, b ≠ 99 → W b = w b) → R3 i → G 40 [some (Vr 76), some (Vi r), some (Vi 0), some (Vi i), o] [] 102 (hp W) := by
    intro o k i W h0 hng h1 hi
    have e78 : W 78 r = w 78 r := by rw [h1 78 (by omega)]
    have hsm : SM w W := SM_scr (fun b hb => h1 b (by omega))
    refine gx_iload3 (q := 41) hG d_M_needList_40 rfl ?_
    refine gx_aload0 (q := 42) hG d_M_needList_41 rfl ?_
    refine gx_get (q := 45) hG f_M_13 hpM rfl d_M_needList_42 rfl ?_
    refine gx_iload1 (q := 46) hG d_M_needList_45 rfl ?_
    refine gw_iald (q := 47) hG rfl (by omega) (by omega) d_M_needList_46 rfl ?_
    rw [e78]
    refine gx_icmp_ge (tgt := 107) (q := 50) hG d_M_needList_47 rfl rfl (by omega) (by omega) (fun c47 => ?_) (fun c47 => ?_)
    · refine gx_iload2 (q := 108) hG d_M_needList_107 rfl ?_
      refine gx_if_eq (tgt := 115) (q := 111) hG d_M_needList_108 rfl rfl (by omega) (fun c108 => ?_) (fun c108 => ?_)
      · refine gx_aload0 (q := 116) hG d_M_needList_115 rfl ?_
        refine gx_iconst (q := 117) hG d_M_needList_116 rfl ?_
        refine gw_V1I (q := 120) hG l_M_114 c_M_meets (ev_M_meets (by omega)) hpM rfl (by decide) (Nat.le_of_ble_eq_true rfl) d_M_needList_117 rfl (by decide) (fun z w2 h117 => ?_)
        refine gx_ireturn hG d_M_needList_120 rfl rfl ?_
        refine ⟨_, rfl, _, rfl, Or.inr (Or.inl ⟨h0, hng, h117.1, W, hsm, h117.2⟩)⟩
      · exact absurd rfl c108
    · refine gx_iload2 (q := 51) hG d_M_needList_50 rfl ?_
      refine gx_if_eq (tgt := 107) (q := 54) hG d_M_needList_51 rfl rfl (by omega) (fun c51 => ?_) (fun c51 => ?_)
      · refine gx_iload2 (q := 108) hG d_M_needList_107 rfl ?_
        refine gx_if_eq (tgt := 115) (q := 111) hG d_M_needList_108 rfl rfl (by omega) (fun c108 => ?_) (fun c108 => ?_)
        · refine gx_aload0 (q := 116) hG d_M_needList_115 rfl ?_
          refine gx_iconst (q := 117) hG d_M_needList_116 rfl ?_
          refine gw_V1I (q := 120) hG l_M_114 c_M_meets (ev_M_meets (by omega)) hpM rfl (by decide) (Nat.le_of_ble_eq_true rfl) d_M_needList_117 rfl (by decide) (fun z w2 h117 => ?_)
          refine gx_ireturn hG d_M_needList_120 rfl rfl ?_
          refine ⟨_, rfl, _, rfl, Or.inr (Or.inl ⟨h0, hng, h117.1, W, hsm, h117.2⟩)⟩
        · exact absurd rfl c108
      · exact absurd rfl c51
  have L : ∀ (j k : Nat) (W : Mem) (o : Option Value), (k : Int) + j = w 78 r → one1 [o] 0 = true → (∀ b, b ≠ 99 → W b = w b) → B01 (W 99) → goodL (fun i => aM w 1 (60 * r + i)) k → (∀ v, 1 ≤ v → v < 122 → (W 99 v = 1 ↔ inL (fun i => aM w 1 (60 * r + i)) k v)) → G 40 [some (Vr 76), some (Vi r), some (Vi 1), some (Vi (k : Int)), o] [] 102 (hp W) := by
    intro j
    induction j with
    | zero =>
      intro k W o h1 g h2 h3 h4 h5
      have e78 : W 78 r = w 78 r := by rw [h2 78 (by omega)]
      have ek : (k : Int) = aM w 0 r := by omega
      refine gx_iload3 (q := 41) hG d_M_needList_40 rfl ?_
      refine gx_aload0 (q := 42) hG d_M_needList_41 rfl ?_
      refine gx_get (q := 45) hG f_M_13 hpM rfl d_M_needList_42 rfl ?_
      refine gx_iload1 (q := 46) hG d_M_needList_45 rfl ?_
      refine gw_iald (q := 47) hG rfl (by omega) (by omega) d_M_needList_46 rfl ?_
      rw [e78]
      refine gx_icmp_ge (tgt := 107) (q := 50) hG d_M_needList_47 rfl rfl (by omega) (by omega) (fun c47 => ?_) (fun c47 => ?_)
      · refine gx_iload2 (q := 108) hG d_M_needList_107 rfl ?_
        refine gx_if_eq (tgt := 115) (q := 111) hG d_M_needList_108 rfl rfl (by omega) (fun c108 => ?_) (fun c108 => ?_)
        · exact absurd c108 (by decide)
        · refine gx_iconst (q := 112) hG d_M_needList_111 rfl ?_
          refine gx_goto (tgt := 120) hG d_M_needList_112 rfl ?_
          refine gx_ireturn hG d_M_needList_120 rfl rfl ?_
          refine ⟨_, rfl, _, rfl, Or.inr (Or.inr ⟨by omega, ?_, rfl, h2, h3, fun v v0 v1 => ?_⟩)⟩
          · unfold okL; rw [← ek]; exact h4
          · rw [h5 v v0 v1]; unfold gL; rw [← ek]
      · exfalso; omega
    | succ j ih =>
      intro k W o h1 g h2 h3 h4 h5
      have e78 : W 78 r = w 78 r := by rw [h2 78 (by omega)]
      have e79 : W 79 (60 * r + k) = aM w 1 (60 * r + k) := by rw [h2 79 (by omega)]; exact (hF k (by omega) (by omega)).symm
      have hxb := hO.2.1 (60 * r + k) (by omega) (by omega)
      obtain ⟨x, hx⟩ : ∃ x, x = aM w 1 (60 * r + k) := ⟨_, rfl⟩
      rw [← hx] at e79 hxb
      have gs := goodL_s (F := fun i => aM w 1 (60 * r + i)) (k := k)
      have gs : goodL (fun i => aM w 1 (60 * r + i)) ((k + 1 : Nat) : Int) ↔ (goodL (fun i => aM w 1 (60 * r + i)) k ∧ (1 ≤ x ∧ x ≤ 60) ∧ ¬ inL (fun i => aM w 1 (60 * r + i)) k x) := by rw [hx]; exact gs
      have bad : ¬ ((1 ≤ x ∧ x ≤ 60) ∧ ¬ inL (fun i => aM w 1 (60 * r + i)) k x) → ¬ okL (aM w) r := fun q z => by
        unfold okL at z
        exact q (gs.mp (goodL_mono z (by omega))).2
      refine gx_iload3 (q := 41) hG d_M_needList_40 rfl ?_
      refine gx_aload0 (q := 42) hG d_M_needList_41 rfl ?_
      refine gx_get (q := 45) hG f_M_13 hpM rfl d_M_needList_42 rfl ?_
      refine gx_iload1 (q := 46) hG d_M_needList_45 rfl ?_
      refine gw_iald (q := 47) hG rfl (by omega) (by omega) d_M_needList_46 rfl ?_
      rw [e78]
      refine gx_icmp_ge (tgt := 107) (q := 50) hG d_M_needList_47 rfl rfl (by omega) (by omega) (fun c47 => ?_) (fun c47 => ?_)
      · exfalso; omega
      · refine gx_iload2 (q := 51) hG d_M_needList_50 rfl ?_
        refine gx_if_eq (tgt := 107) (q := 54) hG d_M_needList_51 rfl rfl (by omega) (fun c51 => ?_) (fun c51 => ?_)
        · exact absurd c51 (by decide)
        · refine gx_aload0 (q := 55) hG d_M_needList_54 rfl ?_
          refine gx_iload1 (q := 56) hG d_M_needList_55 rfl ?_
          refine gx_iload3 (q := 57) hG d_M_needList_56 rfl ?_
          refine gw_V2X (q := 60) hG l_M_118 c_M_rowAt (ev_M_rowAt hr (by omega)) hpM rfl (by decide) (Nat.le_of_ble_eq_true rfl) d_M_needList_57 rfl (by decide) ?_
          rw [e79]
          refine gx_istore4 (q := 62) hG d_M_needList_60 rfl rfl ?_
          refine gx_iload4 (q := 64) hG d_M_needList_62 rfl ?_
          refine gx_iconst (q := 65) hG d_M_needList_64 rfl ?_
          refine gx_bipush (q := 67) hG d_M_needList_65 rfl rfl ?_
          refine gw_S3X (q := 70) hG l_M_96 c_M_in (ev_M_in (by omega) (by omega) (by omega)) (by decide) (Nat.le_of_ble_eq_true rfl) d_M_needList_67 rfl (by decide) ?_
          refine gx_if_eq (tgt := 87) (q := 73) hG d_M_needList_70 rfl rfl (bi_R _) (fun c70 => ?_) (fun c70 => ?_)
          · have c70 := bi_eq0.mp c70
            refine gx_iconst (q := 88) hG d_M_needList_87 rfl ?_
            refine gx_istore2 (q := 89) hG d_M_needList_88 rfl rfl ?_
            refine gx_iload2 (q := 90) hG d_M_needList_89 rfl ?_
            refine gx_if_eq (tgt := 101) (q := 93) hG d_M_needList_90 rfl rfl (by omega) (fun c90 => ?_) (fun c90 => ?_)
            · refine gx_iinc3 (q := 104) hG d_M_needList_101 rfl rfl ?_
              refine gx_goto (tgt := 40) hG d_M_needList_104 rfl ?_
              first
                | (exfalso; omega)
                | (refine ih (k + 1) _ _ (by omega) rfl (fun b hb => by rw [wu_ne hb, h2 b hb]) (fun v v0 v1 => ?_) (gs.mpr ⟨h4, by omega, fun q => by have := b2.mpr q; omega⟩) (fun v v0 v1 => ?_)
                   · rw [wu_at]
                     unfold up
                     split
                     · exact Or.inr rfl
                     · exact h3 v v0 v1
                   · rw [wu_at]
                     unfold up
                     by_cases c : v = x
                     · rw [if_pos c]
                       exact ⟨fun _ => ⟨k, by omega, by omega, by rw [c, hx]⟩, fun _ => rfl⟩
                     · rw [if_neg c, h5 v v0 v1]
                       constructor
                       · rintro ⟨i, i0, i1, i2⟩; exact ⟨i, i0, by omega, i2⟩
                       · rintro ⟨i, i0, i1, i2⟩
                         by_cases d : i = k
                         · rw [d] at i2
                           exact absurd (i2.symm.trans hx.symm) c
                         · exact ⟨i, i0, by omega, i2⟩)
                | exact N _ 0 _ W (by omega) (bad (fun q => by omega)) h2 (by omega)
                | exact N _ 0 _ W (by omega) (bad (fun q => q.2 (b2.mp (by omega)))) h2 (by omega)
            · refine gx_aload0 (q := 94) hG d_M_needList_93 rfl ?_
              refine gx_get (q := 97) hG f_M_79 hpM rfl d_M_needList_94 rfl ?_
              refine gx_iload4 (q := 99) hG d_M_needList_97 rfl ?_
              refine gx_iconst (q := 100) hG d_M_needList_99 rfl ?_
              refine gw_zast (q := 101) hG rfl (by omega) (by omega) (by first | decide | omega) d_M_needList_100 rfl ?_
              refine gx_iinc3 (q := 104) hG d_M_needList_101 rfl rfl ?_
              refine gx_goto (tgt := 40) hG d_M_needList_104 rfl ?_
              first
                | (exfalso; omega)
                | (refine ih (k + 1) _ _ (by omega) rfl (fun b hb => by rw [wu_ne hb, h2 b hb]) (fun v v0 v1 => ?_) (gs.mpr ⟨h4, by omega, fun q => by have := b2.mpr q; omega⟩) (fun v v0 v1 => ?_)
                   · rw [wu_at]
                     unfold up
                     split
                     · exact Or.inr rfl
                     · exact h3 v v0 v1
                   · rw [wu_at]
                     unfold up
                     by_cases c : v = x
                     · rw [if_pos c]
                       exact ⟨fun _ => ⟨k, by omega, by omega, by rw [c, hx]⟩, fun _ => rfl⟩
                     · rw [if_neg c, h5 v v0 v1]
                       constructor
                       · rintro ⟨i, i0, i1, i2⟩; exact ⟨i, i0, by omega, i2⟩
                       · rintro ⟨i, i0, i1, i2⟩
                         by_cases d : i = k
                         · rw [d] at i2
                           exact absurd (i2.symm.trans hx.symm) c
                         · exact ⟨i, i0, by omega, i2⟩)
                | exact N _ 0 _ W (by omega) (bad (fun q => by omega)) h2 (by omega)
                | exact N _ 0 _ W (by omega) (bad (fun q => q.2 (b2.mp (by omega)))) h2 (by omega)
          · have c70 := bi_ne0.mp c70
            have b1 := h3 x (by omega) (by omega)
            have b2 := h5 x (by omega) (by omega)
            refine gx_aload0 (q := 74) hG d_M_needList_73 rfl ?_
            refine gx_get (q := 77) hG f_M_79 hpM rfl d_M_needList_74 rfl ?_
            refine gx_iload4 (q := 79) hG d_M_needList_77 rfl ?_
            refine gw_zald (q := 80) hG rfl (by omega) (by omega) d_M_needList_79 rfl ?_
            refine gx_if_ne (tgt := 87) (q := 83) hG d_M_needList_80 rfl rfl (by omega) (fun c80 => ?_) (fun c80 => ?_)
            · refine gx_iconst (q := 88) hG d_M_needList_87 rfl ?_
              refine gx_istore2 (q := 89) hG d_M_needList_88 rfl rfl ?_
              refine gx_iload2 (q := 90) hG d_M_needList_89 rfl ?_
              refine gx_if_eq (tgt := 101) (q := 93) hG d_M_needList_90 rfl rfl (by omega) (fun c90 => ?_) (fun c90 => ?_)
              · refine gx_iinc3 (q := 104) hG d_M_needList_101 rfl rfl ?_
                refine gx_goto (tgt := 40) hG d_M_needList_104 rfl ?_
                first
                  | (exfalso; omega)
                  | (refine ih (k + 1) _ _ (by omega) rfl (fun b hb => by rw [wu_ne hb, h2 b hb]) (fun v v0 v1 => ?_) (gs.mpr ⟨h4, by omega, fun q => by have := b2.mpr q; omega⟩) (fun v v0 v1 => ?_)
                     · rw [wu_at]
                       unfold up
                       split
                       · exact Or.inr rfl
                       · exact h3 v v0 v1
                     · rw [wu_at]
                       unfold up
                       by_cases c : v = x
                       · rw [if_pos c]
                         exact ⟨fun _ => ⟨k, by omega, by omega, by rw [c, hx]⟩, fun _ => rfl⟩
                       · rw [if_neg c, h5 v v0 v1]
                         constructor
                         · rintro ⟨i, i0, i1, i2⟩; exact ⟨i, i0, by omega, i2⟩
                         · rintro ⟨i, i0, i1, i2⟩
                           by_cases d : i = k
                           · rw [d] at i2
                             exact absurd (i2.symm.trans hx.symm) c
                           · exact ⟨i, i0, by omega, i2⟩)
                  | exact N _ 0 _ W (by omega) (bad (fun q => by omega)) h2 (by omega)
                  | exact N _ 0 _ W (by omega) (bad (fun q => q.2 (b2.mp (by omega)))) h2 (by omega)
              · refine gx_aload0 (q := 94) hG d_M_needList_93 rfl ?_
                refine gx_get (q := 97) hG f_M_79 hpM rfl d_M_needList_94 rfl ?_
                refine gx_iload4 (q := 99) hG d_M_needList_97 rfl ?_
                refine gx_iconst (q := 100) hG d_M_needList_99 rfl ?_
                refine gw_zast (q := 101) hG rfl (by omega) (by omega) (by first | decide | omega) d_M_needList_100 rfl ?_
                refine gx_iinc3 (q := 104) hG d_M_needList_101 rfl rfl ?_
                refine gx_goto (tgt := 40) hG d_M_needList_104 rfl ?_
                first
                  | (exfalso; omega)
                  | (refine ih (k + 1) _ _ (by omega) rfl (fun b hb => by rw [wu_ne hb, h2 b hb]) (fun v v0 v1 => ?_) (gs.mpr ⟨h4, by omega, fun q => by have := b2.mpr q; omega⟩) (fun v v0 v1 => ?_)
                     · rw [wu_at]
                       unfold up
                       split
                       · exact Or.inr rfl
                       · exact h3 v v0 v1
                     · rw [wu_at]
                       unfold up
                       by_cases c : v = x
                       · rw [if_pos c]
                         exact ⟨fun _ => ⟨k, by omega, by omega, by rw [c, hx]⟩, fun _ => rfl⟩
                       · rw [if_neg c, h5 v v0 v1]
                         constructor
                         · rintro ⟨i, i0, i1, i2⟩; exact ⟨i, i0, by omega, i2⟩
                         · rintro ⟨i, i0, i1, i2⟩
                           by_cases d : i = k
                           · rw [d] at i2
                             exact absurd (i2.symm.trans hx.symm) c
                           · exact ⟨i, i0, by omega, i2⟩)
                  | exact N _ 0 _ W (by omega) (bad (fun q => by omega)) h2 (by omega)
                  | exact N _ 0 _ W (by omega) (bad (fun q => q.2 (b2.mp (by omega)))) h2 (by omega)
            · refine gx_iconst (q := 84) hG d_M_needList_83 rfl ?_
              refine gx_goto (tgt := 88) hG d_M_needList_84 rfl ?_
              refine gx_istore2 (q := 89) hG d_M_needList_88 rfl rfl ?_
              refine gx_iload2 (q := 90) hG d_M_needList_89 rfl ?_
              refine gx_if_eq (tgt := 101) (q := 93) hG d_M_needList_90 rfl rfl (by omega) (fun c90 => ?_) (fun c90 => ?_)
              · refine gx_iinc3 (q := 104) hG d_M_needList_101 rfl rfl ?_
                refine gx_goto (tgt := 40) hG d_M_needList_104 rfl ?_
                first
                  | (exfalso; omega)
                  | (refine ih (k + 1) _ _ (by omega) rfl (fun b hb => by rw [wu_ne hb, h2 b hb]) (fun v v0 v1 => ?_) (gs.mpr ⟨h4, by omega, fun q => by have := b2.mpr q; omega⟩) (fun v v0 v1 => ?_)
                     · rw [wu_at]
                       unfold up
                       split
                       · exact Or.inr rfl
                       · exact h3 v v0 v1
                     · rw [wu_at]
                       unfold up
                       by_cases c : v = x
                       · rw [if_pos c]
                         exact ⟨fun _ => ⟨k, by omega, by omega, by rw [c, hx]⟩, fun _ => rfl⟩
                       · rw [if_neg c, h5 v v0 v1]
                         constructor
                         · rintro ⟨i, i0, i1, i2⟩; exact ⟨i, i0, by omega, i2⟩
                         · rintro ⟨i, i0, i1, i2⟩
                           by_cases d : i = k
                           · rw [d] at i2
                             exact absurd (i2.symm.trans hx.symm) c
                           · exact ⟨i, i0, by omega, i2⟩)
                  | exact N _ 0 _ W (by omega) (bad (fun q => by omega)) h2 (by omega)
                  | exact N _ 0 _ W (by omega) (bad (fun q => q.2 (b2.mp (by omega)))) h2 (by omega)
              · refine gx_aload0 (q := 94) hG d_M_needList_93 rfl ?_
                refine gx_get (q := 97) hG f_M_79 hpM rfl d_M_needList_94 rfl ?_
                refine gx_iload4 (q := 99) hG d_M_needList_97 rfl ?_
                refine gx_iconst (q := 100) hG d_M_needList_99 rfl ?_
                refine gw_zast (q := 101) hG rfl (by omega) (by omega) (by first | decide | omega) d_M_needList_100 rfl ?_
                refine gx_iinc3 (q := 104) hG d_M_needList_101 rfl rfl ?_
                refine gx_goto (tgt := 40) hG d_M_needList_104 rfl ?_
                first
                  | (exfalso; omega)
                  | (refine ih (k + 1) _ _ (by omega) rfl (fun b hb => by rw [wu_ne hb, h2 b hb]) (fun v v0 v1 => ?_) (gs.mpr ⟨h4, by omega, fun q => by have := b2.mpr q; omega⟩) (fun v v0 v1 => ?_)
                     · rw [wu_at]
                       unfold up
                       split
                       · exact Or.inr rfl
                       · exact h3 v v0 v1
                     · rw [wu_at]
                       unfold up
                       by_cases c : v = x
                       · rw [if_pos c]
                         exact ⟨fun _ => ⟨k, by omega, by omega, by rw [c, hx]⟩, fun _ => rfl⟩
                       · rw [if_neg c, h5 v v0 v1]
                         constructor
                         · rintro ⟨i, i0, i1, i2⟩; exact ⟨i, i0, by omega, i2⟩
                         · rintro ⟨i, i0, i1, i2⟩
                           by_cases d : i = k
                           · rw [d] at i2
                             exact absurd (i2.symm.trans hx.symm) c
                           · exact ⟨i, i0, by omega, i2⟩)
                  | exact N _ 0 _ W (by omega) (bad (fun q => by omega)) h2 (by omega)
                  | exact N _ 0 _ W (by omega) (bad (fun q => q.2 (b2.mp (by omega)))) h2 (by omega)
  have Z : ∀ (j k : Nat) (W : Mem), k + j = 122 → 0 ≤ w 78 r → (∀ b, b ≠ 99 → W b = w b) → (∀ v, 0 ≤ v → v < (k : Int) → W 99 v = 0) → G 17 [some (Vr 76), some (Vi r), some (Vi (k : Int)), none, none] [] 102 (hp W) := by
    intro j
    induction j with
    | zero =>
      intro k W h1 h0 h2 h3
      refine gx_iload2 (q := 18) hG d_M_needList_17 rfl ?_
      refine gx_bipush (q := 20) hG d_M_needList_18 rfl rfl ?_
      refine gx_icmp_ge (tgt := 36) (q := 23) hG d_M_needList_20 rfl rfl (by omega) (by omega) (fun c20 => ?_) (fun c20 => ?_)
      · refine gx_iconst (q := 37) hG d_M_needList_36 rfl ?_
        refine gx_istore2 (q := 38) hG d_M_needList_37 rfl rfl ?_
        refine gx_iconst (q := 39) hG d_M_needList_38 rfl ?_
        refine gx_istore3 (q := 40) hG d_M_needList_39 rfl rfl ?_
        exact L (w 78 r).toNat 0 W none (by omega) rfl h2 (fun v v0 v1 => Or.inl (h3 v v0 (by omega))) ⟨fun i i0 i1 => by omega, fun i j i0 ij j1 => by omega⟩ (fun v v0 v1 => ⟨fun q => by have := h3 v (by omega) (by omega); omega, fun ⟨i, i0, i1, i2⟩ => by omega⟩)
      · exfalso; omega
    | succ j ih =>
      intro k W h1 h0 h2 h3
      refine gx_iload2 (q := 18) hG d_M_needList_17 rfl ?_
      refine gx_bipush (q := 20) hG d_M_needList_18 rfl rfl ?_
      refine gx_icmp_ge (tgt := 36) (q := 23) hG d_M_needList_20 rfl rfl (by omega) (by omega) (fun c20 => ?_) (fun c20 => ?_)
      · exfalso; omega
      · refine gx_aload0 (q := 24) hG d_M_needList_23 rfl ?_
        refine gx_get (q := 27) hG f_M_79 hpM rfl d_M_needList_24 rfl ?_
        refine gx_iload2 (q := 28) hG d_M_needList_27 rfl ?_
        refine gx_iconst (q := 29) hG d_M_needList_28 rfl ?_
        refine gw_zast (q := 30) hG rfl (by omega) (by omega) (by first | decide | omega) d_M_needList_29 rfl ?_
        refine gx_iinc2 (q := 33) hG d_M_needList_30 rfl rfl ?_
        refine gx_goto (tgt := 17) hG d_M_needList_33 rfl ?_
        refine ih (k + 1) _ (by omega) h0 (fun b hb => by rw [wu_ne hb, h2 b hb]) (fun v v0 v1 => ?_)
        rw [wu_at]
        unfold up
        split
        · rfl
        · exact h3 v v0 (by omega)
  refine gx_aload0 (q := 1) hG d_M_needList_0 rfl ?_
  refine gx_get (q := 4) hG f_M_13 hpM rfl d_M_needList_1 rfl ?_
  refine gx_iload1 (q := 5) hG d_M_needList_4 rfl ?_
  refine gw_iald (q := 6) hG rfl (by omega) (by omega) d_M_needList_5 rfl ?_
  refine gx_if_ge (tgt := 15) (q := 9) hG d_M_needList_6 rfl rfl (by omega) (fun c6 => ?_) (fun c6 => ?_)
  · refine gx_iconst (q := 16) hG d_M_needList_15 rfl ?_
    refine gx_istore2 (q := 17) hG d_M_needList_16 rfl rfl ?_
    exact Z 122 0 w (by omega) (by omega) (fun _ _ => rfl) (fun v v0 v1 => by omega)
  · refine gx_aload0 (q := 10) hG d_M_needList_9 rfl ?_
    refine gx_iconst (q := 11) hG d_M_needList_10 rfl ?_
    refine gw_V1I (q := 14) hG l_M_114 c_M_meets (ev_M_meets (by omega)) hpM rfl (by decide) (Nat.le_of_ble_eq_true rfl) d_M_needList_11 rfl (by decide) (fun z w1 h11 => ?_)
    refine gx_ireturn hG d_M_needList_14 rfl rfl ?_
    refine ⟨_, rfl, _, rfl, Or.inl ⟨h11.1, by omega, h11.2⟩⟩
theorem wrZ_M {w : Mem} {s : Sta} {r : Int} (hB : ∀ v, 1 ≤ v → v < 122 → (w 99 v = 1 ↔ gL s r v)) : wrZ (fun v => w 99 v = 1) = wrZ (gL s r) := by
  unfold wrZ
  rw [leastZ_congr (P := fun u => u ≤ 60 ∧ w 99 u = 1 ∧ paidP (fun v => w 99 v = 1) u) (Q := fun u => u ≤ 60 ∧ gL s r u ∧ paidP (gL s r) u) (fun v hv => ?_)]
  constructor
  · rintro ⟨a, b, x, c1, c2, c3, c4⟩
    exact ⟨a, (hB v hv (by omega)).mp b, x, c1, c2, fun q => c3 ((hB x c1 (by omega)).mpr q), fun q => c4 ((hB (v - x) (by omega) (by omega)).mpr q)⟩
  · rintro ⟨a, b, x, c1, c2, c3, c4⟩
    exact ⟨a, (hB v hv (by omega)).mpr b, x, c1, c2, fun q => c3 ((hB x c1 (by omega)).mp q), fun q => c4 ((hB (v - x) (by omega) (by omega)).mp q)⟩
theorem makerP_M {w : Mem} {s : Sta} {r v : Int} (hB : ∀ v, 1 ≤ v → v < 122 → (w 99 v = 1 ↔ gL s r v)) (hv : 1 ≤ v ∧ v < 122) : makerP (fun v => w 99 v = 1) v ↔ makerP (gL s r) v := by
  unfold makerP
  refine and_congr (not_congr (hB v hv.1 hv.2)) (not_congr ?_)
  constructor
  · rintro ⟨x, c1, c2, c3, c4⟩
    exact ⟨x, c1, c2, fun q => c3 ((hB x c1 (by omega)).mpr q), fun q => c4 ((hB (v - x) (by omega) (by omega)).mpr q)⟩
  · rintro ⟨x, c1, c2, c3, c4⟩
    exact ⟨x, c1, c2, fun q => c3 ((hB x c1 (by omega)).mp q), fun q => c4 ((hB (v - x) (by omega) (by omega)).mp q)⟩
theorem ev_M_list {w : Mem} {r : Int} (hO : OK (aM w)) (hr : R3 r) : EvI y_M_list b_M_list 4 (some .int) (3) [Vr 76, Vi r] w (PM w (sp_list (aM w) r)) := by
  refine Ev.mk (isI := false) (by decide +kernel) nofun (Nat.le_of_ble_eq_true rfl) (fun G hG => ?_)
  show G 0 [some (Vr 76), some (Vi r), none, none] [] 102 (hp w)
  have hwb := wrZ_bd (g := gL (aM w) r)
  refine gx_iload1 (q := 1) hG d_M_list_0 rfl ?_
  refine gw_S1X (q := 4) hG l_M_110 c_M_isRow (ev_M_isRow (by omega)) (by decide) (Nat.le_of_ble_eq_true rfl) d_M_list_1 rfl (by decide) ?_
  refine gx_if_ne (tgt := 9) (q := 7) hG d_M_list_4 rfl rfl (bi_R _) (fun c4 => ?_) (fun c4 => ?_)
  · have c4 := bi_ne0.mp c4
    refine gx_aload0 (q := 10) hG d_M_list_9 rfl ?_
    refine gx_iload1 (q := 11) hG d_M_list_10 rfl ?_
    refine gw_V1I (q := 14) hG l_M_298 c_M_needList (ev_M_needList hO (by omega)) hpM rfl (by decide) (Nat.le_of_ble_eq_true rfl) d_M_list_11 rfl (by decide) (fun z11 w1 h11 => ?_)
    refine gx_istore2 (q := 15) hG d_M_list_14 rfl rfl ?_
    refine gx_iload2 (q := 16) hG d_M_list_15 rfl ?_
    refine gx_if_ge (tgt := 21) (q := 19) hG d_M_list_16 rfl rfl (by rcases h11 with h | h | h <;> omega) (fun c16 => ?_) (fun c16 => ?_)
    · obtain ⟨h0, hok, hz, f1, f2, f3⟩ : 0 ≤ aM w 0 r ∧ okL (aM w) r ∧ z11 = 0 ∧ (∀ b, b ≠ 99 → w1 b = w b) ∧ B01 (w1 99) ∧ ∀ v, 1 ≤ v → v < 122 → (w1 99 v = 1 ↔ gL (aM w) r v) := by rcases h11 with h | h | h; (· omega); (· omega); (· exact h)
      have hs : SM w w1 := SM_scr (fun b hb => f1 b (by omega))
      refine gx_aload0 (q := 22) hG d_M_list_21 rfl ?_
      refine gw_V0X (q := 25) hG l_M_301 c_M_wrongSum (ev_M_wrongSum f2) hpM rfl (by decide) (Nat.le_of_ble_eq_true rfl) d_M_list_22 rfl (by decide) ?_
      rw [wrZ_M f3]
      refine gx_istore3 (q := 26) hG d_M_list_25 rfl rfl ?_
      refine gx_aload0 (q := 27) hG d_M_list_26 rfl ?_
      refine gx_iload3 (q := 28) hG d_M_list_27 rfl ?_
      refine gx_iload3 (q := 29) hG d_M_list_28 rfl ?_
      refine gx_if_ne (tgt := 36) (q := 32) hG d_M_list_29 rfl rfl (by omega) (fun c29 => ?_) (fun c29 => ?_)
      · refine gx_iconst (q := 37) hG d_M_list_36 rfl ?_
        refine gw_V2I (q := 40) hG l_M_121 c_M_tells (ev_M_tells) hpM rfl (by decide) (Nat.le_of_ble_eq_true rfl) d_M_list_37 rfl (by decide) (fun z37 w3 h37 => ?_)
        refine gx_ireturn hG d_M_list_40 rfl rfl ?_
        refine ⟨_, rfl, _, rfl, ?_⟩
        unfold sp_list; rw [if_neg (by omega), if_neg (by omega), if_neg (by rw [bi_t hok]; decide)]
        obtain ⟨rfl, rfl⟩ := h37
        rw [← hs.1]
        first
          | (rw [if_pos (by rw [hs.1]; omega)]; exact PM_tr hs PM_aside)
          | (rw [if_neg (by rw [hs.1]; omega)]; exact PM_tr hs PM_aside)
      · refine gx_iconst (q := 33) hG d_M_list_32 rfl ?_
        refine gx_goto (tgt := 37) hG d_M_list_33 rfl ?_
        refine gw_V2I (q := 40) hG l_M_121 c_M_tells (ev_M_tells) hpM rfl (by decide) (Nat.le_of_ble_eq_true rfl) d_M_list_37 rfl (by decide) (fun z37 w3 h37 => ?_)
        refine gx_ireturn hG d_M_list_40 rfl rfl ?_
        refine ⟨_, rfl, _, rfl, ?_⟩
        unfold sp_list; rw [if_neg (by omega), if_neg (by omega), if_neg (by rw [bi_t hok]; decide)]
        obtain ⟨rfl, rfl⟩ := h37
        rw [← hs.1]
        first
          | (rw [if_pos (by rw [hs.1]; omega)]; exact PM_tr hs PM_aside)
          | (rw [if_neg (by rw [hs.1]; omega)]; exact PM_tr hs PM_aside)
    · refine gx_iload2 (q := 20) hG d_M_list_19 rfl ?_
      refine gx_ireturn hG d_M_list_20 rfl rfl ?_
      refine ⟨_, rfl, _, rfl, ?_⟩
      unfold sp_list; rw [if_neg (by omega)]
      rcases h11 with ⟨rfl, h, rfl⟩ | ⟨h0, hng, rfl, w2, hs2, rfl⟩ | h
      · rw [if_pos h]; exact PM_fd (by omega)
      · rw [if_neg (by omega), if_pos (bi_f hng), ← hs2.1]; exact PM_tr hs2 (PM_fd (by omega))
      · omega
  · have c4 := bi_eq0.mp c4
    refine gx_iconst (q := 8) hG d_M_list_7 rfl ?_
    refine gx_ireturn hG d_M_list_8 rfl rfl ?_
    refine ⟨_, rfl, _, rfl, ?_⟩
    unfold sp_list; rw [if_pos (by omega)]; exact PM_id
theorem ev_M_makes {w : Mem} {r t : Int} (hO : OK (aM w)) (hr : R3 r) (ht : R3 t) : EvI y_M_makes b_M_makes 6 (some .int) (3) [Vr 76, Vi r, Vi t] w (PM w (sp_makes (aM w) r t)) := by
  refine Ev.mk (isI := false) (by decide +kernel) nofun (Nat.le_of_ble_eq_true rfl) (fun G hG => ?_)
  show G 0 [some (Vr 76), some (Vi r), some (Vi t), none, none, none] [] 102 (hp w)
  have hwb := wrZ_bd (g := gL (aM w) r)
  have L : ∀ (j k : Nat) (w1 W : Mem), k + j = 121 → (0 ≤ r ∧ r < 6) → (0 ≤ t ∧ t < 6) → 0 ≤ aM w 0 r → okL (aM w) r → wrZ (gL (aM w) r) = 0 → SM w w1 → B01 (w1 99) → (∀ v, 1 ≤ v → v < 122 → (w1 99 v = 1 ↔ gL (aM w) r v)) → (∀ b, b ≠ 79 → W b = w1 b) → (∀ j, ¬ (60 * t ≤ j ∧ j < 60 * t + 60) → W 79 j = w1 79 j) → (∀ i, 0 ≤ i → i < 60 → W 79 (60 * t + i) = flF (makerP (gL (aM w) r)) k i) → G 76 [some (Vr 76), some (Vi r), some (Vi t), some (Vi 0), some (Vi (cn (makerP (gL (aM w) r)) k)), some (Vi ((k : Int) + 1))] [] 102 (hp W) := by
    intro j
    induction j with
    | zero =>
      intro k w1 W h1 hrr htt h0 hok hwr hs f2 f3 g1 g2 g3
      have hk : k = 121 := by omega
      subst hk
      have hcn := cn_bd (P := makerP (gL (aM w) r)) 121
      refine gx_iload5 (q := 78) hG d_M_makes_76 rfl ?_
      refine gx_bipush (q := 80) hG d_M_makes_78 rfl rfl ?_
      refine gx_icmp_ge (tgt := 122) (q := 83) hG d_M_makes_80 rfl rfl (by omega) (by omega) (fun c80 => ?_) (fun c80 => ?_)
      · refine gx_aload0 (q := 123) hG d_M_makes_122 rfl ?_
        refine gx_get (q := 126) hG f_M_13 hpM rfl d_M_makes_123 rfl ?_
        refine gx_iload2 (q := 127) hG d_M_makes_126 rfl ?_
        refine gx_iload4 (q := 129) hG d_M_makes_127 rfl ?_
        refine gx_bipush (q := 131) hG d_M_makes_129 rfl rfl ?_
        refine gw_S2X (q := 134) hG l_M_128 c_M_lesser (ev_M_lesser (by omega) (by omega)) (by decide) (Nat.le_of_ble_eq_true rfl) d_M_makes_131 rfl (by decide) ?_
        refine gw_iast (q := 135) hG rfl (by omega) (by omega) d_M_makes_134 rfl ?_
        refine gx_iload4 (q := 137) hG d_M_makes_135 rfl ?_
        refine gx_ireturn hG d_M_makes_137 rfl rfl ?_
        refine ⟨_, rfl, _, rfl, ?_⟩
        unfold sp_makes; rw [if_neg (by omega), if_neg (by omega), if_neg (by rw [bi_t hok, hwr]; decide)]
        have em : (if cn (makerP (gL (aM w) r)) 121 < 60 then cn (makerP (gL (aM w) r)) 121 else 60) = min (cn (makerP (gL (aM w) r)) 121) 60 := by split <;> omega
        rw [em]
        refine ⟨rfl, ?_, fun b hb => by rw [wu_ne (by omega), g1 b (by omega), hs.2 b hb]⟩
        exact (aM_fl (N := 121) htt hs (Nat.le_refl _) (Or.inr (fun u u0 u1 => by omega)) (fun b b1 b2 => by rw [wu_ne b1, g1 b b2]) (fun j hj => by rw [wu_pl hj, g1 78 (by omega)]) wu_eq (fun j hj => by rw [wu_ne (by omega)]; exact g2 j hj) (fun i i0 i1 => by rw [wu_ne (by omega)]; exact g3 i i0 i1)).1
      · exfalso; omega
    | succ j ih =>
      intro k w1 W h1 hrr htt h0 hok hwr hs f2 f3 g1 g2 g3
      have hcn := cn_bd (P := makerP (gL (aM w) r)) k
      have e99 : W 99 = w1 99 := g1 99 (by omega)
      have hmk := makerP_M (w := w1) (v := (k : Int) + 1) f3 (by omega)
      have cs : cn (makerP (gL (aM w) r)) (k + 1) = cn (makerP (gL (aM w) r)) k + bi (makerP (gL (aM w) r) ((k : Int) + 1)) := rfl
      have fs : flF (makerP (gL (aM w) r)) (k + 1) = if bi (makerP (gL (aM w) r) ((k : Int) + 1)) = 1 ∧ cn (makerP (gL (aM w) r)) k < 60 then up (flF (makerP (gL (aM w) r)) k) (cn (makerP (gL (aM w) r)) k) ((k : Int) + 1) else flF (makerP (gL (aM w) r)) k := rfl
      refine gx_iload5 (q := 78) hG d_M_makes_76 rfl ?_
      refine gx_bipush (q := 80) hG d_M_makes_78 rfl rfl ?_
      refine gx_icmp_ge (tgt := 122) (q := 83) hG d_M_makes_80 rfl rfl (by omega) (by omega) (fun c80 => ?_) (fun c80 => ?_)
      · exfalso; omega
      · refine gx_aload0 (q := 84) hG d_M_makes_83 rfl ?_
        refine gx_iload5 (q := 86) hG d_M_makes_84 rfl ?_
        refine gw_V1X (q := 89) hG l_M_304 c_M_isMaker (ev_M_isMaker (by rw [e99]; exact f2) (by omega)) hpM rfl (by decide) (Nat.le_of_ble_eq_true rfl) d_M_makes_86 rfl (by decide) ?_
        rw [e99, propext hmk]
        refine gx_if_eq (tgt := 116) (q := 92) hG d_M_makes_89 rfl rfl (bi_R _) (fun c89 => ?_) (fun c89 => ?_)
        · have c89 := bi_eq0.mp c89
          rw [bi_f c89, Int.add_zero] at cs
          rw [bi_f c89, if_neg (by omega)] at fs
          refine gx_iinc5 (q := 119) hG d_M_makes_116 rfl rfl ?_
          refine gx_goto (tgt := 76) hG d_M_makes_119 rfl ?_
          first
            | (have e := ih (k + 1) w1 W (by omega) hrr htt h0 hok hwr hs f2 f3 g1 g2 (by rw [fs]; exact g3)
               rw [cs] at e
               exact e)
            | (have e := ih (k + 1) w1 (wu W 79 (60 * t + cn (makerP (gL (aM w) r)) k) ((k : Int) + 1)) (by omega) hrr htt h0 hok hwr hs f2 f3 (fun b hb => by rw [wu_ne hb, g1 b hb]) (fun j hj => by rw [wu_pl (by omega)]; exact g2 j hj) (fun i i0 i1 => by
                 rw [fs, wu_at]
                 unfold up
                 by_cases c : i = cn (makerP (gL (aM w) r)) k
                 · rw [if_pos (by omega), if_pos c]
                 · rw [if_neg (by omega), if_neg c]; exact g3 i i0 i1)
               rw [cs] at e
               exact e)
        · have c89 := bi_ne0.mp c89
          rw [bi_t c89] at cs fs
          refine gx_iload4 (q := 94) hG d_M_makes_92 rfl ?_
          refine gx_bipush (q := 96) hG d_M_makes_94 rfl rfl ?_
          refine gx_icmp_ge (tgt := 113) (q := 99) hG d_M_makes_96 rfl rfl (by omega) (by omega) (fun c96 => ?_) (fun c96 => ?_)
          · rw [if_neg (by omega)] at fs
            refine gx_iinc4 (q := 116) hG d_M_makes_113 rfl rfl ?_
            refine gx_iinc5 (q := 119) hG d_M_makes_116 rfl rfl ?_
            refine gx_goto (tgt := 76) hG d_M_makes_119 rfl ?_
            first
              | (have e := ih (k + 1) w1 W (by omega) hrr htt h0 hok hwr hs f2 f3 g1 g2 (by rw [fs]; exact g3)
                 rw [cs] at e
                 exact e)
              | (have e := ih (k + 1) w1 (wu W 79 (60 * t + cn (makerP (gL (aM w) r)) k) ((k : Int) + 1)) (by omega) hrr htt h0 hok hwr hs f2 f3 (fun b hb => by rw [wu_ne hb, g1 b hb]) (fun j hj => by rw [wu_pl (by omega)]; exact g2 j hj) (fun i i0 i1 => by
                   rw [fs, wu_at]
                   unfold up
                   by_cases c : i = cn (makerP (gL (aM w) r)) k
                   · rw [if_pos (by omega), if_pos c]
                   · rw [if_neg (by omega), if_neg c]; exact g3 i i0 i1)
                 rw [cs] at e
                 exact e)
          · rw [if_pos ⟨rfl, by omega⟩] at fs
            refine gx_aload0 (q := 100) hG d_M_makes_99 rfl ?_
            refine gx_get (q := 103) hG f_M_16 hpM rfl d_M_makes_100 rfl ?_
            refine gx_bipush (q := 105) hG d_M_makes_103 rfl rfl ?_
            refine gx_iload2 (q := 106) hG d_M_makes_105 rfl ?_
            refine gx_imul (q := 107) hG d_M_makes_106 rfl ?_
            refine gx_iload4 (q := 109) hG d_M_makes_107 rfl ?_
            refine gx_iadd (q := 110) hG d_M_makes_109 rfl ?_
            refine gx_iload5 (q := 112) hG d_M_makes_110 rfl ?_
            refine gw_iast (q := 113) hG rfl (by omega) (by omega) d_M_makes_112 rfl ?_
            refine gx_iinc4 (q := 116) hG d_M_makes_113 rfl rfl ?_
            refine gx_iinc5 (q := 119) hG d_M_makes_116 rfl rfl ?_
            refine gx_goto (tgt := 76) hG d_M_makes_119 rfl ?_
            first
              | (have e := ih (k + 1) w1 W (by omega) hrr htt h0 hok hwr hs f2 f3 g1 g2 (by rw [fs]; exact g3)
                 rw [cs] at e
                 exact e)
              | (have e := ih (k + 1) w1 (wu W 79 (60 * t + cn (makerP (gL (aM w) r)) k) ((k : Int) + 1)) (by omega) hrr htt h0 hok hwr hs f2 f3 (fun b hb => by rw [wu_ne hb, g1 b hb]) (fun j hj => by rw [wu_pl (by omega)]; exact g2 j hj) (fun i i0 i1 => by
                   rw [fs, wu_at]
                   unfold up
                   by_cases c : i = cn (makerP (gL (aM w) r)) k
                   · rw [if_pos (by omega), if_pos c]
                   · rw [if_neg (by omega), if_neg c]; exact g3 i i0 i1)
                 rw [cs] at e
                 exact e)
  have Z : ∀ (j k : Nat) (w1 : Mem), k + j = 60 → (0 ≤ r ∧ r < 6) → (0 ≤ t ∧ t < 6) → 0 ≤ aM w 0 r → okL (aM w) r → wrZ (gL (aM w) r) = 0 → SM w w1 → B01 (w1 99) → (∀ v, 1 ≤ v → v < 122 → (w1 99 v = 1 ↔ gL (aM w) r v)) → G 47 [some (Vr 76), some (Vi r), some (Vi t), some (Vi 0), some (Vi 0), some (Vi (k : Int))] [] 102 (hp (wc w1 79 (fillR (60 * t) k (w1 79) 0))) := by
    intro j
    induction j with
    | zero =>
      intro k w1 h1 hrr htt h0 hok hwr hs f2 f3
      refine gx_iload5 (q := 49) hG d_M_makes_47 rfl ?_
      refine gx_bipush (q := 51) hG d_M_makes_49 rfl rfl ?_
      refine gx_icmp_ge (tgt := 73) (q := 54) hG d_M_makes_51 rfl rfl (by omega) (by omega) (fun c51 => ?_) (fun c51 => ?_)
      · refine gx_iconst (q := 74) hG d_M_makes_73 rfl ?_
        refine gx_istore5 (q := 76) hG d_M_makes_74 rfl rfl ?_
        exact L 121 0 w1 _ (by omega) hrr htt h0 hok hwr hs f2 f3 (fun b hb => by rw [wc_ne hb]) (fun j hj => by rw [wc_eq]; unfold fillR; rw [if_neg (by omega)]) (fun i i0 i1 => by rw [wc_eq]; unfold fillR; rw [if_pos (by omega)]; rfl)
      · exfalso; omega
    | succ j ih =>
      intro k w1 h1 hrr htt h0 hok hwr hs f2 f3
      refine gx_iload5 (q := 49) hG d_M_makes_47 rfl ?_
      refine gx_bipush (q := 51) hG d_M_makes_49 rfl rfl ?_
      refine gx_icmp_ge (tgt := 73) (q := 54) hG d_M_makes_51 rfl rfl (by omega) (by omega) (fun c51 => ?_) (fun c51 => ?_)
      · exfalso; omega
      · refine gx_aload0 (q := 55) hG d_M_makes_54 rfl ?_
        refine gx_get (q := 58) hG f_M_16 hpM rfl d_M_makes_55 rfl ?_
        refine gx_bipush (q := 60) hG d_M_makes_58 rfl rfl ?_
        refine gx_iload2 (q := 61) hG d_M_makes_60 rfl ?_
        refine gx_imul (q := 62) hG d_M_makes_61 rfl ?_
        refine gx_iload5 (q := 64) hG d_M_makes_62 rfl ?_
        refine gx_iadd (q := 65) hG d_M_makes_64 rfl ?_
        refine gx_iconst (q := 66) hG d_M_makes_65 rfl ?_
        refine gw_iast (q := 67) hG rfl (by omega) (by omega) d_M_makes_66 rfl ?_
        rw [fillR_s]
        refine gx_iinc5 (q := 70) hG d_M_makes_67 rfl rfl ?_
        refine gx_goto (tgt := 47) hG d_M_makes_70 rfl ?_
        exact ih (k + 1) w1 (by omega) hrr htt h0 hok hwr hs f2 f3
  refine gx_iload1 (q := 1) hG d_M_makes_0 rfl ?_
  refine gw_S1X (q := 4) hG l_M_110 c_M_isRow (ev_M_isRow (by omega)) (by decide) (Nat.le_of_ble_eq_true rfl) d_M_makes_1 rfl (by decide) ?_
  refine gx_if_eq (tgt := 14) (q := 7) hG d_M_makes_4 rfl rfl (bi_R _) (fun c4 => ?_) (fun c4 => ?_)
  · have c4 := bi_eq0.mp c4
    refine gx_iconst (q := 15) hG d_M_makes_14 rfl ?_
    refine gx_ireturn hG d_M_makes_15 rfl rfl ?_
    refine ⟨_, rfl, _, rfl, ?_⟩
    unfold sp_makes; rw [if_pos (by omega)]; exact PM_id
  · have c4 := bi_ne0.mp c4
    refine gx_iload2 (q := 8) hG d_M_makes_7 rfl ?_
    refine gw_S1X (q := 11) hG l_M_110 c_M_isRow (ev_M_isRow (by omega)) (by decide) (Nat.le_of_ble_eq_true rfl) d_M_makes_8 rfl (by decide) ?_
    refine gx_if_ne (tgt := 16) (q := 14) hG d_M_makes_11 rfl rfl (bi_R _) (fun c11 => ?_) (fun c11 => ?_)
    · have c11 := bi_ne0.mp c11
      refine gx_aload0 (q := 17) hG d_M_makes_16 rfl ?_
      refine gx_iload1 (q := 18) hG d_M_makes_17 rfl ?_
      refine gw_V1I (q := 21) hG l_M_298 c_M_needList (ev_M_needList hO (by omega)) hpM rfl (by decide) (Nat.le_of_ble_eq_true rfl) d_M_makes_18 rfl (by decide) (fun z18 w1 h18 => ?_)
      refine gx_istore3 (q := 22) hG d_M_makes_21 rfl rfl ?_
      refine gx_iload3 (q := 23) hG d_M_makes_22 rfl ?_
      refine gx_if_ge (tgt := 28) (q := 26) hG d_M_makes_23 rfl rfl (by rcases h18 with h | h | h <;> omega) (fun c23 => ?_) (fun c23 => ?_)
      · obtain ⟨h0, hok, rfl, f1, f2, f3⟩ : 0 ≤ aM w 0 r ∧ okL (aM w) r ∧ z18 = 0 ∧ (∀ b, b ≠ 99 → w1 b = w b) ∧ B01 (w1 99) ∧ ∀ v, 1 ≤ v → v < 122 → (w1 99 v = 1 ↔ gL (aM w) r v) := by rcases h18 with h | h | h; (· omega); (· omega); (· exact h)
        have hs : SM w w1 := SM_scr (fun b hb => f1 b (by omega))
        refine gx_aload0 (q := 29) hG d_M_makes_28 rfl ?_
        refine gw_V0X (q := 32) hG l_M_301 c_M_wrongSum (ev_M_wrongSum f2) hpM rfl (by decide) (Nat.le_of_ble_eq_true rfl) d_M_makes_29 rfl (by decide) ?_
        rw [wrZ_M f3]
        refine gx_if_eq (tgt := 41) (q := 35) hG d_M_makes_32 rfl rfl (by omega) (fun c32 => ?_) (fun c32 => ?_)
        · refine gx_iconst (q := 42) hG d_M_makes_41 rfl ?_
          refine gx_istore4 (q := 44) hG d_M_makes_42 rfl rfl ?_
          refine gx_iconst (q := 45) hG d_M_makes_44 rfl ?_
          refine gx_istore5 (q := 47) hG d_M_makes_45 rfl rfl ?_
          have e := Z 60 0 w1 (by omega) (by omega) (by omega) h0 hok c32 hs f2 f3
          rw [fillR_0] at e
          exact e
        · refine gx_aload0 (q := 36) hG d_M_makes_35 rfl ?_
          refine gx_iconst (q := 37) hG d_M_makes_36 rfl ?_
          refine gw_V1I (q := 40) hG l_M_114 c_M_meets (ev_M_meets (by omega)) hpM rfl (by decide) (Nat.le_of_ble_eq_true rfl) d_M_makes_37 rfl (by decide) (fun z37 w3 h37 => ?_)
          refine gx_ireturn hG d_M_makes_40 rfl rfl ?_
          refine ⟨_, rfl, _, rfl, ?_⟩
          unfold sp_makes; rw [if_neg (by omega), if_neg (by omega), if_pos (Or.inr c32)]
          obtain ⟨rfl, rfl⟩ := h37
          rw [← hs.1]; exact PM_tr hs (PM_fd (by omega))
      · refine gx_iload3 (q := 27) hG d_M_makes_26 rfl ?_
        refine gx_ireturn hG d_M_makes_27 rfl rfl ?_
        refine ⟨_, rfl, _, rfl, ?_⟩
        unfold sp_makes; rw [if_neg (by omega)]
        rcases h18 with ⟨rfl, h, rfl⟩ | ⟨h0, hng, rfl, w2, hs2, rfl⟩ | h
        · rw [if_pos h]; exact PM_fd (by omega)
        · rw [if_neg (by omega), if_pos (Or.inl (bi_f hng)), ← hs2.1]; exact PM_tr hs2 (PM_fd (by omega))
        · omega
    · have c11 := bi_eq0.mp c11
      refine gx_iconst (q := 15) hG d_M_makes_14 rfl ?_
      refine gx_ireturn hG d_M_makes_15 rfl rfl ?_
      refine ⟨_, rfl, _, rfl, ?_⟩
      unfold sp_makes; rw [if_pos (by omega)]; exact PM_id

