/-! part 67: lists of gaps, on the class's side -/
def paidP (g : Int → Prop) (v : Int) : Prop := ∃ a, 1 ≤ a ∧ 2 * a ≤ v ∧ ¬ g a ∧ ¬ g (v - a)
def makerP (g : Int → Prop) (v : Int) : Prop := ¬ g v ∧ ¬ paidP g v
noncomputable def wrZ (g : Int → Prop) : Int := if leastZ (fun u => u ≤ 60 ∧ g u ∧ paidP g u) = -9 then 0 else leastZ (fun u => u ≤ 60 ∧ g u ∧ paidP g u)
theorem paidP_congr {g g' : Int → Prop} (h : ∀ v, 1 ≤ v → (g v ↔ g' v)) (v : Int) : paidP g v ↔ paidP g' v := by
  constructor
  · rintro ⟨a, a1, a2, a3, a4⟩
    exact ⟨a, a1, a2, fun q => a3 ((h a a1).mpr q), fun q => a4 ((h _ (by omega)).mpr q)⟩
  · rintro ⟨a, a1, a2, a3, a4⟩
    exact ⟨a, a1, a2, fun q => a3 ((h a a1).mp q), fun q => a4 ((h _ (by omega)).mp q)⟩
theorem makerP_congr {g g' : Int → Prop} (h : ∀ v, 1 ≤ v → (g v ↔ g' v)) (v : Int) (hv : 1 ≤ v) : makerP g v ↔ makerP g' v := by
  unfold makerP
  rw [h v hv, paidP_congr h v]
theorem leastN_congr {P Q : Int → Prop} (h : ∀ v, 1 ≤ v → (P v ↔ Q v)) {z : Int} (hz : LeastN P z) : LeastN Q z := by
  rcases hz with ⟨a1, a2, a3, a4⟩ | ⟨a1, a2⟩
  · exact Or.inl ⟨a1, a2, (h z a1).mp a3, fun u u0 u1 q => a4 u u0 u1 ((h u u0).mpr q)⟩
  · exact Or.inr ⟨a1, fun u u0 u1 q => a2 u u0 u1 ((h u u0).mpr q)⟩
theorem leastN_ex (P : Int → Prop) : ∃ z, LeastN P z := by
  by_cases c : ∃ u : Nat, 1 ≤ u ∧ u ≤ 4000 ∧ P u
  · obtain ⟨u, u1, u2, u3⟩ := c
    have key : ∀ n : Nat, ∀ u : Nat, u ≤ n → 1 ≤ u → u ≤ 4000 → P u → ∃ z, LeastN P z := by
      intro n
      induction n with
      | zero => intro u a b; omega
      | succ n ih =>
        intro u a b c d
        by_cases e : ∃ y : Nat, 1 ≤ y ∧ y < u ∧ P y
        · obtain ⟨y, y1, y2, y3⟩ := e
          exact ih y (by omega) y1 (by omega) y3
        · refine ⟨u, Or.inl ⟨by omega, by omega, d, fun x x0 x1 q => ?_⟩⟩
          obtain ⟨xn, rfl⟩ := Int.eq_ofNat_of_zero_le (show 0 ≤ x by omega)
          exact e ⟨xn, by omega, by omega, q⟩
    exact key u u (Nat.le_refl _) u1 u2 u3
  · refine ⟨-9, Or.inr ⟨rfl, fun u u0 u1 q => ?_⟩⟩
    obtain ⟨xn, rfl⟩ := Int.eq_ofNat_of_zero_le (show 0 ≤ u by omega)
    exact c ⟨xn, by omega, by omega, q⟩
theorem leastZ_congr {P Q : Int → Prop} (h : ∀ v, 1 ≤ v → (P v ↔ Q v)) : leastZ P = leastZ Q := by
  obtain ⟨z, hz⟩ := leastN_ex P
  rw [leastZ_eq hz, leastZ_eq (leastN_congr h hz)]
theorem wrZ_congr {g g' : Int → Prop} (h : ∀ v, 1 ≤ v → (g v ↔ g' v)) : wrZ g = wrZ g' := by
  unfold wrZ
  rw [leastZ_congr (P := fun u => u ≤ 60 ∧ g u ∧ paidP g u) (Q := fun u => u ≤ 60 ∧ g' u ∧ paidP g' u) (fun v hv => by show (_ ∧ _ ∧ _) ↔ (_ ∧ _ ∧ _); rw [h v hv, paidP_congr h v])]
theorem wrZ_at {g : Int → Prop} {z : Int} (h1 : 1 ≤ z ∧ z ≤ 60) (h2 : g z) (h3 : paidP g z) (h4 : ∀ u, 1 ≤ u → u < z → ¬ (g u ∧ paidP g u)) : wrZ g = z := by
  unfold wrZ
  rw [leastZ_eq (z := z) (Or.inl ⟨h1.1, by omega, ⟨h1.2, h2, h3⟩, fun u u0 u1 q => h4 u u0 u1 q.2⟩), if_neg (by omega)]
theorem wrZ_none {g : Int → Prop} (h4 : ∀ u, 1 ≤ u → u ≤ 60 → ¬ (g u ∧ paidP g u)) : wrZ g = 0 := by
  unfold wrZ
  rw [leastZ_eq (z := -9) (Or.inr ⟨rfl, fun u u0 u1 q => h4 u u0 q.1 q.2⟩), if_pos rfl]
def gL (s : Sta) (r v : Int) : Prop := inL (fun i => s 1 (60 * r + i)) (s 0 r) v
def okL (s : Sta) (r : Int) : Prop := goodL (fun i => s 1 (60 * r + i)) (s 0 r)
noncomputable def sp_list (s : Sta) (r : Int) : Int × Sta := if ¬ (0 ≤ r ∧ r < 6) then (-1, s) else if s 0 r < 0 then fdS s 1 else if bi (okL s r) = 0 then fdS s 3 else (if wrZ (gL s r) = 0 then 1 else 0, ss s 4 3 (wrZ (gL s r)))
noncomputable def sp_makes (s : Sta) (r t : Int) : Int × Sta := if ¬ (0 ≤ r ∧ r < 6 ∧ 0 ≤ t ∧ t < 6) then (-1, s) else if s 0 r < 0 then fdS s 1 else if bi (okL s r) = 0 ∨ wrZ (gL s r) ≠ 0 then fdS s 3 else (cn (makerP (gL s r)) 121, flS s t (makerP (gL s r)) 121)
def gB (m : Nat) (v : Int) : Prop := v ≤ 60 ∧ m.testBit v.toNat = true
theorem ev_X_isGap {w : Mem} {m : Nat} {v : Int} (hm : m < 2 ^ 63) (hv : 0 ≤ v ∧ v ≤ 200) : EvX y_X_isGap b_X_isGap 3 (some .boolean) (1) [Vj (m : Int), Vi v] w (Vi (bi (gB m v))) := by
  refine Ev.mk (isI := false) (by decide +kernel) nofun (Nat.le_of_ble_eq_true rfl) (fun G hG => ?_)
  show G 0 [some (Vj (m : Int)), none, some (Vi v)] [] 102 (hp w)
  obtain ⟨k, rfl⟩ := Int.eq_ofNat_of_zero_le hv.1
  have e : gB m k ↔ ((k : Int) ≤ 60 ∧ m.testBit k = true) := by unfold gB; rw [show (k : Int).toNat = k by omega]
  refine gx_iload2 (q := 1) hG d_X_isGap_0 rfl ?_
  refine gx_bipush (q := 3) hG d_X_isGap_1 rfl rfl ?_
  refine gx_icmp_gt (tgt := 20) (q := 6) hG d_X_isGap_3 rfl rfl (by omega) (by omega) (fun c3 => ?_) (fun c3 => ?_)
  · refine gx_iconst (q := 21) hG d_X_isGap_20 rfl ?_
    refine gx_zreturn hG d_X_isGap_21 rfl rfl (by first | exact bi_01 _ | decide | omega) ?_
    first
      | exact ⟨w, rfl, congrArg (fun z => some (Vi z)) (bi_t (e.mpr ⟨by omega, bi_eq1.mp c13⟩)).symm, rfl⟩
      | exact ⟨w, rfl, congrArg (fun z => some (Vi z)) (bi_f (fun q => c13 (bi_eq1.mpr (e.mp q).2))).symm, rfl⟩
      | exact ⟨w, rfl, congrArg (fun z => some (Vi z)) (bi_f (fun q => by have := (e.mp q).1; omega)).symm, rfl⟩
  · refine gx_lload0 (q := 7) hG d_X_isGap_6 rfl ?_
    refine gx_iload2 (q := 8) hG d_X_isGap_7 rfl ?_
    refine gx_lshr (q := 9) hG (((m >>> k : Nat) : Int)) d_X_isGap_8 rfl (j_shr m k (by omega) hm) ?_
    refine gx_lconst (q := 10) hG 1 d_X_isGap_9 rfl rfl ?_
    refine gx_land (q := 11) hG (bi (m.testBit k = true)) d_X_isGap_10 rfl (j_bit m k (by omega) hm) ?_
    refine gx_lconst (q := 12) hG 1 d_X_isGap_11 rfl rfl ?_
    refine gx_lcmp (q := 13) hG d_X_isGap_12 rfl (by have := bi_01 (m.testBit k = true); omega) (by have := bi_01 (m.testBit k = true); omega) ?_
    refine gx_if_ne (tgt := 20) (q := 16) hG d_X_isGap_13 rfl rfl (cmp3_R _ _) (fun c13 => ?_) (fun c13 => ?_)
    · have c13 := cmp3_ne.mp c13
      refine gx_iconst (q := 21) hG d_X_isGap_20 rfl ?_
      refine gx_zreturn hG d_X_isGap_21 rfl rfl (by first | exact bi_01 _ | decide | omega) ?_
      first
        | exact ⟨w, rfl, congrArg (fun z => some (Vi z)) (bi_t (e.mpr ⟨by omega, bi_eq1.mp c13⟩)).symm, rfl⟩
        | exact ⟨w, rfl, congrArg (fun z => some (Vi z)) (bi_f (fun q => c13 (bi_eq1.mpr (e.mp q).2))).symm, rfl⟩
        | exact ⟨w, rfl, congrArg (fun z => some (Vi z)) (bi_f (fun q => by have := (e.mp q).1; omega)).symm, rfl⟩
    · have c13 := cmp3_eq.mp c13
      refine gx_iconst (q := 17) hG d_X_isGap_16 rfl ?_
      refine gx_goto (tgt := 21) hG d_X_isGap_17 rfl ?_
      refine gx_zreturn hG d_X_isGap_21 rfl rfl (by first | exact bi_01 _ | decide | omega) ?_
      first
        | exact ⟨w, rfl, congrArg (fun z => some (Vi z)) (bi_t (e.mpr ⟨by omega, bi_eq1.mp c13⟩)).symm, rfl⟩
        | exact ⟨w, rfl, congrArg (fun z => some (Vi z)) (bi_f (fun q => c13 (bi_eq1.mpr (e.mp q).2))).symm, rfl⟩
        | exact ⟨w, rfl, congrArg (fun z => some (Vi z)) (bi_f (fun q => by have := (e.mp q).1; omega)).symm, rfl⟩
theorem ev_X_isPaid {w : Mem} {m : Nat} {v : Int} (hm : m < 2 ^ 63) (hv : 0 ≤ v ∧ v ≤ 200) : EvX y_X_isPaid b_X_isPaid 4 (some .boolean) (2) [Vj (m : Int), Vi v] w (Vi (bi (paidP (gB m) v))) := by
  refine Ev.mk (isI := false) (by decide +kernel) nofun (Nat.le_of_ble_eq_true rfl) (fun G hG => ?_)
  show G 0 [some (Vj (m : Int)), none, some (Vi v), none] [] 102 (hp w)
  have L : ∀ (j k : Nat), k + j = 101 → (∀ a, 1 ≤ a → a ≤ (k : Int) → 2 * a ≤ v → gB m a ∨ gB m (v - a)) → G 2 [some (Vj (m : Int)), none, some (Vi v), some (Vi ((k : Int) + 1))] [] 102 (hp w) := by
    intro j
    induction j with
    | zero =>
      intro k h1 h2
      refine gx_iload3 (q := 3) hG d_X_isPaid_2 rfl ?_
      refine gx_iload2 (q := 4) hG d_X_isPaid_3 rfl ?_
      refine gx_iconst (q := 5) hG d_X_isPaid_4 rfl ?_
      refine gx_idiv (q := 6) hG d_X_isPaid_5 rfl (by omega) (by omega) (by omega) (by omega) ?_
      refine gx_icmp_gt (tgt := 35) (q := 9) hG d_X_isPaid_6 rfl rfl (by omega) (by omega) (fun c6 => ?_) (fun c6 => ?_)
      · refine gx_iconst (q := 36) hG d_X_isPaid_35 rfl ?_
        refine gx_zreturn hG d_X_isPaid_36 rfl rfl (by first | exact bi_01 _ | decide | omega) ?_
        exact ⟨w, rfl, congrArg (fun z => some (Vi z)) (bi_f (fun ⟨a, a1, a2, a3, a4⟩ => (h2 a a1 (by omega) a2).elim a3 a4)).symm, rfl⟩
      · exfalso; omega
    | succ j ih =>
      intro k h1 h2
      have nx : gB m ((k : Int) + 1) ∨ gB m (v - ((k : Int) + 1)) → ∀ a, 1 ≤ a → a ≤ ((k + 1 : Nat) : Int) → 2 * a ≤ v → gB m a ∨ gB m (v - a) := fun q a a1 a2 a3 => by
        by_cases c : a = (k : Int) + 1
        · rw [c]; exact q
        · exact h2 a a1 (by omega) a3
      refine gx_iload3 (q := 3) hG d_X_isPaid_2 rfl ?_
      refine gx_iload2 (q := 4) hG d_X_isPaid_3 rfl ?_
      refine gx_iconst (q := 5) hG d_X_isPaid_4 rfl ?_
      refine gx_idiv (q := 6) hG d_X_isPaid_5 rfl (by omega) (by omega) (by omega) (by omega) ?_
      refine gx_icmp_gt (tgt := 35) (q := 9) hG d_X_isPaid_6 rfl rfl (by omega) (by omega) (fun c6 => ?_) (fun c6 => ?_)
      · refine gx_iconst (q := 36) hG d_X_isPaid_35 rfl ?_
        refine gx_zreturn hG d_X_isPaid_36 rfl rfl (by first | exact bi_01 _ | decide | omega) ?_
        exact ⟨w, rfl, congrArg (fun z => some (Vi z)) (bi_f (fun ⟨a, a1, a2, a3, a4⟩ => (h2 a a1 (by omega) a2).elim a3 a4)).symm, rfl⟩
      · refine gx_lload0 (q := 10) hG d_X_isPaid_9 rfl ?_
        refine gx_iload3 (q := 11) hG d_X_isPaid_10 rfl ?_
        refine gw_S2X (q := 14) hG l_X_323 c_X_isGap (ev_X_isGap hm (by omega)) (by decide) (Nat.le_of_ble_eq_true rfl) d_X_isPaid_11 rfl (by decide) ?_
        refine gx_if_ne (tgt := 29) (q := 17) hG d_X_isPaid_14 rfl rfl (bi_R _) (fun c14 => ?_) (fun c14 => ?_)
        · have c14 := bi_ne0.mp c14
          refine gx_iinc3 (q := 32) hG d_X_isPaid_29 rfl rfl ?_
          refine gx_goto (tgt := 2) hG d_X_isPaid_32 rfl ?_
          first
            | exact ih (k + 1) (by omega) (nx (Or.inl c14))
            | exact ih (k + 1) (by omega) (nx (Or.inr c24))
        · have c14 := bi_eq0.mp c14
          refine gx_lload0 (q := 18) hG d_X_isPaid_17 rfl ?_
          refine gx_iload2 (q := 19) hG d_X_isPaid_18 rfl ?_
          refine gx_iload3 (q := 20) hG d_X_isPaid_19 rfl ?_
          refine gx_isub (q := 21) hG d_X_isPaid_20 rfl ?_
          refine gw_S2X (q := 24) hG l_X_323 c_X_isGap (ev_X_isGap hm (by omega)) (by decide) (Nat.le_of_ble_eq_true rfl) d_X_isPaid_21 rfl (by decide) ?_
          refine gx_if_ne (tgt := 29) (q := 27) hG d_X_isPaid_24 rfl rfl (bi_R _) (fun c24 => ?_) (fun c24 => ?_)
          · have c24 := bi_ne0.mp c24
            refine gx_iinc3 (q := 32) hG d_X_isPaid_29 rfl rfl ?_
            refine gx_goto (tgt := 2) hG d_X_isPaid_32 rfl ?_
            first
              | exact ih (k + 1) (by omega) (nx (Or.inl c14))
              | exact ih (k + 1) (by omega) (nx (Or.inr c24))
          · have c24 := bi_eq0.mp c24
            refine gx_iconst (q := 28) hG d_X_isPaid_27 rfl ?_
            refine gx_zreturn hG d_X_isPaid_28 rfl rfl (by first | exact bi_01 _ | decide | omega) ?_
            exact ⟨w, rfl, congrArg (fun z => some (Vi z)) (bi_t ⟨(k : Int) + 1, by omega, by omega, c14, c24⟩).symm, rfl⟩
  refine gx_iconst (q := 1) hG d_X_isPaid_0 rfl ?_
  refine gx_istore3 (q := 2) hG d_X_isPaid_1 rfl rfl ?_
  exact L 101 0 (by omega) (fun a a1 a2 => by omega)
theorem ev_X_isMaker {w : Mem} {m : Nat} {v : Int} (hm : m < 2 ^ 63) (hv : 0 ≤ v ∧ v ≤ 200) : EvX y_X_isMaker b_X_isMaker 3 (some .boolean) (3) [Vj (m : Int), Vi v] w (Vi (bi (makerP (gB m) v))) := by
  refine Ev.mk (isI := false) (by decide +kernel) nofun (Nat.le_of_ble_eq_true rfl) (fun G hG => ?_)
  show G 0 [some (Vj (m : Int)), none, some (Vi v)] [] 102 (hp w)
  refine gx_lload0 (q := 1) hG d_X_isMaker_0 rfl ?_
  refine gx_iload2 (q := 2) hG d_X_isMaker_1 rfl ?_
  refine gw_S2X (q := 5) hG l_X_323 c_X_isGap (ev_X_isGap hm hv) (by decide) (Nat.le_of_ble_eq_true rfl) d_X_isMaker_2 rfl (by decide) ?_
  refine gx_if_ne (tgt := 20) (q := 8) hG d_X_isMaker_5 rfl rfl (bi_R _) (fun c5 => ?_) (fun c5 => ?_)
  · have c5 := bi_ne0.mp c5
    refine gx_iconst (q := 21) hG d_X_isMaker_20 rfl ?_
    refine gx_zreturn hG d_X_isMaker_21 rfl rfl (by first | exact bi_01 _ | decide | omega) ?_
    first
      | exact ⟨w, rfl, congrArg (fun z => some (Vi z)) (bi_f (fun q : makerP (gB m) v => q.1 c5)).symm, rfl⟩
      | exact ⟨w, rfl, congrArg (fun z => some (Vi z)) (bi_f (fun q : makerP (gB m) v => q.2 c13)).symm, rfl⟩
      | exact ⟨w, rfl, congrArg (fun z => some (Vi z)) (bi_t (show makerP (gB m) v from ⟨c5, c13⟩)).symm, rfl⟩
  · have c5 := bi_eq0.mp c5
    refine gx_lload0 (q := 9) hG d_X_isMaker_8 rfl ?_
    refine gx_iload2 (q := 10) hG d_X_isMaker_9 rfl ?_
    refine gw_S2X (q := 13) hG l_X_326 c_X_isPaid (ev_X_isPaid hm hv) (by decide) (Nat.le_of_ble_eq_true rfl) d_X_isMaker_10 rfl (by decide) ?_
    refine gx_if_ne (tgt := 20) (q := 16) hG d_X_isMaker_13 rfl rfl (bi_R _) (fun c13 => ?_) (fun c13 => ?_)
    · have c13 := bi_ne0.mp c13
      refine gx_iconst (q := 21) hG d_X_isMaker_20 rfl ?_
      refine gx_zreturn hG d_X_isMaker_21 rfl rfl (by first | exact bi_01 _ | decide | omega) ?_
      first
        | exact ⟨w, rfl, congrArg (fun z => some (Vi z)) (bi_f (fun q : makerP (gB m) v => q.1 c5)).symm, rfl⟩
        | exact ⟨w, rfl, congrArg (fun z => some (Vi z)) (bi_f (fun q : makerP (gB m) v => q.2 c13)).symm, rfl⟩
        | exact ⟨w, rfl, congrArg (fun z => some (Vi z)) (bi_t (show makerP (gB m) v from ⟨c5, c13⟩)).symm, rfl⟩
    · have c13 := bi_eq0.mp c13
      refine gx_iconst (q := 17) hG d_X_isMaker_16 rfl ?_
      refine gx_goto (tgt := 21) hG d_X_isMaker_17 rfl ?_
      refine gx_zreturn hG d_X_isMaker_21 rfl rfl (by first | exact bi_01 _ | decide | omega) ?_
      first
        | exact ⟨w, rfl, congrArg (fun z => some (Vi z)) (bi_f (fun q : makerP (gB m) v => q.1 c5)).symm, rfl⟩
        | exact ⟨w, rfl, congrArg (fun z => some (Vi z)) (bi_f (fun q : makerP (gB m) v => q.2 c13)).symm, rfl⟩
        | exact ⟨w, rfl, congrArg (fun z => some (Vi z)) (bi_t (show makerP (gB m) v from ⟨c5, c13⟩)).symm, rfl⟩
theorem ev_X_leastPaid {w : Mem} {m : Nat} (hm : m < 2 ^ 63) : EvX y_X_leastPaid b_X_leastPaid 3 (some .int) (3) [Vj (m : Int)] w (Vi (wrZ (gB m))) := by
  refine Ev.mk (isI := false) (by decide +kernel) nofun (Nat.le_of_ble_eq_true rfl) (fun G hG => ?_)
  show G 0 [some (Vj (m : Int)), none, none] [] 102 (hp w)
  have L : ∀ (j k : Nat), k + j = 60 → (∀ u, 1 ≤ u → u ≤ (k : Int) → ¬ (gB m u ∧ paidP (gB m) u)) → G 2 [some (Vj (m : Int)), none, some (Vi ((k : Int) + 1))] [] 102 (hp w) := by
    intro j
    induction j with
    | zero =>
      intro k h1 h2
      refine gx_iload2 (q := 3) hG d_X_leastPaid_2 rfl ?_
      refine gx_bipush (q := 5) hG d_X_leastPaid_3 rfl rfl ?_
      refine gx_icmp_gt (tgt := 32) (q := 8) hG d_X_leastPaid_5 rfl rfl (by omega) (by omega) (fun c5 => ?_) (fun c5 => ?_)
      · refine gx_iconst (q := 33) hG d_X_leastPaid_32 rfl ?_
        refine gx_ireturn hG d_X_leastPaid_33 rfl rfl ?_
        exact ⟨w, rfl, congrArg (fun z => some (Vi z)) (wrZ_none (fun u u0 u1 => h2 u u0 (by omega))).symm, rfl⟩
      · exfalso; omega
    | succ j ih =>
      intro k h1 h2
      have nx : ¬ (gB m ((k : Int) + 1) ∧ paidP (gB m) ((k : Int) + 1)) → ∀ u, 1 ≤ u → u ≤ ((k + 1 : Nat) : Int) → ¬ (gB m u ∧ paidP (gB m) u) := fun q u u0 u1 => by
        by_cases c : u = (k : Int) + 1
        · rw [c]; exact q
        · exact h2 u u0 (by omega)
      refine gx_iload2 (q := 3) hG d_X_leastPaid_2 rfl ?_
      refine gx_bipush (q := 5) hG d_X_leastPaid_3 rfl rfl ?_
      refine gx_icmp_gt (tgt := 32) (q := 8) hG d_X_leastPaid_5 rfl rfl (by omega) (by omega) (fun c5 => ?_) (fun c5 => ?_)
      · exfalso; omega
      · refine gx_lload0 (q := 9) hG d_X_leastPaid_8 rfl ?_
        refine gx_iload2 (q := 10) hG d_X_leastPaid_9 rfl ?_
        refine gw_S2X (q := 13) hG l_X_323 c_X_isGap (ev_X_isGap hm (by omega)) (by decide) (Nat.le_of_ble_eq_true rfl) d_X_leastPaid_10 rfl (by decide) ?_
        refine gx_if_eq (tgt := 26) (q := 16) hG d_X_leastPaid_13 rfl rfl (bi_R _) (fun c13 => ?_) (fun c13 => ?_)
        · have c13 := bi_eq0.mp c13
          refine gx_iinc2 (q := 29) hG d_X_leastPaid_26 rfl rfl ?_
          refine gx_goto (tgt := 2) hG d_X_leastPaid_29 rfl ?_
          first
            | exact ih (k + 1) (by omega) (nx (fun q => c13 q.1))
            | exact ih (k + 1) (by omega) (nx (fun q => c21 q.2))
        · have c13 := bi_ne0.mp c13
          refine gx_lload0 (q := 17) hG d_X_leastPaid_16 rfl ?_
          refine gx_iload2 (q := 18) hG d_X_leastPaid_17 rfl ?_
          refine gw_S2X (q := 21) hG l_X_326 c_X_isPaid (ev_X_isPaid hm (by omega)) (by decide) (Nat.le_of_ble_eq_true rfl) d_X_leastPaid_18 rfl (by decide) ?_
          refine gx_if_eq (tgt := 26) (q := 24) hG d_X_leastPaid_21 rfl rfl (bi_R _) (fun c21 => ?_) (fun c21 => ?_)
          · have c21 := bi_eq0.mp c21
            refine gx_iinc2 (q := 29) hG d_X_leastPaid_26 rfl rfl ?_
            refine gx_goto (tgt := 2) hG d_X_leastPaid_29 rfl ?_
            first
              | exact ih (k + 1) (by omega) (nx (fun q => c13 q.1))
              | exact ih (k + 1) (by omega) (nx (fun q => c21 q.2))
          · have c21 := bi_ne0.mp c21
            refine gx_iload2 (q := 25) hG d_X_leastPaid_24 rfl ?_
            refine gx_ireturn hG d_X_leastPaid_25 rfl rfl ?_
            exact ⟨w, rfl, congrArg (fun z => some (Vi z)) (wrZ_at ⟨by omega, by omega⟩ c13 c21 (fun u u0 u1 => h2 u u0 (by omega))).symm, rfl⟩
  refine gx_iconst (q := 1) hG d_X_leastPaid_0 rfl ?_
  refine gx_istore2 (q := 2) hG d_X_leastPaid_1 rfl rfl ?_
  exact L 60 0 (by omega) (fun u u0 u1 => by omega)
/-- the list's mask -/
theorem gL_mask {w : Mem} {r : Int} {m : Nat} (hr : 0 ≤ r ∧ r < 6) (hs : w (50 + 2 * r) 1 ≤ 60) (hg : goodL (w (51 + 2 * r)) (w (50 + 2 * r) 1)) (hm : ∀ v : Nat, v ≤ 60 → (m.testBit v = true ↔ inL (w (51 + 2 * r)) (w (50 + 2 * r) 1) v)) : ∀ v, 1 ≤ v → (gB m v ↔ gL (aX w) r v) := fun v v1 => by
  have e : gL (aX w) r v ↔ inL (w (51 + 2 * r)) (w (50 + 2 * r) 1) v := by
    unfold gL inL
    rw [aX_at0 hr]
    constructor
    · rintro ⟨i, i0, i1, i2⟩
      have i2 : aX w 1 (60 * r + i) = v := i2
      rw [aX_at1 hr (by omega)] at i2
      exact ⟨i, i0, i1, i2⟩
    · rintro ⟨i, i0, i1, i2⟩
      exact ⟨i, i0, i1, by show aX w 1 (60 * r + i) = v; rw [aX_at1 hr (by omega)]; exact i2⟩
  rw [e]
  unfold gB
  obtain ⟨k, rfl⟩ := Int.eq_ofNat_of_zero_le (show 0 ≤ v by omega)
  rw [show (k : Int).toNat = k by omega]
  constructor
  · rintro ⟨a, b⟩
    exact (hm k (by omega)).mp b
  · intro q
    obtain ⟨i, i0, i1, i2⟩ := q
    have := hg.1 i i0 i1
    exact ⟨by omega, (hm k (by omega)).mpr ⟨i, i0, i1, i2⟩⟩
theorem okL_X {w : Mem} {r : Int} (hr : 0 ≤ r ∧ r < 6) (hs : w (50 + 2 * r) 1 ≤ 60) : okL (aX w) r ↔ goodL (w (51 + 2 * r)) (w (50 + 2 * r) 1) := by
  have e : ∀ i, 0 ≤ i → i < w (50 + 2 * r) 1 → aX w 1 (60 * r + i) = w (51 + 2 * r) i := fun i i0 i1 => aX_at1 hr (by omega)
  unfold okL goodL
  rw [aX_at0 hr]
  constructor
  · rintro ⟨a, b⟩
    refine ⟨fun i i0 i1 => ?_, fun i j i0 ij j1 => ?_⟩
    · rw [← e i i0 i1]
      exact a i i0 i1
    · rw [← e i i0 (by omega), ← e j (by omega) j1]
      exact b i j i0 ij j1
  · rintro ⟨a, b⟩
    refine ⟨fun i i0 i1 => ?_, fun i j i0 ij j1 => ?_⟩
    · show 1 ≤ aX w 1 (60 * r + i) ∧ aX w 1 (60 * r + i) ≤ 60
      rw [e i i0 i1]
      exact a i i0 i1
    · show aX w 1 (60 * r + i) ≠ aX w 1 (60 * r + j)
      rw [e i i0 (by omega), e j (by omega) j1]
      exact b i j i0 ij j1
theorem wrZ_bd {g : Int → Prop} : 0 ≤ wrZ g ∧ wrZ g ≤ 60 := by
  obtain ⟨z, hz⟩ := leastN_ex (fun u => u ≤ 60 ∧ g u ∧ paidP g u)
  unfold wrZ
  rw [leastZ_eq hz]
  rcases hz with ⟨a, b, c, -⟩ | ⟨a, -⟩
  · rw [if_neg (by omega)]
    have := c.1
    omega
  · rw [if_pos a]
    omega
theorem ev_X_list {w : Mem} {r : Int} (hO : OK (aX w)) (hj : XJ w) (hr : R3 r) : EvI y_X_list b_X_list 5 (some .int) (4) [Vr 0, Vi r] w (PX w (sp_list (aX w) r)) := by
  refine Ev.mk (isI := false) (by decide +kernel) nofun (Nat.le_of_ble_eq_true rfl) (fun G hG => ?_)
  show G 0 [some (Vr 0), some (Vi r), none, none, none] [] 102 (hp w)
  refine gx_aload0 (q := 1) hG d_X_list_0 rfl ?_
  refine gx_aload0 (q := 2) hG d_X_list_1 rfl ?_
  refine gx_get (q := 5) hG f_X_11 hpX rfl d_X_list_2 rfl ?_
  refine gx_iload1 (q := 6) hG d_X_list_5 rfl ?_
  refine gw_V2I (q := 9) hG l_X_103 c_X_refusedRow (ev_X_refusedRow (RA_r hO) hr) hpX rfl (by decide) (Nat.le_of_ble_eq_true rfl) d_X_list_6 rfl (by decide) (fun z w1 h7 => ?_)
  refine gx_istore2 (q := 10) hG d_X_list_9 rfl rfl ?_
  refine gx_iload2 (q := 11) hG d_X_list_10 rfl ?_
  refine gx_if_eq (tgt := 16) (q := 14) hG d_X_list_11 rfl rfl (by omega) (fun c11 => ?_) (fun c11 => ?_)
  · obtain ⟨rfl, hrr, hi0⟩ : w1 = w ∧ (0 ≤ r ∧ r < 6) ∧ 0 ≤ w (50 + 2 * r) 1 := by rcases h7 with h | h | h; (· exact h.2); (· exfalso; omega); (· exfalso; omega)
    have hs := hO.r0 hrr
    have e51 : 50 + 2 * r + 1 = 51 + 2 * r := by omega
    refine gx_aload0 (q := 17) hG d_X_list_16 rfl ?_
    refine gx_get (q := 20) hG f_X_11 hpX rfl d_X_list_17 rfl ?_
    refine gx_iload1 (q := 21) hG d_X_list_20 rfl ?_
    refine gx_rald (q := 22) hG hpRows (by decide) (by omega) (by omega) (by first | decide | omega) (by first | decide | omega) d_X_list_21 rfl ?_
    refine gw_V0Z (q := 25) hG l_X_275 c_Rw_asBits (ev_Rw_asBits (by omega) (by omega) (fun i i0 i1 => by rw [e51]; exact hO.r1 hrr ⟨i0, i1⟩)) (hpRow (by omega)) rfl (by decide) (Nat.le_of_ble_eq_true rfl) d_X_list_22 rfl (by decide) (fun z22 h22 => ?_)
    rw [e51] at h22
    refine gx_lstore3 (q := 26) hG d_X_list_25 rfl rfl ?_
    refine gx_lload3 (q := 27) hG d_X_list_26 rfl ?_
    refine gx_lconst (q := 28) hG 0 d_X_list_27 rfl rfl ?_
    refine gx_lcmp (q := 29) hG d_X_list_28 rfl (by rcases h22 with h | ⟨-, m, h, h2, -⟩ <;> omega) (by rcases h22 with h | ⟨-, m, h, h2, -⟩ <;> omega) ?_
    refine gx_if_ge (tgt := 38) (q := 32) hG d_X_list_29 rfl rfl (cmp3_R _ _) (fun c29 => ?_) (fun c29 => ?_)
    · have c29 := cmp3_ge.mp c29
      obtain ⟨hgood, m, rfl, m2, m3⟩ : goodL (w1 (51 + 2 * r)) (w1 (50 + 2 * r) 1) ∧ Mk z22 (inL (w1 (51 + 2 * r)) (w1 (50 + 2 * r) 1)) := by rcases h22 with h | h; (· omega); (· exact h)
      have hgm := gL_mask hrr hs.2 hgood m3
      have hwb := wrZ_bd (g := gL (aX w1) r)
      refine gx_aload0 (q := 39) hG d_X_list_38 rfl ?_
      refine gx_lload3 (q := 40) hG d_X_list_39 rfl ?_
      refine gw_S1X (q := 43) hG l_X_278 c_X_leastPaid (ev_X_leastPaid (by omega)) (by decide) (Nat.le_of_ble_eq_true rfl) d_X_list_40 rfl (by decide) ?_
      rw [wrZ_congr hgm]
      refine gw_puti (q := 46) hG f_X_99 hpX (Nat.le_of_ble_eq_true rfl) vfit_i (Or.inl rfl) d_X_list_43 rfl 11 rfl rfl ?_
      refine gx_aload0 (q := 47) hG d_X_list_46 rfl ?_
      refine gx_get (q := 50) hG f_X_99 hpX rfl d_X_list_47 rfl ?_
      rw [wu_eq]
      refine gx_if_ne (tgt := 57) (q := 53) hG d_X_list_50 rfl rfl (by omega) (fun c50 => ?_) (fun c50 => ?_)
      · refine gx_iconst (q := 58) hG d_X_list_57 rfl ?_
        refine gx_ireturn hG d_X_list_58 rfl rfl ?_
        refine ⟨_, rfl, _, rfl, ?_⟩
        unfold sp_list
        rw [if_neg (by omega), aX_at0 hrr, if_neg (by omega), if_neg (by rw [bi_t ((okL_X hrr hs.2).mpr hgood)]; decide)]
        first
          | (rw [if_pos c50]; exact PX_aside hj)
          | (rw [if_neg c50]; exact PX_aside hj)
      · refine gx_iconst (q := 54) hG d_X_list_53 rfl ?_
        refine gx_goto (tgt := 58) hG d_X_list_54 rfl ?_
        refine gx_ireturn hG d_X_list_58 rfl rfl ?_
        refine ⟨_, rfl, _, rfl, ?_⟩
        unfold sp_list
        rw [if_neg (by omega), aX_at0 hrr, if_neg (by omega), if_neg (by rw [bi_t ((okL_X hrr hs.2).mpr hgood)]; decide)]
        first
          | (rw [if_pos c50]; exact PX_aside hj)
          | (rw [if_neg c50]; exact PX_aside hj)
    · have c29 := cmp3_lt.mp c29
      refine gx_aload0 (q := 33) hG d_X_list_32 rfl ?_
      refine gx_iconst (q := 34) hG d_X_list_33 rfl ?_
      refine gw_V1I (q := 37) hG l_X_114 c_X_found (ev_X_found (by omega)) hpX rfl (by decide) (Nat.le_of_ble_eq_true rfl) d_X_list_34 rfl (by decide) (fun z34 w h34 => ?_)
      refine gx_ireturn hG d_X_list_37 rfl rfl ?_
      refine ⟨_, rfl, _, rfl, ?_⟩
      have ng : ¬ okL (aX w1) r := by rw [okL_X hrr hs.2]; rcases h22 with h | ⟨-, m, h, h2, -⟩; (· exact h.2); (· omega)
      unfold sp_list
      rw [if_neg (by omega), aX_at0 hrr, if_neg (by omega), if_pos (bi_f ng)]
      obtain ⟨rfl, rfl⟩ := h34; exact PX_fd (by omega) hj
  · refine gx_iload2 (q := 15) hG d_X_list_14 rfl ?_
    refine gx_ireturn hG d_X_list_15 rfl rfl ?_
    refine ⟨_, rfl, _, rfl, ?_⟩
    unfold sp_list
    rcases h7 with h | ⟨rfl, rfl, h⟩ | ⟨rfl, rfl, h, h1⟩
    · exact absurd h.1 c11
    · rw [if_pos (by omega)]; exact PX_id hj
    · rw [if_neg (by omega), aX_at0 h, if_pos (by omega)]; exact PX_fd (by omega) hj
theorem ev_X_makes {w : Mem} {r t : Int} (hO : OK (aX w)) (hj : XJ w) (hr : R3 r) (ht : R3 t) : EvI y_X_makes b_X_makes 8 (some .int) (4) [Vr 0, Vi r, Vi t] w (PX w (sp_makes (aX w) r t)) := by
  refine Ev.mk (isI := false) (by decide +kernel) nofun (Nat.le_of_ble_eq_true rfl) (fun G hG => ?_)
  show G 0 [some (Vr 0), some (Vi r), some (Vi t), none, none, none, none, none] [] 102 (hp w)
  have L : ∀ (j k m : Nat) (W : Mem), k + j = 121 → (0 ≤ r ∧ r < 6) → (0 ≤ t ∧ t < 6) → 0 ≤ w (50 + 2 * r) 1 → okL (aX w) r → wrZ (gL (aX w) r) = 0 → m < 2 ^ 61 → (∀ v, 1 ≤ v → (gB m v ↔ gL (aX w) r v)) → (∀ b, b ≠ 50 + 2 * t → b ≠ 51 + 2 * t → W b = w b) → (∀ i, 0 ≤ i → i < 60 → W (51 + 2 * t) i = flF (makerP (gL (aX w) r)) k i) → W (50 + 2 * t) 1 = min (cn (makerP (gL (aX w) r)) k) 60 → G 76 [some (Vr 0), some (Vi r), some (Vi t), some (Vi 0), some (Vj (m : Int)), none, some (Vi (cn (makerP (gL (aX w) r)) k)), some (Vi ((k : Int) + 1))] [] 102 (hp W) := by
    intro j
    induction j with
    | zero =>
      intro k m W h1 hrr htt h0 hok hwr hm hg f1 f2 f3
      have hk : k = 121 := by omega
      subst hk
      refine gx_iload7 (q := 78) hG d_X_makes_76 rfl ?_
      refine gx_bipush (q := 80) hG d_X_makes_78 rfl rfl ?_
      refine gx_icmp_gt (tgt := 113) (q := 83) hG d_X_makes_80 rfl rfl (by omega) (by omega) (fun c80 => ?_) (fun c80 => ?_)
      · refine gx_iload6 (q := 115) hG d_X_makes_113 rfl ?_
        refine gx_ireturn hG d_X_makes_115 rfl rfl ?_
        refine ⟨_, rfl, _, rfl, ?_⟩
        unfold sp_makes
        rw [if_neg (by omega), aX_at0 hrr, if_neg (by omega), if_neg (by rw [bi_t hok, hwr]; decide)]
        refine ⟨rfl, ?_, hj.ext (fun b hb => f1 b (by omega) (by omega)), fun b hb => f1 b (by omega) (by omega)⟩
        exact aX_row htt f1 f2 f3
      · exfalso; omega
    | succ j ih =>
      intro k m W h1 hrr htt h0 hok hwr hm hg f1 f2 f3
      have hcn := cn_bd (P := makerP (gL (aX w) r)) k
      have hmk := makerP_congr hg ((k : Int) + 1) (by omega)
      have cs : cn (makerP (gL (aX w) r)) (k + 1) = cn (makerP (gL (aX w) r)) k + bi (makerP (gL (aX w) r) ((k : Int) + 1)) := rfl
      have fs : flF (makerP (gL (aX w) r)) (k + 1) = if bi (makerP (gL (aX w) r) ((k : Int) + 1)) = 1 ∧ cn (makerP (gL (aX w) r)) k < 60 then up (flF (makerP (gL (aX w) r)) k) (cn (makerP (gL (aX w) r)) k) ((k : Int) + 1) else flF (makerP (gL (aX w) r)) k := rfl
      refine gx_iload7 (q := 78) hG d_X_makes_76 rfl ?_
      refine gx_bipush (q := 80) hG d_X_makes_78 rfl rfl ?_
      refine gx_icmp_gt (tgt := 113) (q := 83) hG d_X_makes_80 rfl rfl (by omega) (by omega) (fun c80 => ?_) (fun c80 => ?_)
      · exfalso; omega
      · refine gx_lload4 (q := 85) hG d_X_makes_83 rfl ?_
        refine gx_iload7 (q := 87) hG d_X_makes_85 rfl ?_
        refine gw_S2X (q := 90) hG l_X_281 c_X_isMaker (ev_X_isMaker (by omega) (by omega)) (by decide) (Nat.le_of_ble_eq_true rfl) d_X_makes_87 rfl (by decide) ?_
        rw [propext hmk]
        refine gx_if_eq (tgt := 107) (q := 93) hG d_X_makes_90 rfl rfl (bi_R _) (fun c90 => ?_) (fun c90 => ?_)
        · have c90 := bi_eq0.mp c90
          rw [bi_f c90, Int.add_zero] at cs
          rw [bi_f c90, if_neg (by omega)] at fs
          refine gx_iinc7 (q := 110) hG d_X_makes_107 rfl rfl ?_
          refine gx_goto (tgt := 76) hG d_X_makes_110 rfl ?_
          first
            | (have e := ih (k + 1) m w2 (by omega) hrr htt h0 hok hwr hm hg key.1 key.2.1 key.2.2
               rw [cs] at e
               exact e)
            | (have e := ih (k + 1) m W (by omega) hrr htt h0 hok hwr hm hg f1 (fun i i0 i1 => by rw [fs]; exact f2 i i0 i1) (by rw [cs]; exact f3)
               rw [cs] at e
               exact e)
        · have c90 := bi_ne0.mp c90
          refine gx_aload0 (q := 94) hG d_X_makes_93 rfl ?_
          refine gx_get (q := 97) hG f_X_11 hpX rfl d_X_makes_94 rfl ?_
          refine gx_iload2 (q := 98) hG d_X_makes_97 rfl ?_
          refine gx_rald (q := 99) hG hpRows (by decide) (by omega) (by omega) (by first | decide | omega) (by first | decide | omega) d_X_makes_98 rfl ?_
          refine gx_iload7 (q := 101) hG d_X_makes_99 rfl ?_
          refine gw_V1V (q := 104) hG l_X_247 c_Rw_add (ev_Rw_add (by omega) (by omega)) (hpRow (by omega)) rfl (by decide) (Nat.le_of_ble_eq_true rfl) d_X_makes_101 rfl (by decide) (fun w2 h101 => ?_)
          have key : (∀ b, b ≠ 50 + 2 * t → b ≠ 51 + 2 * t → w2 b = w b) ∧ (∀ i, 0 ≤ i → i < 60 → w2 (51 + 2 * t) i = flF (makerP (gL (aX w) r)) (k + 1) i) ∧ w2 (50 + 2 * t) 1 = min (cn (makerP (gL (aX w) r)) (k + 1)) 60 := by
            rw [show 50 + 2 * t + 1 = 51 + 2 * t by omega, f3] at h101
            rw [fs, cs, bi_t c90]
            by_cases c9 : cn (makerP (gL (aX w) r)) k < 60
            · rw [if_pos (by omega), show min (cn (makerP (gL (aX w) r)) k) 60 = cn (makerP (gL (aX w) r)) k by omega] at h101
              subst h101
              refine ⟨fun b q1 q2 => by rw [wu_ne q1, wu_ne q2]; exact f1 b q1 q2, fun i i0 i1 => ?_, by rw [wu_eq]; omega⟩
              rw [wu_ne (by omega), wu_at, if_pos ⟨rfl, c9⟩]
              unfold up
              split
              · rfl
              · exact f2 i i0 i1
            · rw [if_neg (by omega)] at h101
              subst h101
              refine ⟨f1, fun i i0 i1 => ?_, by rw [f3]; omega⟩
              rw [if_neg (fun q => c9 q.2)]
              exact f2 i i0 i1
          rw [bi_t c90] at cs
          refine gx_iinc6 (q := 107) hG d_X_makes_104 rfl rfl ?_
          refine gx_iinc7 (q := 110) hG d_X_makes_107 rfl rfl ?_
          refine gx_goto (tgt := 76) hG d_X_makes_110 rfl ?_
          first
            | (have e := ih (k + 1) m w2 (by omega) hrr htt h0 hok hwr hm hg key.1 key.2.1 key.2.2
               rw [cs] at e
               exact e)
            | (have e := ih (k + 1) m W (by omega) hrr htt h0 hok hwr hm hg f1 (fun i i0 i1 => by rw [fs]; exact f2 i i0 i1) (by rw [cs]; exact f3)
               rw [cs] at e
               exact e)
  refine gx_iload2 (q := 1) hG d_X_makes_0 rfl ?_
  refine gx_bipush (q := 3) hG d_X_makes_1 rfl rfl ?_
  refine gw_S2X (q := 6) hG l_X_110 c_X_isIn (ev_X_isIn (by first | assumption | omega) (by first | assumption | omega)) (by decide) (Nat.le_of_ble_eq_true rfl) d_X_makes_3 rfl (by decide) ?_
  refine gx_if_ne (tgt := 11) (q := 9) hG d_X_makes_6 rfl rfl (bi_R _) (fun c6 => ?_) (fun c6 => ?_)
  · have c6 := bi_ne0.mp c6
    refine gx_aload0 (q := 12) hG d_X_makes_11 rfl ?_
    refine gx_aload0 (q := 13) hG d_X_makes_12 rfl ?_
    refine gx_get (q := 16) hG f_X_11 hpX rfl d_X_makes_13 rfl ?_
    refine gx_iload1 (q := 17) hG d_X_makes_16 rfl ?_
    refine gw_V2I (q := 20) hG l_X_103 c_X_refusedRow (ev_X_refusedRow (RA_r hO) hr) hpX rfl (by decide) (Nat.le_of_ble_eq_true rfl) d_X_makes_17 rfl (by decide) (fun z w1 h7 => ?_)
    refine gx_istore3 (q := 21) hG d_X_makes_20 rfl rfl ?_
    refine gx_iload3 (q := 22) hG d_X_makes_21 rfl ?_
    refine gx_if_eq (tgt := 27) (q := 25) hG d_X_makes_22 rfl rfl (by omega) (fun c22 => ?_) (fun c22 => ?_)
    · obtain ⟨rfl, hrr, hi0⟩ : w1 = w ∧ (0 ≤ r ∧ r < 6) ∧ 0 ≤ w (50 + 2 * r) 1 := by rcases h7 with h | h | h; (· exact h.2); (· exfalso; omega); (· exfalso; omega)
      have hs := hO.r0 hrr
      have e51 : 50 + 2 * r + 1 = 51 + 2 * r := by omega
      refine gx_aload0 (q := 28) hG d_X_makes_27 rfl ?_
      refine gx_get (q := 31) hG f_X_11 hpX rfl d_X_makes_28 rfl ?_
      refine gx_iload1 (q := 32) hG d_X_makes_31 rfl ?_
      refine gx_rald (q := 33) hG hpRows (by decide) (by omega) (by omega) (by first | decide | omega) (by first | decide | omega) d_X_makes_32 rfl ?_
      refine gw_V0Z (q := 36) hG l_X_275 c_Rw_asBits (ev_Rw_asBits (by omega) (by omega) (fun i i0 i1 => by rw [e51]; exact hO.r1 hrr ⟨i0, i1⟩)) (hpRow (by omega)) rfl (by decide) (Nat.le_of_ble_eq_true rfl) d_X_makes_33 rfl (by decide) (fun z33 h33 => ?_)
      rw [e51] at h33
      refine gx_lstore4 (q := 38) hG d_X_makes_36 rfl rfl ?_
      refine gx_lload4 (q := 40) hG d_X_makes_38 rfl ?_
      refine gx_lconst (q := 41) hG 0 d_X_makes_40 rfl rfl ?_
      refine gx_lcmp (q := 42) hG d_X_makes_41 rfl (by rcases h33 with h | ⟨-, m, h, h2, -⟩ <;> omega) (by rcases h33 with h | ⟨-, m, h, h2, -⟩ <;> omega) ?_
      refine gx_if_lt (tgt := 53) (q := 45) hG d_X_makes_42 rfl rfl (cmp3_R _ _) (fun c42 => ?_) (fun c42 => ?_)
      · have c42 := cmp3_lt.mp c42
        refine gx_aload0 (q := 54) hG d_X_makes_53 rfl ?_
        refine gx_iconst (q := 55) hG d_X_makes_54 rfl ?_
        refine gw_V1I (q := 58) hG l_X_114 c_X_found (ev_X_found (by omega)) hpX rfl (by decide) (Nat.le_of_ble_eq_true rfl) d_X_makes_55 rfl (by decide) (fun z55 w h55 => ?_)
        refine gx_ireturn hG d_X_makes_58 rfl rfl ?_
        refine ⟨_, rfl, _, rfl, ?_⟩
        unfold sp_makes
        rw [if_neg (by omega), aX_at0 hrr, if_neg (by omega)]
        obtain ⟨rfl, rfl⟩ := h55
        first
          | (rw [if_pos (Or.inr c50)]; exact PX_fd (by omega) hj)
          | (have ng : ¬ okL (aX w1) r := by rw [okL_X hrr hs.2]; rcases h33 with h | ⟨-, m, h, h2, -⟩; (· exact h.2); (· omega)
             rw [if_pos (Or.inl (bi_f ng))]; exact PX_fd (by omega) hj)
      · have c42 := cmp3_ge.mp c42
        obtain ⟨hgood, m, rfl, m2, m3⟩ : goodL (w1 (51 + 2 * r)) (w1 (50 + 2 * r) 1) ∧ Mk z33 (inL (w1 (51 + 2 * r)) (w1 (50 + 2 * r) 1)) := by rcases h33 with h | h; (· omega); (· exact h)
        have hgm := gL_mask hrr hs.2 hgood m3
        have hok := (okL_X hrr hs.2).mpr hgood
        have hwb := wrZ_bd (g := gL (aX w1) r)
        refine gx_lload4 (q := 47) hG d_X_makes_45 rfl ?_
        refine gw_S1X (q := 50) hG l_X_278 c_X_leastPaid (ev_X_leastPaid (by omega)) (by decide) (Nat.le_of_ble_eq_true rfl) d_X_makes_47 rfl (by decide) ?_
        rw [wrZ_congr hgm]
        refine gx_if_eq (tgt := 59) (q := 53) hG d_X_makes_50 rfl rfl (by omega) (fun c50 => ?_) (fun c50 => ?_)
        · refine gx_aload0 (q := 60) hG d_X_makes_59 rfl ?_
          refine gx_get (q := 63) hG f_X_11 hpX rfl d_X_makes_60 rfl ?_
          refine gx_iload2 (q := 64) hG d_X_makes_63 rfl ?_
          refine gx_rald (q := 65) hG hpRows (by decide) (by omega) (by omega) (by first | decide | omega) (by first | decide | omega) d_X_makes_64 rfl ?_
          refine gx_iconst (q := 66) hG d_X_makes_65 rfl ?_
          refine gx_iconst (q := 67) hG d_X_makes_66 rfl ?_
          refine gw_V2V (q := 70) hG l_X_238 c_Rw_begin (ev_Rw_begin (by omega)) (hpRow (by omega)) rfl (by decide) (Nat.le_of_ble_eq_true rfl) d_X_makes_67 rfl (by decide) (fun w2 h67 => ?_)
          refine gx_iconst (q := 71) hG d_X_makes_70 rfl ?_
          refine gx_istore6 (q := 73) hG d_X_makes_71 rfl rfl ?_
          refine gx_iconst (q := 74) hG d_X_makes_73 rfl ?_
          refine gx_istore7 (q := 76) hG d_X_makes_74 rfl rfl ?_
          have e52 : 50 + 2 * t + 1 = 51 + 2 * t := by omega
          have hz0 : z = 0 := c22
          rw [hz0]
          rw [e52] at h67
          subst h67
          refine L 121 0 m _ (by omega) hrr (by omega) hi0 hok c50 m2 hgm (fun b q1 q2 => by rw [wu_ne q1, wc_ne q2]) (fun i i0 i1 => ?_) ?_
          · rw [wu_ne (by omega), wc_eq]
            unfold fillA
            rw [if_pos (by omega)]
            rfl
          · rw [wu_eq]
            rfl
        · refine gx_aload0 (q := 54) hG d_X_makes_53 rfl ?_
          refine gx_iconst (q := 55) hG d_X_makes_54 rfl ?_
          refine gw_V1I (q := 58) hG l_X_114 c_X_found (ev_X_found (by omega)) hpX rfl (by decide) (Nat.le_of_ble_eq_true rfl) d_X_makes_55 rfl (by decide) (fun z55 w h55 => ?_)
          refine gx_ireturn hG d_X_makes_58 rfl rfl ?_
          refine ⟨_, rfl, _, rfl, ?_⟩
          unfold sp_makes
          rw [if_neg (by omega), aX_at0 hrr, if_neg (by omega)]
          obtain ⟨rfl, rfl⟩ := h55
          first
            | (rw [if_pos (Or.inr c50)]; exact PX_fd (by omega) hj)
            | (have ng : ¬ okL (aX w1) r := by rw [okL_X hrr hs.2]; rcases h33 with h | ⟨-, m, h, h2, -⟩; (· exact h.2); (· omega)
               rw [if_pos (Or.inl (bi_f ng))]; exact PX_fd (by omega) hj)
    · refine gx_iload3 (q := 26) hG d_X_makes_25 rfl ?_
      refine gx_ireturn hG d_X_makes_26 rfl rfl ?_
      refine ⟨_, rfl, _, rfl, ?_⟩
      unfold sp_makes
      rcases h7 with h | ⟨rfl, rfl, h⟩ | ⟨rfl, rfl, h, h1⟩
      · exact absurd h.1 c22
      · rw [if_pos (by omega)]; exact PX_id hj
      · rw [if_neg (by omega), aX_at0 h, if_pos (by omega)]; exact PX_fd (by omega) hj
  · have c6 := bi_eq0.mp c6
    refine gx_iconst (q := 10) hG d_X_makes_9 rfl ?_
    refine gx_ireturn hG d_X_makes_10 rfl rfl ?_
    refine ⟨_, rfl, _, rfl, ?_⟩
    unfold sp_makes; rw [if_pos (by omega)]; exact PX_id hj

