/-! part 65: rest and wish, the class's calls -/
theorem ev_X_rest {w : Mem} {m i : Int} (hO : OK (aX w)) (hj : XJ w) (hm : R3 m) (hi : R3 i) : EvI y_X_rest b_X_rest 4 (some .int) (4) [Vr 0, Vi m, Vi i] w (PX w (sp_rest (aX w) m i)) := by
  refine Ev.mk (isI := false) (by decide +kernel) nofun (Nat.le_of_ble_eq_true rfl) (fun G hG => ?_)
  show G 0 [some (Vr 0), some (Vi m), some (Vi i), none] [] 102 (hp w)
  have hg := hO.gi hj
  have hlw := hg.2.2.1
  have L : ∀ (j : Nat) (v : Int) (w1 : Mem), v + j = 4000 → (2 ≤ m ∧ m ≤ 60 ∧ 0 ≤ i ∧ i < m) → w 3 2 = 0 → SX w w1 → (0 ≤ w1 19 2 ∧ w1 19 2 ≤ 60) → TB (w1 19 2) (w1 20) → (∀ v, 1 ≤ v → v ≤ 4000 → w 3 2 ≠ 2 → (hadS (aX w) v ↔ (1 ≤ w1 19 2 ∧ w1 20 (v % w1 19 2) ≤ v))) → 1 ≤ v → v % m = i → (∀ u, 1 ≤ u → u < v → ¬ (u % m = i ∧ hadS (aX w) u)) → G 55 [some (Vr 0), some (Vi m), some (Vi i), some (Vi v)] [] 102 (hp w1) := by
    intro j
    induction j using Nat.strongRecOn with
    | _ j ih =>
      intro v w1 h1 hmi h0 hs b2 b3 b6 hv hvm hu
      have hno : m * 60 < v → ∀ u, 1 ≤ u → u ≤ 4000 → ¬ (u % m = i ∧ hadS (aX w) u) := by
        rintro c u u1 u2 ⟨q1, q2⟩
        have q3 : rc 0 (w 4) (w 3 1).toNat u := by
          have q4 := hadX.mpr q2
          unfold hd at q4
          rw [h0] at q4
          exact rch0.mp q4
        obtain ⟨v', p1, p2, p3, p4⟩ := rc_short (M := m) (fun x x0 x1 => hg.2.2.2.1 x x0 (by omega)) (by omega) u1 q3
        refine hu v' p2 (by omega) ⟨by rw [p4, q1], hadX.mp ?_⟩
        unfold hd
        rw [h0]
        exact rch0.mpr p1
      have hh := fun c => b6 v hv c (by omega)
      refine gx_iload3 (q := 56) hG d_X_rest_55 rfl ?_
      refine gx_iload1 (q := 57) hG d_X_rest_56 rfl ?_
      refine gx_bipush (q := 59) hG d_X_rest_57 rfl rfl ?_
      refine gx_imul (q := 60) hG d_X_rest_59 rfl ?_
      refine gx_icmp_gt (tgt := 83) (q := 63) hG d_X_rest_60 rfl rfl (by omega) (by omega) (fun c60 => ?_) (fun c60 => ?_)
      · refine gx_bipush (q := 85) hG d_X_rest_83 rfl rfl ?_
        refine gx_ireturn hG d_X_rest_85 rfl rfl ?_
        refine ⟨_, rfl, _, rfl, ?_⟩
        unfold sp_rest
        rw [if_neg (by omega), if_neg (show ¬ aX w 4 0 ≠ 0 from fun q => q h0), leastZ_eq (z := -9) (Or.inr ⟨rfl, hno (by omega)⟩)]
        exact ⟨rfl, hs⟩
      · refine gx_aload0 (q := 64) hG d_X_rest_63 rfl ?_
        refine gx_get (q := 67) hG f_X_69 hpX rfl d_X_rest_64 rfl ?_
        refine gx_iload3 (q := 68) hG d_X_rest_67 rfl ?_
        refine gw_V1X (q := 71) hG l_X_244 c_Su_isHad (ev_Su_isHad b2 b3 (by omega)) hpSu rfl (by decide) (Nat.le_of_ble_eq_true rfl) d_X_rest_68 rfl (by decide) ?_
        rw [← propext (hh (by omega))]
        refine gx_if_eq (tgt := 76) (q := 74) hG d_X_rest_71 rfl rfl (bi_R _) (fun c71 => ?_) (fun c71 => ?_)
        · have c71 := bi_eq0.mp c71
          refine gx_iload3 (q := 77) hG d_X_rest_76 rfl ?_
          refine gx_iload1 (q := 78) hG d_X_rest_77 rfl ?_
          refine gx_iadd (q := 79) hG d_X_rest_78 rfl ?_
          refine gx_istore3 (q := 80) hG d_X_rest_79 rfl rfl ?_
          refine gx_goto (tgt := 55) hG d_X_rest_80 rfl ?_
          refine ih (j - m.toNat) (by omega) (v + m) w1 (by omega) hmi h0 hs b2 b3 b6 (by omega) (by rw [Int.add_emod_right]; exact hvm) (fun u u1 u2 q => ?_)
          rcases Int.lt_trichotomy u v with c | c | c
          · exact hu u u1 c q
          · exact c71 (c ▸ q.2)
          · have e := Int.emod_eq_emod_iff_emod_sub_eq_zero.mp (q.1.trans hvm.symm)
            have e2 := Int.emod_eq_of_lt (a := u - v) (b := m) (by omega) (by omega)
            omega
        · have c71 := bi_ne0.mp c71
          refine gx_iload3 (q := 75) hG d_X_rest_74 rfl ?_
          refine gx_ireturn hG d_X_rest_75 rfl rfl ?_
          refine ⟨_, rfl, _, rfl, ?_⟩
          unfold sp_rest
          rw [if_neg (by omega), if_neg (show ¬ aX w 4 0 ≠ 0 from fun q => q h0), leastZ_eq (z := v) (Or.inl ⟨hv, by omega, ⟨hvm, c71⟩, hu⟩)]
          exact ⟨rfl, hs⟩
  refine gx_iload1 (q := 1) hG d_X_rest_0 rfl ?_
  refine gx_iconst (q := 2) hG d_X_rest_1 rfl ?_
  refine gx_icmp_lt (tgt := 19) (q := 5) hG d_X_rest_2 rfl rfl (by omega) (by omega) (fun c2 => ?_) (fun c2 => ?_)
  · refine gx_iconst (q := 20) hG d_X_rest_19 rfl ?_
    refine gx_ireturn hG d_X_rest_20 rfl rfl ?_
    refine ⟨_, rfl, _, rfl, ?_⟩
    unfold sp_rest; rw [if_pos (by omega)]; exact PX_id hj
  · refine gx_iload1 (q := 6) hG d_X_rest_5 rfl ?_
    refine gx_bipush (q := 8) hG d_X_rest_6 rfl rfl ?_
    refine gx_icmp_gt (tgt := 19) (q := 11) hG d_X_rest_8 rfl rfl (by omega) (by omega) (fun c8 => ?_) (fun c8 => ?_)
    · refine gx_iconst (q := 20) hG d_X_rest_19 rfl ?_
      refine gx_ireturn hG d_X_rest_20 rfl rfl ?_
      refine ⟨_, rfl, _, rfl, ?_⟩
      unfold sp_rest; rw [if_pos (by omega)]; exact PX_id hj
    · refine gx_iload2 (q := 12) hG d_X_rest_11 rfl ?_
      refine gx_iload1 (q := 13) hG d_X_rest_12 rfl ?_
      refine gw_S2X (q := 16) hG l_X_110 c_X_isIn (ev_X_isIn (by first | assumption | omega) (by first | assumption | omega)) (by decide) (Nat.le_of_ble_eq_true rfl) d_X_rest_13 rfl (by decide) ?_
      refine gx_if_ne (tgt := 21) (q := 19) hG d_X_rest_16 rfl rfl (bi_R _) (fun c16 => ?_) (fun c16 => ?_)
      · have c16 := bi_ne0.mp c16
        refine gx_aload0 (q := 22) hG d_X_rest_21 rfl ?_
        refine gx_get (q := 25) hG f_X_21 hpX rfl d_X_rest_22 rfl ?_
        refine gx_get (q := 28) hG f_X_148 (hpGame (by unfold isG; omega)) rfl d_X_rest_25 rfl ?_
        refine gx_if_eq (tgt := 34) (q := 31) hG d_X_rest_28 rfl rfl (by omega) (fun c28 => ?_) (fun c28 => ?_)
        · refine gx_aload0 (q := 35) hG d_X_rest_34 rfl ?_
          refine gx_get (q := 38) hG f_X_69 hpX rfl d_X_rest_35 rfl ?_
          refine gx_aload0 (q := 39) hG d_X_rest_38 rfl ?_
          refine gx_get (q := 42) hG f_X_21 hpX rfl d_X_rest_39 rfl ?_
          refine gw_V1V (q := 45) hG l_X_233 c_Su_load (ev_Su_load hg) hpSu rfl (by decide) (Nat.le_of_ble_eq_true rfl) d_X_rest_42 rfl (by decide) (fun w1 h42 => ?_)
          obtain ⟨a1, a2, a3, a4⟩ := h42
          obtain ⟨hs, b2, b3, b4, b5, b6⟩ := load_facts hO hj a1 a2
          refine gx_iload2 (q := 46) hG d_X_rest_45 rfl ?_
          refine gx_if_ne (tgt := 53) (q := 49) hG d_X_rest_46 rfl rfl (by omega) (fun c46 => ?_) (fun c46 => ?_)
          · refine gx_iload2 (q := 54) hG d_X_rest_53 rfl ?_
            refine gx_istore3 (q := 55) hG d_X_rest_54 rfl rfl ?_
            first
              | (refine L (4000 - m).toNat m w1 (by omega) (by omega) c28 hs b2 b3 b6 (by omega) (by rw [Int.emod_self]; omega) (fun u u1 u2 q => ?_)
                 have := Int.emod_eq_of_lt (a := u) (b := m) (by omega) (by omega)
                 omega)
              | (refine L (4000 - i).toNat i w1 (by omega) (by omega) c28 hs b2 b3 b6 (by omega) (Int.emod_eq_of_lt (by omega) (by omega)) (fun u u1 u2 q => ?_)
                 have := Int.emod_eq_of_lt (a := u) (b := m) (by omega) (by omega)
                 omega)
          · refine gx_iload1 (q := 50) hG d_X_rest_49 rfl ?_
            refine gx_goto (tgt := 54) hG d_X_rest_50 rfl ?_
            refine gx_istore3 (q := 55) hG d_X_rest_54 rfl rfl ?_
            first
              | (refine L (4000 - m).toNat m w1 (by omega) (by omega) c28 hs b2 b3 b6 (by omega) (by rw [Int.emod_self]; omega) (fun u u1 u2 q => ?_)
                 have := Int.emod_eq_of_lt (a := u) (b := m) (by omega) (by omega)
                 omega)
              | (refine L (4000 - i).toNat i w1 (by omega) (by omega) c28 hs b2 b3 b6 (by omega) (Int.emod_eq_of_lt (by omega) (by omega)) (fun u u1 u2 q => ?_)
                 have := Int.emod_eq_of_lt (a := u) (b := m) (by omega) (by omega)
                 omega)
        · refine gx_bipush (q := 33) hG d_X_rest_31 rfl rfl ?_
          refine gx_ireturn hG d_X_rest_33 rfl rfl ?_
          refine ⟨_, rfl, _, rfl, ?_⟩
          unfold sp_rest; rw [if_neg (by omega), if_pos (show aX w 4 0 ≠ 0 from c28)]; exact PX_id hj
      · have c16 := bi_eq0.mp c16
        refine gx_iconst (q := 20) hG d_X_rest_19 rfl ?_
        refine gx_ireturn hG d_X_rest_20 rfl rfl ?_
        refine ⟨_, rfl, _, rfl, ?_⟩
        unfold sp_rest; rw [if_pos (by omega)]; exact PX_id hj
theorem TL_congr {num num' : Int → Int} {k : Nat} {T : Int → Int} (hk : 0 < k) (h : ∀ i : Int, 0 ≤ i → i < k → num i = num' i) (hT : TL num k T) : TL num' k T := by
  have e0 := h 0 (by omega) (by omega)
  intro r r0 r1
  rw [← e0] at r1 ⊢
  rcases hT r r0 r1 with ⟨a, b⟩ | ⟨a, b, c, d⟩
  · exact Or.inl ⟨a, fun v hv => b v ((rc_congr k h v).mpr hv)⟩
  · exact Or.inr ⟨(rc_congr k h _).mp a, b, c, fun v hv => d v ((rc_congr k h v).mpr hv)⟩
/-- one sort more: what the table widened says -/
theorem wish_eq {w w1 : Mem} {n v z : Int} (hO : OK (aX w)) (hj : XJ w) (h0 : w 3 2 = 0) (hn : 2 ≤ n ∧ n ≤ 60) (hv : 1 ≤ v ∧ v ≤ 4000) (hT : 1 ≤ w 3 1 → w1 19 2 = w 4 0 ∧ TL (w 4) (w 3 1).toNat (w1 20)) (h19 : w 3 1 = 0 → w1 19 2 = 0) {m : Nat} (hm : w1 19 2 = (m : Int)) (hz : (m = 0 ∧ z = 1048576) ∨ (1 ≤ m ∧ ∃ F, WID m n (w1 20) F ∧ z = gofT F m)) (ho : ¬ hadS (aX w) n) : z < v ↔ wishP (aX w) v n := by
  have hg := hO.gi hj
  have hs := hg.2.1
  have e1 : aX w 4 1 = w 3 1 := rfl
  have hnum : ∀ i : Int, 0 ≤ i → i < ((w 3 1).toNat + 1 : Nat) → 1 ≤ up (aX w 5) (w 3 1) n i ∧ up (aX w 5) (w 3 1) n i ≤ 60 := fun i i0 i1 => by
    unfold up
    split
    · omega
    · exact hO.num i i0 (by omega)
  unfold wishP
  rw [e1]
  by_cases c : w 3 1 = 0
  · have hm0 : m = 0 := by have := h19 c; omega
    have hz' : z = 1048576 := by rcases hz with hz | hz <;> omega
    constructor
    · intro q; omega
    · rintro ⟨-, -, q, -⟩
      exfalso
      rw [c] at q
      have q : Nat.gcd 0 (up (aX w 5) 0 n ((0 : Nat) : Int)).toNat = 1 := q
      rw [Nat.gcd_zero_left, show ((0 : Nat) : Int) = 0 from rfl, up_eq] at q
      omega
  · obtain ⟨t1, t2⟩ := hT (by omega)
    have h40 := hg.2.2.2.1 0 (by omega) (by omega)
    rw [show (3 : Int) + 1 = 4 by omega] at h40
    obtain ⟨F, hF, hz'⟩ : ∃ F, WID m n (w1 20) F ∧ z = gofT F m := by
      rcases hz with hz | hz
      · omega
      · exact hz.2
    have hnn : up (aX w 5) (w 3 1) n ((w 3 1).toNat : Int) = n := by rw [show (((w 3 1).toNat : Nat) : Int) = w 3 1 by omega, up_eq]
    have t3 : TL (up (aX w 5) (w 3 1) n) (w 3 1).toNat (w1 20) := TL_congr (by omega) (fun i i0 i1 => by rw [up_ne (by omega)]; exact numX i i0 i1) t2
    have hm' : up (aX w 5) (w 3 1) n 0 = m := by rw [up_ne (by omega), ← numX 0 (by omega) (by omega), ← t1, hm]
    have t4 : TL (up (aX w 5) (w 3 1) n) ((w 3 1).toNat + 1) F := TL_widen (by omega) (fun i i0 i1 => hnum i i0 (by omega)) t3 (by rw [hm', hnn]; exact hF)
    have hL := LD_of (by omega) (fun i i0 i1 => hnum i i0 (by omega)) t4
    rw [hm'] at hL
    have he := LD_end (Or.inl rfl) (fun i i0 i1 => hnum i i0 (by omega)) hL
    rw [hz']
    constructor
    · intro q
      have hlt : gofT F m < 1048576 := by omega
      obtain ⟨a1, a2, a3⟩ := LD_gap hL hlt
      refine ⟨hn.1, ho, ?_, fun u u0 u1 => a3 u (by omega)⟩
      exact Classical.byContradiction fun z9 => by have := he.mpr (Or.inr z9); omega
    · rintro ⟨-, -, q1, q2⟩
      have hlt : gofT F m < 1048576 := by
        rcases Int.lt_or_le (gofT F m) 1048576 with d | d
        · exact d
        · rcases he.mp d with z9 | z9
          · exact absurd z9 (by decide)
          · exact absurd q1 z9
      obtain ⟨a1, a2, a3⟩ := LD_gap hL hlt
      rcases Int.lt_or_le (gofT F m) v with d | d
      · exact d
      · rcases a2 with a2 | a2
        · omega
        · exact absurd (q2 _ d (by omega)) a2.2
theorem ev_X_wish {w : Mem} {v : Int} (hO : OK (aX w)) (hj : XJ w) (hv : R3 v) : EvI y_X_wish b_X_wish 5 (some .int) (5) [Vr 0, Vi v] w (PX w (sp_wish (aX w) v)) := by
  refine Ev.mk (isI := false) (by decide +kernel) nofun (Nat.le_of_ble_eq_true rfl) (fun G hG => ?_)
  show G 0 [some (Vr 0), some (Vi v), none, none, none] [] 102 (hp w)
  have hg := hO.gi hj
  have hlw := hg.2.2.1
  have L : ∀ (j k : Nat) (w1 W : Mem), k + j = 60 → 1 ≤ k → (1 ≤ v ∧ v ≤ 4000) → w 3 2 = 0 → ¬ (bi (endS (aX w)) = 0 ∧ grS (aX w) < v) → SX w w1 → (0 ≤ w1 19 2 ∧ w1 19 2 ≤ 60) → TB (w1 19 2) (w1 20) → (1 ≤ w 3 1 → w1 19 2 = w 4 0 ∧ TL (w 4) (w 3 1).toNat (w1 20)) → (w 3 1 = 0 → w1 19 2 = 0) → (∀ b, b ≠ 21 → W b = w1 b) → (∀ b, b ≠ 19 → b ≠ 20 → w1 b = w b) → G 67 [some (Vr 0), some (Vi v), some (Vi (fsN (wishP (aX w) v) k)), some (Vi (cn (wishP (aX w) v) k)), some (Vi ((k : Int) + 1))] [] 102 (hp W) := by
    intro j
    induction j with
    | zero =>
      intro k w1 W h1 h1' hvv h0 hns hs b2 b3 t1 t2 f1 f2
      have hk : k = 60 := by omega
      subst hk
      have hb := cn_bd (P := wishP (aX w) v) 60
      have hsW : SX w W := hs.tr (SX_scr hs.2.1 (fun b hb => f1 b (by omega)))
      refine gx_iload4 (q := 69) hG d_X_wish_67 rfl ?_
      refine gx_bipush (q := 71) hG d_X_wish_69 rfl rfl ?_
      refine gx_icmp_gt (tgt := 119) (q := 74) hG d_X_wish_71 rfl rfl (by omega) (by omega) (fun c71 => ?_) (fun c71 => ?_)
      · refine gx_iload3 (q := 120) hG d_X_wish_119 rfl ?_
        refine gx_if_le (tgt := 128) (q := 123) hG d_X_wish_120 rfl rfl (by omega) (fun c120 => ?_) (fun c120 => ?_)
        · refine gx_iload2 (q := 129) hG d_X_wish_128 rfl ?_
          refine gx_ireturn hG d_X_wish_129 rfl rfl ?_
          refine ⟨_, rfl, _, rfl, ?_⟩
          unfold sp_wish
          rw [if_neg (by omega), if_neg (fun q => q.elim (fun q => q h0) hns)]
          first
            | (rw [if_pos (by omega)]; refine PX_tr hsW ?_; rw [← hsW.1]; exact PX_aside hsW.2.1)
            | (rw [if_neg (by omega)]; exact ⟨rfl, hsW⟩)
        · refine gx_aload0 (q := 124) hG d_X_wish_123 rfl ?_
          refine gx_iload3 (q := 125) hG d_X_wish_124 rfl ?_
          refine gw_puti (q := 128) hG f_X_99 hpX (Nat.le_of_ble_eq_true rfl) vfit_i (Or.inl rfl) d_X_wish_125 rfl 11 rfl rfl ?_
          refine gx_iload2 (q := 129) hG d_X_wish_128 rfl ?_
          refine gx_ireturn hG d_X_wish_129 rfl rfl ?_
          refine ⟨_, rfl, _, rfl, ?_⟩
          unfold sp_wish
          rw [if_neg (by omega), if_neg (fun q => q.elim (fun q => q h0) hns)]
          first
            | (rw [if_pos (by omega)]; refine PX_tr hsW ?_; rw [← hsW.1]; exact PX_aside hsW.2.1)
            | (rw [if_neg (by omega)]; exact ⟨rfl, hsW⟩)
      · exfalso; omega
    | succ j ih =>
      intro k w1 W h1 h1' hvv h0 hns hs b2 b3 t1 t2 f1 f2
      have hb := cn_bd (P := wishP (aX w) v) k
      have hsW : SX w W := hs.tr (SX_scr hs.2.1 (fun b hb => f1 b (by omega)))
      have hgW : GI W 3 := OK.gi (hsW.ok hO) hsW.2.1
      have e19 : W 19 2 = w1 19 2 := by rw [f1 19 (by omega)]
      have e20 : W 20 = w1 20 := f1 20 (by omega)
      obtain ⟨mn, hmn⟩ := Int.eq_ofNat_of_zero_le b2.1
      have hop : (1 ≤ (k : Int) + 1 ∧ (k : Int) + 1 ≤ 60 ∧ ¬ hd W 3 ((k : Int) + 1)) ↔ ¬ hadS (aX w) ((k : Int) + 1) := by
        rw [hadX, hsW.1]
        exact ⟨fun q => q.2.2, fun q => ⟨by omega, by omega, q⟩⟩
      have cs : cn (wishP (aX w) v) (k + 1) = cn (wishP (aX w) v) k + bi (wishP (aX w) v ((k : Int) + 1)) := rfl
      have fs : fsN (wishP (aX w) v) (k + 1) = if bi (wishP (aX w) v ((k : Int) + 1)) = 1 ∧ cn (wishP (aX w) v) k = 0 then ((k : Int) + 1) else fsN (wishP (aX w) v) k := rfl
      refine gx_iload4 (q := 69) hG d_X_wish_67 rfl ?_
      refine gx_bipush (q := 71) hG d_X_wish_69 rfl rfl ?_
      refine gx_icmp_gt (tgt := 119) (q := 74) hG d_X_wish_71 rfl rfl (by omega) (by omega) (fun c71 => ?_) (fun c71 => ?_)
      · exfalso; omega
      · refine gx_aload0 (q := 75) hG d_X_wish_74 rfl ?_
        refine gx_get (q := 78) hG f_X_21 hpX rfl d_X_wish_75 rfl ?_
        refine gx_iload4 (q := 80) hG d_X_wish_78 rfl ?_
        refine gw_V1X (q := 83) hG l_X_196 c_Gm_isOpen (ev_Gm_isOpen hgW (by omega)) (hpGame (by unfold isG; omega)) rfl (by decide) (Nat.le_of_ble_eq_true rfl) d_X_wish_80 rfl (by decide) ?_
        rw [propext hop]
        refine gx_if_eq (tgt := 113) (q := 86) hG d_X_wish_83 rfl rfl (bi_R _) (fun c83 => ?_) (fun c83 => ?_)
        · have c83 := bi_eq0.mp c83
          have no : ¬ wishP (aX w) v ((k : Int) + 1) := fun q => c83 q.2.1
          refine gx_iinc4 (q := 116) hG d_X_wish_113 rfl rfl ?_
          refine gx_goto (tgt := 67) hG d_X_wish_116 rfl ?_
          first
            | (have e := ih (k + 1) w1 W (by omega) (by omega) hvv h0 hns hs b2 b3 t1 t2 f1 f2
               rw [cs, fs, bi_f no, if_neg (by omega), Int.add_zero] at e
               exact e)
            | (have e := ih (k + 1) w1 w2 (by omega) (by omega) hvv h0 hns hs b2 b3 t1 t2 (fun b hb => by rw [p1 b hb, f1 b hb]) f2
               first
                 | (rw [cs, fs, bi_f (fun q => by have := no.mp q; omega), if_neg (by omega), Int.add_zero] at e; exact e)
                 | (rw [cs, fs, bi_t (no.mpr (by omega)), if_pos (by omega)] at e; exact e)
                 | (rw [cs, fs, bi_t (no.mpr (by omega)), if_neg (by omega)] at e; exact e))
        · have c83 := bi_ne0.mp c83
          refine gx_aload0 (q := 87) hG d_X_wish_86 rfl ?_
          refine gx_get (q := 90) hG f_X_69 hpX rfl d_X_wish_87 rfl ?_
          refine gx_iload4 (q := 92) hG d_X_wish_90 rfl ?_
          refine gw_V1I (q := 95) hG l_X_258 c_Su_greatestWith (ev_Su_greatestWith (n := k + 1) (m := mn) (by rw [e19, hmn]) (by omega) (by rw [e19, e20]; exact b3) (by omega)) hpSu rfl (by decide) (Nat.le_of_ble_eq_true rfl) d_X_wish_92 rfl (by decide) (fun z92 w2 h92 => ?_)
          obtain ⟨p1, p2⟩ := h92
          rw [e20, show ((k + 1 : Nat) : Int) = (k : Int) + 1 from rfl] at p2
          have hwz := wish_eq (n := (k : Int) + 1) (v := v) (z := z92) hO hj h0 (by omega) hvv t1 t2 hmn p2 c83
          have hzb : 0 ≤ z92 ∧ z92 ≤ 1048576 := by rcases p2 with ⟨-, rfl⟩ | ⟨-, F, -, rfl⟩; (· omega); (· exact gofT_bd (by omega))
          refine gx_iload1 (q := 96) hG d_X_wish_95 rfl ?_
          refine gx_icmp_ge (tgt := 113) (q := 99) hG d_X_wish_96 rfl rfl (by omega) (by omega) (fun c96 => ?_) (fun c96 => ?_)
          · have no : wishP (aX w) v ((k : Int) + 1) ↔ z92 < v := hwz.symm
            refine gx_iinc4 (q := 116) hG d_X_wish_113 rfl rfl ?_
            refine gx_goto (tgt := 67) hG d_X_wish_116 rfl ?_
            first
              | (have e := ih (k + 1) w1 W (by omega) (by omega) hvv h0 hns hs b2 b3 t1 t2 f1 f2
                 rw [cs, fs, bi_f no, if_neg (by omega), Int.add_zero] at e
                 exact e)
              | (have e := ih (k + 1) w1 w2 (by omega) (by omega) hvv h0 hns hs b2 b3 t1 t2 (fun b hb => by rw [p1 b hb, f1 b hb]) f2
                 first
                   | (rw [cs, fs, bi_f (fun q => by have := no.mp q; omega), if_neg (by omega), Int.add_zero] at e; exact e)
                   | (rw [cs, fs, bi_t (no.mpr (by omega)), if_pos (by omega)] at e; exact e)
                   | (rw [cs, fs, bi_t (no.mpr (by omega)), if_neg (by omega)] at e; exact e))
          · have no : wishP (aX w) v ((k : Int) + 1) ↔ z92 < v := hwz.symm
            refine gx_iload3 (q := 100) hG d_X_wish_99 rfl ?_
            refine gx_if_ne (tgt := 108) (q := 103) hG d_X_wish_100 rfl rfl (by omega) (fun c100 => ?_) (fun c100 => ?_)
            · refine gx_iload2 (q := 109) hG d_X_wish_108 rfl ?_
              refine gx_istore2 (q := 110) hG d_X_wish_109 rfl rfl ?_
              refine gx_iinc3 (q := 113) hG d_X_wish_110 rfl rfl ?_
              refine gx_iinc4 (q := 116) hG d_X_wish_113 rfl rfl ?_
              refine gx_goto (tgt := 67) hG d_X_wish_116 rfl ?_
              first
                | (have e := ih (k + 1) w1 W (by omega) (by omega) hvv h0 hns hs b2 b3 t1 t2 f1 f2
                   rw [cs, fs, bi_f no, if_neg (by omega), Int.add_zero] at e
                   exact e)
                | (have e := ih (k + 1) w1 w2 (by omega) (by omega) hvv h0 hns hs b2 b3 t1 t2 (fun b hb => by rw [p1 b hb, f1 b hb]) f2
                   first
                     | (rw [cs, fs, bi_f (fun q => by have := no.mp q; omega), if_neg (by omega), Int.add_zero] at e; exact e)
                     | (rw [cs, fs, bi_t (no.mpr (by omega)), if_pos (by omega)] at e; exact e)
                     | (rw [cs, fs, bi_t (no.mpr (by omega)), if_neg (by omega)] at e; exact e))
            · refine gx_iload4 (q := 105) hG d_X_wish_103 rfl ?_
              refine gx_goto (tgt := 109) hG d_X_wish_105 rfl ?_
              refine gx_istore2 (q := 110) hG d_X_wish_109 rfl rfl ?_
              refine gx_iinc3 (q := 113) hG d_X_wish_110 rfl rfl ?_
              refine gx_iinc4 (q := 116) hG d_X_wish_113 rfl rfl ?_
              refine gx_goto (tgt := 67) hG d_X_wish_116 rfl ?_
              first
                | (have e := ih (k + 1) w1 W (by omega) (by omega) hvv h0 hns hs b2 b3 t1 t2 f1 f2
                   rw [cs, fs, bi_f no, if_neg (by omega), Int.add_zero] at e
                   exact e)
                | (have e := ih (k + 1) w1 w2 (by omega) (by omega) hvv h0 hns hs b2 b3 t1 t2 (fun b hb => by rw [p1 b hb, f1 b hb]) f2
                   first
                     | (rw [cs, fs, bi_f (fun q => by have := no.mp q; omega), if_neg (by omega), Int.add_zero] at e; exact e)
                     | (rw [cs, fs, bi_t (no.mpr (by omega)), if_pos (by omega)] at e; exact e)
                     | (rw [cs, fs, bi_t (no.mpr (by omega)), if_neg (by omega)] at e; exact e))
  refine gx_iload1 (q := 1) hG d_X_wish_0 rfl ?_
  refine gx_iconst (q := 2) hG d_X_wish_1 rfl ?_
  refine gx_icmp_lt (tgt := 12) (q := 5) hG d_X_wish_2 rfl rfl (by omega) (by omega) (fun c2 => ?_) (fun c2 => ?_)
  · refine gx_iconst (q := 13) hG d_X_wish_12 rfl ?_
    refine gx_ireturn hG d_X_wish_13 rfl rfl ?_
    refine ⟨_, rfl, _, rfl, ?_⟩
    unfold sp_wish; rw [if_pos (by omega)]; exact PX_id hj
  · refine gx_iload1 (q := 6) hG d_X_wish_5 rfl ?_
    refine gx_sipush (q := 9) hG d_X_wish_6 rfl rfl ?_
    refine gx_icmp_le (tgt := 14) (q := 12) hG d_X_wish_9 rfl rfl (by omega) (by omega) (fun c9 => ?_) (fun c9 => ?_)
    · refine gx_aload0 (q := 15) hG d_X_wish_14 rfl ?_
      refine gx_get (q := 18) hG f_X_69 hpX rfl d_X_wish_15 rfl ?_
      refine gx_aload0 (q := 19) hG d_X_wish_18 rfl ?_
      refine gx_get (q := 22) hG f_X_21 hpX rfl d_X_wish_19 rfl ?_
      refine gw_V1V (q := 25) hG l_X_233 c_Su_load (ev_Su_load hg) hpSu rfl (by decide) (Nat.le_of_ble_eq_true rfl) d_X_wish_22 rfl (by decide) (fun w1 h22 => ?_)
      obtain ⟨a1, a2, a3, a4⟩ := h22
      obtain ⟨hs, b2, b3, b4, b5, b6⟩ := load_facts hO hj a1 a2
      have e32 : w1 3 2 = w 3 2 := by rw [a1 3 (by omega) (by omega)]
      have hgb := gofT_bd (T := w1 20) b2
      refine gx_aload0 (q := 26) hG d_X_wish_25 rfl ?_
      refine gx_get (q := 29) hG f_X_21 hpX rfl d_X_wish_26 rfl ?_
      refine gx_get (q := 32) hG f_X_148 (hpGame (by unfold isG; omega)) rfl d_X_wish_29 rfl ?_
      rw [e32]
      refine gx_if_ne (tgt := 56) (q := 35) hG d_X_wish_32 rfl rfl (by omega) (fun c32 => ?_) (fun c32 => ?_)
      · refine gx_bipush (q := 58) hG d_X_wish_56 rfl rfl ?_
        refine gx_ireturn hG d_X_wish_58 rfl rfl ?_
        refine ⟨_, rfl, _, rfl, ?_⟩
        unfold sp_wish; rw [if_neg (by omega)]
        first
          | (rw [if_pos (Or.inl (show aX w 4 0 ≠ 0 from c32))]; exact ⟨rfl, hs⟩)
          | (rw [if_pos (Or.inr ⟨bi_f (fun q => c42 (b4.mpr q)), by omega⟩)]; exact ⟨rfl, hs⟩)
      · refine gx_aload0 (q := 36) hG d_X_wish_35 rfl ?_
        refine gx_get (q := 39) hG f_X_69 hpX rfl d_X_wish_36 rfl ?_
        refine gw_V0X (q := 42) hG l_X_235 c_Su_isEndless (ev_Su_isEndless b2 b3) hpSu rfl (by decide) (Nat.le_of_ble_eq_true rfl) d_X_wish_39 rfl (by decide) ?_
        refine gx_if_ne (tgt := 59) (q := 45) hG d_X_wish_42 rfl rfl (bi_R _) (fun c42 => ?_) (fun c42 => ?_)
        · have c42 := bi_ne0.mp c42
          have b5' := b4.mp c42
          refine gx_bipush (q := 61) hG d_X_wish_59 rfl rfl ?_
          refine gx_istore2 (q := 62) hG d_X_wish_61 rfl rfl ?_
          refine gx_iconst (q := 63) hG d_X_wish_62 rfl ?_
          refine gx_istore3 (q := 64) hG d_X_wish_63 rfl rfl ?_
          refine gx_iconst (q := 65) hG d_X_wish_64 rfl ?_
          refine gx_istore4 (q := 67) hG d_X_wish_65 rfl rfl ?_
          have e1 : cn (wishP (aX w) v) 1 = 0 := by show 0 + bi _ = 0; rw [bi_f (fun q => absurd q.1 (by decide))]; rfl
          have e2 : fsN (wishP (aX w) v) 1 = -9 := by rcases fsN_spec (P := wishP (aX w) v) 1 with q | q <;> omega
          first
            | (have e := L 59 1 w1 w1 (by omega) (by omega) (by omega) (by omega) (fun q => by rw [bi_t b5'] at q; exact absurd q.1 (by decide)) hs b2 b3 (a3 (by omega)) (a4 (by omega)) (fun _ _ => rfl) a1
               rw [e1, e2] at e
               exact e)
            | (have e := L 59 1 w1 w1 (by omega) (by omega) (by omega) (by omega) (fun q => by omega) hs b2 b3 (a3 (by omega)) (a4 (by omega)) (fun _ _ => rfl) a1
               rw [e1, e2] at e
               exact e)
        · have c42 := bi_eq0.mp c42
          have b5' := b5 (fun q => c42 (b4.mpr q))
          refine gx_aload0 (q := 46) hG d_X_wish_45 rfl ?_
          refine gx_get (q := 49) hG f_X_69 hpX rfl d_X_wish_46 rfl ?_
          refine gw_V0X (q := 52) hG l_X_241 c_Su_greatestGap (ev_Su_greatestGap b2 b3) hpSu rfl (by decide) (Nat.le_of_ble_eq_true rfl) d_X_wish_49 rfl (by decide) ?_
          refine gx_iload1 (q := 53) hG d_X_wish_52 rfl ?_
          refine gx_icmp_ge (tgt := 59) (q := 56) hG d_X_wish_53 rfl rfl (by omega) (by omega) (fun c53 => ?_) (fun c53 => ?_)
          · refine gx_bipush (q := 61) hG d_X_wish_59 rfl rfl ?_
            refine gx_istore2 (q := 62) hG d_X_wish_61 rfl rfl ?_
            refine gx_iconst (q := 63) hG d_X_wish_62 rfl ?_
            refine gx_istore3 (q := 64) hG d_X_wish_63 rfl rfl ?_
            refine gx_iconst (q := 65) hG d_X_wish_64 rfl ?_
            refine gx_istore4 (q := 67) hG d_X_wish_65 rfl rfl ?_
            have e1 : cn (wishP (aX w) v) 1 = 0 := by show 0 + bi _ = 0; rw [bi_f (fun q => absurd q.1 (by decide))]; rfl
            have e2 : fsN (wishP (aX w) v) 1 = -9 := by rcases fsN_spec (P := wishP (aX w) v) 1 with q | q <;> omega
            first
              | (have e := L 59 1 w1 w1 (by omega) (by omega) (by omega) (by omega) (fun q => by rw [bi_t b5'] at q; exact absurd q.1 (by decide)) hs b2 b3 (a3 (by omega)) (a4 (by omega)) (fun _ _ => rfl) a1
                 rw [e1, e2] at e
                 exact e)
              | (have e := L 59 1 w1 w1 (by omega) (by omega) (by omega) (by omega) (fun q => by omega) hs b2 b3 (a3 (by omega)) (a4 (by omega)) (fun _ _ => rfl) a1
                 rw [e1, e2] at e
                 exact e)
          · refine gx_bipush (q := 58) hG d_X_wish_56 rfl rfl ?_
            refine gx_ireturn hG d_X_wish_58 rfl rfl ?_
            refine ⟨_, rfl, _, rfl, ?_⟩
            unfold sp_wish; rw [if_neg (by omega)]
            first
              | (rw [if_pos (Or.inl (show aX w 4 0 ≠ 0 from c32))]; exact ⟨rfl, hs⟩)
              | (rw [if_pos (Or.inr ⟨bi_f (fun q => c42 (b4.mpr q)), by omega⟩)]; exact ⟨rfl, hs⟩)
    · refine gx_iconst (q := 13) hG d_X_wish_12 rfl ?_
      refine gx_ireturn hG d_X_wish_13 rfl rfl ?_
      refine ⟨_, rfl, _, rfl, ?_⟩
      unfold sp_wish; rw [if_pos (by omega)]; exact PX_id hj

