/-! part 80: what players say, the reference -/
def SD (w w' : Mem) : Prop := SM w w' ∧ w' 76 35 = w 76 35
theorem SD.tr {w w' w2 : Mem} (h : SD w w') (h2 : SD w' w2) : SD w w2 := ⟨h.1.tr h2.1, h2.2.trans h.2⟩
theorem SD_id {w : Mem} : SD w w := ⟨SM_id, rfl⟩
theorem SD_83 {w : Mem} {F : Int → Int} : SD w (wc w 83 F) := ⟨SM_83, by rw [wc_ne (by omega)]⟩
theorem SD_scr {w w' : Mem} (h : ∀ b, b < 76 ∨ b = 76 ∨ (77 ≤ b ∧ b < 80) ∨ (81 ≤ b ∧ b < 83) ∨ (84 ≤ b ∧ b < 86) ∨ (88 ≤ b ∧ b < 91) → w' b = w b) : SD w w' := ⟨SM_scr h, by rw [h 76 (by omega)]⟩
theorem SD.ok {w w' : Mem} (h : SD w w') (hO : OK (aM w)) : OK (aM w') := h.1.ok hO
theorem SM_drawn {w : Mem} {D : Int} : SM w (wu w 76 35 D) := ⟨aM_scr (fun b hb => wu_ne (by omega)) (fun j hj => by rw [wu_pl (by omega)]), fun b hb => wu_ne (by omega)⟩
theorem ev_M_isOver2 {w : Mem} (hO : OK (aM w)) : EvI y_M_isOver b_M_isOver 1 (some .boolean) (5) [Vr 76] w (fun z w' => z = bi (overS (aM w)) ∧ SD w w') := by
  refine Ev.mk (isI := false) (by decide +kernel) nofun (Nat.le_of_ble_eq_true rfl) (fun G hG => ?_)
  show G 0 [some (Vr 76)] [] 102 (hp w)
  have hb := cn_bd (P := fun v => ¬ hadS (aM w) v) 60
  have hz := cn_zero (P := fun v => ¬ hadS (aM w) v) 60
  have el : leftS (aM w) = cn (fun v => ¬ hadS (aM w) v) 60 := rfl
  rw [← el] at hb hz
  refine gx_aload0 (q := 1) hG d_M_isOver_0 rfl ?_
  refine gw_V0X (q := 4) hG l_M_188 c_M_saidOne (ev_M_saidOne hO) hpM rfl (by decide) (Nat.le_of_ble_eq_true rfl) d_M_isOver_1 rfl (by decide) ?_
  refine gx_if_ne (tgt := 14) (q := 7) hG d_M_isOver_4 rfl rfl (bi_R _) (fun c4 => ?_) (fun c4 => ?_)
  · have c4 := bi_ne0.mp c4
    refine gx_iconst (q := 15) hG d_M_isOver_14 rfl ?_
    refine gx_goto (tgt := 19) hG d_M_isOver_15 rfl ?_
    refine gx_zreturn hG d_M_isOver_19 rfl rfl (by first | exact bi_01 _ | decide | omega) ?_
    first
      | exact ⟨_, rfl, _, rfl, by rw [bi_t (show overS (aM w) from Or.inl c4)], SD_id⟩
      | exact ⟨_, rfl, _, rfl, by rw [bi_t (show overS (aM w) from Or.inr (fun v v0 v1 => Classical.byContradiction (fun q => hz.mp (by omega) v v0 (by omega) q)))], SD_83⟩
      | exact ⟨_, rfl, _, rfl, by rw [bi_f (show ¬ overS (aM w) from fun q => q.elim c4 (fun q => absurd (hz.mpr (fun v v0 v1 q2 => q2 (q v v0 (by omega)))) (by omega)))], SD_83⟩
  · have c4 := bi_eq0.mp c4
    refine gx_aload0 (q := 8) hG d_M_isOver_7 rfl ?_
    refine gw_V0I (q := 11) hG l_M_192 c_M_leftNow (ev_M_leftNow hO) hpM rfl (by decide) (Nat.le_of_ble_eq_true rfl) d_M_isOver_8 rfl (by decide) (fun z8 w h8 => ?_)
    obtain ⟨rfl, F, rfl⟩ := h8
    refine gx_if_ne (tgt := 18) (q := 14) hG d_M_isOver_11 rfl rfl (by omega) (fun c11 => ?_) (fun c11 => ?_)
    · refine gx_iconst (q := 19) hG d_M_isOver_18 rfl ?_
      refine gx_zreturn hG d_M_isOver_19 rfl rfl (by first | exact bi_01 _ | decide | omega) ?_
      first
        | exact ⟨_, rfl, _, rfl, by rw [bi_t (show overS (aM w) from Or.inl c4)], SD_id⟩
        | exact ⟨_, rfl, _, rfl, by rw [bi_t (show overS (aM w) from Or.inr (fun v v0 v1 => Classical.byContradiction (fun q => hz.mp (by omega) v v0 (by omega) q)))], SD_83⟩
        | exact ⟨_, rfl, _, rfl, by rw [bi_f (show ¬ overS (aM w) from fun q => q.elim c4 (fun q => absurd (hz.mpr (fun v v0 v1 q2 => q2 (q v v0 (by omega)))) (by omega)))], SD_83⟩
    · refine gx_iconst (q := 15) hG d_M_isOver_14 rfl ?_
      refine gx_goto (tgt := 19) hG d_M_isOver_15 rfl ?_
      refine gx_zreturn hG d_M_isOver_19 rfl rfl (by first | exact bi_01 _ | decide | omega) ?_
      first
        | exact ⟨_, rfl, _, rfl, by rw [bi_t (show overS (aM w) from Or.inl c4)], SD_id⟩
        | exact ⟨_, rfl, _, rfl, by rw [bi_t (show overS (aM w) from Or.inr (fun v v0 v1 => Classical.byContradiction (fun q => hz.mp (by omega) v v0 (by omega) q)))], SD_83⟩
        | exact ⟨_, rfl, _, rfl, by rw [bi_f (show ¬ overS (aM w) from fun q => q.elim c4 (fun q => absurd (hz.mpr (fun v v0 v1 q2 => q2 (q v v0 (by omega)))) (by omega)))], SD_83⟩
theorem ev_M_isSolved2 {w : Mem} (hO : OK (aM w)) : EvI y_M_isSolved b_M_isSolved 1 (some .boolean) (5) [Vr 76] w (fun z w' => z = bi (canS (aM w)) ∧ SD w w' ∧ (canS (aM w) → w' 76 28 = (GG (aM w) : Int) ∧ HT (aM w) (w' 83))) := by
  refine Ev.mk (isI := false) (by decide +kernel) nofun (Nat.le_of_ble_eq_true rfl) (fun G hG => ?_)
  show G 0 [some (Vr 76)] [] 102 (hp w)
  have hl := hO.law
  have e0 : aM w 4 0 = w 76 11 := rfl
  rw [e0] at hl
  have hgb : 0 ≤ gcS (aM w) ∧ gcS (aM w) ≤ 4000 := cn_bd (P := fun v => ¬ hadS (aM w) v) 4000
  refine gx_aload0 (q := 1) hG d_M_isSolved_0 rfl ?_
  refine gx_get (q := 4) hG f_M_172 hpM rfl d_M_isSolved_1 rfl ?_
  refine gx_if_ne (tgt := 14) (q := 7) hG d_M_isSolved_4 rfl rfl (by omega) (fun c4 => ?_) (fun c4 => ?_)
  · refine gx_iconst (q := 15) hG d_M_isSolved_14 rfl ?_
    refine gx_zreturn hG d_M_isSolved_15 rfl rfl (by first | exact bi_01 _ | decide | omega) ?_
    refine ⟨_, rfl, _, rfl, ?_, SD_id, fun q => ?_⟩
    · refine (bi_f (fun q : canS (aM w) => ?_)).symm
      first
        | exact c4 q.1
        | exact (((can_iff hO c4).mpr q).1 c11)
    · exfalso
      first
        | exact c4 q.1
        | exact (((can_iff hO c4).mpr q).1 c11)
  · refine gx_aload0 (q := 8) hG d_M_isSolved_7 rfl ?_
    refine gw_V0X (q := 11) hG l_M_213 c_M_isEndless (ev_M_isEndless hO) hpM rfl (by decide) (Nat.le_of_ble_eq_true rfl) d_M_isSolved_8 rfl (by decide) ?_
    refine gx_if_eq (tgt := 16) (q := 14) hG d_M_isSolved_11 rfl rfl (bi_R _) (fun c11 => ?_) (fun c11 => ?_)
    · have c11 := bi_eq0.mp c11
      have ci := can_iff hO c4
      refine gx_aload0 (q := 17) hG d_M_isSolved_16 rfl ?_
      refine gw_V0I (q := 20) hG l_M_216 c_M_layGaps (ev_M_layGaps hO) hpM rfl (by decide) (Nat.le_of_ble_eq_true rfl) d_M_isSolved_17 rfl (by decide) (fun z17 w1 h17 => ?_)
      obtain ⟨rfl, hs, g1, g2, g3, g4⟩ := h17
      refine gx_popi (q := 21) hG d_M_isSolved_20 rfl ?_
      refine gx_aload0 (q := 22) hG d_M_isSolved_21 rfl ?_
      refine gx_get (q := 25) hG f_M_210 hpM rfl d_M_isSolved_22 rfl ?_
      rw [g1]
      refine gx_bipush (q := 27) hG d_M_isSolved_25 rfl rfl ?_
      refine gx_icmp_gt (tgt := 34) (q := 30) hG d_M_isSolved_27 rfl rfl (by omega) (by omega) (fun c27 => ?_) (fun c27 => ?_)
      · refine gx_iconst (q := 35) hG d_M_isSolved_34 rfl ?_
        refine gx_zreturn hG d_M_isSolved_35 rfl rfl (by first | exact bi_01 _ | decide | omega) ?_
        first
          | exact ⟨_, rfl, _, rfl, (bi_t (ci.mp ⟨c11, by omega⟩)).symm, ⟨hs, g4 35 (by decide)⟩, fun q => ⟨by rw [g1, can_gc q], g2⟩⟩
          | exact ⟨_, rfl, _, rfl, (bi_f (fun q : canS (aM w) => by have := (ci.mpr q).2; omega)).symm, ⟨hs, g4 35 (by decide)⟩, fun q => ⟨by rw [g1, can_gc q], g2⟩⟩
      · refine gx_iconst (q := 31) hG d_M_isSolved_30 rfl ?_
        refine gx_goto (tgt := 35) hG d_M_isSolved_31 rfl ?_
        refine gx_zreturn hG d_M_isSolved_35 rfl rfl (by first | exact bi_01 _ | decide | omega) ?_
        first
          | exact ⟨_, rfl, _, rfl, (bi_t (ci.mp ⟨c11, by omega⟩)).symm, ⟨hs, g4 35 (by decide)⟩, fun q => ⟨by rw [g1, can_gc q], g2⟩⟩
          | exact ⟨_, rfl, _, rfl, (bi_f (fun q : canS (aM w) => by have := (ci.mpr q).2; omega)).symm, ⟨hs, g4 35 (by decide)⟩, fun q => ⟨by rw [g1, can_gc q], g2⟩⟩
    · have c11 := bi_ne0.mp c11
      refine gx_iconst (q := 15) hG d_M_isSolved_14 rfl ?_
      refine gx_zreturn hG d_M_isSolved_15 rfl rfl (by first | exact bi_01 _ | decide | omega) ?_
      refine ⟨_, rfl, _, rfl, ?_, SD_id, fun q => ?_⟩
      · refine (bi_f (fun q : canS (aM w) => ?_)).symm
        first
          | exact c4 q.1
          | exact (((can_iff hO c4).mpr q).1 c11)
      · exfalso
        first
          | exact c4 q.1
          | exact (((can_iff hO c4).mpr q).1 c11)
theorem ev_M_leastAbove {w : Mem} (hO : OK (aM w)) : EvI y_M_leastAbove b_M_leastAbove 2 (some .int) (4) [Vr 76] w (fun z w' => z = leS (aM w) ∧ SD w w') := by
  refine Ev.mk (isI := false) (by decide +kernel) nofun (Nat.le_of_ble_eq_true rfl) (fun G hG => ?_)
  show G 0 [some (Vr 76), none] [] 102 (hp w)
  have L : ∀ (j k : Nat) (w1 : Mem), k + j = 61 → 2 ≤ k → SD w w1 → (∀ u : Int, 2 ≤ u → u < k → hadS (aM w) u) → G 2 [some (Vr 76), some (Vi (k : Int))] [] 102 (hp w1) := by
    intro j
    induction j with
    | zero =>
      intro k w1 h1 h2 hs hh
      refine gx_iload1 (q := 3) hG d_M_leastAbove_2 rfl ?_
      refine gx_bipush (q := 5) hG d_M_leastAbove_3 rfl rfl ?_
      refine gx_icmp_gt (tgt := 24) (q := 8) hG d_M_leastAbove_5 rfl rfl (by omega) (by omega) (fun c5 => ?_) (fun c5 => ?_)
      · refine gx_iconst (q := 25) hG d_M_leastAbove_24 rfl ?_
        refine gx_ireturn hG d_M_leastAbove_25 rfl rfl ?_
        exact ⟨_, rfl, _, rfl, leS_eq (Or.inr ⟨rfl, fun u u1 u2 q => q (hh u u1 (by omega))⟩), hs⟩
      · exfalso; omega
    | succ j ih =>
      intro k w1 h1 h2 hs hh
      refine gx_iload1 (q := 3) hG d_M_leastAbove_2 rfl ?_
      refine gx_bipush (q := 5) hG d_M_leastAbove_3 rfl rfl ?_
      refine gx_icmp_gt (tgt := 24) (q := 8) hG d_M_leastAbove_5 rfl rfl (by omega) (by omega) (fun c5 => ?_) (fun c5 => ?_)
      · exfalso; omega
      · refine gx_aload0 (q := 9) hG d_M_leastAbove_8 rfl ?_
        refine gx_iload1 (q := 10) hG d_M_leastAbove_9 rfl ?_
        refine gw_V1I (q := 13) hG l_M_199 c_M_maySay (ev_M_maySay (hs.ok hO) (by omega)) hpM rfl (by decide) (Nat.le_of_ble_eq_true rfl) d_M_leastAbove_10 rfl (by decide) (fun z10 w2 h10 => ?_)
        obtain ⟨rfl, F, rfl⟩ := h10
        rw [hs.1.1]
        refine gx_if_eq (tgt := 18) (q := 16) hG d_M_leastAbove_13 rfl rfl (bi_R _) (fun c13 => ?_) (fun c13 => ?_)
        · refine gx_iinc1 (q := 21) hG d_M_leastAbove_18 rfl rfl ?_
          refine gx_goto (tgt := 2) hG d_M_leastAbove_21 rfl ?_
          refine ih (k + 1) _ (by omega) (by omega) (hs.tr SD_83) (fun u u1 u2 => ?_)
          by_cases e : u = k
          · rw [e]
            exact Classical.byContradiction (fun q => bi_eq0.mp c13 q)
          · exact hh u u1 (by omega)
        · refine gx_iload1 (q := 17) hG d_M_leastAbove_16 rfl ?_
          refine gx_ireturn hG d_M_leastAbove_17 rfl rfl ?_
          exact ⟨_, rfl, _, rfl, leS_eq (Or.inl ⟨by omega, by omega, bi_ne0.mp c13, fun u u1 u2 q => q (hh u u1 u2)⟩), hs.tr SD_83⟩
  refine gx_iconst (q := 1) hG d_M_leastAbove_0 rfl ?_
  refine gx_istore1 (q := 2) hG d_M_leastAbove_1 rfl rfl ?_
  exact L 59 2 w (by omega) (by omega) SD_id (fun u u1 u2 => by omega)
noncomputable def glS (s : Sta) : Int := if leftS s = 0 then -9 else gtS s
theorem ev_M_greatestLeft {w : Mem} (hO : OK (aM w)) : EvI y_M_greatestLeft b_M_greatestLeft 2 (some .int) (4) [Vr 76] w (fun z w' => z = glS (aM w) ∧ SD w w') := by
  refine Ev.mk (isI := false) (by decide +kernel) nofun (Nat.le_of_ble_eq_true rfl) (fun G hG => ?_)
  show G 0 [some (Vr 76), none] [] 102 (hp w)
  have hz := cn_zero (P := fun v => ¬ hadS (aM w) v) 60
  have el : leftS (aM w) = cn (fun v => ¬ hadS (aM w) v) 60 := rfl
  rw [← el] at hz
  have L : ∀ (k : Nat) (w1 : Mem), k ≤ 60 → SD w w1 → (∀ u : Int, (k : Int) < u → u ≤ 60 → hadS (aM w) u) → G 3 [some (Vr 76), some (Vi (k : Int))] [] 102 (hp w1) := by
    intro k
    induction k with
    | zero =>
      intro w1 h1 hs hh
      refine gx_iload1 (q := 4) hG d_M_greatestLeft_3 rfl ?_
      refine gx_iconst (q := 5) hG d_M_greatestLeft_4 rfl ?_
      refine gx_icmp_lt (tgt := 24) (q := 8) hG d_M_greatestLeft_5 rfl rfl (by omega) (by omega) (fun c5 => ?_) (fun c5 => ?_)
      · refine gx_bipush (q := 26) hG d_M_greatestLeft_24 rfl rfl ?_
        refine gx_ireturn hG d_M_greatestLeft_26 rfl rfl ?_
        refine ⟨_, rfl, _, rfl, ?_, hs⟩
        unfold glS
        rw [if_pos (hz.mpr (fun v v0 v1 q => q (hh v (by omega) (by omega))))]
      · exfalso; omega
    | succ k ih =>
      intro w1 h1 hs hh
      refine gx_iload1 (q := 4) hG d_M_greatestLeft_3 rfl ?_
      refine gx_iconst (q := 5) hG d_M_greatestLeft_4 rfl ?_
      refine gx_icmp_lt (tgt := 24) (q := 8) hG d_M_greatestLeft_5 rfl rfl (by omega) (by omega) (fun c5 => ?_) (fun c5 => ?_)
      · exfalso; omega
      · refine gx_aload0 (q := 9) hG d_M_greatestLeft_8 rfl ?_
        refine gx_iload1 (q := 10) hG d_M_greatestLeft_9 rfl ?_
        refine gw_V1I (q := 13) hG l_M_199 c_M_maySay (ev_M_maySay (hs.ok hO) (by omega)) hpM rfl (by decide) (Nat.le_of_ble_eq_true rfl) d_M_greatestLeft_10 rfl (by decide) (fun z10 w2 h10 => ?_)
        obtain ⟨rfl, F, rfl⟩ := h10
        rw [hs.1.1]
        refine gx_if_eq (tgt := 18) (q := 16) hG d_M_greatestLeft_13 rfl rfl (bi_R _) (fun c13 => ?_) (fun c13 => ?_)
        · refine gx_iinc1 (q := 21) hG d_M_greatestLeft_18 rfl rfl ?_
          refine gx_goto (tgt := 3) hG d_M_greatestLeft_21 rfl ?_
          have e := ih (wc w1 83 F) (by omega) (hs.tr SD_83) (fun u u1 u2 => by
            by_cases e : u = ((k + 1 : Nat) : Int)
            · rw [e]
              exact Classical.byContradiction (fun q => bi_eq0.mp c13 q)
            · exact hh u (by omega) u2)
          rw [show ((k + 1 : Nat) : Int) + -1 = (k : Int) by omega]
          exact e
        · refine gx_iload1 (q := 17) hG d_M_greatestLeft_16 rfl ?_
          refine gx_ireturn hG d_M_greatestLeft_17 rfl rfl ?_
          refine ⟨_, rfl, _, rfl, ?_, hs.tr SD_83⟩
          have c := bi_ne0.mp c13
          unfold glS
          rw [if_neg (fun q => hz.mp q ((k + 1 : Nat) : Int) (by omega) (by omega) c)]
          exact gtS_eq (Or.inl ⟨by omega, by omega, c, fun u u1 u2 q => q (hh u u1 u2)⟩)
  refine gx_bipush (q := 2) hG d_M_greatestLeft_0 rfl rfl ?_
  refine gx_istore1 (q := 3) hG d_M_greatestLeft_2 rfl rfl ?_
  exact L 60 w (by omega) SD_id (fun u u1 u2 => by omega)
theorem glS_bd {s : Sta} : -9 ≤ glS s ∧ glS s ≤ 60 := by
  have := gtS_bd (s := s)
  unfold glS
  split <;> omega
theorem pr_gl {s : Sta} {v : Int} (hl : 0 ≤ lastS s) (e : v = glS s - lastS s) : (1 < v → ¬ hadS s v → prS s = v) ∧ (v ≤ 1 ∨ hadS s v → prS s = leS s) := by
  have hb := gtS_bd (s := s)
  have hz := cn_zero (P := fun v => ¬ hadS s v) 60
  have hg0 : leftS s = 0 → gtS s = 0 := fun q => (gtS_eq (Or.inr ⟨rfl, fun u u1 u2 => (hz.mp q) u u1 (by omega)⟩)).symm
  unfold glS at e
  split at e
  · rename_i c
    have := hg0 c
    exact ⟨fun q => by omega, fun _ => prS_n (fun q => by omega)⟩
  · exact ⟨fun q1 q2 => prS_y ⟨q1, by omega⟩ e q2, fun q => prS_n (fun q2 => by rw [← e] at q2; exact q.elim (fun q => by omega) q2.2)⟩
theorem ev_M_pairOf {w : Mem} (hO : OK (aM w)) : EvI y_M_pairOf b_M_pairOf 2 (some .int) (5) [Vr 76] w (fun z w' => z = prS (aM w) ∧ SD w w') := by
  refine Ev.mk (isI := false) (by decide +kernel) nofun (Nat.le_of_ble_eq_true rfl) (fun G hG => ?_)
  show G 0 [some (Vr 76), none] [] 102 (hp w)
  have hn := hO.nn
  have e1 : aM w 4 1 = w 76 14 := rfl
  rw [e1] at hn
  have hlb := lastS_bd hO
  have hgb := glS_bd (s := aM w)
  have hl0 : w 76 14 = 0 → lastS (aM w) = 0 := fun q => by unfold lastS; rw [if_neg (by omega)]
  have hl1 : w 76 14 ≠ 0 → lastS (aM w) = w 85 (w 76 14 - 1) := fun q => by unfold lastS; rw [if_pos (by omega), aM_at5 (by omega)]; rfl
  have hm1 : w 76 14 ≠ 0 → 1 ≤ w 85 (w 76 14 - 1) ∧ w 85 (w 76 14 - 1) ≤ 60 := fun q => hO.mn _ (by omega) (by omega)
  refine gx_aload0 (q := 1) hG d_M_pairOf_0 rfl ?_
  refine gx_get (q := 4) hG f_M_178 hpM rfl d_M_pairOf_1 rfl ?_
  refine gx_if_ne (tgt := 14) (q := 7) hG d_M_pairOf_4 rfl rfl (by omega) (fun c4 => ?_) (fun c4 => ?_)
  · refine gx_aload0 (q := 15) hG d_M_pairOf_14 rfl ?_
    refine gw_V0I (q := 18) hG l_M_261 c_M_greatestLeft (ev_M_greatestLeft hO) hpM rfl (by decide) (Nat.le_of_ble_eq_true rfl) d_M_pairOf_15 rfl (by decide) (fun z15 w1 h15 => ?_)
    obtain ⟨rfl, hs⟩ := h15
    have e14 : w1 76 14 = w 76 14 := congrFun (congrFun hs.1.1 4) 1
    have e85 : w1 85 (w 76 14 - 1) = w 85 (w 76 14 - 1) := by
      have q1 : aM w1 5 (w 76 14 - 1) = w1 85 (w 76 14 - 1) := aM_at5 (by omega)
      have q2 : aM w 5 (w 76 14 - 1) = w 85 (w 76 14 - 1) := aM_at5 (by omega)
      rw [← q1, ← q2, hs.1.1]
    refine gx_aload0 (q := 19) hG d_M_pairOf_18 rfl ?_
    refine gx_get (q := 22) hG f_M_35 hpM rfl d_M_pairOf_19 rfl ?_
    refine gx_aload0 (q := 23) hG d_M_pairOf_22 rfl ?_
    refine gx_get (q := 26) hG f_M_178 hpM rfl d_M_pairOf_23 rfl ?_
    rw [e14]
    refine gx_iconst (q := 27) hG d_M_pairOf_26 rfl ?_
    refine gx_isub (q := 28) hG d_M_pairOf_27 rfl ?_
    have hm2 := hm1 c4
    rw [← e85] at hm2
    refine gw_iald (q := 29) hG rfl (by omega) (by omega) d_M_pairOf_28 rfl ?_
    rw [e85, ← hl1 c4]
    refine gx_isub (q := 30) hG d_M_pairOf_29 rfl ?_
    have pg := pr_gl hlb.1 (v := glS (aM w) - lastS (aM w)) rfl
    refine gx_istore1 (q := 31) hG d_M_pairOf_30 rfl rfl ?_
    refine gx_iload1 (q := 32) hG d_M_pairOf_31 rfl ?_
    refine gx_iconst (q := 33) hG d_M_pairOf_32 rfl ?_
    refine gx_icmp_le (tgt := 48) (q := 36) hG d_M_pairOf_33 rfl rfl (by omega) (by omega) (fun c33 => ?_) (fun c33 => ?_)
    · have hs2 := hs
      have es := pg.2 (Or.inl c33)
      refine gx_aload0 (q := 49) hG d_M_pairOf_48 rfl ?_
      refine gw_V0I (q := 52) hG l_M_264 c_M_leastAbove (ev_M_leastAbove (hs2.ok hO)) hpM rfl (by decide) (Nat.le_of_ble_eq_true rfl) d_M_pairOf_49 rfl (by decide) (fun z49 w3 h49 => ?_)
      obtain ⟨rfl, hs3⟩ := h49
      refine gx_ireturn hG d_M_pairOf_52 rfl rfl ?_
      first
        | exact ⟨_, rfl, _, rfl, es.symm, hs.tr SD_83⟩
        | exact ⟨_, rfl, _, rfl, by rw [es, hs2.1.1], hs2.tr hs3⟩
    · refine gx_aload0 (q := 37) hG d_M_pairOf_36 rfl ?_
      refine gx_iload1 (q := 38) hG d_M_pairOf_37 rfl ?_
      refine gw_V1I (q := 41) hG l_M_199 c_M_maySay (ev_M_maySay (hs.ok hO) (by omega)) hpM rfl (by decide) (Nat.le_of_ble_eq_true rfl) d_M_pairOf_38 rfl (by decide) (fun z38 w2 h38 => ?_)
      obtain ⟨rfl, F, rfl⟩ := h38
      rw [hs.1.1]
      refine gx_if_eq (tgt := 48) (q := 44) hG d_M_pairOf_41 rfl rfl (bi_R _) (fun c41 => ?_) (fun c41 => ?_)
      · have hs2 := hs.tr (SD_83 (F := F))
        have es := pg.2 (Or.inr (Classical.byContradiction (fun q => bi_eq0.mp c41 q)))
        refine gx_aload0 (q := 49) hG d_M_pairOf_48 rfl ?_
        refine gw_V0I (q := 52) hG l_M_264 c_M_leastAbove (ev_M_leastAbove (hs2.ok hO)) hpM rfl (by decide) (Nat.le_of_ble_eq_true rfl) d_M_pairOf_49 rfl (by decide) (fun z49 w3 h49 => ?_)
        obtain ⟨rfl, hs3⟩ := h49
        refine gx_ireturn hG d_M_pairOf_52 rfl rfl ?_
        first
          | exact ⟨_, rfl, _, rfl, es.symm, hs.tr SD_83⟩
          | exact ⟨_, rfl, _, rfl, by rw [es, hs2.1.1], hs2.tr hs3⟩
      · have es := pg.1 c33 (bi_ne0.mp c41)
        refine gx_iload1 (q := 45) hG d_M_pairOf_44 rfl ?_
        refine gx_goto (tgt := 52) hG d_M_pairOf_45 rfl ?_
        refine gx_ireturn hG d_M_pairOf_52 rfl rfl ?_
        first
          | exact ⟨_, rfl, _, rfl, es.symm, hs.tr SD_83⟩
          | exact ⟨_, rfl, _, rfl, by rw [es, hs2.1.1], hs2.tr hs3⟩
  · refine gx_aload0 (q := 8) hG d_M_pairOf_7 rfl ?_
    refine gw_V0I (q := 11) hG l_M_261 c_M_greatestLeft (ev_M_greatestLeft hO) hpM rfl (by decide) (Nat.le_of_ble_eq_true rfl) d_M_pairOf_8 rfl (by decide) (fun z8 w1 h8 => ?_)
    obtain ⟨rfl, hs⟩ := h8
    have ev : glS (aM w) = glS (aM w) - lastS (aM w) := by rw [hl0 c4]; omega
    have pg := pr_gl hlb.1 ev
    refine gx_goto (tgt := 30) hG d_M_pairOf_11 rfl ?_
    refine gx_istore1 (q := 31) hG d_M_pairOf_30 rfl rfl ?_
    refine gx_iload1 (q := 32) hG d_M_pairOf_31 rfl ?_
    refine gx_iconst (q := 33) hG d_M_pairOf_32 rfl ?_
    refine gx_icmp_le (tgt := 48) (q := 36) hG d_M_pairOf_33 rfl rfl (by omega) (by omega) (fun c33 => ?_) (fun c33 => ?_)
    · have hs2 := hs
      have es := pg.2 (Or.inl c33)
      refine gx_aload0 (q := 49) hG d_M_pairOf_48 rfl ?_
      refine gw_V0I (q := 52) hG l_M_264 c_M_leastAbove (ev_M_leastAbove (hs2.ok hO)) hpM rfl (by decide) (Nat.le_of_ble_eq_true rfl) d_M_pairOf_49 rfl (by decide) (fun z49 w3 h49 => ?_)
      obtain ⟨rfl, hs3⟩ := h49
      refine gx_ireturn hG d_M_pairOf_52 rfl rfl ?_
      first
        | exact ⟨_, rfl, _, rfl, es.symm, hs.tr SD_83⟩
        | exact ⟨_, rfl, _, rfl, by rw [es, hs2.1.1], hs2.tr hs3⟩
    · refine gx_aload0 (q := 37) hG d_M_pairOf_36 rfl ?_
      refine gx_iload1 (q := 38) hG d_M_pairOf_37 rfl ?_
      refine gw_V1I (q := 41) hG l_M_199 c_M_maySay (ev_M_maySay (hs.ok hO) (by omega)) hpM rfl (by decide) (Nat.le_of_ble_eq_true rfl) d_M_pairOf_38 rfl (by decide) (fun z38 w2 h38 => ?_)
      obtain ⟨rfl, F, rfl⟩ := h38
      rw [hs.1.1]
      refine gx_if_eq (tgt := 48) (q := 44) hG d_M_pairOf_41 rfl rfl (bi_R _) (fun c41 => ?_) (fun c41 => ?_)
      · have hs2 := hs.tr (SD_83 (F := F))
        have es := pg.2 (Or.inr (Classical.byContradiction (fun q => bi_eq0.mp c41 q)))
        refine gx_aload0 (q := 49) hG d_M_pairOf_48 rfl ?_
        refine gw_V0I (q := 52) hG l_M_264 c_M_leastAbove (ev_M_leastAbove (hs2.ok hO)) hpM rfl (by decide) (Nat.le_of_ble_eq_true rfl) d_M_pairOf_49 rfl (by decide) (fun z49 w3 h49 => ?_)
        obtain ⟨rfl, hs3⟩ := h49
        refine gx_ireturn hG d_M_pairOf_52 rfl rfl ?_
        first
          | exact ⟨_, rfl, _, rfl, es.symm, hs.tr SD_83⟩
          | exact ⟨_, rfl, _, rfl, by rw [es, hs2.1.1], hs2.tr hs3⟩
      · have es := pg.1 c33 (bi_ne0.mp c41)
        refine gx_iload1 (q := 45) hG d_M_pairOf_44 rfl ?_
        refine gx_goto (tgt := 52) hG d_M_pairOf_45 rfl ?_
        refine gx_ireturn hG d_M_pairOf_52 rfl rfl ?_
        first
          | exact ⟨_, rfl, _, rfl, es.symm, hs.tr SD_83⟩
          | exact ⟨_, rfl, _, rfl, by rw [es, hs2.1.1], hs2.tr hs3⟩
theorem ev_M_aboveMany {w : Mem} (hO : OK (aM w)) : EvI y_M_aboveMany b_M_aboveMany 3 (some .int) (4) [Vr 76] w (fun z w' => z = cn (abP (aM w)) 60 ∧ SD w w') := by
  refine Ev.mk (isI := false) (by decide +kernel) nofun (Nat.le_of_ble_eq_true rfl) (fun G hG => ?_)
  show G 0 [some (Vr 76), none, none] [] 102 (hp w)
  have L : ∀ (j k : Nat) (w1 : Mem), k + j = 60 → 1 ≤ k → SD w w1 → G 4 [some (Vr 76), some (Vi (cn (abP (aM w)) k)), some (Vi ((k : Int) + 1))] [] 102 (hp w1) := by
    intro j
    induction j with
    | zero =>
      intro k w1 h1 h2 hs
      have hk : k = 60 := by omega
      subst hk
      refine gx_iload2 (q := 5) hG d_M_aboveMany_4 rfl ?_
      refine gx_bipush (q := 7) hG d_M_aboveMany_5 rfl rfl ?_
      refine gx_icmp_gt (tgt := 32) (q := 10) hG d_M_aboveMany_7 rfl rfl (by omega) (by omega) (fun c7 => ?_) (fun c7 => ?_)
      · refine gx_iload1 (q := 33) hG d_M_aboveMany_32 rfl ?_
        refine gx_ireturn hG d_M_aboveMany_33 rfl rfl ?_
        exact ⟨_, rfl, _, rfl, rfl, hs⟩
      · exfalso; omega
    | succ j ih =>
      intro k w1 h1 h2 hs
      have cs : cn (abP (aM w)) (k + 1) = cn (abP (aM w)) k + bi (abP (aM w) ((k : Int) + 1)) := rfl
      have ca : abP (aM w) ((k : Int) + 1) ↔ ¬ hadS (aM w) ((k : Int) + 1) := ⟨fun q => q.2, fun q => ⟨by omega, q⟩⟩
      rw [bi_congr ca] at cs
      refine gx_iload2 (q := 5) hG d_M_aboveMany_4 rfl ?_
      refine gx_bipush (q := 7) hG d_M_aboveMany_5 rfl rfl ?_
      refine gx_icmp_gt (tgt := 32) (q := 10) hG d_M_aboveMany_7 rfl rfl (by omega) (by omega) (fun c7 => ?_) (fun c7 => ?_)
      · exfalso; omega
      · refine gx_iload1 (q := 11) hG d_M_aboveMany_10 rfl ?_
        refine gx_aload0 (q := 12) hG d_M_aboveMany_11 rfl ?_
        refine gx_iload2 (q := 13) hG d_M_aboveMany_12 rfl ?_
        refine gw_V1I (q := 16) hG l_M_199 c_M_maySay (ev_M_maySay (hs.ok hO) (by omega)) hpM rfl (by decide) (Nat.le_of_ble_eq_true rfl) d_M_aboveMany_13 rfl (by decide) (fun z13 w2 h13 => ?_)
        obtain ⟨rfl, F, rfl⟩ := h13
        rw [hs.1.1]
        have e := ih (k + 1) (wc w1 83 F) (by omega) (by omega) (hs.tr SD_83)
        rw [cs] at e
        refine gx_if_eq (tgt := 23) (q := 19) hG d_M_aboveMany_16 rfl rfl (bi_R _) (fun c16 => ?_) (fun c16 => ?_)
        · refine gx_iconst (q := 24) hG d_M_aboveMany_23 rfl ?_
          refine gx_iadd (q := 25) hG d_M_aboveMany_24 rfl ?_
          refine gx_istore1 (q := 26) hG d_M_aboveMany_25 rfl rfl ?_
          refine gx_iinc2 (q := 29) hG d_M_aboveMany_26 rfl rfl ?_
          refine gx_goto (tgt := 4) hG d_M_aboveMany_29 rfl ?_
          first
            | (rw [c16] at e; exact e)
            | (rw [bi_t (bi_ne0.mp c16)] at e; exact e)
        · refine gx_iconst (q := 20) hG d_M_aboveMany_19 rfl ?_
          refine gx_goto (tgt := 24) hG d_M_aboveMany_20 rfl ?_
          refine gx_iadd (q := 25) hG d_M_aboveMany_24 rfl ?_
          refine gx_istore1 (q := 26) hG d_M_aboveMany_25 rfl rfl ?_
          refine gx_iinc2 (q := 29) hG d_M_aboveMany_26 rfl rfl ?_
          refine gx_goto (tgt := 4) hG d_M_aboveMany_29 rfl ?_
          first
            | (rw [c16] at e; exact e)
            | (rw [bi_t (bi_ne0.mp c16)] at e; exact e)
  refine gx_iconst (q := 1) hG d_M_aboveMany_0 rfl ?_
  refine gx_istore1 (q := 2) hG d_M_aboveMany_1 rfl rfl ?_
  refine gx_iconst (q := 3) hG d_M_aboveMany_2 rfl ?_
  refine gx_istore2 (q := 4) hG d_M_aboveMany_3 rfl rfl ?_
  have e := L 59 1 w (by omega) (by omega) SD_id
  rw [show cn (abP (aM w)) 1 = 0 from (cn_zero 1).mpr (fun v v0 v1 q => by have := q.1; omega)] at e
  exact e
theorem lbM {w W : Mem} {v : Int} {n : Nat} (en : w 76 14 = (n : Int)) (h1 : ∀ i : Int, 0 ≤ i → i < (n : Int) → W 93 i = w 85 i) (h2 : W 93 (n : Int) = v) : cn (fun u => ¬ rch (w 76 11) (W 93) (n + 1) u) 60 = lbS (aM w) v :=
  cn_congr 60 (fun u _ _ => not_congr (rch_ext (by show n + 1 = (w 76 14).toNat + 1; omega) (fun i i0 i1 => by
    show W 93 i = up (aM w 5) (w 76 14) v i
    unfold up
    split
    · rename_i c
      rw [c, en, h2]
    · rename_i c
      rw [aM_at5 (by omega), h1 i i0 (by omega)])))
theorem ev_M_leftBehind {w : Mem} {v : Int} (hO : OK (aM w)) (hv : 1 ≤ v ∧ v ≤ 60) : EvI y_M_leftBehind b_M_leftBehind 2 (some .int) (4) [Vr 76, Vi v] w (fun z w' => z = lbS (aM w) v ∧ SD w w') := by
  refine Ev.mk (isI := false) (by decide +kernel) nofun (Nat.le_of_ble_eq_true rfl) (fun G hG => ?_)
  show G 0 [some (Vr 76), some (Vi v)] [] 102 (hp w)
  have hn := hO.nn
  have hl := hO.law
  have e1 : aM w 4 1 = w 76 14 := rfl
  have e0 : aM w 4 0 = w 76 11 := rfl
  rw [e1] at hn
  rw [e0] at hl
  obtain ⟨n, en⟩ : ∃ n : Nat, w 76 14 = (n : Int) := ⟨(w 76 14).toNat, by omega⟩
  refine gx_aload0 (q := 1) hG d_M_leftBehind_0 rfl ?_
  refine gw_V0V (q := 4) hG l_M_226 c_M_layOthers (ev_M_layOthers hn) hpM rfl (by decide) (Nat.le_of_ble_eq_true rfl) d_M_leftBehind_1 rfl (by decide) (fun w1 h1 => ?_)
  obtain ⟨g1, g2⟩ := h1
  have e14 : w1 76 14 = (n : Int) := by rw [g1 76 (by omega), en]
  have e11 : w1 76 11 = w 76 11 := by rw [g1 76 (by omega)]
  refine gx_aload0 (q := 5) hG d_M_leftBehind_4 rfl ?_
  refine gx_get (q := 8) hG f_M_60 hpM rfl d_M_leftBehind_5 rfl ?_
  refine gx_aload0 (q := 9) hG d_M_leftBehind_8 rfl ?_
  refine gx_get (q := 12) hG f_M_178 hpM rfl d_M_leftBehind_9 rfl ?_
  rw [e14]
  refine gx_iload1 (q := 13) hG d_M_leftBehind_12 rfl ?_
  refine gw_iast (q := 14) hG rfl (by omega) (by omega) d_M_leftBehind_13 rfl ?_
  refine gx_aload0 (q := 15) hG d_M_leftBehind_14 rfl ?_
  refine gx_aload0 (q := 16) hG d_M_leftBehind_15 rfl ?_
  refine gx_get (q := 19) hG f_M_60 hpM rfl d_M_leftBehind_16 rfl ?_
  refine gx_aload0 (q := 20) hG d_M_leftBehind_19 rfl ?_
  refine gx_get (q := 23) hG f_M_178 hpM rfl d_M_leftBehind_20 rfl ?_
  rw [wu_ne (by omega), e14]
  refine gx_iconst (q := 24) hG d_M_leftBehind_23 rfl ?_
  refine gx_iadd (q := 25) hG d_M_leftBehind_24 rfl ?_
  refine gx_aload0 (q := 26) hG d_M_leftBehind_25 rfl ?_
  refine gx_get (q := 29) hG f_M_172 hpM rfl d_M_leftBehind_26 rfl ?_
  rw [wu_ne (by omega), e11]
  rw [show (n : Int) + 1 = ((n + 1 : Nat) : Int) from rfl]
  have f1 : ∀ i : Int, 0 ≤ i → i < (n : Int) → wu w1 93 (n : Int) v 93 i = w 85 i := fun i i0 i1 => by rw [wu_pl (by omega), g2 i i0 (by omega)]
  have f2 : wu w1 93 (n : Int) v 93 (n : Int) = v := wu_eq
  refine gw_V3I (q := 32) hG l_M_184 c_M_leftOf (ev_M_leftOf (N := 14) rfl (by decide) (by omega) (by omega) hl (fun i i0 i1 => by
    by_cases e : i = (n : Int)
    · rw [e, f2]; exact hv
    · rw [f1 i i0 (by omega)]; exact hO.mn i i0 (by omega))) hpM rfl (by decide) (Nat.le_of_ble_eq_true rfl) d_M_leftBehind_29 rfl (by decide) (fun z29 w3 h29 => ?_)
  obtain ⟨rfl, F, rfl⟩ := h29
  refine gx_ireturn hG d_M_leftBehind_32 rfl rfl ?_
  exact ⟨_, rfl, _, rfl, lbM en f1 f2, SD_scr (fun b hb => by rw [wc_ne (by omega), wu_ne (by omega), g1 b (by omega)])⟩
theorem ev_M_byLeftfalse {w : Mem} (hO : OK (aM w)) : EvI y_M_byLeft b_M_byLeft 6 (some .int) (4) [Vr 76, Vi 0] w (fun z w' => z = (blF (aM w) false 60).1 ∧ SD w w') := by
  refine Ev.mk (isI := false) (by decide +kernel) nofun (Nat.le_of_ble_eq_true rfl) (fun G hG => ?_)
  show G 0 [some (Vr 76), some (Vi 0), none, none, none, none] [] 102 (hp w)
  have hn := hO.nn
  have hl := hO.law
  have e1 : aM w 4 1 = w 76 14 := rfl
  have e0 : aM w 4 0 = w 76 11 := rfl
  rw [e1] at hn
  rw [e0] at hl
  obtain ⟨n, en⟩ : ∃ n : Nat, w 76 14 = (n : Int) := ⟨(w 76 14).toNat, by omega⟩
  have L : ∀ (j k : Nat) (w1 : Mem) (o : Option Value), k + j = 60 → 1 ≤ k → one1 [o] 0 = true → SD w w1 → (∀ i : Int, 0 ≤ i → i < (n : Int) → w1 93 i = w 85 i) → G 11 [some (Vr 76), some (Vi 0), some (Vi (blF (aM w) false k).1), some (Vi (blF (aM w) false k).2), some (Vi ((k : Int) + 1)), o] [] 102 (hp w1) := by
    intro j
    induction j with
    | zero =>
      intro k w1 o h1 h2 g hs h93
      have hk : k = 60 := by omega
      subst hk
      refine gx_iload4 (q := 13) hG d_M_byLeft_11 rfl ?_
      refine gx_bipush (q := 15) hG d_M_byLeft_13 rfl rfl ?_
      refine gx_icmp_gt (tgt := 94) (q := 18) hG d_M_byLeft_15 rfl rfl (by omega) (by omega) (fun c15 => ?_) (fun c15 => ?_)
      · refine gx_iload2 (q := 95) hG d_M_byLeft_94 rfl ?_
        refine gx_ireturn hG d_M_byLeft_95 rfl rfl ?_
        exact ⟨_, rfl, _, rfl, rfl, hs⟩
      · exfalso; omega
    | succ j ih =>
      intro k w1 o h1 h2 g hs h93
      have bd := blF_bd (s := aM w) (most := false) k
      have lbb := lbS_bd (s := aM w) (n := (k : Int) + 1)
      have e14 : w1 76 14 = (n : Int) := (congrFun (congrFun hs.1.1 4) 1).trans en
      have e11 : w1 76 11 = w 76 11 := congrFun (congrFun hs.1.1 4) 0
      have hop : abP (aM w) ((k : Int) + 1) ↔ ¬ hadS (aM w) ((k : Int) + 1) := ⟨fun q => q.2, fun q => ⟨by omega, q⟩⟩
      have iy : ∀ (W : Mem) (_ : SD w W) (_ : ∀ i : Int, 0 ≤ i → i < (n : Int) → W 93 i = w 85 i) (_ : blF (aM w) false (k + 1) = ((k : Int) + 1, lbS (aM w) ((k : Int) + 1))), G 11 [some (Vr 76), some (Vi 0), some (Vi ((k : Int) + 1)), some (Vi (lbS (aM w) ((k : Int) + 1))), some (Vi ((k : Int) + 1 + 1)), some (Vi (lbS (aM w) ((k : Int) + 1)))] [] 102 (hp W) := fun W q1 q2 e => by
        have q := ih (k + 1) W (some (Vi (lbS (aM w) ((k : Int) + 1)))) (by omega) (by omega) rfl q1 q2
        rw [e] at q
        exact q
      have iw : ∀ (W : Mem) (o' : Option Value) (_ : one1 [o'] 0 = true) (_ : SD w W) (_ : ∀ i : Int, 0 ≤ i → i < (n : Int) → W 93 i = w 85 i) (_ : blF (aM w) false (k + 1) = blF (aM w) false k), G 11 [some (Vr 76), some (Vi 0), some (Vi (blF (aM w) false k).1), some (Vi (blF (aM w) false k).2), some (Vi ((k : Int) + 1 + 1)), o'] [] 102 (hp W) := fun W o' g' q1 q2 e => by
        have q := ih (k + 1) W o' (by omega) (by omega) g' q1 q2
        rw [e] at q
        exact q
      refine gx_iload4 (q := 13) hG d_M_byLeft_11 rfl ?_
      refine gx_bipush (q := 15) hG d_M_byLeft_13 rfl rfl ?_
      refine gx_icmp_gt (tgt := 94) (q := 18) hG d_M_byLeft_15 rfl rfl (by omega) (by omega) (fun c15 => ?_) (fun c15 => ?_)
      · exfalso; omega
      · refine gx_aload0 (q := 19) hG d_M_byLeft_18 rfl ?_
        refine gx_iload4 (q := 21) hG d_M_byLeft_19 rfl ?_
        refine gw_V1I (q := 24) hG l_M_199 c_M_maySay (ev_M_maySay (hs.ok hO) (by omega)) hpM rfl (by decide) (Nat.le_of_ble_eq_true rfl) d_M_byLeft_21 rfl (by decide) (fun z21 w2 h21 => ?_)
        obtain ⟨rfl, F, rfl⟩ := h21
        rw [hs.1.1]
        refine gx_if_eq (tgt := 88) (q := 27) hG d_M_byLeft_24 rfl rfl (bi_R _) (fun c24 => ?_) (fun c24 => ?_)
        · have es := blF_n (s := aM w) (most := false) (k := k) (fun q => bi_eq0.mp c24 (hop.mp q.1))
          have s2 : SD w (wc w1 83 F) := hs.tr SD_83
          have g2 : ∀ i : Int, 0 ≤ i → i < (n : Int) → wc w1 83 F 93 i = w 85 i := fun i i0 i1 => by rw [wc_ne (by omega), h93 i i0 i1]
          refine gx_iinc4 (q := 91) hG d_M_byLeft_88 rfl rfl ?_
          refine gx_goto (tgt := 11) hG d_M_byLeft_91 rfl ?_
          first
            | exact iy _ s2 g2 es
            | exact iw _ _ g s2 g2 es
            | exact iw _ _ rfl s2 g2 es
        · have c24' := hop.mpr (bi_ne0.mp c24)
          refine gx_aload0 (q := 28) hG d_M_byLeft_27 rfl ?_
          refine gx_get (q := 31) hG f_M_60 hpM rfl d_M_byLeft_28 rfl ?_
          refine gx_aload0 (q := 32) hG d_M_byLeft_31 rfl ?_
          refine gx_get (q := 35) hG f_M_178 hpM rfl d_M_byLeft_32 rfl ?_
          rw [wc_ne (by omega), e14]
          refine gx_iload4 (q := 37) hG d_M_byLeft_35 rfl ?_
          refine gw_iast (q := 38) hG rfl (by omega) (by omega) d_M_byLeft_37 rfl ?_
          refine gx_aload0 (q := 39) hG d_M_byLeft_38 rfl ?_
          refine gx_aload0 (q := 40) hG d_M_byLeft_39 rfl ?_
          refine gx_get (q := 43) hG f_M_60 hpM rfl d_M_byLeft_40 rfl ?_
          refine gx_aload0 (q := 44) hG d_M_byLeft_43 rfl ?_
          refine gx_get (q := 47) hG f_M_178 hpM rfl d_M_byLeft_44 rfl ?_
          rw [wu_ne (by omega), wc_ne (by omega), e14]
          refine gx_iconst (q := 48) hG d_M_byLeft_47 rfl ?_
          refine gx_iadd (q := 49) hG d_M_byLeft_48 rfl ?_
          refine gx_aload0 (q := 50) hG d_M_byLeft_49 rfl ?_
          refine gx_get (q := 53) hG f_M_172 hpM rfl d_M_byLeft_50 rfl ?_
          rw [wu_ne (by omega), wc_ne (by omega), e11]
          rw [show (n : Int) + 1 = ((n + 1 : Nat) : Int) from rfl]
          have f1 : ∀ i : Int, 0 ≤ i → i < (n : Int) → wu (wc w1 83 F) 93 (n : Int) ((k : Int) + 1) 93 i = w 85 i := fun i i0 i1 => by rw [wu_pl (by omega), wc_ne (by omega), h93 i i0 i1]
          have f2 : wu (wc w1 83 F) 93 (n : Int) ((k : Int) + 1) 93 (n : Int) = (k : Int) + 1 := wu_eq
          refine gw_V3I (q := 56) hG l_M_184 c_M_leftOf (ev_M_leftOf (N := 14) rfl (by decide) (by omega) (by omega) hl (fun i i0 i1 => by
            by_cases e : i = (n : Int)
            · rw [e, f2]; omega
            · rw [f1 i i0 (by omega)]; exact hO.mn i i0 (by omega))) hpM rfl (by decide) (Nat.le_of_ble_eq_true rfl) d_M_byLeft_53 rfl (by decide) (fun z53 w3 h53 => ?_)
          obtain ⟨rfl, F3, rfl⟩ := h53
          rw [lbM en f1 f2]
          have s2 : SD w (wc (wu (wc w1 83 F) 93 (n : Int) ((k : Int) + 1)) 83 F3) := hs.tr (SD_scr (fun b hb => by rw [wc_ne (by omega), wu_ne (by omega), wc_ne (by omega)]))
          have g2 : ∀ i : Int, 0 ≤ i → i < (n : Int) → wc (wu (wc w1 83 F) 93 (n : Int) ((k : Int) + 1)) 83 F3 93 i = w 85 i := fun i i0 i1 => by rw [wc_ne (by omega), f1 i i0 i1]
          refine gx_istore5 (q := 58) hG d_M_byLeft_56 rfl rfl ?_
          refine gx_iload2 (q := 59) hG d_M_byLeft_58 rfl ?_
          refine gx_iconst (q := 60) hG d_M_byLeft_59 rfl ?_
          refine gx_icmp_eq (tgt := 82) (q := 63) hG d_M_byLeft_60 rfl rfl (by omega) (by omega) (fun c60 => ?_) (fun c60 => ?_)
          · have es := blF_y (s := aM w) (most := false) (k := k) c24' (Or.inl c60)
            refine gx_iload4 (q := 84) hG d_M_byLeft_82 rfl ?_
            refine gx_istore2 (q := 85) hG d_M_byLeft_84 rfl rfl ?_
            refine gx_iload5 (q := 87) hG d_M_byLeft_85 rfl ?_
            refine gx_istore3 (q := 88) hG d_M_byLeft_87 rfl rfl ?_
            refine gx_iinc4 (q := 91) hG d_M_byLeft_88 rfl rfl ?_
            refine gx_goto (tgt := 11) hG d_M_byLeft_91 rfl ?_
            first
              | exact iy _ s2 g2 es
              | exact iw _ _ g s2 g2 es
              | exact iw _ _ rfl s2 g2 es
          · refine gx_iload1 (q := 64) hG d_M_byLeft_63 rfl ?_
            refine gx_if_eq (tgt := 76) (q := 67) hG d_M_byLeft_64 rfl rfl (by omega) (fun c64 => ?_) (fun c64 => ?_)
            · refine gx_iload5 (q := 78) hG d_M_byLeft_76 rfl ?_
              refine gx_iload3 (q := 79) hG d_M_byLeft_78 rfl ?_
              refine gx_icmp_ge (tgt := 88) (q := 82) hG d_M_byLeft_79 rfl rfl (by omega) (by omega) (fun c79 => ?_) (fun c79 => ?_)
              · have es := blF_n (s := aM w) (most := false) (k := k) (fun q => q.2.elim c60 (fun q => by unfold btr at q; simp only [if_true, if_false, Bool.false_eq_true] at q; omega))
                refine gx_iinc4 (q := 91) hG d_M_byLeft_88 rfl rfl ?_
                refine gx_goto (tgt := 11) hG d_M_byLeft_91 rfl ?_
                first
                  | exact iy _ s2 g2 es
                  | exact iw _ _ g s2 g2 es
                  | exact iw _ _ rfl s2 g2 es
              · have es := blF_y (s := aM w) (most := false) (k := k) c24' (Or.inr (by unfold btr; simp only [if_true, if_false, Bool.false_eq_true]; omega))
                refine gx_iload4 (q := 84) hG d_M_byLeft_82 rfl ?_
                refine gx_istore2 (q := 85) hG d_M_byLeft_84 rfl rfl ?_
                refine gx_iload5 (q := 87) hG d_M_byLeft_85 rfl ?_
                refine gx_istore3 (q := 88) hG d_M_byLeft_87 rfl rfl ?_
                refine gx_iinc4 (q := 91) hG d_M_byLeft_88 rfl rfl ?_
                refine gx_goto (tgt := 11) hG d_M_byLeft_91 rfl ?_
                first
                  | exact iy _ s2 g2 es
                  | exact iw _ _ g s2 g2 es
                  | exact iw _ _ rfl s2 g2 es
            · exfalso; omega
  refine gx_iconst (q := 1) hG d_M_byLeft_0 rfl ?_
  refine gx_istore2 (q := 2) hG d_M_byLeft_1 rfl rfl ?_
  refine gx_iconst (q := 3) hG d_M_byLeft_2 rfl ?_
  refine gx_istore3 (q := 4) hG d_M_byLeft_3 rfl rfl ?_
  refine gx_aload0 (q := 5) hG d_M_byLeft_4 rfl ?_
  refine gw_V0V (q := 8) hG l_M_226 c_M_layOthers (ev_M_layOthers hn) hpM rfl (by decide) (Nat.le_of_ble_eq_true rfl) d_M_byLeft_5 rfl (by decide) (fun w1 h5 => ?_)
  obtain ⟨g1, g2⟩ := h5
  refine gx_iconst (q := 9) hG d_M_byLeft_8 rfl ?_
  refine gx_istore4 (q := 11) hG d_M_byLeft_9 rfl rfl ?_
  have e := L 59 1 w1 none (by omega) (by omega) rfl (SD_scr (fun b hb => g1 b (by omega))) (fun i i0 i1 => g2 i i0 (by omega))
  rw [blF_1] at e
  exact e
theorem ev_M_byLefttrue {w : Mem} (hO : OK (aM w)) : EvI y_M_byLeft b_M_byLeft 6 (some .int) (4) [Vr 76, Vi 1] w (fun z w' => z = (blF (aM w) true 60).1 ∧ SD w w') := by
  refine Ev.mk (isI := false) (by decide +kernel) nofun (Nat.le_of_ble_eq_true rfl) (fun G hG => ?_)
  show G 0 [some (Vr 76), some (Vi 1), none, none, none, none] [] 102 (hp w)
  have hn := hO.nn
  have hl := hO.law
  have e1 : aM w 4 1 = w 76 14 := rfl
  have e0 : aM w 4 0 = w 76 11 := rfl
  rw [e1] at hn
  rw [e0] at hl
  obtain ⟨n, en⟩ : ∃ n : Nat, w 76 14 = (n : Int) := ⟨(w 76 14).toNat, by omega⟩
  have L : ∀ (j k : Nat) (w1 : Mem) (o : Option Value), k + j = 60 → 1 ≤ k → one1 [o] 0 = true → SD w w1 → (∀ i : Int, 0 ≤ i → i < (n : Int) → w1 93 i = w 85 i) → G 11 [some (Vr 76), some (Vi 1), some (Vi (blF (aM w) true k).1), some (Vi (blF (aM w) true k).2), some (Vi ((k : Int) + 1)), o] [] 102 (hp w1) := by
    intro j
    induction j with
    | zero =>
      intro k w1 o h1 h2 g hs h93
      have hk : k = 60 := by omega
      subst hk
      refine gx_iload4 (q := 13) hG d_M_byLeft_11 rfl ?_
      refine gx_bipush (q := 15) hG d_M_byLeft_13 rfl rfl ?_
      refine gx_icmp_gt (tgt := 94) (q := 18) hG d_M_byLeft_15 rfl rfl (by omega) (by omega) (fun c15 => ?_) (fun c15 => ?_)
      · refine gx_iload2 (q := 95) hG d_M_byLeft_94 rfl ?_
        refine gx_ireturn hG d_M_byLeft_95 rfl rfl ?_
        exact ⟨_, rfl, _, rfl, rfl, hs⟩
      · exfalso; omega
    | succ j ih =>
      intro k w1 o h1 h2 g hs h93
      have bd := blF_bd (s := aM w) (most := true) k
      have lbb := lbS_bd (s := aM w) (n := (k : Int) + 1)
      have e14 : w1 76 14 = (n : Int) := (congrFun (congrFun hs.1.1 4) 1).trans en
      have e11 : w1 76 11 = w 76 11 := congrFun (congrFun hs.1.1 4) 0
      have hop : abP (aM w) ((k : Int) + 1) ↔ ¬ hadS (aM w) ((k : Int) + 1) := ⟨fun q => q.2, fun q => ⟨by omega, q⟩⟩
      have iy : ∀ (W : Mem) (_ : SD w W) (_ : ∀ i : Int, 0 ≤ i → i < (n : Int) → W 93 i = w 85 i) (_ : blF (aM w) true (k + 1) = ((k : Int) + 1, lbS (aM w) ((k : Int) + 1))), G 11 [some (Vr 76), some (Vi 1), some (Vi ((k : Int) + 1)), some (Vi (lbS (aM w) ((k : Int) + 1))), some (Vi ((k : Int) + 1 + 1)), some (Vi (lbS (aM w) ((k : Int) + 1)))] [] 102 (hp W) := fun W q1 q2 e => by
        have q := ih (k + 1) W (some (Vi (lbS (aM w) ((k : Int) + 1)))) (by omega) (by omega) rfl q1 q2
        rw [e] at q
        exact q
      have iw : ∀ (W : Mem) (o' : Option Value) (_ : one1 [o'] 0 = true) (_ : SD w W) (_ : ∀ i : Int, 0 ≤ i → i < (n : Int) → W 93 i = w 85 i) (_ : blF (aM w) true (k + 1) = blF (aM w) true k), G 11 [some (Vr 76), some (Vi 1), some (Vi (blF (aM w) true k).1), some (Vi (blF (aM w) true k).2), some (Vi ((k : Int) + 1 + 1)), o'] [] 102 (hp W) := fun W o' g' q1 q2 e => by
        have q := ih (k + 1) W o' (by omega) (by omega) g' q1 q2
        rw [e] at q
        exact q
      refine gx_iload4 (q := 13) hG d_M_byLeft_11 rfl ?_
      refine gx_bipush (q := 15) hG d_M_byLeft_13 rfl rfl ?_
      refine gx_icmp_gt (tgt := 94) (q := 18) hG d_M_byLeft_15 rfl rfl (by omega) (by omega) (fun c15 => ?_) (fun c15 => ?_)
      · exfalso; omega
      · refine gx_aload0 (q := 19) hG d_M_byLeft_18 rfl ?_
        refine gx_iload4 (q := 21) hG d_M_byLeft_19 rfl ?_
        refine gw_V1I (q := 24) hG l_M_199 c_M_maySay (ev_M_maySay (hs.ok hO) (by omega)) hpM rfl (by decide) (Nat.le_of_ble_eq_true rfl) d_M_byLeft_21 rfl (by decide) (fun z21 w2 h21 => ?_)
        obtain ⟨rfl, F, rfl⟩ := h21
        rw [hs.1.1]
        refine gx_if_eq (tgt := 88) (q := 27) hG d_M_byLeft_24 rfl rfl (bi_R _) (fun c24 => ?_) (fun c24 => ?_)
        · have es := blF_n (s := aM w) (most := true) (k := k) (fun q => bi_eq0.mp c24 (hop.mp q.1))
          have s2 : SD w (wc w1 83 F) := hs.tr SD_83
          have g2 : ∀ i : Int, 0 ≤ i → i < (n : Int) → wc w1 83 F 93 i = w 85 i := fun i i0 i1 => by rw [wc_ne (by omega), h93 i i0 i1]
          refine gx_iinc4 (q := 91) hG d_M_byLeft_88 rfl rfl ?_
          refine gx_goto (tgt := 11) hG d_M_byLeft_91 rfl ?_
          first
            | exact iy _ s2 g2 es
            | exact iw _ _ g s2 g2 es
            | exact iw _ _ rfl s2 g2 es
        · have c24' := hop.mpr (bi_ne0.mp c24)
          refine gx_aload0 (q := 28) hG d_M_byLeft_27 rfl ?_
          refine gx_get (q := 31) hG f_M_60 hpM rfl d_M_byLeft_28 rfl ?_
          refine gx_aload0 (q := 32) hG d_M_byLeft_31 rfl ?_
          refine gx_get (q := 35) hG f_M_178 hpM rfl d_M_byLeft_32 rfl ?_
          rw [wc_ne (by omega), e14]
          refine gx_iload4 (q := 37) hG d_M_byLeft_35 rfl ?_
          refine gw_iast (q := 38) hG rfl (by omega) (by omega) d_M_byLeft_37 rfl ?_
          refine gx_aload0 (q := 39) hG d_M_byLeft_38 rfl ?_
          refine gx_aload0 (q := 40) hG d_M_byLeft_39 rfl ?_
          refine gx_get (q := 43) hG f_M_60 hpM rfl d_M_byLeft_40 rfl ?_
          refine gx_aload0 (q := 44) hG d_M_byLeft_43 rfl ?_
          refine gx_get (q := 47) hG f_M_178 hpM rfl d_M_byLeft_44 rfl ?_
          rw [wu_ne (by omega), wc_ne (by omega), e14]
          refine gx_iconst (q := 48) hG d_M_byLeft_47 rfl ?_
          refine gx_iadd (q := 49) hG d_M_byLeft_48 rfl ?_
          refine gx_aload0 (q := 50) hG d_M_byLeft_49 rfl ?_
          refine gx_get (q := 53) hG f_M_172 hpM rfl d_M_byLeft_50 rfl ?_
          rw [wu_ne (by omega), wc_ne (by omega), e11]
          rw [show (n : Int) + 1 = ((n + 1 : Nat) : Int) from rfl]
          have f1 : ∀ i : Int, 0 ≤ i → i < (n : Int) → wu (wc w1 83 F) 93 (n : Int) ((k : Int) + 1) 93 i = w 85 i := fun i i0 i1 => by rw [wu_pl (by omega), wc_ne (by omega), h93 i i0 i1]
          have f2 : wu (wc w1 83 F) 93 (n : Int) ((k : Int) + 1) 93 (n : Int) = (k : Int) + 1 := wu_eq
          refine gw_V3I (q := 56) hG l_M_184 c_M_leftOf (ev_M_leftOf (N := 14) rfl (by decide) (by omega) (by omega) hl (fun i i0 i1 => by
            by_cases e : i = (n : Int)
            · rw [e, f2]; omega
            · rw [f1 i i0 (by omega)]; exact hO.mn i i0 (by omega))) hpM rfl (by decide) (Nat.le_of_ble_eq_true rfl) d_M_byLeft_53 rfl (by decide) (fun z53 w3 h53 => ?_)
          obtain ⟨rfl, F3, rfl⟩ := h53
          rw [lbM en f1 f2]
          have s2 : SD w (wc (wu (wc w1 83 F) 93 (n : Int) ((k : Int) + 1)) 83 F3) := hs.tr (SD_scr (fun b hb => by rw [wc_ne (by omega), wu_ne (by omega), wc_ne (by omega)]))
          have g2 : ∀ i : Int, 0 ≤ i → i < (n : Int) → wc (wu (wc w1 83 F) 93 (n : Int) ((k : Int) + 1)) 83 F3 93 i = w 85 i := fun i i0 i1 => by rw [wc_ne (by omega), f1 i i0 i1]
          refine gx_istore5 (q := 58) hG d_M_byLeft_56 rfl rfl ?_
          refine gx_iload2 (q := 59) hG d_M_byLeft_58 rfl ?_
          refine gx_iconst (q := 60) hG d_M_byLeft_59 rfl ?_
          refine gx_icmp_eq (tgt := 82) (q := 63) hG d_M_byLeft_60 rfl rfl (by omega) (by omega) (fun c60 => ?_) (fun c60 => ?_)
          · have es := blF_y (s := aM w) (most := true) (k := k) c24' (Or.inl c60)
            refine gx_iload4 (q := 84) hG d_M_byLeft_82 rfl ?_
            refine gx_istore2 (q := 85) hG d_M_byLeft_84 rfl rfl ?_
            refine gx_iload5 (q := 87) hG d_M_byLeft_85 rfl ?_
            refine gx_istore3 (q := 88) hG d_M_byLeft_87 rfl rfl ?_
            refine gx_iinc4 (q := 91) hG d_M_byLeft_88 rfl rfl ?_
            refine gx_goto (tgt := 11) hG d_M_byLeft_91 rfl ?_
            first
              | exact iy _ s2 g2 es
              | exact iw _ _ g s2 g2 es
              | exact iw _ _ rfl s2 g2 es
          · refine gx_iload1 (q := 64) hG d_M_byLeft_63 rfl ?_
            refine gx_if_eq (tgt := 76) (q := 67) hG d_M_byLeft_64 rfl rfl (by omega) (fun c64 => ?_) (fun c64 => ?_)
            · exfalso; omega
            · refine gx_iload5 (q := 69) hG d_M_byLeft_67 rfl ?_
              refine gx_iload3 (q := 70) hG d_M_byLeft_69 rfl ?_
              refine gx_icmp_le (tgt := 88) (q := 73) hG d_M_byLeft_70 rfl rfl (by omega) (by omega) (fun c70 => ?_) (fun c70 => ?_)
              · have es := blF_n (s := aM w) (most := true) (k := k) (fun q => q.2.elim c60 (fun q => by unfold btr at q; simp only [if_true, if_false, Bool.false_eq_true] at q; omega))
                refine gx_iinc4 (q := 91) hG d_M_byLeft_88 rfl rfl ?_
                refine gx_goto (tgt := 11) hG d_M_byLeft_91 rfl ?_
                first
                  | exact iy _ s2 g2 es
                  | exact iw _ _ g s2 g2 es
                  | exact iw _ _ rfl s2 g2 es
              · have es := blF_y (s := aM w) (most := true) (k := k) c24' (Or.inr (by unfold btr; simp only [if_true, if_false, Bool.false_eq_true]; omega))
                refine gx_goto (tgt := 82) hG d_M_byLeft_73 rfl ?_
                refine gx_iload4 (q := 84) hG d_M_byLeft_82 rfl ?_
                refine gx_istore2 (q := 85) hG d_M_byLeft_84 rfl rfl ?_
                refine gx_iload5 (q := 87) hG d_M_byLeft_85 rfl ?_
                refine gx_istore3 (q := 88) hG d_M_byLeft_87 rfl rfl ?_
                refine gx_iinc4 (q := 91) hG d_M_byLeft_88 rfl rfl ?_
                refine gx_goto (tgt := 11) hG d_M_byLeft_91 rfl ?_
                first
                  | exact iy _ s2 g2 es
                  | exact iw _ _ g s2 g2 es
                  | exact iw _ _ rfl s2 g2 es
  refine gx_iconst (q := 1) hG d_M_byLeft_0 rfl ?_
  refine gx_istore2 (q := 2) hG d_M_byLeft_1 rfl rfl ?_
  refine gx_iconst (q := 3) hG d_M_byLeft_2 rfl ?_
  refine gx_istore3 (q := 4) hG d_M_byLeft_3 rfl rfl ?_
  refine gx_aload0 (q := 5) hG d_M_byLeft_4 rfl ?_
  refine gw_V0V (q := 8) hG l_M_226 c_M_layOthers (ev_M_layOthers hn) hpM rfl (by decide) (Nat.le_of_ble_eq_true rfl) d_M_byLeft_5 rfl (by decide) (fun w1 h5 => ?_)
  obtain ⟨g1, g2⟩ := h5
  refine gx_iconst (q := 9) hG d_M_byLeft_8 rfl ?_
  refine gx_istore4 (q := 11) hG d_M_byLeft_9 rfl rfl ?_
  have e := L 59 1 w1 none (by omega) (by omega) rfl (SD_scr (fun b hb => g1 b (by omega))) (fun i i0 i1 => g2 i i0 (by omega))
  rw [blF_1] at e
  exact e

