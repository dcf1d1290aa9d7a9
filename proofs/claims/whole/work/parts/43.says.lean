/-! part 43: saying, on the class's side -/
def hadS (s : Sta) (v : Int) : Prop := rch (s 4 0) (s 5) (s 4 1).toNat v
def lastS (s : Sta) : Int := if 1 ≤ s 4 1 then s 5 (s 4 1 - 1) else 0
def overS (s : Sta) : Prop := lastS s = 1 ∨ ∀ v : Int, 1 ≤ v → v ≤ 60 → hadS s v
noncomputable def loserS (s : Sta) : Int := if bi (overS s) = 1 then (if lastS s = 1 then (s 4 1 - 1) % 2 else s 4 1 % 2) else -9
noncomputable def leftS (s : Sta) : Int := cn (fun v => ¬ hadS s v) 60
def sg (s : Sta) (l n : Int) (F : Int → Int) : Sta := fun c i => if c = 5 then (if 0 ≤ i ∧ i < n then F i else 0) else if c = 4 ∧ i = 0 then l else if c = 4 ∧ i = 1 then n else s c i
def sp_said (s : Sta) (i : Int) : Int × Sta := if i < 0 then (-1, s) else if i < s 4 1 then (s 5 i, s) else fdS s 2
def sp_undo (s : Sta) (i : Int) : Int × Sta := if ¬ (0 ≤ i ∧ i ≤ s 4 1) then (-1, s) else (s 4 1 - i, sg s (s 4 0) i (s 5))
noncomputable def sp_turn (s : Sta) : Int × Sta := (s 4 1 % 2, ss s 4 3 (loserS s))
noncomputable def sp_may (s : Sta) (v : Int) : Int := if ¬ (1 ≤ v ∧ v ≤ 60) then -1 else bi (¬ hadS s v)
noncomputable def sayS (s : Sta) (v : Int) : Sta := sg s (s 4 0) (s 4 1 + 1) (up (s 5) (s 4 1) v)
noncomputable def sp_say (s : Sta) (v : Int) : Int × Sta := if ¬ (1 ≤ v ∧ v ≤ 60) then (-1, s) else if bi (overS s) = 1 ∨ bi (hadS s v) = 1 then (-4, s) else if 12 ≤ s 4 1 ∧ v ≠ 1 then (-2, s) else (leftS (sayS s v), sayS s v)
theorem sg_cong {s : Sta} {l n : Int} {F F' : Int → Int} (h : ∀ i, 0 ≤ i → i < n → F i = F' i) : sg s l n F = sg s l n F' := by
  funext c i
  unfold sg
  split
  · split
    · exact h i (by omega) (by omega)
    · rfl
  · rfl
theorem aX_sg {w w' : Mem} (h : ∀ b, b ≠ 3 → b ≠ 4 → w' b = w b) : aX w' = sg (aX w) (w' 3 2) (w' 3 1) (w' 4) := by
  funext c i
  match c with
  | 0 => show aX w' 0 i = aX w 0 i; rw [aXc0 (fun r r0 r1 => by rw [h _ (by omega) (by omega)])]
  | 1 => show aX w' 1 i = aX w 1 i; rw [aXc1 (fun r i r0 r1 i0 i1 => by rw [h _ (by omega) (by omega)])]
  | 2 => show aX w' 2 i = aX w 2 i; rw [aXc2 (fun r r0 r1 => by rw [h _ (by omega) (by omega)])]
  | 3 => show aX w' 3 i = aX w 3 i; rw [aXc3 (fun r i r0 r1 i0 i1 => by rw [h _ (by omega) (by omega)])]
  | 4 =>
    show (if i = 0 then w' 3 2 else if i = 1 then w' 3 1 else if i = 2 then w' 0 7 else if i = 3 then w' 0 11 else if i = 4 then w' 0 12 else if i = 5 then w' 0 13 else if i = 6 then w' 0 14 else 0) = _
    rw [h 0 (by omega) (by omega)]
    unfold sg
    rw [if_neg (show ¬ (4 : Nat) = 5 by decide)]
    by_cases e0 : i = 0
    · rw [if_pos e0, if_pos ⟨rfl, e0⟩]
    · by_cases e1 : i = 1
      · rw [if_neg e0, if_pos e1, if_neg (show ¬ ((4 : Nat) = 4 ∧ i = 0) from fun q => e0 q.2), if_pos ⟨rfl, e1⟩]
      · rw [if_neg e0, if_neg e1, if_neg (show ¬ ((4 : Nat) = 4 ∧ i = 0) from fun q => e0 q.2), if_neg (show ¬ ((4 : Nat) = 4 ∧ i = 1) from fun q => e1 q.2)]
        show _ = (if i = 0 then _ else if i = 1 then _ else _)
        rw [if_neg e0, if_neg e1]
  | 5 => rfl
  | 6 => show aX w' 6 i = aX w 6 i; rw [aXc6 (by rw [h 0 (by omega) (by omega)]) (fun i i0 i1 => by rw [h 14 (by omega) (by omega)])]
  | 7 => show aX w' 7 i = aX w 7 i; rw [aXc7 (fun i i0 i1 => by rw [h 49 (by omega) (by omega)])]
  | 8 => show aX w' 8 i = aX w 8 i; rw [aXc8 (fun k k0 k1 => ⟨by rw [h 6 (by omega) (by omega)], fun _ => by rw [h _ (by omega) (by omega)]⟩)]
  | 9 => show aX w' 9 i = aX w 9 i; rw [aXc9 (fun k k0 k1 => ⟨by rw [h 6 (by omega) (by omega)], fun _ => by rw [h _ (by omega) (by omega)]⟩)]
  | 10 => show aX w' 10 i = aX w 10 i; rw [aXc10 (fun k k0 k1 => ⟨by rw [h 6 (by omega) (by omega)], fun _ => ⟨by rw [h _ (by omega) (by omega)], fun j j0 j1 => by rw [h _ (by omega) (by omega)]⟩⟩)]
  | c + 11 => rfl
theorem XJ.game {w w' : Mem} (hj : XJ w) (h : ∀ b, b ≠ 3 → b ≠ 4 → w' b = w b) (hg : GI w' 3) : XJ w' := by
  refine ⟨fun k k0 k1 => by rw [h 6 (by omega) (by omega)]; exact hj.1 k k0 k1, hg.2.2.2.2, fun k k0 k1 => ?_, ?_⟩
  · rw [h 6 (by omega) (by omega)]
    unfold GI0
    rw [h (70 + 2 * k) (by omega) (by omega), h (70 + 2 * k + 1) (by omega) (by omega)]
    exact hj.2.2.1 k k0 k1
  · rw [h 46 (by omega) (by omega), h 47 (by omega) (by omega), h 48 (by omega) (by omega)]
    exact hj.2.2.2
theorem PX_g {w w' : Mem} {s : Sta} {z : Int} (hj : XJ w) (h : ∀ b, b ≠ 3 → b ≠ 4 → w' b = w b) (hg : GI w' 3) (e : sg (aX w) (w' 3 2) (w' 3 1) (w' 4) = s) : PX w (z, s) z w' :=
  ⟨rfl, (aX_sg h).trans e, hj.game h hg, fun b hb => h b (by omega) (by omega)⟩
theorem aX_at5 {w : Mem} {i : Int} (h : 0 ≤ i ∧ i < w 3 1) : aX w 5 i = w 4 i := if_pos h
theorem hadX {w : Mem} {v : Int} : hd w 3 v ↔ hadS (aX w) v := rch_ext rfl (fun i i0 i1 => (aX_at5 ⟨i0, by omega⟩).symm)
theorem lastX {w : Mem} : lastN w 3 = lastS (aX w) := by
  unfold lastN lastS
  show (if 1 ≤ w 3 1 then w 4 (w 3 1 - 1) else 0) = (if 1 ≤ w 3 1 then aX w 5 (w 3 1 - 1) else 0)
  split
  · rw [aX_at5 (by omega)]
  · rfl
theorem overX {w : Mem} : over w 3 ↔ overS (aX w) := by
  unfold over overS
  rw [lastX]
  constructor
  · rintro (h | h)
    · exact Or.inl h
    · exact Or.inr (fun v v0 v1 => hadX.mp (h v v0 v1))
  · rintro (h | h)
    · exact Or.inl h
    · exact Or.inr (fun v v0 v1 => hadX.mpr (h v v0 v1))
theorem leftX {w : Mem} : cn (fun v => ¬ hd w 3 v) 60 = leftS (aX w) := cn_congr 60 (fun v _ _ => not_congr hadX)
theorem loserX {w : Mem} : loserN w 3 = loserS (aX w) := by
  unfold loserN loserS
  rw [lastX]
  by_cases h : over w 3
  · rw [if_pos h, if_pos (bi_eq1.mpr (overX.mp h))]; rfl
  · rw [if_neg h, if_neg (fun q => h (overX.mpr (bi_eq1.mp q)))]
theorem OK.l13 {s : Sta} (h : OK s) : s 4 1 = 13 → s 5 12 = 1 := h.2.2.2.2.2.2.2.2.2.1
theorem ev_X_said {w : Mem} {i : Int} (hO : OK (aX w)) (hj : XJ w) (hi : R3 i) : EvI y_X_said b_X_said 2 (some .int) (2) [Vr 0, Vi i] w (PX w (sp_said (aX w) i)) := by
  refine Ev.mk (isI := false) (by decide +kernel) nofun (Nat.le_of_ble_eq_true rfl) (fun G hG => ?_)
  show G 0 [some (Vr 0), some (Vi i)] [] 102 (hp w)
  have hn := hO.nn
  have e1 : aX w 4 1 = w 3 1 := rfl
  rw [e1] at hn
  refine gx_iload1 (q := 1) hG d_X_said_0 rfl ?_
  refine gx_if_ge (tgt := 6) (q := 4) hG d_X_said_1 rfl rfl (by omega) (fun c1 => ?_) (fun c1 => ?_)
  · refine gx_iload1 (q := 7) hG d_X_said_6 rfl ?_
    refine gx_aload0 (q := 8) hG d_X_said_7 rfl ?_
    refine gx_get (q := 11) hG f_X_21 hpX rfl d_X_said_8 rfl ?_
    refine gx_get (q := 14) hG f_X_147 (hpGame (by unfold isG; omega)) rfl d_X_said_11 rfl ?_
    refine gx_icmp_ge (tgt := 29) (q := 17) hG d_X_said_14 rfl rfl (by omega) (by omega) (fun c14 => ?_) (fun c14 => ?_)
    · refine gx_aload0 (q := 30) hG d_X_said_29 rfl ?_
      refine gx_iconst (q := 31) hG d_X_said_30 rfl ?_
      refine gw_V1I (q := 34) hG l_X_114 c_X_found (ev_X_found (by omega)) hpX rfl (by decide) (Nat.le_of_ble_eq_true rfl) d_X_said_31 rfl (by decide) (fun z31 w h31 => ?_)
      refine gx_ireturn hG d_X_said_34 rfl rfl ?_
      refine ⟨_, rfl, _, rfl, ?_⟩
      unfold sp_said; rw [if_neg (by omega), e1]
      first
        | (rw [if_pos (by omega), aX_at5 (by omega)]; exact PX_id hj)
        | (rw [if_neg (by omega)]; obtain ⟨rfl, rfl⟩ := h31; exact PX_fd (by omega) hj)
    · refine gx_aload0 (q := 18) hG d_X_said_17 rfl ?_
      refine gx_get (q := 21) hG f_X_21 hpX rfl d_X_said_18 rfl ?_
      refine gx_get (q := 24) hG f_X_204 (hpGame (by unfold isG; omega)) rfl d_X_said_21 rfl ?_
      refine gx_iload1 (q := 25) hG d_X_said_24 rfl ?_
      refine gw_iald (q := 26) hG rfl (by omega) (by omega) d_X_said_25 rfl ?_
      refine gx_goto (tgt := 34) hG d_X_said_26 rfl ?_
      refine gx_ireturn hG d_X_said_34 rfl rfl ?_
      refine ⟨_, rfl, _, rfl, ?_⟩
      unfold sp_said; rw [if_neg (by omega), e1]
      first
        | (rw [if_pos (by omega), aX_at5 (by omega)]; exact PX_id hj)
        | (rw [if_neg (by omega)]; obtain ⟨rfl, rfl⟩ := h31; exact PX_fd (by omega) hj)
  · refine gx_iconst (q := 5) hG d_X_said_4 rfl ?_
    refine gx_ireturn hG d_X_said_5 rfl rfl ?_
    refine ⟨_, rfl, _, rfl, ?_⟩
    unfold sp_said; rw [if_pos (by omega)]; exact PX_id hj
theorem ev_X_may {w : Mem} {v : Int} (hO : OK (aX w)) (hj : XJ w) (hv : R3 v) : EvX y_X_may b_X_may 2 (some .int) (3) [Vr 0, Vi v] w (Vi (sp_may (aX w) v)) := by
  refine Ev.mk (isI := false) (by decide +kernel) nofun (Nat.le_of_ble_eq_true rfl) (fun G hG => ?_)
  show G 0 [some (Vr 0), some (Vi v)] [] 102 (hp w)
  have hg := hO.gi hj
  refine gx_iload1 (q := 1) hG d_X_may_0 rfl ?_
  refine gx_iconst (q := 2) hG d_X_may_1 rfl ?_
  refine gx_icmp_lt (tgt := 11) (q := 5) hG d_X_may_2 rfl rfl (by omega) (by omega) (fun c2 => ?_) (fun c2 => ?_)
  · refine gx_iconst (q := 12) hG d_X_may_11 rfl ?_
    refine gx_ireturn hG d_X_may_12 rfl rfl ?_
    exact ⟨_, rfl, by unfold sp_may; rw [if_pos (by omega)], rfl⟩
  · refine gx_iload1 (q := 6) hG d_X_may_5 rfl ?_
    refine gx_bipush (q := 8) hG d_X_may_6 rfl rfl ?_
    refine gx_icmp_le (tgt := 13) (q := 11) hG d_X_may_8 rfl rfl (by omega) (by omega) (fun c8 => ?_) (fun c8 => ?_)
    · refine gx_aload0 (q := 14) hG d_X_may_13 rfl ?_
      refine gx_get (q := 17) hG f_X_21 hpX rfl d_X_may_14 rfl ?_
      refine gx_iload1 (q := 18) hG d_X_may_17 rfl ?_
      refine gw_V1X (q := 21) hG l_X_196 c_Gm_isOpen (ev_Gm_isOpen hg hv) (hpGame (by unfold isG; omega)) rfl (by decide) (Nat.le_of_ble_eq_true rfl) d_X_may_18 rfl (by decide) ?_
      refine gx_if_eq (tgt := 28) (q := 24) hG d_X_may_21 rfl rfl (bi_R _) (fun c21 => ?_) (fun c21 => ?_)
      · have c21 := bi_eq0.mp c21
        refine gx_iconst (q := 29) hG d_X_may_28 rfl ?_
        refine gx_ireturn hG d_X_may_29 rfl rfl ?_
        first
          | exact ⟨_, rfl, by unfold sp_may; rw [if_neg (by omega), bi_t (fun q => c21.2.2 (hadX.mpr q))], rfl⟩
          | exact ⟨_, rfl, by unfold sp_may; rw [if_neg (by omega), bi_f (fun q => c21 ⟨by omega, by omega, fun q2 => q (hadX.mp q2)⟩)], rfl⟩
      · have c21 := bi_ne0.mp c21
        refine gx_iconst (q := 25) hG d_X_may_24 rfl ?_
        refine gx_goto (tgt := 29) hG d_X_may_25 rfl ?_
        refine gx_ireturn hG d_X_may_29 rfl rfl ?_
        first
          | exact ⟨_, rfl, by unfold sp_may; rw [if_neg (by omega), bi_t (fun q => c21.2.2 (hadX.mpr q))], rfl⟩
          | exact ⟨_, rfl, by unfold sp_may; rw [if_neg (by omega), bi_f (fun q => c21 ⟨by omega, by omega, fun q2 => q (hadX.mp q2)⟩)], rfl⟩
    · refine gx_iconst (q := 12) hG d_X_may_11 rfl ?_
      refine gx_ireturn hG d_X_may_12 rfl rfl ?_
      exact ⟨_, rfl, by unfold sp_may; rw [if_pos (by omega)], rfl⟩
theorem ev_X_undo {w : Mem} {i : Int} (hO : OK (aX w)) (hj : XJ w) (hi : R3 i) : EvI y_X_undo b_X_undo 3 (some .int) (6) [Vr 0, Vi i] w (PX w (sp_undo (aX w) i)) := by
  refine Ev.mk (isI := false) (by decide +kernel) nofun (Nat.le_of_ble_eq_true rfl) (fun G hG => ?_)
  show G 0 [some (Vr 0), some (Vi i), none] [] 102 (hp w)
  have hn := hO.nn
  have e1 : aX w 4 1 = w 3 1 := rfl
  rw [e1] at hn
  have hg := hO.gi hj
  refine gx_iload1 (q := 1) hG d_X_undo_0 rfl ?_
  refine gx_if_lt (tgt := 15) (q := 4) hG d_X_undo_1 rfl rfl (by omega) (fun c1 => ?_) (fun c1 => ?_)
  · refine gx_iconst (q := 16) hG d_X_undo_15 rfl ?_
    refine gx_ireturn hG d_X_undo_16 rfl rfl ?_
    refine ⟨_, rfl, _, rfl, ?_⟩
    unfold sp_undo; rw [e1, if_pos (by omega)]; exact PX_id hj
  · refine gx_iload1 (q := 5) hG d_X_undo_4 rfl ?_
    refine gx_aload0 (q := 6) hG d_X_undo_5 rfl ?_
    refine gx_get (q := 9) hG f_X_21 hpX rfl d_X_undo_6 rfl ?_
    refine gx_get (q := 12) hG f_X_147 (hpGame (by unfold isG; omega)) rfl d_X_undo_9 rfl ?_
    refine gx_icmp_le (tgt := 17) (q := 15) hG d_X_undo_12 rfl rfl (by omega) (by omega) (fun c12 => ?_) (fun c12 => ?_)
    · refine gx_aload0 (q := 18) hG d_X_undo_17 rfl ?_
      refine gx_get (q := 21) hG f_X_21 hpX rfl d_X_undo_18 rfl ?_
      refine gx_get (q := 24) hG f_X_147 (hpGame (by unfold isG; omega)) rfl d_X_undo_21 rfl ?_
      refine gx_iload1 (q := 25) hG d_X_undo_24 rfl ?_
      refine gx_isub (q := 26) hG d_X_undo_25 rfl ?_
      refine gx_istore2 (q := 27) hG d_X_undo_26 rfl rfl ?_
      refine gx_aload0 (q := 28) hG d_X_undo_27 rfl ?_
      refine gx_get (q := 31) hG f_X_21 hpX rfl d_X_undo_28 rfl ?_
      refine gx_iload1 (q := 32) hG d_X_undo_31 rfl ?_
      refine gw_V1V (q := 35) hG l_X_207 c_Gm_cut (ev_Gm_cut hg (by omega)) (hpGame (by unfold isG; omega)) rfl (by decide) (Nat.le_of_ble_eq_true rfl) d_X_undo_32 rfl (by decide) (fun w1 h32 => ?_)
      refine gx_iload2 (q := 36) hG d_X_undo_35 rfl ?_
      refine gx_ireturn hG d_X_undo_36 rfl rfl ?_
      refine ⟨_, rfl, _, rfl, ?_⟩
      unfold sp_undo; rw [e1, if_neg (by omega)]
      obtain ⟨g1, g2, g3, g4⟩ := h32
      refine PX_g hj (fun b b3 _ => g4 b b3) g1 ?_
      rw [g2, g3, g4 4 (by omega)]
      exact sg_cong (fun j j0 j1 => (aX_at5 (by omega)).symm)
    · refine gx_iconst (q := 16) hG d_X_undo_15 rfl ?_
      refine gx_ireturn hG d_X_undo_16 rfl rfl ?_
      refine ⟨_, rfl, _, rfl, ?_⟩
      unfold sp_undo; rw [e1, if_pos (by omega)]; exact PX_id hj
theorem ev_X_turn {w : Mem} (hO : OK (aX w)) (hj : XJ w) : EvI y_X_turn b_X_turn 1 (some .int) (5) [Vr 0] w (PX w (sp_turn (aX w))) := by
  refine Ev.mk (isI := false) (by decide +kernel) nofun (Nat.le_of_ble_eq_true rfl) (fun G hG => ?_)
  show G 0 [some (Vr 0)] [] 102 (hp w)
  have hn := hO.nn
  have e1 : aX w 4 1 = w 3 1 := rfl
  rw [e1] at hn
  have hg := hO.gi hj
  refine gx_aload0 (q := 1) hG d_X_turn_0 rfl ?_
  refine gx_aload0 (q := 2) hG d_X_turn_1 rfl ?_
  refine gx_get (q := 5) hG f_X_21 hpX rfl d_X_turn_2 rfl ?_
  refine gw_V0X (q := 8) hG l_X_210 c_Gm_loser (ev_Gm_loser hg) (hpGame (by unfold isG; omega)) rfl (by decide) (Nat.le_of_ble_eq_true rfl) d_X_turn_5 rfl (by decide) ?_
  refine gw_puti (q := 11) hG f_X_99 hpX (Nat.le_of_ble_eq_true rfl) vfit_i (Or.inl rfl) d_X_turn_8 rfl 11 rfl rfl ?_
  refine gx_aload0 (q := 12) hG d_X_turn_11 rfl ?_
  refine gx_get (q := 15) hG f_X_21 hpX rfl d_X_turn_12 rfl ?_
  refine gx_get (q := 18) hG f_X_147 (hpGame (by unfold isG; omega)) rfl d_X_turn_15 rfl ?_
  rw [show wu w 0 11 (loserN w 3) 3 1 = w 3 1 by rw [wu_ne (by omega)]]
  refine gx_iconst (q := 19) hG d_X_turn_18 rfl ?_
  refine gx_irem (q := 20) hG d_X_turn_19 rfl (by omega) (by omega) (by omega) (by omega) ?_
  refine gx_ireturn hG d_X_turn_20 rfl rfl ?_
  refine ⟨_, rfl, _, rfl, ?_⟩
  unfold sp_turn
  rw [e1, loserX]
  exact PX_mk aX_u11 hj (fun b hb => by rw [wu_ne (by omega)])
theorem ev_X_say {w : Mem} {v : Int} (hO : OK (aX w)) (hj : XJ w) (hv : R3 v) : EvI y_X_say b_X_say 2 (some .int) (6) [Vr 0, Vi v] w (PX w (sp_say (aX w) v)) := by
  refine Ev.mk (isI := false) (by decide +kernel) nofun (Nat.le_of_ble_eq_true rfl) (fun G hG => ?_)
  show G 0 [some (Vr 0), some (Vi v)] [] 102 (hp w)
  have hn := hO.nn
  have e1 : aX w 4 1 = w 3 1 := rfl
  have h13 := hO.l13
  rw [e1] at hn h13
  have hg := hO.gi hj
  refine gx_iload1 (q := 1) hG d_X_say_0 rfl ?_
  refine gx_iconst (q := 2) hG d_X_say_1 rfl ?_
  refine gx_icmp_lt (tgt := 11) (q := 5) hG d_X_say_2 rfl rfl (by omega) (by omega) (fun c2 => ?_) (fun c2 => ?_)
  · refine gx_iconst (q := 12) hG d_X_say_11 rfl ?_
    refine gx_ireturn hG d_X_say_12 rfl rfl ?_
    refine ⟨_, rfl, _, rfl, ?_⟩
    unfold sp_say; rw [if_pos (by omega)]; exact PX_id hj
  · refine gx_iload1 (q := 6) hG d_X_say_5 rfl ?_
    refine gx_bipush (q := 8) hG d_X_say_6 rfl rfl ?_
    refine gx_icmp_le (tgt := 13) (q := 11) hG d_X_say_8 rfl rfl (by omega) (by omega) (fun c8 => ?_) (fun c8 => ?_)
    · refine gx_aload0 (q := 14) hG d_X_say_13 rfl ?_
      refine gx_get (q := 17) hG f_X_21 hpX rfl d_X_say_14 rfl ?_
      refine gw_V0X (q := 20) hG l_X_159 c_Gm_isOver (ev_Gm_isOver hg) (hpGame (by unfold isG; omega)) rfl (by decide) (Nat.le_of_ble_eq_true rfl) d_X_say_17 rfl (by decide) ?_
      refine gx_if_ne (tgt := 34) (q := 23) hG d_X_say_20 rfl rfl (bi_R _) (fun c20 => ?_) (fun c20 => ?_)
      · have c20 := bi_ne0.mp c20
        refine gx_bipush (q := 36) hG d_X_say_34 rfl rfl ?_
        refine gx_ireturn hG d_X_say_36 rfl rfl ?_
        refine ⟨_, rfl, _, rfl, ?_⟩
        unfold sp_say; rw [if_neg (by omega)]
        first
          | (rw [if_pos (Or.inl (bi_eq1.mpr (overX.mp c20)))]; exact PX_id hj)
          | (rw [if_pos (Or.inr (bi_eq1.mpr (Classical.byContradiction (fun q => c31 ⟨by omega, by omega, fun q2 => q (hadX.mp q2)⟩))))]; exact PX_id hj)
      · have c20 := bi_eq0.mp c20
        refine gx_aload0 (q := 24) hG d_X_say_23 rfl ?_
        refine gx_get (q := 27) hG f_X_21 hpX rfl d_X_say_24 rfl ?_
        refine gx_iload1 (q := 28) hG d_X_say_27 rfl ?_
        refine gw_V1X (q := 31) hG l_X_196 c_Gm_isOpen (ev_Gm_isOpen hg hv) (hpGame (by unfold isG; omega)) rfl (by decide) (Nat.le_of_ble_eq_true rfl) d_X_say_28 rfl (by decide) ?_
        refine gx_if_ne (tgt := 37) (q := 34) hG d_X_say_31 rfl rfl (bi_R _) (fun c31 => ?_) (fun c31 => ?_)
        · have c31 := bi_ne0.mp c31
          have hlt : w 3 1 ≤ 12 := by
            by_cases e : w 3 1 = 13
            · refine absurd (Or.inl ?_) c20
              rw [lastX]; unfold lastS; rw [e1, if_pos (by omega), show w 3 1 - 1 = 12 by omega]; exact h13 e
            · omega
          refine gx_aload0 (q := 38) hG d_X_say_37 rfl ?_
          refine gx_get (q := 41) hG f_X_21 hpX rfl d_X_say_38 rfl ?_
          refine gx_get (q := 44) hG f_X_147 (hpGame (by unfold isG; omega)) rfl d_X_say_41 rfl ?_
          refine gx_bipush (q := 46) hG d_X_say_44 rfl rfl ?_
          refine gx_icmp_lt (tgt := 57) (q := 49) hG d_X_say_46 rfl rfl (by omega) (by omega) (fun c46 => ?_) (fun c46 => ?_)
          · refine gx_aload0 (q := 58) hG d_X_say_57 rfl ?_
            refine gx_get (q := 61) hG f_X_21 hpX rfl d_X_say_58 rfl ?_
            refine gx_iload1 (q := 62) hG d_X_say_61 rfl ?_
            refine gw_V1V (q := 65) hG l_X_200 c_Gm_add (ev_Gm_add hg (by omega) (by omega)) (hpGame (by unfold isG; omega)) rfl (by decide) (Nat.le_of_ble_eq_true rfl) d_X_say_62 rfl (by decide) (fun w1 h62 => ?_)
            refine gx_aload0 (q := 66) hG d_X_say_65 rfl ?_
            refine gx_get (q := 69) hG f_X_21 hpX rfl d_X_say_66 rfl ?_
            refine gw_V0X (q := 72) hG l_X_184 c_Gm_openCount (ev_Gm_openCount h62.1) (hpGame (by unfold isG; omega)) rfl (by decide) (Nat.le_of_ble_eq_true rfl) d_X_say_69 rfl (by decide) ?_
            refine gx_ireturn hG d_X_say_72 rfl rfl ?_
            refine ⟨_, rfl, _, rfl, ?_⟩
            unfold sp_say; rw [if_neg (by omega), if_neg (fun q => q.elim (fun q => c20 (overX.mpr (bi_eq1.mp q))) (fun q => c31.2.2 (hadX.mpr (bi_eq1.mp q)))), e1, if_neg (by omega)]
            obtain ⟨g1, g2, g3, g4, g5⟩ := h62
            have ea : aX w1 = sayS (aX w) v := by
              rw [aX_sg (fun b b3 b4 => g5 b b3 b4), g2, g3]
              refine sg_cong (fun j j0 j1 => ?_)
              have g4' : w1 4 = up (w 4) (w 3 1) v := g4
              rw [g4']
              unfold up
              rw [e1]
              split
              · rfl
              · rw [aX_at5 (by omega)]
            rw [leftX, ea]
            exact ⟨rfl, ea, hj.game (fun b b3 b4 => g5 b b3 b4) g1, fun b hb => g5 b (by omega) (by omega)⟩
          · refine gx_iload1 (q := 50) hG d_X_say_49 rfl ?_
            refine gx_iconst (q := 51) hG d_X_say_50 rfl ?_
            refine gx_icmp_eq (tgt := 57) (q := 54) hG d_X_say_51 rfl rfl (by omega) (by omega) (fun c51 => ?_) (fun c51 => ?_)
            · refine gx_aload0 (q := 58) hG d_X_say_57 rfl ?_
              refine gx_get (q := 61) hG f_X_21 hpX rfl d_X_say_58 rfl ?_
              refine gx_iload1 (q := 62) hG d_X_say_61 rfl ?_
              refine gw_V1V (q := 65) hG l_X_200 c_Gm_add (ev_Gm_add hg (by omega) (by omega)) (hpGame (by unfold isG; omega)) rfl (by decide) (Nat.le_of_ble_eq_true rfl) d_X_say_62 rfl (by decide) (fun w1 h62 => ?_)
              refine gx_aload0 (q := 66) hG d_X_say_65 rfl ?_
              refine gx_get (q := 69) hG f_X_21 hpX rfl d_X_say_66 rfl ?_
              refine gw_V0X (q := 72) hG l_X_184 c_Gm_openCount (ev_Gm_openCount h62.1) (hpGame (by unfold isG; omega)) rfl (by decide) (Nat.le_of_ble_eq_true rfl) d_X_say_69 rfl (by decide) ?_
              refine gx_ireturn hG d_X_say_72 rfl rfl ?_
              refine ⟨_, rfl, _, rfl, ?_⟩
              unfold sp_say; rw [if_neg (by omega), if_neg (fun q => q.elim (fun q => c20 (overX.mpr (bi_eq1.mp q))) (fun q => c31.2.2 (hadX.mpr (bi_eq1.mp q)))), e1, if_neg (by omega)]
              obtain ⟨g1, g2, g3, g4, g5⟩ := h62
              have ea : aX w1 = sayS (aX w) v := by
                rw [aX_sg (fun b b3 b4 => g5 b b3 b4), g2, g3]
                refine sg_cong (fun j j0 j1 => ?_)
                have g4' : w1 4 = up (w 4) (w 3 1) v := g4
                rw [g4']
                unfold up
                rw [e1]
                split
                · rfl
                · rw [aX_at5 (by omega)]
              rw [leftX, ea]
              exact ⟨rfl, ea, hj.game (fun b b3 b4 => g5 b b3 b4) g1, fun b hb => g5 b (by omega) (by omega)⟩
            · refine gx_bipush (q := 56) hG d_X_say_54 rfl rfl ?_
              refine gx_ireturn hG d_X_say_56 rfl rfl ?_
              refine ⟨_, rfl, _, rfl, ?_⟩
              unfold sp_say; rw [if_neg (by omega), if_neg (fun q => q.elim (fun q => c20 (overX.mpr (bi_eq1.mp q))) (fun q => c31.2.2 (hadX.mpr (bi_eq1.mp q)))), e1, if_pos (by omega)]; exact PX_id hj
        · have c31 := bi_eq0.mp c31
          refine gx_bipush (q := 36) hG d_X_say_34 rfl rfl ?_
          refine gx_ireturn hG d_X_say_36 rfl rfl ?_
          refine ⟨_, rfl, _, rfl, ?_⟩
          unfold sp_say; rw [if_neg (by omega)]
          first
            | (rw [if_pos (Or.inl (bi_eq1.mpr (overX.mp c20)))]; exact PX_id hj)
            | (rw [if_pos (Or.inr (bi_eq1.mpr (Classical.byContradiction (fun q => c31 ⟨by omega, by omega, fun q2 => q (hadX.mp q2)⟩))))]; exact PX_id hj)
    · refine gx_iconst (q := 12) hG d_X_say_11 rfl ?_
      refine gx_ireturn hG d_X_say_12 rfl rfl ?_
      refine ⟨_, rfl, _, rfl, ?_⟩
      unfold sp_say; rw [if_pos (by omega)]; exact PX_id hj

