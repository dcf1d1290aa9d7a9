/-! part 78: what players say, the class -/
def abP (s : Sta) (v : Int) : Prop := 2 ≤ v ∧ ¬ hadS s v
noncomputable def leS (s : Sta) : Int := if cn (abP s) 60 = 0 then 1 else lwN (abP s) 60
theorem leS_eq {s : Sta} {z : Int} (h : LeastA (fun v => ¬ hadS s v) z) : z = leS s := by
  unfold leS
  rcases h with ⟨a1, a2, a3, a4⟩ | ⟨rfl, a1⟩
  · have a3 : ¬ hadS s z := a3
    rw [if_neg (fun q => (cn_zero 60).mp q z (by omega) (by omega) ⟨a1, a3⟩), lwN_eq (z := z) (by omega) ⟨a1, a3⟩ (fun u u1 u2 q => a4 u q.1 u2 q.2) 60 (by omega)]
  · rw [if_pos ((cn_zero 60).mpr (fun v v0 v1 q => a1 v q.1 v1 q.2))]
theorem leS_bd {s : Sta} : 1 ≤ leS s ∧ leS s ≤ 60 := by
  unfold leS
  have h := lwN_spec (P := abP s) 60
  split <;> omega
noncomputable def gtS (s : Sta) : Int := grN (hadS s) 60
theorem gtS_eq {s : Sta} {z : Int} (h : GreatA (fun v => ¬ hadS s v) z) : z = gtS s := by
  unfold gtS
  rcases h with ⟨a1, a2, a3, a4⟩ | ⟨rfl, a1⟩
  · exact (grN_eq (Or.inr ⟨a1, a3⟩) 60 (by omega) (fun v v0 v1 => Classical.byContradiction (a4 v v0 v1))).symm
  · exact (grN_eq (Or.inl rfl) 60 (by omega) (fun v v0 v1 => Classical.byContradiction (a1 v (by omega) v1))).symm
noncomputable def lbS (s : Sta) (n : Int) : Int := cn (fun v => ¬ rch (s 4 0) (up (s 5) (s 4 1) n) ((s 4 1).toNat + 1) v) 60
theorem lbS_bd {s : Sta} {n : Int} : 0 ≤ lbS s n ∧ lbS s n ≤ 60 := cn_bd 60
theorem lbX {w : Mem} {n : Int} (h0 : 0 ≤ w 3 1) : cn (fun v => ¬ rch (w 3 2) (up (w (3 + 1)) (w 3 1) n) ((w 3 1).toNat + 1) v) 60 = lbS (aX w) n :=
  cn_congr 60 (fun v _ _ => not_congr (rch_ext rfl (fun i i0 i1 => by
    show up (w 4) (w 3 1) n i = up (aX w 5) (w 3 1) n i
    unfold up
    split
    · rfl
    · exact (aX_at5 ⟨i0, by omega⟩).symm)))
def btr (most : Bool) (x y : Int) : Prop := if most then y < x else x < y
noncomputable def blF (s : Sta) (most : Bool) : Nat → Int × Int
  | 0 => (1, 0)
  | k + 1 => if bi (abP s ((k + 1 : Nat) : Int) ∧ ((blF s most k).1 = 1 ∨ btr most (lbS s ((k + 1 : Nat) : Int)) (blF s most k).2)) = 1 then (((k + 1 : Nat) : Int), lbS s ((k + 1 : Nat) : Int)) else blF s most k
theorem blF_y {s : Sta} {most : Bool} {k : Nat} (h : abP s ((k : Int) + 1)) (h2 : (blF s most k).1 = 1 ∨ btr most (lbS s ((k : Int) + 1)) (blF s most k).2) : blF s most (k + 1) = ((k : Int) + 1, lbS s ((k : Int) + 1)) := if_pos (bi_t ⟨h, h2⟩)
theorem blF_n {s : Sta} {most : Bool} {k : Nat} (h : ¬ (abP s ((k : Int) + 1) ∧ ((blF s most k).1 = 1 ∨ btr most (lbS s ((k : Int) + 1)) (blF s most k).2))) : blF s most (k + 1) = blF s most k := if_neg (fun q => h (bi_eq1.mp q))
theorem blF_1 {s : Sta} {most : Bool} : blF s most 1 = (1, 0) := blF_n (k := 0) (fun q => by have := q.1.1; omega)
theorem blF_bd {s : Sta} {most : Bool} : ∀ k : Nat, 1 ≤ (blF s most k).1 ∧ ((blF s most k).1 ≤ k ∨ (blF s most k).1 = 1) ∧ 0 ≤ (blF s most k).2 ∧ (blF s most k).2 ≤ 60
  | 0 => by unfold blF; omega
  | k + 1 => by
    have h := blF_bd (s := s) (most := most) k
    have l := lbS_bd (s := s) (n := ((k + 1 : Nat) : Int))
    unfold blF
    split
    · show 1 ≤ ((k + 1 : Nat) : Int) ∧ (((k + 1 : Nat) : Int) ≤ ((k + 1 : Nat) : Int) ∨ ((k + 1 : Nat) : Int) = 1) ∧ 0 ≤ lbS s ((k + 1 : Nat) : Int) ∧ lbS s ((k + 1 : Nat) : Int) ≤ 60
      omega
    · omega
noncomputable def prS (s : Sta) : Int := if bi (1 < gtS s - lastS s ∧ ¬ hadS s (gtS s - lastS s)) = 1 then gtS s - lastS s else leS s
noncomputable def bsS (s : Sta) : Int := if bi (canS s ∧ 0 < cn (winP (gapm s)) 27) = 1 then lwN (winP (gapm s)) 27 else leS s
noncomputable def chN (s : Sta) (r : Int) : Int := lwN (fun v => abP s v ∧ cn (abP s) (v.toNat - 1) = r) 60
noncomputable def saysS (s : Sta) (kind lot : Int) : Int := if kind = 1 then (blF s false 60).1 else if kind = 4 then (blF s true 60).1 else if kind = 2 then prS s else if kind = 3 then bsS s else if kind = 5 then (if lot ≤ 0 then prS s else if cn (abP s) 60 = 0 then 1 else chN s (lot % cn (abP s) 60)) else leS s
theorem cn_same {P : Int → Prop} {b : Nat} : ∀ d : Nat, (∀ v : Nat, b < v → v ≤ b + d → ¬ P v) → cn P (b + d) = cn P b
  | 0, _ => rfl
  | d + 1, h => by
    have e : cn P (b + (d + 1)) = cn P (b + d) + bi (P ((b + d + 1 : Nat) : Int)) := rfl
    rw [e, bi_f (h (b + d + 1) (by omega) (by omega)), cn_same d (fun v v1 v2 => h v v1 (by omega))]
    omega
theorem chN_eq {s : Sta} {r : Int} {p : Nat} (h1 : p ≤ 60) (h2 : abP s p) (h3 : cn (abP s) (p - 1) = r) : chN s r = p := by
  have := h2.1
  refine lwN_eq (by omega) ⟨h2, h3⟩ (fun u u1 u2 q => ?_) 60 (by omega)
  obtain ⟨k, rfl⟩ := Int.eq_ofNat_of_zero_le (show 0 ≤ u by omega)
  have e1 := cn_s (P := abP s) (v := k) (by omega)
  have e2 := cn_le (P := abP s) (k := k) (n := p - 1) (by omega)
  have e3 : cn (abP s) (k - 1) = r := q.2
  rw [bi_t q.1] at e1
  omega
theorem ev_Sm_isBetter {w : Mem} {a x y : Int} (hx : R3 x) (hy : R3 y) : EvX y_Sm_isBetter b_Sm_isBetter 3 (some .boolean) (1) [Vr a, Vi x, Vi y] w (Vi (bi (x < y))) := by
  refine Ev.mk (isI := false) (by decide +kernel) nofun (Nat.le_of_ble_eq_true rfl) (fun G hG => ?_)
  show G 0 [some (Vr a), some (Vi x), some (Vi y)] [] 102 (hp w)
  refine gx_iload1 (q := 1) hG d_Sm_isBetter_0 rfl ?_
  refine gx_iload2 (q := 2) hG d_Sm_isBetter_1 rfl ?_
  refine gx_icmp_ge (tgt := 9) (q := 5) hG d_Sm_isBetter_2 rfl rfl (by omega) (by omega) (fun c2 => ?_) (fun c2 => ?_)
  · refine gx_iconst (q := 10) hG d_Sm_isBetter_9 rfl ?_
    refine gx_zreturn hG d_Sm_isBetter_10 rfl rfl (by first | exact bi_01 _ | decide | omega) ?_
    refine ⟨w, rfl, ?_, rfl⟩; first | rfl | (rw [bi_t (by omega)]) | (rw [bi_f (by omega)])
  · refine gx_iconst (q := 6) hG d_Sm_isBetter_5 rfl ?_
    refine gx_goto (tgt := 10) hG d_Sm_isBetter_6 rfl ?_
    refine gx_zreturn hG d_Sm_isBetter_10 rfl rfl (by first | exact bi_01 _ | decide | omega) ?_
    refine ⟨w, rfl, ?_, rfl⟩; first | rfl | (rw [bi_t (by omega)]) | (rw [bi_f (by omega)])
theorem ev_Lo_isBetter {w : Mem} {a x y : Int} (hx : R3 x) (hy : R3 y) : EvX y_Lo_isBetter b_Lo_isBetter 3 (some .boolean) (1) [Vr a, Vi x, Vi y] w (Vi (bi (y < x))) := by
  refine Ev.mk (isI := false) (by decide +kernel) nofun (Nat.le_of_ble_eq_true rfl) (fun G hG => ?_)
  show G 0 [some (Vr a), some (Vi x), some (Vi y)] [] 102 (hp w)
  refine gx_iload1 (q := 1) hG d_Lo_isBetter_0 rfl ?_
  refine gx_iload2 (q := 2) hG d_Lo_isBetter_1 rfl ?_
  refine gx_icmp_le (tgt := 9) (q := 5) hG d_Lo_isBetter_2 rfl rfl (by omega) (by omega) (fun c2 => ?_) (fun c2 => ?_)
  · refine gx_iconst (q := 10) hG d_Lo_isBetter_9 rfl ?_
    refine gx_zreturn hG d_Lo_isBetter_10 rfl rfl (by first | exact bi_01 _ | decide | omega) ?_
    refine ⟨w, rfl, ?_, rfl⟩; first | rfl | (rw [bi_t (by omega)]) | (rw [bi_f (by omega)])
  · refine gx_iconst (q := 6) hG d_Lo_isBetter_5 rfl ?_
    refine gx_goto (tgt := 10) hG d_Lo_isBetter_6 rfl ?_
    refine gx_zreturn hG d_Lo_isBetter_10 rfl rfl (by first | exact bi_01 _ | decide | omega) ?_
    refine ⟨w, rfl, ?_, rfl⟩; first | rfl | (rw [bi_t (by omega)]) | (rw [bi_f (by omega)])
theorem opX {w : Mem} {n : Int} (h : 2 ≤ n ∧ n ≤ 60) : (1 ≤ n ∧ n ≤ 60 ∧ ¬ hd w 3 n) ↔ abP (aX w) n := by
  unfold abP
  rw [hadX]
  exact ⟨fun q => ⟨h.1, q.2.2⟩, fun q => ⟨by omega, h.2, q.2⟩⟩
theorem leX {w : Mem} {z : Int} (h : LeastA (fun v => ¬ hd w 3 v) z) : z = leS (aX w) := by
  rw [show (fun v => ¬ hd w 3 v) = (fun v => ¬ hadS (aX w) v) from funext (fun v => by rw [hadX])] at h
  exact leS_eq h
theorem gtX {w : Mem} {z : Int} (h : GreatA (fun v => ¬ hd w 3 v) z) : z = gtS (aX w) := by
  rw [show (fun v => ¬ hd w 3 v) = (fun v => ¬ hadS (aX w) v) from funext (fun v => by rw [hadX])] at h
  exact gtS_eq h
theorem gtS_bd {s : Sta} : 0 ≤ gtS s ∧ gtS s ≤ 60 := by
  unfold gtS
  have : ∀ n : Nat, 0 ≤ grN (hadS s) n ∧ grN (hadS s) n ≤ n := by
    intro n
    induction n with
    | zero => unfold grN; omega
    | succ k ih => unfold grN; split <;> omega
  have := this 60
  omega
theorem ev_Pl_choice {w : Mem} {a lot : Int} (hO : OK (aX w)) (hj : XJ w) : EvI y_Pl_choice b_Pl_choice 4 (some .int) (5) [Vr a, Vr 3, Vr 46, Vi lot] w (fun z w' => z = leS (aX w) ∧ SX w w') := by
  refine Ev.mk (isI := false) (by decide +kernel) nofun (Nat.le_of_ble_eq_true rfl) (fun G hG => ?_)
  show G 0 [some (Vr a), some (Vr 3), some (Vr 46), some (Vi lot)] [] 102 (hp w)
  have hg := hO.gi hj
  refine gx_aload1 (q := 1) hG d_Pl_choice_0 rfl ?_
  refine gw_V0Y (q := 4) hG l_Pl_7 c_Gm_leastAboveOne (ev_Gm_leastAboveOne hg) (hpGame (by unfold isG; omega)) rfl (by decide) (Nat.le_of_ble_eq_true rfl) d_Pl_choice_1 rfl (by decide) (fun z1 h1 => ?_)
  refine gx_ireturn hG d_Pl_choice_4 rfl rfl ?_
  exact ⟨_, rfl, _, rfl, leX h1, SX_id hj⟩
theorem ev_Sm_choice1 {w : Mem} {lot : Int} (hO : OK (aX w)) (hj : XJ w) : EvI y_Sm_choice b_Sm_choice 8 (some .int) (7) [Vr (8 + 1), Vr 3, Vr 46, Vi lot] w (fun z w' => z = (blF (aX w) false 60).1 ∧ SX w w') := by
  refine Ev.mk (isI := false) (by decide +kernel) nofun (Nat.le_of_ble_eq_true rfl) (fun G hG => ?_)
  show G 0 [some (Vr (8 + 1)), some (Vr 3), some (Vr 46), some (Vi lot), none, none, none, none] [] 102 (hp w)
  have hg := hO.gi hj
  have hs := hg.2.1
  have L : ∀ (j k : Nat) (o : Option Value), k + j = 60 → 1 ≤ k → one1 [o] 0 = true → G 9 [some (Vr (8 + 1)), some (Vr 3), some (Vr 46), some (Vi lot), some (Vi (blF (aX w) false k).1), some (Vi (blF (aX w) false k).2), some (Vi ((k : Int) + 1)), o] [] 102 (hp w) := by
    intro j
    induction j with
    | zero =>
      intro k o h1 h2 g
      have hk : k = 60 := by omega
      subst hk
      refine gx_iload6 (q := 11) hG d_Sm_choice_9 rfl ?_
      refine gx_bipush (q := 13) hG d_Sm_choice_11 rfl rfl ?_
      refine gx_icmp_gt (tgt := 64) (q := 16) hG d_Sm_choice_13 rfl rfl (by omega) (by omega) (fun c13 => ?_) (fun c13 => ?_)
      · refine gx_iload4 (q := 66) hG d_Sm_choice_64 rfl ?_
        refine gx_ireturn hG d_Sm_choice_66 rfl rfl ?_
        exact ⟨_, rfl, _, rfl, rfl, SX_id hj⟩
      · exfalso; omega
    | succ j ih =>
      intro k o h1 h2 g
      have bd := blF_bd (s := aX w) (most := false) k
      have lbb := lbS_bd (s := aX w) (n := (k : Int) + 1)
      have hop := opX (w := w) (n := (k : Int) + 1) (by omega)
      have iy : ∀ (_ : blF (aX w) false (k + 1) = ((k : Int) + 1, lbS (aX w) ((k : Int) + 1))), G 9 [some (Vr (8 + 1)), some (Vr 3), some (Vr 46), some (Vi lot), some (Vi ((k : Int) + 1)), some (Vi (lbS (aX w) ((k : Int) + 1))), some (Vi ((k : Int) + 1 + 1)), some (Vi (lbS (aX w) ((k : Int) + 1)))] [] 102 (hp w) := fun e => by
        have q := ih (k + 1) (some (Vi (lbS (aX w) ((k : Int) + 1)))) (by omega) (by omega) rfl
        rw [e] at q
        exact q
      have iw : ∀ (o' : Option Value) (_ : one1 [o'] 0 = true) (_ : blF (aX w) false (k + 1) = blF (aX w) false k), G 9 [some (Vr (8 + 1)), some (Vr 3), some (Vr 46), some (Vi lot), some (Vi (blF (aX w) false k).1), some (Vi (blF (aX w) false k).2), some (Vi ((k : Int) + 1 + 1)), o'] [] 102 (hp w) := fun o' g' e => by
        have q := ih (k + 1) o' (by omega) (by omega) g'
        rw [e] at q
        exact q
      refine gx_iload6 (q := 11) hG d_Sm_choice_9 rfl ?_
      refine gx_bipush (q := 13) hG d_Sm_choice_11 rfl rfl ?_
      refine gx_icmp_gt (tgt := 64) (q := 16) hG d_Sm_choice_13 rfl rfl (by omega) (by omega) (fun c13 => ?_) (fun c13 => ?_)
      · exfalso; omega
      · refine gx_aload1 (q := 17) hG d_Sm_choice_16 rfl ?_
        refine gx_iload6 (q := 19) hG d_Sm_choice_17 rfl ?_
        refine gw_V1X (q := 22) hG l_Sm_9 c_Gm_isOpen (ev_Gm_isOpen hg (by omega)) (hpGame (by unfold isG; omega)) rfl (by decide) (Nat.le_of_ble_eq_true rfl) d_Sm_choice_19 rfl (by decide) ?_
        refine gx_if_eq (tgt := 58) (q := 25) hG d_Sm_choice_22 rfl rfl (bi_R _) (fun c22 => ?_) (fun c22 => ?_)
        · have c22 := bi_eq0.mp c22
          have es := blF_n (s := aX w) (most := false) (k := k) (fun q => c22 (hop.mpr q.1))
          refine gx_iinc6 (q := 61) hG d_Sm_choice_58 rfl rfl ?_
          refine gx_goto (tgt := 9) hG d_Sm_choice_61 rfl ?_
          first
            | exact iy es
            | exact iw _ g es
            | exact iw _ rfl es
        · have c22 := bi_ne0.mp c22
          refine gx_aload1 (q := 26) hG d_Sm_choice_25 rfl ?_
          refine gx_iload6 (q := 28) hG d_Sm_choice_26 rfl ?_
          refine gw_V1X (q := 31) hG l_Sm_15 c_Gm_openBehind (ev_Gm_openBehind hg (by omega)) (hpGame (by unfold isG; omega)) rfl (by decide) (Nat.le_of_ble_eq_true rfl) d_Sm_choice_28 rfl (by decide) ?_
          rw [lbX hs.1]
          refine gx_istore7 (q := 33) hG d_Sm_choice_31 rfl rfl ?_
          refine gx_iload4 (q := 35) hG d_Sm_choice_33 rfl ?_
          refine gx_iconst (q := 36) hG d_Sm_choice_35 rfl ?_
          refine gx_icmp_eq (tgt := 50) (q := 39) hG d_Sm_choice_36 rfl rfl (by omega) (by omega) (fun c36 => ?_) (fun c36 => ?_)
          · have es := blF_y (s := aX w) (most := false) (k := k) (hop.mp c22) (Or.inl c36)
            refine gx_iload6 (q := 52) hG d_Sm_choice_50 rfl ?_
            refine gx_istore4 (q := 54) hG d_Sm_choice_52 rfl rfl ?_
            refine gx_iload7 (q := 56) hG d_Sm_choice_54 rfl ?_
            refine gx_istore5 (q := 58) hG d_Sm_choice_56 rfl rfl ?_
            refine gx_iinc6 (q := 61) hG d_Sm_choice_58 rfl rfl ?_
            refine gx_goto (tgt := 9) hG d_Sm_choice_61 rfl ?_
            first
              | exact iy es
              | exact iw _ g es
              | exact iw _ rfl es
          · refine gx_aload0 (q := 40) hG d_Sm_choice_39 rfl ?_
            refine gx_iload7 (q := 42) hG d_Sm_choice_40 rfl ?_
            refine gx_iload5 (q := 44) hG d_Sm_choice_42 rfl ?_
            refine gw_V2X (q := 47) hG l_Sm_19 c_Sm_isBetter (ev_Sm_isBetter (by omega) (by omega)) (hpPl (k := 1) (by omega)) rfl (by decide) (Nat.le_of_ble_eq_true rfl) d_Sm_choice_44 rfl (by decide) ?_
            refine gx_if_eq (tgt := 58) (q := 50) hG d_Sm_choice_47 rfl rfl (bi_R _) (fun c47 => ?_) (fun c47 => ?_)
            · have es := blF_n (s := aX w) (most := false) (k := k) (fun q => q.2.elim c36 (bi_eq0.mp c47))
              refine gx_iinc6 (q := 61) hG d_Sm_choice_58 rfl rfl ?_
              refine gx_goto (tgt := 9) hG d_Sm_choice_61 rfl ?_
              first
                | exact iy es
                | exact iw _ g es
                | exact iw _ rfl es
            · have es := blF_y (s := aX w) (most := false) (k := k) (hop.mp c22) (Or.inr (bi_ne0.mp c47))
              refine gx_iload6 (q := 52) hG d_Sm_choice_50 rfl ?_
              refine gx_istore4 (q := 54) hG d_Sm_choice_52 rfl rfl ?_
              refine gx_iload7 (q := 56) hG d_Sm_choice_54 rfl ?_
              refine gx_istore5 (q := 58) hG d_Sm_choice_56 rfl rfl ?_
              refine gx_iinc6 (q := 61) hG d_Sm_choice_58 rfl rfl ?_
              refine gx_goto (tgt := 9) hG d_Sm_choice_61 rfl ?_
              first
                | exact iy es
                | exact iw _ g es
                | exact iw _ rfl es
  refine gx_iconst (q := 1) hG d_Sm_choice_0 rfl ?_
  refine gx_istore4 (q := 3) hG d_Sm_choice_1 rfl rfl ?_
  refine gx_iconst (q := 4) hG d_Sm_choice_3 rfl ?_
  refine gx_istore5 (q := 6) hG d_Sm_choice_4 rfl rfl ?_
  refine gx_iconst (q := 7) hG d_Sm_choice_6 rfl ?_
  refine gx_istore6 (q := 9) hG d_Sm_choice_7 rfl rfl ?_
  have e := L 59 1 none (by omega) (by omega) rfl
  rw [blF_1] at e
  exact e
theorem ev_Sm_choice4 {w : Mem} {lot : Int} (hO : OK (aX w)) (hj : XJ w) : EvI y_Sm_choice b_Sm_choice 8 (some .int) (7) [Vr (8 + 4), Vr 3, Vr 46, Vi lot] w (fun z w' => z = (blF (aX w) true 60).1 ∧ SX w w') := by
  refine Ev.mk (isI := false) (by decide +kernel) nofun (Nat.le_of_ble_eq_true rfl) (fun G hG => ?_)
  show G 0 [some (Vr (8 + 4)), some (Vr 3), some (Vr 46), some (Vi lot), none, none, none, none] [] 102 (hp w)
  have hg := hO.gi hj
  have hs := hg.2.1
  have L : ∀ (j k : Nat) (o : Option Value), k + j = 60 → 1 ≤ k → one1 [o] 0 = true → G 9 [some (Vr (8 + 4)), some (Vr 3), some (Vr 46), some (Vi lot), some (Vi (blF (aX w) true k).1), some (Vi (blF (aX w) true k).2), some (Vi ((k : Int) + 1)), o] [] 102 (hp w) := by
    intro j
    induction j with
    | zero =>
      intro k o h1 h2 g
      have hk : k = 60 := by omega
      subst hk
      refine gx_iload6 (q := 11) hG d_Sm_choice_9 rfl ?_
      refine gx_bipush (q := 13) hG d_Sm_choice_11 rfl rfl ?_
      refine gx_icmp_gt (tgt := 64) (q := 16) hG d_Sm_choice_13 rfl rfl (by omega) (by omega) (fun c13 => ?_) (fun c13 => ?_)
      · refine gx_iload4 (q := 66) hG d_Sm_choice_64 rfl ?_
        refine gx_ireturn hG d_Sm_choice_66 rfl rfl ?_
        exact ⟨_, rfl, _, rfl, rfl, SX_id hj⟩
      · exfalso; omega
    | succ j ih =>
      intro k o h1 h2 g
      have bd := blF_bd (s := aX w) (most := true) k
      have lbb := lbS_bd (s := aX w) (n := (k : Int) + 1)
      have hop := opX (w := w) (n := (k : Int) + 1) (by omega)
      have iy : ∀ (_ : blF (aX w) true (k + 1) = ((k : Int) + 1, lbS (aX w) ((k : Int) + 1))), G 9 [some (Vr (8 + 4)), some (Vr 3), some (Vr 46), some (Vi lot), some (Vi ((k : Int) + 1)), some (Vi (lbS (aX w) ((k : Int) + 1))), some (Vi ((k : Int) + 1 + 1)), some (Vi (lbS (aX w) ((k : Int) + 1)))] [] 102 (hp w) := fun e => by
        have q := ih (k + 1) (some (Vi (lbS (aX w) ((k : Int) + 1)))) (by omega) (by omega) rfl
        rw [e] at q
        exact q
      have iw : ∀ (o' : Option Value) (_ : one1 [o'] 0 = true) (_ : blF (aX w) true (k + 1) = blF (aX w) true k), G 9 [some (Vr (8 + 4)), some (Vr 3), some (Vr 46), some (Vi lot), some (Vi (blF (aX w) true k).1), some (Vi (blF (aX w) true k).2), some (Vi ((k : Int) + 1 + 1)), o'] [] 102 (hp w) := fun o' g' e => by
        have q := ih (k + 1) o' (by omega) (by omega) g'
        rw [e] at q
        exact q
      refine gx_iload6 (q := 11) hG d_Sm_choice_9 rfl ?_
      refine gx_bipush (q := 13) hG d_Sm_choice_11 rfl rfl ?_
      refine gx_icmp_gt (tgt := 64) (q := 16) hG d_Sm_choice_13 rfl rfl (by omega) (by omega) (fun c13 => ?_) (fun c13 => ?_)
      · exfalso; omega
      · refine gx_aload1 (q := 17) hG d_Sm_choice_16 rfl ?_
        refine gx_iload6 (q := 19) hG d_Sm_choice_17 rfl ?_
        refine gw_V1X (q := 22) hG l_Sm_9 c_Gm_isOpen (ev_Gm_isOpen hg (by omega)) (hpGame (by unfold isG; omega)) rfl (by decide) (Nat.le_of_ble_eq_true rfl) d_Sm_choice_19 rfl (by decide) ?_
        refine gx_if_eq (tgt := 58) (q := 25) hG d_Sm_choice_22 rfl rfl (bi_R _) (fun c22 => ?_) (fun c22 => ?_)
        · have c22 := bi_eq0.mp c22
          have es := blF_n (s := aX w) (most := true) (k := k) (fun q => c22 (hop.mpr q.1))
          refine gx_iinc6 (q := 61) hG d_Sm_choice_58 rfl rfl ?_
          refine gx_goto (tgt := 9) hG d_Sm_choice_61 rfl ?_
          first
            | exact iy es
            | exact iw _ g es
            | exact iw _ rfl es
        · have c22 := bi_ne0.mp c22
          refine gx_aload1 (q := 26) hG d_Sm_choice_25 rfl ?_
          refine gx_iload6 (q := 28) hG d_Sm_choice_26 rfl ?_
          refine gw_V1X (q := 31) hG l_Sm_15 c_Gm_openBehind (ev_Gm_openBehind hg (by omega)) (hpGame (by unfold isG; omega)) rfl (by decide) (Nat.le_of_ble_eq_true rfl) d_Sm_choice_28 rfl (by decide) ?_
          rw [lbX hs.1]
          refine gx_istore7 (q := 33) hG d_Sm_choice_31 rfl rfl ?_
          refine gx_iload4 (q := 35) hG d_Sm_choice_33 rfl ?_
          refine gx_iconst (q := 36) hG d_Sm_choice_35 rfl ?_
          refine gx_icmp_eq (tgt := 50) (q := 39) hG d_Sm_choice_36 rfl rfl (by omega) (by omega) (fun c36 => ?_) (fun c36 => ?_)
          · have es := blF_y (s := aX w) (most := true) (k := k) (hop.mp c22) (Or.inl c36)
            refine gx_iload6 (q := 52) hG d_Sm_choice_50 rfl ?_
            refine gx_istore4 (q := 54) hG d_Sm_choice_52 rfl rfl ?_
            refine gx_iload7 (q := 56) hG d_Sm_choice_54 rfl ?_
            refine gx_istore5 (q := 58) hG d_Sm_choice_56 rfl rfl ?_
            refine gx_iinc6 (q := 61) hG d_Sm_choice_58 rfl rfl ?_
            refine gx_goto (tgt := 9) hG d_Sm_choice_61 rfl ?_
            first
              | exact iy es
              | exact iw _ g es
              | exact iw _ rfl es
          · refine gx_aload0 (q := 40) hG d_Sm_choice_39 rfl ?_
            refine gx_iload7 (q := 42) hG d_Sm_choice_40 rfl ?_
            refine gx_iload5 (q := 44) hG d_Sm_choice_42 rfl ?_
            refine gw_O2X (q := 47) hG l_Sm_19_Lo c_Lo_isBetter (ev_Lo_isBetter (by omega) (by omega)) (hpPl (k := 4) (by omega)) rfl (by decide) (Nat.le_of_ble_eq_true rfl) d_Sm_choice_44 rfl (by decide) ?_
            refine gx_if_eq (tgt := 58) (q := 50) hG d_Sm_choice_47 rfl rfl (bi_R _) (fun c47 => ?_) (fun c47 => ?_)
            · have es := blF_n (s := aX w) (most := true) (k := k) (fun q => q.2.elim c36 (bi_eq0.mp c47))
              refine gx_iinc6 (q := 61) hG d_Sm_choice_58 rfl rfl ?_
              refine gx_goto (tgt := 9) hG d_Sm_choice_61 rfl ?_
              first
                | exact iy es
                | exact iw _ g es
                | exact iw _ rfl es
            · have es := blF_y (s := aX w) (most := true) (k := k) (hop.mp c22) (Or.inr (bi_ne0.mp c47))
              refine gx_iload6 (q := 52) hG d_Sm_choice_50 rfl ?_
              refine gx_istore4 (q := 54) hG d_Sm_choice_52 rfl rfl ?_
              refine gx_iload7 (q := 56) hG d_Sm_choice_54 rfl ?_
              refine gx_istore5 (q := 58) hG d_Sm_choice_56 rfl rfl ?_
              refine gx_iinc6 (q := 61) hG d_Sm_choice_58 rfl rfl ?_
              refine gx_goto (tgt := 9) hG d_Sm_choice_61 rfl ?_
              first
                | exact iy es
                | exact iw _ g es
                | exact iw _ rfl es
  refine gx_iconst (q := 1) hG d_Sm_choice_0 rfl ?_
  refine gx_istore4 (q := 3) hG d_Sm_choice_1 rfl rfl ?_
  refine gx_iconst (q := 4) hG d_Sm_choice_3 rfl ?_
  refine gx_istore5 (q := 6) hG d_Sm_choice_4 rfl rfl ?_
  refine gx_iconst (q := 7) hG d_Sm_choice_6 rfl ?_
  refine gx_istore6 (q := 9) hG d_Sm_choice_7 rfl rfl ?_
  have e := L 59 1 none (by omega) (by omega) rfl
  rw [blF_1] at e
  exact e
theorem prS_y {s : Sta} {z : Int} (h : 1 < z ∧ z ≤ 60) (e : z = gtS s - lastS s) (h2 : ¬ hadS s z) : prS s = z := by
  subst e
  exact if_pos (bi_t ⟨h.1, h2⟩)
theorem prS_n {s : Sta} (h : ¬ (1 < gtS s - lastS s ∧ ¬ hadS s (gtS s - lastS s))) : prS s = leS s := if_neg (fun q => h (bi_eq1.mp q))
theorem lastS_bd {s : Sta} (h : OK s) : 0 ≤ lastS s ∧ lastS s ≤ 60 := by
  unfold lastS
  split
  · have := h.num (s 4 1 - 1) (by omega) (by omega)
    omega
  · omega
theorem ev_Pr_choice {w : Mem} {a lot : Int} (hO : OK (aX w)) (hj : XJ w) : EvI y_Pr_choice b_Pr_choice 5 (some .int) (6) [Vr a, Vr 3, Vr 46, Vi lot] w (fun z w' => z = prS (aX w) ∧ SX w w') := by
  refine Ev.mk (isI := false) (by decide +kernel) nofun (Nat.le_of_ble_eq_true rfl) (fun G hG => ?_)
  show G 0 [some (Vr a), some (Vr 3), some (Vr 46), some (Vi lot), none] [] 102 (hp w)
  have hg := hO.gi hj
  have hl := lastS_bd hO
  have hgb := gtS_bd (s := aX w)
  refine gx_aload1 (q := 1) hG d_Pr_choice_0 rfl ?_
  refine gw_V0Y (q := 4) hG l_Pr_7 c_Gm_pairNumber (ev_Gm_pairNumber hg) (hpGame (by unfold isG; omega)) rfl (by decide) (Nat.le_of_ble_eq_true rfl) d_Pr_choice_1 rfl (by decide) (fun z1 h1 => ?_)
  obtain ⟨g, h1, rfl⟩ := h1
  have e1 := gtX h1
  subst e1
  rw [lastX]
  refine gx_istore4 (q := 6) hG d_Pr_choice_4 rfl rfl ?_
  refine gx_iload4 (q := 8) hG d_Pr_choice_6 rfl ?_
  refine gx_iconst (q := 9) hG d_Pr_choice_8 rfl ?_
  refine gx_icmp_le (tgt := 26) (q := 12) hG d_Pr_choice_9 rfl rfl (by omega) (by omega) (fun c9 => ?_) (fun c9 => ?_)
  · refine gx_aload1 (q := 27) hG d_Pr_choice_26 rfl ?_
    refine gw_V0Y (q := 30) hG l_Pr_17 c_Gm_leastAboveOne (ev_Gm_leastAboveOne hg) (hpGame (by unfold isG; omega)) rfl (by decide) (Nat.le_of_ble_eq_true rfl) d_Pr_choice_27 rfl (by decide) (fun z27 h27 => ?_)
    refine gx_ireturn hG d_Pr_choice_30 rfl rfl ?_
    first
      | exact ⟨_, rfl, _, rfl, (prS_y ⟨c9, by omega⟩ rfl (fun q => c18.2.2 (hadX.mpr q))).symm, SX_id hj⟩
      | exact ⟨_, rfl, _, rfl, (leX h27).trans (prS_n (fun q => by omega)).symm, SX_id hj⟩
      | exact ⟨_, rfl, _, rfl, (leX h27).trans (prS_n (fun q => c18 ⟨by omega, by omega, fun r => q.2 (hadX.mp r)⟩)).symm, SX_id hj⟩
  · refine gx_aload1 (q := 13) hG d_Pr_choice_12 rfl ?_
    refine gx_iload4 (q := 15) hG d_Pr_choice_13 rfl ?_
    refine gw_V1X (q := 18) hG l_Pr_13 c_Gm_isOpen (ev_Gm_isOpen hg (by omega)) (hpGame (by unfold isG; omega)) rfl (by decide) (Nat.le_of_ble_eq_true rfl) d_Pr_choice_15 rfl (by decide) ?_
    refine gx_if_eq (tgt := 26) (q := 21) hG d_Pr_choice_18 rfl rfl (bi_R _) (fun c18 => ?_) (fun c18 => ?_)
    · have c18 := bi_eq0.mp c18
      refine gx_aload1 (q := 27) hG d_Pr_choice_26 rfl ?_
      refine gw_V0Y (q := 30) hG l_Pr_17 c_Gm_leastAboveOne (ev_Gm_leastAboveOne hg) (hpGame (by unfold isG; omega)) rfl (by decide) (Nat.le_of_ble_eq_true rfl) d_Pr_choice_27 rfl (by decide) (fun z27 h27 => ?_)
      refine gx_ireturn hG d_Pr_choice_30 rfl rfl ?_
      first
        | exact ⟨_, rfl, _, rfl, (prS_y ⟨c9, by omega⟩ rfl (fun q => c18.2.2 (hadX.mpr q))).symm, SX_id hj⟩
        | exact ⟨_, rfl, _, rfl, (leX h27).trans (prS_n (fun q => by omega)).symm, SX_id hj⟩
        | exact ⟨_, rfl, _, rfl, (leX h27).trans (prS_n (fun q => c18 ⟨by omega, by omega, fun r => q.2 (hadX.mp r)⟩)).symm, SX_id hj⟩
    · have c18 := bi_ne0.mp c18
      refine gx_iload4 (q := 23) hG d_Pr_choice_21 rfl ?_
      refine gx_goto (tgt := 30) hG d_Pr_choice_23 rfl ?_
      refine gx_ireturn hG d_Pr_choice_30 rfl rfl ?_
      first
        | exact ⟨_, rfl, _, rfl, (prS_y ⟨c9, by omega⟩ rfl (fun q => c18.2.2 (hadX.mpr q))).symm, SX_id hj⟩
        | exact ⟨_, rfl, _, rfl, (leX h27).trans (prS_n (fun q => by omega)).symm, SX_id hj⟩
        | exact ⟨_, rfl, _, rfl, (leX h27).trans (prS_n (fun q => c18 ⟨by omega, by omega, fun r => q.2 (hadX.mp r)⟩)).symm, SX_id hj⟩
theorem lw_win {m : Nat} (h : (cn (winP m) 27 = 0 ∧ lwN (winP m) 27 = 0) ∨ (1 ≤ cn (winP m) 27 ∧ 1 ≤ lwN (winP m) 27 ∧ lwN (winP m) 27 ≤ (27 : Nat) ∧ winP m (lwN (winP m) 27))) (h2 : 0 < cn (winP m) 27) : 2 ≤ lwN (winP m) 27 ∧ lwN (winP m) 27 ≤ 27 := by
  rcases h with h | h
  · omega
  · exact ⟨h.2.2.2.1, h.2.2.1⟩
theorem ev_Bs_choice {w : Mem} {a lot : Int} (hO : OK (aX w)) (hj : XJ w) : EvI y_Bs_choice b_Bs_choice 5 (some .int) (25) [Vr a, Vr 3, Vr 46, Vi lot] w (fun z w' => z = bsS (aX w) ∧ SX w w') := by
  refine Ev.mk (isI := false) (by decide +kernel) nofun (Nat.le_of_ble_eq_true rfl) (fun G hG => ?_)
  show G 0 [some (Vr a), some (Vr 3), some (Vr 46), some (Vi lot), none] [] 102 (hp w)
  have hg := hO.gi hj
  have hlw := lwN_spec (P := winP (gapm (aX w))) 27
  refine gx_aload2 (q := 1) hG d_Bs_choice_0 rfl ?_
  refine gx_aload1 (q := 2) hG d_Bs_choice_1 rfl ?_
  refine gw_V1I (q := 5) hG l_Bs_7 c_So_load (ev_So_load hO hj) hpSo rfl (by decide) (Nat.le_of_ble_eq_true rfl) d_Bs_choice_2 rfl (by decide) (fun z2 w1 h2 => ?_)
  obtain ⟨rfl, s1, s2⟩ := h2
  refine gx_if_eq (tgt := 15) (q := 8) hG d_Bs_choice_5 rfl rfl (bi_R _) (fun c5 => ?_) (fun c5 => ?_)
  · have c5 := bi_eq0.mp c5
    have sZ := s1
    have hg1 : GI w1 3 := OK.gi (by rw [s1.1]; exact hO) s1.2.1
    refine gx_iconst (q := 16) hG d_Bs_choice_15 rfl ?_
    refine gx_istore4 (q := 18) hG d_Bs_choice_16 rfl rfl ?_
    refine gx_iload4 (q := 20) hG d_Bs_choice_18 rfl ?_
    refine gx_iconst (q := 21) hG d_Bs_choice_20 rfl ?_
    refine gx_icmp_le (tgt := 29) (q := 24) hG d_Bs_choice_21 rfl rfl (by omega) (by omega) (fun c21 => ?_) (fun c21 => ?_)
    · have en : bsS (aX w) = leS (aX w) := by
        first
          | exact if_neg (fun q => c5 (bi_eq1.mp q).1)
          | exact if_neg (fun q => by have := (bi_eq1.mp q).2; have hh := lw_win hlw this; omega)
      refine gx_aload1 (q := 30) hG d_Bs_choice_29 rfl ?_
      refine gw_V0Y (q := 33) hG l_Bs_17 c_Gm_leastAboveOne (ev_Gm_leastAboveOne (by assumption)) (hpGame (by unfold isG; omega)) rfl (by decide) (Nat.le_of_ble_eq_true rfl) d_Bs_choice_30 rfl (by decide) (fun z30 h30 => ?_)
      refine gx_ireturn hG d_Bs_choice_33 rfl rfl ?_
      first
        | (exfalso; omega)
        | (refine ⟨_, rfl, _, rfl, ?_, sZ⟩; exact (if_pos (bi_t ⟨c5, by omega⟩)).symm)
        | (refine ⟨_, rfl, _, rfl, ?_, sZ⟩; rw [leX h30, sZ.1, en])
    · refine gx_iload4 (q := 26) hG d_Bs_choice_24 rfl ?_
      refine gx_goto (tgt := 33) hG d_Bs_choice_26 rfl ?_
      refine gx_ireturn hG d_Bs_choice_33 rfl rfl ?_
      first
        | (exfalso; omega)
        | (refine ⟨_, rfl, _, rfl, ?_, sZ⟩; exact (if_pos (bi_t ⟨c5, by omega⟩)).symm)
        | (refine ⟨_, rfl, _, rfl, ?_, sZ⟩; rw [leX h30, sZ.1, en])
  · have c5 := bi_ne0.mp c5
    obtain ⟨q1, q2⟩ := s2 c5
    refine gx_aload2 (q := 9) hG d_Bs_choice_8 rfl ?_
    refine gw_V0I (q := 12) hG l_Bs_13 c_So_leastWin (ev_So_leastWin q2 q1 (mkN_lt 28) gapm_0 (canS_b c5)) hpSo rfl (by omega) (Nat.le_of_ble_eq_true rfl) d_Bs_choice_9 rfl (by decide) (fun z9 w2 h9 => ?_)
    obtain ⟨rfl, v2⟩ := h9
    have s3 := s1.tr (SV_X s1.2.1 v2.1 v2.2.2)
    have sZ := s3
    have hg2 : GI w2 3 := OK.gi (by rw [s3.1]; exact hO) s3.2.1
    refine gx_goto (tgt := 16) hG d_Bs_choice_12 rfl ?_
    refine gx_istore4 (q := 18) hG d_Bs_choice_16 rfl rfl ?_
    refine gx_iload4 (q := 20) hG d_Bs_choice_18 rfl ?_
    refine gx_iconst (q := 21) hG d_Bs_choice_20 rfl ?_
    refine gx_icmp_le (tgt := 29) (q := 24) hG d_Bs_choice_21 rfl rfl (by omega) (by omega) (fun c21 => ?_) (fun c21 => ?_)
    · have en : bsS (aX w) = leS (aX w) := by
        first
          | exact if_neg (fun q => c5 (bi_eq1.mp q).1)
          | exact if_neg (fun q => by have := (bi_eq1.mp q).2; have hh := lw_win hlw this; omega)
      refine gx_aload1 (q := 30) hG d_Bs_choice_29 rfl ?_
      refine gw_V0Y (q := 33) hG l_Bs_17 c_Gm_leastAboveOne (ev_Gm_leastAboveOne (by assumption)) (hpGame (by unfold isG; omega)) rfl (by decide) (Nat.le_of_ble_eq_true rfl) d_Bs_choice_30 rfl (by decide) (fun z30 h30 => ?_)
      refine gx_ireturn hG d_Bs_choice_33 rfl rfl ?_
      first
        | (exfalso; omega)
        | (refine ⟨_, rfl, _, rfl, ?_, sZ⟩; exact (if_pos (bi_t ⟨c5, by omega⟩)).symm)
        | (refine ⟨_, rfl, _, rfl, ?_, sZ⟩; rw [leX h30, sZ.1, en])
    · refine gx_iload4 (q := 26) hG d_Bs_choice_24 rfl ?_
      refine gx_goto (tgt := 33) hG d_Bs_choice_26 rfl ?_
      refine gx_ireturn hG d_Bs_choice_33 rfl rfl ?_
      first
        | (exfalso; omega)
        | (refine ⟨_, rfl, _, rfl, ?_, sZ⟩; exact (if_pos (bi_t ⟨c5, by omega⟩)).symm)
        | (refine ⟨_, rfl, _, rfl, ?_, sZ⟩; rw [leX h30, sZ.1, en])
theorem clr {s : Sta} {m b : Nat} {i : Int} (hm : m < 2 ^ 61) (hb : 1 ≤ b) (h : ∀ v : Nat, v ≤ 60 → (m.testBit v = true ↔ abP s v ∧ b ≤ v)) (hc : cn (abP s) (b - 1) = i) (hi : i < cn (abP s) 60) : ∃ p : Nat, p ≤ 60 ∧ b ≤ p ∧ abP s p ∧ m.testBit p = true ∧ (∀ u, u < p → m.testBit u = false) ∧ cn (abP s) (p - 1) = i ∧ 0 < m ∧ (∀ v : Nat, v ≤ 60 → ((m &&& (m - 1)).testBit v = true ↔ abP s v ∧ p + 1 ≤ v)) ∧ cn (abP s) p = i + 1 := by
  have hpos : 0 < m := by
    rcases Nat.eq_zero_or_pos m with c | c
    · exfalso
      subst c
      rcases Nat.lt_or_ge 60 b with d | d
      · have := cn_le (P := abP s) (k := 60) (n := b - 1) (by omega)
        omega
      · have e := cn_same (P := abP s) (b := b - 1) (61 - b) (fun v v1 v2 q => by
          have := (h v (by omega)).mpr ⟨q, by omega⟩
          rw [Nat.zero_testBit] at this
          cases this)
        rw [show b - 1 + (61 - b) = 60 by omega] at e
        omega
    · exact c
  obtain ⟨p, a1, a2, a3⟩ := low_clear m m (Nat.le_refl _) hpos
  have hp60 : p ≤ 60 := by
    rcases Nat.lt_or_ge 60 p with c | c
    · rw [tb_big hm c] at a1
      cases a1
    · exact c
  have hq := (h p hp60).mp a1
  have e := cn_same (P := abP s) (b := b - 1) (p - b) (fun v v1 v2 q => by
    have := (h v (by omega)).mpr ⟨q, by omega⟩
    rw [a2 v (by omega)] at this
    cases this)
  rw [show b - 1 + (p - b) = p - 1 by omega] at e
  have e1 := cn_s (P := abP s) (v := p) (by omega)
  rw [bi_t hq.1] at e1
  refine ⟨p, hp60, hq.2, hq.1, a1, a2, by omega, hpos, fun v hv => ?_, by omega⟩
  rw [a3, Bool.and_eq_true, decide_eq_true_eq, h v hv]
  constructor
  · rintro ⟨⟨b1, b2⟩, b3⟩
    refine ⟨b1, ?_⟩
    rcases Nat.lt_or_ge v p with c | c
    · have := (h v hv).mpr ⟨b1, b2⟩
      rw [a2 v c] at this
      cases this
    · omega
  · rintro ⟨b1, b2⟩
    exact ⟨⟨b1, by omega⟩, by omega⟩
theorem low_at {m p : Nat} {z : Int} (hp1 : p ≤ 60) (h1 : m.testBit p = true) (h2 : ∀ u, u < p → m.testBit u = false) (h : LowB m z) : z = p := by
  rcases h with ⟨v, rfl, a1, a2, a3⟩ | ⟨rfl, a1⟩
  · rcases Nat.lt_trichotomy v p with c | c | c
    · rw [h2 v c] at a2; cases a2
    · rw [c]
    · rw [a3 p c] at h1; cases h1
  · rw [a1 p hp1] at h1; cases h1
theorem ev_Ch_choice {w : Mem} {lot : Int} (hO : OK (aX w)) (hj : XJ w) (hl : R3 lot) : EvI y_Ch_choice b_Ch_choice 9 (some .int) (25) [Vr (8 + 5), Vr 3, Vr 46, Vi lot] w (fun z w' => z = saysS (aX w) 5 lot ∧ SX w w') := by
  refine Ev.mk (isI := false) (by decide +kernel) nofun (Nat.le_of_ble_eq_true rfl) (fun G hG => ?_)
  show G 0 [some (Vr (8 + 5)), some (Vr 3), some (Vr 46), some (Vi lot), none, none, none, none, none] [] 102 (hp w)
  have hg := hO.gi hj
  obtain ⟨m, e1, e2, e3⟩ := GI_bits hg
  have hG3 := hg.1
  have hm1 : (opn m &&& (opn m ^^^ 2)) < 2 ^ 61 := Nat.lt_of_le_of_lt Nat.and_le_left (opn_lt m)
  have hm2 : ∀ v : Nat, v ≤ 60 → ((opn m &&& (opn m ^^^ 2)).testBit v = true ↔ abP (aX w) v) := fun v hv => by
    rw [opn2_bit, Bool.and_eq_true, opn_iff e3 v hv, decide_eq_true_eq, hadX]
    unfold abP
    refine ⟨fun q => ⟨?_, q.1⟩, fun q => ⟨q.2, by have := q.1; omega⟩⟩
    have : v ≠ 0 := fun e => q.1 (by rw [e]; exact hadX.mp hd_zero)
    omega
  have hm3 : ((bs (opn m &&& (opn m ^^^ 2)) 64 : Nat) : Int) = cn (abP (aX w)) 60 := cn_mask hm1 hm2 (fun q => by have := q.1; omega)
  have hcb := cn_bd (P := abP (aX w)) 60
  have L : ∀ (j k B b : Nat), 0 < lot → (k : Int) + j = lot % cn (abP (aX w)) 60 → 0 < cn (abP (aX w)) 60 → B < 2 ^ 61 → 1 ≤ b → (∀ v : Nat, v ≤ 60 → (B.testBit v = true ↔ abP (aX w) v ∧ b ≤ v)) → cn (abP (aX w)) (b - 1) = k → G 41 [some (Vr (8 + 5)), some (Vr 3), some (Vr 46), some (Vi lot), some (Vj (B : Int)), none, some (Vi (cn (abP (aX w)) 60)), some (Vi (lot % cn (abP (aX w)) 60)), some (Vi (k : Int))] [] 102 (hp w) := by
    intro j
    induction j with
    | zero =>
      intro k B b hl0 h1 h2 h3 h4 h5 h6
      have hr := Int.emod_lt_of_pos lot h2
      obtain ⟨p, p1, p2, p3, p4, p5, p6, p7, p8, p9⟩ := clr h3 h4 h5 h6 (by omega)
      refine gx_iload8 (q := 43) hG d_Ch_choice_41 rfl ?_
      refine gx_iload7 (q := 45) hG d_Ch_choice_43 rfl ?_
      refine gx_icmp_ge (tgt := 63) (q := 48) hG d_Ch_choice_45 rfl rfl (by omega) (by omega) (fun c45 => ?_) (fun c45 => ?_)
      · refine gx_lload4 (q := 65) hG d_Ch_choice_63 rfl ?_
        refine gw_N1Y (q := 68) hG n_Ch_23 s_X_lowestOf c_X_lowestOf (ev_X_lowestOf (Nat.lt_trans h3 (by decide))) (by decide) (Nat.le_of_ble_eq_true rfl) d_Ch_choice_65 rfl (by decide) (fun z65 h65 => ?_)
        refine gx_ireturn hG d_Ch_choice_68 rfl rfl ?_
        refine ⟨_, rfl, _, rfl, ?_, SX_id hj⟩
        rw [low_at p1 p4 p5 h65, ← chN_eq (r := lot % cn (abP (aX w)) 60) p1 p3 (by omega)]
        unfold saysS
        rw [if_neg (by decide), if_neg (by decide), if_neg (by decide), if_neg (by decide), if_pos rfl, if_neg (by omega), if_neg (by omega)]
      · exfalso; omega
    | succ j ih =>
      intro k B b hl0 h1 h2 h3 h4 h5 h6
      have hr := Int.emod_lt_of_pos lot h2
      obtain ⟨p, p1, p2, p3, p4, p5, p6, p7, p8, p9⟩ := clr h3 h4 h5 h6 (by omega)
      have hB : (B : Int) - 1 = ((B - 1 : Nat) : Int) := by omega
      have hB2 : B < 2305843009213693952 := h3
      have hk60 : (k : Int) < 60 := by omega
      refine gx_iload8 (q := 43) hG d_Ch_choice_41 rfl ?_
      refine gx_iload7 (q := 45) hG d_Ch_choice_43 rfl ?_
      refine gx_icmp_ge (tgt := 63) (q := 48) hG d_Ch_choice_45 rfl rfl (by omega) (by omega) (fun c45 => ?_) (fun c45 => ?_)
      · exfalso; omega
      · refine gx_lload4 (q := 50) hG d_Ch_choice_48 rfl ?_
        refine gx_lload4 (q := 52) hG d_Ch_choice_50 rfl ?_
        refine gx_lconst (q := 53) hG 1 d_Ch_choice_52 rfl rfl ?_
        refine gx_lsub (q := 54) hG d_Ch_choice_53 rfl ?_
        rw [hB]
        refine gx_land (q := 55) hG (((B &&& (B - 1) : Nat) : Int)) d_Ch_choice_54 rfl (j_and B (B - 1)) ?_
        refine gx_lstore4 (q := 57) hG d_Ch_choice_55 rfl rfl ?_
        refine gx_iinc8 (q := 60) hG d_Ch_choice_57 rfl rfl ?_
        refine gx_goto (tgt := 41) hG d_Ch_choice_60 rfl ?_
        exact ih (k + 1) (B &&& (B - 1)) (p + 1) hl0 (by omega) h2 (Nat.lt_of_le_of_lt Nat.and_le_left h3) (by omega) p8 (by rw [Nat.add_sub_cancel]; omega)
  refine gx_iload3 (q := 1) hG d_Ch_choice_0 rfl ?_
  refine gx_if_gt (tgt := 12) (q := 4) hG d_Ch_choice_1 rfl rfl (by omega) (fun c1 => ?_) (fun c1 => ?_)
  · refine gx_aload1 (q := 13) hG d_Ch_choice_12 rfl ?_
    refine gw_V0X (q := 16) hG l_Ch_11 c_Gm_openAboveOne (ev_Gm_openAboveOne hG3 e1) (hpGame (by unfold isG; omega)) rfl (by decide) (Nat.le_of_ble_eq_true rfl) d_Ch_choice_13 rfl (by decide) ?_
    refine gx_lstore4 (q := 18) hG d_Ch_choice_16 rfl rfl ?_
    refine gx_lload4 (q := 20) hG d_Ch_choice_18 rfl ?_
    refine gw_S1X (q := 23) hG l_Ch_17 c_Lg_bitCount (ev_Lg_bitCount (Nat.lt_trans hm1 (by decide))) (by decide) (Nat.le_of_ble_eq_true rfl) d_Ch_choice_20 rfl (by decide) ?_
    rw [hm3]
    refine gx_istore6 (q := 25) hG d_Ch_choice_23 rfl rfl ?_
    refine gx_iload6 (q := 27) hG d_Ch_choice_25 rfl ?_
    refine gx_if_ne (tgt := 32) (q := 30) hG d_Ch_choice_27 rfl rfl (by omega) (fun c27 => ?_) (fun c27 => ?_)
    · refine gx_iload3 (q := 33) hG d_Ch_choice_32 rfl ?_
      refine gx_iload6 (q := 35) hG d_Ch_choice_33 rfl ?_
      refine gx_irem (q := 36) hG d_Ch_choice_35 rfl (by omega) (by omega) (by omega) (by omega) ?_
      refine gx_istore7 (q := 38) hG d_Ch_choice_36 rfl rfl ?_
      refine gx_iconst (q := 39) hG d_Ch_choice_38 rfl ?_
      refine gx_istore8 (q := 41) hG d_Ch_choice_39 rfl rfl ?_
      exact L (lot % cn (abP (aX w)) 60).toNat 0 _ 1 (by omega) (by have := Int.emod_nonneg lot c27; omega) (by omega) hm1 (by omega) (fun v hv => by rw [hm2 v hv]; exact ⟨fun q => ⟨q, by have := q.1; omega⟩, fun q => q.1⟩) rfl
    · refine gx_iconst (q := 31) hG d_Ch_choice_30 rfl ?_
      refine gx_ireturn hG d_Ch_choice_31 rfl rfl ?_
      refine ⟨_, rfl, _, rfl, ?_, SX_id hj⟩
      unfold saysS
      rw [if_neg (by decide), if_neg (by decide), if_neg (by decide), if_neg (by decide), if_pos rfl, if_neg (by omega), if_pos c27]
  · refine gx_aload0 (q := 5) hG d_Ch_choice_4 rfl ?_
    refine gx_aload1 (q := 6) hG d_Ch_choice_5 rfl ?_
    refine gx_aload2 (q := 7) hG d_Ch_choice_6 rfl ?_
    refine gx_iload3 (q := 8) hG d_Ch_choice_7 rfl ?_
    refine gx_callSU (As := [Vr 3, Vr 46, Vi lot]) (q := 11) hG l_Ch_7_up (by decide) c_Pr_choice (ev_Pr_choice (a := 8 + 5) (lot := lot) hO hj) (hpPl (k := 5) (by omega)) rfl (Nat.le_of_ble_eq_true rfl) (by omega) (by decide) rfl d_Ch_choice_8 rfl (fun v8 h8 z8 => ?_)
    obtain ⟨w1, rfl, z, rfl, rfl, s1⟩ := z8
    refine gx_ireturn hG d_Ch_choice_11 rfl rfl ?_
    refine ⟨_, rfl, _, rfl, ?_, s1⟩
    unfold saysS
    rw [if_neg (by decide), if_neg (by decide), if_neg (by decide), if_neg (by decide), if_pos rfl, if_pos c1]

