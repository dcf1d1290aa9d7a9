/-! part 79: says, mark, play of the class -/
theorem ch_call {b : ByteArray} {mL : Nat} {rt : Option FieldType} {isI : Bool} {d a n0 pc q : Nat} {Q : Option Value → AH → Prop} {G : Nat → List (Option Value) → List Value → Nat → AH → Prop} {ls : List (Option Value)} {st : List Value} (hG : Cx "WhoSaysOne" b mL rt isI d a n0 Q G) {w : Mem} {kd lot : Int} (hk : 0 ≤ kd ∧ kd ≤ 5) (hO : OK (aX w)) (hj : XJ w) (hl : R3 lot) (hd' : 25 < d) (hst : (st.map fun v => v.category).sum ≤ 8) (hd : decode b pc = .ok (.invokevirtual 162, 3)) (hq : pc + 3 = q) (hn0 : 102 ≤ n0 + a) (k : ∀ (z : Int) (w' : Mem), z = saysS (aX w) kd lot ∧ SX w w' → G q ls (Vi z :: st) 102 (hp w')) : G pc ls (Vi lot :: Vr 46 :: Vr 3 :: Vr (8 + kd) :: st) 102 (hp w) := by
  rcases (show kd = 0 ∨ kd = 1 ∨ kd = 2 ∨ kd = 3 ∨ kd = 4 ∨ kd = 5 by omega) with rfl | rfl | rfl | rfl | rfl | rfl
  · refine gw_V3I hG l_X_162 c_Pl_choice (ev_Pl_choice hO hj) (hpPl (k := 0) (by omega)) rfl (by omega) hst hd hq hn0 (fun z w' h => k z w' ⟨?_, h.2⟩)
    rw [h.1]
    unfold saysS
    rw [if_neg (by decide), if_neg (by decide), if_neg (by decide), if_neg (by decide), if_neg (by decide)]
  · refine gw_O3I hG l_X_162_Sm c_Sm_choice (ev_Sm_choice1 hO hj) (hpPl (k := 1) (by omega)) rfl (by omega) hst hd hq hn0 (fun z w' h => k z w' ⟨?_, h.2⟩)
    rw [h.1]
    unfold saysS
    rw [if_pos rfl]
  · refine gw_O3I hG l_X_162_Pr c_Pr_choice (ev_Pr_choice hO hj) (hpPl (k := 2) (by omega)) rfl (by omega) hst hd hq hn0 (fun z w' h => k z w' ⟨?_, h.2⟩)
    rw [h.1]
    unfold saysS
    rw [if_neg (by decide), if_neg (by decide), if_pos rfl]
  · refine gw_O3I hG l_X_162_Bs c_Bs_choice (ev_Bs_choice hO hj) (hpPl (k := 3) (by omega)) rfl (by omega) hst hd hq hn0 (fun z w' h => k z w' ⟨?_, h.2⟩)
    rw [h.1]
    unfold saysS
    rw [if_neg (by decide), if_neg (by decide), if_neg (by decide), if_pos rfl]
  · refine gw_O3I hG l_X_162_Lo c_Sm_choice (ev_Sm_choice4 hO hj) (hpPl (k := 4) (by omega)) rfl (by omega) hst hd hq hn0 (fun z w' h => k z w' ⟨?_, h.2⟩)
    rw [h.1]
    unfold saysS
    rw [if_neg (by decide), if_pos rfl]
  · exact gw_O3I hG l_X_162_Ch c_Ch_choice (ev_Ch_choice hO hj hl) (hpPl (k := 5) (by omega)) rfl (by omega) hst hd hq hn0 k
theorem inst_ch {b : ByteArray} {mL : Nat} {rt : Option FieldType} {isI : Bool} {d a n0 pc q : Nat} {Q : Option Value → AH → Prop} {G : Nat → List (Option Value) → List Value → Nat → AH → Prop} {ls : List (Option Value)} {st : List Value} (hG : Cx "WhoSaysOne" b mL rt isI d a n0 Q G) {w : Mem} {kd : Int} (hk : 0 ≤ kd ∧ kd ≤ 5) (hd : decode b pc = .ok (.instanceof 48, 3)) (hq : pc + 3 = q) (k : G q ls (Vi (bi (kd = 5)) :: st) 102 (hp w)) : G pc ls (Vr (8 + kd) :: st) 102 (hp w) := by
  rcases (show kd = 0 ∨ kd = 1 ∨ kd = 2 ∨ kd = 3 ∨ kd = 4 ∨ kd = 5 by omega) with rfl | rfl | rfl | rfl | rfl | rfl
  · rw [bi_f (by decide)] at k
    exact gx_instN hG t_X_48 (show ("WhoSaysOne$Player", "WhoSaysOne$Chance") ∈ ncL by decide +kernel) (hpPl (k := 0) (by omega)) rfl hd hq k
  · rw [bi_f (by decide)] at k
    exact gx_instN hG t_X_48 (show ("WhoSaysOne$Small", "WhoSaysOne$Chance") ∈ ncL by decide +kernel) (hpPl (k := 1) (by omega)) rfl hd hq k
  · rw [bi_f (by decide)] at k
    exact gx_instN hG t_X_48 (show ("WhoSaysOne$Pair", "WhoSaysOne$Chance") ∈ ncL by decide +kernel) (hpPl (k := 2) (by omega)) rfl hd hq k
  · rw [bi_f (by decide)] at k
    exact gx_instN hG t_X_48 (show ("WhoSaysOne$Best", "WhoSaysOne$Chance") ∈ ncL by decide +kernel) (hpPl (k := 3) (by omega)) rfl hd hq k
  · rw [bi_f (by decide)] at k
    exact gx_instN hG t_X_48 (show ("WhoSaysOne$Longer", "WhoSaysOne$Chance") ∈ ncL by decide +kernel) (hpPl (k := 4) (by omega)) rfl hd hq k
  · rw [bi_t rfl] at k
    exact gx_instS hG t_X_48 (hpPl (k := 5) (by omega)) rfl hd hq k
theorem blF_r {s : Sta} {most : Bool} : 1 ≤ (blF s most 60).1 ∧ (blF s most 60).1 ≤ 60 := by
  have := blF_bd (s := s) (most := most) 60
  omega
theorem prS_r {s : Sta} (h : OK s) : 1 ≤ prS s ∧ prS s ≤ 60 := by
  unfold prS
  have a := leS_bd (s := s)
  have b := gtS_bd (s := s)
  have c := lastS_bd h
  split
  · rename_i q
    have := (bi_eq1.mp q).1
    omega
  · exact a
theorem saysS_bd {s : Sta} {kd lot : Int} (h : OK s) : 1 ≤ saysS s kd lot ∧ saysS s kd lot ≤ 60 := by
  unfold saysS
  split
  · exact blF_r
  · split
    · exact blF_r
    · split
      · exact prS_r h
      · split
        · unfold bsS
          split
          · rename_i q
            have := lw_win (lwN_spec 27) (bi_eq1.mp q).2
            omega
          · exact leS_bd
        · split
          · split
            · exact prS_r h
            · split
              · omega
              · rename_i q1 q2
                have hb := cn_bd (P := abP s) 60
                have r0 := Int.emod_nonneg lot q2
                have r1 := Int.emod_lt_of_pos lot (show 0 < cn (abP s) 60 by omega)
                have e : ∃ p : Nat, p ≤ 60 ∧ abP s p ∧ cn (abP s) (p - 1) = lot % cn (abP s) 60 := by
                  have key : ∀ n : Nat, n ≤ 60 → lot % cn (abP s) 60 < cn (abP s) n → ∃ p : Nat, p ≤ 60 ∧ abP s p ∧ cn (abP s) (p - 1) = lot % cn (abP s) 60 := by
                    intro n
                    induction n with
                    | zero =>
                      intro _ g
                      have : cn (abP s) 0 = 0 := rfl
                      omega
                    | succ n ih =>
                      intro g1 g2
                      by_cases c : lot % cn (abP s) 60 < cn (abP s) n
                      · exact ih (by omega) c
                      · have e1 := cn_s (P := abP s) (v := n + 1) (by omega)
                        rw [Nat.add_sub_cancel] at e1
                        have e2 := bi_01 (abP s ((n + 1 : Nat) : Int))
                        exact ⟨n + 1, g1, bi_eq1.mp (by omega), by rw [Nat.add_sub_cancel]; omega⟩
                  exact key 60 (Nat.le_refl _) r1
                obtain ⟨p, p1, p2, p3⟩ := e
                rw [chN_eq p1 p2 p3]
                have := p2.1
                omega
          · exact leS_bd
noncomputable def sp_says (s : Sta) (p : Int) : Int × Sta := if ¬ (0 ≤ p ∧ p < s 4 2) then (-1, s) else if bi (overS s) = 1 then (-4, s) else (saysS s (s 6 p) 0, s)
noncomputable def mkS (s : Sta) (p as : Int) : Int := if as = 1 then (if bi (overS s) = 1 then -4 else lbS s (saysS s (s 6 p) 0)) else if as = 2 then (if leftS s = 0 then -9 else gtS s - lastS s) else if as = 3 then (if bi (canS s) = 1 then cn (winP (gapm s)) 27 else -9) else if as = 4 then leftS s else cn (abP s) 60
noncomputable def sp_mark (s : Sta) (p as : Int) : Int × Sta := if ¬ ((0 ≤ p ∧ p < s 4 2) ∧ 1 ≤ as ∧ as ≤ 5) then (-1, s) else if bi (isK (s 6 p) as) = 0 then fdS s 3 else (mkS s p as, s)
theorem mk_bad {s : Sta} {p as : Int} (h : ¬ ((0 ≤ p ∧ p < s 4 2) ∧ 1 ≤ as ∧ as ≤ 5)) : sp_mark s p as = (-1, s) := if_pos h
theorem mk_un {s : Sta} {p as : Int} (h : (0 ≤ p ∧ p < s 4 2) ∧ 1 ≤ as ∧ as ≤ 5) (h2 : ¬ isK (s 6 p) as) : sp_mark s p as = fdS s 3 := by
  unfold sp_mark
  rw [if_neg (fun q => q h), if_pos (bi_f h2)]
theorem mk_ok {s : Sta} {p as : Int} (h : (0 ≤ p ∧ p < s 4 2) ∧ 1 ≤ as ∧ as ≤ 5) (h2 : isK (s 6 p) as) : sp_mark s p as = (mkS s p as, s) := by
  unfold sp_mark
  rw [if_neg (fun q => q h), if_neg (by rw [bi_t h2]; decide)]
theorem mk1o {s : Sta} {p as : Int} (h : as = 1) (ho : overS s) : mkS s p as = -4 := by
  unfold mkS
  rw [if_pos h, if_pos (bi_t ho)]
theorem mk1 {s : Sta} {p as : Int} (h : as = 1) (ho : ¬ overS s) : mkS s p as = lbS s (saysS s (s 6 p) 0) := by
  unfold mkS
  rw [if_pos h, if_neg (fun q => ho (bi_eq1.mp q))]
theorem mk2n {s : Sta} {p as : Int} (h : as = 2) (ho : leftS s = 0) : mkS s p as = -9 := by
  unfold mkS
  rw [if_neg (by omega), if_pos h, if_pos ho]
theorem mk2 {s : Sta} {p as : Int} (h : as = 2) (ho : leftS s ≠ 0) : mkS s p as = gtS s - lastS s := by
  unfold mkS
  rw [if_neg (by omega), if_pos h, if_neg ho]
theorem mk3 {s : Sta} {p as : Int} (h : as = 3) (ho : canS s) : mkS s p as = cn (winP (gapm s)) 27 := by
  unfold mkS
  rw [if_neg (by omega), if_neg (by omega), if_pos h, if_pos (bi_t ho)]
theorem mk3n {s : Sta} {p as : Int} (h : as = 3) (ho : ¬ canS s) : mkS s p as = -9 := by
  unfold mkS
  rw [if_neg (by omega), if_neg (by omega), if_pos h, if_neg (fun q => ho (bi_eq1.mp q))]
theorem mkS4 {s : Sta} {p as : Int} (h : as = 4) : mkS s p as = leftS s := by
  unfold mkS
  rw [if_neg (by omega), if_neg (by omega), if_neg (by omega), if_pos h]
theorem mk5 {s : Sta} {p as : Int} (h : ¬ as = 1 ∧ ¬ as = 2 ∧ ¬ as = 3 ∧ ¬ as = 4) : mkS s p as = cn (abP s) 60 := by
  unfold mkS
  rw [if_neg h.1, if_neg h.2.1, if_neg h.2.2.1, if_neg h.2.2.2]
def lotN (kd lot : Int) : Int := if kd = 5 then 48271 * lot % 2147483647 else lot
noncomputable def plF : Nat → Sta → Int → Int × Sta
  | 0, s, _ => (0, s)
  | j + 1, s, lot => if 12 ≤ s 4 1 ∨ bi (overS s) = 1 then (0, s) else ((plF j (sayS s (saysS s (s 6 (s 4 1 % 2)) (lotN (s 6 (s 4 1 % 2)) lot))) (lotN (s 6 (s 4 1 % 2)) lot)).1 + 1, (plF j (sayS s (saysS s (s 6 (s 4 1 % 2)) (lotN (s 6 (s 4 1 % 2)) lot))) (lotN (s 6 (s 4 1 % 2)) lot)).2)
theorem plF_n {s : Sta} {lot : Int} {j : Nat} (h : 12 ≤ s 4 1 ∨ overS s) : plF (j + 1) s lot = (0, s) := if_pos (h.imp id (fun q => bi_t q))
theorem plF_y {s : Sta} {lot : Int} {j : Nat} (h1 : s 4 1 < 12) (h2 : ¬ overS s) : plF (j + 1) s lot = ((plF j (sayS s (saysS s (s 6 (s 4 1 % 2)) (lotN (s 6 (s 4 1 % 2)) lot))) (lotN (s 6 (s 4 1 % 2)) lot)).1 + 1, (plF j (sayS s (saysS s (s 6 (s 4 1 % 2)) (lotN (s 6 (s 4 1 % 2)) lot))) (lotN (s 6 (s 4 1 % 2)) lot)).2) := if_neg (fun q => q.elim (fun q => by omega) (fun q => h2 (bi_eq1.mp q)))
theorem lotN_bd {kd lot : Int} (h : 1 ≤ lot ∧ lot ≤ 2147483646) : 1 ≤ lotN kd lot ∧ lotN kd lot ≤ 2147483646 := by
  unfold lotN
  split
  · obtain ⟨k, rfl⟩ := Int.eq_ofNat_of_zero_le (show 0 ≤ lot by omega)
    have h0 : 48271 * k % 2147483647 ≠ 0 := fun e => by
      have d : 2147483647 ∣ 48271 * k := Nat.dvd_of_mod_eq_zero e
      have d2 := Nat.Coprime.dvd_of_dvd_mul_left (show Nat.Coprime 2147483647 48271 by decide +kernel) d
      have := Nat.le_of_dvd (by omega) d2
      omega
    omega
  · exact h
noncomputable def sp_play (s : Sta) (many seed : Int) : Int × Sta := if ¬ ((0 ≤ many ∧ many ≤ 12) ∧ 1 ≤ seed ∧ seed ≤ 2147483646) then (-1, s) else if s 4 2 < 2 then (-4, s) else plF many.toNat s seed
theorem ev_X_says {w : Mem} {p : Int} (hO : OK (aX w)) (hj : XJ w) (hp0 : R3 p) : EvI y_X_says b_X_says 2 (some .int) (28) [Vr 0, Vi p] w (PX w (sp_says (aX w) p)) := by
  refine Ev.mk (isI := false) (by decide +kernel) nofun (Nat.le_of_ble_eq_true rfl) (fun G hG => ?_)
  show G 0 [some (Vr 0), some (Vi p)] [] 102 (hp w)
  have hg := hO.gi hj
  have hpc := hO.pc
  have e2 : aX w 4 2 = w 0 7 := rfl
  refine gx_iload1 (q := 1) hG d_X_says_0 rfl ?_
  refine gx_aload0 (q := 2) hG d_X_says_1 rfl ?_
  refine gx_get (q := 5) hG f_X_145 hpX rfl d_X_says_2 rfl ?_
  refine gw_S2X (q := 8) hG l_X_110 c_X_isIn (ev_X_isIn (by first | assumption | omega) (by first | assumption | omega)) (by decide) (Nat.le_of_ble_eq_true rfl) d_X_says_5 rfl (by decide) ?_
  refine gx_if_ne (tgt := 13) (q := 11) hG d_X_says_8 rfl rfl (bi_R _) (fun c8 => ?_) (fun c8 => ?_)
  · have c8 := bi_ne0.mp c8
    have hkx := hO.kx c8
    have e6 : aX w 6 p = w 14 p := aX_at6 c8
    refine gx_aload0 (q := 14) hG d_X_says_13 rfl ?_
    refine gx_get (q := 17) hG f_X_21 hpX rfl d_X_says_14 rfl ?_
    refine gw_V0X (q := 20) hG l_X_159 c_Gm_isOver (ev_Gm_isOver hg) (hpGame (by unfold isG; omega)) rfl (by decide) (Nat.le_of_ble_eq_true rfl) d_X_says_17 rfl (by decide) ?_
    refine gx_if_eq (tgt := 26) (q := 23) hG d_X_says_20 rfl rfl (bi_R _) (fun c20 => ?_) (fun c20 => ?_)
    · have c20 := bi_eq0.mp c20
      refine gx_aload0 (q := 27) hG d_X_says_26 rfl ?_
      refine gx_iload1 (q := 28) hG d_X_says_27 rfl ?_
      refine gw_V1X (q := 31) hG l_X_151 c_X_playerAt (ev_X_playerAt (by omega) hkx) hpX rfl (by decide) (Nat.le_of_ble_eq_true rfl) d_X_says_28 rfl (by decide) ?_
      refine gx_aload0 (q := 32) hG d_X_says_31 rfl ?_
      refine gx_get (q := 35) hG f_X_21 hpX rfl d_X_says_32 rfl ?_
      refine gx_aload0 (q := 36) hG d_X_says_35 rfl ?_
      refine gx_get (q := 39) hG f_X_76 hpX rfl d_X_says_36 rfl ?_
      refine gx_iconst (q := 40) hG d_X_says_39 rfl ?_
      refine ch_call (q := 43) hG hkx hO hj (by decide) (by omega) (by decide) d_X_says_40 rfl (by decide) (fun z40 w1 h40 => ?_)
      refine gx_ireturn hG d_X_says_43 rfl rfl ?_
      refine ⟨_, rfl, _, rfl, ?_⟩
      unfold sp_says; rw [if_neg (fun q => q c8), if_neg (fun q => c20 (overX.mpr (bi_eq1.mp q))), e6]; exact ⟨h40.1, h40.2⟩
    · have c20 := bi_ne0.mp c20
      refine gx_bipush (q := 25) hG d_X_says_23 rfl rfl ?_
      refine gx_ireturn hG d_X_says_25 rfl rfl ?_
      refine ⟨_, rfl, _, rfl, ?_⟩
      unfold sp_says; rw [if_neg (fun q => q c8), if_pos (bi_t (overX.mp c20))]; exact PX_id hj
  · have c8 := bi_eq0.mp c8
    skip
    refine gx_iconst (q := 12) hG d_X_says_11 rfl ?_
    refine gx_ireturn hG d_X_says_12 rfl rfl ?_
    refine ⟨_, rfl, _, rfl, ?_⟩
    unfold sp_says; rw [if_pos (show ¬ (0 ≤ p ∧ p < aX w 4 2) from c8)]; exact PX_id hj
theorem opn_zero {w : Mem} {m : Nat} (h : ∀ v : Nat, v ≤ 60 → (m.testBit v = true ↔ hd w 3 v)) : opn m = 0 ↔ leftS (aX w) = 0 := by
  have e : ((bs (opn m) 64 : Nat) : Int) = leftS (aX w) := by
    rw [← leftX]
    exact cn_mask (P := fun v => ¬ hd w 3 v) (opn_lt m) (opn_iff h) (fun z => z hd_zero)
  constructor
  · intro q
    rw [← e, q, bs_zero]
    rfl
  · intro q
    rw [← leftX] at q
    refine mask_zero (opn_lt m) (fun v hv => ?_)
    cases hc : (opn m).testBit v
    · rfl
    · exfalso
      have b1 := (opn_iff h v hv).mp hc
      have : v ≠ 0 := fun z => b1 (by rw [z]; exact hd_zero)
      exact (cn_zero 60).mp q v (by omega) (by omega) b1
theorem ab_pop {w : Mem} {m : Nat} (h : ∀ v : Nat, v ≤ 60 → (m.testBit v = true ↔ hd w 3 v)) : ((bs (opn m &&& (opn m ^^^ 2)) 64 : Nat) : Int) = cn (abP (aX w)) 60 := by
  refine cn_mask (Nat.lt_of_le_of_lt Nat.and_le_left (opn_lt m)) (fun v hv => ?_) (fun q => by have := q.1; omega)
  rw [opn2_bit, Bool.and_eq_true, opn_iff h v hv, decide_eq_true_eq, hadX]
  unfold abP
  refine ⟨fun q => ⟨?_, q.1⟩, fun q => ⟨q.2, by have := q.1; omega⟩⟩
  have : v ≠ 0 := fun e => q.1 (by rw [e]; exact hadX.mp hd_zero)
  omega
theorem ev_X_mark {w : Mem} {p as : Int} (hO : OK (aX w)) (hj : XJ w) (hp0 : R3 p) (ha : R3 as) : EvI y_X_mark b_X_mark 4 (some .int) (28) [Vr 0, Vi p, Vi as] w (PX w (sp_mark (aX w) p as)) := by
  refine Ev.mk (isI := false) (by decide +kernel) nofun (Nat.le_of_ble_eq_true rfl) (fun G hG => ?_)
  show G 0 [some (Vr 0), some (Vi p), some (Vi as), none] [] 102 (hp w)
  have hg := hO.gi hj
  obtain ⟨m, e1, em2, e3⟩ := GI_bits hg
  have hG3 := hg.1
  have hm1 : (opn m &&& (opn m ^^^ 2)) < 2 ^ 61 := Nat.lt_of_le_of_lt Nat.and_le_left (opn_lt m)
  have hm3 := ab_pop e3
  have hz := opn_zero e3
  have hpc := hO.pc
  have e2 : aX w 4 2 = w 0 7 := rfl
  have hl := lastS_bd hO
  have hgb := gtS_bd (s := aX w)
  have hlt := opn_lt m
  refine gx_iload1 (q := 1) hG d_X_mark_0 rfl ?_
  refine gx_aload0 (q := 2) hG d_X_mark_1 rfl ?_
  refine gx_get (q := 5) hG f_X_145 hpX rfl d_X_mark_2 rfl ?_
  refine gw_S2X (q := 8) hG l_X_110 c_X_isIn (ev_X_isIn (by first | assumption | omega) (by first | assumption | omega)) (by decide) (Nat.le_of_ble_eq_true rfl) d_X_mark_5 rfl (by decide) ?_
  refine gx_if_eq (tgt := 21) (q := 11) hG d_X_mark_8 rfl rfl (bi_R _) (fun c8 => ?_) (fun c8 => ?_)
  · have c8 := bi_eq0.mp c8
    skip
    refine gx_iconst (q := 22) hG d_X_mark_21 rfl ?_
    refine gx_ireturn hG d_X_mark_22 rfl rfl ?_
    refine ⟨_, rfl, _, rfl, ?_⟩
    first
      | (rw [mk_bad (by omega)]; exact PX_id hj)
      | (rw [mk_bad (fun q => c8 q.1)]; exact PX_id hj)
  · have c8 := bi_ne0.mp c8
    refine gx_iload2 (q := 12) hG d_X_mark_11 rfl ?_
    refine gx_iconst (q := 13) hG d_X_mark_12 rfl ?_
    refine gx_icmp_lt (tgt := 21) (q := 16) hG d_X_mark_13 rfl rfl (by omega) (by omega) (fun c13 => ?_) (fun c13 => ?_)
    · refine gx_iconst (q := 22) hG d_X_mark_21 rfl ?_
      refine gx_ireturn hG d_X_mark_22 rfl rfl ?_
      refine ⟨_, rfl, _, rfl, ?_⟩
      first
        | (rw [mk_bad (by omega)]; exact PX_id hj)
        | (rw [mk_bad (fun q => c8 q.1)]; exact PX_id hj)
    · refine gx_iload2 (q := 17) hG d_X_mark_16 rfl ?_
      refine gx_iconst (q := 18) hG d_X_mark_17 rfl ?_
      refine gx_icmp_le (tgt := 23) (q := 21) hG d_X_mark_18 rfl rfl (by omega) (by omega) (fun c18 => ?_) (fun c18 => ?_)
      · have hkx := hO.kx c8
        have e6 : aX w 6 p = w 14 p := aX_at6 c8
        have hsb := saysS_bd (s := aX w) (kd := w 14 p) (lot := 0) hO
        refine gx_aload0 (q := 24) hG d_X_mark_23 rfl ?_
        refine gx_iload1 (q := 25) hG d_X_mark_24 rfl ?_
        refine gw_V1X (q := 28) hG l_X_151 c_X_playerAt (ev_X_playerAt (by omega) hkx) hpX rfl (by decide) (Nat.le_of_ble_eq_true rfl) d_X_mark_25 rfl (by decide) ?_
        refine gx_astore3 (q := 29) hG d_X_mark_28 rfl rfl ?_
        refine gx_aload3 (q := 30) hG d_X_mark_29 rfl ?_
        refine gx_iload2 (q := 31) hG d_X_mark_30 rfl ?_
        refine gw_S2X (q := 34) hG l_X_155 c_X_isOf (ev_X_isOf hkx (by omega)) (by decide) (Nat.le_of_ble_eq_true rfl) d_X_mark_31 rfl (by decide) ?_
        refine gx_if_ne (tgt := 43) (q := 37) hG d_X_mark_34 rfl rfl (bi_R _) (fun c34 => ?_) (fun c34 => ?_)
        · have c34 := bi_ne0.mp c34
          refine gx_iload2 (q := 44) hG d_X_mark_43 rfl ?_
          refine gx_iconst (q := 45) hG d_X_mark_44 rfl ?_
          refine gx_icmp_ne (tgt := 61) (q := 48) hG d_X_mark_45 rfl rfl (by omega) (by omega) (fun c45 => ?_) (fun c45 => ?_)
          · refine gx_iload2 (q := 62) hG d_X_mark_61 rfl ?_
            refine gx_tsw (tgt := 173) hG d_X_mark_62 (by omega) (by decide) rfl (fun c62 => ?_) (fun i9 o9 h9 c62 => ?_)
            · refine gx_aload0 (q := 174) hG d_X_mark_173 rfl ?_
              refine gx_get (q := 177) hG f_X_21 hpX rfl d_X_mark_174 rfl ?_
              refine gw_V0X (q := 180) hG l_X_187 c_Gm_openAboveOne (ev_Gm_openAboveOne hG3 e1) (hpGame (by unfold isG; omega)) rfl (by decide) (Nat.le_of_ble_eq_true rfl) d_X_mark_177 rfl (by decide) ?_
              refine gw_S1X (q := 183) hG l_X_190 c_Lg_bitCount (ev_Lg_bitCount (Nat.lt_trans hm1 (by decide))) (by decide) (Nat.le_of_ble_eq_true rfl) d_X_mark_180 rfl (by decide) ?_
              rw [hm3]
              refine gx_ireturn hG d_X_mark_183 rfl rfl ?_
              refine ⟨_, rfl, _, rfl, ?_⟩
              rw [mk_ok ⟨c8, by omega, by omega⟩ (by rw [e6]; exact c34), mk5 (by omega)]; exact PX_id hj
            · match i9, h9 with
              | 0, h9 =>
                cases h9
                have c62 : _ = (1 : Int) := c62
                refine ⟨92, rfl, ?_⟩
                refine gx_aload0 (q := 93) hG d_X_mark_92 rfl ?_
                refine gx_get (q := 96) hG f_X_21 hpX rfl d_X_mark_93 rfl ?_
                refine gx_aload3 (q := 97) hG d_X_mark_96 rfl ?_
                refine gx_aload0 (q := 98) hG d_X_mark_97 rfl ?_
                refine gx_get (q := 101) hG f_X_21 hpX rfl d_X_mark_98 rfl ?_
                refine gx_aload0 (q := 102) hG d_X_mark_101 rfl ?_
                refine gx_get (q := 105) hG f_X_76 hpX rfl d_X_mark_102 rfl ?_
                refine gx_iconst (q := 106) hG d_X_mark_105 rfl ?_
                refine ch_call (q := 109) hG hkx hO hj (by decide) (by omega) (by decide) d_X_mark_106 rfl (by decide) (fun z106 w1 h106 => ?_)
                obtain ⟨rfl, s1⟩ := h106
                have hg1 : GI w1 3 := OK.gi (by rw [s1.1]; exact hO) s1.2.1
                refine gw_V1X (q := 112) hG l_X_166 c_Gm_openBehind (ev_Gm_openBehind hg1 hsb) (hpGame (by unfold isG; omega)) rfl (by omega) (Nat.le_of_ble_eq_true rfl) d_X_mark_109 rfl (by decide) ?_
                rw [lbX hg1.2.1.1, s1.1]
                refine gx_ireturn hG d_X_mark_112 rfl rfl ?_
                refine ⟨_, rfl, _, rfl, ?_⟩
                first
                  | (exfalso; omega)
                  | (rw [mk_ok ⟨c8, by omega, by omega⟩ (by rw [e6]; exact c34), mk1 (by omega) (fun q => c55 (overX.mpr q)), e6]; exact ⟨rfl, s1⟩)
              | 1, h9 =>
                cases h9
                have c62 : _ = (2 : Int) := c62
                refine ⟨113, rfl, ?_⟩
                refine gx_aload0 (q := 114) hG d_X_mark_113 rfl ?_
                refine gx_get (q := 117) hG f_X_21 hpX rfl d_X_mark_114 rfl ?_
                refine gw_V0X (q := 120) hG l_X_169 c_Gm_open (ev_Gm_open hG3 e1) (hpGame (by unfold isG; omega)) rfl (by decide) (Nat.le_of_ble_eq_true rfl) d_X_mark_117 rfl (by decide) ?_
                refine gx_lconst (q := 121) hG 0 d_X_mark_120 rfl rfl ?_
                refine gx_lcmp (q := 122) hG d_X_mark_121 rfl (by omega) (by omega) ?_
                refine gx_if_ne (tgt := 130) (q := 125) hG d_X_mark_122 rfl rfl (cmp3_R _ _) (fun c122 => ?_) (fun c122 => ?_)
                · have c122 := cmp3_ne.mp c122
                  have en : mkS (aX w) p as = gtS (aX w) - lastS (aX w) := mk2 (by omega) (fun q => c122 (by rw [hz.mpr q]; rfl))
                  refine gx_aload0 (q := 131) hG d_X_mark_130 rfl ?_
                  refine gx_get (q := 134) hG f_X_21 hpX rfl d_X_mark_131 rfl ?_
                  refine gw_V0Y (q := 137) hG l_X_173 c_Gm_pairNumber (ev_Gm_pairNumber hg) (hpGame (by unfold isG; omega)) rfl (by decide) (Nat.le_of_ble_eq_true rfl) d_X_mark_134 rfl (by decide) (fun z134 h134 => ?_)
                  refine gx_ireturn hG d_X_mark_137 rfl rfl ?_
                  refine ⟨_, rfl, _, rfl, ?_⟩
                  rw [mk_ok ⟨c8, by omega, by omega⟩ (by rw [e6]; exact c34), en]
                  first
                    | exact PX_id hj
                    | (obtain ⟨g, h134, rfl⟩ := h134; rw [← gtX h134, ← lastX]; exact PX_id hj)
                · have c122 := cmp3_eq.mp c122
                  have en : mkS (aX w) p as = -9 := mk2n (by omega) (hz.mp (by omega))
                  refine gx_bipush (q := 127) hG d_X_mark_125 rfl rfl ?_
                  refine gx_goto (tgt := 137) hG d_X_mark_127 rfl ?_
                  refine gx_ireturn hG d_X_mark_137 rfl rfl ?_
                  refine ⟨_, rfl, _, rfl, ?_⟩
                  rw [mk_ok ⟨c8, by omega, by omega⟩ (by rw [e6]; exact c34), en]
                  first
                    | exact PX_id hj
                    | (obtain ⟨g, h134, rfl⟩ := h134; rw [← gtX h134, ← lastX]; exact PX_id hj)
              | 2, h9 =>
                cases h9
                have c62 : _ = (3 : Int) := c62
                refine ⟨138, rfl, ?_⟩
                refine gx_aload0 (q := 139) hG d_X_mark_138 rfl ?_
                refine gx_get (q := 142) hG f_X_76 hpX rfl d_X_mark_139 rfl ?_
                refine gx_aload0 (q := 143) hG d_X_mark_142 rfl ?_
                refine gx_get (q := 146) hG f_X_21 hpX rfl d_X_mark_143 rfl ?_
                refine gw_V1I (q := 149) hG l_X_177 c_So_load (ev_So_load hO hj) hpSo rfl (by decide) (Nat.le_of_ble_eq_true rfl) d_X_mark_146 rfl (by decide) (fun z146 w1 h146 => ?_)
                obtain ⟨rfl, s1, s2⟩ := h146
                refine gx_if_eq (tgt := 162) (q := 152) hG d_X_mark_149 rfl rfl (bi_R _) (fun c149 => ?_) (fun c149 => ?_)
                · have c149 := bi_eq0.mp c149
                  refine gx_bipush (q := 164) hG d_X_mark_162 rfl rfl ?_
                  refine gx_ireturn hG d_X_mark_164 rfl rfl ?_
                  refine ⟨_, rfl, _, rfl, ?_⟩
                  first
                    | (rw [mk_ok ⟨c8, by omega, by omega⟩ (by rw [e6]; exact c34), mk3n (by omega) c149]; exact ⟨rfl, s1⟩)
                    | (rw [mk_ok ⟨c8, by omega, by omega⟩ (by rw [e6]; exact c34), mk3 (by omega) c149]; exact ⟨rfl, s3⟩)
                · have c149 := bi_ne0.mp c149
                  obtain ⟨q1, q2⟩ := s2 c149
                  refine gx_aload0 (q := 153) hG d_X_mark_152 rfl ?_
                  refine gx_get (q := 156) hG f_X_76 hpX rfl d_X_mark_153 rfl ?_
                  refine gw_V0I (q := 159) hG l_X_181 c_So_winCount (ev_So_winCount q2 q1 (mkN_lt 28) gapm_0 (canS_b c149)) hpSo rfl (by omega) (Nat.le_of_ble_eq_true rfl) d_X_mark_156 rfl (by decide) (fun z156 w2 h156 => ?_)
                  obtain ⟨rfl, v2⟩ := h156
                  have s3 := s1.tr (SV_X s1.2.1 v2.1 v2.2.2)
                  refine gx_goto (tgt := 164) hG d_X_mark_159 rfl ?_
                  refine gx_ireturn hG d_X_mark_164 rfl rfl ?_
                  refine ⟨_, rfl, _, rfl, ?_⟩
                  first
                    | (rw [mk_ok ⟨c8, by omega, by omega⟩ (by rw [e6]; exact c34), mk3n (by omega) c149]; exact ⟨rfl, s1⟩)
                    | (rw [mk_ok ⟨c8, by omega, by omega⟩ (by rw [e6]; exact c34), mk3 (by omega) c149]; exact ⟨rfl, s3⟩)
              | 3, h9 =>
                cases h9
                have c62 : _ = (4 : Int) := c62
                refine ⟨165, rfl, ?_⟩
                refine gx_aload0 (q := 166) hG d_X_mark_165 rfl ?_
                refine gx_get (q := 169) hG f_X_21 hpX rfl d_X_mark_166 rfl ?_
                refine gw_V0X (q := 172) hG l_X_184 c_Gm_openCount (ev_Gm_openCount hg) (hpGame (by unfold isG; omega)) rfl (by decide) (Nat.le_of_ble_eq_true rfl) d_X_mark_169 rfl (by decide) ?_
                rw [leftX]
                refine gx_ireturn hG d_X_mark_172 rfl rfl ?_
                refine ⟨_, rfl, _, rfl, ?_⟩
                rw [mk_ok ⟨c8, by omega, by omega⟩ (by rw [e6]; exact c34), mkS4 (by omega)]; exact PX_id hj
              | i9 + 4, h9 => simp at h9
          · refine gx_aload0 (q := 49) hG d_X_mark_48 rfl ?_
            refine gx_get (q := 52) hG f_X_21 hpX rfl d_X_mark_49 rfl ?_
            refine gw_V0X (q := 55) hG l_X_159 c_Gm_isOver (ev_Gm_isOver hg) (hpGame (by unfold isG; omega)) rfl (by decide) (Nat.le_of_ble_eq_true rfl) d_X_mark_52 rfl (by decide) ?_
            refine gx_if_eq (tgt := 61) (q := 58) hG d_X_mark_55 rfl rfl (bi_R _) (fun c55 => ?_) (fun c55 => ?_)
            · have c55 := bi_eq0.mp c55
              refine gx_iload2 (q := 62) hG d_X_mark_61 rfl ?_
              refine gx_tsw (tgt := 173) hG d_X_mark_62 (by omega) (by decide) rfl (fun c62 => ?_) (fun i9 o9 h9 c62 => ?_)
              · refine gx_aload0 (q := 174) hG d_X_mark_173 rfl ?_
                refine gx_get (q := 177) hG f_X_21 hpX rfl d_X_mark_174 rfl ?_
                refine gw_V0X (q := 180) hG l_X_187 c_Gm_openAboveOne (ev_Gm_openAboveOne hG3 e1) (hpGame (by unfold isG; omega)) rfl (by decide) (Nat.le_of_ble_eq_true rfl) d_X_mark_177 rfl (by decide) ?_
                refine gw_S1X (q := 183) hG l_X_190 c_Lg_bitCount (ev_Lg_bitCount (Nat.lt_trans hm1 (by decide))) (by decide) (Nat.le_of_ble_eq_true rfl) d_X_mark_180 rfl (by decide) ?_
                rw [hm3]
                refine gx_ireturn hG d_X_mark_183 rfl rfl ?_
                refine ⟨_, rfl, _, rfl, ?_⟩
                rw [mk_ok ⟨c8, by omega, by omega⟩ (by rw [e6]; exact c34), mk5 (by omega)]; exact PX_id hj
              · match i9, h9 with
                | 0, h9 =>
                  cases h9
                  have c62 : _ = (1 : Int) := c62
                  refine ⟨92, rfl, ?_⟩
                  refine gx_aload0 (q := 93) hG d_X_mark_92 rfl ?_
                  refine gx_get (q := 96) hG f_X_21 hpX rfl d_X_mark_93 rfl ?_
                  refine gx_aload3 (q := 97) hG d_X_mark_96 rfl ?_
                  refine gx_aload0 (q := 98) hG d_X_mark_97 rfl ?_
                  refine gx_get (q := 101) hG f_X_21 hpX rfl d_X_mark_98 rfl ?_
                  refine gx_aload0 (q := 102) hG d_X_mark_101 rfl ?_
                  refine gx_get (q := 105) hG f_X_76 hpX rfl d_X_mark_102 rfl ?_
                  refine gx_iconst (q := 106) hG d_X_mark_105 rfl ?_
                  refine ch_call (q := 109) hG hkx hO hj (by decide) (by omega) (by decide) d_X_mark_106 rfl (by decide) (fun z106 w1 h106 => ?_)
                  obtain ⟨rfl, s1⟩ := h106
                  have hg1 : GI w1 3 := OK.gi (by rw [s1.1]; exact hO) s1.2.1
                  refine gw_V1X (q := 112) hG l_X_166 c_Gm_openBehind (ev_Gm_openBehind hg1 hsb) (hpGame (by unfold isG; omega)) rfl (by omega) (Nat.le_of_ble_eq_true rfl) d_X_mark_109 rfl (by decide) ?_
                  rw [lbX hg1.2.1.1, s1.1]
                  refine gx_ireturn hG d_X_mark_112 rfl rfl ?_
                  refine ⟨_, rfl, _, rfl, ?_⟩
                  first
                    | (exfalso; omega)
                    | (rw [mk_ok ⟨c8, by omega, by omega⟩ (by rw [e6]; exact c34), mk1 (by omega) (fun q => c55 (overX.mpr q)), e6]; exact ⟨rfl, s1⟩)
                | 1, h9 =>
                  cases h9
                  have c62 : _ = (2 : Int) := c62
                  refine ⟨113, rfl, ?_⟩
                  refine gx_aload0 (q := 114) hG d_X_mark_113 rfl ?_
                  refine gx_get (q := 117) hG f_X_21 hpX rfl d_X_mark_114 rfl ?_
                  refine gw_V0X (q := 120) hG l_X_169 c_Gm_open (ev_Gm_open hG3 e1) (hpGame (by unfold isG; omega)) rfl (by decide) (Nat.le_of_ble_eq_true rfl) d_X_mark_117 rfl (by decide) ?_
                  refine gx_lconst (q := 121) hG 0 d_X_mark_120 rfl rfl ?_
                  refine gx_lcmp (q := 122) hG d_X_mark_121 rfl (by omega) (by omega) ?_
                  refine gx_if_ne (tgt := 130) (q := 125) hG d_X_mark_122 rfl rfl (cmp3_R _ _) (fun c122 => ?_) (fun c122 => ?_)
                  · have c122 := cmp3_ne.mp c122
                    have en : mkS (aX w) p as = gtS (aX w) - lastS (aX w) := mk2 (by omega) (fun q => c122 (by rw [hz.mpr q]; rfl))
                    refine gx_aload0 (q := 131) hG d_X_mark_130 rfl ?_
                    refine gx_get (q := 134) hG f_X_21 hpX rfl d_X_mark_131 rfl ?_
                    refine gw_V0Y (q := 137) hG l_X_173 c_Gm_pairNumber (ev_Gm_pairNumber hg) (hpGame (by unfold isG; omega)) rfl (by decide) (Nat.le_of_ble_eq_true rfl) d_X_mark_134 rfl (by decide) (fun z134 h134 => ?_)
                    refine gx_ireturn hG d_X_mark_137 rfl rfl ?_
                    refine ⟨_, rfl, _, rfl, ?_⟩
                    rw [mk_ok ⟨c8, by omega, by omega⟩ (by rw [e6]; exact c34), en]
                    first
                      | exact PX_id hj
                      | (obtain ⟨g, h134, rfl⟩ := h134; rw [← gtX h134, ← lastX]; exact PX_id hj)
                  · have c122 := cmp3_eq.mp c122
                    have en : mkS (aX w) p as = -9 := mk2n (by omega) (hz.mp (by omega))
                    refine gx_bipush (q := 127) hG d_X_mark_125 rfl rfl ?_
                    refine gx_goto (tgt := 137) hG d_X_mark_127 rfl ?_
                    refine gx_ireturn hG d_X_mark_137 rfl rfl ?_
                    refine ⟨_, rfl, _, rfl, ?_⟩
                    rw [mk_ok ⟨c8, by omega, by omega⟩ (by rw [e6]; exact c34), en]
                    first
                      | exact PX_id hj
                      | (obtain ⟨g, h134, rfl⟩ := h134; rw [← gtX h134, ← lastX]; exact PX_id hj)
                | 2, h9 =>
                  cases h9
                  have c62 : _ = (3 : Int) := c62
                  refine ⟨138, rfl, ?_⟩
                  refine gx_aload0 (q := 139) hG d_X_mark_138 rfl ?_
                  refine gx_get (q := 142) hG f_X_76 hpX rfl d_X_mark_139 rfl ?_
                  refine gx_aload0 (q := 143) hG d_X_mark_142 rfl ?_
                  refine gx_get (q := 146) hG f_X_21 hpX rfl d_X_mark_143 rfl ?_
                  refine gw_V1I (q := 149) hG l_X_177 c_So_load (ev_So_load hO hj) hpSo rfl (by decide) (Nat.le_of_ble_eq_true rfl) d_X_mark_146 rfl (by decide) (fun z146 w1 h146 => ?_)
                  obtain ⟨rfl, s1, s2⟩ := h146
                  refine gx_if_eq (tgt := 162) (q := 152) hG d_X_mark_149 rfl rfl (bi_R _) (fun c149 => ?_) (fun c149 => ?_)
                  · have c149 := bi_eq0.mp c149
                    refine gx_bipush (q := 164) hG d_X_mark_162 rfl rfl ?_
                    refine gx_ireturn hG d_X_mark_164 rfl rfl ?_
                    refine ⟨_, rfl, _, rfl, ?_⟩
                    first
                      | (rw [mk_ok ⟨c8, by omega, by omega⟩ (by rw [e6]; exact c34), mk3n (by omega) c149]; exact ⟨rfl, s1⟩)
                      | (rw [mk_ok ⟨c8, by omega, by omega⟩ (by rw [e6]; exact c34), mk3 (by omega) c149]; exact ⟨rfl, s3⟩)
                  · have c149 := bi_ne0.mp c149
                    obtain ⟨q1, q2⟩ := s2 c149
                    refine gx_aload0 (q := 153) hG d_X_mark_152 rfl ?_
                    refine gx_get (q := 156) hG f_X_76 hpX rfl d_X_mark_153 rfl ?_
                    refine gw_V0I (q := 159) hG l_X_181 c_So_winCount (ev_So_winCount q2 q1 (mkN_lt 28) gapm_0 (canS_b c149)) hpSo rfl (by omega) (Nat.le_of_ble_eq_true rfl) d_X_mark_156 rfl (by decide) (fun z156 w2 h156 => ?_)
                    obtain ⟨rfl, v2⟩ := h156
                    have s3 := s1.tr (SV_X s1.2.1 v2.1 v2.2.2)
                    refine gx_goto (tgt := 164) hG d_X_mark_159 rfl ?_
                    refine gx_ireturn hG d_X_mark_164 rfl rfl ?_
                    refine ⟨_, rfl, _, rfl, ?_⟩
                    first
                      | (rw [mk_ok ⟨c8, by omega, by omega⟩ (by rw [e6]; exact c34), mk3n (by omega) c149]; exact ⟨rfl, s1⟩)
                      | (rw [mk_ok ⟨c8, by omega, by omega⟩ (by rw [e6]; exact c34), mk3 (by omega) c149]; exact ⟨rfl, s3⟩)
                | 3, h9 =>
                  cases h9
                  have c62 : _ = (4 : Int) := c62
                  refine ⟨165, rfl, ?_⟩
                  refine gx_aload0 (q := 166) hG d_X_mark_165 rfl ?_
                  refine gx_get (q := 169) hG f_X_21 hpX rfl d_X_mark_166 rfl ?_
                  refine gw_V0X (q := 172) hG l_X_184 c_Gm_openCount (ev_Gm_openCount hg) (hpGame (by unfold isG; omega)) rfl (by decide) (Nat.le_of_ble_eq_true rfl) d_X_mark_169 rfl (by decide) ?_
                  rw [leftX]
                  refine gx_ireturn hG d_X_mark_172 rfl rfl ?_
                  refine ⟨_, rfl, _, rfl, ?_⟩
                  rw [mk_ok ⟨c8, by omega, by omega⟩ (by rw [e6]; exact c34), mkS4 (by omega)]; exact PX_id hj
                | i9 + 4, h9 => simp at h9
            · have c55 := bi_ne0.mp c55
              refine gx_bipush (q := 60) hG d_X_mark_58 rfl rfl ?_
              refine gx_ireturn hG d_X_mark_60 rfl rfl ?_
              refine ⟨_, rfl, _, rfl, ?_⟩
              rw [mk_ok ⟨c8, by omega, by omega⟩ (by rw [e6]; exact c34), mk1o c45 (overX.mp c55)]; exact PX_id hj
        · have c34 := bi_eq0.mp c34
          refine gx_aload0 (q := 38) hG d_X_mark_37 rfl ?_
          refine gx_iconst (q := 39) hG d_X_mark_38 rfl ?_
          refine gw_V1I (q := 42) hG l_X_114 c_X_found (ev_X_found (by omega)) hpX rfl (by decide) (Nat.le_of_ble_eq_true rfl) d_X_mark_39 rfl (by decide) (fun z39 w1 h39 => ?_)
          refine gx_ireturn hG d_X_mark_42 rfl rfl ?_
          refine ⟨_, rfl, _, rfl, ?_⟩
          rw [mk_un ⟨c8, by omega, by omega⟩ (by rw [e6]; exact c34)]
          obtain ⟨rfl, rfl⟩ := h39
          exact PX_fd (by omega) hj
      · skip
        refine gx_iconst (q := 22) hG d_X_mark_21 rfl ?_
        refine gx_ireturn hG d_X_mark_22 rfl rfl ?_
        refine ⟨_, rfl, _, rfl, ?_⟩
        first
          | (rw [mk_bad (by omega)]; exact PX_id hj)
          | (rw [mk_bad (fun q => c8 q.1)]; exact PX_id hj)
theorem add_X {w w1 : Mem} {v : Int} (hO : OK (aX w)) (hj : XJ w) (h : GI w1 3 ∧ w1 3 1 = w 3 1 + 1 ∧ w1 3 2 = w 3 2 ∧ w1 (3 + 1) = up (w (3 + 1)) (w 3 1) v ∧ ∀ b, b ≠ 3 → b ≠ 3 + 1 → w1 b = w b) : aX w1 = sayS (aX w) v ∧ XJ w1 ∧ ∀ b, 76 ≤ b → w1 b = w b := by
  obtain ⟨g1, g2, g3, g4, g5⟩ := h
  have e1 : aX w 4 1 = w 3 1 := rfl
  refine ⟨?_, hj.game (fun b b3 b4 => g5 b b3 b4) g1, fun b hb => g5 b (by omega) (by omega)⟩
  rw [aX_sg (fun b b3 b4 => g5 b b3 b4), g2, g3]
  refine sg_cong (fun j j0 j1 => ?_)
  have g4' : w1 4 = up (w 4) (w 3 1) v := g4
  rw [g4']
  unfold up
  rw [e1]
  split
  · rfl
  · rw [aX_at5 (by omega)]
theorem ev_X_play {w : Mem} {many seed : Int} (hO : OK (aX w)) (hj : XJ w) (hm : R3 many) (hsd : R3 seed) : EvI y_X_play b_X_play 6 (some .int) (28) [Vr 0, Vi many, Vi seed] w (PX w (sp_play (aX w) many seed)) := by
  refine Ev.mk (isI := false) (by decide +kernel) nofun (Nat.le_of_ble_eq_true rfl) (fun G hG => ?_)
  show G 0 [some (Vr 0), some (Vi many), some (Vi seed), none, none, none] [] 102 (hp w)
  have hpc := hO.pc
  have e2 : aX w 4 2 = w 0 7 := rfl
  have L : ∀ (j : Nat) (w1 : Mem) (lot : Int) (o : Option Value), (0 ≤ many ∧ many ≤ 12) → sp_play (aX w) many seed = plF many.toNat (aX w) seed → OK (aX w1) → XJ w1 → (∀ b, 76 ≤ b → w1 b = w b) → w1 0 7 = 2 → (1 ≤ lot ∧ lot ≤ 2147483646) → (j : Int) ≤ many → one1 [o] 0 = true → (many - j) + (plF j (aX w1) lot).1 = (plF many.toNat (aX w) seed).1 → (plF j (aX w1) lot).2 = (plF many.toNat (aX w) seed).2 → G 42 [some (Vr 0), some (Vi many), some (Vi seed), some (Vi lot), some (Vi (many - (j : Int))), o] [] 102 (hp w1) := by
    intro j
    induction j with
    | zero =>
      intro w1 lot o hmm hsp hO1 hj1 hfr hpl hlot hjm g t1 t2
      have ez : plF 0 (aX w1) lot = (0, aX w1) := rfl
      rw [ez] at t1 t2
      refine gx_iload4 (q := 44) hG d_X_play_42 rfl ?_
      refine gx_iload1 (q := 45) hG d_X_play_44 rfl ?_
      refine gx_icmp_ge (tgt := 132) (q := 48) hG d_X_play_45 rfl rfl (by omega) (by omega) (fun c45 => ?_) (fun c45 => ?_)
      · refine gx_iload4 (q := 134) hG d_X_play_132 rfl ?_
        refine gx_ireturn hG d_X_play_134 rfl rfl ?_
        refine ⟨_, rfl, _, rfl, ?_⟩
        rw [hsp]
        exact ⟨by omega, t2, hj1, hfr⟩
      · exfalso; omega
    | succ j ih =>
      intro w1 lot o hmm hsp hO1 hj1 hfr hpl hlot hjm g t1 t2
      have hg := hO1.gi hj1
      have hs := hg.2.1
      have es1 : aX w1 4 1 = w1 3 1 := rfl
      have hkx := hO1.kx (p := w1 3 1 % 2) (by omega)
      have e6 : aX w1 6 (w1 3 1 % 2) = w1 14 (w1 3 1 % 2) := aX_at6 (w := w1) (p := w1 3 1 % 2) (by have : aX w1 4 2 = w1 0 7 := rfl; omega)
      have hlb := lotN_bd (kd := w1 14 (w1 3 1 % 2)) hlot
      have hsb := saysS_bd (s := aX w1) (kd := w1 14 (w1 3 1 % 2)) (lot := lotN (w1 14 (w1 3 1 % 2)) lot) hO1
      have fin : ∀ (_ : 12 ≤ w1 3 1 ∨ over w1 3), PX w (sp_play (aX w) many seed) (many - ((j + 1 : Nat) : Int)) w1 := fun q => by
        have e := plF_n (s := aX w1) (lot := lot) (j := j) (q.imp id overX.mp)
        rw [e] at t1 t2
        rw [hsp]
        exact ⟨by omega, t2, hj1, hfr⟩
      have nx : ∀ (w2 w3 : Mem), w1 3 1 < 12 → ¬ over w1 3 → SX w1 w2 → (GI w3 3 ∧ w3 3 1 = w2 3 1 + 1 ∧ w3 3 2 = w2 3 2 ∧ w3 (3 + 1) = up (w2 (3 + 1)) (w2 3 1) (saysS (aX w1) (w1 14 (w1 3 1 % 2)) (lotN (w1 14 (w1 3 1 % 2)) lot)) ∧ ∀ b, b ≠ 3 → b ≠ 3 + 1 → w3 b = w2 b) → G 42 [some (Vr 0), some (Vi many), some (Vi seed), some (Vi (lotN (w1 14 (w1 3 1 % 2)) lot)), some (Vi (many - ((j + 1 : Nat) : Int) + 1)), some (Vr (8 + w1 14 (w1 3 1 % 2)))] [] 102 (hp w3) := fun w2 w3 q1 q2 s1 h => by
        have hO2 : OK (aX w2) := by rw [s1.1]; exact hO1
        obtain ⟨a1, a2, a3⟩ := add_X hO2 s1.2.1 h
        rw [s1.1] at a1
        have e := plF_y (s := aX w1) (lot := lot) (j := j) q1 (fun q => q2 (overX.mpr q))
        rw [es1, e6, ← a1] at e
        rw [e] at t1 t2
        have o3 : OK (aX w3) := by rw [a1]; exact (OK.say hO1 hsb (fun q => q2 (overX.mpr q)) (by omega)).2
        have e7 : aX w3 4 2 = aX w1 4 2 := by rw [a1]; rfl
        have := ih w3 (lotN (w1 14 (w1 3 1 % 2)) lot) (some (Vr (8 + w1 14 (w1 3 1 % 2)))) hmm hsp o3 a2 (fun b hb => by rw [a3 b hb, s1.2.2 b hb, hfr b hb]) (show aX w3 4 2 = 2 by rw [e7]; exact hpl) hlb (by omega) rfl (by omega) t2
        rw [show many - ((j + 1 : Nat) : Int) + 1 = many - (j : Int) by omega]
        exact this
      refine gx_iload4 (q := 44) hG d_X_play_42 rfl ?_
      refine gx_iload1 (q := 45) hG d_X_play_44 rfl ?_
      refine gx_icmp_ge (tgt := 132) (q := 48) hG d_X_play_45 rfl rfl (by omega) (by omega) (fun c45 => ?_) (fun c45 => ?_)
      · exfalso; omega
      · refine gx_aload0 (q := 49) hG d_X_play_48 rfl ?_
        refine gx_get (q := 52) hG f_X_21 hpX rfl d_X_play_49 rfl ?_
        refine gx_get (q := 55) hG f_X_147 (hpGame (by unfold isG; omega)) rfl d_X_play_52 rfl ?_
        refine gx_bipush (q := 57) hG d_X_play_55 rfl rfl ?_
        refine gx_icmp_ge (tgt := 132) (q := 60) hG d_X_play_57 rfl rfl (by omega) (by omega) (fun c57 => ?_) (fun c57 => ?_)
        · skip
          refine gx_iload4 (q := 134) hG d_X_play_132 rfl ?_
          refine gx_ireturn hG d_X_play_134 rfl rfl ?_
          refine ⟨_, rfl, _, rfl, ?_⟩
          first
            | exact fin (Or.inl (by omega))
            | exact fin (Or.inr c67)
        · refine gx_aload0 (q := 61) hG d_X_play_60 rfl ?_
          refine gx_get (q := 64) hG f_X_21 hpX rfl d_X_play_61 rfl ?_
          refine gw_V0X (q := 67) hG l_X_159 c_Gm_isOver (ev_Gm_isOver hg) (hpGame (by unfold isG; omega)) rfl (by decide) (Nat.le_of_ble_eq_true rfl) d_X_play_64 rfl (by decide) ?_
          refine gx_if_ne (tgt := 132) (q := 70) hG d_X_play_67 rfl rfl (bi_R _) (fun c67 => ?_) (fun c67 => ?_)
          · have c67 := bi_ne0.mp c67
            refine gx_iload4 (q := 134) hG d_X_play_132 rfl ?_
            refine gx_ireturn hG d_X_play_134 rfl rfl ?_
            refine ⟨_, rfl, _, rfl, ?_⟩
            first
              | exact fin (Or.inl (by omega))
              | exact fin (Or.inr c67)
          · have c67 := bi_eq0.mp c67
            refine gx_aload0 (q := 71) hG d_X_play_70 rfl ?_
            refine gx_aload0 (q := 72) hG d_X_play_71 rfl ?_
            refine gx_get (q := 75) hG f_X_21 hpX rfl d_X_play_72 rfl ?_
            refine gx_get (q := 78) hG f_X_147 (hpGame (by unfold isG; omega)) rfl d_X_play_75 rfl ?_
            refine gx_iconst (q := 79) hG d_X_play_78 rfl ?_
            refine gx_irem (q := 80) hG d_X_play_79 rfl (by omega) (by omega) (by omega) (by omega) ?_
            refine gw_V1X (q := 83) hG l_X_151 c_X_playerAt (ev_X_playerAt (by omega) hkx) hpX rfl (by decide) (Nat.le_of_ble_eq_true rfl) d_X_play_80 rfl (by decide) ?_
            refine gx_astore5 (q := 85) hG d_X_play_83 rfl rfl ?_
            refine gx_aload5 (q := 87) hG d_X_play_85 rfl ?_
            refine inst_ch (q := 90) hG hkx d_X_play_87 rfl ?_
            refine gx_if_eq (tgt := 105) (q := 93) hG d_X_play_90 rfl rfl (bi_R _) (fun c90 => ?_) (fun c90 => ?_)
            · have el : lotN (w1 14 (w1 3 1 % 2)) lot = lot := if_neg (bi_eq0.mp c90)
              refine gx_aload0 (q := 106) hG d_X_play_105 rfl ?_
              refine gx_get (q := 109) hG f_X_21 hpX rfl d_X_play_106 rfl ?_
              refine gx_aload5 (q := 111) hG d_X_play_109 rfl ?_
              refine gx_aload0 (q := 112) hG d_X_play_111 rfl ?_
              refine gx_get (q := 115) hG f_X_21 hpX rfl d_X_play_112 rfl ?_
              refine gx_aload0 (q := 116) hG d_X_play_115 rfl ?_
              refine gx_get (q := 119) hG f_X_76 hpX rfl d_X_play_116 rfl ?_
              refine gx_iload3 (q := 120) hG d_X_play_119 rfl ?_
              refine ch_call (q := 123) hG hkx hO1 hj1 (by omega) (by omega) (by decide) d_X_play_120 rfl (by decide) (fun z120 w2 h120 => ?_)
              obtain ⟨rfl, s1⟩ := h120
              have hg2 : GI w2 3 := OK.gi (by rw [s1.1]; exact hO1) s1.2.1
              have e31 : w2 3 1 = w1 3 1 := congrFun (congrFun s1.1 4) 1
              refine gw_V1V (q := 126) hG l_X_200 c_Gm_add (ev_Gm_add hg2 (by omega) (by first | (rw [el] at hsb; exact hsb) | exact hsb)) (hpGame (by unfold isG; omega)) rfl (by decide) (Nat.le_of_ble_eq_true rfl) d_X_play_123 rfl (by decide) (fun w3 h123 => ?_)
              refine gx_iinc4 (q := 129) hG d_X_play_126 rfl rfl ?_
              refine gx_goto (tgt := 42) hG d_X_play_129 rfl ?_
              first
                | (rw [el] at nx; exact nx w2 w3 (by omega) c67 s1 h123)
                | exact nx w2 w3 (by omega) c67 s1 h123
            · have el : lotN (w1 14 (w1 3 1 % 2)) lot = 48271 * lot % 2147483647 := if_pos (bi_ne0.mp c90)
              refine gx_iload3 (q := 94) hG d_X_play_93 rfl ?_
              refine gx_i2l (q := 95) hG d_X_play_94 rfl (by omega) ?_
              refine gx_ldc2 (q := 98) hG (48271) k_X_273 d_X_play_95 rfl rfl ?_
              refine gx_lmul (q := 99) hG d_X_play_98 rfl ?_
              rw [Int.mul_comm]
              refine gx_ldc2 (q := 102) hG (2147483647) k_X_271 d_X_play_99 rfl rfl ?_
              refine gx_lrem (q := 103) hG d_X_play_102 rfl (by omega) (by omega) (by omega) (by omega) ?_
              refine gx_l2i (q := 104) hG d_X_play_103 rfl ?_
              refine gx_istore3 (q := 105) hG d_X_play_104 rfl rfl ?_
              rw [← el]
              refine gx_aload0 (q := 106) hG d_X_play_105 rfl ?_
              refine gx_get (q := 109) hG f_X_21 hpX rfl d_X_play_106 rfl ?_
              refine gx_aload5 (q := 111) hG d_X_play_109 rfl ?_
              refine gx_aload0 (q := 112) hG d_X_play_111 rfl ?_
              refine gx_get (q := 115) hG f_X_21 hpX rfl d_X_play_112 rfl ?_
              refine gx_aload0 (q := 116) hG d_X_play_115 rfl ?_
              refine gx_get (q := 119) hG f_X_76 hpX rfl d_X_play_116 rfl ?_
              refine gx_iload3 (q := 120) hG d_X_play_119 rfl ?_
              refine ch_call (q := 123) hG hkx hO1 hj1 (by omega) (by omega) (by decide) d_X_play_120 rfl (by decide) (fun z120 w2 h120 => ?_)
              obtain ⟨rfl, s1⟩ := h120
              have hg2 : GI w2 3 := OK.gi (by rw [s1.1]; exact hO1) s1.2.1
              have e31 : w2 3 1 = w1 3 1 := congrFun (congrFun s1.1 4) 1
              refine gw_V1V (q := 126) hG l_X_200 c_Gm_add (ev_Gm_add hg2 (by omega) (by first | (rw [el] at hsb; exact hsb) | exact hsb)) (hpGame (by unfold isG; omega)) rfl (by decide) (Nat.le_of_ble_eq_true rfl) d_X_play_123 rfl (by decide) (fun w3 h123 => ?_)
              refine gx_iinc4 (q := 129) hG d_X_play_126 rfl rfl ?_
              refine gx_goto (tgt := 42) hG d_X_play_129 rfl ?_
              first
                | (rw [el] at nx; exact nx w2 w3 (by omega) c67 s1 h123)
                | exact nx w2 w3 (by omega) c67 s1 h123
  refine gx_iload1 (q := 1) hG d_X_play_0 rfl ?_
  refine gx_if_lt (tgt := 24) (q := 4) hG d_X_play_1 rfl rfl (by omega) (fun c1 => ?_) (fun c1 => ?_)
  · skip
    refine gx_iconst (q := 25) hG d_X_play_24 rfl ?_
    refine gx_ireturn hG d_X_play_25 rfl rfl ?_
    refine ⟨_, rfl, _, rfl, ?_⟩
    unfold sp_play; rw [if_pos (by omega)]; exact PX_id hj
  · refine gx_iload1 (q := 5) hG d_X_play_4 rfl ?_
    refine gx_bipush (q := 7) hG d_X_play_5 rfl rfl ?_
    refine gx_icmp_gt (tgt := 24) (q := 10) hG d_X_play_7 rfl rfl (by omega) (by omega) (fun c7 => ?_) (fun c7 => ?_)
    · refine gx_iconst (q := 25) hG d_X_play_24 rfl ?_
      refine gx_ireturn hG d_X_play_25 rfl rfl ?_
      refine ⟨_, rfl, _, rfl, ?_⟩
      unfold sp_play; rw [if_pos (by omega)]; exact PX_id hj
    · refine gx_iload2 (q := 11) hG d_X_play_10 rfl ?_
      refine gx_iconst (q := 12) hG d_X_play_11 rfl ?_
      refine gx_icmp_lt (tgt := 24) (q := 15) hG d_X_play_12 rfl rfl (by omega) (by omega) (fun c12 => ?_) (fun c12 => ?_)
      · refine gx_iconst (q := 25) hG d_X_play_24 rfl ?_
        refine gx_ireturn hG d_X_play_25 rfl rfl ?_
        refine ⟨_, rfl, _, rfl, ?_⟩
        unfold sp_play; rw [if_pos (by omega)]; exact PX_id hj
      · refine gx_iload2 (q := 16) hG d_X_play_15 rfl ?_
        refine gx_i2l (q := 17) hG d_X_play_16 rfl (by omega) ?_
        refine gx_ldc2 (q := 20) hG (2147483647) k_X_271 d_X_play_17 rfl rfl ?_
        refine gx_lcmp (q := 21) hG d_X_play_20 rfl (by omega) (by omega) ?_
        refine gx_if_lt (tgt := 26) (q := 24) hG d_X_play_21 rfl rfl (cmp3_R _ _) (fun c21 => ?_) (fun c21 => ?_)
        · have c21 := cmp3_lt.mp c21
          refine gx_aload0 (q := 27) hG d_X_play_26 rfl ?_
          refine gx_get (q := 30) hG f_X_145 hpX rfl d_X_play_27 rfl ?_
          refine gx_iconst (q := 31) hG d_X_play_30 rfl ?_
          refine gx_icmp_ge (tgt := 37) (q := 34) hG d_X_play_31 rfl rfl (by omega) (by omega) (fun c31 => ?_) (fun c31 => ?_)
          · refine gx_iload2 (q := 38) hG d_X_play_37 rfl ?_
            refine gx_istore3 (q := 39) hG d_X_play_38 rfl rfl ?_
            refine gx_iconst (q := 40) hG d_X_play_39 rfl ?_
            refine gx_istore4 (q := 42) hG d_X_play_40 rfl rfl ?_
            have hsp : sp_play (aX w) many seed = plF many.toNat (aX w) seed := by unfold sp_play; rw [if_neg (by omega), if_neg (by omega)]
            have e := L many.toNat w seed none (by omega) hsp hO hj (fun _ _ => rfl) (by omega) (by omega) (by omega) rfl (by omega) rfl
            rw [show many - (many.toNat : Int) = 0 by omega] at e
            exact e
          · refine gx_bipush (q := 36) hG d_X_play_34 rfl rfl ?_
            refine gx_ireturn hG d_X_play_36 rfl rfl ?_
            refine ⟨_, rfl, _, rfl, ?_⟩
            unfold sp_play; rw [if_neg (by omega), if_pos (by omega)]; exact PX_id hj
        · have c21 := cmp3_ge.mp c21
          refine gx_iconst (q := 25) hG d_X_play_24 rfl ?_
          refine gx_ireturn hG d_X_play_25 rfl rfl ?_
          refine ⟨_, rfl, _, rfl, ?_⟩
          unfold sp_play; rw [if_pos (by omega)]; exact PX_id hj

