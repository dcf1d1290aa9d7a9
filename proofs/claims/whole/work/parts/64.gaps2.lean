/-! part 64: gaps, the class's calls -/
def endS (s : Sta) : Prop := s 4 0 = 2 ∨ comS s ≠ 1
noncomputable def grS (s : Sta) : Int := grN (hadS s) 4000
noncomputable def gcS (s : Sta) : Int := cn (fun v => ¬ hadS s v) 4000
noncomputable def sp_greatest (s : Sta) : Int × Sta := if bi (endS s) = 1 then fdS s 4 else (grS s, ss s 4 3 (gcS s))
noncomputable def sp_from (s : Sta) : Int × Sta := (if bi (endS s) = 1 then -9 else grS s + 1, s)
/-- the first sixty of 1 .. k of which P holds, rising -/
noncomputable def flF (P : Int → Prop) : Nat → Int → Int
  | 0 => fun _ => 0
  | k + 1 => if bi (P ((k + 1 : Nat) : Int)) = 1 ∧ cn P k < 60 then up (flF P k) (cn P k) ((k + 1 : Nat) : Int) else flF P k
noncomputable def flS (s : Sta) (r : Int) (P : Int → Prop) (N : Nat) : Sta := ss (sr s 1 r (flF P N)) 0 r (min (cn P N) 60)
theorem fl_stop {P : Int → Prop} {k : Nat} : ∀ d : Nat, (60 ≤ cn P k ∨ ∀ u : Int, k < u → u ≤ (k + d : Nat) → ¬ P u) → flF P (k + d) = flF P k ∧ min (cn P (k + d)) 60 = min (cn P k) 60 ∧ (60 ≤ cn P k → 60 ≤ cn P (k + d))
  | 0, _ => ⟨rfl, rfl, fun q => q⟩
  | d + 1, h => by
    obtain ⟨a, b, c⟩ := fl_stop (P := P) (k := k) d (h.elim Or.inl (fun q => Or.inr (fun u u0 u1 => q u u0 (by omega))))
    have e1 : cn P (k + (d + 1)) = cn P (k + d) + bi (P ((k + d + 1 : Nat) : Int)) := rfl
    have e2 : flF P (k + (d + 1)) = if bi (P ((k + d + 1 : Nat) : Int)) = 1 ∧ cn P (k + d) < 60 then up (flF P (k + d)) (cn P (k + d)) ((k + d + 1 : Nat) : Int) else flF P (k + d) := rfl
    have hb := bi_01 (P ((k + d + 1 : Nat) : Int))
    rcases h with h | h
    · have := c h
      rw [e1, e2, if_neg (by omega), a]
      exact ⟨rfl, by omega, fun _ => by omega⟩
    · have hb0 := bi_f (h ((k + d + 1 : Nat) : Int) (by omega) (by omega))
      rw [e1, e2, hb0, if_neg (by omega), a]
      exact ⟨rfl, by omega, fun q => by have := c q; omega⟩
theorem fl_congr {P Q : Int → Prop} : ∀ k : Nat, (∀ v : Int, 1 ≤ v → v ≤ k → (P v ↔ Q v)) → flF P k = flF Q k
  | 0, _ => rfl
  | k + 1, h => by
    unfold flF
    rw [fl_congr k (fun v v0 v1 => h v v0 (by omega)), cn_congr k (fun v v0 v1 => h v v0 (by omega)), bi_congr (h _ (by omega) (by omega))]
noncomputable def sp_gaps (s : Sta) (r : Int) : Int × Sta := if ¬ (0 ≤ r ∧ r < 6) then (-1, s) else if bi (endS s) = 1 then fdS s 4 else (gcS s, flS s r (fun v => ¬ hadS s v) 4000)
/-- the least of 1 .. 4000 of which P holds, -9 if there is none -/
def LeastN (P : Int → Prop) (z : Int) : Prop := (1 ≤ z ∧ z ≤ 4000 ∧ P z ∧ ∀ u, 1 ≤ u → u < z → ¬ P u) ∨ (z = -9 ∧ ∀ u, 1 ≤ u → u ≤ 4000 → ¬ P u)
noncomputable def leastZ (P : Int → Prop) : Int := Classical.epsilon (LeastN P)
theorem leastZ_eq {P : Int → Prop} {z : Int} (h : LeastN P z) : leastZ P = z := by
  have h2 : LeastN P (leastZ P) := Classical.epsilon_spec (p := LeastN P) ⟨z, h⟩
  rcases h with ⟨a1, a2, a3, a4⟩ | ⟨a1, a2⟩
  · rcases h2 with ⟨b1, b2, b3, b4⟩ | ⟨b1, b2⟩
    · rcases Int.lt_trichotomy (leastZ P) z with c | c | c
      · exact absurd b3 (a4 _ b1 c)
      · exact c
      · exact absurd a3 (b4 _ a1 c)
    · exact absurd a3 (b2 z a1 a2)
  · rcases h2 with ⟨b1, b2, b3, b4⟩ | ⟨b1, b2⟩
    · exact absurd b3 (a2 _ b1 b2)
    · omega
noncomputable def sp_rest (s : Sta) (m i : Int) : Int × Sta := if ¬ (2 ≤ m ∧ m ≤ 60 ∧ 0 ≤ i ∧ i < m) then (-1, s) else if s 4 0 ≠ 0 then (-4, s) else (leastZ (fun v => v % m = i ∧ hadS s v), s)
def wishP (s : Sta) (v n : Int) : Prop := 2 ≤ n ∧ ¬ hadS s n ∧ gN (up (s 5) (s 4 1) n) ((s 4 1).toNat + 1) = 1 ∧ ∀ u, v ≤ u → u ≤ 4000 → rch 0 (up (s 5) (s 4 1) n) ((s 4 1).toNat + 1) u
noncomputable def fsN (P : Int → Prop) : Nat → Int
  | 0 => -9
  | k + 1 => if bi (P ((k + 1 : Nat) : Int)) = 1 ∧ cn P k = 0 then ((k + 1 : Nat) : Int) else fsN P k
theorem fsN_spec {P : Int → Prop} : ∀ k : Nat, (cn P k = 0 ∧ fsN P k = -9) ∨ (1 ≤ cn P k ∧ 1 ≤ fsN P k ∧ fsN P k ≤ k)
  | 0 => Or.inl ⟨rfl, rfl⟩
  | k + 1 => by
    have h := fsN_spec (P := P) k
    have hb := bi_01 (P ((k + 1 : Nat) : Int))
    unfold cn fsN
    split <;> omega
noncomputable def sp_wish (s : Sta) (v : Int) : Int × Sta := if ¬ (1 ≤ v ∧ v ≤ 4000) then (-1, s) else if s 4 0 ≠ 0 ∨ (bi (endS s) = 0 ∧ grS s < v) then (-4, s) else (fsN (wishP s v) 60, if 0 < cn (wishP s v) 60 then ss s 4 3 (cn (wishP s v) 60) else s)
theorem aX_row {w W : Mem} {r n : Int} {F : Int → Int} (hr : 0 ≤ r ∧ r < 6) (h : ∀ b, b ≠ 50 + 2 * r → b ≠ 51 + 2 * r → W b = w b) (hF : ∀ i, 0 ≤ i → i < 60 → W (51 + 2 * r) i = F i) (hn : W (50 + 2 * r) 1 = n) : aX W = ss (sr (aX w) 1 r F) 0 r n := by
  funext c i
  match c with
  | 0 =>
    show (if 0 ≤ i ∧ i < 6 then W (50 + 2 * i) 1 else 0) = if (0 : Nat) = 0 ∧ i = r then n else (if (0 : Nat) = 1 ∧ _ then _ else (if 0 ≤ i ∧ i < 6 then w (50 + 2 * i) 1 else 0))
    by_cases e : i = r
    · rw [if_pos (c := (0 : Nat) = 0 ∧ i = r) ⟨rfl, e⟩, e, if_pos hr, hn]
    · rw [if_neg (c := (0 : Nat) = 0 ∧ i = r) (fun q => e q.2), if_neg (c := (0 : Nat) = 1 ∧ _) (fun q => absurd q.1 (by decide))]
      split
      · rw [h _ (by omega) (by omega)]
      · rfl
  | 1 =>
    show (if 0 ≤ i ∧ i < 360 then W (51 + 2 * (i / 60)) (i % 60) else 0) = if (1 : Nat) = 0 ∧ i = r then n else (if (1 : Nat) = 1 ∧ 60 * r ≤ i ∧ i < 60 * r + 60 then F (i - 60 * r) else (if 0 ≤ i ∧ i < 360 then w (51 + 2 * (i / 60)) (i % 60) else 0))
    rw [if_neg (c := (1 : Nat) = 0 ∧ i = r) (fun q => absurd q.1 (by decide))]
    by_cases e : 60 * r ≤ i ∧ i < 60 * r + 60
    · rw [if_pos (c := (1 : Nat) = 1 ∧ _) ⟨rfl, e⟩, if_pos (by omega), show i / 60 = r by omega, show i % 60 = i - 60 * r by omega]
      exact hF _ (by omega) (by omega)
    · rw [if_neg (c := (1 : Nat) = 1 ∧ _) (fun q => e q.2)]
      split
      · rw [h _ (by omega) (by omega)]
      · rfl
  | 2 => show aX W 2 i = aX w 2 i; rw [aXc2 (fun r r0 r1 => by rw [h _ (by omega) (by omega)])]
  | 3 => show aX W 3 i = aX w 3 i; rw [aXc3 (fun r i r0 r1 i0 i1 => by rw [h _ (by omega) (by omega)])]
  | 4 => show aX W 4 i = aX w 4 i; rw [aXc4 (by rw [h 3 (by omega) (by omega), h 0 (by omega) (by omega)]; exact ⟨rfl, rfl, rfl, rfl, rfl, rfl, rfl⟩)]
  | 5 => show aX W 5 i = aX w 5 i; rw [aXc5 (by rw [h 3 (by omega) (by omega)]) (fun i i0 i1 => by rw [h 4 (by omega) (by omega)])]
  | 6 => show aX W 6 i = aX w 6 i; rw [aXc6 (by rw [h 0 (by omega) (by omega)]) (fun i i0 i1 => by rw [h 14 (by omega) (by omega)])]
  | 7 => show aX W 7 i = aX w 7 i; rw [aXc7 (fun i i0 i1 => by rw [h 49 (by omega) (by omega)])]
  | 8 => show aX W 8 i = aX w 8 i; rw [aXc8 (fun k k0 k1 => ⟨by rw [h 6 (by omega) (by omega)], fun _ => by rw [h _ (by omega) (by omega)]⟩)]
  | 9 => show aX W 9 i = aX w 9 i; rw [aXc9 (fun k k0 k1 => ⟨by rw [h 6 (by omega) (by omega)], fun _ => by rw [h _ (by omega) (by omega)]⟩)]
  | 10 => show aX W 10 i = aX w 10 i; rw [aXc10 (fun k k0 k1 => ⟨by rw [h 6 (by omega) (by omega)], fun _ => ⟨by rw [h _ (by omega) (by omega)], fun j j0 j1 => by rw [h _ (by omega) (by omega)]⟩⟩)]
  | c + 11 => rfl
/-- what loading gives -/
theorem load_facts {w w1 : Mem} (hO : OK (aX w)) (hj : XJ w) (h : ∀ b, b ≠ 19 → b ≠ 20 → w1 b = w b) (hL : LD (w 3 2) (w 4) (w 3 1).toNat (w1 19 2) (w1 20)) : SX w w1 ∧ (0 ≤ w1 19 2 ∧ w1 19 2 ≤ 60) ∧ TB (w1 19 2) (w1 20) ∧ (1048576 ≤ gofT (w1 20) (w1 19 2) ↔ endS (aX w)) ∧ (¬ endS (aX w) → gofT (w1 20) (w1 19 2) = grS (aX w) ∧ scT (w1 20) (w1 19 2) (w1 19 2).toNat = gcS (aX w)) ∧ ∀ v, 1 ≤ v → v ≤ 4000 → w 3 2 ≠ 2 → (hadS (aX w) v ↔ (1 ≤ w1 19 2 ∧ w1 20 (v % w1 19 2) ≤ v)) := by
  have hg := hO.gi hj
  have hs := hg.2.1
  have hn : ∀ i : Int, 0 ≤ i → i < ((w 3 1).toNat : Int) → 1 ≤ w 4 i ∧ w 4 i ≤ 60 := fun i i0 i1 => hg.2.2.2.1 i i0 (by omega)
  have ec : comS (aX w) = (gN (w 4) (w 3 1).toNat : Nat) := by
    show ((gN (aX w 5) (w 3 1).toNat : Nat) : Int) = _
    rw [← gN_congr (num := w 4) (num' := aX w 5) (w 3 1).toNat numX]
  have he : 1048576 ≤ gofT (w1 20) (w1 19 2) ↔ endS (aX w) := by
    rw [LD_end hg.2.2.1 hn hL]
    unfold endS
    rw [ec]
    constructor
    · rintro (q | q)
      · exact Or.inl q
      · exact Or.inr (by omega)
    · rintro (q | q)
      · exact Or.inl q
      · exact Or.inr (by omega)
  refine ⟨SX_scr hj (fun b hb => h b (by omega) (by omega)), hL.1, LD_TB hL, he, fun q => ?_, fun v v0 v1 hl => ?_⟩
  · have hlt : gofT (w1 20) (w1 19 2) < 1048576 := by
      rcases Int.lt_or_le (gofT (w1 20) (w1 19 2)) 1048576 with c | c
      · exact c
      · exact absurd (he.mp c) q
    obtain ⟨a1, a2, a3⟩ := LD_gap hL hlt
    refine ⟨?_, ?_⟩
    · refine (grN_eq (P := hadS (aX w)) ?_ 4000 (by omega) (fun v v0 v1 => hadX.mp (a3 v v0))).symm
      rcases a2 with a2 | a2
      · exact Or.inl a2
      · exact Or.inr ⟨a2.1, fun z => a2.2 (hadX.mpr z)⟩
    · rw [LD_cnt hL hlt]
      exact cn_congr 4000 (fun v _ _ => not_congr hadX)
  · rw [← LD_had hL hl ⟨v0, v1⟩]
    exact hadX.symm
theorem ev_X_greatest {w : Mem} (hO : OK (aX w)) (hj : XJ w) : EvI y_X_greatest b_X_greatest 1 (some .int) (4) [Vr 0] w (PX w (sp_greatest (aX w))) := by
  refine Ev.mk (isI := false) (by decide +kernel) nofun (Nat.le_of_ble_eq_true rfl) (fun G hG => ?_)
  show G 0 [some (Vr 0)] [] 102 (hp w)
  have hg := hO.gi hj
  refine gx_aload0 (q := 1) hG d_X_greatest_0 rfl ?_
  refine gx_get (q := 4) hG f_X_69 hpX rfl d_X_greatest_1 rfl ?_
  refine gx_aload0 (q := 5) hG d_X_greatest_4 rfl ?_
  refine gx_get (q := 8) hG f_X_21 hpX rfl d_X_greatest_5 rfl ?_
  refine gw_V1V (q := 11) hG l_X_233 c_Su_load (ev_Su_load hg) hpSu rfl (by decide) (Nat.le_of_ble_eq_true rfl) d_X_greatest_8 rfl (by decide) (fun w1 h8 => ?_)
  obtain ⟨a1, a2, a3, a4⟩ := h8
  obtain ⟨hs, b2, b3, b4, b5, b6⟩ := load_facts hO hj a1 a2
  refine gx_aload0 (q := 12) hG d_X_greatest_11 rfl ?_
  refine gx_get (q := 15) hG f_X_69 hpX rfl d_X_greatest_12 rfl ?_
  refine gw_V0X (q := 18) hG l_X_235 c_Su_isEndless (ev_Su_isEndless b2 b3) hpSu rfl (by decide) (Nat.le_of_ble_eq_true rfl) d_X_greatest_15 rfl (by decide) ?_
  refine gx_if_eq (tgt := 27) (q := 21) hG d_X_greatest_18 rfl rfl (bi_R _) (fun c18 => ?_) (fun c18 => ?_)
  · have c18 := bi_eq0.mp c18
    have c18 := fun q => c18 (b4.mpr q)
    have b5 := b5 c18
    refine gx_aload0 (q := 28) hG d_X_greatest_27 rfl ?_
    refine gx_aload0 (q := 29) hG d_X_greatest_28 rfl ?_
    refine gx_get (q := 32) hG f_X_69 hpX rfl d_X_greatest_29 rfl ?_
    refine gw_V0X (q := 35) hG l_X_248 c_Su_gapCount (ev_Su_gapCount b2 b3) hpSu rfl (by decide) (Nat.le_of_ble_eq_true rfl) d_X_greatest_32 rfl (by decide) ?_
    refine gw_puti (q := 38) hG f_X_99 hpX (Nat.le_of_ble_eq_true rfl) vfit_i (Or.inl rfl) d_X_greatest_35 rfl 11 rfl rfl ?_
    rw [b5.2]
    refine gx_aload0 (q := 39) hG d_X_greatest_38 rfl ?_
    refine gx_get (q := 42) hG f_X_69 hpX rfl d_X_greatest_39 rfl ?_
    refine gw_V0X (q := 45) hG l_X_241 c_Su_greatestGap (ev_Su_greatestGap (by rw [wu_ne (by omega)]; exact b2) (by rw [wu_ne (by omega), wu_ne (by omega)]; exact b3)) hpSu rfl (by decide) (Nat.le_of_ble_eq_true rfl) d_X_greatest_42 rfl (by decide) ?_
    rw [wu_ne (show (20 : Int) ≠ 0 by omega), wu_ne (show (19 : Int) ≠ 0 by omega), b5.1]
    refine gx_ireturn hG d_X_greatest_45 rfl rfl ?_
    refine ⟨_, rfl, _, rfl, ?_⟩
    unfold sp_greatest; rw [if_neg (fun q => c18 (bi_eq1.mp q))]
    refine PX_tr hs ?_
    rw [← hs.1]
    exact PX_aside hs.2.1
  · have c18 := bi_ne0.mp c18
    refine gx_aload0 (q := 22) hG d_X_greatest_21 rfl ?_
    refine gx_iconst (q := 23) hG d_X_greatest_22 rfl ?_
    refine gw_V1I (q := 26) hG l_X_114 c_X_found (ev_X_found (by omega)) hpX rfl (by decide) (Nat.le_of_ble_eq_true rfl) d_X_greatest_23 rfl (by decide) (fun z23 w h23 => ?_)
    refine gx_ireturn hG d_X_greatest_26 rfl rfl ?_
    refine ⟨_, rfl, _, rfl, ?_⟩
    unfold sp_greatest; rw [if_pos (bi_t (b4.mp c18))]
    obtain ⟨rfl, rfl⟩ := h23
    rw [← hs.1]; exact PX_tr hs (PX_fd (by omega) hs.2.1)
theorem ev_X_from {w : Mem} (hO : OK (aX w)) (hj : XJ w) : EvI y_X_from b_X_from 1 (some .int) (4) [Vr 0] w (PX w (sp_from (aX w))) := by
  refine Ev.mk (isI := false) (by decide +kernel) nofun (Nat.le_of_ble_eq_true rfl) (fun G hG => ?_)
  show G 0 [some (Vr 0)] [] 102 (hp w)
  have hg := hO.gi hj
  refine gx_aload0 (q := 1) hG d_X_from_0 rfl ?_
  refine gx_get (q := 4) hG f_X_69 hpX rfl d_X_from_1 rfl ?_
  refine gx_aload0 (q := 5) hG d_X_from_4 rfl ?_
  refine gx_get (q := 8) hG f_X_21 hpX rfl d_X_from_5 rfl ?_
  refine gw_V1V (q := 11) hG l_X_233 c_Su_load (ev_Su_load hg) hpSu rfl (by decide) (Nat.le_of_ble_eq_true rfl) d_X_from_8 rfl (by decide) (fun w1 h8 => ?_)
  obtain ⟨a1, a2, a3, a4⟩ := h8
  obtain ⟨hs, b2, b3, b4, b5, b6⟩ := load_facts hO hj a1 a2
  refine gx_aload0 (q := 12) hG d_X_from_11 rfl ?_
  refine gx_get (q := 15) hG f_X_69 hpX rfl d_X_from_12 rfl ?_
  refine gw_V0X (q := 18) hG l_X_235 c_Su_isEndless (ev_Su_isEndless b2 b3) hpSu rfl (by decide) (Nat.le_of_ble_eq_true rfl) d_X_from_15 rfl (by decide) ?_
  refine gx_if_eq (tgt := 26) (q := 21) hG d_X_from_18 rfl rfl (bi_R _) (fun c18 => ?_) (fun c18 => ?_)
  · have c18 := bi_eq0.mp c18
    refine gx_aload0 (q := 27) hG d_X_from_26 rfl ?_
    refine gx_get (q := 30) hG f_X_69 hpX rfl d_X_from_27 rfl ?_
    refine gw_V0X (q := 33) hG l_X_241 c_Su_greatestGap (ev_Su_greatestGap b2 b3) hpSu rfl (by decide) (Nat.le_of_ble_eq_true rfl) d_X_from_30 rfl (by decide) ?_
    refine gx_iconst (q := 34) hG d_X_from_33 rfl ?_
    refine gx_iadd (q := 35) hG d_X_from_34 rfl ?_
    refine gx_ireturn hG d_X_from_35 rfl rfl ?_
    refine ⟨_, rfl, _, rfl, ?_⟩
    unfold sp_from
    first
      | (rw [if_pos (bi_t (b4.mp c18))]; exact ⟨rfl, hs⟩)
      | (rw [if_neg (fun q => c18 (b4.mpr (bi_eq1.mp q))), (b5 (fun q => c18 (b4.mpr q))).1]; exact ⟨rfl, hs⟩)
  · have c18 := bi_ne0.mp c18
    refine gx_bipush (q := 23) hG d_X_from_21 rfl rfl ?_
    refine gx_goto (tgt := 35) hG d_X_from_23 rfl ?_
    refine gx_ireturn hG d_X_from_35 rfl rfl ?_
    refine ⟨_, rfl, _, rfl, ?_⟩
    unfold sp_from
    first
      | (rw [if_pos (bi_t (b4.mp c18))]; exact ⟨rfl, hs⟩)
      | (rw [if_neg (fun q => c18 (b4.mpr (bi_eq1.mp q))), (b5 (fun q => c18 (b4.mpr q))).1]; exact ⟨rfl, hs⟩)
theorem aX_fl {w w1 W : Mem} {r : Int} {P : Int → Prop} {k : Nat} (hr : 0 ≤ r ∧ r < 6) (hs : SX w w1) (hk : k ≤ 4000) (h : 60 ≤ cn P k ∨ ∀ u : Int, k < u → u ≤ 4000 → ¬ P u) (f1 : ∀ b, b ≠ 50 + 2 * r → b ≠ 51 + 2 * r → W b = w1 b) (f2 : ∀ i, 0 ≤ i → i < 60 → W (51 + 2 * r) i = flF P k i) (f3 : W (50 + 2 * r) 1 = min (cn P k) 60) : aX W = flS (aX w) r P 4000 ∧ XJ W ∧ ∀ b, 76 ≤ b → W b = w b := by
  obtain ⟨d, hd⟩ : ∃ d, 4000 = k + d := ⟨4000 - k, by omega⟩
  have st := fl_stop (P := P) (k := k) d (h.imp id (fun q u u0 u1 => q u u0 (by omega)))
  rw [← hd] at st
  refine ⟨?_, hs.2.1.ext (fun b hb => f1 b (by omega) (by omega)), fun b hb => by rw [f1 b (by omega) (by omega), hs.2.2 b hb]⟩
  rw [aX_row hr f1 f2 f3, hs.1]
  unfold flS
  rw [st.1, st.2.1]
theorem ev_X_gaps {w : Mem} {r : Int} (hO : OK (aX w)) (hj : XJ w) (hr : R3 r) : EvI y_X_gaps b_X_gaps 3 (some .int) (4) [Vr 0, Vi r] w (PX w (sp_gaps (aX w) r)) := by
  refine Ev.mk (isI := false) (by decide +kernel) nofun (Nat.le_of_ble_eq_true rfl) (fun G hG => ?_)
  show G 0 [some (Vr 0), some (Vi r), none] [] 102 (hp w)
  have hg := hO.gi hj
  have E : ∀ (k : Nat) (w1 W : Mem), k ≤ 4000 → (0 ≤ r ∧ r < 6) → SX w w1 → (0 ≤ w1 19 2 ∧ w1 19 2 ≤ 60) → TB (w1 19 2) (w1 20) → ¬ endS (aX w) → scT (w1 20) (w1 19 2) (w1 19 2).toNat = gcS (aX w) → (60 ≤ cn (fun v => ¬ hadS (aX w) v) k ∨ ∀ u : Int, k < u → u ≤ 4000 → ¬ ¬ hadS (aX w) u) → (∀ b, b ≠ 50 + 2 * r → b ≠ 51 + 2 * r → W b = w1 b) → (∀ i, 0 ≤ i → i < 60 → W (51 + 2 * r) i = flF (fun v => ¬ hadS (aX w) v) k i) → W (50 + 2 * r) 1 = min (cn (fun v => ¬ hadS (aX w) v) k) 60 → G 103 [some (Vr 0), some (Vi r), some (Vi ((k : Int) + 1))] [] 102 (hp W) := by
    intro k w1 W hk hrr hs b2 b3 ne b5 b6 f1 f2 f3
    have e19 : W 19 2 = w1 19 2 := by rw [f1 19 (by omega) (by omega)]
    have e20 : W 20 = w1 20 := f1 20 (by omega) (by omega)
    refine gx_aload0 (q := 104) hG d_X_gaps_103 rfl ?_
    refine gx_get (q := 107) hG f_X_69 hpX rfl d_X_gaps_104 rfl ?_
    refine gw_V0X (q := 110) hG l_X_248 c_Su_gapCount (ev_Su_gapCount (by rw [e19]; exact b2) (by rw [e19, e20]; exact b3)) hpSu rfl (by decide) (Nat.le_of_ble_eq_true rfl) d_X_gaps_107 rfl (by decide) ?_
    rw [e19, e20, b5]
    refine gx_ireturn hG d_X_gaps_110 rfl rfl ?_
    refine ⟨_, rfl, _, rfl, ?_⟩
    unfold sp_gaps
    rw [if_neg (by omega), if_neg (fun q => ne (bi_eq1.mp q))]
    exact ⟨rfl, aX_fl hrr hs hk b6 f1 f2 f3⟩
  have L : ∀ (j k : Nat) (w1 W : Mem), k + j = 4000 → (0 ≤ r ∧ r < 6) → SX w w1 → (0 ≤ w1 19 2 ∧ w1 19 2 ≤ 60) → TB (w1 19 2) (w1 20) → ¬ endS (aX w) → gofT (w1 20) (w1 19 2) = grS (aX w) → scT (w1 20) (w1 19 2) (w1 19 2).toNat = gcS (aX w) → (∀ v, 1 ≤ v → v ≤ 4000 → w 3 2 ≠ 2 → (hadS (aX w) v ↔ (1 ≤ w1 19 2 ∧ w1 20 (v % w1 19 2) ≤ v))) → (∀ b, b ≠ 50 + 2 * r → b ≠ 51 + 2 * r → W b = w1 b) → (∀ i, 0 ≤ i → i < 60 → W (51 + 2 * r) i = flF (fun v => ¬ hadS (aX w) v) k i) → W (50 + 2 * r) 1 = min (cn (fun v => ¬ hadS (aX w) v) k) 60 → G 51 [some (Vr 0), some (Vi r), some (Vi ((k : Int) + 1))] [] 102 (hp W) := by
    intro j
    induction j with
    | zero =>
      intro k w1 W h1 hrr hs b2 b3 ne b4 b5 b6 f1 f2 f3
      have sp := grN_spec (P := hadS (aX w)) 4000
      have eg : grS (aX w) = grN (hadS (aX w)) 4000 := rfl
      have e19 : W 19 2 = w1 19 2 := by rw [f1 19 (by omega) (by omega)]
      have e20 : W 20 = w1 20 := f1 20 (by omega) (by omega)
      refine gx_iload2 (q := 52) hG d_X_gaps_51 rfl ?_
      refine gx_aload0 (q := 53) hG d_X_gaps_52 rfl ?_
      refine gx_get (q := 56) hG f_X_69 hpX rfl d_X_gaps_53 rfl ?_
      refine gw_V0X (q := 59) hG l_X_241 c_Su_greatestGap (ev_Su_greatestGap (by rw [e19]; exact b2) (by rw [e19, e20]; exact b3)) hpSu rfl (by decide) (Nat.le_of_ble_eq_true rfl) d_X_gaps_56 rfl (by decide) ?_
      rw [e19, e20, b4]
      refine gx_icmp_gt (tgt := 103) (q := 62) hG d_X_gaps_59 rfl rfl (by omega) (by omega) (fun c59 => ?_) (fun c59 => ?_)
      · exact E k w1 W (by omega) hrr hs b2 b3 ne b5 (Or.inr (fun u u0 u1 => by omega)) f1 f2 f3
      · exfalso; omega
    | succ j ih =>
      intro k w1 W h1 hrr hs b2 b3 ne b4 b5 b6 f1 f2 f3
      have sp := grN_spec (P := hadS (aX w)) 4000
      have eg : grS (aX w) = grN (hadS (aX w)) 4000 := rfl
      have e19 : W 19 2 = w1 19 2 := by rw [f1 19 (by omega) (by omega)]
      have e20 : W 20 = w1 20 := f1 20 (by omega) (by omega)
      have hcn := cn_bd (P := fun v => ¬ hadS (aX w) v) k
      have el2 : w 3 2 ≠ 2 := fun q => ne (Or.inl q)
      have hh := b6 ((k : Int) + 1) (by omega) (by omega) el2
      have cs : cn (fun v => ¬ hadS (aX w) v) (k + 1) = cn (fun v => ¬ hadS (aX w) v) k + bi (¬ hadS (aX w) ((k : Int) + 1)) := rfl
      have fs : flF (fun v => ¬ hadS (aX w) v) (k + 1) = if bi (¬ hadS (aX w) ((k : Int) + 1)) = 1 ∧ cn (fun v => ¬ hadS (aX w) v) k < 60 then up (flF (fun v => ¬ hadS (aX w) v) k) (cn (fun v => ¬ hadS (aX w) v) k) ((k : Int) + 1) else flF (fun v => ¬ hadS (aX w) v) k := rfl
      refine gx_iload2 (q := 52) hG d_X_gaps_51 rfl ?_
      refine gx_aload0 (q := 53) hG d_X_gaps_52 rfl ?_
      refine gx_get (q := 56) hG f_X_69 hpX rfl d_X_gaps_53 rfl ?_
      refine gw_V0X (q := 59) hG l_X_241 c_Su_greatestGap (ev_Su_greatestGap (by rw [e19]; exact b2) (by rw [e19, e20]; exact b3)) hpSu rfl (by decide) (Nat.le_of_ble_eq_true rfl) d_X_gaps_56 rfl (by decide) ?_
      rw [e19, e20, b4]
      refine gx_icmp_gt (tgt := 103) (q := 62) hG d_X_gaps_59 rfl rfl (by omega) (by omega) (fun c59 => ?_) (fun c59 => ?_)
      · first
          | exact E k w1 W (by omega) hrr hs b2 b3 ne b5 (Or.inl (by omega)) f1 f2 f3
          | exact E k w1 W (by omega) hrr hs b2 b3 ne b5 (Or.inr (fun u u0 u1 q => q (sp.2.2 u (by omega) (by omega)))) f1 f2 f3
      · refine gx_aload0 (q := 63) hG d_X_gaps_62 rfl ?_
        refine gx_get (q := 66) hG f_X_11 hpX rfl d_X_gaps_63 rfl ?_
        refine gx_iload1 (q := 67) hG d_X_gaps_66 rfl ?_
        refine gx_rald (q := 68) hG hpRows (by decide) (by omega) (by omega) (by first | decide | omega) (by first | decide | omega) d_X_gaps_67 rfl ?_
        refine gx_get (q := 71) hG f_X_107 (hpRow (by omega)) rfl d_X_gaps_68 rfl ?_
        refine gx_bipush (q := 73) hG d_X_gaps_71 rfl rfl ?_
        refine gx_icmp_ge (tgt := 103) (q := 76) hG d_X_gaps_73 rfl rfl (by omega) (by omega) (fun c73 => ?_) (fun c73 => ?_)
        · first
            | exact E k w1 W (by omega) hrr hs b2 b3 ne b5 (Or.inl (by omega)) f1 f2 f3
            | exact E k w1 W (by omega) hrr hs b2 b3 ne b5 (Or.inr (fun u u0 u1 q => q (sp.2.2 u (by omega) (by omega)))) f1 f2 f3
        · refine gx_aload0 (q := 77) hG d_X_gaps_76 rfl ?_
          refine gx_get (q := 80) hG f_X_69 hpX rfl d_X_gaps_77 rfl ?_
          refine gx_iload2 (q := 81) hG d_X_gaps_80 rfl ?_
          refine gw_V1X (q := 84) hG l_X_244 c_Su_isHad (ev_Su_isHad (by rw [e19]; exact b2) (by rw [e19, e20]; exact b3) (by omega)) hpSu rfl (by decide) (Nat.le_of_ble_eq_true rfl) d_X_gaps_81 rfl (by decide) ?_
          rw [e19, e20, ← propext hh]
          refine gx_if_ne (tgt := 97) (q := 87) hG d_X_gaps_84 rfl rfl (bi_R _) (fun c84 => ?_) (fun c84 => ?_)
          · have c84 := bi_ne0.mp c84
            refine gx_iinc2 (q := 100) hG d_X_gaps_97 rfl rfl ?_
            refine gx_goto (tgt := 51) hG d_X_gaps_100 rfl ?_
            first
              | (refine ih (k + 1) w1 W (by omega) hrr hs b2 b3 ne b4 b5 b6 f1 ?_ ?_
                 · rw [fs, bi_f (fun q => q c84), if_neg (by omega)]; exact f2
                 · rw [cs, bi_f (fun q => q c84), Int.add_zero]; exact f3)
              | (rw [if_pos (by omega)] at h94
                 have f3' : W (50 + 2 * r) 1 = cn (fun v => ¬ hadS (aX w) v) k := by omega
                 have e51 : 50 + 2 * r + 1 = 51 + 2 * r := by omega
                 rw [f3', e51] at h94
                 subst h94
                 refine ih (k + 1) w1 _ (by omega) hrr hs b2 b3 ne b4 b5 b6 (fun b q1 q2 => by rw [wu_ne q1, wu_ne q2]; exact f1 b q1 q2) (fun i i0 i1 => ?_) ?_
                 · rw [wu_ne (by omega), wu_at, fs, bi_t c84, if_pos (by omega)]
                   unfold up
                   split
                   · rfl
                   · exact f2 i i0 i1
                 · rw [wu_eq, cs, bi_t c84]
                   omega)
          · have c84 := bi_eq0.mp c84
            refine gx_aload0 (q := 88) hG d_X_gaps_87 rfl ?_
            refine gx_get (q := 91) hG f_X_11 hpX rfl d_X_gaps_88 rfl ?_
            refine gx_iload1 (q := 92) hG d_X_gaps_91 rfl ?_
            refine gx_rald (q := 93) hG hpRows (by decide) (by omega) (by omega) (by first | decide | omega) (by first | decide | omega) d_X_gaps_92 rfl ?_
            refine gx_iload2 (q := 94) hG d_X_gaps_93 rfl ?_
            refine gw_V1V (q := 97) hG l_X_247 c_Rw_add (ev_Rw_add (by omega) (by omega)) (hpRow (by omega)) rfl (by decide) (Nat.le_of_ble_eq_true rfl) d_X_gaps_94 rfl (by decide) (fun w2 h94 => ?_)
            refine gx_iinc2 (q := 100) hG d_X_gaps_97 rfl rfl ?_
            refine gx_goto (tgt := 51) hG d_X_gaps_100 rfl ?_
            first
              | (refine ih (k + 1) w1 W (by omega) hrr hs b2 b3 ne b4 b5 b6 f1 ?_ ?_
                 · rw [fs, bi_f (fun q => q c84), if_neg (by omega)]; exact f2
                 · rw [cs, bi_f (fun q => q c84), Int.add_zero]; exact f3)
              | (rw [if_pos (by omega)] at h94
                 have f3' : W (50 + 2 * r) 1 = cn (fun v => ¬ hadS (aX w) v) k := by omega
                 have e51 : 50 + 2 * r + 1 = 51 + 2 * r := by omega
                 rw [f3', e51] at h94
                 subst h94
                 refine ih (k + 1) w1 _ (by omega) hrr hs b2 b3 ne b4 b5 b6 (fun b q1 q2 => by rw [wu_ne q1, wu_ne q2]; exact f1 b q1 q2) (fun i i0 i1 => ?_) ?_
                 · rw [wu_ne (by omega), wu_at, fs, bi_t c84, if_pos (by omega)]
                   unfold up
                   split
                   · rfl
                   · exact f2 i i0 i1
                 · rw [wu_eq, cs, bi_t c84]
                   omega)
  refine gx_iload1 (q := 1) hG d_X_gaps_0 rfl ?_
  refine gx_bipush (q := 3) hG d_X_gaps_1 rfl rfl ?_
  refine gw_S2X (q := 6) hG l_X_110 c_X_isIn (ev_X_isIn (by first | assumption | omega) (by first | assumption | omega)) (by decide) (Nat.le_of_ble_eq_true rfl) d_X_gaps_3 rfl (by decide) ?_
  refine gx_if_ne (tgt := 11) (q := 9) hG d_X_gaps_6 rfl rfl (bi_R _) (fun c6 => ?_) (fun c6 => ?_)
  · have c6 := bi_ne0.mp c6
    refine gx_aload0 (q := 12) hG d_X_gaps_11 rfl ?_
    refine gx_get (q := 15) hG f_X_69 hpX rfl d_X_gaps_12 rfl ?_
    refine gx_aload0 (q := 16) hG d_X_gaps_15 rfl ?_
    refine gx_get (q := 19) hG f_X_21 hpX rfl d_X_gaps_16 rfl ?_
    refine gw_V1V (q := 22) hG l_X_233 c_Su_load (ev_Su_load hg) hpSu rfl (by decide) (Nat.le_of_ble_eq_true rfl) d_X_gaps_19 rfl (by decide) (fun w1 h19 => ?_)
    obtain ⟨a1, a2, a3, a4⟩ := h19
    obtain ⟨hs, b2, b3, b4, b5, b6⟩ := load_facts hO hj a1 a2
    refine gx_aload0 (q := 23) hG d_X_gaps_22 rfl ?_
    refine gx_get (q := 26) hG f_X_69 hpX rfl d_X_gaps_23 rfl ?_
    refine gw_V0X (q := 29) hG l_X_235 c_Su_isEndless (ev_Su_isEndless b2 b3) hpSu rfl (by decide) (Nat.le_of_ble_eq_true rfl) d_X_gaps_26 rfl (by decide) ?_
    refine gx_if_eq (tgt := 38) (q := 32) hG d_X_gaps_29 rfl rfl (bi_R _) (fun c29 => ?_) (fun c29 => ?_)
    · have c29 := bi_eq0.mp c29
      have c29 := fun q => c29 (b4.mpr q)
      obtain ⟨b5, b7⟩ := b5 c29
      refine gx_aload0 (q := 39) hG d_X_gaps_38 rfl ?_
      refine gx_get (q := 42) hG f_X_11 hpX rfl d_X_gaps_39 rfl ?_
      refine gx_iload1 (q := 43) hG d_X_gaps_42 rfl ?_
      refine gx_rald (q := 44) hG hpRows (by decide) (by omega) (by omega) (by first | decide | omega) (by first | decide | omega) d_X_gaps_43 rfl ?_
      refine gx_iconst (q := 45) hG d_X_gaps_44 rfl ?_
      refine gx_iconst (q := 46) hG d_X_gaps_45 rfl ?_
      refine gw_V2V (q := 49) hG l_X_238 c_Rw_begin (ev_Rw_begin (by omega)) (hpRow (by omega)) rfl (by decide) (Nat.le_of_ble_eq_true rfl) d_X_gaps_46 rfl (by decide) (fun w2 h46 => ?_)
      refine gx_iconst (q := 50) hG d_X_gaps_49 rfl ?_
      refine gx_istore2 (q := 51) hG d_X_gaps_50 rfl rfl ?_
      have e51 : 50 + 2 * r + 1 = 51 + 2 * r := by omega
      rw [e51] at h46
      subst h46
      refine L 4000 0 w1 _ (by omega) (by omega) hs b2 b3 c29 b5 b7 b6 (fun b q1 q2 => by rw [wu_ne q1, wc_ne q2]) (fun i i0 i1 => ?_) ?_
      · rw [wu_ne (by omega), wc_eq]
        unfold fillA
        rw [if_pos (by omega)]
        rfl
      · rw [wu_eq]
        rfl
    · have c29 := bi_ne0.mp c29
      refine gx_aload0 (q := 33) hG d_X_gaps_32 rfl ?_
      refine gx_iconst (q := 34) hG d_X_gaps_33 rfl ?_
      refine gw_V1I (q := 37) hG l_X_114 c_X_found (ev_X_found (by omega)) hpX rfl (by decide) (Nat.le_of_ble_eq_true rfl) d_X_gaps_34 rfl (by decide) (fun z34 w h34 => ?_)
      refine gx_ireturn hG d_X_gaps_37 rfl rfl ?_
      refine ⟨_, rfl, _, rfl, ?_⟩
      unfold sp_gaps; rw [if_neg (by omega), if_pos (bi_t (b4.mp c29))]
      obtain ⟨rfl, rfl⟩ := h34
      rw [← hs.1]; exact PX_tr hs (PX_fd (by omega) hs.2.1)
  · have c6 := bi_eq0.mp c6
    refine gx_iconst (q := 10) hG d_X_gaps_9 rfl ?_
    refine gx_ireturn hG d_X_gaps_10 rfl rfl ?_
    refine ⟨_, rfl, _, rfl, ?_⟩
    unfold sp_gaps; rw [if_pos (by omega)]; exact PX_id hj

