/-! part 44: keeping, on the class's side -/
def sk (s : Sta) (k l n : Int) (F : Int → Int) : Sta := fun c i => if c = 8 ∧ i = k then n else if c = 9 ∧ i = k then l else if c = 10 ∧ 14 * k ≤ i ∧ i < 14 * k + 14 then (if i - 14 * k < n then F (i - 14 * k) else 0) else s c i
def sp_keep (s : Sta) (k : Int) : Int × Sta := if ¬ (0 ≤ k ∧ k < 3) then (-1, s) else (s 4 1, sk s k (s 4 0) (s 4 1) (s 5))
def sp_on (s : Sta) (k : Int) : Int × Sta := if ¬ (0 ≤ k ∧ k < 3) then (-1, s) else if s 8 k < 0 then fdS s 1 else (s 8 k, sg s (s 9 k) (s 8 k) (fun j => s 10 (14 * k + j)))
theorem sk_cong {s : Sta} {k l n : Int} {F F' : Int → Int} (h : ∀ i, 0 ≤ i → i < n → F i = F' i) : sk s k l n F = sk s k l n F' := by
  funext c i
  unfold sk
  split
  · rfl
  · split
    · rfl
    · split
      · split
        · exact h _ (by omega) (by omega)
        · rfl
      · rfl
theorem aX_sk {w w' : Mem} {k : Int} (hk : 0 ≤ k ∧ k < 3) (h6 : ∀ j, w' 6 j = if j = k then 1 else w 6 j) (h : ∀ b, b ≠ 6 → b ≠ 70 + 2 * k → b ≠ 70 + 2 * k + 1 → w' b = w b) : aX w' = sk (aX w) k (w' (70 + 2 * k) 2) (w' (70 + 2 * k) 1) (w' (71 + 2 * k)) := by
  funext c i
  match c with
  | 0 => show aX w' 0 i = aX w 0 i; rw [aXc0 (fun r r0 r1 => by rw [h _ (by omega) (by omega) (by omega)])]
  | 1 => show aX w' 1 i = aX w 1 i; rw [aXc1 (fun r i r0 r1 i0 i1 => by rw [h _ (by omega) (by omega) (by omega)])]
  | 2 => show aX w' 2 i = aX w 2 i; rw [aXc2 (fun r r0 r1 => by rw [h _ (by omega) (by omega) (by omega)])]
  | 3 => show aX w' 3 i = aX w 3 i; rw [aXc3 (fun r i r0 r1 i0 i1 => by rw [h _ (by omega) (by omega) (by omega)])]
  | 4 => show aX w' 4 i = aX w 4 i; rw [aXc4 (by rw [h 3 (by omega) (by omega) (by omega), h 0 (by omega) (by omega) (by omega)]; exact ⟨rfl, rfl, rfl, rfl, rfl, rfl, rfl⟩)]
  | 5 => show aX w' 5 i = aX w 5 i; rw [aXc5 (by rw [h 3 (by omega) (by omega) (by omega)]) (fun i i0 i1 => by rw [h 4 (by omega) (by omega) (by omega)])]
  | 6 => show aX w' 6 i = aX w 6 i; rw [aXc6 (by rw [h 0 (by omega) (by omega) (by omega)]) (fun i i0 i1 => by rw [h 14 (by omega) (by omega) (by omega)])]
  | 7 => show aX w' 7 i = aX w 7 i; rw [aXc7 (fun i i0 i1 => by rw [h 49 (by omega) (by omega) (by omega)])]
  | 8 =>
    show (if 0 ≤ i ∧ i < 3 then (if w' 6 i = 1 then w' (70 + 2 * i) 1 else -1) else 0) = if (8 : Nat) = 8 ∧ i = k then w' (70 + 2 * k) 1 else (if 0 ≤ i ∧ i < 3 then (if w 6 i = 1 then w (70 + 2 * i) 1 else -1) else 0)
    rw [h6]
    by_cases e : i = k
    · subst e
      rw [if_pos hk, if_pos rfl, if_pos rfl, if_pos ⟨rfl, rfl⟩]
    · rw [if_neg e, if_neg (show ¬ ((8 : Nat) = 8 ∧ i = k) from fun q => e q.2)]
      by_cases e2 : 0 ≤ i ∧ i < 3
      · rw [if_pos e2, if_pos e2, h _ (by omega) (by omega) (by omega)]
      · rw [if_neg e2, if_neg e2]
  | 9 =>
    show (if 0 ≤ i ∧ i < 3 ∧ w' 6 i = 1 then w' (70 + 2 * i) 2 else 0) = if (9 : Nat) = 9 ∧ i = k then w' (70 + 2 * k) 2 else (if 0 ≤ i ∧ i < 3 ∧ w 6 i = 1 then w (70 + 2 * i) 2 else 0)
    rw [h6]
    by_cases e : i = k
    · subst e
      rw [if_pos rfl, if_pos ⟨hk.1, hk.2, rfl⟩, if_pos ⟨rfl, rfl⟩]
    · rw [if_neg e, if_neg (show ¬ ((9 : Nat) = 9 ∧ i = k) from fun q => e q.2)]
      by_cases e2 : 0 ≤ i ∧ i < 3 ∧ w 6 i = 1
      · rw [if_pos e2, if_pos e2, h _ (by omega) (by omega) (by omega)]
      · rw [if_neg e2, if_neg e2]
  | 10 =>
    show (if 0 ≤ i ∧ i < 42 ∧ w' 6 (i / 14) = 1 ∧ i % 14 < w' (70 + 2 * (i / 14)) 1 then w' (71 + 2 * (i / 14)) (i % 14) else 0) = if (10 : Nat) = 10 ∧ 14 * k ≤ i ∧ i < 14 * k + 14 then (if i - 14 * k < w' (70 + 2 * k) 1 then w' (71 + 2 * k) (i - 14 * k) else 0) else (if 0 ≤ i ∧ i < 42 ∧ w 6 (i / 14) = 1 ∧ i % 14 < w (70 + 2 * (i / 14)) 1 then w (71 + 2 * (i / 14)) (i % 14) else 0)
    rw [h6]
    by_cases e : 14 * k ≤ i ∧ i < 14 * k + 14
    · rw [if_pos (c := (10 : Nat) = 10 ∧ 14 * k ≤ i ∧ i < 14 * k + 14) ⟨rfl, e⟩, show i / 14 = k by omega, show i % 14 = i - 14 * k by omega, if_pos (c := k = k) rfl]
      by_cases e2 : i - 14 * k < w' (70 + 2 * k) 1
      · rw [if_pos ⟨by omega, by omega, rfl, e2⟩, if_pos e2]
      · rw [if_neg (fun q => e2 q.2.2.2), if_neg e2]
    · rw [if_neg (c := (10 : Nat) = 10 ∧ 14 * k ≤ i ∧ i < 14 * k + 14) (fun q => e q.2)]
      by_cases e3 : 0 ≤ i ∧ i < 42
      · rw [if_neg (show ¬ i / 14 = k by omega), h (70 + 2 * (i / 14)) (by omega) (by omega) (by omega), h (71 + 2 * (i / 14)) (by omega) (by omega) (by omega)]
      · rw [if_neg (fun q => e3 ⟨q.1, q.2.1⟩), if_neg (fun q => e3 ⟨q.1, q.2.1⟩)]
  | c + 11 => rfl
theorem OK.kk {s : Sta} (h : OK s) : ∀ k, 0 ≤ k → k < 3 → -1 ≤ s 8 k ∧ s 8 k ≤ 13 ∧ (0 ≤ s 8 k → (s 9 k = 0 ∨ s 9 k = 1 ∨ s 9 k = 2)) ∧ (∀ i, 0 ≤ i → i < s 8 k → 1 ≤ s 10 (14 * k + i) ∧ s 10 (14 * k + i) ≤ 60) ∧ (s 8 k = 13 → s 10 (14 * k + 12) = 1) := h.2.2.2.2.2.2.2.2.2.2
theorem aX_at8 {w : Mem} {k : Int} (hk : 0 ≤ k ∧ k < 3) (h1 : w 6 k = 1) : aX w 8 k = w (70 + 2 * k) 1 := by
  show (if _ then _ else _) = _
  rw [if_pos hk, if_pos h1]
theorem aX_at8n {w : Mem} {k : Int} (hk : 0 ≤ k ∧ k < 3) (h1 : w 6 k ≠ 1) : aX w 8 k = -1 := by
  show (if _ then _ else _) = _
  rw [if_pos hk, if_neg h1]
theorem aX_at9 {w : Mem} {k : Int} (hk : 0 ≤ k ∧ k < 3) (h1 : w 6 k = 1) : aX w 9 k = w (70 + 2 * k) 2 := if_pos ⟨hk.1, hk.2, h1⟩
theorem aX_at10 {w : Mem} {k i : Int} (hk : 0 ≤ k ∧ k < 3) (h1 : w 6 k = 1) (hi : 0 ≤ i ∧ i < 14) (hi2 : i < w (70 + 2 * k) 1) : aX w 10 (14 * k + i) = w (71 + 2 * k) i := by
  show (if _ then _ else _) = _
  rw [show (14 * k + i) / 14 = k by omega, show (14 * k + i) % 14 = i by omega, if_pos ⟨by omega, by omega, h1, hi2⟩]
theorem GI_kept {w : Mem} {k : Int} (hO : OK (aX w)) (hj : XJ w) (hk : 0 ≤ k ∧ k < 3) (h1 : w 6 k = 1) : GI w (70 + 2 * k) := by
  obtain ⟨a1, a2, a3, a4, a5⟩ := hO.kk k hk.1 hk.2
  obtain ⟨b1, b2⟩ := hj.2.2.1 k hk.1 hk.2 h1
  rw [aX_at8 hk h1] at a1 a2 a3 a4 a5
  rw [aX_at9 hk h1] at a3
  refine ⟨by unfold isG; omega, ⟨b1, a2⟩, a3 b1, fun i i0 i1 => ?_, b2⟩
  have := a4 i i0 i1
  rw [aX_at10 hk h1 (by omega) i1] at this
  rw [show 70 + 2 * k + 1 = 71 + 2 * k by omega]
  exact this
theorem ev_X_keep {w : Mem} {k : Int} (hO : OK (aX w)) (hj : XJ w) (hk : R3 k) : EvI y_X_keep b_X_keep 2 (some .int) (4) [Vr 0, Vi k] w (PX w (sp_keep (aX w) k)) := by
  refine Ev.mk (isI := false) (by decide +kernel) nofun (Nat.le_of_ble_eq_true rfl) (fun G hG => ?_)
  show G 0 [some (Vr 0), some (Vi k)] [] 102 (hp w)
  have hg := hO.gi hj
  refine gx_iload1 (q := 1) hG d_X_keep_0 rfl ?_
  refine gx_iconst (q := 2) hG d_X_keep_1 rfl ?_
  refine gw_S2X (q := 5) hG l_X_110 c_X_isIn (ev_X_isIn (by first | assumption | omega) (by first | assumption | omega)) (by decide) (Nat.le_of_ble_eq_true rfl) d_X_keep_2 rfl (by decide) ?_
  refine gx_if_ne (tgt := 10) (q := 8) hG d_X_keep_5 rfl rfl (bi_R _) (fun c5 => ?_) (fun c5 => ?_)
  · have c5 := bi_ne0.mp c5
    refine gx_aload0 (q := 11) hG d_X_keep_10 rfl ?_
    refine gx_get (q := 14) hG f_X_25 hpX rfl d_X_keep_11 rfl ?_
    refine gx_iload1 (q := 15) hG d_X_keep_14 rfl ?_
    refine gx_rald (q := 16) hG hpKept (by decide) (by omega) (by omega) (by first | decide | omega) (by first | decide | omega) d_X_keep_15 rfl ?_
    refine gx_aload0 (q := 17) hG d_X_keep_16 rfl ?_
    refine gx_get (q := 20) hG f_X_21 hpX rfl d_X_keep_17 rfl ?_
    refine gw_V1V (q := 23) hG l_X_138 c_Gm_become (ev_Gm_become hg (by unfold isG; omega) (by omega)) (hpGame (by unfold isG; omega)) rfl (by decide) (Nat.le_of_ble_eq_true rfl) d_X_keep_20 rfl (by decide) (fun w1 h20 => ?_)
    refine gx_aload0 (q := 24) hG d_X_keep_23 rfl ?_
    refine gx_get (q := 27) hG f_X_29 hpX rfl d_X_keep_24 rfl ?_
    refine gx_iload1 (q := 28) hG d_X_keep_27 rfl ?_
    refine gx_iconst (q := 29) hG d_X_keep_28 rfl ?_
    refine gw_zast (q := 30) hG rfl (by omega) (by omega) (by first | decide | omega) d_X_keep_29 rfl ?_
    refine gx_aload0 (q := 31) hG d_X_keep_30 rfl ?_
    refine gx_get (q := 34) hG f_X_21 hpX rfl d_X_keep_31 rfl ?_
    refine gx_get (q := 37) hG f_X_147 (hpGame (by unfold isG; omega)) rfl d_X_keep_34 rfl ?_
    refine gx_ireturn hG d_X_keep_37 rfl rfl ?_
    refine ⟨_, rfl, _, rfl, ?_⟩
    unfold sp_keep; rw [if_neg (by omega)]
    obtain ⟨g1, g2, g3, g4, g5⟩ := h20
    have g5' : ∀ b, b ≠ 70 + 2 * k → b ≠ 70 + 2 * k + 1 → w1 b = w b := g5
    have e3 : wu w1 6 k 1 3 1 = w 3 1 := by rw [wu_ne (by omega), g5' 3 (by omega) (by omega)]
    have hE : aX (wu w1 6 k 1) = sk (aX w) k (aX w 4 0) (aX w 4 1) (aX w 5) := by
      rw [aX_sk (w := w) (w' := wu w1 6 k 1) (k := k) (by omega) (fun j => by rw [wu_get, g5' 6 (by omega) (by omega)]; simp) (fun b b6 b7 b8 => by rw [wu_ne b6, g5' b b7 b8])]
      rw [wu_ne (show 70 + 2 * k ≠ 6 by omega), wu_ne (show 71 + 2 * k ≠ 6 by omega), g2, g3]
      refine sk_cong (fun j j0 j1 => ?_)
      have hn := hg.2.1
      rw [aX_at5 ⟨j0, j1⟩, show 71 + 2 * k = 70 + 2 * k + 1 by omega]
      exact g4 j j0 (by omega)
    refine ⟨e3, hE, ⟨fun q q0 q1 => ?_, ?_, fun q q0 q1 hq => ?_, ?_⟩, fun b hb => by rw [wu_ne (by omega), g5' b (by omega) (by omega)]⟩
    · rw [wu_get, g5' 6 (by omega) (by omega)]
      split
      · exact Or.inr rfl
      · exact hj.1 q q0 q1
    · unfold GI0
      rw [show (3 : Int) + 1 = 4 by omega, wu_ne (by omega), wu_ne (by omega), g5' 3 (by omega) (by omega), g5' 4 (by omega) (by omega)]
      exact hj.2.1
    · rw [wu_ne (show 70 + 2 * q ≠ 6 by omega)]
      unfold GI0
      rw [wu_ne (show 70 + 2 * q ≠ 6 by omega), wu_ne (show 70 + 2 * q + 1 ≠ 6 by omega)]
      by_cases e : q = k
      · subst e
        exact ⟨g1.2.1.1, g1.2.2.2.2⟩
      · rw [g5' (70 + 2 * q) (by omega) (by omega), g5' (70 + 2 * q + 1) (by omega) (by omega)]
        rw [wu_get, if_neg (fun z => e z.2), g5' 6 (by omega) (by omega)] at hq
        exact hj.2.2.1 q q0 q1 hq
    · rw [wu_ne (by omega), wu_ne (by omega), wu_ne (by omega), g5' 46 (by omega) (by omega), g5' 47 (by omega) (by omega), g5' 48 (by omega) (by omega)]
      exact hj.2.2.2
  · have c5 := bi_eq0.mp c5
    refine gx_iconst (q := 9) hG d_X_keep_8 rfl ?_
    refine gx_ireturn hG d_X_keep_9 rfl rfl ?_
    refine ⟨_, rfl, _, rfl, ?_⟩
    unfold sp_keep; rw [if_pos (by omega)]; exact PX_id hj
theorem ev_X_on {w : Mem} {k : Int} (hO : OK (aX w)) (hj : XJ w) (hk : R3 k) : EvI y_X_on b_X_on 2 (some .int) (4) [Vr 0, Vi k] w (PX w (sp_on (aX w) k)) := by
  refine Ev.mk (isI := false) (by decide +kernel) nofun (Nat.le_of_ble_eq_true rfl) (fun G hG => ?_)
  show G 0 [some (Vr 0), some (Vi k)] [] 102 (hp w)
  have hg := hO.gi hj
  refine gx_iload1 (q := 1) hG d_X_on_0 rfl ?_
  refine gx_iconst (q := 2) hG d_X_on_1 rfl ?_
  refine gw_S2X (q := 5) hG l_X_110 c_X_isIn (ev_X_isIn (by first | assumption | omega) (by first | assumption | omega)) (by decide) (Nat.le_of_ble_eq_true rfl) d_X_on_2 rfl (by decide) ?_
  refine gx_if_ne (tgt := 10) (q := 8) hG d_X_on_5 rfl rfl (bi_R _) (fun c5 => ?_) (fun c5 => ?_)
  · have c5 := bi_ne0.mp c5
    refine gx_aload0 (q := 11) hG d_X_on_10 rfl ?_
    refine gx_get (q := 14) hG f_X_29 hpX rfl d_X_on_11 rfl ?_
    refine gx_iload1 (q := 15) hG d_X_on_14 rfl ?_
    refine gw_zald (q := 16) hG rfl (by omega) (by omega) d_X_on_15 rfl ?_
    have h01 := hj.1 k (by omega) (by omega)
    refine gx_if_ne (tgt := 25) (q := 19) hG d_X_on_16 rfl rfl (by omega) (fun c16 => ?_) (fun c16 => ?_)
    · have h1 : w 6 k = 1 := by omega
      have hgk := GI_kept hO hj (by omega) h1
      refine gx_aload0 (q := 26) hG d_X_on_25 rfl ?_
      refine gx_get (q := 29) hG f_X_21 hpX rfl d_X_on_26 rfl ?_
      refine gx_aload0 (q := 30) hG d_X_on_29 rfl ?_
      refine gx_get (q := 33) hG f_X_25 hpX rfl d_X_on_30 rfl ?_
      refine gx_iload1 (q := 34) hG d_X_on_33 rfl ?_
      refine gx_rald (q := 35) hG hpKept (by decide) (by omega) (by omega) (by first | decide | omega) (by first | decide | omega) d_X_on_34 rfl ?_
      refine gw_V1V (q := 38) hG l_X_138 c_Gm_become (ev_Gm_become hgk (by unfold isG; omega) (by omega)) (hpGame (by unfold isG; omega)) rfl (by decide) (Nat.le_of_ble_eq_true rfl) d_X_on_35 rfl (by decide) (fun w1 h35 => ?_)
      refine gx_aload0 (q := 39) hG d_X_on_38 rfl ?_
      refine gx_get (q := 42) hG f_X_21 hpX rfl d_X_on_39 rfl ?_
      refine gx_get (q := 45) hG f_X_147 (hpGame (by unfold isG; omega)) rfl d_X_on_42 rfl ?_
      refine gx_ireturn hG d_X_on_45 rfl rfl ?_
      refine ⟨_, rfl, _, rfl, ?_⟩
      have hs := hgk.2.1
      unfold sp_on; rw [if_neg (by omega), aX_at8 (by omega) h1, if_neg (by omega)]
      obtain ⟨g1, g2, g3, g4, g5⟩ := h35
      rw [g2]
      refine PX_g hj (fun b b3 b4 => g5 b b3 b4) g1 ?_
      rw [g2, g3, aX_at9 (by omega) h1]
      refine sg_cong (fun j j0 j1 => ?_)
      rw [aX_at10 (by omega) h1 (by omega) j1, show 71 + 2 * k = 70 + 2 * k + 1 by omega]
      exact g4 j j0 (by omega)
    · refine gx_aload0 (q := 20) hG d_X_on_19 rfl ?_
      refine gx_iconst (q := 21) hG d_X_on_20 rfl ?_
      refine gw_V1I (q := 24) hG l_X_114 c_X_found (ev_X_found (by omega)) hpX rfl (by decide) (Nat.le_of_ble_eq_true rfl) d_X_on_21 rfl (by decide) (fun z21 w h21 => ?_)
      refine gx_ireturn hG d_X_on_24 rfl rfl ?_
      refine ⟨_, rfl, _, rfl, ?_⟩
      unfold sp_on; rw [if_neg (by omega), aX_at8n (by omega) (by omega), if_pos (by omega)]; obtain ⟨rfl, rfl⟩ := h21; exact PX_fd (by omega) hj
  · have c5 := bi_eq0.mp c5
    refine gx_iconst (q := 9) hG d_X_on_8 rfl ?_
    refine gx_ireturn hG d_X_on_9 rfl rfl ?_
    refine ⟨_, rfl, _, rfl, ?_⟩
    unfold sp_on; rw [if_pos (by omega)]; exact PX_id hj

