/-! part 55: in how many ways -/
def wyS (F : Int → Int) (a : Int) : Nat → Int → Int
  | 0, v => F v
  | f + 1, v => F v + if a ≤ v then wyS F a f (v - a) else 0
def wyT (num : Int → Int) : Nat → Int → Int
  | 0, v => if v = 0 then 1 else 0
  | k + 1, v => wyS (wyT num k) (num k) v.toNat v
theorem wyS_fuel {F : Int → Int} {a : Int} (ha : 1 ≤ a) : ∀ (f g : Nat) (v : Int), v.toNat ≤ f → v.toNat ≤ g → wyS F a f v = wyS F a g v
  | 0, 0, _, _, _ => rfl
  | 0, g + 1, v, h1, h2 => by
    unfold wyS
    rw [if_neg (by omega)]
    omega
  | f + 1, 0, v, h1, h2 => by
    unfold wyS
    rw [if_neg (by omega)]
    omega
  | f + 1, g + 1, v, h1, h2 => by
    unfold wyS
    by_cases c : a ≤ v
    · rw [if_pos c, if_pos c, wyS_fuel ha f g (v - a) (by omega) (by omega)]
    · rw [if_neg c, if_neg c]
theorem wyT_s {num : Int → Int} {k : Nat} {v : Int} (ha : 1 ≤ num k) (hv : 0 ≤ v) : wyT num (k + 1) v = wyT num k v + if num k ≤ v then wyT num (k + 1) (v - num k) else 0 := by
  show wyS (wyT num k) (num k) v.toNat v = _ + if _ then wyS (wyT num k) (num k) (v - num k).toNat (v - num k) else 0
  by_cases c : num k ≤ v
  · obtain ⟨f, hf⟩ : ∃ f : Nat, v.toNat = f + 1 := ⟨v.toNat - 1, by omega⟩
    rw [hf]
    show _ + (if _ then wyS (wyT num k) (num k) f (v - num k) else 0) = _
    rw [if_pos c, if_pos c, wyS_fuel ha f (v - num k).toNat _ (by omega) (by omega)]
  · rw [if_neg c]
    cases v.toNat with
    | zero => show wyT num k v = wyT num k v + 0; omega
    | succ f =>
      show wyT num k v + (if _ then wyS (wyT num k) (num k) f (v - num k) else 0) = _
      rw [if_neg c]
theorem wyS_congr {F F' : Int → Int} {a : Int} (h : ∀ v, F v = F' v) : ∀ (f : Nat) (v : Int), wyS F a f v = wyS F' a f v
  | 0, v => h v
  | f + 1, v => by
    unfold wyS
    rw [h v, wyS_congr h f]
theorem wyT_congr {num num' : Int → Int} : ∀ (k : Nat), (∀ i : Int, 0 ≤ i → i < k → num i = num' i) → ∀ v, wyT num k v = wyT num' k v
  | 0, _, _ => rfl
  | k + 1, h, v => by
    unfold wyT
    rw [h k (by omega) (by omega)]
    exact wyS_congr (wyT_congr k (fun i i0 i1 => h i i0 (by omega))) _ _
def nbS (F : Nat → Int → Int) (a : Int) : Nat → Int → Int
  | 0, s => F 0 s
  | c + 1, s => F (c + 1) s + if a ≤ s then nbS F a c (s - a) else 0
def nbT (num : Int → Int) : Nat → Nat → Int → Int
  | 0, c, s => if c = 0 ∧ s = 0 then 1 else 0
  | k + 1, c, s => nbS (nbT num k) (num k) c s
theorem nbT_0 {num : Int → Int} {k : Nat} {s : Int} : nbT num (k + 1) 0 s = nbT num k 0 s := rfl
theorem nbT_s {num : Int → Int} {k c : Nat} {s : Int} : nbT num (k + 1) (c + 1) s = nbT num k (c + 1) s + if num k ≤ s then nbT num (k + 1) c (s - num k) else 0 := rfl
theorem nbS_congr {F F' : Nat → Int → Int} {a : Int} (h : ∀ c v, F c v = F' c v) : ∀ (c : Nat) (v : Int), nbS F a c v = nbS F' a c v
  | 0, v => h 0 v
  | c + 1, v => by
    unfold nbS
    rw [h (c + 1) v, nbS_congr h c]
theorem nbT_congr {num num' : Int → Int} : ∀ (k : Nat), (∀ i : Int, 0 ≤ i → i < k → num i = num' i) → ∀ c v, nbT num k c v = nbT num' k c v
  | 0, _, _, _ => rfl
  | k + 1, h, c, v => by
    unfold nbT
    rw [h k (by omega) (by omega)]
    exact nbS_congr (nbT_congr k (fun i i0 i1 => h i i0 (by omega))) _ _
def fr1 (s : Sta) (u : Int) : Sta := ss (ss s 4 4 u) 4 5 1
def sp_ways (s : Sta) (v : Int) : Int × Sta := if ¬ (1 ≤ v ∧ v ≤ 400) then (-1, s) else if s 4 0 ≠ 0 then (-4, s) else (1, fr1 s (wyT (s 5) (s 4 1).toNat v))
def sp_byJust (s : Sta) (v k : Int) : Int × Sta := if ¬ (1 ≤ v ∧ v ≤ 400 ∧ 1 ≤ k ∧ k ≤ 20) then (-1, s) else if s 4 0 ≠ 0 then (-4, s) else (1, fr1 s (nbT (s 5) (s 4 1).toNat k.toNat v))
/-- the table while the numbers' ways are put in -/
def WB (num : Int → Int) (i : Nat) (y : Int) (F : Int → Int) (top : Int) : Prop := ∀ x : Int, 0 ≤ x → x ≤ top → (x < y → F x = wyT num (i + 1) x) ∧ (y ≤ x → F x = wyT num i x)
theorem WB_step {num : Int → Int} {i : Nat} {y a top : Int} {F : Int → Int} (ha : num i = a) (ha1 : 1 ≤ a) (hy : a ≤ y) (hyt : y ≤ top) (h : WB num i y F top) : WB num i (y + 1) (up F y (F y + F (y - a))) top := by
  intro x x0 x1
  unfold up
  by_cases c : x = y
  · subst c
    rw [if_pos rfl]
    refine ⟨fun _ => ?_, fun q => by omega⟩
    rw [wyT_s (by omega) x0, ha, if_pos hy, (h x x0 x1).2 (by omega), (h (x - a) (by omega) (by omega)).1 (by omega)]
  · rw [if_neg c]
    exact ⟨fun q => (h x x0 x1).1 (by omega), fun q => (h x x0 x1).2 (by omega)⟩
theorem WB_in {num : Int → Int} {i : Nat} {a top : Int} {F : Int → Int} (ha : num i = a) (ha1 : 1 ≤ a) (h : ∀ x : Int, 0 ≤ x → x ≤ top → F x = wyT num i x) : WB num i a F top := by
  intro x x0 x1
  refine ⟨fun q => ?_, fun _ => h x x0 x1⟩
  rw [wyT_s (by omega) x0, ha, if_neg (by omega), h x x0 x1]
  omega
def frG (u l : Int) : Int := if l = 1 then 1 else (Nat.gcd u.toNat l.toNat : Nat)
theorem ev_X_tellFraction {w : Mem} {u l : Int} (h : l = 1 ∨ (2 ≤ l ∧ l ≤ 60 ∧ 0 ≤ u ∧ u ≤ 60)) : EvV y_X_tellFraction b_X_tellFraction 6 none (2) [Vr 0, Vj u, Vj l] w (fun w' => w' = wu (wu w 0 12 (u.tdiv (frG u l))) 0 13 (l.tdiv (frG u l))) := by
  refine Ev.mk (isI := false) (by decide +kernel) nofun (Nat.le_of_ble_eq_true rfl) (fun G hG => ?_)
  show G 0 [some (Vr 0), some (Vj u), none, some (Vj l), none, none] [] 102 (hp w)
  have R : ∀ g : Int, wu (wu (wu (wu w 0 12 u) 0 13 l) 0 12 (u.tdiv g)) 0 13 (l.tdiv g) = wu (wu w 0 12 (u.tdiv g)) 0 13 (l.tdiv g) := fun g => by
    funext b i
    simp only [wu_get]
    by_cases e1 : b = 0 ∧ i = 13
    · rw [if_pos e1, if_pos e1]
    · rw [if_neg e1, if_neg e1]
      by_cases e2 : b = 0 ∧ i = 12
      · rw [if_pos e2, if_pos e2, if_neg e1]
      · rw [if_neg e2, if_neg e2, if_neg e1, if_neg e2]
  have e1 : l = 1 → frG u l = 1 := fun q => if_pos q
  have e2 : l ≠ 1 → frG u l = (Nat.gcd u.toNat l.toNat : Nat) := fun q => if_neg q
  refine gx_aload0 (q := 1) hG d_X_tellFraction_0 rfl ?_
  refine gx_lload1 (q := 2) hG d_X_tellFraction_1 rfl ?_
  refine gw_putj (q := 5) hG f_X_289 hpX (Nat.le_of_ble_eq_true rfl) vfit_l (Or.inl rfl) d_X_tellFraction_2 rfl 12 rfl rfl ?_
  refine gx_aload0 (q := 6) hG d_X_tellFraction_5 rfl ?_
  refine gx_lload3 (q := 7) hG d_X_tellFraction_6 rfl ?_
  refine gw_putj (q := 10) hG f_X_80 hpX (Nat.le_of_ble_eq_true rfl) vfit_l (Or.inl rfl) d_X_tellFraction_7 rfl 13 rfl rfl ?_
  refine gx_lload3 (q := 11) hG d_X_tellFraction_10 rfl ?_
  refine gx_lconst (q := 12) hG 1 d_X_tellFraction_11 rfl rfl ?_
  refine gx_lcmp (q := 13) hG d_X_tellFraction_12 rfl (by omega) (by omega) ?_
  refine gx_if_le (tgt := 49) (q := 16) hG d_X_tellFraction_13 rfl rfl (cmp3_R _ _) (fun c13 => ?_) (fun c13 => ?_)
  · have c13 := cmp3_le.mp c13
    refine gx_return hG d_X_tellFraction_49 rfl rfl ?_
    first
      | exact ⟨_, rfl, rfl, by rw [e1 (by omega), Int.tdiv_one, Int.tdiv_one]⟩
      | exact ⟨_, rfl, rfl, by rw [R, e2 (by omega)]; rfl⟩
      | exact ⟨_, rfl, rfl, by rw [e2 (by omega), show Nat.gcd (un : Int).toNat (ln : Int).toNat = 1 from by show Nat.gcd un ln = 1; omega, show (((1 : Nat)) : Int) = 1 from rfl, Int.tdiv_one, Int.tdiv_one]⟩
  · have c13 := cmp3_gt.mp c13
    obtain ⟨un, rfl⟩ := Int.eq_ofNat_of_zero_le (show 0 ≤ u by omega)
    obtain ⟨ln, rfl⟩ := Int.eq_ofNat_of_zero_le (show 0 ≤ l by omega)
    have hgp : 0 < Nat.gcd un ln := Nat.gcd_pos_of_pos_right _ (by omega)
    have hgl : Nat.gcd un ln ≤ 60 := Nat.le_trans (Nat.gcd_le_right _ (by omega)) (by omega)
    refine gx_lload1 (q := 17) hG d_X_tellFraction_16 rfl ?_
    refine gx_l2i (q := 18) hG d_X_tellFraction_17 rfl ?_
    refine gx_lload3 (q := 19) hG d_X_tellFraction_18 rfl ?_
    refine gx_l2i (q := 20) hG d_X_tellFraction_19 rfl ?_
    refine gw_S2X (q := 23) hG l_X_319 c_X_divisorOf (ev_X_divisorOf (x := un) (y := ln) (by omega) (by omega)) (by decide) (Nat.le_of_ble_eq_true rfl) d_X_tellFraction_20 rfl (by decide) ?_
    refine gx_istore5 (q := 25) hG d_X_tellFraction_23 rfl rfl ?_
    refine gx_iload5 (q := 27) hG d_X_tellFraction_25 rfl ?_
    refine gx_iconst (q := 28) hG d_X_tellFraction_27 rfl ?_
    refine gx_icmp_le (tgt := 49) (q := 31) hG d_X_tellFraction_28 rfl rfl (by omega) (by omega) (fun c28 => ?_) (fun c28 => ?_)
    · refine gx_return hG d_X_tellFraction_49 rfl rfl ?_
      first
        | exact ⟨_, rfl, rfl, by rw [e1 (by omega), Int.tdiv_one, Int.tdiv_one]⟩
        | exact ⟨_, rfl, rfl, by rw [R, e2 (by omega)]; rfl⟩
        | exact ⟨_, rfl, rfl, by rw [e2 (by omega), show Nat.gcd (un : Int).toNat (ln : Int).toNat = 1 from by show Nat.gcd un ln = 1; omega, show (((1 : Nat)) : Int) = 1 from rfl, Int.tdiv_one, Int.tdiv_one]⟩
    · refine gx_aload0 (q := 32) hG d_X_tellFraction_31 rfl ?_
      refine gx_lload1 (q := 33) hG d_X_tellFraction_32 rfl ?_
      refine gx_iload5 (q := 35) hG d_X_tellFraction_33 rfl ?_
      refine gx_i2l (q := 36) hG d_X_tellFraction_35 rfl (by omega) ?_
      refine gx_ldiv (q := 37) hG d_X_tellFraction_36 rfl (by omega) (by omega) (by omega) (by omega) ?_
      refine gw_putj (q := 40) hG f_X_289 hpX (Nat.le_of_ble_eq_true rfl) vfit_l (Or.inl rfl) d_X_tellFraction_37 rfl 12 rfl rfl ?_
      refine gx_aload0 (q := 41) hG d_X_tellFraction_40 rfl ?_
      refine gx_lload3 (q := 42) hG d_X_tellFraction_41 rfl ?_
      refine gx_iload5 (q := 44) hG d_X_tellFraction_42 rfl ?_
      refine gx_i2l (q := 45) hG d_X_tellFraction_44 rfl (by omega) ?_
      refine gx_ldiv (q := 46) hG d_X_tellFraction_45 rfl (by omega) (by omega) (by omega) (by omega) ?_
      refine gw_putj (q := 49) hG f_X_80 hpX (Nat.le_of_ble_eq_true rfl) vfit_l (Or.inl rfl) d_X_tellFraction_46 rfl 13 rfl rfl ?_
      refine gx_return hG d_X_tellFraction_49 rfl rfl ?_
      first
        | exact ⟨_, rfl, rfl, by rw [e1 (by omega), Int.tdiv_one, Int.tdiv_one]⟩
        | exact ⟨_, rfl, rfl, by rw [R, e2 (by omega)]; rfl⟩
        | exact ⟨_, rfl, rfl, by rw [e2 (by omega), show Nat.gcd (un : Int).toNat (ln : Int).toNat = 1 from by show Nat.gcd un ln = 1; omega, show (((1 : Nat)) : Int) = 1 from rfl, Int.tdiv_one, Int.tdiv_one]⟩
theorem SX_fr {w w1 : Mem} {u z : Int} (h : SX w w1) : PX w (z, fr1 (aX w) u) z (wu (wu w1 0 12 (u.tdiv (frG u 1))) 0 13 ((1 : Int).tdiv (frG u 1))) := by
  rw [show frG u 1 = 1 from rfl, Int.tdiv_one, Int.tdiv_one]
  refine PX_tr h ?_
  unfold fr1
  rw [← h.1]
  exact PX_mk (by rw [aX_u13, aX_u12]) h.2.1 (fun b hb => by rw [wu_ne (by omega), wu_ne (by omega)])
theorem ev_Su_waysOf {w : Mem} {v : Int} (h : GI w 3) (hv : 1 ≤ v ∧ v ≤ 400) : EvJ y_Su_waysOf b_Su_waysOf 6 (some .long) (3) [Vr 19, Vr 3, Vi v] w (fun z w' => z = wyT (w 4) (w 3 1).toNat v ∧ ∃ F, w' = wc w 23 F) := by
  refine Ev.mk (isI := false) (by decide +kernel) nofun (Nat.le_of_ble_eq_true rfl) (fun G hG => ?_)
  show G 0 [some (Vr 19), some (Vr 3), some (Vi v), none, none, none] [] 102 (hp w)
  have hs := h.2.1
  have hn := h.2.2.2.1
  have I : ∀ (j : Nat) (i : Nat) (a y : Int) (F : Int → Int), (y + j = v + 1 ∨ (j = 0 ∧ v < y)) → (i : Int) < w 3 1 → w 4 i = a → (a ≤ y ∧ y ≤ 500) → WB (w 4) i y F v → (∀ (F' : Int → Int) (y' : Int), (∀ x : Int, 0 ≤ x → x ≤ v → F' x = wyT (w 4) (i + 1) x) → G 69 [some (Vr 19), some (Vr 3), some (Vi v), some (Vi (i : Int)), some (Vi a), some (Vi y')] [] 102 (hp (wc w 23 F'))) → G 37 [some (Vr 19), some (Vr 3), some (Vi v), some (Vi (i : Int)), some (Vi a), some (Vi y)] [] 102 (hp (wc w 23 F)) := by
    intro j
    induction j with
    | zero =>
      intro i a y F h1 h2 h3 h4 h5 hk
      have ha := hn i (by omega) h2
      rw [show (3 : Int) + 1 = 4 by omega, h3] at ha
      refine gx_iload5 (q := 39) hG d_Su_waysOf_37 rfl ?_
      refine gx_iload2 (q := 40) hG d_Su_waysOf_39 rfl ?_
      refine gx_icmp_gt (tgt := 69) (q := 43) hG d_Su_waysOf_40 rfl rfl (by omega) (by omega) (fun c40 => ?_) (fun c40 => ?_)
      · exact hk F y (fun x x0 x1 => (h5 x x0 x1).1 (by omega))
      · exfalso; omega
    | succ j ih =>
      intro i a y F h1 h2 h3 h4 h5 hk
      have ha := hn i (by omega) h2
      rw [show (3 : Int) + 1 = 4 by omega, h3] at ha
      refine gx_iload5 (q := 39) hG d_Su_waysOf_37 rfl ?_
      refine gx_iload2 (q := 40) hG d_Su_waysOf_39 rfl ?_
      refine gx_icmp_gt (tgt := 69) (q := 43) hG d_Su_waysOf_40 rfl rfl (by omega) (by omega) (fun c40 => ?_) (fun c40 => ?_)
      · exfalso; omega
      · refine gx_aload0 (q := 44) hG d_Su_waysOf_43 rfl ?_
        refine gx_get (q := 47) hG f_Su_21 hpSu rfl d_Su_waysOf_44 rfl ?_
        refine gx_iload5 (q := 49) hG d_Su_waysOf_47 rfl ?_
        refine gx_dup2 (q := 50) hG d_Su_waysOf_49 rfl ?_
        refine gw_lald (q := 51) hG rfl (by omega) (by omega) d_Su_waysOf_50 rfl ?_
        rw [wc_eq]
        refine gx_aload0 (q := 52) hG d_Su_waysOf_51 rfl ?_
        refine gx_get (q := 55) hG f_Su_21 hpSu rfl d_Su_waysOf_52 rfl ?_
        refine gx_iload5 (q := 57) hG d_Su_waysOf_55 rfl ?_
        refine gx_iload4 (q := 59) hG d_Su_waysOf_57 rfl ?_
        refine gx_isub (q := 60) hG d_Su_waysOf_59 rfl ?_
        refine gw_lald (q := 61) hG rfl (by omega) (by omega) d_Su_waysOf_60 rfl ?_
        rw [wc_eq]
        refine gx_ladd (q := 62) hG d_Su_waysOf_61 rfl ?_
        refine gw_last (q := 63) hG rfl (by omega) (by omega) d_Su_waysOf_62 rfl ?_
        rw [wu_wcc]
        refine gx_iinc5 (q := 66) hG d_Su_waysOf_63 rfl rfl ?_
        refine gx_goto (tgt := 37) hG d_Su_waysOf_66 rfl ?_
        exact ih i a (y + 1) _ (by omega) h2 h3 (by omega) (WB_step h3 (by omega) (by omega) (by omega) h5) hk
  have L : ∀ (j i : Nat) (F : Int → Int) (o4 o5 : Option Value), (i : Int) + j = w 3 1 → one1 [o4] 0 = true → one1 [o5] 0 = true → (∀ x : Int, 0 ≤ x → x ≤ v → F x = wyT (w 4) i x) → G 17 [some (Vr 19), some (Vr 3), some (Vi v), some (Vi (i : Int)), o4, o5] [] 102 (hp (wc w 23 F)) := by
    intro j
    induction j with
    | zero =>
      intro i F o4 o5 h1 g4 g5 h2
      have e3 : wc w 23 F 3 1 = w 3 1 := by rw [wc_ne (by omega)]
      refine gx_iload3 (q := 18) hG d_Su_waysOf_17 rfl ?_
      refine gx_aload1 (q := 19) hG d_Su_waysOf_18 rfl ?_
      refine gx_get (q := 22) hG f_Su_50 (hpGame (by unfold isG; omega)) rfl d_Su_waysOf_19 rfl ?_
      rw [e3]
      refine gx_icmp_ge (tgt := 75) (q := 25) hG d_Su_waysOf_22 rfl rfl (by omega) (by omega) (fun c22 => ?_) (fun c22 => ?_)
      · refine gx_aload0 (q := 76) hG d_Su_waysOf_75 rfl ?_
        refine gx_get (q := 79) hG f_Su_21 hpSu rfl d_Su_waysOf_76 rfl ?_
        refine gx_iload2 (q := 80) hG d_Su_waysOf_79 rfl ?_
        refine gw_lald (q := 81) hG rfl (by omega) (by omega) d_Su_waysOf_80 rfl ?_
        rw [wc_eq]
        refine gx_lreturn hG d_Su_waysOf_81 rfl rfl ?_
        exact ⟨_, rfl, _, rfl, by rw [show (w 3 1).toNat = i by omega]; exact h2 v (by omega) (by omega), F, rfl⟩
      · exfalso; omega
    | succ j ih =>
      intro i F o4 o5 h1 g4 g5 h2
      have e3 : wc w 23 F 3 1 = w 3 1 := by rw [wc_ne (by omega)]
      have e4 : wc w 23 F (3 + 1) i = w 4 i := by rw [show (3 : Int) + 1 = 4 by omega, wc_ne (by omega)]
      have ha := hn i (by omega) (by omega)
      rw [show (3 : Int) + 1 = 4 by omega] at ha
      have K : ∀ (F' : Int → Int) (y' : Int), (∀ x : Int, 0 ≤ x → x ≤ v → F' x = wyT (w 4) (i + 1) x) → G 69 [some (Vr 19), some (Vr 3), some (Vi v), some (Vi (i : Int)), some (Vi (w 4 i)), some (Vi y')] [] 102 (hp (wc w 23 F')) := by
        intro F' y' q
        refine gx_iinc3 (q := 72) hG d_Su_waysOf_69 rfl rfl ?_
        refine gx_goto (tgt := 17) hG d_Su_waysOf_72 rfl ?_
        exact ih (i + 1) F' _ _ (by omega) rfl rfl q
      refine gx_iload3 (q := 18) hG d_Su_waysOf_17 rfl ?_
      refine gx_aload1 (q := 19) hG d_Su_waysOf_18 rfl ?_
      refine gx_get (q := 22) hG f_Su_50 (hpGame (by unfold isG; omega)) rfl d_Su_waysOf_19 rfl ?_
      rw [e3]
      refine gx_icmp_ge (tgt := 75) (q := 25) hG d_Su_waysOf_22 rfl rfl (by omega) (by omega) (fun c22 => ?_) (fun c22 => ?_)
      · exfalso; omega
      · refine gx_aload1 (q := 26) hG d_Su_waysOf_25 rfl ?_
        refine gx_get (q := 29) hG f_Su_53 (hpGame (by unfold isG; omega)) rfl d_Su_waysOf_26 rfl ?_
        refine gx_iload3 (q := 30) hG d_Su_waysOf_29 rfl ?_
        refine gw_iald (q := 31) hG rfl (by omega) (by omega) d_Su_waysOf_30 rfl ?_
        rw [e4]
        refine gx_istore4 (q := 33) hG d_Su_waysOf_31 rfl rfl ?_
        refine gx_iload4 (q := 35) hG d_Su_waysOf_33 rfl ?_
        refine gx_istore5 (q := 37) hG d_Su_waysOf_35 rfl rfl ?_
        exact I (v + 1 - w 4 i).toNat i (w 4 i) (w 4 i) F (by omega) (by omega) rfl (by omega) (WB_in rfl (by omega) h2) K
  refine gx_aload0 (q := 1) hG d_Su_waysOf_0 rfl ?_
  refine gx_get (q := 4) hG f_Su_21 hpSu rfl d_Su_waysOf_1 rfl ?_
  refine gx_lconst (q := 5) hG 0 d_Su_waysOf_4 rfl rfl ?_
  refine gw_S2V (q := 8) hG l_Su_77 c_Ar_fillJ (ev_Ar_fillJ (N := 401) rfl) (by decide) (Nat.le_of_ble_eq_true rfl) d_Su_waysOf_5 rfl (by decide) (fun w1 h5 => ?_)
  rw [h5]
  refine gx_aload0 (q := 9) hG d_Su_waysOf_8 rfl ?_
  refine gx_get (q := 12) hG f_Su_21 hpSu rfl d_Su_waysOf_9 rfl ?_
  refine gx_iconst (q := 13) hG d_Su_waysOf_12 rfl ?_
  refine gx_lconst (q := 14) hG 1 d_Su_waysOf_13 rfl rfl ?_
  refine gw_last (q := 15) hG rfl (by omega) (by omega) d_Su_waysOf_14 rfl ?_
  rw [wu_wcc]
  refine gx_iconst (q := 16) hG d_Su_waysOf_15 rfl ?_
  refine gx_istore3 (q := 17) hG d_Su_waysOf_16 rfl rfl ?_
  refine L (w 3 1).toNat 0 _ none none (by omega) rfl rfl (fun x x0 x1 => ?_)
  unfold up fillA wyT
  by_cases c : x = 0
  · rw [if_pos c, if_pos c]
  · rw [if_neg c, if_neg c, if_pos (by omega)]
theorem ev_X_ways {w : Mem} {v : Int} (hO : OK (aX w)) (hj : XJ w) (hv : R3 v) : EvI y_X_ways b_X_ways 2 (some .int) (4) [Vr 0, Vi v] w (PX w (sp_ways (aX w) v)) := by
  refine Ev.mk (isI := false) (by decide +kernel) nofun (Nat.le_of_ble_eq_true rfl) (fun G hG => ?_)
  show G 0 [some (Vr 0), some (Vi v)] [] 102 (hp w)
  have hg := hO.gi hj
  have hlw := hg.2.2.1
  refine gx_iload1 (q := 1) hG d_X_ways_0 rfl ?_
  refine gx_iconst (q := 2) hG d_X_ways_1 rfl ?_
  refine gx_icmp_lt (tgt := 12) (q := 5) hG d_X_ways_2 rfl rfl (by omega) (by omega) (fun c2 => ?_) (fun c2 => ?_)
  · refine gx_iconst (q := 13) hG d_X_ways_12 rfl ?_
    refine gx_ireturn hG d_X_ways_13 rfl rfl ?_
    refine ⟨_, rfl, _, rfl, ?_⟩
    unfold sp_ways; rw [if_pos (by omega)]; exact PX_id hj
  · refine gx_iload1 (q := 6) hG d_X_ways_5 rfl ?_
    refine gx_sipush (q := 9) hG d_X_ways_6 rfl rfl ?_
    refine gx_icmp_le (tgt := 14) (q := 12) hG d_X_ways_9 rfl rfl (by omega) (by omega) (fun c9 => ?_) (fun c9 => ?_)
    · refine gx_aload0 (q := 15) hG d_X_ways_14 rfl ?_
      refine gx_get (q := 18) hG f_X_21 hpX rfl d_X_ways_15 rfl ?_
      refine gx_get (q := 21) hG f_X_148 (hpGame (by unfold isG; omega)) rfl d_X_ways_18 rfl ?_
      refine gx_if_eq (tgt := 27) (q := 24) hG d_X_ways_21 rfl rfl (by omega) (fun c21 => ?_) (fun c21 => ?_)
      · refine gx_aload0 (q := 28) hG d_X_ways_27 rfl ?_
        refine gx_aload0 (q := 29) hG d_X_ways_28 rfl ?_
        refine gx_get (q := 32) hG f_X_69 hpX rfl d_X_ways_29 rfl ?_
        refine gx_aload0 (q := 33) hG d_X_ways_32 rfl ?_
        refine gx_get (q := 36) hG f_X_21 hpX rfl d_X_ways_33 rfl ?_
        refine gx_iload1 (q := 37) hG d_X_ways_36 rfl ?_
        refine gw_V2J (q := 40) hG l_X_221 c_Su_waysOf (ev_Su_waysOf hg (by omega)) hpSu rfl (by decide) (Nat.le_of_ble_eq_true rfl) d_X_ways_37 rfl (by decide) (fun z37 w1 h37 => ?_)
        obtain ⟨rfl, F, rfl⟩ := h37
        have hs : SX w (wc w 23 F) := SX_scr hj (fun b hb => wc_ne (by omega))
        refine gx_lconst (q := 41) hG 1 d_X_ways_40 rfl rfl ?_
        refine gw_V2V (q := 44) hG l_X_225 c_X_tellFraction (ev_X_tellFraction (Or.inl rfl)) hpX rfl (by decide) (Nat.le_of_ble_eq_true rfl) d_X_ways_41 rfl (by decide) (fun w2 h41 => ?_)
        refine gx_iconst (q := 45) hG d_X_ways_44 rfl ?_
        refine gx_ireturn hG d_X_ways_45 rfl rfl ?_
        refine ⟨_, rfl, _, rfl, ?_⟩
        unfold sp_ways; rw [if_neg (by omega), if_neg (show ¬ aX w 4 0 ≠ 0 from fun q => q c21), h41, show wyT (aX w 5) (aX w 4 1).toNat v = wyT (w 4) (w 3 1).toNat v from (wyT_congr _ numX v).symm]
        exact SX_fr hs
      · refine gx_bipush (q := 26) hG d_X_ways_24 rfl rfl ?_
        refine gx_ireturn hG d_X_ways_26 rfl rfl ?_
        refine ⟨_, rfl, _, rfl, ?_⟩
        unfold sp_ways; rw [if_neg (by omega), if_pos (show aX w 4 0 ≠ 0 from c21)]; exact PX_id hj
    · refine gx_iconst (q := 13) hG d_X_ways_12 rfl ?_
      refine gx_ireturn hG d_X_ways_13 rfl rfl ?_
      refine ⟨_, rfl, _, rfl, ?_⟩
      unfold sp_ways; rw [if_pos (by omega)]; exact PX_id hj
theorem ev_M_whole {w : Mem} {u z : Int} : EvI y_M_whole b_M_whole 4 (some .int) (1) [Vr 76, Vj u, Vi z] w (fun z' w' => z' = z ∧ w' = wu (wu w 76 3 u) 76 4 1) := by
  refine Ev.mk (isI := false) (by decide +kernel) nofun (Nat.le_of_ble_eq_true rfl) (fun G hG => ?_)
  show G 0 [some (Vr 76), some (Vj u), none, some (Vi z)] [] 102 (hp w)
  refine gx_aload0 (q := 1) hG d_M_whole_0 rfl ?_
  refine gx_lload1 (q := 2) hG d_M_whole_1 rfl ?_
  refine gw_putj (q := 5) hG f_M_103 hpM (Nat.le_of_ble_eq_true rfl) vfit_l (Or.inl rfl) d_M_whole_2 rfl 3 rfl rfl ?_
  refine gx_aload0 (q := 6) hG d_M_whole_5 rfl ?_
  refine gx_lconst (q := 7) hG 1 d_M_whole_6 rfl rfl ?_
  refine gw_putj (q := 10) hG f_M_88 hpM (Nat.le_of_ble_eq_true rfl) vfit_l (Or.inl rfl) d_M_whole_7 rfl 4 rfl rfl ?_
  refine gx_iload3 (q := 11) hG d_M_whole_10 rfl ?_
  refine gx_ireturn hG d_M_whole_11 rfl rfl ?_
  exact ⟨_, rfl, _, rfl, rfl, rfl⟩
theorem SM_fr {w w1 : Mem} {u z : Int} (h : SM w w1) : PM w (z, fr1 (aM w) u) z (wu (wu w1 76 3 u) 76 4 1) := by
  refine PM_tr h ?_
  unfold fr1
  rw [← h.1]
  exact PM_mk (by rw [aM_u4, aM_u3]) (fun b hb => by rw [wu_ne (by omega), wu_ne (by omega)])
theorem SM_scr {w w' : Mem} (h : ∀ b, b < 76 ∨ b = 76 ∨ (77 ≤ b ∧ b < 80) ∨ (81 ≤ b ∧ b < 83) ∨ (84 ≤ b ∧ b < 86) ∨ (88 ≤ b ∧ b < 91) → w' b = w b) : SM w w' :=
  ⟨aM_scr (fun b hb => h b (by omega)) (fun j _ => by rw [h 76 (by omega)]), fun b hb => h b (by omega)⟩
theorem ev_M_ways {w : Mem} {v : Int} (hO : OK (aM w)) (hv : R3 v) : EvI y_M_ways b_M_ways 4 (some .int) (2) [Vr 76, Vi v] w (PM w (sp_ways (aM w) v)) := by
  refine Ev.mk (isI := false) (by decide +kernel) nofun (Nat.le_of_ble_eq_true rfl) (fun G hG => ?_)
  show G 0 [some (Vr 76), some (Vi v), none, none] [] 102 (hp w)
  have hn := hO.nn
  have hl := hO.law
  have e1 : aM w 4 1 = w 76 14 := rfl
  have e0 : aM w 4 0 = w 76 11 := rfl
  rw [e1] at hn
  rw [e0] at hl
  have eM : ∀ F, wc w 91 F 76 14 = w 76 14 := fun F => by rw [wc_ne (by omega)]
  have I : ∀ (j : Nat) (i : Nat) (a y : Int) (F : Int → Int), (1 ≤ v ∧ v ≤ 400) → (y + j = v + 1 ∨ (j = 0 ∧ v < y)) → (i : Int) < w 76 14 → w 85 i = a → (a ≤ y ∧ y ≤ 500) → WB (w 85) i y F v → (∀ (F' : Int → Int) (y' : Int), (∀ x : Int, 0 ≤ x → x ≤ v → F' x = wyT (w 85) (i + 1) x) → G 100 [some (Vr 76), some (Vi v), some (Vi (i : Int)), some (Vi y')] [] 102 (hp (wc w 91 F'))) → G 67 [some (Vr 76), some (Vi v), some (Vi (i : Int)), some (Vi y)] [] 102 (hp (wc w 91 F)) := by
    intro j
    induction j with
    | zero =>
      intro i a y F hv h1 h2 h3 h4 h5 hk
      have ha := hO.mn i (by omega) h2
      rw [h3] at ha
      refine gx_iload3 (q := 68) hG d_M_ways_67 rfl ?_
      refine gx_iload1 (q := 69) hG d_M_ways_68 rfl ?_
      refine gx_icmp_gt (tgt := 100) (q := 72) hG d_M_ways_69 rfl rfl (by omega) (by omega) (fun c69 => ?_) (fun c69 => ?_)
      · exact hk F y (fun x x0 x1 => (h5 x x0 x1).1 (by omega))
      · exfalso; omega
    | succ j ih =>
      intro i a y F hv h1 h2 h3 h4 h5 hk
      have ha := hO.mn i (by omega) h2
      rw [h3] at ha
      have e5 : wc w 91 F 85 i = a := by rw [wc_ne (by omega), h3]
      refine gx_iload3 (q := 68) hG d_M_ways_67 rfl ?_
      refine gx_iload1 (q := 69) hG d_M_ways_68 rfl ?_
      refine gx_icmp_gt (tgt := 100) (q := 72) hG d_M_ways_69 rfl rfl (by omega) (by omega) (fun c69 => ?_) (fun c69 => ?_)
      · exfalso; omega
      · refine gx_aload0 (q := 73) hG d_M_ways_72 rfl ?_
        refine gx_get (q := 76) hG f_M_53 hpM rfl d_M_ways_73 rfl ?_
        refine gx_iload3 (q := 77) hG d_M_ways_76 rfl ?_
        refine gx_dup2 (q := 78) hG d_M_ways_77 rfl ?_
        refine gw_lald (q := 79) hG rfl (by omega) (by omega) d_M_ways_78 rfl ?_
        rw [wc_eq]
        refine gx_aload0 (q := 80) hG d_M_ways_79 rfl ?_
        refine gx_get (q := 83) hG f_M_53 hpM rfl d_M_ways_80 rfl ?_
        refine gx_iload3 (q := 84) hG d_M_ways_83 rfl ?_
        refine gx_aload0 (q := 85) hG d_M_ways_84 rfl ?_
        refine gx_get (q := 88) hG f_M_35 hpM rfl d_M_ways_85 rfl ?_
        refine gx_iload2 (q := 89) hG d_M_ways_88 rfl ?_
        refine gw_iald (q := 90) hG rfl (by omega) (by omega) d_M_ways_89 rfl ?_
        rw [e5]
        refine gx_isub (q := 91) hG d_M_ways_90 rfl ?_
        refine gw_lald (q := 92) hG rfl (by omega) (by omega) d_M_ways_91 rfl ?_
        rw [wc_eq]
        refine gx_ladd (q := 93) hG d_M_ways_92 rfl ?_
        refine gw_last (q := 94) hG rfl (by omega) (by omega) d_M_ways_93 rfl ?_
        rw [wu_wcc]
        refine gx_iinc3 (q := 97) hG d_M_ways_94 rfl rfl ?_
        refine gx_goto (tgt := 67) hG d_M_ways_97 rfl ?_
        exact ih i a (y + 1) _ hv (by omega) h2 h3 (by omega) (WB_step h3 (by omega) (by omega) (by omega) h5) hk
  have L : ∀ (j i : Nat) (F : Int → Int) (o3 : Option Value), (1 ≤ v ∧ v ≤ 400) → w 76 11 = 0 → (i : Int) + j = w 76 14 → one1 [o3] 0 = true → (∀ x : Int, 0 ≤ x → x ≤ v → F x = wyT (w 85) i x) → G 52 [some (Vr 76), some (Vi v), some (Vi (i : Int)), o3] [] 102 (hp (wc w 91 F)) := by
    intro j
    induction j with
    | zero =>
      intro i F o3 hv h0 h1 g3 h2
      refine gx_iload2 (q := 53) hG d_M_ways_52 rfl ?_
      refine gx_aload0 (q := 54) hG d_M_ways_53 rfl ?_
      refine gx_get (q := 57) hG f_M_178 hpM rfl d_M_ways_54 rfl ?_
      rw [eM]
      refine gx_icmp_ge (tgt := 106) (q := 60) hG d_M_ways_57 rfl rfl (by omega) (by omega) (fun c57 => ?_) (fun c57 => ?_)
      · refine gx_aload0 (q := 107) hG d_M_ways_106 rfl ?_
        refine gx_aload0 (q := 108) hG d_M_ways_107 rfl ?_
        refine gx_get (q := 111) hG f_M_53 hpM rfl d_M_ways_108 rfl ?_
        refine gx_iload1 (q := 112) hG d_M_ways_111 rfl ?_
        refine gw_lald (q := 113) hG rfl (by omega) (by omega) d_M_ways_112 rfl ?_
        rw [wc_eq]
        refine gx_iconst (q := 114) hG d_M_ways_113 rfl ?_
        refine gw_V2I (q := 117) hG l_M_202 c_M_whole (ev_M_whole) hpM rfl (by decide) (Nat.le_of_ble_eq_true rfl) d_M_ways_114 rfl (by decide) (fun z w1 h114 => ?_)
        refine gx_ireturn hG d_M_ways_117 rfl rfl ?_
        refine ⟨_, rfl, _, rfl, ?_⟩
        obtain ⟨rfl, rfl⟩ := h114
        unfold sp_ways
        rw [if_neg (by omega), if_neg (show ¬ aM w 4 0 ≠ 0 from fun q => q h0), h2 v (by omega) (by omega), show wyT (aM w 5) (aM w 4 1).toNat v = wyT (w 85) i v from by rw [← show (w 76 14).toNat = i by omega]; exact (wyT_congr _ numM v).symm]
        exact SM_fr (SM_scr (fun b hb => wc_ne (by omega)))
      · exfalso; omega
    | succ j ih =>
      intro i F o3 hv h0 h1 g3 h2
      have e4 : wc w 91 F 85 i = w 85 i := by rw [wc_ne (by omega)]
      have ha := hO.mn i (by omega) (by omega)
      have K : ∀ (F' : Int → Int) (y' : Int), (∀ x : Int, 0 ≤ x → x ≤ v → F' x = wyT (w 85) (i + 1) x) → G 100 [some (Vr 76), some (Vi v), some (Vi (i : Int)), some (Vi y')] [] 102 (hp (wc w 91 F')) := by
        intro F' y' q
        refine gx_iinc2 (q := 103) hG d_M_ways_100 rfl rfl ?_
        refine gx_goto (tgt := 52) hG d_M_ways_103 rfl ?_
        exact ih (i + 1) F' _ hv h0 (by omega) rfl q
      refine gx_iload2 (q := 53) hG d_M_ways_52 rfl ?_
      refine gx_aload0 (q := 54) hG d_M_ways_53 rfl ?_
      refine gx_get (q := 57) hG f_M_178 hpM rfl d_M_ways_54 rfl ?_
      rw [eM]
      refine gx_icmp_ge (tgt := 106) (q := 60) hG d_M_ways_57 rfl rfl (by omega) (by omega) (fun c57 => ?_) (fun c57 => ?_)
      · exfalso; omega
      · refine gx_aload0 (q := 61) hG d_M_ways_60 rfl ?_
        refine gx_get (q := 64) hG f_M_35 hpM rfl d_M_ways_61 rfl ?_
        refine gx_iload2 (q := 65) hG d_M_ways_64 rfl ?_
        refine gw_iald (q := 66) hG rfl (by omega) (by omega) d_M_ways_65 rfl ?_
        rw [e4]
        refine gx_istore3 (q := 67) hG d_M_ways_66 rfl rfl ?_
        exact I (v + 1 - w 85 i).toNat i (w 85 i) (w 85 i) F hv (by omega) (by omega) rfl (by omega) (WB_in rfl (by omega) h2) K
  have A : ∀ (j k : Nat), (1 ≤ v ∧ v ≤ 400) → w 76 11 = 0 → (k : Int) + j = v → G 25 [some (Vr 76), some (Vi v), some (Vi ((k : Int) + 1)), none] [] 102 (hp (wc w 91 (fillR 1 k (w 91) 0))) := by
    intro j
    induction j with
    | zero =>
      intro k hv h0 h1
      refine gx_iload2 (q := 26) hG d_M_ways_25 rfl ?_
      refine gx_iload1 (q := 27) hG d_M_ways_26 rfl ?_
      refine gx_icmp_gt (tgt := 43) (q := 30) hG d_M_ways_27 rfl rfl (by omega) (by omega) (fun c27 => ?_) (fun c27 => ?_)
      · refine gx_aload0 (q := 44) hG d_M_ways_43 rfl ?_
        refine gx_get (q := 47) hG f_M_53 hpM rfl d_M_ways_44 rfl ?_
        refine gx_iconst (q := 48) hG d_M_ways_47 rfl ?_
        refine gx_lconst (q := 49) hG 1 d_M_ways_48 rfl rfl ?_
        refine gw_last (q := 50) hG rfl (by omega) (by omega) d_M_ways_49 rfl ?_
        rw [wu_wcc]
        refine gx_iconst (q := 51) hG d_M_ways_50 rfl ?_
        refine gx_istore2 (q := 52) hG d_M_ways_51 rfl rfl ?_
        refine L (w 76 14).toNat 0 _ none hv h0 (by omega) rfl (fun x x0 x1 => ?_)
        unfold up fillR wyT
        by_cases c : x = 0
        · rw [if_pos c, if_pos c]
        · rw [if_neg c, if_neg c, if_pos (by omega)]
      · exfalso; omega
    | succ j ih =>
      intro k hv h0 h1
      have e : wu (wc w 91 (fillR 1 k (w 91) 0)) 91 ((k : Int) + 1) 0 = wc w 91 (fillR 1 (k + 1) (w 91) 0) := by
        rw [show (k : Int) + 1 = 1 + k by omega]
        exact fillR_s
      refine gx_iload2 (q := 26) hG d_M_ways_25 rfl ?_
      refine gx_iload1 (q := 27) hG d_M_ways_26 rfl ?_
      refine gx_icmp_gt (tgt := 43) (q := 30) hG d_M_ways_27 rfl rfl (by omega) (by omega) (fun c27 => ?_) (fun c27 => ?_)
      · exfalso; omega
      · refine gx_aload0 (q := 31) hG d_M_ways_30 rfl ?_
        refine gx_get (q := 34) hG f_M_53 hpM rfl d_M_ways_31 rfl ?_
        refine gx_iload2 (q := 35) hG d_M_ways_34 rfl ?_
        refine gx_lconst (q := 36) hG 0 d_M_ways_35 rfl rfl ?_
        refine gw_last (q := 37) hG rfl (by omega) (by omega) d_M_ways_36 rfl ?_
        rw [e]
        refine gx_iinc2 (q := 40) hG d_M_ways_37 rfl rfl ?_
        refine gx_goto (tgt := 25) hG d_M_ways_40 rfl ?_
        exact ih (k + 1) hv h0 (by omega)
  refine gx_iload1 (q := 1) hG d_M_ways_0 rfl ?_
  refine gx_iconst (q := 2) hG d_M_ways_1 rfl ?_
  refine gx_sipush (q := 5) hG d_M_ways_2 rfl rfl ?_
  refine gw_S3X (q := 8) hG l_M_96 c_M_in (ev_M_in (by omega) (by omega) (by omega)) (by decide) (Nat.le_of_ble_eq_true rfl) d_M_ways_5 rfl (by decide) ?_
  refine gx_if_ne (tgt := 13) (q := 11) hG d_M_ways_8 rfl rfl (bi_R _) (fun c8 => ?_) (fun c8 => ?_)
  · have c8 := bi_ne0.mp c8
    refine gx_aload0 (q := 14) hG d_M_ways_13 rfl ?_
    refine gx_get (q := 17) hG f_M_172 hpM rfl d_M_ways_14 rfl ?_
    refine gx_if_eq (tgt := 23) (q := 20) hG d_M_ways_17 rfl rfl (by omega) (fun c17 => ?_) (fun c17 => ?_)
    · refine gx_iconst (q := 24) hG d_M_ways_23 rfl ?_
      refine gx_istore2 (q := 25) hG d_M_ways_24 rfl rfl ?_
      have e := A v.toNat 0 (by omega) c17 (by omega)
      rw [fillR_0] at e
      exact e
    · refine gx_bipush (q := 22) hG d_M_ways_20 rfl rfl ?_
      refine gx_ireturn hG d_M_ways_22 rfl rfl ?_
      refine ⟨_, rfl, _, rfl, ?_⟩
      unfold sp_ways; rw [if_neg (by omega), if_pos (show aM w 4 0 ≠ 0 from c17)]; exact PM_id
  · have c8 := bi_eq0.mp c8
    refine gx_iconst (q := 12) hG d_M_ways_11 rfl ?_
    refine gx_ireturn hG d_M_ways_12 rfl rfl ?_
    refine ⟨_, rfl, _, rfl, ?_⟩
    unfold sp_ways; rw [if_pos (by omega)]; exact PM_id

