/-! part 56: ways by just so many -/
/-- the table while one number's ways are put in: coins c, sums from y on are still to come -/
def JB (num : Int → Int) (i kk c : Nat) (y : Int) (top : Int) (T : Nat → Int → Int) : Prop := ∀ (c' : Nat) (x : Int), c' ≤ kk → 0 ≤ x → x ≤ top → ((c' < c ∨ (c' = c ∧ x < y)) → T c' x = nbT num (i + 1) c' x) ∧ (¬ (c' < c ∨ (c' = c ∧ x < y)) → T c' x = nbT num i c' x)
theorem JB_in {num : Int → Int} {i kk : Nat} {a top : Int} {T : Nat → Int → Int} (ha : num i = a) (h : ∀ (c' : Nat) (x : Int), c' ≤ kk → 0 ≤ x → x ≤ top → T c' x = nbT num i c' x) : JB num i kk 1 a top T := by
  intro c' x h1 h2 h3
  refine ⟨fun q => ?_, fun _ => h c' x h1 h2 h3⟩
  rw [h c' x h1 h2 h3]
  rcases q with q | ⟨rfl, q⟩
  · have e : c' = 0 := by omega
    subst e
    rfl
  · rw [show (1 : Nat) = 0 + 1 from rfl, nbT_s, ha, if_neg (by omega)]
    omega
theorem JB_step {num : Int → Int} {i kk c : Nat} {y a top : Int} {T T' : Nat → Int → Int} (ha : num i = a) (ha1 : 1 ≤ a) (hc : 1 ≤ c ∧ c ≤ kk) (hy : a ≤ y) (hyt : y ≤ top) (h : JB num i kk c y top T) (e1 : T' c y = T c y + T (c - 1) (y - a)) (e2 : ∀ c' x, c' ≤ kk → 0 ≤ x → x ≤ top → ¬ (c' = c ∧ x = y) → T' c' x = T c' x) : JB num i kk c (y + 1) top T' := by
  intro c' x h1 h2 h3
  by_cases q : c' = c ∧ x = y
  · obtain ⟨rfl, rfl⟩ := q
    refine ⟨fun _ => ?_, fun q => absurd (Or.inr ⟨rfl, by omega⟩) q⟩
    obtain ⟨d, rfl⟩ : ∃ d, c' = d + 1 := ⟨c' - 1, by omega⟩
    rw [e1, nbT_s, ha, if_pos hy, (h (d + 1) x h1 h2 h3).2 (by omega), show d + 1 - 1 = d by omega, (h d (x - a) (by omega) (by omega) (by omega)).1 (Or.inl (by omega))]
  · rw [e2 c' x h1 h2 h3 q]
    exact ⟨fun z => (h c' x h1 h2 h3).1 (by omega), fun z => (h c' x h1 h2 h3).2 (by omega)⟩
theorem JB_next {num : Int → Int} {i kk c : Nat} {y a top : Int} {T : Nat → Int → Int} (ha : num i = a) (hy : top < y) (h : JB num i kk c y top T) : JB num i kk (c + 1) a top T := by
  intro c' x h1 h2 h3
  constructor
  · rintro (q | ⟨rfl, q⟩)
    · exact (h c' x h1 h2 h3).1 (by omega)
    · rw [(h (c + 1) x h1 h2 h3).2 (by omega), nbT_s, ha, if_neg (by omega)]
      omega
  · intro q
    exact (h c' x h1 h2 h3).2 (by omega)
theorem shp_just {c : Int} (h : 0 ≤ c ∧ c < 21) : shp (25 + c) = some (1, 401) := by unfold shp; rw [if_neg (by omega), if_neg (by omega), if_pos (by omega)]
theorem ev_Su_waysByJust {w : Mem} {v : Int} {kk : Nat} (h : GI w 3) (hv : 1 ≤ v ∧ v ≤ 400) (hk : 1 ≤ kk ∧ kk ≤ 20) : EvJ y_Su_waysByJust b_Su_waysByJust 8 (some .long) (2) [Vr 19, Vr 3, Vi v, Vi (kk : Int)] w (fun z w' => z = nbT (w 4) (w 3 1).toNat kk v ∧ ∀ b, b < 25 ∨ 45 < b → w' b = w b) := by
  refine Ev.mk (isI := false) (by decide +kernel) nofun (Nat.le_of_ble_eq_true rfl) (fun G hG => ?_)
  show G 0 [some (Vr 19), some (Vr 3), some (Vi v), some (Vi (kk : Int)), none, none, none, none] [] 102 (hp w)
  have hs := h.2.1
  have hn := h.2.2.2.1
  -- the sums of one number of coins
  have I : ∀ (j : Nat) (i c : Nat) (a y : Int) (W : Mem), (y + j = v + 1 ∨ (j = 0 ∧ v < y)) → (i : Int) < w 3 1 → w 4 i = a → (1 ≤ c ∧ c ≤ kk) → (a ≤ y ∧ y ≤ 500) → (∀ b, b < 25 ∨ 45 < b → W b = w b) → JB (w 4) i kk c y v (fun c x => W (25 + c) x) → (∀ (W' : Mem) (y' : Int), (∀ b, b < 25 ∨ 45 < b → W' b = w b) → v < y' → JB (w 4) i kk c y' v (fun c x => W' (25 + c) x) → G 109 [some (Vr 19), some (Vr 3), some (Vi v), some (Vi (kk : Int)), some (Vi (i : Int)), some (Vi a), some (Vi (c : Int)), some (Vi y')] [] 102 (hp W')) → G 69 [some (Vr 19), some (Vr 3), some (Vi v), some (Vi (kk : Int)), some (Vi (i : Int)), some (Vi a), some (Vi (c : Int)), some (Vi y)] [] 102 (hp W) := by
    intro j
    induction j with
    | zero =>
      intro i c a y W h1 h2 h3 h4 h5 h6 h7 hK
      have ha := hn i (by omega) h2
      rw [show (3 : Int) + 1 = 4 by omega, h3] at ha
      refine gx_iload7 (q := 71) hG d_Su_waysByJust_69 rfl ?_
      refine gx_iload2 (q := 72) hG d_Su_waysByJust_71 rfl ?_
      refine gx_icmp_gt (tgt := 109) (q := 75) hG d_Su_waysByJust_72 rfl rfl (by omega) (by omega) (fun c72 => ?_) (fun c72 => ?_)
      · exact hK W y h6 (by omega) h7
      · exfalso; omega
    | succ j ih =>
      intro i c a y W h1 h2 h3 h4 h5 h6 h7 hK
      have ha := hn i (by omega) h2
      rw [show (3 : Int) + 1 = 4 by omega, h3] at ha
      have eb : ∀ b, b < 25 ∨ 45 < b → wu W (25 + (c : Int)) y (W (25 + (c : Int)) y + W (25 + ((c : Int) - 1)) (y - a)) b = w b := fun b hb => by rw [wu_ne (by omega), h6 b hb]
      refine gx_iload7 (q := 71) hG d_Su_waysByJust_69 rfl ?_
      refine gx_iload2 (q := 72) hG d_Su_waysByJust_71 rfl ?_
      refine gx_icmp_gt (tgt := 109) (q := 75) hG d_Su_waysByJust_72 rfl rfl (by omega) (by omega) (fun c72 => ?_) (fun c72 => ?_)
      · exfalso; omega
      · refine gx_aload0 (q := 76) hG d_Su_waysByJust_75 rfl ?_
        refine gx_get (q := 79) hG f_Su_27 hpSu rfl d_Su_waysByJust_76 rfl ?_
        refine gx_iload6 (q := 81) hG d_Su_waysByJust_79 rfl ?_
        refine gx_fald (q := 82) hG hpJust (by decide) (by omega) (by omega) (by first | decide | omega) (by first | decide | omega) d_Su_waysByJust_81 rfl ?_
        refine gx_iload7 (q := 84) hG d_Su_waysByJust_82 rfl ?_
        refine gx_dup2 (q := 85) hG d_Su_waysByJust_84 rfl ?_
        refine gw_lald (q := 86) hG (shp_just (by omega)) (by omega) (by omega) d_Su_waysByJust_85 rfl ?_
        refine gx_aload0 (q := 87) hG d_Su_waysByJust_86 rfl ?_
        refine gx_get (q := 90) hG f_Su_27 hpSu rfl d_Su_waysByJust_87 rfl ?_
        refine gx_iload6 (q := 92) hG d_Su_waysByJust_90 rfl ?_
        refine gx_iconst (q := 93) hG d_Su_waysByJust_92 rfl ?_
        refine gx_isub (q := 94) hG d_Su_waysByJust_93 rfl ?_
        refine gx_fald (q := 95) hG hpJust (by decide) (by omega) (by omega) (by first | decide | omega) (by first | decide | omega) d_Su_waysByJust_94 rfl ?_
        refine gx_iload7 (q := 97) hG d_Su_waysByJust_95 rfl ?_
        refine gx_iload5 (q := 99) hG d_Su_waysByJust_97 rfl ?_
        refine gx_isub (q := 100) hG d_Su_waysByJust_99 rfl ?_
        refine gw_lald (q := 101) hG (shp_just (by omega)) (by omega) (by omega) d_Su_waysByJust_100 rfl ?_
        refine gx_ladd (q := 102) hG d_Su_waysByJust_101 rfl ?_
        refine gw_last (q := 103) hG (shp_just (by omega)) (by omega) (by omega) d_Su_waysByJust_102 rfl ?_
        refine gx_iinc7 (q := 106) hG d_Su_waysByJust_103 rfl rfl ?_
        refine gx_goto (tgt := 69) hG d_Su_waysByJust_106 rfl ?_
        refine ih i c a (y + 1) _ (by omega) h2 h3 h4 (by omega) eb (JB_step h3 (by omega) h4 (by omega) (by omega) h7 ?_ (fun c' x q0 q1 q2 q3 => ?_)) hK
        · show wu W _ _ _ _ _ = _
          rw [wu_eq, show ((c - 1 : Nat) : Int) = (c : Int) - 1 by omega]
        · show wu W _ _ _ _ _ = _
          rw [wu_get, if_neg (fun z => q3 ⟨by omega, z.2⟩)]
  -- the numbers of coins
  have C : ∀ (j : Nat) (i c : Nat) (a : Int) (W : Mem) (o7 : Option Value), c + j = kk + 1 → (i : Int) < w 3 1 → w 4 i = a → 1 ≤ c → one1 [o7] 0 = true → (∀ b, b < 25 ∨ 45 < b → W b = w b) → JB (w 4) i kk c a v (fun c x => W (25 + c) x) → (∀ (W' : Mem) (o7' : Option Value), one1 [o7'] 0 = true → (∀ b, b < 25 ∨ 45 < b → W' b = w b) → JB (w 4) i kk (kk + 1) a v (fun c x => W' (25 + c) x) → G 115 [some (Vr 19), some (Vr 3), some (Vi v), some (Vi (kk : Int)), some (Vi (i : Int)), some (Vi a), some (Vi ((kk : Int) + 1)), o7'] [] 102 (hp W')) → G 59 [some (Vr 19), some (Vr 3), some (Vi v), some (Vi (kk : Int)), some (Vi (i : Int)), some (Vi a), some (Vi (c : Int)), o7] [] 102 (hp W) := by
    intro j
    induction j with
    | zero =>
      intro i c a W o7 h1 h2 h3 h4 g7 h6 h7 hK
      refine gx_iload6 (q := 61) hG d_Su_waysByJust_59 rfl ?_
      refine gx_iload3 (q := 62) hG d_Su_waysByJust_61 rfl ?_
      refine gx_icmp_gt (tgt := 115) (q := 65) hG d_Su_waysByJust_62 rfl rfl (by omega) (by omega) (fun c62 => ?_) (fun c62 => ?_)
      · have e := hK W o7 g7 h6 (by rw [← show c = kk + 1 by omega]; exact h7)
        rw [show (kk : Int) + 1 = (c : Int) by omega] at e
        exact e
      · exfalso; omega
    | succ j ih =>
      intro i c a W o7 h1 h2 h3 h4 g7 h6 h7 hK
      have ha := hn i (by omega) h2
      rw [show (3 : Int) + 1 = 4 by omega, h3] at ha
      have K : ∀ (W' : Mem) (y' : Int), (∀ b, b < 25 ∨ 45 < b → W' b = w b) → v < y' → JB (w 4) i kk c y' v (fun c x => W' (25 + c) x) → G 109 [some (Vr 19), some (Vr 3), some (Vi v), some (Vi (kk : Int)), some (Vi (i : Int)), some (Vi a), some (Vi (c : Int)), some (Vi y')] [] 102 (hp W') := by
        intro W' y' q1 q2 q3
        refine gx_iinc6 (q := 112) hG d_Su_waysByJust_109 rfl rfl ?_
        refine gx_goto (tgt := 59) hG d_Su_waysByJust_112 rfl ?_
        exact ih i (c + 1) a W' _ (by omega) h2 h3 (by omega) rfl q1 (JB_next h3 q2 q3) hK
      refine gx_iload6 (q := 61) hG d_Su_waysByJust_59 rfl ?_
      refine gx_iload3 (q := 62) hG d_Su_waysByJust_61 rfl ?_
      refine gx_icmp_gt (tgt := 115) (q := 65) hG d_Su_waysByJust_62 rfl rfl (by omega) (by omega) (fun c62 => ?_) (fun c62 => ?_)
      · exfalso; omega
      · refine gx_iload5 (q := 67) hG d_Su_waysByJust_65 rfl ?_
        refine gx_istore7 (q := 69) hG d_Su_waysByJust_67 rfl rfl ?_
        exact I (v + 1 - a).toNat i c a a W (by omega) h2 h3 (by omega) (by omega) h6 h7 K
  have L : ∀ (j i : Nat) (W : Mem) (o5 o6 o7 : Option Value), (i : Int) + j = w 3 1 → one1 [o5] 0 = true → one1 [o6] 0 = true → one1 [o7] 0 = true → (∀ b, b < 25 ∨ 45 < b → W b = w b) → (∀ (c' : Nat) (x : Int), c' ≤ kk → 0 ≤ x → x ≤ v → W (25 + c') x = nbT (w 4) i c' x) → G 38 [some (Vr 19), some (Vr 3), some (Vi v), some (Vi (kk : Int)), some (Vi (i : Int)), o5, o6, o7] [] 102 (hp W) := by
    intro j
    induction j with
    | zero =>
      intro i W o5 o6 o7 h1 g5 g6 g7 h6 h7
      have e3 : W 3 1 = w 3 1 := by rw [h6 3 (by omega)]
      refine gx_iload4 (q := 40) hG d_Su_waysByJust_38 rfl ?_
      refine gx_aload1 (q := 41) hG d_Su_waysByJust_40 rfl ?_
      refine gx_get (q := 44) hG f_Su_50 (hpGame (by unfold isG; omega)) rfl d_Su_waysByJust_41 rfl ?_
      rw [e3]
      refine gx_icmp_ge (tgt := 121) (q := 47) hG d_Su_waysByJust_44 rfl rfl (by omega) (by omega) (fun c44 => ?_) (fun c44 => ?_)
      · refine gx_aload0 (q := 122) hG d_Su_waysByJust_121 rfl ?_
        refine gx_get (q := 125) hG f_Su_27 hpSu rfl d_Su_waysByJust_122 rfl ?_
        refine gx_iload3 (q := 126) hG d_Su_waysByJust_125 rfl ?_
        refine gx_fald (q := 127) hG hpJust (by decide) (by omega) (by omega) (by first | decide | omega) (by first | decide | omega) d_Su_waysByJust_126 rfl ?_
        refine gx_iload2 (q := 128) hG d_Su_waysByJust_127 rfl ?_
        refine gw_lald (q := 129) hG (shp_just (by omega)) (by omega) (by omega) d_Su_waysByJust_128 rfl ?_
        refine gx_lreturn hG d_Su_waysByJust_129 rfl rfl ?_
        exact ⟨_, rfl, _, rfl, by rw [show (w 3 1).toNat = i by omega]; exact h7 kk v (by omega) (by omega) (by omega), h6⟩
      · exfalso; omega
    | succ j ih =>
      intro i W o5 o6 o7 h1 g5 g6 g7 h6 h7
      have e3 : W 3 1 = w 3 1 := by rw [h6 3 (by omega)]
      have e4 : W (3 + 1) i = w 4 i := by rw [show (3 : Int) + 1 = 4 by omega, h6 4 (by omega)]
      have ha := hn i (by omega) (by omega)
      rw [show (3 : Int) + 1 = 4 by omega] at ha
      have K : ∀ (W' : Mem) (o7' : Option Value), one1 [o7'] 0 = true → (∀ b, b < 25 ∨ 45 < b → W' b = w b) → JB (w 4) i kk (kk + 1) (w 4 i) v (fun c x => W' (25 + c) x) → G 115 [some (Vr 19), some (Vr 3), some (Vi v), some (Vi (kk : Int)), some (Vi (i : Int)), some (Vi (w 4 i)), some (Vi ((kk : Int) + 1)), o7'] [] 102 (hp W') := by
        intro W' o7' q0 q1 q2
        refine gx_iinc4 (q := 118) hG d_Su_waysByJust_115 rfl rfl ?_
        refine gx_goto (tgt := 38) hG d_Su_waysByJust_118 rfl ?_
        exact ih (i + 1) W' _ _ o7' (by omega) rfl rfl q0 q1 (fun c' x r0 r1 r2 => (q2 c' x r0 r1 r2).1 (Or.inl (by omega)))
      refine gx_iload4 (q := 40) hG d_Su_waysByJust_38 rfl ?_
      refine gx_aload1 (q := 41) hG d_Su_waysByJust_40 rfl ?_
      refine gx_get (q := 44) hG f_Su_50 (hpGame (by unfold isG; omega)) rfl d_Su_waysByJust_41 rfl ?_
      rw [e3]
      refine gx_icmp_ge (tgt := 121) (q := 47) hG d_Su_waysByJust_44 rfl rfl (by omega) (by omega) (fun c44 => ?_) (fun c44 => ?_)
      · exfalso; omega
      · refine gx_aload1 (q := 48) hG d_Su_waysByJust_47 rfl ?_
        refine gx_get (q := 51) hG f_Su_53 (hpGame (by unfold isG; omega)) rfl d_Su_waysByJust_48 rfl ?_
        refine gx_iload4 (q := 53) hG d_Su_waysByJust_51 rfl ?_
        refine gw_iald (q := 54) hG rfl (by omega) (by omega) d_Su_waysByJust_53 rfl ?_
        rw [e4]
        refine gx_istore5 (q := 56) hG d_Su_waysByJust_54 rfl rfl ?_
        refine gx_iconst (q := 57) hG d_Su_waysByJust_56 rfl ?_
        refine gx_istore6 (q := 59) hG d_Su_waysByJust_57 rfl rfl ?_
        exact C kk i 1 (w 4 i) W o7 (by omega) (by omega) rfl (by omega) g7 h6 (JB_in rfl h7) K
  have A : ∀ (j k : Nat) (W : Mem), k + j = kk + 1 → (∀ b, b < 25 ∨ 45 < b → W b = w b) → (∀ (c' : Nat) (x : Int), c' < k → 0 ≤ x → x ≤ v → W (25 + c') x = 0) → G 3 [some (Vr 19), some (Vr 3), some (Vi v), some (Vi (kk : Int)), some (Vi (k : Int)), none, none, none] [] 102 (hp W) := by
    intro j
    induction j with
    | zero =>
      intro k W h1 h6 h7
      refine gx_iload4 (q := 5) hG d_Su_waysByJust_3 rfl ?_
      refine gx_iload3 (q := 6) hG d_Su_waysByJust_5 rfl ?_
      refine gx_icmp_gt (tgt := 26) (q := 9) hG d_Su_waysByJust_6 rfl rfl (by omega) (by omega) (fun c6 => ?_) (fun c6 => ?_)
      · refine gx_aload0 (q := 27) hG d_Su_waysByJust_26 rfl ?_
        refine gx_get (q := 30) hG f_Su_27 hpSu rfl d_Su_waysByJust_27 rfl ?_
        refine gx_iconst (q := 31) hG d_Su_waysByJust_30 rfl ?_
        refine gx_fald (q := 32) hG hpJust (by decide) (by omega) (by omega) (by first | decide | omega) (by first | decide | omega) d_Su_waysByJust_31 rfl ?_
        refine gx_iconst (q := 33) hG d_Su_waysByJust_32 rfl ?_
        refine gx_lconst (q := 34) hG 1 d_Su_waysByJust_33 rfl rfl ?_
        refine gw_last (q := 35) hG (shp_just (by omega)) (by omega) (by omega) d_Su_waysByJust_34 rfl ?_
        refine gx_iconst (q := 36) hG d_Su_waysByJust_35 rfl ?_
        refine gx_istore4 (q := 38) hG d_Su_waysByJust_36 rfl rfl ?_
        refine L (w 3 1).toNat 0 _ none none none (by omega) rfl rfl rfl (fun b hb => by rw [wu_ne (by omega), h6 b hb]) (fun c' x q0 q1 q2 => ?_)
        unfold nbT
        rw [wu_get]
        by_cases c : c' = 0 ∧ x = 0
        · rw [if_pos ⟨by omega, c.2⟩, if_pos c]
        · rw [if_neg (fun z => c ⟨by omega, z.2⟩), if_neg c]
          exact h7 c' x (by omega) q1 q2
      · exfalso; omega
    | succ j ih =>
      intro k W h1 h6 h7
      refine gx_iload4 (q := 5) hG d_Su_waysByJust_3 rfl ?_
      refine gx_iload3 (q := 6) hG d_Su_waysByJust_5 rfl ?_
      refine gx_icmp_gt (tgt := 26) (q := 9) hG d_Su_waysByJust_6 rfl rfl (by omega) (by omega) (fun c6 => ?_) (fun c6 => ?_)
      · exfalso; omega
      · refine gx_aload0 (q := 10) hG d_Su_waysByJust_9 rfl ?_
        refine gx_get (q := 13) hG f_Su_27 hpSu rfl d_Su_waysByJust_10 rfl ?_
        refine gx_iload4 (q := 15) hG d_Su_waysByJust_13 rfl ?_
        refine gx_fald (q := 16) hG hpJust (by decide) (by omega) (by omega) (by first | decide | omega) (by first | decide | omega) d_Su_waysByJust_15 rfl ?_
        refine gx_lconst (q := 17) hG 0 d_Su_waysByJust_16 rfl rfl ?_
        refine gw_S2V (q := 20) hG l_Su_77 c_Ar_fillJ (ev_Ar_fillJ (N := 401) (shp_just (by omega))) (by decide) (Nat.le_of_ble_eq_true rfl) d_Su_waysByJust_17 rfl (by decide) (fun w1 h17 => ?_)
        subst h17
        refine gx_iinc4 (q := 23) hG d_Su_waysByJust_20 rfl rfl ?_
        refine gx_goto (tgt := 3) hG d_Su_waysByJust_23 rfl ?_
        refine ih (k + 1) _ (by omega) (fun b hb => by rw [wc_ne (by omega), h6 b hb]) (fun c' x q0 q1 q2 => ?_)
        by_cases c : c' = k
        · subst c
          rw [wc_eq]
          unfold fillA
          rw [if_pos (by omega)]
        · rw [wc_ne (by omega)]
          exact h7 c' x (by omega) q1 q2
  refine gx_iconst (q := 1) hG d_Su_waysByJust_0 rfl ?_
  refine gx_istore4 (q := 3) hG d_Su_waysByJust_1 rfl rfl ?_
  exact A (kk + 1) 0 w (by omega) (fun _ _ => rfl) (fun c' x q0 => by omega)
theorem ev_X_byJust {w : Mem} {v k : Int} (hO : OK (aX w)) (hj : XJ w) (hv : R3 v) (hk : R3 k) : EvI y_X_byJust b_X_byJust 3 (some .int) (4) [Vr 0, Vi v, Vi k] w (PX w (sp_byJust (aX w) v k)) := by
  refine Ev.mk (isI := false) (by decide +kernel) nofun (Nat.le_of_ble_eq_true rfl) (fun G hG => ?_)
  show G 0 [some (Vr 0), some (Vi v), some (Vi k)] [] 102 (hp w)
  have hg := hO.gi hj
  have hlw := hg.2.2.1
  refine gx_iload1 (q := 1) hG d_X_byJust_0 rfl ?_
  refine gx_iconst (q := 2) hG d_X_byJust_1 rfl ?_
  refine gx_icmp_lt (tgt := 23) (q := 5) hG d_X_byJust_2 rfl rfl (by omega) (by omega) (fun c2 => ?_) (fun c2 => ?_)
  · refine gx_iconst (q := 24) hG d_X_byJust_23 rfl ?_
    refine gx_ireturn hG d_X_byJust_24 rfl rfl ?_
    refine ⟨_, rfl, _, rfl, ?_⟩
    unfold sp_byJust; rw [if_pos (by omega)]; exact PX_id hj
  · refine gx_iload1 (q := 6) hG d_X_byJust_5 rfl ?_
    refine gx_sipush (q := 9) hG d_X_byJust_6 rfl rfl ?_
    refine gx_icmp_gt (tgt := 23) (q := 12) hG d_X_byJust_9 rfl rfl (by omega) (by omega) (fun c9 => ?_) (fun c9 => ?_)
    · refine gx_iconst (q := 24) hG d_X_byJust_23 rfl ?_
      refine gx_ireturn hG d_X_byJust_24 rfl rfl ?_
      refine ⟨_, rfl, _, rfl, ?_⟩
      unfold sp_byJust; rw [if_pos (by omega)]; exact PX_id hj
    · refine gx_iload2 (q := 13) hG d_X_byJust_12 rfl ?_
      refine gx_iconst (q := 14) hG d_X_byJust_13 rfl ?_
      refine gx_icmp_lt (tgt := 23) (q := 17) hG d_X_byJust_14 rfl rfl (by omega) (by omega) (fun c14 => ?_) (fun c14 => ?_)
      · refine gx_iconst (q := 24) hG d_X_byJust_23 rfl ?_
        refine gx_ireturn hG d_X_byJust_24 rfl rfl ?_
        refine ⟨_, rfl, _, rfl, ?_⟩
        unfold sp_byJust; rw [if_pos (by omega)]; exact PX_id hj
      · refine gx_iload2 (q := 18) hG d_X_byJust_17 rfl ?_
        refine gx_bipush (q := 20) hG d_X_byJust_18 rfl rfl ?_
        refine gx_icmp_le (tgt := 25) (q := 23) hG d_X_byJust_20 rfl rfl (by omega) (by omega) (fun c20 => ?_) (fun c20 => ?_)
        · refine gx_aload0 (q := 26) hG d_X_byJust_25 rfl ?_
          refine gx_get (q := 29) hG f_X_21 hpX rfl d_X_byJust_26 rfl ?_
          refine gx_get (q := 32) hG f_X_148 (hpGame (by unfold isG; omega)) rfl d_X_byJust_29 rfl ?_
          refine gx_if_eq (tgt := 38) (q := 35) hG d_X_byJust_32 rfl rfl (by omega) (fun c32 => ?_) (fun c32 => ?_)
          · refine gx_aload0 (q := 39) hG d_X_byJust_38 rfl ?_
            refine gx_aload0 (q := 40) hG d_X_byJust_39 rfl ?_
            refine gx_get (q := 43) hG f_X_69 hpX rfl d_X_byJust_40 rfl ?_
            refine gx_aload0 (q := 44) hG d_X_byJust_43 rfl ?_
            refine gx_get (q := 47) hG f_X_21 hpX rfl d_X_byJust_44 rfl ?_
            refine gx_iload1 (q := 48) hG d_X_byJust_47 rfl ?_
            refine gx_iload2 (q := 49) hG d_X_byJust_48 rfl ?_
            obtain ⟨kk, rfl⟩ := Int.eq_ofNat_of_zero_le (show 0 ≤ k by omega)
            refine gw_V3J (q := 52) hG l_X_229 c_Su_waysByJust (ev_Su_waysByJust hg (by omega) (by omega)) hpSu rfl (by decide) (Nat.le_of_ble_eq_true rfl) d_X_byJust_49 rfl (by decide) (fun z49 w1 h49 => ?_)
            obtain ⟨rfl, hW⟩ := h49
            have hs : SX w w1 := SX_scr hj (fun b hb => hW b (by omega))
            refine gx_lconst (q := 53) hG 1 d_X_byJust_52 rfl rfl ?_
            refine gw_V2V (q := 56) hG l_X_225 c_X_tellFraction (ev_X_tellFraction (Or.inl rfl)) hpX rfl (by decide) (Nat.le_of_ble_eq_true rfl) d_X_byJust_53 rfl (by decide) (fun w2 h53 => ?_)
            refine gx_iconst (q := 57) hG d_X_byJust_56 rfl ?_
            refine gx_ireturn hG d_X_byJust_57 rfl rfl ?_
            refine ⟨_, rfl, _, rfl, ?_⟩
            unfold sp_byJust; rw [if_neg (by omega), if_neg (show ¬ aX w 4 0 ≠ 0 from fun q => q c32), h53, show nbT (aX w 5) (aX w 4 1).toNat (kk : Int).toNat v = nbT (w 4) (w 3 1).toNat kk v from (nbT_congr _ numX kk v).symm]
            exact SX_fr hs
          · refine gx_bipush (q := 37) hG d_X_byJust_35 rfl rfl ?_
            refine gx_ireturn hG d_X_byJust_37 rfl rfl ?_
            refine ⟨_, rfl, _, rfl, ?_⟩
            unfold sp_byJust; rw [if_neg (by omega), if_pos (show aX w 4 0 ≠ 0 from c32)]; exact PX_id hj
        · refine gx_iconst (q := 24) hG d_X_byJust_23 rfl ?_
          refine gx_ireturn hG d_X_byJust_24 rfl rfl ?_
          refine ⟨_, rfl, _, rfl, ?_⟩
          unfold sp_byJust; rw [if_pos (by omega)]; exact PX_id hj
theorem ev_M_byJust {w : Mem} {v k : Int} (hO : OK (aM w)) (hv : R3 v) (hk : R3 k) : EvI y_M_byJust b_M_byJust 7 (some .int) (2) [Vr 76, Vi v, Vi k] w (PM w (sp_byJust (aM w) v k)) := by
  refine Ev.mk (isI := false) (by decide +kernel) nofun (Nat.le_of_ble_eq_true rfl) (fun G hG => ?_)
  show G 0 [some (Vr 76), some (Vi v), some (Vi k), none, none, none, none] [] 102 (hp w)
  have hn := hO.nn
  have hl := hO.law
  have e1 : aM w 4 1 = w 76 14 := rfl
  have e0 : aM w 4 0 = w 76 11 := rfl
  rw [e1] at hn
  rw [e0] at hl
  have eM : ∀ F, wc w 92 F 76 14 = w 76 14 := fun F => by rw [wc_ne (by omega)]
  have X : ∀ kk : Nat, k = (kk : Int) → (1 ≤ kk ∧ kk ≤ 20) → (1 ≤ v ∧ v ≤ 400) → w 76 11 = 0 → G 33 [some (Vr 76), some (Vi v), some (Vi (kk : Int)), none, none, none, none] [] 102 (hp w) := by
    intro kk ek hk hv h0
    -- the sums of one number of coins
    have I : ∀ (j : Nat) (i c : Nat) (a y : Int) (F : Int → Int), (y + j = v + 1 ∨ (j = 0 ∧ v < y)) → (i : Int) < w 76 14 → w 85 i = a → (1 ≤ c ∧ c ≤ kk) → (a ≤ y ∧ y ≤ 500) → JB (w 85) i kk c y v (fun c x => F (401 * c + x)) → (∀ (F' : Int → Int) (y' : Int), v < y' → JB (w 85) i kk c y' v (fun c x => F' (401 * c + x)) → G 142 [some (Vr 76), some (Vi v), some (Vi (kk : Int)), some (Vi (i : Int)), some (Vi a), some (Vi (c : Int)), some (Vi y')] [] 102 (hp (wc w 92 F'))) → G 94 [some (Vr 76), some (Vi v), some (Vi (kk : Int)), some (Vi (i : Int)), some (Vi a), some (Vi (c : Int)), some (Vi y)] [] 102 (hp (wc w 92 F)) := by
      intro j
      induction j with
      | zero =>
        intro i c a y F h1 h2 h3 h4 h5 h7 hK
        have ha := hO.mn i (by omega) h2
        rw [h3] at ha
        refine gx_iload6 (q := 96) hG d_M_byJust_94 rfl ?_
        refine gx_iload1 (q := 97) hG d_M_byJust_96 rfl ?_
        refine gx_icmp_gt (tgt := 142) (q := 100) hG d_M_byJust_97 rfl rfl (by omega) (by omega) (fun c97 => ?_) (fun c97 => ?_)
        · exact hK F y (by omega) h7
        · exfalso; omega
      | succ j ih =>
        intro i c a y F h1 h2 h3 h4 h5 h7 hK
        have ha := hO.mn i (by omega) h2
        rw [h3] at ha
        refine gx_iload6 (q := 96) hG d_M_byJust_94 rfl ?_
        refine gx_iload1 (q := 97) hG d_M_byJust_96 rfl ?_
        refine gx_icmp_gt (tgt := 142) (q := 100) hG d_M_byJust_97 rfl rfl (by omega) (by omega) (fun c97 => ?_) (fun c97 => ?_)
        · exfalso; omega
        · refine gx_aload0 (q := 101) hG d_M_byJust_100 rfl ?_
          refine gx_get (q := 104) hG f_M_57 hpM rfl d_M_byJust_101 rfl ?_
          refine gx_sipush (q := 107) hG d_M_byJust_104 rfl rfl ?_
          refine gx_iload5 (q := 109) hG d_M_byJust_107 rfl ?_
          refine gx_imul (q := 110) hG d_M_byJust_109 rfl ?_
          refine gx_iload6 (q := 112) hG d_M_byJust_110 rfl ?_
          refine gx_iadd (q := 113) hG d_M_byJust_112 rfl ?_
          refine gx_dup2 (q := 114) hG d_M_byJust_113 rfl ?_
          refine gw_lald (q := 115) hG rfl (by omega) (by omega) d_M_byJust_114 rfl ?_
          rw [wc_eq]
          refine gx_aload0 (q := 116) hG d_M_byJust_115 rfl ?_
          refine gx_get (q := 119) hG f_M_57 hpM rfl d_M_byJust_116 rfl ?_
          refine gx_sipush (q := 122) hG d_M_byJust_119 rfl rfl ?_
          refine gx_iload5 (q := 124) hG d_M_byJust_122 rfl ?_
          refine gx_iconst (q := 125) hG d_M_byJust_124 rfl ?_
          refine gx_isub (q := 126) hG d_M_byJust_125 rfl ?_
          refine gx_imul (q := 127) hG d_M_byJust_126 rfl ?_
          refine gx_iload6 (q := 129) hG d_M_byJust_127 rfl ?_
          refine gx_iadd (q := 130) hG d_M_byJust_129 rfl ?_
          refine gx_iload4 (q := 132) hG d_M_byJust_130 rfl ?_
          refine gx_isub (q := 133) hG d_M_byJust_132 rfl ?_
          refine gw_lald (q := 134) hG rfl (by omega) (by omega) d_M_byJust_133 rfl ?_
          rw [wc_eq]
          refine gx_ladd (q := 135) hG d_M_byJust_134 rfl ?_
          refine gw_last (q := 136) hG rfl (by omega) (by omega) d_M_byJust_135 rfl ?_
          rw [wu_wcc]
          refine gx_iinc6 (q := 139) hG d_M_byJust_136 rfl rfl ?_
          refine gx_goto (tgt := 94) hG d_M_byJust_139 rfl ?_
          refine ih i c a (y + 1) _ (by omega) h2 h3 h4 (by omega) (JB_step h3 (by omega) h4 (by omega) (by omega) h7 ?_ (fun c' x q0 q1 q2 q3 => ?_)) hK
          · show up F _ _ _ = _
            rw [up_eq, show 401 * ((c - 1 : Nat) : Int) + (y - a) = 401 * ((c : Int) - 1) + y - a by omega]
          · exact up_ne (fun z => q3 ⟨by omega, by omega⟩)
    have C : ∀ (j : Nat) (i c : Nat) (a : Int) (F : Int → Int) (o6 : Option Value), c + j = kk + 1 → (i : Int) < w 76 14 → w 85 i = a → 1 ≤ c → one1 [o6] 0 = true → JB (w 85) i kk c a v (fun c x => F (401 * c + x)) → (∀ (F' : Int → Int) (o6' : Option Value), one1 [o6'] 0 = true → JB (w 85) i kk (kk + 1) a v (fun c x => F' (401 * c + x)) → G 148 [some (Vr 76), some (Vi v), some (Vi (kk : Int)), some (Vi (i : Int)), some (Vi a), some (Vi ((kk : Int) + 1)), o6'] [] 102 (hp (wc w 92 F'))) → G 84 [some (Vr 76), some (Vi v), some (Vi (kk : Int)), some (Vi (i : Int)), some (Vi a), some (Vi (c : Int)), o6] [] 102 (hp (wc w 92 F)) := by
      intro j
      induction j with
      | zero =>
        intro i c a F o6 h1 h2 h3 h4 g7 h7 hK
        refine gx_iload5 (q := 86) hG d_M_byJust_84 rfl ?_
        refine gx_iload2 (q := 87) hG d_M_byJust_86 rfl ?_
        refine gx_icmp_gt (tgt := 148) (q := 90) hG d_M_byJust_87 rfl rfl (by omega) (by omega) (fun c87 => ?_) (fun c87 => ?_)
        · have e := hK F o6 g7 (by rw [← show c = kk + 1 by omega]; exact h7)
          rw [show (kk : Int) + 1 = (c : Int) by omega] at e
          exact e
        · exfalso; omega
      | succ j ih =>
        intro i c a F o6 h1 h2 h3 h4 g7 h7 hK
        have ha := hO.mn i (by omega) h2
        rw [h3] at ha
        have K : ∀ (F' : Int → Int) (y' : Int), v < y' → JB (w 85) i kk c y' v (fun c x => F' (401 * c + x)) → G 142 [some (Vr 76), some (Vi v), some (Vi (kk : Int)), some (Vi (i : Int)), some (Vi a), some (Vi (c : Int)), some (Vi y')] [] 102 (hp (wc w 92 F')) := by
          intro F' y' q2 q3
          refine gx_iinc5 (q := 145) hG d_M_byJust_142 rfl rfl ?_
          refine gx_goto (tgt := 84) hG d_M_byJust_145 rfl ?_
          exact ih i (c + 1) a F' _ (by omega) h2 h3 (by omega) rfl (JB_next h3 q2 q3) hK
        refine gx_iload5 (q := 86) hG d_M_byJust_84 rfl ?_
        refine gx_iload2 (q := 87) hG d_M_byJust_86 rfl ?_
        refine gx_icmp_gt (tgt := 148) (q := 90) hG d_M_byJust_87 rfl rfl (by omega) (by omega) (fun c87 => ?_) (fun c87 => ?_)
        · exfalso; omega
        · refine gx_iload4 (q := 92) hG d_M_byJust_90 rfl ?_
          refine gx_istore6 (q := 94) hG d_M_byJust_92 rfl rfl ?_
          exact I (v + 1 - a).toNat i c a a F (by omega) h2 h3 (by omega) (by omega) h7 K
    have L : ∀ (j i : Nat) (F : Int → Int) (o4 o5 o6 : Option Value), (i : Int) + j = w 76 14 → one1 [o4] 0 = true → one1 [o5] 0 = true → one1 [o6] 0 = true → (∀ (c' : Nat) (x : Int), c' ≤ kk → 0 ≤ x → x ≤ v → F (401 * c' + x) = nbT (w 85) i c' x) → G 65 [some (Vr 76), some (Vi v), some (Vi (kk : Int)), some (Vi (i : Int)), o4, o5, o6] [] 102 (hp (wc w 92 F)) := by
      intro j
      induction j with
      | zero =>
        intro i F o4 o5 o6 h1 g5 g6 g7 h7
        refine gx_iload3 (q := 66) hG d_M_byJust_65 rfl ?_
        refine gx_aload0 (q := 67) hG d_M_byJust_66 rfl ?_
        refine gx_get (q := 70) hG f_M_178 hpM rfl d_M_byJust_67 rfl ?_
        rw [eM]
        refine gx_icmp_ge (tgt := 154) (q := 73) hG d_M_byJust_70 rfl rfl (by omega) (by omega) (fun c70 => ?_) (fun c70 => ?_)
        · refine gx_aload0 (q := 155) hG d_M_byJust_154 rfl ?_
          refine gx_aload0 (q := 156) hG d_M_byJust_155 rfl ?_
          refine gx_get (q := 159) hG f_M_57 hpM rfl d_M_byJust_156 rfl ?_
          refine gx_sipush (q := 162) hG d_M_byJust_159 rfl rfl ?_
          refine gx_iload2 (q := 163) hG d_M_byJust_162 rfl ?_
          refine gx_imul (q := 164) hG d_M_byJust_163 rfl ?_
          refine gx_iload1 (q := 165) hG d_M_byJust_164 rfl ?_
          refine gx_iadd (q := 166) hG d_M_byJust_165 rfl ?_
          refine gw_lald (q := 167) hG rfl (by omega) (by omega) d_M_byJust_166 rfl ?_
          rw [wc_eq]
          refine gx_iconst (q := 168) hG d_M_byJust_167 rfl ?_
          refine gw_V2I (q := 171) hG l_M_202 c_M_whole (ev_M_whole) hpM rfl (by decide) (Nat.le_of_ble_eq_true rfl) d_M_byJust_168 rfl (by decide) (fun z w1 h168 => ?_)
          refine gx_ireturn hG d_M_byJust_171 rfl rfl ?_
          refine ⟨_, rfl, _, rfl, ?_⟩
          obtain ⟨rfl, rfl⟩ := h168
          unfold sp_byJust
          rw [if_neg (by omega), if_neg (show ¬ aM w 4 0 ≠ 0 from fun q => q h0), h7 kk v (by omega) (by omega) (by omega), show nbT (aM w 5) (aM w 4 1).toNat k.toNat v = nbT (w 85) i kk v from by rw [← show (w 76 14).toNat = i by omega, show k.toNat = kk by omega]; exact (nbT_congr _ numM kk v).symm]
          exact SM_fr (SM_scr (fun b hb => wc_ne (by omega)))
        · exfalso; omega
      | succ j ih =>
        intro i F o4 o5 o6 h1 g5 g6 g7 h7
        have e4 : wc w 92 F 85 i = w 85 i := by rw [wc_ne (by omega)]
        have ha := hO.mn i (by omega) (by omega)
        have K : ∀ (F' : Int → Int) (o6' : Option Value), one1 [o6'] 0 = true → JB (w 85) i kk (kk + 1) (w 85 i) v (fun c x => F' (401 * c + x)) → G 148 [some (Vr 76), some (Vi v), some (Vi (kk : Int)), some (Vi (i : Int)), some (Vi (w 85 i)), some (Vi ((kk : Int) + 1)), o6'] [] 102 (hp (wc w 92 F')) := by
          intro F' o6' q0 q2
          refine gx_iinc3 (q := 151) hG d_M_byJust_148 rfl rfl ?_
          refine gx_goto (tgt := 65) hG d_M_byJust_151 rfl ?_
          exact ih (i + 1) F' _ _ o6' (by omega) rfl rfl q0 (fun c' x r0 r1 r2 => (q2 c' x r0 r1 r2).1 (Or.inl (by omega)))
        refine gx_iload3 (q := 66) hG d_M_byJust_65 rfl ?_
        refine gx_aload0 (q := 67) hG d_M_byJust_66 rfl ?_
        refine gx_get (q := 70) hG f_M_178 hpM rfl d_M_byJust_67 rfl ?_
        rw [eM]
        refine gx_icmp_ge (tgt := 154) (q := 73) hG d_M_byJust_70 rfl rfl (by omega) (by omega) (fun c70 => ?_) (fun c70 => ?_)
        · exfalso; omega
        · refine gx_aload0 (q := 74) hG d_M_byJust_73 rfl ?_
          refine gx_get (q := 77) hG f_M_35 hpM rfl d_M_byJust_74 rfl ?_
          refine gx_iload3 (q := 78) hG d_M_byJust_77 rfl ?_
          refine gw_iald (q := 79) hG rfl (by omega) (by omega) d_M_byJust_78 rfl ?_
          rw [e4]
          refine gx_istore4 (q := 81) hG d_M_byJust_79 rfl rfl ?_
          refine gx_iconst (q := 82) hG d_M_byJust_81 rfl ?_
          refine gx_istore5 (q := 84) hG d_M_byJust_82 rfl rfl ?_
          exact C kk i 1 (w 85 i) F o6 (by omega) (by omega) rfl (by omega) g7 (JB_in rfl h7) K
    have A : ∀ (j k : Nat) (F : Int → Int), k + j = 8421 → (∀ x : Int, 0 ≤ x → x < k → F x = if x = 0 then 1 else 0) → G 35 [some (Vr 76), some (Vi v), some (Vi (kk : Int)), some (Vi (k : Int)), none, none, none] [] 102 (hp (wc w 92 F)) := by
      intro j
      induction j with
      | zero =>
        intro k F h1 h2
        refine gx_iload3 (q := 36) hG d_M_byJust_35 rfl ?_
        refine gx_sipush (q := 39) hG d_M_byJust_36 rfl rfl ?_
        refine gx_icmp_ge (tgt := 63) (q := 42) hG d_M_byJust_39 rfl rfl (by omega) (by omega) (fun c39 => ?_) (fun c39 => ?_)
        · refine gx_iconst (q := 64) hG d_M_byJust_63 rfl ?_
          refine gx_istore3 (q := 65) hG d_M_byJust_64 rfl rfl ?_
          refine L (w 76 14).toNat 0 _ none none none (by omega) rfl rfl rfl (fun c' x q0 q1 q2 => ?_)
          rw [h2 _ (by omega) (by omega)]
          unfold nbT
          by_cases c : c' = 0 ∧ x = 0
          · rw [if_pos (by omega), if_pos c]
          · rw [if_neg (by omega), if_neg c]
        · exfalso; omega
      | succ j ih =>
        intro k F h1 h2
        refine gx_iload3 (q := 36) hG d_M_byJust_35 rfl ?_
        refine gx_sipush (q := 39) hG d_M_byJust_36 rfl rfl ?_
        refine gx_icmp_ge (tgt := 63) (q := 42) hG d_M_byJust_39 rfl rfl (by omega) (by omega) (fun c39 => ?_) (fun c39 => ?_)
        · exfalso; omega
        · refine gx_aload0 (q := 43) hG d_M_byJust_42 rfl ?_
          refine gx_get (q := 46) hG f_M_57 hpM rfl d_M_byJust_43 rfl ?_
          refine gx_iload3 (q := 47) hG d_M_byJust_46 rfl ?_
          refine gx_iload3 (q := 48) hG d_M_byJust_47 rfl ?_
          refine gx_if_ne (tgt := 55) (q := 51) hG d_M_byJust_48 rfl rfl (by omega) (fun c48 => ?_) (fun c48 => ?_)
          · refine gx_lconst (q := 56) hG 0 d_M_byJust_55 rfl rfl ?_
            refine gw_last (q := 57) hG rfl (by omega) (by omega) d_M_byJust_56 rfl ?_
            rw [wu_wcc]
            refine gx_iinc3 (q := 60) hG d_M_byJust_57 rfl rfl ?_
            refine gx_goto (tgt := 35) hG d_M_byJust_60 rfl ?_
            refine ih (k + 1) _ (by omega) (fun x x0 x1 => ?_)
            unfold up
            by_cases c : x = k
            · rw [if_pos c]
              first
                | rw [if_pos (by omega)]
                | rw [if_neg (by omega)]
            · rw [if_neg c]
              exact h2 x x0 (by omega)
          · refine gx_lconst (q := 52) hG 1 d_M_byJust_51 rfl rfl ?_
            refine gx_goto (tgt := 56) hG d_M_byJust_52 rfl ?_
            refine gw_last (q := 57) hG rfl (by omega) (by omega) d_M_byJust_56 rfl ?_
            rw [wu_wcc]
            refine gx_iinc3 (q := 60) hG d_M_byJust_57 rfl rfl ?_
            refine gx_goto (tgt := 35) hG d_M_byJust_60 rfl ?_
            refine ih (k + 1) _ (by omega) (fun x x0 x1 => ?_)
            unfold up
            by_cases c : x = k
            · rw [if_pos c]
              first
                | rw [if_pos (by omega)]
                | rw [if_neg (by omega)]
            · rw [if_neg c]
              exact h2 x x0 (by omega)
    have e0 : w = wc w 92 (w 92) := by
      funext b
      show w b = if b = 92 then w 92 else w b
      split
      · rename_i h
        rw [h]
      · rfl
    refine gx_iconst (q := 34) hG d_M_byJust_33 rfl ?_
    refine gx_istore3 (q := 35) hG d_M_byJust_34 rfl rfl ?_
    have e := A 8421 0 (w 92) (by omega) (fun x x0 x1 => by omega)
    rw [← e0] at e
    exact e
  refine gx_iload1 (q := 1) hG d_M_byJust_0 rfl ?_
  refine gx_iconst (q := 2) hG d_M_byJust_1 rfl ?_
  refine gx_sipush (q := 5) hG d_M_byJust_2 rfl rfl ?_
  refine gw_S3X (q := 8) hG l_M_96 c_M_in (ev_M_in (by omega) (by omega) (by omega)) (by decide) (Nat.le_of_ble_eq_true rfl) d_M_byJust_5 rfl (by decide) ?_
  refine gx_if_eq (tgt := 21) (q := 11) hG d_M_byJust_8 rfl rfl (bi_R _) (fun c8 => ?_) (fun c8 => ?_)
  · have c8 := bi_eq0.mp c8
    refine gx_iconst (q := 22) hG d_M_byJust_21 rfl ?_
    refine gx_ireturn hG d_M_byJust_22 rfl rfl ?_
    refine ⟨_, rfl, _, rfl, ?_⟩
    unfold sp_byJust; rw [if_pos (by omega)]; exact PM_id
  · have c8 := bi_ne0.mp c8
    refine gx_iload2 (q := 12) hG d_M_byJust_11 rfl ?_
    refine gx_iconst (q := 13) hG d_M_byJust_12 rfl ?_
    refine gx_bipush (q := 15) hG d_M_byJust_13 rfl rfl ?_
    refine gw_S3X (q := 18) hG l_M_96 c_M_in (ev_M_in (by omega) (by omega) (by omega)) (by decide) (Nat.le_of_ble_eq_true rfl) d_M_byJust_15 rfl (by decide) ?_
    refine gx_if_ne (tgt := 23) (q := 21) hG d_M_byJust_18 rfl rfl (bi_R _) (fun c18 => ?_) (fun c18 => ?_)
    · have c18 := bi_ne0.mp c18
      refine gx_aload0 (q := 24) hG d_M_byJust_23 rfl ?_
      refine gx_get (q := 27) hG f_M_172 hpM rfl d_M_byJust_24 rfl ?_
      refine gx_if_eq (tgt := 33) (q := 30) hG d_M_byJust_27 rfl rfl (by omega) (fun c27 => ?_) (fun c27 => ?_)
      · obtain ⟨kk, rfl⟩ := Int.eq_ofNat_of_zero_le (show 0 ≤ k by omega)
        exact X kk rfl (by omega) (by omega) c27
      · refine gx_bipush (q := 32) hG d_M_byJust_30 rfl rfl ?_
        refine gx_ireturn hG d_M_byJust_32 rfl rfl ?_
        refine ⟨_, rfl, _, rfl, ?_⟩
        unfold sp_byJust; rw [if_neg (by omega), if_pos (show aM w 4 0 ≠ 0 from c27)]; exact PM_id
    · have c18 := bi_eq0.mp c18
      refine gx_iconst (q := 22) hG d_M_byJust_21 rfl ?_
      refine gx_ireturn hG d_M_byJust_22 rfl rfl ?_
      refine ⟨_, rfl, _, rfl, ?_⟩
      unfold sp_byJust; rw [if_pos (by omega)]; exact PM_id

