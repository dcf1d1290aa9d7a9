/-! part 75: the reference solves -/
def GO (s : Sta) (T94 T95 : Int → Int) (k : Nat) : Prop := ∀ v : Nat, 1 ≤ v → v ≤ k → (pS s v → T95 v = (ix s v : Int) ∧ T94 (ix s v : Int) = v) ∧ (¬ pS s v → T95 v = -1)
theorem can_GG {s : Sta} (h : canS s) : GG s ≤ 14 := by
  have := GG_c (s := s)
  have h2 : cn (pS s) 60 ≤ 14 := h.2.2
  omega
theorem go_ex {s : Sta} {T94 T95 : Int → Int} (hc : canS s) (h : GO s T94 T95 60) {k : Nat} (hk : k < GG s) : ∃ v : Nat, 1 ≤ v ∧ v ≤ 27 ∧ pS s v ∧ ix s v = k ∧ T94 k = v := by
  obtain ⟨v, a, b, c, d⟩ := ix_ex (s := s) (i := k) 60 (by rw [← GG_c]; omega)
  have e := ((h v a b).1 c).2
  rw [d] at e
  exact ⟨v, a, can_27 hc b c, c, d, e⟩
theorem ev_M_isSolved {w : Mem} (hO : OK (aM w)) : EvI y_M_isSolved b_M_isSolved 1 (some .boolean) (5) [Vr 76] w (fun z w' => z = bi (canS (aM w)) ∧ SM w w' ∧ (canS (aM w) → w' 76 28 = (GG (aM w) : Int) ∧ HT (aM w) (w' 83))) := by
  refine Ev.mk (isI := false) (by decide +kernel) nofun (Nat.le_of_ble_eq_true rfl) (fun G hG => ?_)
  show G 0 [some (Vr 76)] [] 102 (hp w)
  have hl := hO.law
  have e0 : aM w 4 0 = w 76 11 := rfl
  rw [e0] at hl
  have hgb : 0 ≤ gcS (aM w) ∧ gcS (aM w) ≤ 4000 := cn_bd (P := fun v => ¬ hadS (aM w) v) 4000
  refine gx_aload0 (q := 1) hG d_M_isSolved_0 rfl ?_
  refine gx_get (q := 4) hG f_M_172 hpM rfl d_M_isSolved_1 rfl ?_
  refine gx_if_ne (tgt := 14) (q := 7) hG d_M_isSolved_4 rfl rfl (by omega) (fun c4 => ?_) (fun c4 => ?_)
  · refine gx_iconst (q := 15) hG d_M_isSolved_14 rfl ?_
    refine gx_zreturn hG d_M_isSolved_15 rfl rfl (by first | exact bi_01 _ | decide | omega) ?_
    refine ⟨_, rfl, _, rfl, ?_, SM_id, fun q => ?_⟩
    · refine (bi_f (fun q : canS (aM w) => ?_)).symm
      first
        | exact c4 q.1
        | exact (((can_iff hO c4).mpr q).1 c11)
    · exfalso
      first
        | exact c4 q.1
        | exact (((can_iff hO c4).mpr q).1 c11)
  · refine gx_aload0 (q := 8) hG d_M_isSolved_7 rfl ?_
    refine gw_V0X (q := 11) hG l_M_213 c_M_isEndless (ev_M_isEndless hO) hpM rfl (by decide) (Nat.le_of_ble_eq_true rfl) d_M_isSolved_8 rfl (by decide) ?_
    refine gx_if_eq (tgt := 16) (q := 14) hG d_M_isSolved_11 rfl rfl (bi_R _) (fun c11 => ?_) (fun c11 => ?_)
    · have c11 := bi_eq0.mp c11
      have ci := can_iff hO c4
      refine gx_aload0 (q := 17) hG d_M_isSolved_16 rfl ?_
      refine gw_V0I (q := 20) hG l_M_216 c_M_layGaps (ev_M_layGaps hO) hpM rfl (by decide) (Nat.le_of_ble_eq_true rfl) d_M_isSolved_17 rfl (by decide) (fun z17 w1 h17 => ?_)
      obtain ⟨rfl, hs, g1, g2, g3, g4⟩ := h17
      refine gx_popi (q := 21) hG d_M_isSolved_20 rfl ?_
      refine gx_aload0 (q := 22) hG d_M_isSolved_21 rfl ?_
      refine gx_get (q := 25) hG f_M_210 hpM rfl d_M_isSolved_22 rfl ?_
      rw [g1]
      refine gx_bipush (q := 27) hG d_M_isSolved_25 rfl rfl ?_
      refine gx_icmp_gt (tgt := 34) (q := 30) hG d_M_isSolved_27 rfl rfl (by omega) (by omega) (fun c27 => ?_) (fun c27 => ?_)
      · refine gx_iconst (q := 35) hG d_M_isSolved_34 rfl ?_
        refine gx_zreturn hG d_M_isSolved_35 rfl rfl (by first | exact bi_01 _ | decide | omega) ?_
        first
          | exact ⟨_, rfl, _, rfl, (bi_t (ci.mp ⟨c11, by omega⟩)).symm, hs, fun q => ⟨by rw [g1, can_gc q], g2⟩⟩
          | exact ⟨_, rfl, _, rfl, (bi_f (fun q : canS (aM w) => by have := (ci.mpr q).2; omega)).symm, hs, fun q => ⟨by rw [g1, can_gc q], g2⟩⟩
      · refine gx_iconst (q := 31) hG d_M_isSolved_30 rfl ?_
        refine gx_goto (tgt := 35) hG d_M_isSolved_31 rfl ?_
        refine gx_zreturn hG d_M_isSolved_35 rfl rfl (by first | exact bi_01 _ | decide | omega) ?_
        first
          | exact ⟨_, rfl, _, rfl, (bi_t (ci.mp ⟨c11, by omega⟩)).symm, hs, fun q => ⟨by rw [g1, can_gc q], g2⟩⟩
          | exact ⟨_, rfl, _, rfl, (bi_f (fun q : canS (aM w) => by have := (ci.mpr q).2; omega)).symm, hs, fun q => ⟨by rw [g1, can_gc q], g2⟩⟩
    · have c11 := bi_ne0.mp c11
      refine gx_iconst (q := 15) hG d_M_isSolved_14 rfl ?_
      refine gx_zreturn hG d_M_isSolved_15 rfl rfl (by first | exact bi_01 _ | decide | omega) ?_
      refine ⟨_, rfl, _, rfl, ?_, SM_id, fun q => ?_⟩
      · refine (bi_f (fun q : canS (aM w) => ?_)).symm
        first
          | exact c4 q.1
          | exact (((can_iff hO c4).mpr q).1 c11)
      · exfalso
        first
          | exact c4 q.1
          | exact (((can_iff hO c4).mpr q).1 c11)
theorem ev_M_behind {w : Mem} {s : Sta} {S vk : Nat} (hc : canS s) (hgm : w 76 28 = (GG s : Int)) (hg : GO s (w 94) (w 95) 60) (hS : S < 2 ^ GG s) (hv : 1 ≤ vk ∧ vk ≤ 27) (hpv : pS s vk) : EvX y_M_behind b_M_behind 7 (some .int) (2) [Vr 76, Vi (S : Int), Vi (ix s vk : Int)] w (Vi (bhN s S vk : Nat)) := by
  refine Ev.mk (isI := false) (by decide +kernel) nofun (Nat.le_of_ble_eq_true rfl) (fun G hG => ?_)
  show G 0 [some (Vr 76), some (Vi (S : Int)), some (Vi (ix s vk : Int)), none, none, none, none] [] 102 (hp w)
  have h14 := can_GG hc
  have hSb : S < 16384 := Nat.lt_of_lt_of_le hS (Nat.pow_le_pow_right (n := 2) (by decide) h14)
  have hkl := ix_lt hv.1 (by omega) hpv
  have hgk : w 94 (ix s vk : Int) = vk := ((hg vk hv.1 (by omega)).1 hpv).2
  have L : ∀ (j i : Nat) (o5 o6 : Option Value), i + j = GG s → one1 [o5] 0 = true → one1 [o6] 0 = true → G 5 [some (Vr 76), some (Vi (S : Int)), some (Vi (ix s vk : Int)), some (Vi (mkN (fun i => ∃ v : Nat, 1 ≤ v ∧ v ≤ 27 ∧ pS s v ∧ ix s v = i ∧ (gb (msk s S) vk).testBit v = true) i : Nat)), some (Vi (i : Int)), o5, o6] [] 102 (hp w) := by
    intro j
    induction j with
    | zero =>
      intro i o5 o6 h1 g5 g6
      refine gx_iload4 (q := 7) hG d_M_behind_5 rfl ?_
      refine gx_aload0 (q := 8) hG d_M_behind_7 rfl ?_
      refine gx_get (q := 11) hG f_M_210 hpM rfl d_M_behind_8 rfl ?_
      rw [hgm]
      refine gx_icmp_ge (tgt := 120) (q := 14) hG d_M_behind_11 rfl rfl (by omega) (by omega) (fun c11 => ?_) (fun c11 => ?_)
      · refine gx_iload3 (q := 121) hG d_M_behind_120 rfl ?_
        refine gx_ireturn hG d_M_behind_121 rfl rfl ?_
        exact ⟨_, rfl, by rw [show i = GG s by omega]; rfl, rfl⟩
      · exfalso; omega
    | succ j ih =>
      intro i o5 o6 h1 g5 g6
      obtain ⟨v, v1, v2, v3, v4, v5⟩ := go_ex hc hg (k := i) (by omega)
      have hQ := bhN_at (s := s) (S := S) (n := vk) (v := v) ⟨v1, v2⟩ v3
      rw [v4] at hQ
      have hgb := gb_bit (m := msk s S) (n := vk) (v := v) hv.1
      have hms : ∀ u : Nat, 1 ≤ u → u ≤ 27 → pS s u → (S.testBit (ix s u) = true ↔ (msk s S).testBit u = true) := fun u u1 u2 u3 => by rw [msk_bit]; exact ⟨fun q => ⟨by omega, u3, q⟩, fun q => q.2.2⟩
      have ml : mkN (fun i => ∃ v : Nat, 1 ≤ v ∧ v ≤ 27 ∧ pS s v ∧ ix s v = i ∧ (gb (msk s S) vk).testBit v = true) (i + 1) = mkN (fun i => ∃ v : Nat, 1 ≤ v ∧ v ≤ 27 ∧ pS s v ∧ ix s v = i ∧ (gb (msk s S) vk).testBit v = true) i ||| (bi (∃ v' : Nat, 1 ≤ v' ∧ v' ≤ 27 ∧ pS s v' ∧ ix s v' = i ∧ (gb (msk s S) vk).testBit v' = true)).toNat <<< i := rfl
      rw [propext hQ] at ml
      -- what is behind the inner loop
      have K : ∀ (x : Int) (z : Int), z = bi ((gb (msk s S) vk).testBit v = true) → G 98 [some (Vr 76), some (Vi (S : Int)), some (Vi (ix s vk : Int)), some (Vi (mkN (fun i => ∃ v : Nat, 1 ≤ v ∧ v ≤ 27 ∧ pS s v ∧ ix s v = i ∧ (gb (msk s S) vk).testBit v = true) i : Nat)), some (Vi (i : Int)), some (Vi z), some (Vi x)] [] 102 (hp w) := by
        intro x z hz
        have hzr := bi_01 ((gb (msk s S) vk).testBit v = true)
        refine gx_iload3 (q := 99) hG d_M_behind_98 rfl ?_
        refine gx_iload5 (q := 101) hG d_M_behind_99 rfl ?_
        refine gx_if_eq (tgt := 111) (q := 104) hG d_M_behind_101 rfl rfl (by omega) (fun c101 => ?_) (fun c101 => ?_)
        · rw [← hz, c101, show (0 : Int).toNat = 0 from rfl, Nat.zero_shiftLeft] at ml
          refine gx_iconst (q := 112) hG d_M_behind_111 rfl ?_
          first
            | refine gx_ior (q := 113) hG ((mkN (fun i => ∃ v : Nat, 1 ≤ v ∧ v ≤ 27 ∧ pS s v ∧ ix s v = i ∧ (gb (msk s S) vk).testBit v = true) i ||| 1 <<< i : Nat) : Int) d_M_behind_112 rfl (i_or _ (1 <<< i)) ?_
            | refine gx_ior (q := 113) hG ((mkN (fun i => ∃ v : Nat, 1 ≤ v ∧ v ≤ 27 ∧ pS s v ∧ ix s v = i ∧ (gb (msk s S) vk).testBit v = true) i ||| 0 : Nat) : Int) d_M_behind_112 rfl (i_or _ 0) ?_
          refine gx_istore3 (q := 114) hG d_M_behind_113 rfl rfl ?_
          refine gx_iinc4 (q := 117) hG d_M_behind_114 rfl rfl ?_
          refine gx_goto (tgt := 5) hG d_M_behind_117 rfl ?_
          have e := ih (i + 1) (some (Vi z)) (some (Vi x)) (by omega) rfl rfl
          rw [ml] at e
          exact e
        · rw [← hz, show z = 1 by omega, show (1 : Int).toNat = 1 from rfl] at ml
          refine gx_iconst (q := 105) hG d_M_behind_104 rfl ?_
          refine gx_iload4 (q := 107) hG d_M_behind_105 rfl ?_
          refine gx_ishl (q := 108) hG (((1 <<< i : Nat) : Int)) d_M_behind_107 rfl (i_shl 1 i (by omega)) ?_
          refine gx_goto (tgt := 112) hG d_M_behind_108 rfl ?_
          first
            | refine gx_ior (q := 113) hG ((mkN (fun i => ∃ v : Nat, 1 ≤ v ∧ v ≤ 27 ∧ pS s v ∧ ix s v = i ∧ (gb (msk s S) vk).testBit v = true) i ||| 1 <<< i : Nat) : Int) d_M_behind_112 rfl (i_or _ (1 <<< i)) ?_
            | refine gx_ior (q := 113) hG ((mkN (fun i => ∃ v : Nat, 1 ≤ v ∧ v ≤ 27 ∧ pS s v ∧ ix s v = i ∧ (gb (msk s S) vk).testBit v = true) i ||| 0 : Nat) : Int) d_M_behind_112 rfl (i_or _ 0) ?_
          refine gx_istore3 (q := 114) hG d_M_behind_113 rfl rfl ?_
          refine gx_iinc4 (q := 117) hG d_M_behind_114 rfl rfl ?_
          refine gx_goto (tgt := 5) hG d_M_behind_117 rfl ?_
          have e := ih (i + 1) (some (Vi z)) (some (Vi x)) (by omega) rfl rfl
          rw [ml] at e
          exact e
      have I : ∀ (jj t : Nat), t + jj = 29 → 1 ≤ t → G 38 [some (Vr 76), some (Vi (S : Int)), some (Vi (ix s vk : Int)), some (Vi (mkN (fun i => ∃ v : Nat, 1 ≤ v ∧ v ≤ 27 ∧ pS s v ∧ ix s v = i ∧ (gb (msk s S) vk).testBit v = true) i : Nat)), some (Vi (i : Int)), some (Vi (bi (∀ t' : Nat, t' < t → t' * vk ≤ v → (msk s S).testBit (v - t' * vk) = true))), some (Vi ((v : Int) - (t * vk : Nat)))] [] 102 (hp w) := by
        intro jj
        induction jj with
        | zero =>
          intro t t1 t2
          have ht : 29 * 1 ≤ t * vk := Nat.mul_le_mul (by omega) hv.1
          have htb : t * vk ≤ 29 * 27 := Nat.mul_le_mul (by omega) hv.2
          have fin : (∀ t' : Nat, t' < t → t' * vk ≤ v → (msk s S).testBit (v - t' * vk) = true) ↔ (gb (msk s S) vk).testBit v = true := by
            rw [hgb]
            refine ⟨fun q => ⟨by omega, fun t' q2 => ?_⟩, fun q t' q1 q2 => q.2 t' q2⟩
            rcases Nat.lt_or_ge t' t with z | z
            · exact q t' z q2
            · have := Nat.mul_le_mul_right vk z
              omega
          refine gx_iload6 (q := 40) hG d_M_behind_38 rfl ?_
          refine gx_if_lt (tgt := 98) (q := 43) hG d_M_behind_40 rfl rfl (by omega) (fun c40 => ?_) (fun c40 => ?_)
          · exact K _ _ (bi_congr fin)
          · exfalso; omega
        | succ jj ihj =>
          intro t t1 t2
          have htb : t * vk ≤ 29 * 27 := Nat.mul_le_mul (by omega) hv.2
          have fin : v < t * vk → ((∀ t' : Nat, t' < t → t' * vk ≤ v → (msk s S).testBit (v - t' * vk) = true) ↔ (gb (msk s S) vk).testBit v = true) := fun ht => by
            rw [hgb]
            refine ⟨fun q => ⟨by omega, fun t' q2 => ?_⟩, fun q t' q1 q2 => q.2 t' q2⟩
            rcases Nat.lt_or_ge t' t with z | z
            · exact q t' z q2
            · have := Nat.mul_le_mul_right vk z
              omega
          have no : ¬ (∀ t' : Nat, t' < t → t' * vk ≤ v → (msk s S).testBit (v - t' * vk) = true) → ¬ (gb (msk s S) vk).testBit v = true := fun q z => q (fun t' _ q2 => (hgb.mp z).2 t' q2)
          have nx : (∀ t' : Nat, t' < t + 1 → t' * vk ≤ v → (msk s S).testBit (v - t' * vk) = true) ↔ ((∀ t' : Nat, t' < t → t' * vk ≤ v → (msk s S).testBit (v - t' * vk) = true) ∧ (t * vk ≤ v → (msk s S).testBit (v - t * vk) = true)) := by
            constructor
            · exact fun q => ⟨fun t' a b => q t' (by omega) b, q t (by omega)⟩
            · rintro ⟨q1, q2⟩ t' a b
              by_cases z : t' = t
              · rw [z] at b ⊢; exact q2 b
              · exact q1 t' (by omega) b
          have t1' := fun z => bi_t (nx.mpr z)
          have t0' := fun z : ¬ _ => bi_f (mt nx.mp z)
          have eN : (v : Int) - ((t * vk : Nat) : Int) - (vk : Int) = (v : Int) - (((t + 1) * vk : Nat) : Int) := by rw [Nat.add_mul, Int.natCast_add, Nat.one_mul]; omega
          obtain ⟨x, hx⟩ : ∃ x, x = (v : Int) - ((t * vk : Nat) : Int) := ⟨_, rfl⟩
          rw [← hx] at eN ⊢
          have hgx : 1 ≤ x → (pS s x → w 95 x = (ix s x.toNat : Int) ∧ ix s x.toNat < GG s ∧ (S.testBit (ix s x.toNat) = true ↔ (msk s S).testBit (v - t * vk) = true)) ∧ (¬ pS s x → w 95 x = -1 ∧ ¬ (msk s S).testBit (v - t * vk) = true) := fun q => by
            have e : v - t * vk = x.toNat := by omega
            have e2 : x = ((x.toNat : Nat) : Int) := by omega
            have h9 := hg x.toNat (by omega) (by omega)
            rw [← e2] at h9
            rw [e]
            refine ⟨fun z => ⟨(h9.1 z).1, ix_lt (by omega) (by omega) (by rw [← e2]; exact z), hms _ (by omega) (by omega) (by rw [← e2]; exact z)⟩, fun z => ⟨h9.2 z, fun z2 => z ?_⟩⟩
            have := (msk_bit.mp z2).2.1
            rw [← e2] at this
            exact this
          have hpx := Classical.em (pS s x)
          refine gx_iload6 (q := 40) hG d_M_behind_38 rfl ?_
          refine gx_if_lt (tgt := 98) (q := 43) hG d_M_behind_40 rfl rfl (by omega) (fun c40 => ?_) (fun c40 => ?_)
          · first
              | exact K _ _ (bi_congr (fin (by omega)))
              | exact K _ _ (by rw [c45, bi_f hb])
          · refine gx_iload5 (q := 45) hG d_M_behind_43 rfl ?_
            refine gx_if_eq (tgt := 98) (q := 48) hG d_M_behind_45 rfl rfl (bi_R _) (fun c45 => ?_) (fun c45 => ?_)
            · have hb := no (bi_eq0.mp c45)
              first
                | exact K _ _ (bi_congr (fin (by omega)))
                | exact K _ _ (by rw [c45, bi_f hb])
            · have c9 := bi_ne0.mp c45
              refine gx_iload6 (q := 50) hG d_M_behind_48 rfl ?_
              refine gx_if_le (tgt := 81) (q := 53) hG d_M_behind_50 rfl rfl (by omega) (fun c50 => ?_) (fun c50 => ?_)
              · have hb := t0' (fun z => by have := z.2 (by omega); rw [show v - t * vk = 0 by omega, msk_0] at this; cases this)
                refine gx_iconst (q := 82) hG d_M_behind_81 rfl ?_
                refine gx_istore5 (q := 84) hG d_M_behind_82 rfl rfl ?_
                refine gx_iload6 (q := 86) hG d_M_behind_84 rfl ?_
                refine gx_aload0 (q := 87) hG d_M_behind_86 rfl ?_
                refine gx_get (q := 90) hG f_M_63 hpM rfl d_M_behind_87 rfl ?_
                refine gx_iload2 (q := 91) hG d_M_behind_90 rfl ?_
                refine gw_iald (q := 92) hG rfl (by omega) (by omega) d_M_behind_91 rfl ?_
                rw [hgk]
                refine gx_isub (q := 93) hG d_M_behind_92 rfl ?_
                rw [eN]
                refine gx_istore6 (q := 95) hG d_M_behind_93 rfl rfl ?_
                refine gx_goto (tgt := 38) hG d_M_behind_95 rfl ?_
                have e := ihj (t + 1) (by omega) (by omega)
                rw [hb] at e
                exact e
              · have hgx := hgx (by omega)
                have hwb : -1 ≤ w 95 x ∧ w 95 x ≤ 14 := by rcases hpx with q | q; (· have := hgx.1 q; omega); (· have := (hgx.2 q).1; omega)
                refine gx_aload0 (q := 54) hG d_M_behind_53 rfl ?_
                refine gx_get (q := 57) hG f_M_66 hpM rfl d_M_behind_54 rfl ?_
                refine gx_iload6 (q := 59) hG d_M_behind_57 rfl ?_
                refine gw_iald (q := 60) hG rfl (by omega) (by omega) d_M_behind_59 rfl ?_
                refine gx_if_lt (tgt := 81) (q := 63) hG d_M_behind_60 rfl rfl (by omega) (fun c60 => ?_) (fun c60 => ?_)
                · have hb := t0' (fun z => by have h8 := z.2 (by omega); rcases hpx with q | q; (· have := hgx.1 q; omega); (· exact (hgx.2 q).2 h8))
                  refine gx_iconst (q := 82) hG d_M_behind_81 rfl ?_
                  refine gx_istore5 (q := 84) hG d_M_behind_82 rfl rfl ?_
                  refine gx_iload6 (q := 86) hG d_M_behind_84 rfl ?_
                  refine gx_aload0 (q := 87) hG d_M_behind_86 rfl ?_
                  refine gx_get (q := 90) hG f_M_63 hpM rfl d_M_behind_87 rfl ?_
                  refine gx_iload2 (q := 91) hG d_M_behind_90 rfl ?_
                  refine gw_iald (q := 92) hG rfl (by omega) (by omega) d_M_behind_91 rfl ?_
                  rw [hgk]
                  refine gx_isub (q := 93) hG d_M_behind_92 rfl ?_
                  rw [eN]
                  refine gx_istore6 (q := 95) hG d_M_behind_93 rfl rfl ?_
                  refine gx_goto (tgt := 38) hG d_M_behind_95 rfl ?_
                  have e := ihj (t + 1) (by omega) (by omega)
                  rw [hb] at e
                  exact e
                · have hps : pS s x := hpx.elim id (fun q => by have := (hgx.2 q).1; omega)
                  obtain ⟨y1, y2, y3⟩ := hgx.1 hps
                  refine gx_iload1 (q := 64) hG d_M_behind_63 rfl ?_
                  refine gx_aload0 (q := 65) hG d_M_behind_64 rfl ?_
                  refine gx_get (q := 68) hG f_M_66 hpM rfl d_M_behind_65 rfl ?_
                  refine gx_iload6 (q := 70) hG d_M_behind_68 rfl ?_
                  refine gw_iald (q := 71) hG rfl (by omega) (by omega) d_M_behind_70 rfl ?_
                  rw [y1]
                  refine gw_S2X (q := 74) hG l_M_229 c_M_has (ev_M_has (by omega) (by omega)) (by decide) (Nat.le_of_ble_eq_true rfl) d_M_behind_71 rfl (by decide) ?_
                  refine gx_if_eq (tgt := 81) (q := 77) hG d_M_behind_74 rfl rfl (bi_R _) (fun c74 => ?_) (fun c74 => ?_)
                  · have c74 := bi_eq0.mp c74
                    have hb := t0' (fun z => c74 (y3.mpr (z.2 (by omega))))
                    refine gx_iconst (q := 82) hG d_M_behind_81 rfl ?_
                    refine gx_istore5 (q := 84) hG d_M_behind_82 rfl rfl ?_
                    refine gx_iload6 (q := 86) hG d_M_behind_84 rfl ?_
                    refine gx_aload0 (q := 87) hG d_M_behind_86 rfl ?_
                    refine gx_get (q := 90) hG f_M_63 hpM rfl d_M_behind_87 rfl ?_
                    refine gx_iload2 (q := 91) hG d_M_behind_90 rfl ?_
                    refine gw_iald (q := 92) hG rfl (by omega) (by omega) d_M_behind_91 rfl ?_
                    rw [hgk]
                    refine gx_isub (q := 93) hG d_M_behind_92 rfl ?_
                    rw [eN]
                    refine gx_istore6 (q := 95) hG d_M_behind_93 rfl rfl ?_
                    refine gx_goto (tgt := 38) hG d_M_behind_95 rfl ?_
                    have e := ihj (t + 1) (by omega) (by omega)
                    rw [hb] at e
                    exact e
                  · have c74 := bi_ne0.mp c74
                    have hb := t1' ⟨c9, fun _ => y3.mp c74⟩
                    refine gx_iconst (q := 78) hG d_M_behind_77 rfl ?_
                    refine gx_goto (tgt := 82) hG d_M_behind_78 rfl ?_
                    refine gx_istore5 (q := 84) hG d_M_behind_82 rfl rfl ?_
                    refine gx_iload6 (q := 86) hG d_M_behind_84 rfl ?_
                    refine gx_aload0 (q := 87) hG d_M_behind_86 rfl ?_
                    refine gx_get (q := 90) hG f_M_63 hpM rfl d_M_behind_87 rfl ?_
                    refine gx_iload2 (q := 91) hG d_M_behind_90 rfl ?_
                    refine gw_iald (q := 92) hG rfl (by omega) (by omega) d_M_behind_91 rfl ?_
                    rw [hgk]
                    refine gx_isub (q := 93) hG d_M_behind_92 rfl ?_
                    rw [eN]
                    refine gx_istore6 (q := 95) hG d_M_behind_93 rfl rfl ?_
                    refine gx_goto (tgt := 38) hG d_M_behind_95 rfl ?_
                    have e := ihj (t + 1) (by omega) (by omega)
                    rw [hb] at e
                    exact e
      refine gx_iload4 (q := 7) hG d_M_behind_5 rfl ?_
      refine gx_aload0 (q := 8) hG d_M_behind_7 rfl ?_
      refine gx_get (q := 11) hG f_M_210 hpM rfl d_M_behind_8 rfl ?_
      rw [hgm]
      refine gx_icmp_ge (tgt := 120) (q := 14) hG d_M_behind_11 rfl rfl (by omega) (by omega) (fun c11 => ?_) (fun c11 => ?_)
      · exfalso; omega
      · refine gx_iload1 (q := 15) hG d_M_behind_14 rfl ?_
        refine gx_iload4 (q := 17) hG d_M_behind_15 rfl ?_
        refine gw_S2X (q := 20) hG l_M_229 c_M_has (ev_M_has (by omega) (by omega)) (by decide) (Nat.le_of_ble_eq_true rfl) d_M_behind_17 rfl (by decide) ?_
        refine gx_istore5 (q := 22) hG d_M_behind_20 rfl rfl ?_
        refine gx_aload0 (q := 23) hG d_M_behind_22 rfl ?_
        refine gx_get (q := 26) hG f_M_63 hpM rfl d_M_behind_23 rfl ?_
        refine gx_iload4 (q := 28) hG d_M_behind_26 rfl ?_
        refine gw_iald (q := 29) hG rfl (by omega) (by omega) d_M_behind_28 rfl ?_
        rw [v5]
        refine gx_aload0 (q := 30) hG d_M_behind_29 rfl ?_
        refine gx_get (q := 33) hG f_M_63 hpM rfl d_M_behind_30 rfl ?_
        refine gx_iload2 (q := 34) hG d_M_behind_33 rfl ?_
        refine gw_iald (q := 35) hG rfl (by omega) (by omega) d_M_behind_34 rfl ?_
        rw [hgk]
        refine gx_isub (q := 36) hG d_M_behind_35 rfl ?_
        refine gx_istore6 (q := 38) hG d_M_behind_36 rfl rfl ?_
        have e := I 28 1 (by omega) (by omega)
        rw [Nat.one_mul] at e
        have eb : (∀ t' : Nat, t' < 1 → t' * vk ≤ v → (msk s S).testBit (v - t' * vk) = true) ↔ S.testBit i = true := by
          have h9 := hms v v1 v2 v3
          rw [v4] at h9
          rw [h9]
          constructor
          · intro q
            have := q 0 (by omega) (by omega)
            rw [Nat.zero_mul] at this
            exact this
          · intro q t' a _
            rw [show t' = 0 by omega, Nat.zero_mul]
            exact q
        rw [bi_congr eb] at e
        exact e
  refine gx_iconst (q := 1) hG d_M_behind_0 rfl ?_
  refine gx_istore3 (q := 2) hG d_M_behind_1 rfl rfl ?_
  refine gx_iconst (q := 3) hG d_M_behind_2 rfl ?_
  refine gx_istore4 (q := 5) hG d_M_behind_3 rfl rfl ?_
  exact L (GG s) 0 none none (by omega) rfl rfl
noncomputable def nxg (s : Sta) (T : Int → Int) (k : Nat) : Nat := if k < GG s then (T k).toNat else 28
/-- where the round over one set's numbers stands -/
def IV (s : Sta) (T : Int → Int) (S k : Nat) (b sh l : Int) : Prop := b = (slStep vS (msk s S) (nxg s T k)).2 ∧ (S = 0 → sh = 0 ∧ l = 0) ∧ (1 ≤ S → ((∃ n : Nat, 2 ≤ n ∧ n < nxg s T k ∧ (msk s S).testBit n = true) → sh = (slStep vS (msk s S) (nxg s T k)).1) ∧ ((¬ ∃ n : Nat, 2 ≤ n ∧ n < nxg s T k ∧ (msk s S).testBit n = true) → sh = 99999) ∧ 1 ≤ l ∧ l ≤ (bs S 28 : Nat) ∧ (∀ t : Nat, 1 ≤ t → t < k → S.testBit t = true → (∀ i, t < i → S.testBit i = false) → l = (bs S 28 : Nat)))
theorem sl_none {s : Sta} {S : Nat} : ∀ n : Nat, (∀ i : Nat, 2 ≤ i → i < n → (msk s S).testBit i = false) → slStep vS (msk s S) n = (14, 0)
  | 0, _ => rfl
  | n + 1, h => by
    have e : slStep vS (msk s S) (n + 1) = if 2 ≤ n ∧ (msk s S).testBit n = true then (min (slStep vS (msk s S) n).1 (1 + vS (gb (msk s S) n) / 2), if vS (gb (msk s S) n) % 2 = 1 then (slStep vS (msk s S) n).2 else 1) else slStep vS (msk s S) n := rfl
    rw [e, if_neg (fun q => by rw [h n q.1 (by omega)] at q; exact absurd q.2 (by decide))]
    exact sl_none n (fun i i0 i1 => h i i0 (by omega))
theorem nxg_bd {s : Sta} {T T95 : Int → Int} (hc : canS s) (hg : GO s T T95 60) {k : Nat} (hk : 1 ≤ k) : 2 ≤ nxg s T k ∧ nxg s T k ≤ 28 := by
  unfold nxg
  by_cases c : k < GG s
  · rw [if_pos c]
    obtain ⟨v, a, b, d, e, f⟩ := go_ex hc hg c
    have : v ≠ 1 := fun z => by
      have h1 := gap_1 hc.1 (show 0 < GG s by omega)
      have : ix s 1 = 0 := by
        have := ix_c (s := s) (v := 1)
        have e0 : cn (pS s) (1 - 1) = 0 := rfl
        omega
      rw [z] at e
      omega
    omega
  · rw [if_neg c]
    omega
/-- no number of the set lies between its places -/
theorem nxg_gap {s : Sta} {T T95 : Int → Int} (hc : canS s) (hg : GO s T T95 60) {S k n : Nat} (hn : 1 ≤ n) (h1 : k ≤ ix s n) (h2 : n < nxg s T k) : (msk s S).testBit n = false := by
  cases hb : (msk s S).testBit n
  · rfl
  · exfalso
    obtain ⟨a, b, -⟩ := msk_bit.mp hb
    have hlt := ix_lt hn (by omega) b
    have c : k < GG s := by omega
    obtain ⟨v, v1, v2, v3, v4, v5⟩ := go_ex hc hg c
    unfold nxg at h2
    rw [if_pos c, v5] at h2
    have := ix_mono hn (show n < v by omega) b
    omega
theorem bs_pos {S : Nat} (h1 : 1 ≤ S) (h2 : S < 2 ^ 28) : 1 ≤ bs S 28 := by
  rcases Nat.eq_zero_or_pos (bs S 28) with c | c
  · exfalso
    have : S = 0 := by
      apply Nat.eq_of_testBit_eq
      intro i
      rw [Nat.zero_testBit]
      cases hb : S.testBit i
      · rfl
      · rcases Nat.lt_or_ge i 28 with d | d
        · have := bs_subp (x := S) (y := 0) (p := i) (fun j q => by rw [Nat.zero_testBit] at q; cases q) hb (Nat.zero_testBit i) 28 d
          omega
        · rw [Nat.testBit_lt_two_pow (Nat.lt_of_lt_of_le h2 (Nat.pow_le_pow_right (by decide) d))] at hb; cases hb
    omega
  · exact c
theorem IV_in {s : Sta} {T T95 : Int → Int} {S : Nat} (hc : canS s) (hg : GO s T T95 60) (hS : S < 2 ^ 28) : IV s T S 1 0 (if S = 0 then 0 else 99999) (if S = 0 then 0 else 1) := by
  have hno : ∀ i : Nat, 2 ≤ i → i < nxg s T 1 → (msk s S).testBit i = false := fun i i0 i1 => by
    cases hb : (msk s S).testBit i
    · rfl
    · obtain ⟨a, b, -⟩ := msk_bit.mp hb
      have h1 : pS s 1 := gap_1 hc.1 (by have := ix_lt (s := s) (show 1 ≤ i by omega) (by omega) b; omega)
      have := ix_mono (s := s) (u := 1) (v := i) (by omega) (by omega) h1
      rw [nxg_gap hc hg (by omega) (by omega) i1] at hb
      cases hb
  refine ⟨by rw [sl_none _ hno], fun z => by rw [if_pos z, if_pos z]; exact ⟨rfl, rfl⟩, fun z => ?_⟩
  rw [if_neg (by omega), if_neg (by omega)]
  have hp := bs_pos z hS
  exact ⟨fun ⟨n, a, b, c⟩ => (by rw [hno n a b] at c; cases c), fun _ => rfl, by omega, by omega, fun t t1 t2 => by omega⟩
theorem IV_skip {s : Sta} {T T95 : Int → Int} {S k : Nat} {b sh l : Int} (hc : canS s) (hg : GO s T T95 60) (hk : 1 ≤ k) (hkG : k < GG s) (hb : S.testBit k = false) (h : IV s T S k b sh l) : IV s T S (k + 1) b sh l := by
  obtain ⟨v, v1, v2, v3, v4, v5⟩ := go_ex hc hg hkG
  have en : nxg s T k = v := by unfold nxg; rw [if_pos hkG, v5]; rfl
  have hn1 := nxg_bd hc hg (k := k + 1) (by omega)
  have hlt : v < nxg s T (k + 1) := by
    unfold nxg
    by_cases c : k + 1 < GG s
    · rw [if_pos c]
      obtain ⟨u, u1, u2, u3, u4, u5⟩ := go_ex hc hg c
      rw [u5]
      show v < u
      rcases Nat.lt_trichotomy v u with z | z | z
      · exact z
      · rw [z] at v4; omega
      · have := ix_mono u1 z u3; omega
    · rw [if_neg c]; omega
  have hv0 : (msk s S).testBit v = false := by
    cases hbb : (msk s S).testBit v
    · rfl
    · have := (msk_bit.mp hbb).2.2
      rw [v4, hb] at this
      cases this
  have hno : ∀ i : Nat, v ≤ i → i < nxg s T (k + 1) → (msk s S).testBit i = false := fun i i0 i1 => by
    by_cases c : i = v
    · rw [c]; exact hv0
    · cases hbb : (msk s S).testBit i
      · rfl
      · have := ix_mono v1 (show v < i by omega) v3
        rw [nxg_gap hc hg (by omega) (by omega) i1] at hbb
        cases hbb
  obtain ⟨d, hd⟩ : ∃ d, nxg s T (k + 1) = v + d := ⟨nxg s T (k + 1) - v, by omega⟩
  have es : slStep vS (msk s S) (nxg s T (k + 1)) = slStep vS (msk s S) (nxg s T k) := by
    rw [hd, en]
    exact slStep_skip d (fun n n0 n1 => hno n n0 (by omega))
  have ex : (∃ n : Nat, 2 ≤ n ∧ n < nxg s T (k + 1) ∧ (msk s S).testBit n = true) ↔ (∃ n : Nat, 2 ≤ n ∧ n < nxg s T k ∧ (msk s S).testBit n = true) := by
    constructor
    · rintro ⟨n, a, b, c⟩
      refine ⟨n, a, ?_, c⟩
      rcases Nat.lt_or_ge n (nxg s T k) with z | z
      · exact z
      · rw [hno n (by omega) b] at c; cases c
    · rintro ⟨n, a, b, c⟩
      exact ⟨n, a, by omega, c⟩
  obtain ⟨h1, h2, h3⟩ := h
  refine ⟨by rw [es]; exact h1, h2, fun z => ?_⟩
  obtain ⟨a1, a2, a3, a4, a5⟩ := h3 z
  refine ⟨fun q => by rw [es]; exact a1 (ex.mp q), fun q => a2 (fun w => q (ex.mpr w)), a3, a4, fun t t1 t2 t3 t4 => ?_⟩
  by_cases e : t = k
  · rw [e, hb] at t3; cases t3
  · exact a5 t t1 (by omega) t3 t4
theorem IV_step {s : Sta} {T T95 : Int → Int} {S k : Nat} {b sh l b' : Int} (hc : canS s) (hg : GO s T T95 60) (hk : 1 ≤ k) (hkG : k < GG s) (hS : S < 2 ^ GG s) (hb : S.testBit k = true) (h : IV s T S k b sh l) {v : Nat} (v1 : 1 ≤ v) (v2 : v ≤ 27) (v3 : pS s v) (v4 : ix s v = k) (v5 : T k = v) (hb' : b' = if vS (msk s (bhN s S v)) % 2 = 1 then b else 1) : IV s T S (k + 1) b' (if sh < 1 + vS (msk s (bhN s S v)) / 2 then sh else 1 + vS (msk s (bhN s S v)) / 2) (if 1 + ((bs (bhN s S v) 28 : Nat) : Int) < l then l else 1 + ((bs (bhN s S v) 28 : Nat) : Int)) := by
  have en : nxg s T k = v := by unfold nxg; rw [if_pos hkG, v5]; rfl
  have hS28 : S < 2 ^ 28 := Nat.lt_of_lt_of_le hS (Nat.pow_le_pow_right (by decide) (by have := can_GG hc; omega))
  have hn1 := nxg_bd hc hg (k := k + 1) (by omega)
  have hn0 := nxg_bd hc hg hk
  rw [en] at hn0
  have hlt : v < nxg s T (k + 1) := by
    unfold nxg
    by_cases c : k + 1 < GG s
    · rw [if_pos c]
      obtain ⟨u, u1, u2, u3, u4, u5⟩ := go_ex hc hg c
      rw [u5]
      show v < u
      rcases Nat.lt_trichotomy v u with z | z | z
      · exact z
      · rw [z] at v4; omega
      · have := ix_mono u1 z u3; omega
    · rw [if_neg c]; omega
  have hvb : (msk s S).testBit v = true := msk_bit.mpr ⟨by omega, v3, by rw [v4]; exact hb⟩
  have hno : ∀ i : Nat, v + 1 ≤ i → i < nxg s T (k + 1) → (msk s S).testBit i = false := fun i i0 i1 => by
    cases hbb : (msk s S).testBit i
    · rfl
    · have := ix_mono v1 (show v < i by omega) v3
      rw [nxg_gap hc hg (by omega) (by omega) i1] at hbb
      cases hbb
  obtain ⟨d, hd⟩ : ∃ d, nxg s T (k + 1) = v + 1 + d := ⟨nxg s T (k + 1) - (v + 1), by omega⟩
  have es : slStep vS (msk s S) (nxg s T (k + 1)) = slStep vS (msk s S) (v + 1) := by
    rw [hd]
    exact slStep_skip d (fun n n0 n1 => hno n n0 (by omega))
  have es2 : slStep vS (msk s S) (v + 1) = if 2 ≤ v ∧ (msk s S).testBit v = true then (min (slStep vS (msk s S) v).1 (1 + vS (gb (msk s S) v) / 2), if vS (gb (msk s S) v) % 2 = 1 then (slStep vS (msk s S) v).2 else 1) else slStep vS (msk s S) v := rfl
  rw [if_pos ⟨hn0.1, hvb⟩] at es2
  have hsb := slStep_bd (V := vS) (fun m => (slF_bd 15 m).1) (m := msk s S) v
  have hV : 0 ≤ vS (gb (msk s S) v) ∧ vS (gb (msk s S) v) ≤ 29 := slF_bd 15 _
  have hV2 : vS (gb (msk s S) v) / 2 ≤ (bs (gb (msk s S) v) 28 : Nat) := slF_pop 15 _ gb_lt (gb_zero v1 msk_0) (by have := gb_pop (n := v) ⟨v1, by omega⟩ msk_0 hvb; have := msk_pop (S := S) hc; omega)
  have hp1 := gb_pop (n := v) ⟨v1, by omega⟩ msk_0 hvb
  have hp2 := msk_pop (S := S) hc
  obtain ⟨h1, h2, h3⟩ := h
  have hS1 : 1 ≤ S := by
    rcases Nat.eq_zero_or_pos S with z | z
    · rw [z, Nat.zero_testBit] at hb; cases hb
    · exact z
  obtain ⟨a1, a2, a3, a4, a5⟩ := h3 hS1
  rw [en] at h1 a1 a2
  rw [msk_bh v1] at hb' ⊢
  have hbb : bs (bhN s S v) 28 + 1 ≤ bs S 28 := bs_subp (fun i q => bhN_sub v1 q) (by rw [← v4] at hb; exact hb) (bhN_self v1 v3) 28 (by have := can_GG hc; omega)
  have hex : ∃ n : Nat, 2 ≤ n ∧ n < nxg s T (k + 1) ∧ (msk s S).testBit n = true := ⟨v, hn0.1, hlt, hvb⟩
  refine ⟨by rw [es, es2, hb', h1], fun z => by omega, fun _ => ⟨fun _ => ?_, fun q => absurd hex q, ?_, ?_, fun t t1 t2 t3 t4 => ?_⟩⟩
  · rw [es, es2]
    show _ = min (slStep vS (msk s S) v).1 (1 + vS (gb (msk s S) v) / 2)
    by_cases c : ∃ n : Nat, 2 ≤ n ∧ n < v ∧ (msk s S).testBit n = true
    · rw [a1 c]
      generalize (slStep vS (msk s S) v).1 = x at hsb ⊢
      split <;> omega
    · have e14 := sl_none (s := s) (S := S) v (fun i i0 i1 => by
        cases hb9 : (msk s S).testBit i
        · rfl
        · exact absurd ⟨i, i0, i1, hb9⟩ c)
      rw [a2 c, e14]
      show (if (99999 : Int) < _ then _ else _) = min (14 : Int) _
      rw [if_neg (by omega)]
      omega
  · split <;> omega
  · split <;> omega
  · by_cases e : t = k
    · subst e
      have htop := fun i => bhN_top (S := S) ⟨v1, v2⟩ v3 hS (fun i hi => t4 i (by omega)) i hc
      rw [v4] at htop
      have := (bs_drop t3 htop 28).1 (by have := can_GG hc; omega)
      split <;> omega
    · have := a5 t t1 (by omega) t3 t4
      split <;> omega
theorem IV_fin {s : Sta} {T T95 : Int → Int} {S k : Nat} {b sh l : Int} (hc : canS s) (hg : GO s T T95 60) (hk : 1 ≤ k) (hkG : GG s ≤ k) (hS : S < 2 ^ GG s) (h : IV s T S k b sh l) : b = vS (msk s S) % 2 ∧ (if 1 ≤ S ∧ sh = 99999 then 1 else sh) = vS (msk s S) / 2 ∧ l = (bs S 28 : Nat) := by
  have hS28 : S < 2 ^ 28 := Nat.lt_of_lt_of_le hS (Nat.pow_le_pow_right (by decide) (by have := can_GG hc; omega))
  have en : nxg s T k = 28 := by unfold nxg; rw [if_neg (by omega)]
  obtain ⟨h1, h2, h3⟩ := h
  rw [en] at h1 h3
  have hm28 : msk s S < 2 ^ 28 := mkN_lt 28
  by_cases c0 : S = 0
  · subst c0
    obtain ⟨b1, b2⟩ := h2 rfl
    have e0 : slStep vS (msk s 0) 28 = (14, 0) := sl_none 28 (fun i i0 i1 => by rw [msk_z, Nat.zero_testBit])
    rw [e0] at h1
    rw [msk_z, h1, b1, b2, if_neg (by omega)]
    exact ⟨by decide, by decide, by decide⟩
  · obtain ⟨a1, a2, a3, a4, a5⟩ := h3 (by omega)
    have hsb := slStep_bd (V := vS) (fun m => (slF_bd 15 m).1) (m := msk s S) 28
    by_cases c : ∃ n : Nat, 2 ≤ n ∧ n < 28 ∧ (msk s S).testBit n = true
    · have hsh := a1 c
      obtain ⟨n, n1, n2, n3⟩ := c
      have hbig : 2 < msk s S := by
        have := Nat.ge_two_pow_of_testBit n3
        have : 2 ^ 2 ≤ 2 ^ n := Nat.pow_le_pow_right (by decide) n1
        omega
      have ev := vS_eq hbig msk_0 (msk_pop hc)
      -- the greatest place
      have hl : l = (bs S 28 : Nat) := by
        have key : ∀ d : Nat, ∀ t : Nat, 28 ≤ t + d → 1 ≤ t → S.testBit t = true → ∃ u : Nat, 1 ≤ u ∧ S.testBit u = true ∧ ∀ i, u < i → S.testBit i = false := by
          intro d
          induction d with
          | zero =>
            intro t t0 t1 t2
            rw [Nat.testBit_lt_two_pow (Nat.lt_of_lt_of_le hS28 (Nat.pow_le_pow_right (by decide) (by omega)))] at t2
            cases t2
          | succ d ih =>
            intro t t0 t1 t2
            by_cases e : ∃ i, t < i ∧ S.testBit i = true
            · obtain ⟨i, i1, i2⟩ := e
              exact ih i (by omega) (by omega) i2
            · exact ⟨t, t1, t2, fun i hi => by
                cases hb : S.testBit i
                · rfl
                · exact absurd ⟨i, hi, hb⟩ e⟩
        have nb := msk_bit.mp n3
        have h1p := gap_1 hc.1 (show 0 < GG s by have := ix_lt (s := s) (show 1 ≤ n by omega) (by omega) nb.2.1; omega)
        have hix := ix_mono (s := s) (u := 1) (v := n) (by omega) (by omega) h1p
        obtain ⟨u, u1, u2, u3⟩ := key 28 (ix s n) (by omega) (by omega) nb.2.2
        have huG : u < GG s := by
          rcases Nat.lt_or_ge u (GG s) with z | z
          · exact z
          · rw [Nat.testBit_lt_two_pow (Nat.lt_of_lt_of_le hS (Nat.pow_le_pow_right (by decide) z))] at u2; cases u2
        exact a5 u u1 (by omega) u2 u3
      rw [ev, h1, hsh]
      generalize (slStep vS (msk s S) 28).1 = x at hsb ⊢
      generalize (slStep vS (msk s S) 28).2 = y at hsb ⊢
      rw [if_neg (by omega)]
      exact ⟨by omega, by omega, hl⟩
    · have hsh := a2 c
      have e0 : slStep vS (msk s S) 28 = (14, 0) := sl_none 28 (fun i i0 i1 => by
        cases hb9 : (msk s S).testBit i
        · rfl
        · exact absurd ⟨i, i0, i1, hb9⟩ c)
      rw [e0] at h1
      -- only the place of 1 is in it
      have hm2 : msk s S ≤ 2 := by
        rcases Nat.lt_or_ge 2 (msk s S) with z | z
        · exact absurd (big_bit hm28 msk_0 z) c
        · exact z
      have hS1 : ∃ i, S.testBit i = true := by
        refine Classical.byContradiction fun q => c0 ?_
        apply Nat.eq_of_testBit_eq
        intro i
        rw [Nat.zero_testBit]
        cases hb : S.testBit i
        · rfl
        · exact absurd ⟨i, hb⟩ q
      obtain ⟨i, hi⟩ := hS1
      have hiG : i < GG s := by
        rcases Nat.lt_or_ge i (GG s) with z | z
        · exact z
        · rw [Nat.testBit_lt_two_pow (Nat.lt_of_lt_of_le hS (Nat.pow_le_pow_right (by decide) z))] at hi; cases hi
      have one : ∀ j, S.testBit j = true → j = 0 := fun j hj => by
        have hjG : j < GG s := by
          rcases Nat.lt_or_ge j (GG s) with z | z
          · exact z
          · rw [Nat.testBit_lt_two_pow (Nat.lt_of_lt_of_le hS (Nat.pow_le_pow_right (by decide) z))] at hj; cases hj
        obtain ⟨v, v1, v2, v3, v4, v5⟩ := go_ex hc hg hjG
        have hb : (msk s S).testBit v = true := msk_bit.mpr ⟨by omega, v3, by rw [v4]; exact hj⟩
        have hv1 : v = 1 := by
          rcases Nat.lt_or_ge v 2 with z | z
          · omega
          · exact absurd ⟨v, z, by omega, hb⟩ c
        have e1 := ix_c (s := s) (v := 1)
        have e2 : cn (pS s) (1 - 1) = 0 := rfl
        rw [hv1] at v4
        omega
      have hi0 := one i hi
      have hS1 : S = 1 := by
        apply Nat.eq_of_testBit_eq
        intro j
        cases hj : S.testBit j
        · cases h19 : (1 : Nat).testBit j
          · rfl
          · have := Nat.testBit_one_eq_true_iff_self_eq_zero.mp h19
            rw [this, ← hi0, hi] at hj
            cases hj
        · rw [one j hj]
          rfl
      have hb1 : (msk s S).testBit 1 = true := by
        have h1p := gap_1 hc.1 (show 0 < GG s by omega)
        have e1 := ix_c (s := s) (v := 1)
        have e2 : cn (pS s) (1 - 1) = 0 := rfl
        refine msk_bit.mpr ⟨by omega, h1p, ?_⟩
        rw [show ix s 1 = 0 by omega, ← hi0]
        exact hi
      have hm2' : msk s S = 2 := by
        have := Nat.ge_two_pow_of_testBit hb1
        omega
      rw [hm2', h1, hsh, if_pos ⟨by omega, rfl⟩]
      have hl1 : bs S 28 = 1 := by rw [hS1]; decide
      exact ⟨by decide, by decide, by omega⟩
theorem sub_lt {x y p : Nat} (h : ∀ i, y.testBit i = true → x.testBit i = true) (hx : x.testBit p = true) (hy : y.testBit p = false) : y < x := by
  have e : y &&& x = y := by
    apply Nat.eq_of_testBit_eq
    intro i
    rw [Nat.testBit_and]
    cases hc : y.testBit i
    · rfl
    · rw [h i hc]
      rfl
  have h1 : y ≤ x := by rw [← e]; exact Nat.and_le_right
  rcases Nat.lt_or_ge y x with c | c
  · exact c
  · have : y = x := by omega
    rw [this, hx] at hy
    cases hy

