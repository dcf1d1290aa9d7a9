/-! part 69: the tree of sets of gaps -/
def chkB (m v : Nat) : Nat → Bool
  | 0 => true
  | a + 1 => (m.testBit (a + 1) || m.testBit (v - (a + 1))) && chkB m v a
def mkBit (m v : Nat) : Bool := !m.testBit v && chkB m v (v / 2)
def lowF (m : Nat) : Nat → Nat → Nat
  | _, 0 => 0
  | v, n + 1 => if m.testBit v then lowF m (v + 1) n else v
def sL (R : Nat → Nat → Nat) (m : Nat) : Nat → Nat → Nat
  | _, 0 => 0
  | v, n + 1 => (if mkBit m v then R (m ||| 1 <<< v) v else 0) + sL R m (v + 1) n
def sB (f : Int) : Nat → Nat → Nat → Nat
  | 0, _, top => if f = -1 ∨ f = top then 1 else 0
  | l + 1, m, top => sL (sB f l) m (top + 1) (min (top + lowF m 1 60) 60 - top)
theorem chkB_iff {m v : Nat} : ∀ n : Nat, chkB m v n = true ↔ ∀ a : Nat, 1 ≤ a → a ≤ n → m.testBit a = true ∨ m.testBit (v - a) = true
  | 0 => ⟨fun _ a h1 h2 => by omega, fun _ => rfl⟩
  | n + 1 => by
    unfold chkB
    rw [Bool.and_eq_true, Bool.or_eq_true, chkB_iff n]
    constructor
    · rintro ⟨h1, h2⟩ a a1 a2
      by_cases c : a = n + 1
      · rw [c]; exact h1
      · exact h2 a a1 (by omega)
    · intro h
      exact ⟨h (n + 1) (by omega) (by omega), fun a a1 a2 => h a a1 (by omega)⟩
theorem mkBit_iff {m v : Nat} (hv : v ≤ 60) : makerP (gB m) v ↔ mkBit m v = true := by
  unfold mkBit makerP
  rw [Bool.and_eq_true, chkB_iff]
  have g : ∀ a : Nat, a ≤ 60 → (gB m a ↔ m.testBit a = true) := fun a ha => by
    unfold gB
    rw [show (a : Int).toNat = a by omega]
    exact ⟨fun q => q.2, fun q => ⟨by omega, q⟩⟩
  rw [g v hv]
  refine and_congr ?_ ?_
  · cases m.testBit v <;> simp
  · constructor
    · intro h a a1 a2
      refine Classical.byContradiction fun q => h ⟨a, by omega, by omega, fun z => q (Or.inl ((g a (by omega)).mp z)), fun z => q (Or.inr ?_)⟩
      rw [show (v : Int) - a = ((v - a : Nat) : Int) by omega] at z
      exact (g (v - a) (by omega)).mp z
    · rintro h ⟨a, a1, a2, a3, a4⟩
      obtain ⟨k, rfl⟩ := Int.eq_ofNat_of_zero_le (show 0 ≤ a by omega)
      rw [show (v : Int) - k = ((v - k : Nat) : Int) by omega] at a4
      rcases h k (by omega) (by omega) with q | q
      · exact a3 ((g k (by omega)).mpr q)
      · exact a4 ((g (v - k) (by omega)).mpr q)
theorem j_bitG (a k : Nat) (hk : k < 64) : Int64.ofInt ((Int64.ofInt (a : Int) >>> ((Int32.ofInt (k : Int)).toInt64 &&& 63)).toInt) &&& Int64.ofInt 1 = Int64.ofInt (bi (a.testBit k = true)) := by
  rw [Int64.ofInt_toInt]
  apply Int64.toBitVec_inj.mp
  rw [Int64.toBitVec_and, Int64.toBitVec_shiftRight, j_bv]
  have e := j_cnt ⟨k, hk⟩
  rw [BitVec.sshiftRight_eq', e]
  have e1 : (Int64.ofInt 1).toBitVec = BitVec.ofNat 64 1 := rfl
  rw [e1]
  apply BitVec.eq_of_getLsbD_eq
  intro i hi
  rw [BitVec.getLsbD_and, BitVec.getLsbD_sshiftRight]
  cases i with
  | zero =>
    by_cases h : a.testBit k = true
    · rw [bi_t h, e1]
      simp [BitVec.getLsbD_ofNat, hk, h]
    · rw [bi_f h]
      have h' : a.testBit k = false := by simpa using h
      have h9 : (BitVec.ofNat 64 a).getLsbD k = false := by rw [BitVec.getLsbD_ofNat, h']; simp
      simp [hk]
      exact h9
  | succ i =>
    have e2 : (BitVec.ofNat 64 1).getLsbD (i + 1) = false := by
      rw [BitVec.getLsbD_ofNat]
      have : (1 : Nat).testBit (i + 1) = false := by
        cases hb : (1 : Nat).testBit (i + 1)
        · rfl
        · rw [Nat.testBit_one_eq_true_iff_self_eq_zero] at hb; omega
      rw [this]
      simp
    rw [e2, Bool.and_false]
    by_cases h : a.testBit k = true
    · rw [bi_t h, e1, e2]
    · rw [bi_f h]
      simp
theorem ev2_X_lowestOf {w : Mem} {m : Nat} : EvY y_X_lowestOf b_X_lowestOf 3 (some .int) (1) [Vj (m : Int)] w (LowB m) := by
  refine Ev.mk (isI := false) (by decide +kernel) nofun (Nat.le_of_ble_eq_true rfl) (fun G hG => ?_)
  show G 0 [some (Vj (m : Int)), none, none] [] 102 (hp w)
  refine gx_iconst (q := 1) hG d_X_lowestOf_0 rfl ?_
  refine gx_istore2 (q := 2) hG d_X_lowestOf_1 rfl rfl ?_
  skip
  have L : ∀ (j k : Nat), k + j = 61 → (∀ u, u < k → m.testBit u = false) → G 2 [some (Vj (m : Int)), none, some (Vi (k : Int))] [] 102 (hp w) := by
    intro j
    induction j with
    | zero =>
      intro k h1 h2
      refine gx_iload2 (q := 3) hG d_X_lowestOf_2 rfl ?_
      refine gx_bipush (q := 5) hG d_X_lowestOf_3 rfl rfl ?_
      refine gx_icmp_gt (tgt := 26) (q := 8) hG d_X_lowestOf_5 rfl rfl (by omega) (by omega) (fun c5 => ?_) (fun c5 => ?_)
      · refine gx_iconst (q := 27) hG d_X_lowestOf_26 rfl ?_
        refine gx_ireturn hG d_X_lowestOf_27 rfl rfl ?_
        exact ⟨w, rfl, _, rfl, rfl, Or.inr ⟨rfl, fun u hu => h2 u (by omega)⟩⟩
      · exfalso; omega
    | succ j ih =>
      intro k h1 h2
      refine gx_iload2 (q := 3) hG d_X_lowestOf_2 rfl ?_
      refine gx_bipush (q := 5) hG d_X_lowestOf_3 rfl rfl ?_
      refine gx_icmp_gt (tgt := 26) (q := 8) hG d_X_lowestOf_5 rfl rfl (by omega) (by omega) (fun c5 => ?_) (fun c5 => ?_)
      · exfalso; omega
      · refine gx_lload0 (q := 9) hG d_X_lowestOf_8 rfl ?_
        refine gx_iload2 (q := 10) hG d_X_lowestOf_9 rfl ?_
        refine gx_lshr (q := 11) hG (((Int64.ofInt (m : Int) >>> ((Int32.ofInt (k : Int)).toInt64 &&& 63)).toInt)) d_X_lowestOf_10 rfl ((Int64.ofInt_toInt _).symm) ?_
        refine gx_lconst (q := 12) hG 1 d_X_lowestOf_11 rfl rfl ?_
        refine gx_land (q := 13) hG (bi (m.testBit k = true)) d_X_lowestOf_12 rfl (j_bitG m k (by omega)) ?_
        refine gx_lconst (q := 14) hG 1 d_X_lowestOf_13 rfl rfl ?_
        refine gx_lcmp (q := 15) hG d_X_lowestOf_14 rfl (by have := bi_01 (m.testBit k = true); omega) (by have := bi_01 (m.testBit k = true); omega) ?_
        refine gx_if_ne (tgt := 20) (q := 18) hG d_X_lowestOf_15 rfl rfl (cmp3_R _ _) (fun c15 => ?_) (fun c15 => ?_)
        · have c15 := cmp3_ne.mp c15
          have c2 := bi_eq0.mp (show bi (m.testBit k = true) = 0 by have := bi_01 (m.testBit k = true); omega)
          refine gx_iinc2 (q := 23) hG d_X_lowestOf_20 rfl rfl ?_
          refine gx_goto (tgt := 2) hG d_X_lowestOf_23 rfl ?_
          exact ih (k + 1) (by omega) (fun u hu => (Nat.lt_succ_iff_lt_or_eq.mp hu).elim (h2 u) (fun e => by rw [e]; simpa using c2))
        · have c15 := cmp3_eq.mp c15
          have c2 := bi_eq1.mp c15
          refine gx_iload2 (q := 19) hG d_X_lowestOf_18 rfl ?_
          refine gx_ireturn hG d_X_lowestOf_19 rfl rfl ?_
          exact ⟨w, rfl, _, rfl, rfl, Or.inl ⟨k, rfl, by omega, c2, h2⟩⟩
  exact L 61 0 (by omega) (fun u hu => by omega)
theorem lowF_at {m z : Nat} (hz : m.testBit z = false) : ∀ (n v : Nat), v ≤ z → z < v + n → (∀ u, v ≤ u → u < z → m.testBit u = true) → lowF m v n = z
  | 0, v, h1, h2, h3 => by omega
  | n + 1, v, h1, h2, h3 => by
    unfold lowF
    by_cases c : v = z
    · subst c
      rw [hz]
      rfl
    · rw [h3 v (Nat.le_refl _) (by omega)]
      exact lowF_at hz n (v + 1) (by omega) (by omega) (fun u u0 u1 => h3 u (by omega) u1)
theorem lowF_none {m : Nat} : ∀ (n v : Nat), (∀ u, v ≤ u → u < v + n → m.testBit u = true) → lowF m v n = 0
  | 0, _, _ => rfl
  | n + 1, v, h => by
    unfold lowF
    rw [h v (Nat.le_refl _) (by omega)]
    exact lowF_none n (v + 1) (fun u u0 u1 => h u (by omega) (by omega))
theorem lowF_eq {m : Nat} {z : Int} (h : LowB (18446744073709551614 &&& (18446744073709551614 ^^^ m)) z) : z = (lowF m 1 60 : Nat) := by
  have tb : ∀ u : Nat, u ≤ 60 → (18446744073709551614 &&& (18446744073709551614 ^^^ m)).testBit u = (decide (1 ≤ u) && !m.testBit u) := fun u hu => by
    have e : (18446744073709551614 : Nat).testBit u = decide (1 ≤ u) := by
      have := (show ∀ x : Fin 61, (18446744073709551614 : Nat).testBit x.val = decide (1 ≤ x.val) by decide) ⟨u, by omega⟩
      exact this
    rw [Nat.testBit_and, Nat.testBit_xor, e]
    cases m.testBit u <;> by_cases c : 1 ≤ u <;> simp [c]
  rcases h with ⟨v, rfl, a1, a2, a3⟩ | ⟨rfl, a1⟩
  · rw [tb v a1] at a2
    simp only [Bool.and_eq_true, decide_eq_true_eq, Bool.not_eq_true'] at a2
    rw [lowF_at a2.2 60 1 a2.1 (by omega) (fun u u0 u1 => ?_)]
    have := a3 u u1
    rw [tb u (by omega)] at this
    simpa [u0] using this
  · rw [lowF_none 60 1 (fun u u0 u1 => ?_)]
    · rfl
    · have := a1 u (by omega)
      rw [tb u (by omega)] at this
      simpa [u0] using this
theorem lowF_le {m : Nat} : ∀ (n v : Nat), lowF m v n ≤ v + n
  | 0, v => Nat.zero_le _
  | n + 1, v => by
    unfold lowF
    split
    · have := lowF_le (m := m) n (v + 1)
      omega
    · omega
theorem ev_X_setsBelow {w : Mem} {f : Int} (hf : R3 f) : ∀ (l m top : Nat), l ≤ 9 → m < 2 ^ 61 → top ≤ 60 → EvX y_X_setsBelow b_X_setsBelow 8 (some .int) (l + 5) [Vj (m : Int), Vi (top : Int), Vi (l : Int), Vi f] w (Vi (sB f l m top : Nat)) := by
  intro l
  induction l with
  | zero =>
    intro m top hl hm ht
    refine Ev.mk (isI := false) (by decide +kernel) nofun (Nat.le_of_ble_eq_true rfl) (fun G hG => ?_)
    show G 0 [some (Vj (m : Int)), none, some (Vi (top : Int)), some (Vi ((0 : Nat) : Int)), some (Vi f), none, none, none] [] 102 (hp w)
    refine gx_iload3 (q := 1) hG d_X_setsBelow_0 rfl ?_
    refine gx_if_le (tgt := 10) (q := 4) hG d_X_setsBelow_1 rfl rfl (by omega) (fun c1 => ?_) (fun c1 => ?_)
    · refine gx_iload4 (q := 12) hG d_X_setsBelow_10 rfl ?_
      refine gx_iconst (q := 13) hG d_X_setsBelow_12 rfl ?_
      refine gx_icmp_eq (tgt := 22) (q := 16) hG d_X_setsBelow_13 rfl rfl (by omega) (by omega) (fun c13 => ?_) (fun c13 => ?_)
      · refine gx_iconst (q := 23) hG d_X_setsBelow_22 rfl ?_
        refine gx_goto (tgt := 27) hG d_X_setsBelow_23 rfl ?_
        refine gx_ireturn hG d_X_setsBelow_27 rfl rfl ?_
        first
          | exact ⟨w, rfl, by unfold sB; rw [if_pos (by omega)]; rfl, rfl⟩
          | exact ⟨w, rfl, by unfold sB; rw [if_neg (by omega)]; rfl, rfl⟩
      · refine gx_iload4 (q := 18) hG d_X_setsBelow_16 rfl ?_
        refine gx_iload2 (q := 19) hG d_X_setsBelow_18 rfl ?_
        refine gx_icmp_ne (tgt := 26) (q := 22) hG d_X_setsBelow_19 rfl rfl (by omega) (by omega) (fun c19 => ?_) (fun c19 => ?_)
        · refine gx_iconst (q := 27) hG d_X_setsBelow_26 rfl ?_
          refine gx_ireturn hG d_X_setsBelow_27 rfl rfl ?_
          first
            | exact ⟨w, rfl, by unfold sB; rw [if_pos (by omega)]; rfl, rfl⟩
            | exact ⟨w, rfl, by unfold sB; rw [if_neg (by omega)]; rfl, rfl⟩
        · refine gx_iconst (q := 23) hG d_X_setsBelow_22 rfl ?_
          refine gx_goto (tgt := 27) hG d_X_setsBelow_23 rfl ?_
          refine gx_ireturn hG d_X_setsBelow_27 rfl rfl ?_
          first
            | exact ⟨w, rfl, by unfold sB; rw [if_pos (by omega)]; rfl, rfl⟩
            | exact ⟨w, rfl, by unfold sB; rw [if_neg (by omega)]; rfl, rfl⟩
    · exact absurd c1 (by decide)
  | succ l ih =>
    intro m top hl hm ht
    refine Ev.mk (isI := false) (by decide +kernel) nofun (Nat.le_of_ble_eq_true rfl) (fun G hG => ?_)
    show G 0 [some (Vj (m : Int)), none, some (Vi (top : Int)), some (Vi ((l + 1 : Nat) : Int)), some (Vi f), none, none, none] [] 102 (hp w)
    have hlow := lowF_le (m := m) 60 1
    obtain ⟨e, he⟩ : ∃ e, e = top + lowF m 1 60 := ⟨_, rfl⟩
    have L : ∀ (n v c : Nat), v + n = min e 60 + 1 → top + 1 ≤ v → c + sL (sB f l) m v n = sB f (l + 1) m top → G 52 [some (Vj (m : Int)), none, some (Vi (top : Int)), some (Vi ((l + 1 : Nat) : Int)), some (Vi f), some (Vi (c : Int)), some (Vi (e : Int)), some (Vi (v : Int))] [] 102 (hp w) := by
      intro n
      induction n with
      | zero =>
        intro v c h1 h2 h3
        have h3 : c + 0 = sB f (l + 1) m top := h3
        refine gx_iload7 (q := 54) hG d_X_setsBelow_52 rfl ?_
        refine gx_iload6 (q := 56) hG d_X_setsBelow_54 rfl ?_
        refine gx_icmp_gt (tgt := 102) (q := 59) hG d_X_setsBelow_56 rfl rfl (by omega) (by omega) (fun c56 => ?_) (fun c56 => ?_)
        · refine gx_iload5 (q := 104) hG d_X_setsBelow_102 rfl ?_
          refine gx_ireturn hG d_X_setsBelow_104 rfl rfl ?_
          exact ⟨w, rfl, by rw [← h3]; rfl, rfl⟩
        · refine gx_iload7 (q := 61) hG d_X_setsBelow_59 rfl ?_
          refine gx_bipush (q := 63) hG d_X_setsBelow_61 rfl rfl ?_
          refine gx_icmp_gt (tgt := 102) (q := 66) hG d_X_setsBelow_63 rfl rfl (by omega) (by omega) (fun c63 => ?_) (fun c63 => ?_)
          · refine gx_iload5 (q := 104) hG d_X_setsBelow_102 rfl ?_
            refine gx_ireturn hG d_X_setsBelow_104 rfl rfl ?_
            exact ⟨w, rfl, by rw [← h3]; rfl, rfl⟩
          · exfalso; omega
      | succ n ihn =>
        intro v c h1 h2 h3
        have h3 : c + ((if mkBit m v then sB f l (m ||| 1 <<< v) v else 0) + sL (sB f l) m (v + 1) n) = sB f (l + 1) m top := h3
        have hmb := mkBit_iff (m := m) (v := v) (by omega)
        have hor : (m ||| 1 <<< v) < 2 ^ 61 := Nat.or_lt_two_pow hm (by rw [Nat.one_shiftLeft]; exact Nat.pow_lt_pow_right (by decide) (by omega))
        refine gx_iload7 (q := 54) hG d_X_setsBelow_52 rfl ?_
        refine gx_iload6 (q := 56) hG d_X_setsBelow_54 rfl ?_
        refine gx_icmp_gt (tgt := 102) (q := 59) hG d_X_setsBelow_56 rfl rfl (by omega) (by omega) (fun c56 => ?_) (fun c56 => ?_)
        · exfalso; omega
        · refine gx_iload7 (q := 61) hG d_X_setsBelow_59 rfl ?_
          refine gx_bipush (q := 63) hG d_X_setsBelow_61 rfl rfl ?_
          refine gx_icmp_gt (tgt := 102) (q := 66) hG d_X_setsBelow_63 rfl rfl (by omega) (by omega) (fun c63 => ?_) (fun c63 => ?_)
          · exfalso; omega
          · refine gx_lload0 (q := 67) hG d_X_setsBelow_66 rfl ?_
            refine gx_iload7 (q := 69) hG d_X_setsBelow_67 rfl ?_
            refine gw_S2X (q := 72) hG l_X_281 c_X_isMaker (ev_X_isMaker (by omega) (by omega)) (by omega) (Nat.le_of_ble_eq_true rfl) d_X_setsBelow_69 rfl (by decide) ?_
            rw [propext hmb]
            refine gx_if_eq (tgt := 96) (q := 75) hG d_X_setsBelow_72 rfl rfl (bi_R _) (fun c72 => ?_) (fun c72 => ?_)
            · have c72 := bi_eq0.mp c72
              refine gx_iinc7 (q := 99) hG d_X_setsBelow_96 rfl rfl ?_
              refine gx_goto (tgt := 52) hG d_X_setsBelow_99 rfl ?_
              first
                | exact ihn (v + 1) (c + sB f l (m ||| 1 <<< v) v) (by omega) (by omega) (by rw [if_pos c72] at h3; omega)
                | exact ihn (v + 1) c (by omega) (by omega) (by rw [if_neg c72] at h3; omega)
            · have c72 := bi_ne0.mp c72
              refine gx_iload5 (q := 77) hG d_X_setsBelow_75 rfl ?_
              refine gx_lload0 (q := 78) hG d_X_setsBelow_77 rfl ?_
              refine gx_lconst (q := 79) hG 1 d_X_setsBelow_78 rfl rfl ?_
              refine gx_iload7 (q := 81) hG d_X_setsBelow_79 rfl ?_
              refine gx_lshl (q := 82) hG (((1 <<< v : Nat) : Int)) d_X_setsBelow_81 rfl (j_shl 1 v (by omega)) ?_
              refine gx_lor (q := 83) hG (((m ||| 1 <<< v : Nat) : Int)) d_X_setsBelow_82 rfl (j_or m (1 <<< v)) ?_
              refine gx_iload7 (q := 85) hG d_X_setsBelow_83 rfl ?_
              refine gx_iload3 (q := 86) hG d_X_setsBelow_85 rfl ?_
              refine gx_iconst (q := 87) hG d_X_setsBelow_86 rfl ?_
              refine gx_isub (q := 88) hG d_X_setsBelow_87 rfl ?_
              rw [show ((l + 1 : Nat) : Int) - 1 = (l : Int) by omega]
              refine gx_iload4 (q := 90) hG d_X_setsBelow_88 rfl ?_
              refine gw_S4X (q := 93) hG l_X_285 c_X_setsBelow (ih (m ||| 1 <<< v) v (by omega) hor (by omega)) (by omega) (Nat.le_of_ble_eq_true rfl) d_X_setsBelow_90 rfl (by decide) ?_
              refine gx_iadd (q := 94) hG d_X_setsBelow_93 rfl ?_
              refine gx_istore5 (q := 96) hG d_X_setsBelow_94 rfl rfl ?_
              refine gx_iinc7 (q := 99) hG d_X_setsBelow_96 rfl rfl ?_
              refine gx_goto (tgt := 52) hG d_X_setsBelow_99 rfl ?_
              first
                | exact ihn (v + 1) (c + sB f l (m ||| 1 <<< v) v) (by omega) (by omega) (by rw [if_pos c72] at h3; omega)
                | exact ihn (v + 1) c (by omega) (by omega) (by rw [if_neg c72] at h3; omega)
    refine gx_iload3 (q := 1) hG d_X_setsBelow_0 rfl ?_
    refine gx_if_le (tgt := 10) (q := 4) hG d_X_setsBelow_1 rfl rfl (by omega) (fun c1 => ?_) (fun c1 => ?_)
    · exfalso; omega
    · refine gx_iload3 (q := 5) hG d_X_setsBelow_4 rfl ?_
      refine gx_bipush (q := 7) hG d_X_setsBelow_5 rfl rfl ?_
      refine gx_icmp_le (tgt := 28) (q := 10) hG d_X_setsBelow_7 rfl rfl (by omega) (by omega) (fun c7 => ?_) (fun c7 => ?_)
      · refine gx_iconst (q := 29) hG d_X_setsBelow_28 rfl ?_
        refine gx_istore5 (q := 31) hG d_X_setsBelow_29 rfl rfl ?_
        refine gx_iload2 (q := 32) hG d_X_setsBelow_31 rfl ?_
        refine gx_lload0 (q := 33) hG d_X_setsBelow_32 rfl ?_
        refine gx_ldc2 (q := 36) hG (-1) k_X_329 d_X_setsBelow_33 rfl rfl ?_
        refine gx_lxor (q := 37) hG (-1 - (m : Int)) d_X_setsBelow_36 rfl (j_not (m : Int)) ?_
        refine gx_ldc2 (q := 40) hG (-2) k_X_331 d_X_setsBelow_37 rfl rfl ?_
        refine gx_land (q := 41) hG (((18446744073709551614 &&& (18446744073709551614 ^^^ m) : Nat) : Int)) d_X_setsBelow_40 rfl ((by rw [show Int64.ofInt (-2) = Int64.ofInt ((18446744073709551614 : Nat) : Int) from rfl]; exact j_notand m 18446744073709551614)) ?_
        refine gw_S1Y (q := 44) hG l_X_333 c_X_lowestOf (ev2_X_lowestOf) (by omega) (Nat.le_of_ble_eq_true rfl) d_X_setsBelow_41 rfl (by decide) (fun z41 h41 => ?_)
        have e9 := lowF_eq h41
        rw [e9]
        refine gx_iadd (q := 45) hG d_X_setsBelow_44 rfl ?_
        rw [← Int.natCast_add, ← he]
        refine gx_istore6 (q := 47) hG d_X_setsBelow_45 rfl rfl ?_
        refine gx_iload2 (q := 48) hG d_X_setsBelow_47 rfl ?_
        refine gx_iconst (q := 49) hG d_X_setsBelow_48 rfl ?_
        refine gx_iadd (q := 50) hG d_X_setsBelow_49 rfl ?_
        refine gx_istore7 (q := 52) hG d_X_setsBelow_50 rfl rfl ?_
        exact L (min e 60 - top) (top + 1) 0 (by omega) (by omega) (by rw [he]; show 0 + sL (sB f l) m (top + 1) (min (top + lowF m 1 60) 60 - top) = sL (sB f l) m (top + 1) (min (top + lowF m 1 60) 60 - top); omega)
      · exfalso; omega
/-- the levels of the tree -/
def topF (m : Nat) : Nat → Nat
  | 0 => 0
  | n + 1 => if m.testBit (n + 1) then n + 1 else topF m n
def topB (m : Nat) : Nat := topF m 23
def extV (m : Nat) : Nat → Nat → List Nat
  | _, 0 => []
  | v, n + 1 => if mkBit m v then (m ||| 1 <<< v) :: extV m (v + 1) n else extV m (v + 1) n
def nxL (g : Nat) : List Nat → List Nat
  | [] => []
  | m :: t => extV m (topB m + 1) (2 * g + 1 - topB m) ++ nxL g t
def lev : Nat → List Nat
  | 0 => [0]
  | g + 1 => nxL g (lev g)
def cntF (f : Nat) : List Nat → Nat
  | [] => 0
  | m :: t => (if topB m = f then 1 else 0) + cntF f t
theorem lev_ok : ∀ g : Fin 10, (lev g.val).length ≤ 118 ∧ ∀ m ∈ lev g.val, m < 262144 ∧ topB m ≤ 17 := by decide +kernel
theorem tree_eq : ∀ n : Fin 10, sB (-1) n.val 0 0 = (lev n.val).length ∧ ∀ f : Fin 18, sB (f.val : Int) n.val 0 0 = cntF f.val (lev n.val) := by decide +kernel
def sp_tree (s : Sta) (n f : Int) : Int × Sta := if ¬ (0 ≤ n ∧ n ≤ 9 ∧ 0 ≤ f ∧ f ≤ 17) then (-1, s) else (1, ss (fr1 s ((lev n.toNat).length : Nat)) 4 3 (cntF f.toNat (lev n.toNat) : Nat))
theorem ev_X_tree {w : Mem} {n f : Int} (hO : OK (aX w)) (hj : XJ w) (hn : R3 n) (hf : R3 f) : EvI y_X_tree b_X_tree 3 (some .int) (16) [Vr 0, Vi n, Vi f] w (PX w (sp_tree (aX w) n f)) := by
  refine Ev.mk (isI := false) (by decide +kernel) nofun (Nat.le_of_ble_eq_true rfl) (fun G hG => ?_)
  show G 0 [some (Vr 0), some (Vi n), some (Vi f)] [] 102 (hp w)
  refine gx_iload1 (q := 1) hG d_X_tree_0 rfl ?_
  refine gx_if_lt (tgt := 20) (q := 4) hG d_X_tree_1 rfl rfl (by omega) (fun c1 => ?_) (fun c1 => ?_)
  · refine gx_iconst (q := 21) hG d_X_tree_20 rfl ?_
    refine gx_ireturn hG d_X_tree_21 rfl rfl ?_
    refine ⟨_, rfl, _, rfl, ?_⟩
    unfold sp_tree; rw [if_pos (by omega)]; exact PX_id hj
  · refine gx_iload1 (q := 5) hG d_X_tree_4 rfl ?_
    refine gx_bipush (q := 7) hG d_X_tree_5 rfl rfl ?_
    refine gx_icmp_gt (tgt := 20) (q := 10) hG d_X_tree_7 rfl rfl (by omega) (by omega) (fun c7 => ?_) (fun c7 => ?_)
    · refine gx_iconst (q := 21) hG d_X_tree_20 rfl ?_
      refine gx_ireturn hG d_X_tree_21 rfl rfl ?_
      refine ⟨_, rfl, _, rfl, ?_⟩
      unfold sp_tree; rw [if_pos (by omega)]; exact PX_id hj
    · refine gx_iload2 (q := 11) hG d_X_tree_10 rfl ?_
      refine gx_if_lt (tgt := 20) (q := 14) hG d_X_tree_11 rfl rfl (by omega) (fun c11 => ?_) (fun c11 => ?_)
      · refine gx_iconst (q := 21) hG d_X_tree_20 rfl ?_
        refine gx_ireturn hG d_X_tree_21 rfl rfl ?_
        refine ⟨_, rfl, _, rfl, ?_⟩
        unfold sp_tree; rw [if_pos (by omega)]; exact PX_id hj
      · refine gx_iload2 (q := 15) hG d_X_tree_14 rfl ?_
        refine gx_bipush (q := 17) hG d_X_tree_15 rfl rfl ?_
        refine gx_icmp_le (tgt := 22) (q := 20) hG d_X_tree_17 rfl rfl (by omega) (by omega) (fun c17 => ?_) (fun c17 => ?_)
        · obtain ⟨nn, rfl⟩ := Int.eq_ofNat_of_zero_le (show 0 ≤ n by omega)
          obtain ⟨ff, rfl⟩ := Int.eq_ofNat_of_zero_le (show 0 ≤ f by omega)
          have te := tree_eq ⟨nn, by omega⟩
          have t1 : sB (-1) nn 0 0 = (lev nn).length := te.1
          have t2 : sB (ff : Int) nn 0 0 = cntF ff (lev nn) := te.2 ⟨ff, by omega⟩
          have t3 : (lev nn).length ≤ 118 := (lev_ok ⟨nn, by omega⟩).1
          refine gx_aload0 (q := 23) hG d_X_tree_22 rfl ?_
          refine gx_lconst (q := 24) hG 0 d_X_tree_23 rfl rfl ?_
          refine gx_iconst (q := 25) hG d_X_tree_24 rfl ?_
          refine gx_iload1 (q := 26) hG d_X_tree_25 rfl ?_
          refine gx_iconst (q := 27) hG d_X_tree_26 rfl ?_
          refine gw_S4X (q := 30) hG l_X_285 c_X_setsBelow (ev_X_setsBelow (by omega) nn 0 0 (by omega) (by decide) (by omega)) (by omega) (Nat.le_of_ble_eq_true rfl) d_X_tree_27 rfl (by decide) ?_
          rw [t1]
          refine gx_i2l (q := 31) hG d_X_tree_30 rfl (by omega) ?_
          refine gx_lconst (q := 32) hG 1 d_X_tree_31 rfl rfl ?_
          refine gw_V2V (q := 35) hG l_X_225 c_X_tellFraction (ev_X_tellFraction (Or.inl rfl)) hpX rfl (by decide) (Nat.le_of_ble_eq_true rfl) d_X_tree_32 rfl (by decide) (fun w1 h32 => ?_)
          refine gx_aload0 (q := 36) hG d_X_tree_35 rfl ?_
          refine gx_lconst (q := 37) hG 0 d_X_tree_36 rfl rfl ?_
          refine gx_iconst (q := 38) hG d_X_tree_37 rfl ?_
          refine gx_iload1 (q := 39) hG d_X_tree_38 rfl ?_
          refine gx_iload2 (q := 40) hG d_X_tree_39 rfl ?_
          refine gw_S4X (q := 43) hG l_X_285 c_X_setsBelow (ev_X_setsBelow (by omega) nn 0 0 (by omega) (by decide) (by omega)) (by omega) (Nat.le_of_ble_eq_true rfl) d_X_tree_40 rfl (by decide) ?_
          rw [t2]
          refine gw_puti (q := 46) hG f_X_99 hpX (Nat.le_of_ble_eq_true rfl) vfit_i (Or.inl rfl) d_X_tree_43 rfl 11 rfl rfl ?_
          refine gx_iconst (q := 47) hG d_X_tree_46 rfl ?_
          refine gx_ireturn hG d_X_tree_47 rfl rfl ?_
          refine ⟨_, rfl, _, rfl, ?_⟩
          unfold sp_tree; rw [if_neg (by omega)]
          have e := SX_fr (u := (((lev nn).length : Nat) : Int)) (z := 1) (SX_id hj)
          rw [← h32] at e
          refine ⟨rfl, ?_, ?_, ?_⟩
          · rw [aX_u11, e.2.1]; rfl
          · exact e.2.2.1.ext (fun b hb => wu_ne (by omega))
          · exact fun b hb => by rw [wu_ne (by omega), e.2.2.2 b hb]
        · refine gx_iconst (q := 21) hG d_X_tree_20 rfl ?_
          refine gx_ireturn hG d_X_tree_21 rfl rfl ?_
          refine ⟨_, rfl, _, rfl, ?_⟩
          unfold sp_tree; rw [if_pos (by omega)]; exact PX_id hj

