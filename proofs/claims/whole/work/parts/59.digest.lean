/-! part 59: the digest -/
theorem dg_congr {F F' : Int → Int} {h h' : Int} (e : h = h') : ∀ k : Nat, (∀ i : Int, 0 ≤ i → i < k → F i = F' i) → dg F k h = dg F' k h'
  | 0, _ => e
  | k + 1, q => by
    unfold dg
    rw [dg_congr e k (fun i i0 i1 => q i i0 (by omega)), q k (by omega) (by omega)]
def itr (f : Nat → Int → Int) : Nat → Int → Int
  | 0, h => h
  | k + 1, h => f k (itr f k h)
def dgK (s : Sta) (k : Nat) (h : Int) : Int := if s 8 k < 0 then 31 * h + -1 else dg (fun i => s 10 (14 * k + i)) (s 8 k).toNat (31 * h + s 9 k)
def dgR (s : Sta) (r : Nat) (h : Int) : Int := dg (fun i => s 1 (60 * r + i)) (s 0 r).toNat (31 * h + s 0 r)
def dgT (s : Sta) (r : Nat) (h : Int) : Int := dg (fun i => s 3 (60 * r + i)) (s 2 r).toNat (31 * h + s 2 r)
noncomputable def dgA (s : Sta) : Int := dg (sp_count s) 8 17
noncomputable def dgB (s : Sta) : Int := dg (s 6) (s 4 2).toNat (31 * dgA s + s 4 0)
noncomputable def dgC (s : Sta) : Int := dg (s 5) (s 4 1).toNat (dgB s)
noncomputable def dgD (s : Sta) : Int := itr (dgK s) 3 (dgC s)
noncomputable def dgE (s : Sta) : Int := itr (dgR s) 6 (dgD s)
noncomputable def sp_digest (s : Sta) : Int := itr (dgT s) 4 (dgE s)
theorem GI_keptD {w : Mem} {k : Int} (hO : OK (aX w)) (hj : XJ w) (hk : 0 ≤ k ∧ k < 3) (h1 : w 6 k = 1) : GI w (70 + 2 * k) := GI_kept hO hj hk h1
theorem sp_count_R {s : Sta} {x : Int} (h : OK s) : R3 (sp_count s x) := by
  have h1 := h.pc
  have h2 := h.nn
  have b1 := cn_bd (P := fun v => ¬ hadS s v) 60
  have b2 := cb_bd (P := kdP s x) (s 4 2).toNat
  have b3 := cb_bd (P := fun k => x = 5 ∧ 0 ≤ s 8 k) 3
  have b4 := cb_bd (P := fun k => x = 6 ∧ 0 ≤ s 0 k) 6
  have b5 := cb_bd (P := fun k => x = 7 ∧ 0 ≤ s 2 k) 4
  have el : leftS s = cn (fun v => ¬ hadS s v) 60 := rfl
  unfold sp_count cntS
  split
  · split
    · omega
    · split
      · omega
      · split
        · omega
        · omega
  · omega
theorem ev_X_digest {w : Mem} (hO : OK (aX w)) (hj : XJ w) : EvX y_X_digest b_X_digest 4 (some .long) (5) [Vr 0] w (Vj (sp_digest (aX w))) := by
  refine Ev.mk (isI := false) (by decide +kernel) nofun (Nat.le_of_ble_eq_true rfl) (fun G hG => ?_)
  show G 0 [some (Vr 0), none, none, none] [] 102 (hp w)
  have hg := hO.gi hj
  have hp2 := hO.pc
  have e2 : aX w 4 2 = w 0 7 := rfl
  rw [e2] at hp2
  have T : ∀ (j k : Nat), k + j = 4 → G 170 [some (Vr 0), some (Vj (itr (dgT (aX w)) k (dgE (aX w)))), none, some (Vi (k : Int))] [] 102 (hp w) := by
    intro j
    induction j with
    | zero =>
      intro k h1
      refine gx_iload3 (q := 171) hG d_X_digest_170 rfl ?_
      refine gx_iconst (q := 172) hG d_X_digest_171 rfl ?_
      refine gx_icmp_ge (tgt := 192) (q := 175) hG d_X_digest_172 rfl rfl (by omega) (by omega) (fun c172 => ?_) (fun c172 => ?_)
      · refine gx_lload1 (q := 193) hG d_X_digest_192 rfl ?_
        refine gx_lreturn hG d_X_digest_193 rfl rfl ?_
        exact ⟨_, rfl, by unfold sp_digest; rw [show k = 4 by omega], rfl⟩
      · exfalso; omega
    | succ j ih =>
      intro k h1
      have hs := hO.t0 (r := k) (by omega)
      have e : dg (w (62 + 2 * (k : Int) + 1)) (w (62 + 2 * (k : Int)) 1).toNat (31 * itr (dgT (aX w)) k (dgE (aX w)) + w (62 + 2 * (k : Int)) 1) = itr (dgT (aX w)) (k + 1) (dgE (aX w)) := by
        show _ = dgT (aX w) k _
        unfold dgT
        rw [aX_at2 (by omega)]
        refine dg_congr rfl _ (fun i i0 i1 => ?_)
        rw [aX_at3 (by omega) (by omega), show 62 + 2 * (k : Int) + 1 = 63 + 2 * k by omega]
      refine gx_iload3 (q := 171) hG d_X_digest_170 rfl ?_
      refine gx_iconst (q := 172) hG d_X_digest_171 rfl ?_
      refine gx_icmp_ge (tgt := 192) (q := 175) hG d_X_digest_172 rfl rfl (by omega) (by omega) (fun c172 => ?_) (fun c172 => ?_)
      · exfalso; omega
      · refine gx_aload0 (q := 176) hG d_X_digest_175 rfl ?_
        refine gx_get (q := 179) hG f_X_15 hpX rfl d_X_digest_176 rfl ?_
        refine gx_iload3 (q := 180) hG d_X_digest_179 rfl ?_
        refine gx_rald (q := 181) hG hpTexts (by decide) (by omega) (by omega) (by first | decide | omega) (by first | decide | omega) d_X_digest_180 rfl ?_
        refine gx_lload1 (q := 182) hG d_X_digest_181 rfl ?_
        refine gw_V1X (q := 185) hG l_X_316 c_Rw_digestPlaces (ev_Rw_digestPlaces (by omega) hs (fun i i0 i1 => by rw [show 62 + 2 * (k : Int) + 1 = 63 + 2 * k by omega]; have := hO.t1 (r := k) (i := i) (by omega) (by omega); omega)) (hpRow (by omega)) rfl (by decide) (Nat.le_of_ble_eq_true rfl) d_X_digest_182 rfl (by decide) ?_
        rw [e]
        refine gx_lstore1 (q := 186) hG d_X_digest_185 rfl rfl ?_
        refine gx_iinc3 (q := 189) hG d_X_digest_186 rfl rfl ?_
        refine gx_goto (tgt := 170) hG d_X_digest_189 rfl ?_
        exact ih (k + 1) (by omega)
  have R : ∀ (j k : Nat), k + j = 6 → G 145 [some (Vr 0), some (Vj (itr (dgR (aX w)) k (dgD (aX w)))), none, some (Vi (k : Int))] [] 102 (hp w) := by
    intro j
    induction j with
    | zero =>
      intro k h1
      refine gx_iload3 (q := 146) hG d_X_digest_145 rfl ?_
      refine gx_bipush (q := 148) hG d_X_digest_146 rfl rfl ?_
      refine gx_icmp_ge (tgt := 168) (q := 151) hG d_X_digest_148 rfl rfl (by omega) (by omega) (fun c148 => ?_) (fun c148 => ?_)
      · refine gx_iconst (q := 169) hG d_X_digest_168 rfl ?_
        refine gx_istore3 (q := 170) hG d_X_digest_169 rfl rfl ?_
        rw [show k = 6 by omega]
        exact T 4 0 (by omega)
      · exfalso; omega
    | succ j ih =>
      intro k h1
      have hs := hO.r0 (r := k) (by omega)
      have e : dg (w (50 + 2 * (k : Int) + 1)) (w (50 + 2 * (k : Int)) 1).toNat (31 * itr (dgR (aX w)) k (dgD (aX w)) + w (50 + 2 * (k : Int)) 1) = itr (dgR (aX w)) (k + 1) (dgD (aX w)) := by
        show _ = dgR (aX w) k _
        unfold dgR
        rw [aX_at0 (by omega)]
        refine dg_congr rfl _ (fun i i0 i1 => ?_)
        rw [aX_at1 (by omega) (by omega), show 50 + 2 * (k : Int) + 1 = 51 + 2 * k by omega]
      refine gx_iload3 (q := 146) hG d_X_digest_145 rfl ?_
      refine gx_bipush (q := 148) hG d_X_digest_146 rfl rfl ?_
      refine gx_icmp_ge (tgt := 168) (q := 151) hG d_X_digest_148 rfl rfl (by omega) (by omega) (fun c148 => ?_) (fun c148 => ?_)
      · exfalso; omega
      · refine gx_aload0 (q := 152) hG d_X_digest_151 rfl ?_
        refine gx_get (q := 155) hG f_X_11 hpX rfl d_X_digest_152 rfl ?_
        refine gx_iload3 (q := 156) hG d_X_digest_155 rfl ?_
        refine gx_rald (q := 157) hG hpRows (by decide) (by omega) (by omega) (by first | decide | omega) (by first | decide | omega) d_X_digest_156 rfl ?_
        refine gx_lload1 (q := 158) hG d_X_digest_157 rfl ?_
        refine gw_V1X (q := 161) hG l_X_316 c_Rw_digestPlaces (ev_Rw_digestPlaces (by omega) hs (fun i i0 i1 => by rw [show 50 + 2 * (k : Int) + 1 = 51 + 2 * k by omega]; exact hO.r1 (by omega) (by omega))) (hpRow (by omega)) rfl (by decide) (Nat.le_of_ble_eq_true rfl) d_X_digest_158 rfl (by decide) ?_
        rw [e]
        refine gx_lstore1 (q := 162) hG d_X_digest_161 rfl rfl ?_
        refine gx_iinc3 (q := 165) hG d_X_digest_162 rfl rfl ?_
        refine gx_goto (tgt := 145) hG d_X_digest_165 rfl ?_
        exact ih (k + 1) (by omega)
  have K : ∀ (j k : Nat), k + j = 3 → G 87 [some (Vr 0), some (Vj (itr (dgK (aX w)) k (dgC (aX w)))), none, some (Vi (k : Int))] [] 102 (hp w) := by
    intro j
    induction j with
    | zero =>
      intro k h1
      refine gx_iload3 (q := 88) hG d_X_digest_87 rfl ?_
      refine gx_iconst (q := 89) hG d_X_digest_88 rfl ?_
      refine gx_icmp_ge (tgt := 143) (q := 92) hG d_X_digest_89 rfl rfl (by omega) (by omega) (fun c89 => ?_) (fun c89 => ?_)
      · refine gx_iconst (q := 144) hG d_X_digest_143 rfl ?_
        refine gx_istore3 (q := 145) hG d_X_digest_144 rfl rfl ?_
        rw [show k = 3 by omega]
        exact R 6 0 (by omega)
      · exfalso; omega
    | succ j ih =>
      intro k h1
      have h01 := hj.1 k (by omega) (by omega)
      have e0 : w 6 k ≠ 1 → 31 * itr (dgK (aX w)) k (dgC (aX w)) - 1 = itr (dgK (aX w)) (k + 1) (dgC (aX w)) := fun c => by
        show _ = dgK (aX w) k _
        unfold dgK
        rw [aX_at8n (by omega) c, if_pos (by omega)]
        omega
      have e1 : w 6 k = 1 → dg (w (70 + 2 * (k : Int) + 1)) (w (70 + 2 * (k : Int)) 1).toNat (31 * itr (dgK (aX w)) k (dgC (aX w)) + w (70 + 2 * (k : Int)) 2) = itr (dgK (aX w)) (k + 1) (dgC (aX w)) := fun c => by
        have hgk := (GI_kept hO hj (k := k) (by omega) c).2.1
        show _ = dgK (aX w) k _
        unfold dgK
        rw [aX_at8 (by omega) c, if_neg (by omega), aX_at9 (by omega) c]
        refine dg_congr rfl _ (fun i i0 i1 => ?_)
        rw [aX_at10 (by omega) c (by omega) (by omega), show 70 + 2 * (k : Int) + 1 = 71 + 2 * k by omega]
      refine gx_iload3 (q := 88) hG d_X_digest_87 rfl ?_
      refine gx_iconst (q := 89) hG d_X_digest_88 rfl ?_
      refine gx_icmp_ge (tgt := 143) (q := 92) hG d_X_digest_89 rfl rfl (by omega) (by omega) (fun c89 => ?_) (fun c89 => ?_)
      · exfalso; omega
      · refine gx_aload0 (q := 93) hG d_X_digest_92 rfl ?_
        refine gx_get (q := 96) hG f_X_29 hpX rfl d_X_digest_93 rfl ?_
        refine gx_iload3 (q := 97) hG d_X_digest_96 rfl ?_
        refine gw_zald (q := 98) hG rfl (by omega) (by omega) d_X_digest_97 rfl ?_
        refine gx_if_eq (tgt := 129) (q := 101) hG d_X_digest_98 rfl rfl (by omega) (fun c98 => ?_) (fun c98 => ?_)
        · refine gx_ldc2 (q := 132) hG (31) k_X_307 d_X_digest_129 rfl rfl ?_
          refine gx_lload1 (q := 133) hG d_X_digest_132 rfl ?_
          refine gx_lmul (q := 134) hG d_X_digest_133 rfl ?_
          refine gx_lconst (q := 135) hG 1 d_X_digest_134 rfl rfl ?_
          refine gx_lsub (q := 136) hG d_X_digest_135 rfl ?_
          rw [e0 (by omega)]
          refine gx_lstore1 (q := 137) hG d_X_digest_136 rfl rfl ?_
          refine gx_iinc3 (q := 140) hG d_X_digest_137 rfl rfl ?_
          refine gx_goto (tgt := 87) hG d_X_digest_140 rfl ?_
          exact ih (k + 1) (by omega)
        · have c9 : w 6 k = 1 := by omega
          have hgk := GI_kept hO hj (k := k) (by omega) c9
          have hlk := hgk.2.2.1
          refine gx_aload0 (q := 102) hG d_X_digest_101 rfl ?_
          refine gx_get (q := 105) hG f_X_25 hpX rfl d_X_digest_102 rfl ?_
          refine gx_iload3 (q := 106) hG d_X_digest_105 rfl ?_
          refine gx_rald (q := 107) hG hpKept (by decide) (by omega) (by omega) (by first | decide | omega) (by first | decide | omega) d_X_digest_106 rfl ?_
          refine gx_ldc2 (q := 110) hG (31) k_X_307 d_X_digest_107 rfl rfl ?_
          refine gx_lload1 (q := 111) hG d_X_digest_110 rfl ?_
          refine gx_lmul (q := 112) hG d_X_digest_111 rfl ?_
          refine gx_aload0 (q := 113) hG d_X_digest_112 rfl ?_
          refine gx_get (q := 116) hG f_X_25 hpX rfl d_X_digest_113 rfl ?_
          refine gx_iload3 (q := 117) hG d_X_digest_116 rfl ?_
          refine gx_rald (q := 118) hG hpKept (by decide) (by omega) (by omega) (by first | decide | omega) (by first | decide | omega) d_X_digest_117 rfl ?_
          refine gx_get (q := 121) hG f_X_148 (hpGame (by unfold isG; omega)) rfl d_X_digest_118 rfl ?_
          refine gx_i2l (q := 122) hG d_X_digest_121 rfl (by omega) ?_
          refine gx_ladd (q := 123) hG d_X_digest_122 rfl ?_
          refine gw_V1X (q := 126) hG l_X_312 c_Gm_digestNumbers (ev_Gm_digestNumbers hgk.1 hgk.2.1 hgk.2.2.2.1) (hpGame (by unfold isG; omega)) rfl (by decide) (Nat.le_of_ble_eq_true rfl) d_X_digest_123 rfl (by decide) ?_
          rw [e1 c9]
          refine gx_goto (tgt := 136) hG d_X_digest_126 rfl ?_
          refine gx_lstore1 (q := 137) hG d_X_digest_136 rfl rfl ?_
          refine gx_iinc3 (q := 140) hG d_X_digest_137 rfl rfl ?_
          refine gx_goto (tgt := 87) hG d_X_digest_140 rfl ?_
          exact ih (k + 1) (by omega)
  have P : ∀ (j k : Nat), (k : Int) + j = w 0 7 → G 48 [some (Vr 0), some (Vj (dg (aX w 6) k (31 * dgA (aX w) + aX w 4 0))), none, some (Vi (k : Int))] [] 102 (hp w) := by
    intro j
    induction j with
    | zero =>
      intro k h1
      have eB : dg (aX w 6) k (31 * dgA (aX w) + aX w 4 0) = dgB (aX w) := by
        unfold dgB
        rw [e2, show (w 0 7).toNat = k by omega]
      have e : dg (w (3 + 1)) (w 3 1).toNat (dgB (aX w)) = dgC (aX w) := by
        unfold dgC
        exact dg_congr rfl _ numX
      rw [eB]
      refine gx_iload3 (q := 49) hG d_X_digest_48 rfl ?_
      refine gx_aload0 (q := 50) hG d_X_digest_49 rfl ?_
      refine gx_get (q := 53) hG f_X_145 hpX rfl d_X_digest_50 rfl ?_
      refine gx_icmp_ge (tgt := 76) (q := 56) hG d_X_digest_53 rfl rfl (by omega) (by omega) (fun c53 => ?_) (fun c53 => ?_)
      · refine gx_aload0 (q := 77) hG d_X_digest_76 rfl ?_
        refine gx_get (q := 80) hG f_X_21 hpX rfl d_X_digest_77 rfl ?_
        refine gx_lload1 (q := 81) hG d_X_digest_80 rfl ?_
        refine gw_V1X (q := 84) hG l_X_312 c_Gm_digestNumbers (ev_Gm_digestNumbers hg.1 hg.2.1 hg.2.2.2.1) (hpGame (by unfold isG; omega)) rfl (by decide) (Nat.le_of_ble_eq_true rfl) d_X_digest_81 rfl (by decide) ?_
        rw [e]
        refine gx_lstore1 (q := 85) hG d_X_digest_84 rfl rfl ?_
        refine gx_iconst (q := 86) hG d_X_digest_85 rfl ?_
        refine gx_istore3 (q := 87) hG d_X_digest_86 rfl rfl ?_
        exact K 3 0 (by omega)
      · exfalso; omega
    | succ j ih =>
      intro k h1
      have hk := hO.kx (p := k) (by omega)
      have ea : aX w 6 k = w 14 k := aX_at6 ⟨by omega, by omega⟩
      have e : 31 * dg (aX w 6) k (31 * dgA (aX w) + aX w 4 0) + w 14 k = dg (aX w 6) (k + 1) (31 * dgA (aX w) + aX w 4 0) := by
        unfold dg
        rw [ea]
        cases k <;> rfl
      refine gx_iload3 (q := 49) hG d_X_digest_48 rfl ?_
      refine gx_aload0 (q := 50) hG d_X_digest_49 rfl ?_
      refine gx_get (q := 53) hG f_X_145 hpX rfl d_X_digest_50 rfl ?_
      refine gx_icmp_ge (tgt := 76) (q := 56) hG d_X_digest_53 rfl rfl (by omega) (by omega) (fun c53 => ?_) (fun c53 => ?_)
      · exfalso; omega
      · refine gx_ldc2 (q := 59) hG (31) k_X_307 d_X_digest_56 rfl rfl ?_
        refine gx_lload1 (q := 60) hG d_X_digest_59 rfl ?_
        refine gx_lmul (q := 61) hG d_X_digest_60 rfl ?_
        refine gx_aload0 (q := 62) hG d_X_digest_61 rfl ?_
        refine gx_get (q := 65) hG f_X_55 hpX rfl d_X_digest_62 rfl ?_
        refine gx_iload3 (q := 66) hG d_X_digest_65 rfl ?_
        refine gw_iald (q := 67) hG rfl (by omega) (by omega) d_X_digest_66 rfl ?_
        refine gx_i2l (q := 68) hG d_X_digest_67 rfl (by omega) ?_
        refine gx_ladd (q := 69) hG d_X_digest_68 rfl ?_
        rw [e]
        refine gx_lstore1 (q := 70) hG d_X_digest_69 rfl rfl ?_
        refine gx_iinc3 (q := 73) hG d_X_digest_70 rfl rfl ?_
        refine gx_goto (tgt := 48) hG d_X_digest_73 rfl ?_
        exact ih (k + 1) (by omega)
  have C : ∀ (j k : Nat), k + j = 8 → G 6 [some (Vr 0), some (Vj (dg (sp_count (aX w)) k 17)), none, some (Vi (k : Int))] [] 102 (hp w) := by
    intro j
    induction j with
    | zero =>
      intro k h1
      have eA : dg (sp_count (aX w)) k 17 = dgA (aX w) := by
        unfold dgA
        rw [show k = 8 by omega]
      rw [eA]
      have hl := hO.law
      have el : aX w 4 0 = w 3 2 := rfl
      rw [el] at hl
      refine gx_iload3 (q := 7) hG d_X_digest_6 rfl ?_
      refine gx_bipush (q := 9) hG d_X_digest_7 rfl rfl ?_
      refine gx_icmp_ge (tgt := 31) (q := 12) hG d_X_digest_9 rfl rfl (by omega) (by omega) (fun c9 => ?_) (fun c9 => ?_)
      · refine gx_ldc2 (q := 34) hG (31) k_X_307 d_X_digest_31 rfl rfl ?_
        refine gx_lload1 (q := 35) hG d_X_digest_34 rfl ?_
        refine gx_lmul (q := 36) hG d_X_digest_35 rfl ?_
        refine gx_aload0 (q := 37) hG d_X_digest_36 rfl ?_
        refine gx_get (q := 40) hG f_X_21 hpX rfl d_X_digest_37 rfl ?_
        refine gx_get (q := 43) hG f_X_148 (hpGame (by unfold isG; omega)) rfl d_X_digest_40 rfl ?_
        refine gx_i2l (q := 44) hG d_X_digest_43 rfl (by omega) ?_
        refine gx_ladd (q := 45) hG d_X_digest_44 rfl ?_
        refine gx_lstore1 (q := 46) hG d_X_digest_45 rfl rfl ?_
        refine gx_iconst (q := 47) hG d_X_digest_46 rfl ?_
        refine gx_istore3 (q := 48) hG d_X_digest_47 rfl rfl ?_
        exact P (w 0 7).toNat 0 (by omega)
      · exfalso; omega
    | succ j ih =>
      intro k h1
      have hR := sp_count_R (x := k) hO
      refine gx_iload3 (q := 7) hG d_X_digest_6 rfl ?_
      refine gx_bipush (q := 9) hG d_X_digest_7 rfl rfl ?_
      refine gx_icmp_ge (tgt := 31) (q := 12) hG d_X_digest_9 rfl rfl (by omega) (by omega) (fun c9 => ?_) (fun c9 => ?_)
      · exfalso; omega
      · refine gx_ldc2 (q := 15) hG (31) k_X_307 d_X_digest_12 rfl rfl ?_
        refine gx_lload1 (q := 16) hG d_X_digest_15 rfl ?_
        refine gx_lmul (q := 17) hG d_X_digest_16 rfl ?_
        refine gx_aload0 (q := 18) hG d_X_digest_17 rfl ?_
        refine gx_iload3 (q := 19) hG d_X_digest_18 rfl ?_
        refine gw_V1X (q := 22) hG l_X_309 c_X_count (ev_X_count hO hj (by omega)) hpX rfl (by decide) (Nat.le_of_ble_eq_true rfl) d_X_digest_19 rfl (by decide) ?_
        refine gx_i2l (q := 23) hG d_X_digest_22 rfl (hR) ?_
        refine gx_ladd (q := 24) hG d_X_digest_23 rfl ?_
        refine gx_lstore1 (q := 25) hG d_X_digest_24 rfl rfl ?_
        refine gx_iinc3 (q := 28) hG d_X_digest_25 rfl rfl ?_
        refine gx_goto (tgt := 6) hG d_X_digest_28 rfl ?_
        exact ih (k + 1) (by omega)
  refine gx_ldc2 (q := 3) hG (17) k_X_305 d_X_digest_0 rfl rfl ?_
  refine gx_lstore1 (q := 4) hG d_X_digest_3 rfl rfl ?_
  refine gx_iconst (q := 5) hG d_X_digest_4 rfl ?_
  refine gx_istore3 (q := 6) hG d_X_digest_5 rfl rfl ?_
  exact C 8 0 (by omega)

