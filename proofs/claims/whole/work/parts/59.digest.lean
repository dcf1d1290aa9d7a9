/-! part 59: the digest -/
theorem dg_congr {F F' : Int → Int} {h h' : Int} (e : h = h') : ∀ k : Nat, (∀ i : Int, 0 ≤ i → i < k → F i = F' i) → dg F k h = dg F' k h'
  | 0, _ => e
  | k + 1, q => by
    unfold dg
    rw [dg_congr e k (fun i i0 i1 => q i i0 (by omega)), q k (by omega) (by omega)]
def itr (f : Nat → Int → Int) : Nat → Int → Int
  | 0, h => h
  | k + 1, h => f k (itr f k h)
def dgK (s : Sta) (k : Nat) (h : Int) : Int := if s 8 k < 0 then 31 * h + -1 else dg (fun i => s 10 (14 * k + i)) (s 8 k).toNat (31 * h + s 9 k)
def dgR (s : Sta) (r : Nat) (h : Int) : Int := dg (fun i => s 1 (60 * r + i)) (s 0 r).toNat (31 * h + s 0 r)
def dgT (s : Sta) (r : Nat) (h : Int) : Int := dg (fun i => s 3 (60 * r + i)) (s 2 r).toNat (31 * h + s 2 r)
noncomputable def dgA (s : Sta) : Int := dg (sp_count s) 8 17
noncomputable def dgB (s : Sta) : Int := dg (s 6) (s 4 2).toNat (31 * dgA s + s 4 0)
noncomputable def dgC (s : Sta) : Int := dg (s 5) (s 4 1).toNat (dgB s)
noncomputable def dgD (s : Sta) : Int := itr (dgK s) 3 (dgC s)
noncomputable def dgE (s : Sta) : Int := itr (dgR s) 6 (dgD s)
noncomputable def sp_digest (s : Sta) : Int := itr (dgT s) 4 (dgE s)
theorem GI_keptD {w : Mem} {k : Int} (hO : OK (aX w)) (hj : XJ w) (hk : 0 ≤ k ∧ k < 3) (h1 : w 6 k = 1) : GI w (70 + 2 * k) := GI_kept hO hj hk h1
theorem sp_count_R {s : Sta} {x : Int} (h : OK s) : R3 (sp_count s x) := by
  have h1 := h.pc
  have h2 := h.nn
  have b1 := cn_bd (P := fun v => ¬ hadS s v) 60
  have b2 := cb_bd (P := kdP s x) (s 4 2).toNat
  have b3 := cb_bd (P := fun k => x = 5 ∧ 0 ≤ s 8 k) 3
  have b4 := cb_bd (P := fun k => x = 6 ∧ 0 ≤ s 0 k) 6
  have b5 := cb_bd (P := fun k => x = 7 ∧ 0 ≤ s 2 k) 4
  have el : leftS s = cn (fun v => ¬ hadS s v) 60 := rfl
  unfold sp_count cntS
  split
  · split
    · omega
    · split
      · omega
      · split
        · omega
        · omega
  · omega
theorem ev_X_digest {w : Mem} (hO : OK (aX w)) (hj : XJ w) : EvX y_X_digest b_X_digest 4 (some .long) (5) [Vr 0] w (Vj (sp_digest (aX w))) := by
  refine Ev.mk (isI := false) (by decide +kernel) nofun (Nat.le_of_ble_eq_true rfl) (fun G hG => ?_)
  show G 0 [some (Vr 0), none, none, none] [] 102 (hp w)
  have hg := hO.gi hj
  have hp2 := hO.pc
  have e2 : aX w 4 2 = w 0 7 := rfl
  rw [e2] at hp2
  have T : ∀ (j k : Nat), k + j = 4 → G 170 [some (Vr 0), some (Vj (itr (dgT (aX w)) k (dgE (aX w)))), none, some (Vi (k : Int))] [] 102 (hp w) := by
    intro j
    induction j with
    | zero =>
      intro k h1
      refine gx_iload3 (q := 171) hG d_X_digest_170 rfl ?_
      refine gx_iconst (q := 172) hG d_X_digest_171 rfl ?_
      refine gx_icmp_ge (tgt := 192) (q := 175) hG d_X_digest_172 rfl rfl (by omega) (by omega) (fun c172 => ?_) (fun c172 => ?_)
      · refine gx_lload1 (q := 193) hG d_X_digest_192 rfl ?_
        refine gx_lreturn hG d_X_digest_193 rfl rfl ?_
        exact ⟨_, rfl, by unfold sp_digest; rw [show k = 4 by omega], rfl⟩
      · exfalso; omega
    | succ j ih =>
      intro k h1
      have hs := hO.t0 (r := k) (by omega)
      have e : dg (w (62 + 2 * (k : Int) + 1)) (w (62 + 2 * (k : Int)) 1).toNat (31 * itr (dgT (aX w)) k (dgE (aX w)) + w (62 + 2 * (k : Int)) 1) = itr (dgT (aX w)) (k + 1) (dgE (aX w)) := by
        show _ = dgT (aX w) k _
        unfold dgT
        rw [aX_at2 (by omega)]
        refine dg_congr rfl _ (fun i i0 i1 => ?_)
        rw [aX_at3 (by omega) (by omega), show 62 + 2 * (k : Int) + 1 = 63 + 2 * k by omega]
      refine gx_iload3 (q := 171) hG d_X_digest_170 rfl ?_
      refine gx_iconst (q := 172) hG d_X_digest_171 rfl ?_
      refine gx_icmp_ge (tgt := 192) (q := 175) hG d_X_digest_172 rfl rfl (by omega) (by omega) (fun c172 => ?_) (fun c172 => ?_)
      · exfalso; omega
      · refine gx_aload0 (q := 176) hG d_X_digest_175 rfl ?_
        refine gx_get (q := 179) hG f_X_15 hpX rfl d_X_digest_176 rfl ?_
        refine gx_iload3 (q := 180) hG d_X_digest_179 rfl ?_
        refine gx_rald (q := 181) hG hpTexts (by decide) (by omega) (by omega) (by first | decide | omega) (by first | decide | omega) d_X_digest_180 rfl ?_
        refine gx_lload1 (q := 182) hG d_X_digest_181 rfl ?_
        refine gw_V1X (q := 185) hG l_X_316 c_Rw_digestPlaces (ev_Rw_digestPlaces (by omega) hs (fun i i0 i1 => by rw [show 62 + 2 * (k : Int) + 1 = 63 + 2 * k by omega]; have := hO.t1 (r := k) (i := i) (by omega) (by omega); omega)) (hpRow (by omega)) rfl (by decide) (Nat.le_of_ble_eq_true rfl) d_X_digest_182 rfl (by decide) ?_
        rw [e]
        refine gx_lstore1 (q := 186) hG d_X_digest_185 rfl rfl ?_
        refine gx_iinc3 (q := 189) hG d_X_digest_186 rfl rfl ?_
        refine gx_goto (tgt := 170) hG d_X_digest_189 rfl ?_
        exact ih (k + 1) (by omega)
  have R : ∀ (j k : Nat), k + j = 6 → G 145 [some (Vr 0), some (Vj (itr (dgR (aX w)) k (dgD (aX w)))), none, some (Vi (k : Int))] [] 102 (hp w) := by
    intro j
    induction j with
    | zero =>
      intro k h1
      refine gx_iload3 (q := 146) hG d_X_digest_145 rfl ?_
      refine gx_bipush (q := 148) hG d_X_digest_146 rfl rfl ?_
      refine gx_icmp_ge (tgt := 168) (q := 151) hG d_X_digest_148 rfl rfl (by omega) (by omega) (fun c148 => ?_) (fun c148 => ?_)
      · refine gx_iconst (q := 169) hG d_X_digest_168 rfl ?_
        refine gx_istore3 (q := 170) hG d_X_digest_169 rfl rfl ?_
        rw [show k = 6 by omega]
        exact T 4 0 (by omega)
      · exfalso; omega
    | succ j ih =>
      intro k h1
      have hs := hO.r0 (r := k) (by omega)
      have e : dg (w (50 + 2 * (k : Int) + 1)) (w (50 + 2 * (k : Int)) 1).toNat (31 * itr (dgR (aX w)) k (dgD (aX w)) + w (50 + 2 * (k : Int)) 1) = itr (dgR (aX w)) (k + 1) (dgD (aX w)) := by
        show _ = dgR (aX w) k _
        unfold dgR
        rw [aX_at0 (by omega)]
        refine dg_congr rfl _ (fun i i0 i1 => ?_)
        rw [aX_at1 (by omega) (by omega), show 50 + 2 * (k : Int) + 1 = 51 + 2 * k by omega]
      refine gx_iload3 (q := 146) hG d_X_digest_145 rfl ?_
      refine gx_bipush (q := 148) hG d_X_digest_146 rfl rfl ?_
      refine gx_icmp_ge (tgt := 168) (q := 151) hG d_X_digest_148 rfl rfl (by omega) (by omega) (fun c148 => ?_) (fun c148 => ?_)
      · exfalso; omega
      · refine gx_aload0 (q := 152) hG d_X_digest_151 rfl ?_
        refine gx_get (q := 155) hG f_X_11 hpX rfl d_X_digest_152 rfl ?_
        refine gx_iload3 (q := 156) hG d_X_digest_155 rfl ?_
        refine gx_rald (q := 157) hG hpRows (by decide) (by omega) (by omega) (by first | decide | omega) (by first | decide | omega) d_X_digest_156 rfl ?_
        refine gx_lload1 (q := 158) hG d_X_digest_157 rfl ?_
        refine gw_V1X (q := 161) hG l_X_316 c_Rw_digestPlaces (ev_Rw_digestPlaces (by omega) hs (fun i i0 i1 => by rw [show 50 + 2 * (k : Int) + 1 = 51 + 2 * k by omega]; exact hO.r1 (by omega) (by omega))) (hpRow (by omega)) rfl (by decide) (Nat.le_of_ble_eq_true rfl) d_X_digest_158 rfl (by decide) ?_
        rw [e]
        refine gx_lstore1 (q := 162) hG d_X_digest_161 rfl rfl ?_
        refine gx_iinc3 (q := 165) hG d_X_digest_162 rfl rfl ?_
        refine gx_goto (tgt := 145) hG d_X_digest_165 rfl ?_
        exact ih (k + 1) (by omega)
  have K : ∀ (j k : Nat), k + j = 3 → G 87 [some (Vr 0), some (Vj (itr (dgK (aX w)) k (dgC (aX w)))), none, some (Vi (k : Int))] [] 102 (hp w) := by
    intro j
    induction j with
    | zero =>
      intro k h1
      refine gx_iload3 (q := 88) hG d_X_digest_87 rfl ?_
      refine gx_iconst (q := 89) hG d_X_digest_88 rfl ?_
      refine gx_icmp_ge (tgt := 143) (q := 92) hG d_X_digest_89 rfl rfl (by omega) (by omega) (fun c89 => ?_) (fun c89 => ?_)
      · refine gx_iconst (q := 144) hG d_X_digest_143 rfl ?_
        refine gx_istore3 (q := 145) hG d_X_digest_144 rfl rfl ?_
        rw [show k = 3 by omega]
        exact R 6 0 (by omega)
      · exfalso; omega
    | succ j ih =>
      intro k h1
      have h01 := hj.1 k (by omega) (by omega)
      have e0 : w 6 k ≠ 1 → 31 * itr (dgK (aX w)) k (dgC (aX w)) - 1 = itr (dgK (aX w)) (k + 1) (dgC (aX w)) := fun c => by
        show _ = dgK (aX w) k _
        unfold dgK
        rw [aX_at8n (by omega) c, if_pos (by omega)]
        omega
      have e1 : w 6 k = 1 → dg (w (70 + 2 * (k : Int) + 1)) (w (70 + 2 * (k : Int)) 1).toNat (31 * itr (dgK (aX w)) k (dgC (aX w)) + w (70 + 2 * (k : Int)) 2) = itr (dgK (aX w)) (k + 1) (dgC (aX w)) := fun c => by
        have hgk := (GI_kept hO hj (k := k) (by omega) c).2.1
        show _ = dgK (aX w) k _
        unfold dgK
        rw [aX_at8 (by omega) c, if_neg (by omega), aX_at9 (by omega) c]
        refine dg_congr rfl _ (fun i i0 i1 => ?_)
        rw [aX_at10 (by omega) c (by omega) (by omega), show 70 + 2 * (k : Int) + 1 = 71 + 2 * k by omega]
      refine gx_iload3 (q := 88) hG d_X_digest_87 rfl ?_
      refine gx_iconst (q := 89) hG d_X_digest_88 rfl ?_
      refine gx_icmp_ge (tgt := 143) (q := 92) hG d_X_digest_89 rfl rfl (by omega) (by omega) (fun c89 => ?_) (fun c89 => ?_)
      · exfalso; omega
      · refine gx_aload0 (q := 93) hG d_X_digest_92 rfl ?_
        refine gx_get (q := 96) hG f_X_29 hpX rfl d_X_digest_93 rfl ?_
        refine gx_iload3 (q := 97) hG d_X_digest_96 rfl ?_
        refine gw_zald (q := 98) hG rfl (by omega) (by omega) d_X_digest_97 rfl ?_
        refine gx_if_eq (tgt := 129) (q := 101) hG d_X_digest_98 rfl rfl (by omega) (fun c98 => ?_) (fun c98 => ?_)
        · refine gx_ldc2 (q := 132) hG (31) k_X_307 d_X_digest_129 rfl rfl ?_
          refine gx_lload1 (q := 133) hG d_X_digest_132 rfl ?_
          refine gx_lmul (q := 134) hG d_X_digest_133 rfl ?_
          refine gx_lconst (q := 135) hG 1 d_X_digest_134 rfl rfl ?_
          refine gx_lsub (q := 136) hG d_X_digest_135 rfl ?_
          rw [e0 (by omega)]
          refine gx_lstore1 (q := 137) hG d_X_digest_136 rfl rfl ?_
          refine gx_iinc3 (q := 140) hG d_X_digest_137 rfl rfl ?_
          refine gx_goto (tgt := 87) hG d_X_digest_140 rfl ?_
          exact ih (k + 1) (by omega)
        · have c9 : w 6 k = 1 := by omega
          have hgk := GI_kept hO hj (k := k) (by omega) c9
          have hlk := hgk.2.2.1
          refine gx_aload0 (q := 102) hG d_X_digest_101 rfl ?_
          refine gx_get (q := 105) hG f_X_25 hpX rfl d_X_digest_102 rfl ?_
          refine gx_iload3 (q := 106) hG d_X_digest_105 rfl ?_
          refine gx_rald (q := 107) hG hpKept (by decide) (by omega) (by omega) (by first | decide | omega) (by first | decide | omega) d_X_digest_106 rfl ?_
          refine gx_ldc2 (q := 110) hG (31) k_X_307 d_X_digest_107 rfl rfl ?_
          refine gx_lload1 (q := 111) hG d_X_digest_110 rfl ?_
          refine gx_lmul (q := 112) hG d_X_digest_111 rfl ?_
          refine gx_aload0 (q := 113) hG d_X_digest_112 rfl ?_
          refine gx_get (q := 116) hG f_X_25 hpX rfl d_X_digest_113 rfl ?_
          refine gx_iload3 (q := 117) hG d_X_digest_116 rfl ?_
          refine gx_rald (q := 118) hG hpKept (by decide) (by omega) (by omega) (by first | decide | omega) (by first | decide | omega) d_X_digest_117 rfl ?_
          refine gx_get (q := 121) hG f_X_148 (hpGame (by unfold isG; omega)) rfl d_X_digest_118 rfl ?_
          refine gx_i2l (q := 122) hG d_X_digest_121 rfl (by omega) ?_
          refine gx_ladd (q := 123) hG d_X_digest_122 rfl ?_
          refine gw_V1X (q := 126) hG l_X_312 c_Gm_digestNumbers (ev_Gm_digestNumbers hgk.1 hgk.2.1 hgk.2.2.2.1) (hpGame (by unfold isG; omega)) rfl (by decide) (Nat.le_of_ble_eq_true rfl) d_X_digest_123 rfl (by decide) ?_
          rw [e1 c9]
          refine gx_goto (tgt := 136) hG d_X_digest_126 rfl ?_
          refine gx_lstore1 (q := 137) hG d_X_digest_136 rfl rfl ?_
          refine gx_iinc3 (q := 140) hG d_X_digest_137 rfl rfl ?_
          refine gx_goto (tgt := 87) hG d_X_digest_140 rfl ?_
          exact ih (k + 1) (by omega)
  have P : ∀ (j k : Nat), (k : Int) + j = w 0 7 → G 48 [some (Vr 0), some (Vj (dg (aX w 6) k (31 * dgA (aX w) + aX w 4 0))), none, some (Vi (k : Int))] [] 102 (hp w) := by
    intro j
    induction j with
    | zero =>
      intro k h1
      have eB : dg (aX w 6) k (31 * dgA (aX w) + aX w 4 0) = dgB (aX w) := by
        unfold dgB
        rw [e2, show (w 0 7).toNat = k by omega]
      have e : dg (w (3 + 1)) (w 3 1).toNat (dgB (aX w)) = dgC (aX w) := by
        unfold dgC
        exact dg_congr rfl _ numX
      rw [eB]
      refine gx_iload3 (q := 49) hG d_X_digest_48 rfl ?_
      refine gx_aload0 (q := 50) hG d_X_digest_49 rfl ?_
      refine gx_get (q := 53) hG f_X_145 hpX rfl d_X_digest_50 rfl ?_
      refine gx_icmp_ge (tgt := 76) (q := 56) hG d_X_digest_53 rfl rfl (by omega) (by omega) (fun c53 => ?_) (fun c53 => ?_)
      · refine gx_aload0 (q := 77) hG d_X_digest_76 rfl ?_
        refine gx_get (q := 80) hG f_X_21 hpX rfl d_X_digest_77 rfl ?_
        refine gx_lload1 (q := 81) hG d_X_digest_80 rfl ?_
        refine gw_V1X (q := 84) hG l_X_312 c_Gm_digestNumbers (ev_Gm_digestNumbers hg.1 hg.2.1 hg.2.2.2.1) (hpGame (by unfold isG; omega)) rfl (by decide) (Nat.le_of_ble_eq_true rfl) d_X_digest_81 rfl (by decide) ?_
        rw [e]
        refine gx_lstore1 (q := 85) hG d_X_digest_84 rfl rfl ?_
        refine gx_iconst (q := 86) hG d_X_digest_85 rfl ?_
        refine gx_istore3 (q := 87) hG d_X_digest_86 rfl rfl ?_
        exact K 3 0 (by omega)
      · exfalso; omega
    | succ j ih =>
      intro k h1
      have hk := hO.kx (p := k) (by omega)
      have ea : aX w 6 k = w 14 k := aX_at6 ⟨by omega, by omega⟩
      have e : 31 * dg (aX w 6) k (31 * dgA (aX w) + aX w 4 0) + w 14 k = dg (aX w 6) (k + 1) (31 * dgA (aX w) + aX w 4 0) := by
        unfold dg
        rw [ea]
        cases k <;> rfl
      refine gx_iload3 (q := 49) hG d_X_digest_48 rfl ?_
      refine gx_aload0 (q := 50) hG d_X_digest_49 rfl ?_
      refine gx_get (q := 53) hG f_X_145 hpX rfl d_X_digest_50 rfl ?_
      refine gx_icmp_ge (tgt := 76) (q := 56) hG d_X_digest_53 rfl rfl (by omega) (by omega) (fun c53 => ?_) (fun c53 => ?_)
      · exfalso; omega
      · refine gx_ldc2 (q := 59) hG (31) k_X_307 d_X_digest_56 rfl rfl ?_
        refine gx_lload1 (q := 60) hG d_X_digest_59 rfl ?_
        refine gx_lmul (q := 61) hG d_X_digest_60 rfl ?_
        refine gx_aload0 (q := 62) hG d_X_digest_61 rfl ?_
        refine gx_get (q := 65) hG f_X_55 hpX rfl d_X_digest_62 rfl ?_
        refine gx_iload3 (q := 66) hG d_X_digest_65 rfl ?_
        refine gw_iald (q := 67) hG rfl (by omega) (by omega) d_X_digest_66 rfl ?_
        refine gx_i2l (q := 68) hG d_X_digest_67 rfl (by omega) ?_
        refine gx_ladd (q := 69) hG d_X_digest_68 rfl ?_
        rw [e]
        refine gx_lstore1 (q := 70) hG d_X_digest_69 rfl rfl ?_
        refine gx_iinc3 (q := 73) hG d_X_digest_70 rfl rfl ?_
        refine gx_goto (tgt := 48) hG d_X_digest_73 rfl ?_
        exact ih (k + 1) (by omega)
  have C : ∀ (j k : Nat), k + j = 8 → G 6 [some (Vr 0), some (Vj (dg (sp_count (aX w)) k 17)), none, some (Vi (k : Int))] [] 102 (hp w) := by
    intro j
    induction j with
    | zero =>
      intro k h1
      have eA : dg (sp_count (aX w)) k 17 = dgA (aX w) := by
        unfold dgA
        rw [show k = 8 by omega]
      rw [eA]
      have hl := hO.law
      have el : aX w 4 0 = w 3 2 := rfl
      rw [el] at hl
      refine gx_iload3 (q := 7) hG d_X_digest_6 rfl ?_
      refine gx_bipush (q := 9) hG d_X_digest_7 rfl rfl ?_
      refine gx_icmp_ge (tgt := 31) (q := 12) hG d_X_digest_9 rfl rfl (by omega) (by omega) (fun c9 => ?_) (fun c9 => ?_)
      · refine gx_ldc2 (q := 34) hG (31) k_X_307 d_X_digest_31 rfl rfl ?_
        refine gx_lload1 (q := 35) hG d_X_digest_34 rfl ?_
        refine gx_lmul (q := 36) hG d_X_digest_35 rfl ?_
        refine gx_aload0 (q := 37) hG d_X_digest_36 rfl ?_
        refine gx_get (q := 40) hG f_X_21 hpX rfl d_X_digest_37 rfl ?_
        refine gx_get (q := 43) hG f_X_148 (hpGame (by unfold isG; omega)) rfl d_X_digest_40 rfl ?_
        refine gx_i2l (q := 44) hG d_X_digest_43 rfl (by omega) ?_
        refine gx_ladd (q := 45) hG d_X_digest_44 rfl ?_
        refine gx_lstore1 (q := 46) hG d_X_digest_45 rfl rfl ?_
        refine gx_iconst (q := 47) hG d_X_digest_46 rfl ?_
        refine gx_istore3 (q := 48) hG d_X_digest_47 rfl rfl ?_
        exact P (w 0 7).toNat 0 (by omega)
      · exfalso; omega
    | succ j ih =>
      intro k h1
      have hR := sp_count_R (x := k) hO
      refine gx_iload3 (q := 7) hG d_X_digest_6 rfl ?_
      refine gx_bipush (q := 9) hG d_X_digest_7 rfl rfl ?_
      refine gx_icmp_ge (tgt := 31) (q := 12) hG d_X_digest_9 rfl rfl (by omega) (by omega) (fun c9 => ?_) (fun c9 => ?_)
      · exfalso; omega
      · refine gx_ldc2 (q := 15) hG (31) k_X_307 d_X_digest_12 rfl rfl ?_
        refine gx_lload1 (q := 16) hG d_X_digest_15 rfl ?_
        refine gx_lmul (q := 17) hG d_X_digest_16 rfl ?_
        refine gx_aload0 (q := 18) hG d_X_digest_17 rfl ?_
        refine gx_iload3 (q := 19) hG d_X_digest_18 rfl ?_
        refine gw_V1X (q := 22) hG l_X_309 c_X_count (ev_X_count hO hj (by omega)) hpX rfl (by decide) (Nat.le_of_ble_eq_true rfl) d_X_digest_19 rfl (by decide) ?_
        refine gx_i2l (q := 23) hG d_X_digest_22 rfl (hR) ?_
        refine gx_ladd (q := 24) hG d_X_digest_23 rfl ?_
        refine gx_lstore1 (q := 25) hG d_X_digest_24 rfl rfl ?_
        refine gx_iinc3 (q := 28) hG d_X_digest_25 rfl rfl ?_
        refine gx_goto (tgt := 6) hG d_X_digest_28 rfl ?_
        exact ih (k + 1) (by omega)
  refine gx_ldc2 (q := 3) hG (17) k_X_305 d_X_digest_0 rfl rfl ?_
  refine gx_lstore1 (q := 4) hG d_X_digest_3 rfl rfl ?_
  refine gx_iconst (q := 5) hG d_X_digest_4 rfl ?_
  refine gx_istore3 (q := 6) hG d_X_digest_5 rfl rfl ?_
  exact C 8 0 (by omega)
theorem ev_M_mix {w : Mem} {v : Int} : EvV y_M_mix b_M_mix 3 none (1) [Vr 76, Vj v] w (fun w' => w' = wu w 76 39 (31 * w 76 39 + v)) := by
  refine Ev.mk (isI := false) (by decide +kernel) nofun (Nat.le_of_ble_eq_true rfl) (fun G hG => ?_)
  show G 0 [some (Vr 76), some (Vj v), none] [] 102 (hp w)
  refine gx_aload0 (q := 1) hG d_M_mix_0 rfl ?_
  refine gx_ldc2 (q := 4) hG (31) k_M_316 d_M_mix_1 rfl rfl ?_
  refine gx_aload0 (q := 5) hG d_M_mix_4 rfl ?_
  refine gx_get (q := 8) hG f_M_318 hpM rfl d_M_mix_5 rfl ?_
  refine gx_lmul (q := 9) hG d_M_mix_8 rfl ?_
  refine gx_lload1 (q := 10) hG d_M_mix_9 rfl ?_
  refine gx_ladd (q := 11) hG d_M_mix_10 rfl ?_
  refine gw_putj (q := 14) hG f_M_318 hpM (Nat.le_of_ble_eq_true rfl) vfit_l (Or.inl rfl) d_M_mix_11 rfl 39 rfl rfl ?_
  refine gx_return hG d_M_mix_14 rfl rfl ?_
  exact ⟨_, rfl, rfl, rfl⟩
theorem SM_39 {w W : Mem} {v : Int} (h : SM w W) : SM w (wu W 76 39 v) :=
  h.tr ⟨aM_scr (fun b hb => wu_ne (by omega)) (fun j hj => wu_pl (by omega)), fun b hb => wu_ne (by omega)⟩
theorem ev_M_byteAt {w : Mem} {t i : Int} (ht : 0 ≤ t ∧ t < 4) (hs : -1 ≤ w 81 t ∧ w 81 t ≤ 60) (hi : 0 ≤ i ∧ i ≤ 62) : EvX y_M_byteAt b_M_byteAt 3 (some .int) (1) [Vr 76, Vi t, Vi i] w (Vi (if i < w 81 t then w 82 (60 * t + i) else 0)) := by
  refine Ev.mk (isI := false) (by decide +kernel) nofun (Nat.le_of_ble_eq_true rfl) (fun G hG => ?_)
  show G 0 [some (Vr 76), some (Vi t), some (Vi i)] [] 102 (hp w)
  refine gx_iload2 (q := 1) hG d_M_byteAt_0 rfl ?_
  refine gx_aload0 (q := 2) hG d_M_byteAt_1 rfl ?_
  refine gx_get (q := 5) hG f_M_22 hpM rfl d_M_byteAt_2 rfl ?_
  refine gx_iload1 (q := 6) hG d_M_byteAt_5 rfl ?_
  refine gw_iald (q := 7) hG rfl (by omega) (by omega) d_M_byteAt_6 rfl ?_
  refine gx_icmp_ge (tgt := 24) (q := 10) hG d_M_byteAt_7 rfl rfl (by omega) (by omega) (fun c7 => ?_) (fun c7 => ?_)
  · refine gx_iconst (q := 25) hG d_M_byteAt_24 rfl ?_
    refine gx_ireturn hG d_M_byteAt_25 rfl rfl ?_
    first
      | exact ⟨_, rfl, by rw [if_pos (by omega)], rfl⟩
      | exact ⟨_, rfl, by rw [if_neg (by omega)], rfl⟩
  · refine gx_aload0 (q := 11) hG d_M_byteAt_10 rfl ?_
    refine gx_get (q := 14) hG f_M_25 hpM rfl d_M_byteAt_11 rfl ?_
    refine gx_bipush (q := 16) hG d_M_byteAt_14 rfl rfl ?_
    refine gx_iload1 (q := 17) hG d_M_byteAt_16 rfl ?_
    refine gx_imul (q := 18) hG d_M_byteAt_17 rfl ?_
    refine gx_iload2 (q := 19) hG d_M_byteAt_18 rfl ?_
    refine gx_iadd (q := 20) hG d_M_byteAt_19 rfl ?_
    refine gw_bald (q := 21) hG rfl (by omega) (by omega) d_M_byteAt_20 rfl ?_
    refine gx_goto (tgt := 25) hG d_M_byteAt_21 rfl ?_
    refine gx_ireturn hG d_M_byteAt_25 rfl rfl ?_
    first
      | exact ⟨_, rfl, by rw [if_pos (by omega)], rfl⟩
      | exact ⟨_, rfl, by rw [if_neg (by omega)], rfl⟩
theorem dgK_alt {s : Sta} {k : Nat} {h : Int} : dgK s k h = dg (fun i => s 10 (14 * k + i)) (s 8 k).toNat (if s 8 k < 0 then 31 * h + -1 else 31 * h + s 9 k) := by
  unfold dgK
  by_cases c : s 8 k < 0
  · rw [if_pos c, if_pos c, show (s 8 k).toNat = 0 by omega]
    rfl
  · rw [if_neg c, if_neg c]
theorem ev_M_mixGame {w : Mem} (hO : OK (aM w)) : EvV y_M_mixGame b_M_mixGame 3 none (2) [Vr 76] w (fun w' => SM w w' ∧ w' 76 39 = itr (dgK (aM w)) 3 (dg (aM w 5) (aM w 4 1).toNat (dg (aM w 6) (aM w 4 2).toNat (31 * w 76 39 + aM w 4 0)))) := by
  refine Ev.mk (isI := false) (by decide +kernel) nofun (Nat.le_of_ble_eq_true rfl) (fun G hG => ?_)
  show G 0 [some (Vr 76), none, none] [] 102 (hp w)
  have hn := hO.nn
  have hp2 := hO.pc
  have hl := hO.law
  have I : ∀ (j i k : Nat) (W : Mem) (h : Int), k < 3 → ((i : Int) + j = aM w 8 k ∨ (j = 0 ∧ i = 0 ∧ aM w 8 k < 0)) → SM w W → W 76 39 = dg (fun x => aM w 10 (14 * k + x)) i h → (∀ (W' : Mem) (i' : Int), SM w W' → W' 76 39 = dg (fun x => aM w 10 (14 * k + x)) (aM w 8 k).toNat h → G 130 [some (Vr 76), some (Vi (k : Int)), some (Vi i')] [] 102 (hp W')) → G 98 [some (Vr 76), some (Vi (k : Int)), some (Vi (i : Int))] [] 102 (hp W) := by
    intro j
    induction j with
    | zero =>
      intro i k W h h0 h1 h2 h3 hk
      have hb := hO.kk k (by omega) (by omega)
      have ea : W 88 k = aM w 8 k := by rw [← h2.1]; exact (aM_at8 (by omega)).symm
      refine gx_iload2 (q := 99) hG d_M_mixGame_98 rfl ?_
      refine gx_aload0 (q := 100) hG d_M_mixGame_99 rfl ?_
      refine gx_get (q := 103) hG f_M_44 hpM rfl d_M_mixGame_100 rfl ?_
      refine gx_iload1 (q := 104) hG d_M_mixGame_103 rfl ?_
      refine gw_iald (q := 105) hG rfl (by omega) (by omega) d_M_mixGame_104 rfl ?_
      rw [ea]
      refine gx_icmp_ge (tgt := 130) (q := 108) hG d_M_mixGame_105 rfl rfl (by omega) (by omega) (fun c105 => ?_) (fun c105 => ?_)
      · exact hk W i h2 (by rw [h3, show (aM w 8 k).toNat = i by omega])
      · exfalso; omega
    | succ j ih =>
      intro i k W h h0 h1 h2 h3 hk
      have hb := hO.kk k (by omega) (by omega)
      have ea : W 88 k = aM w 8 k := by rw [← h2.1]; exact (aM_at8 (by omega)).symm
      have eb : W 90 (14 * k + i) = aM w 10 (14 * k + i) := by rw [← h2.1]; exact (aM_at10 (by omega) (by omega) (by omega)).symm
      have hb4 := hb.2.2.2.1 i (by omega) (by omega)
      refine gx_iload2 (q := 99) hG d_M_mixGame_98 rfl ?_
      refine gx_aload0 (q := 100) hG d_M_mixGame_99 rfl ?_
      refine gx_get (q := 103) hG f_M_44 hpM rfl d_M_mixGame_100 rfl ?_
      refine gx_iload1 (q := 104) hG d_M_mixGame_103 rfl ?_
      refine gw_iald (q := 105) hG rfl (by omega) (by omega) d_M_mixGame_104 rfl ?_
      rw [ea]
      refine gx_icmp_ge (tgt := 130) (q := 108) hG d_M_mixGame_105 rfl rfl (by omega) (by omega) (fun c105 => ?_) (fun c105 => ?_)
      · exfalso; omega
      · refine gx_aload0 (q := 109) hG d_M_mixGame_108 rfl ?_
        refine gx_aload0 (q := 110) hG d_M_mixGame_109 rfl ?_
        refine gx_get (q := 113) hG f_M_50 hpM rfl d_M_mixGame_110 rfl ?_
        refine gx_bipush (q := 115) hG d_M_mixGame_113 rfl rfl ?_
        refine gx_iload1 (q := 116) hG d_M_mixGame_115 rfl ?_
        refine gx_imul (q := 117) hG d_M_mixGame_116 rfl ?_
        refine gx_iload2 (q := 118) hG d_M_mixGame_117 rfl ?_
        refine gx_iadd (q := 119) hG d_M_mixGame_118 rfl ?_
        refine gw_iald (q := 120) hG rfl (by omega) (by omega) d_M_mixGame_119 rfl ?_
        rw [eb]
        refine gx_i2l (q := 121) hG d_M_mixGame_120 rfl (by omega) ?_
        refine gw_V1V (q := 124) hG l_M_321 c_M_mix (ev_M_mix) hpM rfl (by decide) (Nat.le_of_ble_eq_true rfl) d_M_mixGame_121 rfl (by decide) (fun w1 h121 => ?_)
        subst h121
        refine gx_iinc2 (q := 127) hG d_M_mixGame_124 rfl rfl ?_
        refine gx_goto (tgt := 98) hG d_M_mixGame_127 rfl ?_
        exact ih (i + 1) k _ h h0 (by omega) (SM_39 h2) (by rw [wu_eq, h3]; rfl) hk
  have K : ∀ (j k : Nat) (W : Mem) (h : Int) (o : Option Value), k + j = 3 → one1 [o] 0 = true → SM w W → W 76 39 = itr (dgK (aM w)) k h → (∀ (W' : Mem) (o' : Option Value), SM w W' → W' 76 39 = itr (dgK (aM w)) 3 h → G 136 [some (Vr 76), some (Vi 3), o'] [] 102 (hp W')) → G 65 [some (Vr 76), some (Vi (k : Int)), o] [] 102 (hp W) := by
    intro j
    induction j with
    | zero =>
      intro k W h o h1 g h2 h3 hk
      refine gx_iload1 (q := 66) hG d_M_mixGame_65 rfl ?_
      refine gx_iconst (q := 67) hG d_M_mixGame_66 rfl ?_
      refine gx_icmp_ge (tgt := 136) (q := 70) hG d_M_mixGame_67 rfl rfl (by omega) (by omega) (fun c67 => ?_) (fun c67 => ?_)
      · rw [show (k : Int) = 3 by omega]
        exact hk W o h2 (by rw [h3, show k = 3 by omega])
      · exfalso; omega
    | succ j ih =>
      intro k W h o h1 g h2 h3 hk
      have hb := hO.kk k (by omega) (by omega)
      have ea : W 88 k = aM w 8 k := by rw [← h2.1]; exact (aM_at8 (by omega)).symm
      have eb : 0 ≤ aM w 8 k → W 89 k = aM w 9 k := fun q => by rw [← h2.1]; exact (aM_at9 (by omega) (by omega)).symm
      have H : ∀ (W' : Mem) (i' : Int), SM w W' → W' 76 39 = itr (dgK (aM w)) (k + 1) h → G 130 [some (Vr 76), some (Vi (k : Int)), some (Vi i')] [] 102 (hp W') := by
        intro W' i' q1 q2
        refine gx_iinc1 (q := 133) hG d_M_mixGame_130 rfl rfl ?_
        refine gx_goto (tgt := 65) hG d_M_mixGame_133 rfl ?_
        exact ih (k + 1) W' h _ (by omega) rfl q1 q2 hk
      refine gx_iload1 (q := 66) hG d_M_mixGame_65 rfl ?_
      refine gx_iconst (q := 67) hG d_M_mixGame_66 rfl ?_
      refine gx_icmp_ge (tgt := 136) (q := 70) hG d_M_mixGame_67 rfl rfl (by omega) (by omega) (fun c67 => ?_) (fun c67 => ?_)
      · exfalso; omega
      · refine gx_aload0 (q := 71) hG d_M_mixGame_70 rfl ?_
        refine gx_aload0 (q := 72) hG d_M_mixGame_71 rfl ?_
        refine gx_get (q := 75) hG f_M_44 hpM rfl d_M_mixGame_72 rfl ?_
        refine gx_iload1 (q := 76) hG d_M_mixGame_75 rfl ?_
        refine gw_iald (q := 77) hG rfl (by omega) (by omega) d_M_mixGame_76 rfl ?_
        rw [ea]
        refine gx_if_ge (tgt := 86) (q := 80) hG d_M_mixGame_77 rfl rfl (by omega) (fun c77 => ?_) (fun c77 => ?_)
        · have eb' := eb (by omega)
          have hl9 := hb.2.2.1 (by omega)
          refine gx_aload0 (q := 87) hG d_M_mixGame_86 rfl ?_
          refine gx_get (q := 90) hG f_M_47 hpM rfl d_M_mixGame_87 rfl ?_
          refine gx_iload1 (q := 91) hG d_M_mixGame_90 rfl ?_
          refine gw_iald (q := 92) hG rfl (by omega) (by omega) d_M_mixGame_91 rfl ?_
          rw [eb']
          refine gx_i2l (q := 93) hG d_M_mixGame_92 rfl (by omega) ?_
          refine gw_V1V (q := 96) hG l_M_321 c_M_mix (ev_M_mix) hpM rfl (by decide) (Nat.le_of_ble_eq_true rfl) d_M_mixGame_93 rfl (by decide) (fun w1 h93 => ?_)
          subst h93
          refine gx_iconst (q := 97) hG d_M_mixGame_96 rfl ?_
          refine gx_istore2 (q := 98) hG d_M_mixGame_97 rfl rfl ?_
          first
            | exact I (aM w 8 k).toNat 0 k _ (31 * W 76 39 + -1) (by omega) (by omega) (SM_39 h2) (by rw [wu_eq]; rfl) (fun W' i' q1 q2 => H W' i' q1 (by show _ = dgK (aM w) k _; rw [dgK_alt, if_pos (by omega), q2, h3]))
            | exact I (aM w 8 k).toNat 0 k _ (31 * W 76 39 + aM w 9 k) (by omega) (by omega) (SM_39 h2) (by rw [wu_eq]; rfl) (fun W' i' q1 q2 => H W' i' q1 (by show _ = dgK (aM w) k _; rw [dgK_alt, if_neg (by omega), q2, h3]))
        · refine gx_ldc2 (q := 83) hG (-1) k_M_325 d_M_mixGame_80 rfl rfl ?_
          refine gx_goto (tgt := 93) hG d_M_mixGame_83 rfl ?_
          refine gw_V1V (q := 96) hG l_M_321 c_M_mix (ev_M_mix) hpM rfl (by decide) (Nat.le_of_ble_eq_true rfl) d_M_mixGame_93 rfl (by decide) (fun w1 h93 => ?_)
          subst h93
          refine gx_iconst (q := 97) hG d_M_mixGame_96 rfl ?_
          refine gx_istore2 (q := 98) hG d_M_mixGame_97 rfl rfl ?_
          first
            | exact I (aM w 8 k).toNat 0 k _ (31 * W 76 39 + -1) (by omega) (by omega) (SM_39 h2) (by rw [wu_eq]; rfl) (fun W' i' q1 q2 => H W' i' q1 (by show _ = dgK (aM w) k _; rw [dgK_alt, if_pos (by omega), q2, h3]))
            | exact I (aM w 8 k).toNat 0 k _ (31 * W 76 39 + aM w 9 k) (by omega) (by omega) (SM_39 h2) (by rw [wu_eq]; rfl) (fun W' i' q1 q2 => H W' i' q1 (by show _ = dgK (aM w) k _; rw [dgK_alt, if_neg (by omega), q2, h3]))
  have N : ∀ (j k : Nat) (W : Mem) (h : Int) (o : Option Value), (k : Int) + j = aM w 4 1 → one1 [o] 0 = true → SM w W → W 76 39 = dg (aM w 5) k h → (∀ (W' : Mem) (o' : Option Value), one1 [o'] 0 = true → SM w W' → W' 76 39 = dg (aM w 5) (aM w 4 1).toNat h → G 63 [some (Vr 76), some (Vi (aM w 4 1)), o'] [] 102 (hp W')) → G 38 [some (Vr 76), some (Vi (k : Int)), o] [] 102 (hp W) := by
    intro j
    induction j with
    | zero =>
      intro k W h o h1 g h2 h3 hk
      have ea : W 76 14 = aM w 4 1 := by rw [← h2.1]; rfl
      refine gx_iload1 (q := 39) hG d_M_mixGame_38 rfl ?_
      refine gx_aload0 (q := 40) hG d_M_mixGame_39 rfl ?_
      refine gx_get (q := 43) hG f_M_178 hpM rfl d_M_mixGame_40 rfl ?_
      rw [ea]
      refine gx_icmp_ge (tgt := 63) (q := 46) hG d_M_mixGame_43 rfl rfl (by omega) (by omega) (fun c43 => ?_) (fun c43 => ?_)
      · rw [show (k : Int) = aM w 4 1 by omega]
        exact hk W o g h2 (by rw [h3, show (aM w 4 1).toNat = k by omega])
      · exfalso; omega
    | succ j ih =>
      intro k W h o h1 g h2 h3 hk
      have ea : W 76 14 = aM w 4 1 := by rw [← h2.1]; rfl
      have eb : W 85 k = aM w 5 k := by
        have q : (k : Int) < W 76 14 := by omega
        rw [← h2.1]
        exact (aM_at5 ⟨by omega, q⟩).symm
      have hb := hO.num k (by omega) (by omega)
      refine gx_iload1 (q := 39) hG d_M_mixGame_38 rfl ?_
      refine gx_aload0 (q := 40) hG d_M_mixGame_39 rfl ?_
      refine gx_get (q := 43) hG f_M_178 hpM rfl d_M_mixGame_40 rfl ?_
      rw [ea]
      refine gx_icmp_ge (tgt := 63) (q := 46) hG d_M_mixGame_43 rfl rfl (by omega) (by omega) (fun c43 => ?_) (fun c43 => ?_)
      · exfalso; omega
      · refine gx_aload0 (q := 47) hG d_M_mixGame_46 rfl ?_
        refine gx_aload0 (q := 48) hG d_M_mixGame_47 rfl ?_
        refine gx_get (q := 51) hG f_M_35 hpM rfl d_M_mixGame_48 rfl ?_
        refine gx_iload1 (q := 52) hG d_M_mixGame_51 rfl ?_
        refine gw_iald (q := 53) hG rfl (by omega) (by omega) d_M_mixGame_52 rfl ?_
        rw [eb]
        refine gx_i2l (q := 54) hG d_M_mixGame_53 rfl (by omega) ?_
        refine gw_V1V (q := 57) hG l_M_321 c_M_mix (ev_M_mix) hpM rfl (by decide) (Nat.le_of_ble_eq_true rfl) d_M_mixGame_54 rfl (by decide) (fun w1 h54 => ?_)
        subst h54
        refine gx_iinc1 (q := 60) hG d_M_mixGame_57 rfl rfl ?_
        refine gx_goto (tgt := 38) hG d_M_mixGame_60 rfl ?_
        exact ih (k + 1) _ h o (by omega) g (SM_39 h2) (by rw [wu_eq, h3]; rfl) hk
  have P : ∀ (j k : Nat) (W : Mem) (h : Int), (k : Int) + j = aM w 4 2 → SM w W → W 76 39 = dg (aM w 6) k h → (∀ (W' : Mem), SM w W' → W' 76 39 = dg (aM w 6) (aM w 4 2).toNat h → G 36 [some (Vr 76), some (Vi (aM w 4 2)), none] [] 102 (hp W')) → G 11 [some (Vr 76), some (Vi (k : Int)), none] [] 102 (hp W) := by
    intro j
    induction j with
    | zero =>
      intro k W h h1 h2 h3 hk
      have ea : W 76 12 = aM w 4 2 := by rw [← h2.1]; rfl
      refine gx_iload1 (q := 12) hG d_M_mixGame_11 rfl ?_
      refine gx_aload0 (q := 13) hG d_M_mixGame_12 rfl ?_
      refine gx_get (q := 16) hG f_M_175 hpM rfl d_M_mixGame_13 rfl ?_
      rw [ea]
      refine gx_icmp_ge (tgt := 36) (q := 19) hG d_M_mixGame_16 rfl rfl (by omega) (by omega) (fun c16 => ?_) (fun c16 => ?_)
      · rw [show (k : Int) = aM w 4 2 by omega]
        exact hk W h2 (by rw [h3, show (aM w 4 2).toNat = k by omega])
      · exfalso; omega
    | succ j ih =>
      intro k W h h1 h2 h3 hk
      have ea : W 76 12 = aM w 4 2 := by rw [← h2.1]; rfl
      have eb : W 84 k = aM w 6 k := by
        have q : (k : Int) < aM W 4 2 := by rw [h2.1]; omega
        rw [← h2.1]
        exact (aM_at6 ⟨by omega, q⟩).symm
      have hb := hO.kd k (by omega) (by omega)
      refine gx_iload1 (q := 12) hG d_M_mixGame_11 rfl ?_
      refine gx_aload0 (q := 13) hG d_M_mixGame_12 rfl ?_
      refine gx_get (q := 16) hG f_M_175 hpM rfl d_M_mixGame_13 rfl ?_
      rw [ea]
      refine gx_icmp_ge (tgt := 36) (q := 19) hG d_M_mixGame_16 rfl rfl (by omega) (by omega) (fun c16 => ?_) (fun c16 => ?_)
      · exfalso; omega
      · refine gx_aload0 (q := 20) hG d_M_mixGame_19 rfl ?_
        refine gx_aload0 (q := 21) hG d_M_mixGame_20 rfl ?_
        refine gx_get (q := 24) hG f_M_32 hpM rfl d_M_mixGame_21 rfl ?_
        refine gx_iload1 (q := 25) hG d_M_mixGame_24 rfl ?_
        refine gw_iald (q := 26) hG rfl (by omega) (by omega) d_M_mixGame_25 rfl ?_
        rw [eb]
        refine gx_i2l (q := 27) hG d_M_mixGame_26 rfl (by omega) ?_
        refine gw_V1V (q := 30) hG l_M_321 c_M_mix (ev_M_mix) hpM rfl (by decide) (Nat.le_of_ble_eq_true rfl) d_M_mixGame_27 rfl (by decide) (fun w1 h27 => ?_)
        subst h27
        refine gx_iinc1 (q := 33) hG d_M_mixGame_30 rfl rfl ?_
        refine gx_goto (tgt := 11) hG d_M_mixGame_33 rfl ?_
        exact ih (k + 1) _ h (by omega) (SM_39 h2) (by rw [wu_eq, h3]; rfl) hk
  have e0 : w 76 11 = aM w 4 0 := rfl
  have F4 : ∀ (W' : Mem) (o' : Option Value), SM w W' → W' 76 39 = itr (dgK (aM w)) 3 (dg (aM w 5) (aM w 4 1).toNat (dg (aM w 6) (aM w 4 2).toNat (31 * w 76 39 + aM w 4 0))) → G 136 [some (Vr 76), some (Vi 3), o'] [] 102 (hp W') := by
    intro W' o' q1 q2
    refine gx_return hG d_M_mixGame_136 rfl rfl ?_
    exact ⟨_, rfl, rfl, q1, q2⟩
  have F3 : ∀ (W' : Mem) (o' : Option Value), one1 [o'] 0 = true → SM w W' → W' 76 39 = dg (aM w 5) (aM w 4 1).toNat (dg (aM w 6) (aM w 4 2).toNat (31 * w 76 39 + aM w 4 0)) → G 63 [some (Vr 76), some (Vi (aM w 4 1)), o'] [] 102 (hp W') := by
    intro W' o' g q1 q2
    refine gx_iconst (q := 64) hG d_M_mixGame_63 rfl ?_
    refine gx_istore1 (q := 65) hG d_M_mixGame_64 rfl rfl ?_
    exact K 3 0 W' _ o' (by omega) g q1 q2 F4
  have F2 : ∀ (W' : Mem), SM w W' → W' 76 39 = dg (aM w 6) (aM w 4 2).toNat (31 * w 76 39 + aM w 4 0) → G 36 [some (Vr 76), some (Vi (aM w 4 2)), none] [] 102 (hp W') := by
    intro W' q1 q2
    refine gx_iconst (q := 37) hG d_M_mixGame_36 rfl ?_
    refine gx_istore1 (q := 38) hG d_M_mixGame_37 rfl rfl ?_
    exact N (aM w 4 1).toNat 0 W' _ none (by omega) rfl q1 q2 F3
  refine gx_aload0 (q := 1) hG d_M_mixGame_0 rfl ?_
  refine gx_aload0 (q := 2) hG d_M_mixGame_1 rfl ?_
  refine gx_get (q := 5) hG f_M_172 hpM rfl d_M_mixGame_2 rfl ?_
  rw [e0]
  refine gx_i2l (q := 6) hG d_M_mixGame_5 rfl (by omega) ?_
  refine gw_V1V (q := 9) hG l_M_321 c_M_mix (ev_M_mix) hpM rfl (by decide) (Nat.le_of_ble_eq_true rfl) d_M_mixGame_6 rfl (by decide) (fun w1 h6 => ?_)
  subst h6
  refine gx_iconst (q := 10) hG d_M_mixGame_9 rfl ?_
  refine gx_istore1 (q := 11) hG d_M_mixGame_10 rfl rfl ?_
  exact P (aM w 4 2).toNat 0 _ (31 * w 76 39 + aM w 4 0) (by omega) (SM_39 SM_id) (by rw [wu_eq]; rfl) F2
theorem itr_s {f : Nat → Int → Int} {k : Nat} {h : Int} : itr f (k + 1) h = f k (itr f k h) := rfl
theorem ev_M_digest {w : Mem} (hO : OK (aM w)) : EvJ y_M_digest b_M_digest 3 (some .long) (7) [Vr 76] w (fun z w' => z = sp_digest (aM w) ∧ SM w w') := by
  refine Ev.mk (isI := false) (by decide +kernel) nofun (Nat.le_of_ble_eq_true rfl) (fun G hG => ?_)
  show G 0 [some (Vr 76), none, none] [] 102 (hp w)
  have TI : ∀ (j i k : Nat) (W : Mem) (h : Int), k < 4 → ((i : Int) + j = aM w 2 k ∨ (j = 0 ∧ i = 0 ∧ aM w 2 k < 0)) → SM w W → W 76 39 = dg (fun x => aM w 3 (60 * k + x)) i h → (∀ (W' : Mem) (i' : Int), SM w W' → W' 76 39 = dg (fun x => aM w 3 (60 * k + x)) (aM w 2 k).toNat h → G 136 [some (Vr 76), some (Vi (k : Int)), some (Vi i')] [] 102 (hp W')) → G 109 [some (Vr 76), some (Vi (k : Int)), some (Vi (i : Int))] [] 102 (hp W) := by
    intro j
    induction j with
    | zero =>
      intro i k W h h0 h1 h2 h3 hk
      have hb := hO.2.2.1 k (by omega) (by omega)
      have ea : W 81 k = aM w 2 k := by rw [← h2.1]; exact (aM_at2 (by omega)).symm
      refine gx_iload2 (q := 110) hG d_M_digest_109 rfl ?_
      refine gx_aload0 (q := 111) hG d_M_digest_110 rfl ?_
      refine gx_get (q := 114) hG f_M_22 hpM rfl d_M_digest_111 rfl ?_
      refine gx_iload1 (q := 115) hG d_M_digest_114 rfl ?_
      refine gw_iald (q := 116) hG rfl (by omega) (by omega) d_M_digest_115 rfl ?_
      rw [ea]
      refine gx_icmp_ge (tgt := 136) (q := 119) hG d_M_digest_116 rfl rfl (by omega) (by omega) (fun c116 => ?_) (fun c116 => ?_)
      · exact hk W i h2 (by rw [h3, show (aM w 2 k).toNat = i by omega])
      · exfalso; omega
    | succ j ih =>
      intro i k W h h0 h1 h2 h3 hk
      have hb := hO.2.2.1 k (by omega) (by omega)
      have ea : W 81 k = aM w 2 k := by rw [← h2.1]; exact (aM_at2 (by omega)).symm
      have eb : W 82 (60 * k + i) = aM w 3 (60 * k + i) := by rw [← h2.1]; exact (aM_at3 (by omega)).symm
      have hb4 := hO.2.2.2.1 (60 * k + i) (by omega) (by omega)
      refine gx_iload2 (q := 110) hG d_M_digest_109 rfl ?_
      refine gx_aload0 (q := 111) hG d_M_digest_110 rfl ?_
      refine gx_get (q := 114) hG f_M_22 hpM rfl d_M_digest_111 rfl ?_
      refine gx_iload1 (q := 115) hG d_M_digest_114 rfl ?_
      refine gw_iald (q := 116) hG rfl (by omega) (by omega) d_M_digest_115 rfl ?_
      rw [ea]
      refine gx_icmp_ge (tgt := 136) (q := 119) hG d_M_digest_116 rfl rfl (by omega) (by omega) (fun c116 => ?_) (fun c116 => ?_)
      · exfalso; omega
      · refine gx_aload0 (q := 120) hG d_M_digest_119 rfl ?_
        refine gx_aload0 (q := 121) hG d_M_digest_120 rfl ?_
        refine gx_iload1 (q := 122) hG d_M_digest_121 rfl ?_
        refine gx_iload2 (q := 123) hG d_M_digest_122 rfl ?_
        refine gw_V2X (q := 126) hG l_M_141 c_M_byteAt (ev_M_byteAt (by omega) (by omega) (by omega)) hpM rfl (by decide) (Nat.le_of_ble_eq_true rfl) d_M_digest_123 rfl (by decide) ?_
        rw [if_pos (by omega), eb]
        refine gx_i2l (q := 127) hG d_M_digest_126 rfl (by omega) ?_
        refine gw_V1V (q := 130) hG l_M_321 c_M_mix (ev_M_mix) hpM rfl (by decide) (Nat.le_of_ble_eq_true rfl) d_M_digest_127 rfl (by decide) (fun w1 h127 => ?_)
        subst h127
        refine gx_iinc2 (q := 133) hG d_M_digest_130 rfl rfl ?_
        refine gx_goto (tgt := 109) hG d_M_digest_133 rfl ?_
        exact ih (i + 1) k _ h h0 (by omega) (SM_39 h2) (by rw [wu_eq, h3]; rfl) hk
  have T : ∀ (j k : Nat) (W : Mem) (h : Int) (o : Option Value), k + j = 4 → one1 [o] 0 = true → SM w W → W 76 39 = itr (dgT (aM w)) k h → (∀ (W' : Mem) (o' : Option Value), SM w W' → W' 76 39 = itr (dgT (aM w)) 4 h → G 142 [some (Vr 76), some (Vi 4), o'] [] 102 (hp W')) → G 91 [some (Vr 76), some (Vi (k : Int)), o] [] 102 (hp W) := by
    intro j
    induction j with
    | zero =>
      intro k W h o h1 g h2 h3 hk
      refine gx_iload1 (q := 92) hG d_M_digest_91 rfl ?_
      refine gx_iconst (q := 93) hG d_M_digest_92 rfl ?_
      refine gx_icmp_ge (tgt := 142) (q := 96) hG d_M_digest_93 rfl rfl (by omega) (by omega) (fun c93 => ?_) (fun c93 => ?_)
      · rw [show (k : Int) = 4 by omega]
        exact hk W o h2 (by rw [h3, show k = 4 by omega])
      · exfalso; omega
    | succ j ih =>
      intro k W h o h1 g h2 h3 hk
      have hb := hO.2.2.1 k (by omega) (by omega)
      have ea : W 81 k = aM w 2 k := by rw [← h2.1]; exact (aM_at2 (by omega)).symm
      have H : ∀ (W' : Mem) (i' : Int), SM w W' → W' 76 39 = itr (dgT (aM w)) (k + 1) h → G 136 [some (Vr 76), some (Vi (k : Int)), some (Vi i')] [] 102 (hp W') := by
        intro W' i' q1 q2
        refine gx_iinc1 (q := 139) hG d_M_digest_136 rfl rfl ?_
        refine gx_goto (tgt := 91) hG d_M_digest_139 rfl ?_
        exact ih (k + 1) W' h _ (by omega) rfl q1 q2 hk
      refine gx_iload1 (q := 92) hG d_M_digest_91 rfl ?_
      refine gx_iconst (q := 93) hG d_M_digest_92 rfl ?_
      refine gx_icmp_ge (tgt := 142) (q := 96) hG d_M_digest_93 rfl rfl (by omega) (by omega) (fun c93 => ?_) (fun c93 => ?_)
      · exfalso; omega
      · refine gx_aload0 (q := 97) hG d_M_digest_96 rfl ?_
        refine gx_aload0 (q := 98) hG d_M_digest_97 rfl ?_
        refine gx_get (q := 101) hG f_M_22 hpM rfl d_M_digest_98 rfl ?_
        refine gx_iload1 (q := 102) hG d_M_digest_101 rfl ?_
        refine gw_iald (q := 103) hG rfl (by omega) (by omega) d_M_digest_102 rfl ?_
        rw [ea]
        refine gx_i2l (q := 104) hG d_M_digest_103 rfl (by omega) ?_
        refine gw_V1V (q := 107) hG l_M_321 c_M_mix (ev_M_mix) hpM rfl (by decide) (Nat.le_of_ble_eq_true rfl) d_M_digest_104 rfl (by decide) (fun w1 h104 => ?_)
        subst h104
        refine gx_iconst (q := 108) hG d_M_digest_107 rfl ?_
        refine gx_istore2 (q := 109) hG d_M_digest_108 rfl rfl ?_
        exact TI (aM w 2 k).toNat 0 k _ (31 * W 76 39 + aM w 2 k) (by omega) (by omega) (SM_39 h2) (by rw [wu_eq]; rfl) (fun W' i' q1 q2 => H W' i' q1 (by rw [itr_s]; unfold dgT; rw [q2, h3]; rfl))
  have RI : ∀ (j i k : Nat) (W : Mem) (h : Int), k < 6 → ((i : Int) + j = aM w 0 k ∨ (j = 0 ∧ i = 0 ∧ aM w 0 k < 0)) → SM w W → W 76 39 = dg (fun x => aM w 1 (60 * k + x)) i h → (∀ (W' : Mem) (i' : Int), SM w W' → W' 76 39 = dg (fun x => aM w 1 (60 * k + x)) (aM w 0 k).toNat h → G 83 [some (Vr 76), some (Vi (k : Int)), some (Vi i')] [] 102 (hp W')) → G 56 [some (Vr 76), some (Vi (k : Int)), some (Vi (i : Int))] [] 102 (hp W) := by
    intro j
    induction j with
    | zero =>
      intro i k W h h0 h1 h2 h3 hk
      have hb := hO.1 k (by omega) (by omega)
      have ea : W 78 k = aM w 0 k := by rw [← h2.1]; exact (aM_at0 (by omega)).symm
      refine gx_iload2 (q := 57) hG d_M_digest_56 rfl ?_
      refine gx_aload0 (q := 58) hG d_M_digest_57 rfl ?_
      refine gx_get (q := 61) hG f_M_13 hpM rfl d_M_digest_58 rfl ?_
      refine gx_iload1 (q := 62) hG d_M_digest_61 rfl ?_
      refine gw_iald (q := 63) hG rfl (by omega) (by omega) d_M_digest_62 rfl ?_
      rw [ea]
      refine gx_icmp_ge (tgt := 83) (q := 66) hG d_M_digest_63 rfl rfl (by omega) (by omega) (fun c63 => ?_) (fun c63 => ?_)
      · exact hk W i h2 (by rw [h3, show (aM w 0 k).toNat = i by omega])
      · exfalso; omega
    | succ j ih =>
      intro i k W h h0 h1 h2 h3 hk
      have hb := hO.1 k (by omega) (by omega)
      have ea : W 78 k = aM w 0 k := by rw [← h2.1]; exact (aM_at0 (by omega)).symm
      have eb : W 79 (60 * k + i) = aM w 1 (60 * k + i) := by rw [← h2.1]; exact (aM_at1 (by omega)).symm
      have hb4 := hO.2.1 (60 * k + i) (by omega) (by omega)
      refine gx_iload2 (q := 57) hG d_M_digest_56 rfl ?_
      refine gx_aload0 (q := 58) hG d_M_digest_57 rfl ?_
      refine gx_get (q := 61) hG f_M_13 hpM rfl d_M_digest_58 rfl ?_
      refine gx_iload1 (q := 62) hG d_M_digest_61 rfl ?_
      refine gw_iald (q := 63) hG rfl (by omega) (by omega) d_M_digest_62 rfl ?_
      rw [ea]
      refine gx_icmp_ge (tgt := 83) (q := 66) hG d_M_digest_63 rfl rfl (by omega) (by omega) (fun c63 => ?_) (fun c63 => ?_)
      · exfalso; omega
      · refine gx_aload0 (q := 67) hG d_M_digest_66 rfl ?_
        refine gx_aload0 (q := 68) hG d_M_digest_67 rfl ?_
        refine gx_iload1 (q := 69) hG d_M_digest_68 rfl ?_
        refine gx_iload2 (q := 70) hG d_M_digest_69 rfl ?_
        refine gw_V2X (q := 73) hG l_M_118 c_M_rowAt (ev_M_rowAt (by omega) (by omega)) hpM rfl (by decide) (Nat.le_of_ble_eq_true rfl) d_M_digest_70 rfl (by decide) ?_
        rw [eb]
        refine gx_i2l (q := 74) hG d_M_digest_73 rfl (by omega) ?_
        refine gw_V1V (q := 77) hG l_M_321 c_M_mix (ev_M_mix) hpM rfl (by decide) (Nat.le_of_ble_eq_true rfl) d_M_digest_74 rfl (by decide) (fun w1 h74 => ?_)
        subst h74
        refine gx_iinc2 (q := 80) hG d_M_digest_77 rfl rfl ?_
        refine gx_goto (tgt := 56) hG d_M_digest_80 rfl ?_
        exact ih (i + 1) k _ h h0 (by omega) (SM_39 h2) (by rw [wu_eq, h3]; rfl) hk
  have R : ∀ (j k : Nat) (W : Mem) (h : Int) (o : Option Value), k + j = 6 → one1 [o] 0 = true → SM w W → W 76 39 = itr (dgR (aM w)) k h → (∀ (W' : Mem) (o' : Option Value), one1 [o'] 0 = true → SM w W' → W' 76 39 = itr (dgR (aM w)) 6 h → G 89 [some (Vr 76), some (Vi 6), o'] [] 102 (hp W')) → G 37 [some (Vr 76), some (Vi (k : Int)), o] [] 102 (hp W) := by
    intro j
    induction j with
    | zero =>
      intro k W h o h1 g h2 h3 hk
      refine gx_iload1 (q := 38) hG d_M_digest_37 rfl ?_
      refine gx_bipush (q := 40) hG d_M_digest_38 rfl rfl ?_
      refine gx_icmp_ge (tgt := 89) (q := 43) hG d_M_digest_40 rfl rfl (by omega) (by omega) (fun c40 => ?_) (fun c40 => ?_)
      · rw [show (k : Int) = 6 by omega]
        exact hk W o g h2 (by rw [h3, show k = 6 by omega])
      · exfalso; omega
    | succ j ih =>
      intro k W h o h1 g h2 h3 hk
      have hb := hO.1 k (by omega) (by omega)
      have ea : W 78 k = aM w 0 k := by rw [← h2.1]; exact (aM_at0 (by omega)).symm
      have H : ∀ (W' : Mem) (i' : Int), SM w W' → W' 76 39 = itr (dgR (aM w)) (k + 1) h → G 83 [some (Vr 76), some (Vi (k : Int)), some (Vi i')] [] 102 (hp W') := by
        intro W' i' q1 q2
        refine gx_iinc1 (q := 86) hG d_M_digest_83 rfl rfl ?_
        refine gx_goto (tgt := 37) hG d_M_digest_86 rfl ?_
        exact ih (k + 1) W' h _ (by omega) rfl q1 q2 hk
      refine gx_iload1 (q := 38) hG d_M_digest_37 rfl ?_
      refine gx_bipush (q := 40) hG d_M_digest_38 rfl rfl ?_
      refine gx_icmp_ge (tgt := 89) (q := 43) hG d_M_digest_40 rfl rfl (by omega) (by omega) (fun c40 => ?_) (fun c40 => ?_)
      · exfalso; omega
      · refine gx_aload0 (q := 44) hG d_M_digest_43 rfl ?_
        refine gx_aload0 (q := 45) hG d_M_digest_44 rfl ?_
        refine gx_get (q := 48) hG f_M_13 hpM rfl d_M_digest_45 rfl ?_
        refine gx_iload1 (q := 49) hG d_M_digest_48 rfl ?_
        refine gw_iald (q := 50) hG rfl (by omega) (by omega) d_M_digest_49 rfl ?_
        rw [ea]
        refine gx_i2l (q := 51) hG d_M_digest_50 rfl (by omega) ?_
        refine gw_V1V (q := 54) hG l_M_321 c_M_mix (ev_M_mix) hpM rfl (by decide) (Nat.le_of_ble_eq_true rfl) d_M_digest_51 rfl (by decide) (fun w1 h51 => ?_)
        subst h51
        refine gx_iconst (q := 55) hG d_M_digest_54 rfl ?_
        refine gx_istore2 (q := 56) hG d_M_digest_55 rfl rfl ?_
        exact RI (aM w 0 k).toNat 0 k _ (31 * W 76 39 + aM w 0 k) (by omega) (by omega) (SM_39 h2) (by rw [wu_eq]; rfl) (fun W' i' q1 q2 => H W' i' q1 (by rw [itr_s]; unfold dgR; rw [q2, h3]; rfl))
  have FT : ∀ (W' : Mem) (o' : Option Value), SM w W' → W' 76 39 = itr (dgT (aM w)) 4 (dgE (aM w)) → G 142 [some (Vr 76), some (Vi 4), o'] [] 102 (hp W') := by
    intro W' o' q1 q2
    refine gx_aload0 (q := 143) hG d_M_digest_142 rfl ?_
    refine gx_get (q := 146) hG f_M_318 hpM rfl d_M_digest_143 rfl ?_
    refine gx_lreturn hG d_M_digest_146 rfl rfl ?_
    exact ⟨_, rfl, _, rfl, q2, q1⟩
  have FR : ∀ (W' : Mem) (o' : Option Value), one1 [o'] 0 = true → SM w W' → W' 76 39 = itr (dgR (aM w)) 6 (dgD (aM w)) → G 89 [some (Vr 76), some (Vi 6), o'] [] 102 (hp W') := by
    intro W' o' g q1 q2
    refine gx_iconst (q := 90) hG d_M_digest_89 rfl ?_
    refine gx_istore1 (q := 91) hG d_M_digest_90 rfl rfl ?_
    exact T 4 0 W' (dgE (aM w)) o' (by omega) g q1 q2 FT
  have C : ∀ (j k : Nat) (W : Mem), k + j = 8 → SM w W → W 76 39 = dg (sp_count (aM w)) k 17 → G 9 [some (Vr 76), some (Vi (k : Int)), none] [] 102 (hp W) := by
    intro j
    induction j with
    | zero =>
      intro k W h1 h2 h3
      refine gx_iload1 (q := 10) hG d_M_digest_9 rfl ?_
      refine gx_bipush (q := 12) hG d_M_digest_10 rfl rfl ?_
      refine gx_icmp_ge (tgt := 31) (q := 15) hG d_M_digest_12 rfl rfl (by omega) (by omega) (fun c12 => ?_) (fun c12 => ?_)
      · refine gx_aload0 (q := 32) hG d_M_digest_31 rfl ?_
        refine gw_V0V (q := 35) hG l_M_329 c_M_mixGame (ev_M_mixGame (h2.ok hO)) hpM rfl (by decide) (Nat.le_of_ble_eq_true rfl) d_M_digest_32 rfl (by decide) (fun w1 h32 => ?_)
        obtain ⟨s1, s2⟩ := h32
        have s3 : w1 76 39 = dgD (aM w) := by
          rw [s2, h2.1, h3, show k = 8 by omega]
          rfl
        refine gx_iconst (q := 36) hG d_M_digest_35 rfl ?_
        refine gx_istore1 (q := 37) hG d_M_digest_36 rfl rfl ?_
        exact R 6 0 w1 (dgD (aM w)) none (by omega) rfl (h2.tr s1) s3 FR
      · exfalso; omega
    | succ j ih =>
      intro k W h1 h2 h3
      have hR := sp_count_R (x := k) hO
      have ec : sp_count (aM w) k = cntS (aM w) k := if_pos (by omega)
      refine gx_iload1 (q := 10) hG d_M_digest_9 rfl ?_
      refine gx_bipush (q := 12) hG d_M_digest_10 rfl rfl ?_
      refine gx_icmp_ge (tgt := 31) (q := 15) hG d_M_digest_12 rfl rfl (by omega) (by omega) (fun c12 => ?_) (fun c12 => ?_)
      · exfalso; omega
      · refine gx_aload0 (q := 16) hG d_M_digest_15 rfl ?_
        refine gx_aload0 (q := 17) hG d_M_digest_16 rfl ?_
        refine gx_iload1 (q := 18) hG d_M_digest_17 rfl ?_
        refine gw_V1I (q := 21) hG l_M_313 c_M_counted (ev_M_counted (h2.ok hO) (by omega)) hpM rfl (by decide) (Nat.le_of_ble_eq_true rfl) d_M_digest_18 rfl (by decide) (fun z18 w1 h18 => ?_)
        obtain ⟨rfl, s1, s9⟩ := h18
        rw [h2.1, ← ec]
        refine gx_i2l (q := 22) hG d_M_digest_21 rfl (hR) ?_
        refine gw_V1V (q := 25) hG l_M_321 c_M_mix (ev_M_mix) hpM rfl (by decide) (Nat.le_of_ble_eq_true rfl) d_M_digest_22 rfl (by decide) (fun w2 h22 => ?_)
        subst h22
        refine gx_iinc1 (q := 28) hG d_M_digest_25 rfl rfl ?_
        refine gx_goto (tgt := 9) hG d_M_digest_28 rfl ?_
        have e1 : w1 76 39 = W 76 39 := by rw [s9]
        exact ih (k + 1) _ (by omega) (SM_39 (h2.tr s1)) (by rw [wu_eq, e1, h3]; rfl)
  refine gx_aload0 (q := 1) hG d_M_digest_0 rfl ?_
  refine gx_ldc2 (q := 4) hG (17) k_M_327 d_M_digest_1 rfl rfl ?_
  refine gw_putj (q := 7) hG f_M_318 hpM (Nat.le_of_ble_eq_true rfl) vfit_l (Or.inl rfl) d_M_digest_4 rfl 39 rfl rfl ?_
  refine gx_iconst (q := 8) hG d_M_digest_7 rfl ?_
  refine gx_istore1 (q := 9) hG d_M_digest_8 rfl rfl ?_
  exact C 8 0 _ (by omega) (SM_39 SM_id) (by rw [wu_eq]; rfl)

