/-! part 76: the reference's table of wins, and its calls -/
theorem ev_M_greater {w : Mem} {x y : Int} (hx : R3 x) (hy : R3 y) : EvX y_M_greater b_M_greater 2 (some .int) (1) [Vi x, Vi y] w (Vi (if y < x then x else y)) := by
  refine Ev.mk (isI := false) (by decide +kernel) nofun (Nat.le_of_ble_eq_true rfl) (fun G hG => ?_)
  show G 0 [some (Vi x), some (Vi y)] [] 102 (hp w)
  refine gx_iload0 (q := 1) hG d_M_greater_0 rfl ?_
  refine gx_iload1 (q := 2) hG d_M_greater_1 rfl ?_
  refine gx_icmp_le (tgt := 9) (q := 5) hG d_M_greater_2 rfl rfl (by omega) (by omega) (fun c2 => ?_) (fun c2 => ?_)
  · refine gx_iload1 (q := 10) hG d_M_greater_9 rfl ?_
    refine gx_ireturn hG d_M_greater_10 rfl rfl ?_
    first
      | exact ⟨w, rfl, by rw [if_pos (by omega)], rfl⟩
      | exact ⟨w, rfl, by rw [if_neg (by omega)], rfl⟩
  · refine gx_iload0 (q := 6) hG d_M_greater_5 rfl ?_
    refine gx_goto (tgt := 10) hG d_M_greater_6 rfl ?_
    refine gx_ireturn hG d_M_greater_10 rfl rfl ?_
    first
      | exact ⟨w, rfl, by rw [if_pos (by omega)], rfl⟩
      | exact ⟨w, rfl, by rw [if_neg (by omega)], rfl⟩
def VT (s : Sta) (W : Mem) (N : Nat) : Prop := ∀ S : Nat, S < N → W 96 S = vS (msk s S) % 2 ∧ W 98 S = vS (msk s S) / 2 ∧ W 97 S = (bs S 28 : Nat)
theorem bs28 (S : Nat) : bs S 28 ≤ 28 := bs_le S 28
theorem ev_M_layWins {w : Mem} {s : Sta} (hc : canS s) (hgm : w 76 28 = (GG s : Int)) (hT : HT s (w 83)) : EvV y_M_layWins b_M_layWins 5 none (3) [Vr 76] w (fun w' => GO s (w' 94) (w' 95) 60 ∧ VT s w' (2 ^ GG s) ∧ ∀ b, b < 94 ∨ 98 < b → w' b = w b) := by
  refine Ev.mk (isI := false) (by decide +kernel) nofun (Nat.le_of_ble_eq_true rfl) (fun G hG => ?_)
  show G 0 [some (Vr 76), none, none, none, none] [] 102 (hp w)
  have h14 := can_GG hc
  have h2G : 2 ^ GG s ≤ 16384 := Nat.pow_le_pow_right (n := 2) (by decide) h14
  -- the round over the sets
  have Z : ∀ (j S : Nat) (W : Mem) (o3 o4 : Option Value), S + j = 2 ^ GG s → one1 [o3] 0 = true → one1 [o4] 0 = true → (∀ b, b < 94 ∨ 98 < b → W b = w b) → GO s (W 94) (W 95) 60 → VT s W S → G 55 [some (Vr 76), some (Vi (GG s : Int)), some (Vi (S : Int)), o3, o4] [] 102 (hp W) := by
    intro j
    induction j with
    | zero =>
      intro S W o3 o4 h1 g3 g4 f1 f2 f3
      have e28 : W 76 28 = (GG s : Int) := by rw [f1 76 (by omega), hgm]
      refine gx_iload2 (q := 56) hG d_M_layWins_55 rfl ?_
      refine gx_iconst (q := 57) hG d_M_layWins_56 rfl ?_
      refine gx_aload0 (q := 58) hG d_M_layWins_57 rfl ?_
      refine gx_get (q := 61) hG f_M_210 hpM rfl d_M_layWins_58 rfl ?_
      rw [e28]
      refine gx_ishl (q := 62) hG (((1 <<< GG s : Nat) : Int)) d_M_layWins_61 rfl (i_shl 1 (GG s) (by omega)) ?_
      rw [Nat.one_shiftLeft]
      refine gx_icmp_ge (tgt := 250) (q := 65) hG d_M_layWins_62 rfl rfl (by omega) (by omega) (fun c62 => ?_) (fun c62 => ?_)
      · refine gx_return hG d_M_layWins_250 rfl rfl ?_
        exact ⟨_, rfl, rfl, f2, by rw [← h1]; exact f3, f1⟩
      · exfalso; omega
    | succ j ihZ =>
      intro S W o3 o4 h1 g3 g4 f1 f2 f3
      have e28 : W 76 28 = (GG s : Int) := by rw [f1 76 (by omega), hgm]
      have hSG : S < 2 ^ GG s := by omega
      have hS28 : S < 2 ^ 28 := by omega
      have hbs := bs28 S
      -- the round over the set's places
      have K : ∀ (jj k : Nat) (W' : Mem) (o4 : Option Value), (k + jj = GG s ∨ (jj = 0 ∧ GG s ≤ k)) → 1 ≤ k → k ≤ 20 → one1 [o4] 0 = true → (∀ b, b < 94 ∨ 98 < b → W' b = w b) → (W' 94 = W 94 ∧ W' 95 = W 95) → VT s W' S → IV s (W 94) S k (W' 96 S) (W' 98 S) (W' 97 S) → G 105 [some (Vr 76), some (Vi (GG s : Int)), some (Vi (S : Int)), some (Vi (k : Int)), o4] [] 102 (hp W') := by
        intro jj
        induction jj with
        | zero =>
          intro k W' o4 k1 k2 k2' g4 q1 q2 q3 q4
          have e28 : W' 76 28 = (GG s : Int) := by rw [q1 76 (by omega), hgm]
          obtain ⟨r1, r2, r3⟩ := IV_fin hc f2 k2 (by omega) hSG q4
          have hvb : 0 ≤ vS (msk s S) ∧ vS (msk s S) ≤ 29 := slF_bd 15 _
          have hshb : R3 (W' 98 S) := by
            by_cases c : 1 ≤ S ∧ W' 98 S = 99999
            · omega
            · rw [if_neg c] at r2
              omega
          have hfin : ∀ z : Int, z = vS (msk s S) / 2 → VT s (wu W' 98 S z) (S + 1) := fun z hz S' hS' => by
            by_cases c : S' = S
            · subst c
              rw [wu_ne (show (96 : Int) ≠ 98 by omega), wu_eq, wu_ne (show (97 : Int) ≠ 98 by omega)]
              exact ⟨r1, hz, r3⟩
            · have := q3 S' (by omega)
              rw [wu_ne (show (96 : Int) ≠ 98 by omega), wu_pl (show (S' : Int) ≠ S by omega), wu_ne (show (97 : Int) ≠ 98 by omega)]
              exact this
          refine gx_iload3 (q := 106) hG d_M_layWins_105 rfl ?_
          refine gx_aload0 (q := 107) hG d_M_layWins_106 rfl ?_
          refine gx_get (q := 110) hG f_M_210 hpM rfl d_M_layWins_107 rfl ?_
          rw [e28]
          refine gx_icmp_ge (tgt := 213) (q := 113) hG d_M_layWins_110 rfl rfl (by omega) (by omega) (fun c110 => ?_) (fun c110 => ?_)
          · refine gx_aload0 (q := 214) hG d_M_layWins_213 rfl ?_
            refine gx_get (q := 217) hG f_M_76 hpM rfl d_M_layWins_214 rfl ?_
            refine gx_iload2 (q := 218) hG d_M_layWins_217 rfl ?_
            refine gx_iload2 (q := 219) hG d_M_layWins_218 rfl ?_
            refine gx_if_le (tgt := 237) (q := 222) hG d_M_layWins_219 rfl rfl (by omega) (fun c219 => ?_) (fun c219 => ?_)
            · refine gx_aload0 (q := 238) hG d_M_layWins_237 rfl ?_
              refine gx_get (q := 241) hG f_M_76 hpM rfl d_M_layWins_238 rfl ?_
              refine gx_iload2 (q := 242) hG d_M_layWins_241 rfl ?_
              refine gw_iald (q := 243) hG rfl (by omega) (by omega) d_M_layWins_242 rfl ?_
              refine gw_iast (q := 244) hG rfl (by omega) (by omega) d_M_layWins_243 rfl ?_
              refine gx_iinc2 (q := 247) hG d_M_layWins_244 rfl rfl ?_
              refine gx_goto (tgt := 55) hG d_M_layWins_247 rfl ?_
              first
                | (rw [if_neg (by omega)] at r2; exact ihZ (S + 1) _ _ _ (by omega) rfl g4 (fun b hb => by rw [wu_ne (by omega), q1 b hb]) (by rw [wu_ne (show (94 : Int) ≠ 98 by omega), wu_ne (show (95 : Int) ≠ 98 by omega), q2.1, q2.2]; exact f2) (hfin _ r2))
                | (rw [if_pos (by omega)] at r2; exact ihZ (S + 1) _ _ _ (by omega) rfl g4 (fun b hb => by rw [wu_ne (by omega), q1 b hb]) (by rw [wu_ne (show (94 : Int) ≠ 98 by omega), wu_ne (show (95 : Int) ≠ 98 by omega), q2.1, q2.2]; exact f2) (hfin _ r2))
            · refine gx_aload0 (q := 223) hG d_M_layWins_222 rfl ?_
              refine gx_get (q := 226) hG f_M_76 hpM rfl d_M_layWins_223 rfl ?_
              refine gx_iload2 (q := 227) hG d_M_layWins_226 rfl ?_
              refine gw_iald (q := 228) hG rfl (by omega) (by omega) d_M_layWins_227 rfl ?_
              refine gx_ldc (q := 230) hG (99999) k_M_127 d_M_layWins_228 rfl rfl ?_
              refine gx_icmp_ne (tgt := 237) (q := 233) hG d_M_layWins_230 rfl rfl (by omega) (by omega) (fun c230 => ?_) (fun c230 => ?_)
              · refine gx_aload0 (q := 238) hG d_M_layWins_237 rfl ?_
                refine gx_get (q := 241) hG f_M_76 hpM rfl d_M_layWins_238 rfl ?_
                refine gx_iload2 (q := 242) hG d_M_layWins_241 rfl ?_
                refine gw_iald (q := 243) hG rfl (by omega) (by omega) d_M_layWins_242 rfl ?_
                refine gw_iast (q := 244) hG rfl (by omega) (by omega) d_M_layWins_243 rfl ?_
                refine gx_iinc2 (q := 247) hG d_M_layWins_244 rfl rfl ?_
                refine gx_goto (tgt := 55) hG d_M_layWins_247 rfl ?_
                first
                  | (rw [if_neg (by omega)] at r2; exact ihZ (S + 1) _ _ _ (by omega) rfl g4 (fun b hb => by rw [wu_ne (by omega), q1 b hb]) (by rw [wu_ne (show (94 : Int) ≠ 98 by omega), wu_ne (show (95 : Int) ≠ 98 by omega), q2.1, q2.2]; exact f2) (hfin _ r2))
                  | (rw [if_pos (by omega)] at r2; exact ihZ (S + 1) _ _ _ (by omega) rfl g4 (fun b hb => by rw [wu_ne (by omega), q1 b hb]) (by rw [wu_ne (show (94 : Int) ≠ 98 by omega), wu_ne (show (95 : Int) ≠ 98 by omega), q2.1, q2.2]; exact f2) (hfin _ r2))
              · refine gx_iconst (q := 234) hG d_M_layWins_233 rfl ?_
                refine gx_goto (tgt := 243) hG d_M_layWins_234 rfl ?_
                refine gw_iast (q := 244) hG rfl (by omega) (by omega) d_M_layWins_243 rfl ?_
                refine gx_iinc2 (q := 247) hG d_M_layWins_244 rfl rfl ?_
                refine gx_goto (tgt := 55) hG d_M_layWins_247 rfl ?_
                first
                  | (rw [if_neg (by omega)] at r2; exact ihZ (S + 1) _ _ _ (by omega) rfl g4 (fun b hb => by rw [wu_ne (by omega), q1 b hb]) (by rw [wu_ne (show (94 : Int) ≠ 98 by omega), wu_ne (show (95 : Int) ≠ 98 by omega), q2.1, q2.2]; exact f2) (hfin _ r2))
                  | (rw [if_pos (by omega)] at r2; exact ihZ (S + 1) _ _ _ (by omega) rfl g4 (fun b hb => by rw [wu_ne (by omega), q1 b hb]) (by rw [wu_ne (show (94 : Int) ≠ 98 by omega), wu_ne (show (95 : Int) ≠ 98 by omega), q2.1, q2.2]; exact f2) (hfin _ r2))
          · exfalso; omega
        | succ jj ihK =>
          intro k W' o4 k1 k2 k2' g4 q1 q2 q3 q4
          have e28 : W' 76 28 = (GG s : Int) := by rw [q1 76 (by omega), hgm]
          have hkG : k < GG s := by clear f1 f3 hS28 hbs hSG h1 h2G; omega
          have k1' : k + 1 + jj = GG s ∨ (jj = 0 ∧ GG s ≤ k + 1) := by clear f1 f3 hS28 hbs hSG h1 h2G; omega
          have k3' : k + 1 ≤ 20 := by clear f1 f3 hS28 hbs hSG h1 h2G; omega
          obtain ⟨v, v1, v2, v3, v4, v5⟩ := go_ex hc f2 hkG
          have hbl := bhN_lt (s := s) (S := S) (n := v)
          have hvb : 0 ≤ vS (msk s (bhN s S v)) ∧ vS (msk s (bhN s S v)) ≤ 29 := slF_bd 15 _
          have hq41 := q4.1
          have hsl := slStep_win (m := msk s S) (nxg s (W 94) k)
          have h01 : W' 96 S = 0 ∨ W' 96 S = 1 := by rw [hq41]; exact hsl.2
          have hS1 : S.testBit k = true → 1 ≤ S := fun z => by
            rcases Nat.eq_zero_or_pos S with y | y
            · rw [y, Nat.zero_testBit] at z; cases z
            · exact y
          have hbd : S.testBit k = true → (0 ≤ W' 98 S ∧ W' 98 S ≤ 99999) ∧ (1 ≤ W' 97 S ∧ W' 97 S ≤ 28) := fun z => by
            obtain ⟨a1, a2, a3, a4, a5⟩ := q4.2.2 (hS1 z)
            refine ⟨?_, by omega⟩
            by_cases c : ∃ n : Nat, 2 ≤ n ∧ n < nxg s (W 94) k ∧ (msk s S).testBit n = true
            · have b := slStep_bd (V := vS) (fun m => (slF_bd 15 m).1) (m := msk s S) (nxg s (W 94) k)
              rw [a1 c]
              generalize (slStep vS (msk s S) (nxg s (W 94) k)).1 = x at b ⊢
              omega
            · rw [a2 c]
              omega
          have hlt : S.testBit k = true → bhN s S v < S := fun z => sub_lt (fun i q => bhN_sub v1 q) (by rw [← v4] at z; exact z) (bhN_self v1 v3)
          have hq3 : S.testBit k = true → W' 96 (bhN s S v : Nat) = vS (msk s (bhN s S v)) % 2 ∧ W' 98 (bhN s S v : Nat) = vS (msk s (bhN s S v)) / 2 ∧ W' 97 (bhN s S v : Nat) = (bs (bhN s S v) 28 : Nat) := fun z => q3 _ (hlt z)
          have hbb := bs28 (bhN s S v)
          have fin : ∀ b' : Int, S.testBit k = true → b' = (if vS (msk s (bhN s S v)) % 2 = 1 then W' 96 S else 1) → G 105 [some (Vr 76), some (Vi (GG s : Int)), some (Vi (S : Int)), some (Vi ((k : Int) + 1)), some (Vi (bhN s S v : Nat))] [] 102 (hp (wu (wu (wu W' 96 S b') 97 S (if 1 + ((bs (bhN s S v) 28 : Nat) : Int) < W' 97 S then W' 97 S else 1 + ((bs (bhN s S v) 28 : Nat) : Int))) 98 S (if W' 98 S < 1 + vS (msk s (bhN s S v)) / 2 then W' 98 S else 1 + vS (msk s (bhN s S v)) / 2))) := fun b' z hb' => by
            refine ihK (k + 1) _ (some (Vi (bhN s S v : Nat))) k1' (Nat.le_add_left 1 k) k3' rfl (fun b hb => by rw [wu_ne (by omega), wu_ne (by omega), wu_ne (by omega), q1 b hb]) ⟨by rw [wu_ne (by omega), wu_ne (by omega), wu_ne (by omega), q2.1], by rw [wu_ne (by omega), wu_ne (by omega), wu_ne (by omega), q2.2]⟩ (fun S' hS' => ?_) ?_
            · have := q3 S' hS'
              rw [wu_ne (show (96 : Int) ≠ 98 by omega), wu_ne (show (96 : Int) ≠ 97 by omega), wu_pl (show (S' : Int) ≠ S by omega), wu_pl (show (S' : Int) ≠ S by omega), wu_ne (show (98 : Int) ≠ 97 by omega), wu_ne (show (98 : Int) ≠ 96 by omega), wu_ne (show (97 : Int) ≠ 98 by omega), wu_pl (show (S' : Int) ≠ S by omega), wu_ne (show (97 : Int) ≠ 96 by omega)]
              exact this
            · rw [wu_ne (show (96 : Int) ≠ 98 by omega), wu_ne (show (96 : Int) ≠ 97 by omega), wu_eq, wu_eq, wu_ne (show (97 : Int) ≠ 98 by omega), wu_eq]
              exact IV_step hc f2 k2 hkG hSG z q4 v1 v2 v3 v4 v5 hb'
          refine gx_iload3 (q := 106) hG d_M_layWins_105 rfl ?_
          refine gx_aload0 (q := 107) hG d_M_layWins_106 rfl ?_
          refine gx_get (q := 110) hG f_M_210 hpM rfl d_M_layWins_107 rfl ?_
          rw [e28]
          refine gx_icmp_ge (tgt := 213) (q := 113) hG d_M_layWins_110 rfl rfl (by omega) (by omega) (fun c110 => ?_) (fun c110 => ?_)
          · exfalso; omega
          · refine gx_iload2 (q := 114) hG d_M_layWins_113 rfl ?_
            refine gx_iload3 (q := 115) hG d_M_layWins_114 rfl ?_
            refine gw_S2X (q := 118) hG l_M_229 c_M_has (ev_M_has (by omega) (by omega)) (by decide) (Nat.le_of_ble_eq_true rfl) d_M_layWins_115 rfl (by decide) ?_
            refine gx_if_eq (tgt := 207) (q := 121) hG d_M_layWins_118 rfl rfl (bi_R _) (fun c118 => ?_) (fun c118 => ?_)
            · have c118 := bi_eq0.mp c118
              refine gx_iinc3 (q := 210) hG d_M_layWins_207 rfl rfl ?_
              refine gx_goto (tgt := 105) hG d_M_layWins_210 rfl ?_
              first
                | exact ihK (k + 1) W' o4 k1' (Nat.le_add_left 1 k) k3' g4 q1 q2 q3 (IV_skip hc f2 k2 hkG (by simpa using c118) q4)
                | exact fin _ c118 (by split <;> omega)
            · have c118 := bi_ne0.mp c118
              refine gx_aload0 (q := 122) hG d_M_layWins_121 rfl ?_
              refine gx_iload2 (q := 123) hG d_M_layWins_122 rfl ?_
              refine gx_iload3 (q := 124) hG d_M_layWins_123 rfl ?_
              rw [show (k : Int) = ((ix s v : Nat) : Int) by omega]
              refine gw_V2X (q := 127) hG l_M_233 c_M_behind (ev_M_behind hc (by rw [q1 76 (by omega), hgm]) (by rw [q2.1, q2.2]; exact f2) hSG ⟨v1, v2⟩ v3) hpM rfl (by decide) (Nat.le_of_ble_eq_true rfl) d_M_layWins_124 rfl (by decide) ?_
              rw [show ((ix s v : Nat) : Int) = (k : Int) by omega]
              have hb9 := hq3 c118
              have hbd9 := hbd c118
              have hlt9 := hlt c118
              refine gx_istore4 (q := 129) hG d_M_layWins_127 rfl rfl ?_
              refine gx_aload0 (q := 130) hG d_M_layWins_129 rfl ?_
              refine gx_get (q := 133) hG f_M_69 hpM rfl d_M_layWins_130 rfl ?_
              refine gx_iload2 (q := 134) hG d_M_layWins_133 rfl ?_
              refine gx_aload0 (q := 135) hG d_M_layWins_134 rfl ?_
              refine gx_get (q := 138) hG f_M_69 hpM rfl d_M_layWins_135 rfl ?_
              refine gx_iload2 (q := 139) hG d_M_layWins_138 rfl ?_
              refine gw_zald (q := 140) hG rfl (by omega) (by omega) d_M_layWins_139 rfl ?_
              refine gx_if_ne (tgt := 153) (q := 143) hG d_M_layWins_140 rfl rfl (by omega) (fun c140 => ?_) (fun c140 => ?_)
              · refine gx_iconst (q := 154) hG d_M_layWins_153 rfl ?_
                refine gx_goto (tgt := 158) hG d_M_layWins_154 rfl ?_
                refine gw_zast (q := 159) hG rfl (by omega) (by omega) (by first | decide | omega) d_M_layWins_158 rfl ?_
                refine gx_aload0 (q := 160) hG d_M_layWins_159 rfl ?_
                refine gx_get (q := 163) hG f_M_73 hpM rfl d_M_layWins_160 rfl ?_
                refine gx_iload2 (q := 164) hG d_M_layWins_163 rfl ?_
                refine gx_aload0 (q := 165) hG d_M_layWins_164 rfl ?_
                refine gx_get (q := 168) hG f_M_73 hpM rfl d_M_layWins_165 rfl ?_
                refine gx_iload2 (q := 169) hG d_M_layWins_168 rfl ?_
                refine gw_iald (q := 170) hG rfl (by omega) (by omega) d_M_layWins_169 rfl ?_
                rw [wu_ne (show (97 : Int) ≠ 96 by omega)]
                refine gx_iconst (q := 171) hG d_M_layWins_170 rfl ?_
                refine gx_aload0 (q := 172) hG d_M_layWins_171 rfl ?_
                refine gx_get (q := 175) hG f_M_73 hpM rfl d_M_layWins_172 rfl ?_
                refine gx_iload4 (q := 177) hG d_M_layWins_175 rfl ?_
                refine gw_iald (q := 178) hG rfl (by omega) (by omega) d_M_layWins_177 rfl ?_
                rw [wu_ne (show (97 : Int) ≠ 96 by omega), hb9.2.2]
                refine gx_iadd (q := 179) hG d_M_layWins_178 rfl ?_
                refine gw_S2X (q := 182) hG l_M_236 c_M_greater (ev_M_greater (by omega) (by omega)) (by decide) (Nat.le_of_ble_eq_true rfl) d_M_layWins_179 rfl (by decide) ?_
                refine gw_iast (q := 183) hG rfl (by omega) (by omega) d_M_layWins_182 rfl ?_
                refine gx_aload0 (q := 184) hG d_M_layWins_183 rfl ?_
                refine gx_get (q := 187) hG f_M_76 hpM rfl d_M_layWins_184 rfl ?_
                refine gx_iload2 (q := 188) hG d_M_layWins_187 rfl ?_
                refine gx_aload0 (q := 189) hG d_M_layWins_188 rfl ?_
                refine gx_get (q := 192) hG f_M_76 hpM rfl d_M_layWins_189 rfl ?_
                refine gx_iload2 (q := 193) hG d_M_layWins_192 rfl ?_
                refine gw_iald (q := 194) hG rfl (by omega) (by omega) d_M_layWins_193 rfl ?_
                rw [wu_ne (show (98 : Int) ≠ 97 by omega), wu_ne (show (98 : Int) ≠ 96 by omega)]
                refine gx_iconst (q := 195) hG d_M_layWins_194 rfl ?_
                refine gx_aload0 (q := 196) hG d_M_layWins_195 rfl ?_
                refine gx_get (q := 199) hG f_M_76 hpM rfl d_M_layWins_196 rfl ?_
                refine gx_iload4 (q := 201) hG d_M_layWins_199 rfl ?_
                refine gw_iald (q := 202) hG rfl (by omega) (by omega) d_M_layWins_201 rfl ?_
                rw [wu_ne (show (98 : Int) ≠ 97 by omega), wu_ne (show (98 : Int) ≠ 96 by omega), hb9.2.1]
                refine gx_iadd (q := 203) hG d_M_layWins_202 rfl ?_
                refine gw_S2X (q := 206) hG l_M_128 c_M_lesser (ev_M_lesser (by omega) (by omega)) (by decide) (Nat.le_of_ble_eq_true rfl) d_M_layWins_203 rfl (by decide) ?_
                refine gw_iast (q := 207) hG rfl (by omega) (by omega) d_M_layWins_206 rfl ?_
                refine gx_iinc3 (q := 210) hG d_M_layWins_207 rfl rfl ?_
                refine gx_goto (tgt := 105) hG d_M_layWins_210 rfl ?_
                first
                  | exact ihK (k + 1) W' o4 k1' (Nat.le_add_left 1 k) k3' g4 q1 q2 q3 (IV_skip hc f2 k2 hkG (by simpa using c118) q4)
                  | exact fin _ c118 (by split <;> omega)
              · refine gx_aload0 (q := 144) hG d_M_layWins_143 rfl ?_
                refine gx_get (q := 147) hG f_M_69 hpM rfl d_M_layWins_144 rfl ?_
                refine gx_iload4 (q := 149) hG d_M_layWins_147 rfl ?_
                refine gw_zald (q := 150) hG rfl (by omega) (by omega) d_M_layWins_149 rfl ?_
                refine gx_if_ne (tgt := 157) (q := 153) hG d_M_layWins_150 rfl rfl (by omega) (fun c150 => ?_) (fun c150 => ?_)
                · refine gx_iconst (q := 158) hG d_M_layWins_157 rfl ?_
                  refine gw_zast (q := 159) hG rfl (by omega) (by omega) (by first | decide | omega) d_M_layWins_158 rfl ?_
                  refine gx_aload0 (q := 160) hG d_M_layWins_159 rfl ?_
                  refine gx_get (q := 163) hG f_M_73 hpM rfl d_M_layWins_160 rfl ?_
                  refine gx_iload2 (q := 164) hG d_M_layWins_163 rfl ?_
                  refine gx_aload0 (q := 165) hG d_M_layWins_164 rfl ?_
                  refine gx_get (q := 168) hG f_M_73 hpM rfl d_M_layWins_165 rfl ?_
                  refine gx_iload2 (q := 169) hG d_M_layWins_168 rfl ?_
                  refine gw_iald (q := 170) hG rfl (by omega) (by omega) d_M_layWins_169 rfl ?_
                  rw [wu_ne (show (97 : Int) ≠ 96 by omega)]
                  refine gx_iconst (q := 171) hG d_M_layWins_170 rfl ?_
                  refine gx_aload0 (q := 172) hG d_M_layWins_171 rfl ?_
                  refine gx_get (q := 175) hG f_M_73 hpM rfl d_M_layWins_172 rfl ?_
                  refine gx_iload4 (q := 177) hG d_M_layWins_175 rfl ?_
                  refine gw_iald (q := 178) hG rfl (by omega) (by omega) d_M_layWins_177 rfl ?_
                  rw [wu_ne (show (97 : Int) ≠ 96 by omega), hb9.2.2]
                  refine gx_iadd (q := 179) hG d_M_layWins_178 rfl ?_
                  refine gw_S2X (q := 182) hG l_M_236 c_M_greater (ev_M_greater (by omega) (by omega)) (by decide) (Nat.le_of_ble_eq_true rfl) d_M_layWins_179 rfl (by decide) ?_
                  refine gw_iast (q := 183) hG rfl (by omega) (by omega) d_M_layWins_182 rfl ?_
                  refine gx_aload0 (q := 184) hG d_M_layWins_183 rfl ?_
                  refine gx_get (q := 187) hG f_M_76 hpM rfl d_M_layWins_184 rfl ?_
                  refine gx_iload2 (q := 188) hG d_M_layWins_187 rfl ?_
                  refine gx_aload0 (q := 189) hG d_M_layWins_188 rfl ?_
                  refine gx_get (q := 192) hG f_M_76 hpM rfl d_M_layWins_189 rfl ?_
                  refine gx_iload2 (q := 193) hG d_M_layWins_192 rfl ?_
                  refine gw_iald (q := 194) hG rfl (by omega) (by omega) d_M_layWins_193 rfl ?_
                  rw [wu_ne (show (98 : Int) ≠ 97 by omega), wu_ne (show (98 : Int) ≠ 96 by omega)]
                  refine gx_iconst (q := 195) hG d_M_layWins_194 rfl ?_
                  refine gx_aload0 (q := 196) hG d_M_layWins_195 rfl ?_
                  refine gx_get (q := 199) hG f_M_76 hpM rfl d_M_layWins_196 rfl ?_
                  refine gx_iload4 (q := 201) hG d_M_layWins_199 rfl ?_
                  refine gw_iald (q := 202) hG rfl (by omega) (by omega) d_M_layWins_201 rfl ?_
                  rw [wu_ne (show (98 : Int) ≠ 97 by omega), wu_ne (show (98 : Int) ≠ 96 by omega), hb9.2.1]
                  refine gx_iadd (q := 203) hG d_M_layWins_202 rfl ?_
                  refine gw_S2X (q := 206) hG l_M_128 c_M_lesser (ev_M_lesser (by omega) (by omega)) (by decide) (Nat.le_of_ble_eq_true rfl) d_M_layWins_203 rfl (by decide) ?_
                  refine gw_iast (q := 207) hG rfl (by omega) (by omega) d_M_layWins_206 rfl ?_
                  refine gx_iinc3 (q := 210) hG d_M_layWins_207 rfl rfl ?_
                  refine gx_goto (tgt := 105) hG d_M_layWins_210 rfl ?_
                  first
                    | exact ihK (k + 1) W' o4 k1' (Nat.le_add_left 1 k) k3' g4 q1 q2 q3 (IV_skip hc f2 k2 hkG (by simpa using c118) q4)
                    | exact fin _ c118 (by split <;> omega)
                · refine gx_iconst (q := 154) hG d_M_layWins_153 rfl ?_
                  refine gx_goto (tgt := 158) hG d_M_layWins_154 rfl ?_
                  refine gw_zast (q := 159) hG rfl (by omega) (by omega) (by first | decide | omega) d_M_layWins_158 rfl ?_
                  refine gx_aload0 (q := 160) hG d_M_layWins_159 rfl ?_
                  refine gx_get (q := 163) hG f_M_73 hpM rfl d_M_layWins_160 rfl ?_
                  refine gx_iload2 (q := 164) hG d_M_layWins_163 rfl ?_
                  refine gx_aload0 (q := 165) hG d_M_layWins_164 rfl ?_
                  refine gx_get (q := 168) hG f_M_73 hpM rfl d_M_layWins_165 rfl ?_
                  refine gx_iload2 (q := 169) hG d_M_layWins_168 rfl ?_
                  refine gw_iald (q := 170) hG rfl (by omega) (by omega) d_M_layWins_169 rfl ?_
                  rw [wu_ne (show (97 : Int) ≠ 96 by omega)]
                  refine gx_iconst (q := 171) hG d_M_layWins_170 rfl ?_
                  refine gx_aload0 (q := 172) hG d_M_layWins_171 rfl ?_
                  refine gx_get (q := 175) hG f_M_73 hpM rfl d_M_layWins_172 rfl ?_
                  refine gx_iload4 (q := 177) hG d_M_layWins_175 rfl ?_
                  refine gw_iald (q := 178) hG rfl (by omega) (by omega) d_M_layWins_177 rfl ?_
                  rw [wu_ne (show (97 : Int) ≠ 96 by omega), hb9.2.2]
                  refine gx_iadd (q := 179) hG d_M_layWins_178 rfl ?_
                  refine gw_S2X (q := 182) hG l_M_236 c_M_greater (ev_M_greater (by omega) (by omega)) (by decide) (Nat.le_of_ble_eq_true rfl) d_M_layWins_179 rfl (by decide) ?_
                  refine gw_iast (q := 183) hG rfl (by omega) (by omega) d_M_layWins_182 rfl ?_
                  refine gx_aload0 (q := 184) hG d_M_layWins_183 rfl ?_
                  refine gx_get (q := 187) hG f_M_76 hpM rfl d_M_layWins_184 rfl ?_
                  refine gx_iload2 (q := 188) hG d_M_layWins_187 rfl ?_
                  refine gx_aload0 (q := 189) hG d_M_layWins_188 rfl ?_
                  refine gx_get (q := 192) hG f_M_76 hpM rfl d_M_layWins_189 rfl ?_
                  refine gx_iload2 (q := 193) hG d_M_layWins_192 rfl ?_
                  refine gw_iald (q := 194) hG rfl (by omega) (by omega) d_M_layWins_193 rfl ?_
                  rw [wu_ne (show (98 : Int) ≠ 97 by omega), wu_ne (show (98 : Int) ≠ 96 by omega)]
                  refine gx_iconst (q := 195) hG d_M_layWins_194 rfl ?_
                  refine gx_aload0 (q := 196) hG d_M_layWins_195 rfl ?_
                  refine gx_get (q := 199) hG f_M_76 hpM rfl d_M_layWins_196 rfl ?_
                  refine gx_iload4 (q := 201) hG d_M_layWins_199 rfl ?_
                  refine gw_iald (q := 202) hG rfl (by omega) (by omega) d_M_layWins_201 rfl ?_
                  rw [wu_ne (show (98 : Int) ≠ 97 by omega), wu_ne (show (98 : Int) ≠ 96 by omega), hb9.2.1]
                  refine gx_iadd (q := 203) hG d_M_layWins_202 rfl ?_
                  refine gw_S2X (q := 206) hG l_M_128 c_M_lesser (ev_M_lesser (by omega) (by omega)) (by decide) (Nat.le_of_ble_eq_true rfl) d_M_layWins_203 rfl (by decide) ?_
                  refine gw_iast (q := 207) hG rfl (by omega) (by omega) d_M_layWins_206 rfl ?_
                  refine gx_iinc3 (q := 210) hG d_M_layWins_207 rfl rfl ?_
                  refine gx_goto (tgt := 105) hG d_M_layWins_210 rfl ?_
                  first
                    | exact ihK (k + 1) W' o4 k1' (Nat.le_add_left 1 k) k3' g4 q1 q2 q3 (IV_skip hc f2 k2 hkG (by simpa using c118) q4)
                    | exact fin _ c118 (by split <;> omega)
      have hin := IV_in (S := S) hc f2 hS28
      have hfr : ∀ a b c : Int, (∀ b', b' < 94 ∨ 98 < b' → wu (wu (wu W 96 S a) 97 S b) 98 S c b' = w b') := fun a b c b' hb' => by rw [wu_ne (by omega), wu_ne (by omega), wu_ne (by omega), f1 b' hb']
      have hvt : ∀ a b c : Int, VT s (wu (wu (wu W 96 S a) 97 S b) 98 S c) S := fun a b c S' hS' => by
        have := f3 S' hS'
        rw [wu_ne (show (96 : Int) ≠ 98 by omega), wu_ne (show (96 : Int) ≠ 97 by omega), wu_pl (show (S' : Int) ≠ S by omega), wu_pl (show (S' : Int) ≠ S by omega), wu_ne (show (98 : Int) ≠ 97 by omega), wu_ne (show (98 : Int) ≠ 96 by omega), wu_ne (show (97 : Int) ≠ 98 by omega), wu_pl (show (S' : Int) ≠ S by omega), wu_ne (show (97 : Int) ≠ 96 by omega)]
        exact this
      have h95 : ∀ a b c : Int, wu (wu (wu W 96 S a) 97 S b) 98 S c 94 = W 94 ∧ wu (wu (wu W 96 S a) 97 S b) 98 S c 95 = W 95 := fun a b c => ⟨by rw [wu_ne (by omega), wu_ne (by omega), wu_ne (by omega)], by rw [wu_ne (by omega), wu_ne (by omega), wu_ne (by omega)]⟩
      have h968 : ∀ a b c : Int, IV s (W 94) S 1 a c b → IV s (W 94) S 1 (wu (wu (wu W 96 S a) 97 S b) 98 S c 96 S) (wu (wu (wu W 96 S a) 97 S b) 98 S c 98 S) (wu (wu (wu W 96 S a) 97 S b) 98 S c 97 S) := fun a b c q => by
        rw [wu_ne (show (96 : Int) ≠ 98 by omega), wu_ne (show (96 : Int) ≠ 97 by omega), wu_eq, wu_eq, wu_ne (show (97 : Int) ≠ 98 by omega), wu_eq]
        exact q
      refine gx_iload2 (q := 56) hG d_M_layWins_55 rfl ?_
      refine gx_iconst (q := 57) hG d_M_layWins_56 rfl ?_
      refine gx_aload0 (q := 58) hG d_M_layWins_57 rfl ?_
      refine gx_get (q := 61) hG f_M_210 hpM rfl d_M_layWins_58 rfl ?_
      rw [e28]
      refine gx_ishl (q := 62) hG (((1 <<< GG s : Nat) : Int)) d_M_layWins_61 rfl (i_shl 1 (GG s) (by omega)) ?_
      rw [Nat.one_shiftLeft]
      refine gx_icmp_ge (tgt := 250) (q := 65) hG d_M_layWins_62 rfl rfl (by omega) (by omega) (fun c62 => ?_) (fun c62 => ?_)
      · exfalso; omega
      · refine gx_aload0 (q := 66) hG d_M_layWins_65 rfl ?_
        refine gx_get (q := 69) hG f_M_69 hpM rfl d_M_layWins_66 rfl ?_
        refine gx_iload2 (q := 70) hG d_M_layWins_69 rfl ?_
        refine gx_iconst (q := 71) hG d_M_layWins_70 rfl ?_
        refine gw_zast (q := 72) hG rfl (by omega) (by omega) (by first | decide | omega) d_M_layWins_71 rfl ?_
        refine gx_aload0 (q := 73) hG d_M_layWins_72 rfl ?_
        refine gx_get (q := 76) hG f_M_73 hpM rfl d_M_layWins_73 rfl ?_
        refine gx_iload2 (q := 77) hG d_M_layWins_76 rfl ?_
        refine gx_iload2 (q := 78) hG d_M_layWins_77 rfl ?_
        refine gx_if_ne (tgt := 85) (q := 81) hG d_M_layWins_78 rfl rfl (by omega) (fun c78 => ?_) (fun c78 => ?_)
        · refine gx_iconst (q := 86) hG d_M_layWins_85 rfl ?_
          refine gw_iast (q := 87) hG rfl (by omega) (by omega) d_M_layWins_86 rfl ?_
          refine gx_aload0 (q := 88) hG d_M_layWins_87 rfl ?_
          refine gx_get (q := 91) hG f_M_76 hpM rfl d_M_layWins_88 rfl ?_
          refine gx_iload2 (q := 92) hG d_M_layWins_91 rfl ?_
          refine gx_iload2 (q := 93) hG d_M_layWins_92 rfl ?_
          refine gx_if_ne (tgt := 100) (q := 96) hG d_M_layWins_93 rfl rfl (by omega) (fun c93 => ?_) (fun c93 => ?_)
          · refine gx_ldc (q := 102) hG (99999) k_M_127 d_M_layWins_100 rfl rfl ?_
            refine gw_iast (q := 103) hG rfl (by omega) (by omega) d_M_layWins_102 rfl ?_
            refine gx_iconst (q := 104) hG d_M_layWins_103 rfl ?_
            refine gx_istore3 (q := 105) hG d_M_layWins_104 rfl rfl ?_
            first
              | (rw [if_pos (by omega), if_pos (by omega)] at hin; exact K (GG s - 1) 1 _ o4 (by omega) (by omega) (by omega) g4 (hfr _ _ _) (h95 _ _ _) (hvt _ _ _) (h968 _ _ _ hin))
              | (rw [if_neg (by omega), if_neg (by omega)] at hin; exact K (GG s - 1) 1 _ o4 (by omega) (by omega) (by omega) g4 (hfr _ _ _) (h95 _ _ _) (hvt _ _ _) (h968 _ _ _ hin))
              | (exfalso; omega)
          · refine gx_iconst (q := 97) hG d_M_layWins_96 rfl ?_
            refine gx_goto (tgt := 102) hG d_M_layWins_97 rfl ?_
            refine gw_iast (q := 103) hG rfl (by omega) (by omega) d_M_layWins_102 rfl ?_
            refine gx_iconst (q := 104) hG d_M_layWins_103 rfl ?_
            refine gx_istore3 (q := 105) hG d_M_layWins_104 rfl rfl ?_
            first
              | (rw [if_pos (by omega), if_pos (by omega)] at hin; exact K (GG s - 1) 1 _ o4 (by omega) (by omega) (by omega) g4 (hfr _ _ _) (h95 _ _ _) (hvt _ _ _) (h968 _ _ _ hin))
              | (rw [if_neg (by omega), if_neg (by omega)] at hin; exact K (GG s - 1) 1 _ o4 (by omega) (by omega) (by omega) g4 (hfr _ _ _) (h95 _ _ _) (hvt _ _ _) (h968 _ _ _ hin))
              | (exfalso; omega)
        · refine gx_iconst (q := 82) hG d_M_layWins_81 rfl ?_
          refine gx_goto (tgt := 86) hG d_M_layWins_82 rfl ?_
          refine gw_iast (q := 87) hG rfl (by omega) (by omega) d_M_layWins_86 rfl ?_
          refine gx_aload0 (q := 88) hG d_M_layWins_87 rfl ?_
          refine gx_get (q := 91) hG f_M_76 hpM rfl d_M_layWins_88 rfl ?_
          refine gx_iload2 (q := 92) hG d_M_layWins_91 rfl ?_
          refine gx_iload2 (q := 93) hG d_M_layWins_92 rfl ?_
          refine gx_if_ne (tgt := 100) (q := 96) hG d_M_layWins_93 rfl rfl (by omega) (fun c93 => ?_) (fun c93 => ?_)
          · refine gx_ldc (q := 102) hG (99999) k_M_127 d_M_layWins_100 rfl rfl ?_
            refine gw_iast (q := 103) hG rfl (by omega) (by omega) d_M_layWins_102 rfl ?_
            refine gx_iconst (q := 104) hG d_M_layWins_103 rfl ?_
            refine gx_istore3 (q := 105) hG d_M_layWins_104 rfl rfl ?_
            first
              | (rw [if_pos (by omega), if_pos (by omega)] at hin; exact K (GG s - 1) 1 _ o4 (by omega) (by omega) (by omega) g4 (hfr _ _ _) (h95 _ _ _) (hvt _ _ _) (h968 _ _ _ hin))
              | (rw [if_neg (by omega), if_neg (by omega)] at hin; exact K (GG s - 1) 1 _ o4 (by omega) (by omega) (by omega) g4 (hfr _ _ _) (h95 _ _ _) (hvt _ _ _) (h968 _ _ _ hin))
              | (exfalso; omega)
          · refine gx_iconst (q := 97) hG d_M_layWins_96 rfl ?_
            refine gx_goto (tgt := 102) hG d_M_layWins_97 rfl ?_
            refine gw_iast (q := 103) hG rfl (by omega) (by omega) d_M_layWins_102 rfl ?_
            refine gx_iconst (q := 104) hG d_M_layWins_103 rfl ?_
            refine gx_istore3 (q := 105) hG d_M_layWins_104 rfl rfl ?_
            first
              | (rw [if_pos (by omega), if_pos (by omega)] at hin; exact K (GG s - 1) 1 _ o4 (by omega) (by omega) (by omega) g4 (hfr _ _ _) (h95 _ _ _) (hvt _ _ _) (h968 _ _ _ hin))
              | (rw [if_neg (by omega), if_neg (by omega)] at hin; exact K (GG s - 1) 1 _ o4 (by omega) (by omega) (by omega) g4 (hfr _ _ _) (h95 _ _ _) (hvt _ _ _) (h968 _ _ _ hin))
              | (exfalso; omega)
  -- the gaps laid out
  have hG60 : ((GG s : Nat) : Int) = cn (pS s) 60 := GG_c
  have A : ∀ (j k : Nat) (W : Mem), k + j = 60 → (∀ b, b < 94 ∨ 98 < b → W b = w b) → GO s (W 94) (W 95) k → G 4 [some (Vr 76), some (Vi (cn (pS s) k)), some (Vi ((k : Int) + 1)), none, none] [] 102 (hp W) := by
    intro j
    induction j with
    | zero =>
      intro k W h1 f1 f2
      have hk : k = 60 := by omega
      subst hk
      refine gx_iload2 (q := 5) hG d_M_layWins_4 rfl ?_
      refine gx_bipush (q := 7) hG d_M_layWins_5 rfl rfl ?_
      refine gx_icmp_gt (tgt := 53) (q := 10) hG d_M_layWins_7 rfl rfl (by omega) (by omega) (fun c7 => ?_) (fun c7 => ?_)
      · refine gx_iconst (q := 54) hG d_M_layWins_53 rfl ?_
        refine gx_istore2 (q := 55) hG d_M_layWins_54 rfl rfl ?_
        have e := Z (2 ^ GG s) 0 W none none (by omega) rfl rfl f1 f2 (fun S hS => by omega)
        rw [hG60] at e
        exact e
      · exfalso; omega
    | succ j ih =>
      intro k W h1 f1 f2
      have e83 : W 83 = w 83 := f1 83 (by omega)
      have hv := hT ((k : Int) + 1) (by omega) (by omega)
      have hcn := cn_bd (P := pS s) k
      have cs : cn (pS s) (k + 1) = cn (pS s) k + bi (pS s ((k : Int) + 1)) := rfl
      have hle := cn_le (P := pS s) (show k + 1 ≤ 60 by omega)
      have h60 : cn (pS s) 60 ≤ 14 := hc.2.2
      have ixk := ix_c (s := s) (v := k + 1)
      rw [show k + 1 - 1 = k by omega] at ixk
      have old : ∀ (a b c d : Int) (v : Nat), 1 ≤ v → v ≤ k → ((pS s v → c ≠ (ix s v : Int)) → (pS s v → wu (wu W 95 a b) 94 c d 95 v = (ix s v : Int) ∧ wu (wu W 95 a b) 94 c d 94 (ix s v : Int) = v) ∧ (¬ pS s v → wu (wu W 95 a b) 94 c d 95 v = -1)) ∨ a = v := fun a b c d v v1 v2 => by
        by_cases z : a = v
        · exact Or.inr z
        · left
          intro q
          have := f2 v v1 v2
          refine ⟨fun p => ?_, fun p => ?_⟩
          · rw [wu_ne (show (95 : Int) ≠ 94 by omega), wu_pl (show (v : Int) ≠ a by omega), wu_pl (fun y => q p y.symm), wu_ne (show (94 : Int) ≠ 95 by omega)]
            exact this.1 p
          · rw [wu_ne (show (95 : Int) ≠ 94 by omega), wu_pl (show (v : Int) ≠ a by omega)]
            exact this.2 p
      refine gx_iload2 (q := 5) hG d_M_layWins_4 rfl ?_
      refine gx_bipush (q := 7) hG d_M_layWins_5 rfl rfl ?_
      refine gx_icmp_gt (tgt := 53) (q := 10) hG d_M_layWins_7 rfl rfl (by omega) (by omega) (fun c7 => ?_) (fun c7 => ?_)
      · exfalso; omega
      · refine gx_aload0 (q := 11) hG d_M_layWins_10 rfl ?_
        refine gx_get (q := 14) hG f_M_66 hpM rfl d_M_layWins_11 rfl ?_
        refine gx_iload2 (q := 15) hG d_M_layWins_14 rfl ?_
        refine gx_aload0 (q := 16) hG d_M_layWins_15 rfl ?_
        refine gx_iload2 (q := 17) hG d_M_layWins_16 rfl ?_
        refine gw_V1X (q := 20) hG l_M_135 c_M_isHad (ev_M_isHad (by omega) (by rw [e83]; omega)) hpM rfl (by decide) (Nat.le_of_ble_eq_true rfl) d_M_layWins_17 rfl (by decide) ?_
        rw [e83, propext hv.2]
        refine gx_if_eq (tgt := 27) (q := 23) hG d_M_layWins_20 rfl rfl (bi_R _) (fun c20 => ?_) (fun c20 => ?_)
        · have c20 := bi_eq0.mp c20
          refine gx_iload1 (q := 28) hG d_M_layWins_27 rfl ?_
          refine gw_iast (q := 29) hG rfl (by omega) (by omega) d_M_layWins_28 rfl ?_
          refine gx_aload0 (q := 30) hG d_M_layWins_29 rfl ?_
          refine gx_iload2 (q := 31) hG d_M_layWins_30 rfl ?_
          refine gw_V1X (q := 34) hG l_M_135 c_M_isHad (ev_M_isHad (by omega) (by rw [wu_ne (by omega), e83]; omega)) hpM rfl (by decide) (Nat.le_of_ble_eq_true rfl) d_M_layWins_31 rfl (by decide) ?_
          rw [wu_ne (show (83 : Int) ≠ 95 by omega), e83, propext hv.2]
          refine gx_if_ne (tgt := 47) (q := 37) hG d_M_layWins_34 rfl rfl (bi_R _) (fun c34 => ?_) (fun c34 => ?_)
          · have c34 := bi_ne0.mp c34
            have c9 : ¬ pS s ((k : Int) + 1) := fun q => q c34
            rw [bi_f c9, Int.add_zero] at cs
            refine gx_iinc2 (q := 50) hG d_M_layWins_47 rfl rfl ?_
            refine gx_goto (tgt := 4) hG d_M_layWins_50 rfl ?_
            first
              | exact absurd c34 c20
              | exact absurd c20 c34
              | (skip
                 have e := ih (k + 1) (wu (wu W 95 ((k : Int) + 1) (cn (pS s) k)) 94 (cn (pS s) k) ((k : Int) + 1)) (by omega) (fun b hb => by rw [wu_ne (by omega), wu_ne (by omega), f1 b hb]) (fun v v1 v2 => by
                   by_cases z : v = k + 1
                   · subst z
                     refine ⟨fun _ => ?_, fun p => absurd c9 p⟩
                     rw [wu_ne (show (95 : Int) ≠ 94 by omega), ixk]
                     exact ⟨wu_eq, wu_eq⟩
                   · rcases old ((k : Int) + 1) (cn (pS s) k) (cn (pS s) k) ((k : Int) + 1) v v1 (by omega) with q | q
                     · exact q (fun p => by have := ix_mono v1 (show v < k + 1 by omega) p; omega)
                     · omega)
                 rw [cs] at e
                 exact e)
              | (skip
                 have e := ih (k + 1) (wu W 95 ((k : Int) + 1) (-1)) (by omega) (fun b hb => by rw [wu_ne (by omega), f1 b hb]) (fun v v1 v2 => by
                   by_cases z : v = k + 1
                   · subst z
                     exact ⟨fun p => absurd p c9, fun _ => wu_eq⟩
                   · have := f2 v v1 (by omega)
                     refine ⟨fun p => ?_, fun p => ?_⟩
                     · rw [wu_pl (show (v : Int) ≠ (k : Int) + 1 by omega), wu_ne (show (94 : Int) ≠ 95 by omega)]
                       exact this.1 p
                     · rw [wu_pl (show (v : Int) ≠ (k : Int) + 1 by omega)]
                       exact this.2 p)
                 rw [cs] at e
                 exact e)
          · have c34 := bi_eq0.mp c34
            have c9 : pS s ((k : Int) + 1) := c34
            rw [bi_t c9] at cs
            refine gx_aload0 (q := 38) hG d_M_layWins_37 rfl ?_
            refine gx_get (q := 41) hG f_M_63 hpM rfl d_M_layWins_38 rfl ?_
            refine gx_iload1 (q := 42) hG d_M_layWins_41 rfl ?_
            refine gx_iload2 (q := 43) hG d_M_layWins_42 rfl ?_
            refine gw_iast (q := 44) hG rfl (by omega) (by omega) d_M_layWins_43 rfl ?_
            refine gx_iinc1 (q := 47) hG d_M_layWins_44 rfl rfl ?_
            refine gx_iinc2 (q := 50) hG d_M_layWins_47 rfl rfl ?_
            refine gx_goto (tgt := 4) hG d_M_layWins_50 rfl ?_
            first
              | exact absurd c34 c20
              | exact absurd c20 c34
              | (skip
                 have e := ih (k + 1) (wu (wu W 95 ((k : Int) + 1) (cn (pS s) k)) 94 (cn (pS s) k) ((k : Int) + 1)) (by omega) (fun b hb => by rw [wu_ne (by omega), wu_ne (by omega), f1 b hb]) (fun v v1 v2 => by
                   by_cases z : v = k + 1
                   · subst z
                     refine ⟨fun _ => ?_, fun p => absurd c9 p⟩
                     rw [wu_ne (show (95 : Int) ≠ 94 by omega), ixk]
                     exact ⟨wu_eq, wu_eq⟩
                   · rcases old ((k : Int) + 1) (cn (pS s) k) (cn (pS s) k) ((k : Int) + 1) v v1 (by omega) with q | q
                     · exact q (fun p => by have := ix_mono v1 (show v < k + 1 by omega) p; omega)
                     · omega)
                 rw [cs] at e
                 exact e)
              | (skip
                 have e := ih (k + 1) (wu W 95 ((k : Int) + 1) (-1)) (by omega) (fun b hb => by rw [wu_ne (by omega), f1 b hb]) (fun v v1 v2 => by
                   by_cases z : v = k + 1
                   · subst z
                     exact ⟨fun p => absurd p c9, fun _ => wu_eq⟩
                   · have := f2 v v1 (by omega)
                     refine ⟨fun p => ?_, fun p => ?_⟩
                     · rw [wu_pl (show (v : Int) ≠ (k : Int) + 1 by omega), wu_ne (show (94 : Int) ≠ 95 by omega)]
                       exact this.1 p
                     · rw [wu_pl (show (v : Int) ≠ (k : Int) + 1 by omega)]
                       exact this.2 p)
                 rw [cs] at e
                 exact e)
        · have c20 := bi_ne0.mp c20
          refine gx_iconst (q := 24) hG d_M_layWins_23 rfl ?_
          refine gx_goto (tgt := 28) hG d_M_layWins_24 rfl ?_
          refine gw_iast (q := 29) hG rfl (by omega) (by omega) d_M_layWins_28 rfl ?_
          refine gx_aload0 (q := 30) hG d_M_layWins_29 rfl ?_
          refine gx_iload2 (q := 31) hG d_M_layWins_30 rfl ?_
          refine gw_V1X (q := 34) hG l_M_135 c_M_isHad (ev_M_isHad (by omega) (by rw [wu_ne (by omega), e83]; omega)) hpM rfl (by decide) (Nat.le_of_ble_eq_true rfl) d_M_layWins_31 rfl (by decide) ?_
          rw [wu_ne (show (83 : Int) ≠ 95 by omega), e83, propext hv.2]
          refine gx_if_ne (tgt := 47) (q := 37) hG d_M_layWins_34 rfl rfl (bi_R _) (fun c34 => ?_) (fun c34 => ?_)
          · have c34 := bi_ne0.mp c34
            have c9 : ¬ pS s ((k : Int) + 1) := fun q => q c34
            rw [bi_f c9, Int.add_zero] at cs
            refine gx_iinc2 (q := 50) hG d_M_layWins_47 rfl rfl ?_
            refine gx_goto (tgt := 4) hG d_M_layWins_50 rfl ?_
            first
              | exact absurd c34 c20
              | exact absurd c20 c34
              | (skip
                 have e := ih (k + 1) (wu (wu W 95 ((k : Int) + 1) (cn (pS s) k)) 94 (cn (pS s) k) ((k : Int) + 1)) (by omega) (fun b hb => by rw [wu_ne (by omega), wu_ne (by omega), f1 b hb]) (fun v v1 v2 => by
                   by_cases z : v = k + 1
                   · subst z
                     refine ⟨fun _ => ?_, fun p => absurd c9 p⟩
                     rw [wu_ne (show (95 : Int) ≠ 94 by omega), ixk]
                     exact ⟨wu_eq, wu_eq⟩
                   · rcases old ((k : Int) + 1) (cn (pS s) k) (cn (pS s) k) ((k : Int) + 1) v v1 (by omega) with q | q
                     · exact q (fun p => by have := ix_mono v1 (show v < k + 1 by omega) p; omega)
                     · omega)
                 rw [cs] at e
                 exact e)
              | (skip
                 have e := ih (k + 1) (wu W 95 ((k : Int) + 1) (-1)) (by omega) (fun b hb => by rw [wu_ne (by omega), f1 b hb]) (fun v v1 v2 => by
                   by_cases z : v = k + 1
                   · subst z
                     exact ⟨fun p => absurd p c9, fun _ => wu_eq⟩
                   · have := f2 v v1 (by omega)
                     refine ⟨fun p => ?_, fun p => ?_⟩
                     · rw [wu_pl (show (v : Int) ≠ (k : Int) + 1 by omega), wu_ne (show (94 : Int) ≠ 95 by omega)]
                       exact this.1 p
                     · rw [wu_pl (show (v : Int) ≠ (k : Int) + 1 by omega)]
                       exact this.2 p)
                 rw [cs] at e
                 exact e)
          · have c34 := bi_eq0.mp c34
            have c9 : pS s ((k : Int) + 1) := c34
            rw [bi_t c9] at cs
            refine gx_aload0 (q := 38) hG d_M_layWins_37 rfl ?_
            refine gx_get (q := 41) hG f_M_63 hpM rfl d_M_layWins_38 rfl ?_
            refine gx_iload1 (q := 42) hG d_M_layWins_41 rfl ?_
            refine gx_iload2 (q := 43) hG d_M_layWins_42 rfl ?_
            refine gw_iast (q := 44) hG rfl (by omega) (by omega) d_M_layWins_43 rfl ?_
            refine gx_iinc1 (q := 47) hG d_M_layWins_44 rfl rfl ?_
            refine gx_iinc2 (q := 50) hG d_M_layWins_47 rfl rfl ?_
            refine gx_goto (tgt := 4) hG d_M_layWins_50 rfl ?_
            first
              | exact absurd c34 c20
              | exact absurd c20 c34
              | (skip
                 have e := ih (k + 1) (wu (wu W 95 ((k : Int) + 1) (cn (pS s) k)) 94 (cn (pS s) k) ((k : Int) + 1)) (by omega) (fun b hb => by rw [wu_ne (by omega), wu_ne (by omega), f1 b hb]) (fun v v1 v2 => by
                   by_cases z : v = k + 1
                   · subst z
                     refine ⟨fun _ => ?_, fun p => absurd c9 p⟩
                     rw [wu_ne (show (95 : Int) ≠ 94 by omega), ixk]
                     exact ⟨wu_eq, wu_eq⟩
                   · rcases old ((k : Int) + 1) (cn (pS s) k) (cn (pS s) k) ((k : Int) + 1) v v1 (by omega) with q | q
                     · exact q (fun p => by have := ix_mono v1 (show v < k + 1 by omega) p; omega)
                     · omega)
                 rw [cs] at e
                 exact e)
              | (skip
                 have e := ih (k + 1) (wu W 95 ((k : Int) + 1) (-1)) (by omega) (fun b hb => by rw [wu_ne (by omega), f1 b hb]) (fun v v1 v2 => by
                   by_cases z : v = k + 1
                   · subst z
                     exact ⟨fun p => absurd p c9, fun _ => wu_eq⟩
                   · have := f2 v v1 (by omega)
                     refine ⟨fun p => ?_, fun p => ?_⟩
                     · rw [wu_pl (show (v : Int) ≠ (k : Int) + 1 by omega), wu_ne (show (94 : Int) ≠ 95 by omega)]
                       exact this.1 p
                     · rw [wu_pl (show (v : Int) ≠ (k : Int) + 1 by omega)]
                       exact this.2 p)
                 rw [cs] at e
                 exact e)
  refine gx_iconst (q := 1) hG d_M_layWins_0 rfl ?_
  refine gx_istore1 (q := 2) hG d_M_layWins_1 rfl rfl ?_
  refine gx_iconst (q := 3) hG d_M_layWins_2 rfl ?_
  refine gx_istore2 (q := 4) hG d_M_layWins_3 rfl rfl ?_
  exact A 60 0 w (by omega) (fun _ _ => rfl) (fun v v1 v2 => by omega)

