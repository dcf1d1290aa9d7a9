/-! part 89: the class's constructor -/
def w0 : Mem := fun a => if (50 ≤ a ∧ a < 70) ∧ a % 2 = 0 then (fun i => if i = 1 then -1 else 0) else if a = 3 ∨ a = 16 ∨ ((70 ≤ a ∧ a < 76) ∧ a % 2 = 0) then (fun i => if i = 3 then 1 else 0) else if a = 0 then (fun i => if i = 13 then 1 else 0) else if a = 76 then (fun i => if i = 4 then 1 else 0) else if a = 78 ∨ a = 81 ∨ a = 88 then (fun _ => -1) else fun _ => 0
def agr (c c' : Option AE) : Prop := c = c' ∨ ∃ (t N : Nat) (F F' : Int → Int), c = cA t N F ∧ c' = cA t N F' ∧ ∀ i : Int, 0 ≤ i → i < N → F i = F' i
theorem ev_X_init : Ev y_X_init b_X_init 2 none 10 75 [Vr 0] 1 (hset (fun _ => none) 0 (cO 0 [.null, .null, .null, .null, .null, .null, .null, Vi 0, .null, .null, .null, Vi 0, Vj 0, Vj 0, Vi 0, .null])) (fun v h' => v = none ∧ ∀ k : Nat, k < 76 → agr (h' k) (hp w0 k)) := by
  refine Ev.mk (isI := true) (by decide +kernel) (fun _ => rfl) (Nat.le_of_ble_eq_true rfl) (fun G hG => ?_)
  show G 0 [some (Vr 0), none] [] 1 _
  refine gx_aload0 (q := 1) hG d_X_init_0 rfl ?_
  refine gx_objinit (q := 4) hG l_X_1 (by decide) w_ob (by decide) (by decide) d_X_init_1 rfl ?_
  refine gx_aload0 (q := 5) hG d_X_init_4 rfl ?_
  refine gx_bipush (q := 7) hG d_X_init_5 rfl rfl ?_
  refine gx_anew (q := 10) (t := 4) (N := 6) hG (by decide) rfl t_X_9 ao_Rw (by decide) (Nat.le_of_ble_eq_true rfl) d_X_init_7 rfl ?_
  refine gx_put (q := 13) (k := 0) (fs := [.null, .null, .null, .null, .null, .null, .null, Vi 0, .null, .null, .null, Vi 0, Vj 0, Vj 0, Vi 0, .null]) hG f_X_11 rfl (Nat.le_of_ble_eq_true rfl) vfit_a (Or.inr rfl) d_X_init_10 rfl ?_
  refine gx_aload0 (q := 14) hG d_X_init_13 rfl ?_
  refine gx_iconst (q := 15) hG d_X_init_14 rfl ?_
  refine gx_anew (q := 18) (t := 4) (N := 4) hG (by decide) rfl t_X_9 ao_Rw (by decide) (Nat.le_of_ble_eq_true rfl) d_X_init_15 rfl ?_
  refine gx_put (q := 21) (k := 1) (fs := [Vr 1, .null, .null, .null, .null, .null, .null, Vi 0, .null, .null, .null, Vi 0, Vj 0, Vj 0, Vi 0, .null]) hG f_X_15 rfl (Nat.le_of_ble_eq_true rfl) vfit_a (Or.inr rfl) d_X_init_18 rfl ?_
  refine gx_aload0 (q := 22) hG d_X_init_21 rfl ?_
  refine gx_new (q := 25) hG a_X_18 (Nat.le_of_ble_eq_true rfl) d_X_init_22 rfl ?_
  refine gx_dupa (q := 26) hG d_X_init_25 rfl ?_
  refine gx_callIN (rt' := none) (As := []) (q := 29) hG n_X_20 i_Gm_init rfl c_Gm_init (ev_Gm_init hset_eq (by constructor <;> decide)) hset_eq (by decide) (Nat.le_of_ble_eq_true rfl) (Nat.le_of_ble_eq_true rfl) rfl d_X_init_26 rfl (fun v14 h14 z14 => ?_)
  obtain ⟨rfl, rfl⟩ := z14
  refine gx_put (q := 32) (k := 2) (fs := [Vr 1, Vr 2, .null, .null, .null, .null, .null, Vi 0, .null, .null, .null, Vi 0, Vj 0, Vj 0, Vi 0, .null]) hG f_X_21 rfl (Nat.le_of_ble_eq_true rfl) vfit_o (Or.inr rfl) d_X_init_29 rfl ?_
  refine gx_aload0 (q := 33) hG d_X_init_32 rfl ?_
  refine gx_iconst (q := 34) hG d_X_init_33 rfl ?_
  refine gx_anew (q := 37) (t := 5) (N := 3) hG (by decide) rfl t_X_18 ao_Gm (by decide) (Nat.le_of_ble_eq_true rfl) d_X_init_34 rfl ?_
  refine gx_put (q := 40) (k := 3) (fs := [Vr 1, Vr 2, Vr 3, .null, .null, .null, .null, Vi 0, .null, .null, .null, Vi 0, Vj 0, Vj 0, Vi 0, .null]) hG f_X_25 rfl (Nat.le_of_ble_eq_true rfl) vfit_a (Or.inr rfl) d_X_init_37 rfl ?_
  refine gx_aload0 (q := 41) hG d_X_init_40 rfl ?_
  refine gx_iconst (q := 42) hG d_X_init_41 rfl ?_
  refine gx_newa (q := 44) (t := 3) (N := 3) hG (by decide) rfl ac_boolean (by decide) (Nat.le_of_ble_eq_true rfl) d_X_init_42 rfl ?_
  refine gx_put (q := 47) (k := 4) (fs := [Vr 1, Vr 2, Vr 3, Vr 5, .null, .null, .null, Vi 0, .null, .null, .null, Vi 0, Vj 0, Vj 0, Vi 0, .null]) hG f_X_29 rfl (Nat.le_of_ble_eq_true rfl) vfit_a (Or.inr rfl) d_X_init_44 rfl ?_
  refine gx_aload0 (q := 48) hG d_X_init_47 rfl ?_
  refine gx_bipush (q := 50) hG d_X_init_48 rfl rfl ?_
  refine gx_anew (q := 53) (t := 6) (N := 6) hG (by decide) rfl t_X_33 ao_Pl (by decide) (Nat.le_of_ble_eq_true rfl) d_X_init_50 rfl ?_
  refine gx_dupa (q := 54) hG d_X_init_53 rfl ?_
  refine gx_iconst (q := 55) hG d_X_init_54 rfl ?_
  refine gx_new (q := 58) hG a_X_33 (Nat.le_of_ble_eq_true rfl) d_X_init_55 rfl ?_
  refine gx_dupa (q := 59) hG d_X_init_58 rfl ?_
  refine gx_callIN (rt' := none) (As := []) (q := 62) hG n_X_35 i_Pl_init rfl c_Pl_init (ev_Pl_init (by decide)) hset_eq (by decide) (Nat.le_of_ble_eq_true rfl) (Nat.le_of_ble_eq_true rfl) rfl d_X_init_59 rfl (fun v31 h31 z31 => ?_)
  obtain ⟨rfl, rfl⟩ := z31
  refine gx_aast (q := 63) (t := 6) (N := 6) (F := (fun _ => -1)) (fs := []) hG rfl (by decide) rfl rfl rfl (Or.inl rfl) (by decide) (by decide) (by decide) d_X_init_62 rfl ?_
  refine gx_dupa (q := 64) hG d_X_init_63 rfl ?_
  refine gx_iconst (q := 65) hG d_X_init_64 rfl ?_
  refine gx_new (q := 68) hG a_X_36 (Nat.le_of_ble_eq_true rfl) d_X_init_65 rfl ?_
  refine gx_dupa (q := 69) hG d_X_init_68 rfl ?_
  refine gx_callIN (rt' := none) (As := []) (q := 72) hG n_X_38 i_Sm_init rfl c_Sm_init (ev_Sm_init (by decide) hset_eq) hset_eq (by decide) (Nat.le_of_ble_eq_true rfl) (Nat.le_of_ble_eq_true rfl) rfl d_X_init_69 rfl (fun v37 h37 z37 => ?_)
  obtain ⟨rfl, rfl⟩ := z37
  refine gx_aast (q := 73) (t := 6) (N := 6) (F := (up (fun _ => -1) 0 8)) (fs := []) hG rfl (by decide) rfl rfl rfl (Or.inr ca_Sm_Pl) (by decide) (by decide) (by decide) d_X_init_72 rfl ?_
  refine gx_dupa (q := 74) hG d_X_init_73 rfl ?_
  refine gx_iconst (q := 75) hG d_X_init_74 rfl ?_
  refine gx_new (q := 78) hG a_X_39 (Nat.le_of_ble_eq_true rfl) d_X_init_75 rfl ?_
  refine gx_dupa (q := 79) hG d_X_init_78 rfl ?_
  refine gx_callIN (rt' := none) (As := []) (q := 82) hG n_X_41 i_Pr_init rfl c_Pr_init (ev_Pr_init (by decide) hset_eq) hset_eq (by decide) (Nat.le_of_ble_eq_true rfl) (Nat.le_of_ble_eq_true rfl) rfl d_X_init_79 rfl (fun v43 h43 z43 => ?_)
  obtain ⟨rfl, rfl⟩ := z43
  refine gx_aast (q := 83) (t := 6) (N := 6) (F := (up (up (fun _ => -1) 0 8) 1 9)) (fs := []) hG rfl (by decide) rfl rfl rfl (Or.inr ca_Pr_Pl) (by decide) (by decide) (by decide) d_X_init_82 rfl ?_
  refine gx_dupa (q := 84) hG d_X_init_83 rfl ?_
  refine gx_iconst (q := 85) hG d_X_init_84 rfl ?_
  refine gx_new (q := 88) hG a_X_42 (Nat.le_of_ble_eq_true rfl) d_X_init_85 rfl ?_
  refine gx_dupa (q := 89) hG d_X_init_88 rfl ?_
  refine gx_callIN (rt' := none) (As := []) (q := 92) hG n_X_44 i_Bs_init rfl c_Bs_init (ev_Bs_init (by decide) hset_eq) hset_eq (by decide) (Nat.le_of_ble_eq_true rfl) (Nat.le_of_ble_eq_true rfl) rfl d_X_init_89 rfl (fun v49 h49 z49 => ?_)
  obtain ⟨rfl, rfl⟩ := z49
  refine gx_aast (q := 93) (t := 6) (N := 6) (F := (up (up (up (fun _ => -1) 0 8) 1 9) 2 10)) (fs := []) hG rfl (by decide) rfl rfl rfl (Or.inr ca_Bs_Pl) (by decide) (by decide) (by decide) d_X_init_92 rfl ?_
  refine gx_dupa (q := 94) hG d_X_init_93 rfl ?_
  refine gx_iconst (q := 95) hG d_X_init_94 rfl ?_
  refine gx_new (q := 98) hG a_X_45 (Nat.le_of_ble_eq_true rfl) d_X_init_95 rfl ?_
  refine gx_dupa (q := 99) hG d_X_init_98 rfl ?_
  refine gx_callIN (rt' := none) (As := []) (q := 102) hG n_X_47 i_Lo_init rfl c_Lo_init (ev_Lo_init (by decide) hset_eq) hset_eq (by decide) (Nat.le_of_ble_eq_true rfl) (Nat.le_of_ble_eq_true rfl) rfl d_X_init_99 rfl (fun v55 h55 z55 => ?_)
  obtain ⟨rfl, rfl⟩ := z55
  refine gx_aast (q := 103) (t := 6) (N := 6) (F := (up (up (up (up (fun _ => -1) 0 8) 1 9) 2 10) 3 11)) (fs := []) hG rfl (by decide) rfl rfl rfl (Or.inr ca_Lo_Pl) (by decide) (by decide) (by decide) d_X_init_102 rfl ?_
  refine gx_dupa (q := 104) hG d_X_init_103 rfl ?_
  refine gx_iconst (q := 105) hG d_X_init_104 rfl ?_
  refine gx_new (q := 108) hG a_X_48 (Nat.le_of_ble_eq_true rfl) d_X_init_105 rfl ?_
  refine gx_dupa (q := 109) hG d_X_init_108 rfl ?_
  refine gx_callIN (rt' := none) (As := []) (q := 112) hG n_X_50 i_Ch_init rfl c_Ch_init (ev_Ch_init (by decide) hset_eq) hset_eq (by decide) (Nat.le_of_ble_eq_true rfl) (Nat.le_of_ble_eq_true rfl) rfl d_X_init_109 rfl (fun v61 h61 z61 => ?_)
  obtain ⟨rfl, rfl⟩ := z61
  refine gx_aast (q := 113) (t := 6) (N := 6) (F := (up (up (up (up (up (fun _ => -1) 0 8) 1 9) 2 10) 3 11) 4 12)) (fs := []) hG rfl (by decide) rfl rfl rfl (Or.inr ca_Ch_Pl) (by decide) (by decide) (by decide) d_X_init_112 rfl ?_
  refine gx_put (q := 116) (k := 5) (fs := [Vr 1, Vr 2, Vr 3, Vr 5, Vr 6, .null, .null, Vi 0, .null, .null, .null, Vi 0, Vj 0, Vj 0, Vi 0, .null]) hG f_X_51 rfl (Nat.le_of_ble_eq_true rfl) vfit_a (Or.inr rfl) d_X_init_113 rfl ?_
  refine gx_aload0 (q := 117) hG d_X_init_116 rfl ?_
  refine gx_iconst (q := 118) hG d_X_init_117 rfl ?_
  refine gx_newa (q := 120) (t := 0) (N := 2) hG (by decide) rfl ac_int (by decide) (Nat.le_of_ble_eq_true rfl) d_X_init_118 rfl ?_
  refine gx_put (q := 123) (k := 6) (fs := [Vr 1, Vr 2, Vr 3, Vr 5, Vr 6, Vr 7, .null, Vi 0, .null, .null, .null, Vi 0, Vj 0, Vj 0, Vi 0, .null]) hG f_X_55 rfl (Nat.le_of_ble_eq_true rfl) vfit_a (Or.inr rfl) d_X_init_120 rfl ?_
  refine gx_aload0 (q := 124) hG d_X_init_123 rfl ?_
  refine gx_new (q := 127) hG a_X_59 (Nat.le_of_ble_eq_true rfl) d_X_init_124 rfl ?_
  refine gx_dupa (q := 128) hG d_X_init_127 rfl ?_
  refine gx_callIN (rt' := none) (As := []) (q := 131) hG n_X_61 i_Rd_init rfl c_Rd_init (ev_Rd_init hset_eq (by constructor <;> decide)) hset_eq (by decide) (Nat.le_of_ble_eq_true rfl) (Nat.le_of_ble_eq_true rfl) rfl d_X_init_128 rfl (fun v71 h71 z71 => ?_)
  obtain ⟨rfl, rfl⟩ := z71
  refine gx_put (q := 134) (k := 8) (fs := [Vr 1, Vr 2, Vr 3, Vr 5, Vr 6, Vr 7, Vr 14, Vi 0, .null, .null, .null, Vi 0, Vj 0, Vj 0, Vi 0, .null]) hG f_X_62 rfl (Nat.le_of_ble_eq_true rfl) vfit_o (Or.inr rfl) d_X_init_131 rfl ?_
  refine gx_aload0 (q := 135) hG d_X_init_134 rfl ?_
  refine gx_new (q := 138) hG a_X_66 (Nat.le_of_ble_eq_true rfl) d_X_init_135 rfl ?_
  refine gx_dupa (q := 139) hG d_X_init_138 rfl ?_
  refine gx_callIN (rt' := none) (As := []) (q := 142) hG n_X_68 i_Su_init rfl c_Su_init (ev_Su_init hset_eq (by constructor <;> decide)) hset_eq (by decide) (Nat.le_of_ble_eq_true rfl) (Nat.le_of_ble_eq_true rfl) rfl d_X_init_139 rfl (fun v76 h76 z76 => ?_)
  obtain ⟨rfl, rfl⟩ := z76
  refine gx_put (q := 145) (k := 9) (fs := [Vr 1, Vr 2, Vr 3, Vr 5, Vr 6, Vr 7, Vr 14, Vi 0, Vr 15, .null, .null, Vi 0, Vj 0, Vj 0, Vi 0, .null]) hG f_X_69 rfl (Nat.le_of_ble_eq_true rfl) vfit_o (Or.inr rfl) d_X_init_142 rfl ?_
  refine gx_aload0 (q := 146) hG d_X_init_145 rfl ?_
  refine gx_new (q := 149) hG a_X_73 (Nat.le_of_ble_eq_true rfl) d_X_init_146 rfl ?_
  refine gx_dupa (q := 150) hG d_X_init_149 rfl ?_
  refine gx_callIN (rt' := none) (As := []) (q := 153) hG n_X_75 i_So_init rfl c_So_init (ev_So_init hset_eq (by constructor <;> decide)) hset_eq (by decide) (Nat.le_of_ble_eq_true rfl) (Nat.le_of_ble_eq_true rfl) rfl d_X_init_150 rfl (fun v81 h81 z81 => ?_)
  obtain ⟨rfl, rfl⟩ := z81
  refine gx_put (q := 156) (k := 10) (fs := [Vr 1, Vr 2, Vr 3, Vr 5, Vr 6, Vr 7, Vr 14, Vi 0, Vr 15, Vr 19, .null, Vi 0, Vj 0, Vj 0, Vi 0, .null]) hG f_X_76 rfl (Nat.le_of_ble_eq_true rfl) vfit_o (Or.inr rfl) d_X_init_153 rfl ?_
  refine gx_aload0 (q := 157) hG d_X_init_156 rfl ?_
  refine gx_lconst (q := 158) hG 1 d_X_init_157 rfl rfl ?_
  refine gx_put (q := 161) (k := 13) (fs := [Vr 1, Vr 2, Vr 3, Vr 5, Vr 6, Vr 7, Vr 14, Vi 0, Vr 15, Vr 19, Vr 46, Vi 0, Vj 0, Vj 0, Vi 0, .null]) hG f_X_80 rfl (Nat.le_of_ble_eq_true rfl) vfit_l (Or.inr rfl) d_X_init_158 rfl ?_
  refine gx_aload0 (q := 162) hG d_X_init_161 rfl ?_
  refine gx_bipush (q := 164) hG d_X_init_162 rfl rfl ?_
  refine gx_newa (q := 166) (t := 0) (N := 6) hG (by decide) rfl ac_int (by decide) (Nat.le_of_ble_eq_true rfl) d_X_init_164 rfl ?_
  refine gx_put (q := 169) (k := 15) (fs := [Vr 1, Vr 2, Vr 3, Vr 5, Vr 6, Vr 7, Vr 14, Vi 0, Vr 15, Vr 19, Vr 46, Vi 0, Vj 0, Vj 1, Vi 0, .null]) hG f_X_84 rfl (Nat.le_of_ble_eq_true rfl) vfit_a (Or.inr rfl) d_X_init_166 rfl ?_
  refine gx_iconst (q := 170) hG d_X_init_169 rfl ?_
  refine gx_istore1 (q := 171) hG d_X_init_170 rfl rfl ?_
  refine gx_iload1 (q := 172) hG d_X_init_171 rfl ?_
  refine gx_bipush (q := 174) hG d_X_init_172 rfl rfl ?_
  refine gx_icmp_ge (tgt := 196) (q := 177) hG d_X_init_174 rfl rfl (by decide) (by decide) (fun c => absurd c (by decide)) (fun _ => ?_)
  refine gx_aload0 (q := 178) hG d_X_init_177 rfl ?_
  refine gx_get (q := 181) (fs := [Vr 1, Vr 2, Vr 3, Vr 5, Vr 6, Vr 7, Vr 14, Vi 0, Vr 15, Vr 19, Vr 46, Vi 0, Vj 0, Vj 1, Vi 0, Vr 49]) hG f_X_11 rfl rfl d_X_init_178 rfl ?_
  refine gx_iload1 (q := 182) hG d_X_init_181 rfl ?_
  refine gx_new (q := 185) hG a_X_9 (Nat.le_of_ble_eq_true rfl) d_X_init_182 rfl ?_
  refine gx_dupa (q := 186) hG d_X_init_185 rfl ?_
  refine gx_callIN (rt' := none) (As := []) (q := 189) hG n_X_87 i_Rw_init rfl c_Rw_init (ev_Rw_init hset_eq (by constructor <;> decide)) hset_eq (by decide) (Nat.le_of_ble_eq_true rfl) (Nat.le_of_ble_eq_true rfl) rfl d_X_init_186 rfl (fun v100 h100 z100 => ?_)
  obtain ⟨rfl, rfl⟩ := z100
  refine gx_aast (q := 190) (t := 4) (N := 6) (F := (fun _ => -1)) (fs := [Vr 51, Vi (-1)]) hG rfl (by decide) rfl rfl rfl (Or.inl rfl) (by decide) (by decide) (by decide) d_X_init_189 rfl ?_
  refine gx_iinc1 (q := 193) hG d_X_init_190 rfl rfl ?_
  refine gx_goto (tgt := 171) hG d_X_init_193 rfl ?_
  refine gx_iload1 (q := 172) hG d_X_init_171 rfl ?_
  refine gx_bipush (q := 174) hG d_X_init_172 rfl rfl ?_
  refine gx_icmp_ge (tgt := 196) (q := 177) hG d_X_init_174 rfl rfl (by decide) (by decide) (fun c => absurd c (by decide)) (fun _ => ?_)
  refine gx_aload0 (q := 178) hG d_X_init_177 rfl ?_
  refine gx_get (q := 181) (fs := [Vr 1, Vr 2, Vr 3, Vr 5, Vr 6, Vr 7, Vr 14, Vi 0, Vr 15, Vr 19, Vr 46, Vi 0, Vj 0, Vj 1, Vi 0, Vr 49]) hG f_X_11 rfl rfl d_X_init_178 rfl ?_
  refine gx_iload1 (q := 182) hG d_X_init_181 rfl ?_
  refine gx_new (q := 185) hG a_X_9 (Nat.le_of_ble_eq_true rfl) d_X_init_182 rfl ?_
  refine gx_dupa (q := 186) hG d_X_init_185 rfl ?_
  refine gx_callIN (rt' := none) (As := []) (q := 189) hG n_X_87 i_Rw_init rfl c_Rw_init (ev_Rw_init hset_eq (by constructor <;> decide)) hset_eq (by decide) (Nat.le_of_ble_eq_true rfl) (Nat.le_of_ble_eq_true rfl) rfl d_X_init_186 rfl (fun v112 h112 z112 => ?_)
  obtain ⟨rfl, rfl⟩ := z112
  refine gx_aast (q := 190) (t := 4) (N := 6) (F := (up (fun _ => -1) 0 50)) (fs := [Vr 53, Vi (-1)]) hG rfl (by decide) rfl rfl rfl (Or.inl rfl) (by decide) (by decide) (by decide) d_X_init_189 rfl ?_
  refine gx_iinc1 (q := 193) hG d_X_init_190 rfl rfl ?_
  refine gx_goto (tgt := 171) hG d_X_init_193 rfl ?_
  refine gx_iload1 (q := 172) hG d_X_init_171 rfl ?_
  refine gx_bipush (q := 174) hG d_X_init_172 rfl rfl ?_
  refine gx_icmp_ge (tgt := 196) (q := 177) hG d_X_init_174 rfl rfl (by decide) (by decide) (fun c => absurd c (by decide)) (fun _ => ?_)
  refine gx_aload0 (q := 178) hG d_X_init_177 rfl ?_
  refine gx_get (q := 181) (fs := [Vr 1, Vr 2, Vr 3, Vr 5, Vr 6, Vr 7, Vr 14, Vi 0, Vr 15, Vr 19, Vr 46, Vi 0, Vj 0, Vj 1, Vi 0, Vr 49]) hG f_X_11 rfl rfl d_X_init_178 rfl ?_
  refine gx_iload1 (q := 182) hG d_X_init_181 rfl ?_
  refine gx_new (q := 185) hG a_X_9 (Nat.le_of_ble_eq_true rfl) d_X_init_182 rfl ?_
  refine gx_dupa (q := 186) hG d_X_init_185 rfl ?_
  refine gx_callIN (rt' := none) (As := []) (q := 189) hG n_X_87 i_Rw_init rfl c_Rw_init (ev_Rw_init hset_eq (by constructor <;> decide)) hset_eq (by decide) (Nat.le_of_ble_eq_true rfl) (Nat.le_of_ble_eq_true rfl) rfl d_X_init_186 rfl (fun v124 h124 z124 => ?_)
  obtain ⟨rfl, rfl⟩ := z124
  refine gx_aast (q := 190) (t := 4) (N := 6) (F := (up (up (fun _ => -1) 0 50) 1 52)) (fs := [Vr 55, Vi (-1)]) hG rfl (by decide) rfl rfl rfl (Or.inl rfl) (by decide) (by decide) (by decide) d_X_init_189 rfl ?_
  refine gx_iinc1 (q := 193) hG d_X_init_190 rfl rfl ?_
  refine gx_goto (tgt := 171) hG d_X_init_193 rfl ?_
  refine gx_iload1 (q := 172) hG d_X_init_171 rfl ?_
  refine gx_bipush (q := 174) hG d_X_init_172 rfl rfl ?_
  refine gx_icmp_ge (tgt := 196) (q := 177) hG d_X_init_174 rfl rfl (by decide) (by decide) (fun c => absurd c (by decide)) (fun _ => ?_)
  refine gx_aload0 (q := 178) hG d_X_init_177 rfl ?_
  refine gx_get (q := 181) (fs := [Vr 1, Vr 2, Vr 3, Vr 5, Vr 6, Vr 7, Vr 14, Vi 0, Vr 15, Vr 19, Vr 46, Vi 0, Vj 0, Vj 1, Vi 0, Vr 49]) hG f_X_11 rfl rfl d_X_init_178 rfl ?_
  refine gx_iload1 (q := 182) hG d_X_init_181 rfl ?_
  refine gx_new (q := 185) hG a_X_9 (Nat.le_of_ble_eq_true rfl) d_X_init_182 rfl ?_
  refine gx_dupa (q := 186) hG d_X_init_185 rfl ?_
  refine gx_callIN (rt' := none) (As := []) (q := 189) hG n_X_87 i_Rw_init rfl c_Rw_init (ev_Rw_init hset_eq (by constructor <;> decide)) hset_eq (by decide) (Nat.le_of_ble_eq_true rfl) (Nat.le_of_ble_eq_true rfl) rfl d_X_init_186 rfl (fun v136 h136 z136 => ?_)
  obtain ⟨rfl, rfl⟩ := z136
  refine gx_aast (q := 190) (t := 4) (N := 6) (F := (up (up (up (fun _ => -1) 0 50) 1 52) 2 54)) (fs := [Vr 57, Vi (-1)]) hG rfl (by decide) rfl rfl rfl (Or.inl rfl) (by decide) (by decide) (by decide) d_X_init_189 rfl ?_
  refine gx_iinc1 (q := 193) hG d_X_init_190 rfl rfl ?_
  refine gx_goto (tgt := 171) hG d_X_init_193 rfl ?_
  refine gx_iload1 (q := 172) hG d_X_init_171 rfl ?_
  refine gx_bipush (q := 174) hG d_X_init_172 rfl rfl ?_
  refine gx_icmp_ge (tgt := 196) (q := 177) hG d_X_init_174 rfl rfl (by decide) (by decide) (fun c => absurd c (by decide)) (fun _ => ?_)
  refine gx_aload0 (q := 178) hG d_X_init_177 rfl ?_
  refine gx_get (q := 181) (fs := [Vr 1, Vr 2, Vr 3, Vr 5, Vr 6, Vr 7, Vr 14, Vi 0, Vr 15, Vr 19, Vr 46, Vi 0, Vj 0, Vj 1, Vi 0, Vr 49]) hG f_X_11 rfl rfl d_X_init_178 rfl ?_
  refine gx_iload1 (q := 182) hG d_X_init_181 rfl ?_
  refine gx_new (q := 185) hG a_X_9 (Nat.le_of_ble_eq_true rfl) d_X_init_182 rfl ?_
  refine gx_dupa (q := 186) hG d_X_init_185 rfl ?_
  refine gx_callIN (rt' := none) (As := []) (q := 189) hG n_X_87 i_Rw_init rfl c_Rw_init (ev_Rw_init hset_eq (by constructor <;> decide)) hset_eq (by decide) (Nat.le_of_ble_eq_true rfl) (Nat.le_of_ble_eq_true rfl) rfl d_X_init_186 rfl (fun v148 h148 z148 => ?_)
  obtain ⟨rfl, rfl⟩ := z148
  refine gx_aast (q := 190) (t := 4) (N := 6) (F := (up (up (up (up (fun _ => -1) 0 50) 1 52) 2 54) 3 56)) (fs := [Vr 59, Vi (-1)]) hG rfl (by decide) rfl rfl rfl (Or.inl rfl) (by decide) (by decide) (by decide) d_X_init_189 rfl ?_
  refine gx_iinc1 (q := 193) hG d_X_init_190 rfl rfl ?_
  refine gx_goto (tgt := 171) hG d_X_init_193 rfl ?_
  refine gx_iload1 (q := 172) hG d_X_init_171 rfl ?_
  refine gx_bipush (q := 174) hG d_X_init_172 rfl rfl ?_
  refine gx_icmp_ge (tgt := 196) (q := 177) hG d_X_init_174 rfl rfl (by decide) (by decide) (fun c => absurd c (by decide)) (fun _ => ?_)
  refine gx_aload0 (q := 178) hG d_X_init_177 rfl ?_
  refine gx_get (q := 181) (fs := [Vr 1, Vr 2, Vr 3, Vr 5, Vr 6, Vr 7, Vr 14, Vi 0, Vr 15, Vr 19, Vr 46, Vi 0, Vj 0, Vj 1, Vi 0, Vr 49]) hG f_X_11 rfl rfl d_X_init_178 rfl ?_
  refine gx_iload1 (q := 182) hG d_X_init_181 rfl ?_
  refine gx_new (q := 185) hG a_X_9 (Nat.le_of_ble_eq_true rfl) d_X_init_182 rfl ?_
  refine gx_dupa (q := 186) hG d_X_init_185 rfl ?_
  refine gx_callIN (rt' := none) (As := []) (q := 189) hG n_X_87 i_Rw_init rfl c_Rw_init (ev_Rw_init hset_eq (by constructor <;> decide)) hset_eq (by decide) (Nat.le_of_ble_eq_true rfl) (Nat.le_of_ble_eq_true rfl) rfl d_X_init_186 rfl (fun v160 h160 z160 => ?_)
  obtain ⟨rfl, rfl⟩ := z160
  refine gx_aast (q := 190) (t := 4) (N := 6) (F := (up (up (up (up (up (fun _ => -1) 0 50) 1 52) 2 54) 3 56) 4 58)) (fs := [Vr 61, Vi (-1)]) hG rfl (by decide) rfl rfl rfl (Or.inl rfl) (by decide) (by decide) (by decide) d_X_init_189 rfl ?_
  refine gx_iinc1 (q := 193) hG d_X_init_190 rfl rfl ?_
  refine gx_goto (tgt := 171) hG d_X_init_193 rfl ?_
  refine gx_iload1 (q := 172) hG d_X_init_171 rfl ?_
  refine gx_bipush (q := 174) hG d_X_init_172 rfl rfl ?_
  refine gx_icmp_ge (tgt := 196) (q := 177) hG d_X_init_174 rfl rfl (by decide) (by decide) (fun _ => ?_) (fun c => absurd c (by decide))
  refine gx_iconst (q := 197) hG d_X_init_196 rfl ?_
  refine gx_istore1 (q := 198) hG d_X_init_197 rfl rfl ?_
  refine gx_iload1 (q := 199) hG d_X_init_198 rfl ?_
  refine gx_iconst (q := 200) hG d_X_init_199 rfl ?_
  refine gx_icmp_ge (tgt := 222) (q := 203) hG d_X_init_200 rfl rfl (by decide) (by decide) (fun c => absurd c (by decide)) (fun _ => ?_)
  refine gx_aload0 (q := 204) hG d_X_init_203 rfl ?_
  refine gx_get (q := 207) (fs := [Vr 1, Vr 2, Vr 3, Vr 5, Vr 6, Vr 7, Vr 14, Vi 0, Vr 15, Vr 19, Vr 46, Vi 0, Vj 0, Vj 1, Vi 0, Vr 49]) hG f_X_15 rfl rfl d_X_init_204 rfl ?_
  refine gx_iload1 (q := 208) hG d_X_init_207 rfl ?_
  refine gx_new (q := 211) hG a_X_9 (Nat.le_of_ble_eq_true rfl) d_X_init_208 rfl ?_
  refine gx_dupa (q := 212) hG d_X_init_211 rfl ?_
  refine gx_callIN (rt' := none) (As := []) (q := 215) hG n_X_87 i_Rw_init rfl c_Rw_init (ev_Rw_init hset_eq (by constructor <;> decide)) hset_eq (by decide) (Nat.le_of_ble_eq_true rfl) (Nat.le_of_ble_eq_true rfl) rfl d_X_init_212 rfl (fun v177 h177 z177 => ?_)
  obtain ⟨rfl, rfl⟩ := z177
  refine gx_aast (q := 216) (t := 4) (N := 4) (F := (fun _ => -1)) (fs := [Vr 63, Vi (-1)]) hG rfl (by decide) rfl rfl rfl (Or.inl rfl) (by decide) (by decide) (by decide) d_X_init_215 rfl ?_
  refine gx_iinc1 (q := 219) hG d_X_init_216 rfl rfl ?_
  refine gx_goto (tgt := 198) hG d_X_init_219 rfl ?_
  refine gx_iload1 (q := 199) hG d_X_init_198 rfl ?_
  refine gx_iconst (q := 200) hG d_X_init_199 rfl ?_
  refine gx_icmp_ge (tgt := 222) (q := 203) hG d_X_init_200 rfl rfl (by decide) (by decide) (fun c => absurd c (by decide)) (fun _ => ?_)
  refine gx_aload0 (q := 204) hG d_X_init_203 rfl ?_
  refine gx_get (q := 207) (fs := [Vr 1, Vr 2, Vr 3, Vr 5, Vr 6, Vr 7, Vr 14, Vi 0, Vr 15, Vr 19, Vr 46, Vi 0, Vj 0, Vj 1, Vi 0, Vr 49]) hG f_X_15 rfl rfl d_X_init_204 rfl ?_
  refine gx_iload1 (q := 208) hG d_X_init_207 rfl ?_
  refine gx_new (q := 211) hG a_X_9 (Nat.le_of_ble_eq_true rfl) d_X_init_208 rfl ?_
  refine gx_dupa (q := 212) hG d_X_init_211 rfl ?_
  refine gx_callIN (rt' := none) (As := []) (q := 215) hG n_X_87 i_Rw_init rfl c_Rw_init (ev_Rw_init hset_eq (by constructor <;> decide)) hset_eq (by decide) (Nat.le_of_ble_eq_true rfl) (Nat.le_of_ble_eq_true rfl) rfl d_X_init_212 rfl (fun v189 h189 z189 => ?_)
  obtain ⟨rfl, rfl⟩ := z189
  refine gx_aast (q := 216) (t := 4) (N := 4) (F := (up (fun _ => -1) 0 62)) (fs := [Vr 65, Vi (-1)]) hG rfl (by decide) rfl rfl rfl (Or.inl rfl) (by decide) (by decide) (by decide) d_X_init_215 rfl ?_
  refine gx_iinc1 (q := 219) hG d_X_init_216 rfl rfl ?_
  refine gx_goto (tgt := 198) hG d_X_init_219 rfl ?_
  refine gx_iload1 (q := 199) hG d_X_init_198 rfl ?_
  refine gx_iconst (q := 200) hG d_X_init_199 rfl ?_
  refine gx_icmp_ge (tgt := 222) (q := 203) hG d_X_init_200 rfl rfl (by decide) (by decide) (fun c => absurd c (by decide)) (fun _ => ?_)
  refine gx_aload0 (q := 204) hG d_X_init_203 rfl ?_
  refine gx_get (q := 207) (fs := [Vr 1, Vr 2, Vr 3, Vr 5, Vr 6, Vr 7, Vr 14, Vi 0, Vr 15, Vr 19, Vr 46, Vi 0, Vj 0, Vj 1, Vi 0, Vr 49]) hG f_X_15 rfl rfl d_X_init_204 rfl ?_
  refine gx_iload1 (q := 208) hG d_X_init_207 rfl ?_
  refine gx_new (q := 211) hG a_X_9 (Nat.le_of_ble_eq_true rfl) d_X_init_208 rfl ?_
  refine gx_dupa (q := 212) hG d_X_init_211 rfl ?_
  refine gx_callIN (rt' := none) (As := []) (q := 215) hG n_X_87 i_Rw_init rfl c_Rw_init (ev_Rw_init hset_eq (by constructor <;> decide)) hset_eq (by decide) (Nat.le_of_ble_eq_true rfl) (Nat.le_of_ble_eq_true rfl) rfl d_X_init_212 rfl (fun v201 h201 z201 => ?_)
  obtain ⟨rfl, rfl⟩ := z201
  refine gx_aast (q := 216) (t := 4) (N := 4) (F := (up (up (fun _ => -1) 0 62) 1 64)) (fs := [Vr 67, Vi (-1)]) hG rfl (by decide) rfl rfl rfl (Or.inl rfl) (by decide) (by decide) (by decide) d_X_init_215 rfl ?_
  refine gx_iinc1 (q := 219) hG d_X_init_216 rfl rfl ?_
  refine gx_goto (tgt := 198) hG d_X_init_219 rfl ?_
  refine gx_iload1 (q := 199) hG d_X_init_198 rfl ?_
  refine gx_iconst (q := 200) hG d_X_init_199 rfl ?_
  refine gx_icmp_ge (tgt := 222) (q := 203) hG d_X_init_200 rfl rfl (by decide) (by decide) (fun c => absurd c (by decide)) (fun _ => ?_)
  refine gx_aload0 (q := 204) hG d_X_init_203 rfl ?_
  refine gx_get (q := 207) (fs := [Vr 1, Vr 2, Vr 3, Vr 5, Vr 6, Vr 7, Vr 14, Vi 0, Vr 15, Vr 19, Vr 46, Vi 0, Vj 0, Vj 1, Vi 0, Vr 49]) hG f_X_15 rfl rfl d_X_init_204 rfl ?_
  refine gx_iload1 (q := 208) hG d_X_init_207 rfl ?_
  refine gx_new (q := 211) hG a_X_9 (Nat.le_of_ble_eq_true rfl) d_X_init_208 rfl ?_
  refine gx_dupa (q := 212) hG d_X_init_211 rfl ?_
  refine gx_callIN (rt' := none) (As := []) (q := 215) hG n_X_87 i_Rw_init rfl c_Rw_init (ev_Rw_init hset_eq (by constructor <;> decide)) hset_eq (by decide) (Nat.le_of_ble_eq_true rfl) (Nat.le_of_ble_eq_true rfl) rfl d_X_init_212 rfl (fun v213 h213 z213 => ?_)
  obtain ⟨rfl, rfl⟩ := z213
  refine gx_aast (q := 216) (t := 4) (N := 4) (F := (up (up (up (fun _ => -1) 0 62) 1 64) 2 66)) (fs := [Vr 69, Vi (-1)]) hG rfl (by decide) rfl rfl rfl (Or.inl rfl) (by decide) (by decide) (by decide) d_X_init_215 rfl ?_
  refine gx_iinc1 (q := 219) hG d_X_init_216 rfl rfl ?_
  refine gx_goto (tgt := 198) hG d_X_init_219 rfl ?_
  refine gx_iload1 (q := 199) hG d_X_init_198 rfl ?_
  refine gx_iconst (q := 200) hG d_X_init_199 rfl ?_
  refine gx_icmp_ge (tgt := 222) (q := 203) hG d_X_init_200 rfl rfl (by decide) (by decide) (fun _ => ?_) (fun c => absurd c (by decide))
  refine gx_iconst (q := 223) hG d_X_init_222 rfl ?_
  refine gx_istore1 (q := 224) hG d_X_init_223 rfl rfl ?_
  refine gx_iload1 (q := 225) hG d_X_init_224 rfl ?_
  refine gx_iconst (q := 226) hG d_X_init_225 rfl ?_
  refine gx_icmp_ge (tgt := 248) (q := 229) hG d_X_init_226 rfl rfl (by decide) (by decide) (fun c => absurd c (by decide)) (fun _ => ?_)
  refine gx_aload0 (q := 230) hG d_X_init_229 rfl ?_
  refine gx_get (q := 233) (fs := [Vr 1, Vr 2, Vr 3, Vr 5, Vr 6, Vr 7, Vr 14, Vi 0, Vr 15, Vr 19, Vr 46, Vi 0, Vj 0, Vj 1, Vi 0, Vr 49]) hG f_X_25 rfl rfl d_X_init_230 rfl ?_
  refine gx_iload1 (q := 234) hG d_X_init_233 rfl ?_
  refine gx_new (q := 237) hG a_X_18 (Nat.le_of_ble_eq_true rfl) d_X_init_234 rfl ?_
  refine gx_dupa (q := 238) hG d_X_init_237 rfl ?_
  refine gx_callIN (rt' := none) (As := []) (q := 241) hG n_X_20 i_Gm_init rfl c_Gm_init (ev_Gm_init hset_eq (by constructor <;> decide)) hset_eq (by decide) (Nat.le_of_ble_eq_true rfl) (Nat.le_of_ble_eq_true rfl) rfl d_X_init_238 rfl (fun v230 h230 z230 => ?_)
  obtain ⟨rfl, rfl⟩ := z230
  refine gx_aast (q := 242) (t := 5) (N := 3) (F := (fun _ => -1)) (fs := [Vr 71, Vi 0, Vi 0, Vj 1]) hG rfl (by decide) rfl rfl rfl (Or.inl rfl) (by decide) (by decide) (by decide) d_X_init_241 rfl ?_
  refine gx_iinc1 (q := 245) hG d_X_init_242 rfl rfl ?_
  refine gx_goto (tgt := 224) hG d_X_init_245 rfl ?_
  refine gx_iload1 (q := 225) hG d_X_init_224 rfl ?_
  refine gx_iconst (q := 226) hG d_X_init_225 rfl ?_
  refine gx_icmp_ge (tgt := 248) (q := 229) hG d_X_init_226 rfl rfl (by decide) (by decide) (fun c => absurd c (by decide)) (fun _ => ?_)
  refine gx_aload0 (q := 230) hG d_X_init_229 rfl ?_
  refine gx_get (q := 233) (fs := [Vr 1, Vr 2, Vr 3, Vr 5, Vr 6, Vr 7, Vr 14, Vi 0, Vr 15, Vr 19, Vr 46, Vi 0, Vj 0, Vj 1, Vi 0, Vr 49]) hG f_X_25 rfl rfl d_X_init_230 rfl ?_
  refine gx_iload1 (q := 234) hG d_X_init_233 rfl ?_
  refine gx_new (q := 237) hG a_X_18 (Nat.le_of_ble_eq_true rfl) d_X_init_234 rfl ?_
  refine gx_dupa (q := 238) hG d_X_init_237 rfl ?_
  refine gx_callIN (rt' := none) (As := []) (q := 241) hG n_X_20 i_Gm_init rfl c_Gm_init (ev_Gm_init hset_eq (by constructor <;> decide)) hset_eq (by decide) (Nat.le_of_ble_eq_true rfl) (Nat.le_of_ble_eq_true rfl) rfl d_X_init_238 rfl (fun v242 h242 z242 => ?_)
  obtain ⟨rfl, rfl⟩ := z242
  refine gx_aast (q := 242) (t := 5) (N := 3) (F := (up (fun _ => -1) 0 70)) (fs := [Vr 73, Vi 0, Vi 0, Vj 1]) hG rfl (by decide) rfl rfl rfl (Or.inl rfl) (by decide) (by decide) (by decide) d_X_init_241 rfl ?_
  refine gx_iinc1 (q := 245) hG d_X_init_242 rfl rfl ?_
  refine gx_goto (tgt := 224) hG d_X_init_245 rfl ?_
  refine gx_iload1 (q := 225) hG d_X_init_224 rfl ?_
  refine gx_iconst (q := 226) hG d_X_init_225 rfl ?_
  refine gx_icmp_ge (tgt := 248) (q := 229) hG d_X_init_226 rfl rfl (by decide) (by decide) (fun c => absurd c (by decide)) (fun _ => ?_)
  refine gx_aload0 (q := 230) hG d_X_init_229 rfl ?_
  refine gx_get (q := 233) (fs := [Vr 1, Vr 2, Vr 3, Vr 5, Vr 6, Vr 7, Vr 14, Vi 0, Vr 15, Vr 19, Vr 46, Vi 0, Vj 0, Vj 1, Vi 0, Vr 49]) hG f_X_25 rfl rfl d_X_init_230 rfl ?_
  refine gx_iload1 (q := 234) hG d_X_init_233 rfl ?_
  refine gx_new (q := 237) hG a_X_18 (Nat.le_of_ble_eq_true rfl) d_X_init_234 rfl ?_
  refine gx_dupa (q := 238) hG d_X_init_237 rfl ?_
  refine gx_callIN (rt' := none) (As := []) (q := 241) hG n_X_20 i_Gm_init rfl c_Gm_init (ev_Gm_init hset_eq (by constructor <;> decide)) hset_eq (by decide) (Nat.le_of_ble_eq_true rfl) (Nat.le_of_ble_eq_true rfl) rfl d_X_init_238 rfl (fun v254 h254 z254 => ?_)
  obtain ⟨rfl, rfl⟩ := z254
  refine gx_aast (q := 242) (t := 5) (N := 3) (F := (up (up (fun _ => -1) 0 70) 1 72)) (fs := [Vr 75, Vi 0, Vi 0, Vj 1]) hG rfl (by decide) rfl rfl rfl (Or.inl rfl) (by decide) (by decide) (by decide) d_X_init_241 rfl ?_
  refine gx_iinc1 (q := 245) hG d_X_init_242 rfl rfl ?_
  refine gx_goto (tgt := 224) hG d_X_init_245 rfl ?_
  refine gx_iload1 (q := 225) hG d_X_init_224 rfl ?_
  refine gx_iconst (q := 226) hG d_X_init_225 rfl ?_
  refine gx_icmp_ge (tgt := 248) (q := 229) hG d_X_init_226 rfl rfl (by decide) (by decide) (fun _ => ?_) (fun c => absurd c (by decide))
  refine gx_return hG d_X_init_248 rfl rfl ⟨rfl, fun k hk => ?_⟩
  match k, hk with
  | 0, _ => exact Or.inl rfl
  | 1, _ => exact Or.inr ⟨4, 6, _, _, rfl, rfl, fun i i0 i1 => by rcases (show i = 0 ∨ i = 1 ∨ i = 2 ∨ i = 3 ∨ i = 4 ∨ i = 5 by omega) with rfl | rfl | rfl | rfl | rfl | rfl <;> rfl⟩
  | 2, _ => exact Or.inr ⟨4, 4, _, _, rfl, rfl, fun i i0 i1 => by rcases (show i = 0 ∨ i = 1 ∨ i = 2 ∨ i = 3 by omega) with rfl | rfl | rfl | rfl <;> rfl⟩
  | 3, _ => exact Or.inl rfl
  | 4, _ => exact Or.inl rfl
  | 5, _ => exact Or.inr ⟨5, 3, _, _, rfl, rfl, fun i i0 i1 => by rcases (show i = 0 ∨ i = 1 ∨ i = 2 by omega) with rfl | rfl | rfl <;> rfl⟩
  | 6, _ => exact Or.inl rfl
  | 7, _ => exact Or.inr ⟨6, 6, _, _, rfl, rfl, fun i i0 i1 => by rcases (show i = 0 ∨ i = 1 ∨ i = 2 ∨ i = 3 ∨ i = 4 ∨ i = 5 by omega) with rfl | rfl | rfl | rfl | rfl | rfl <;> rfl⟩
  | 8, _ => exact Or.inl rfl
  | 9, _ => exact Or.inl rfl
  | 10, _ => exact Or.inl rfl
  | 11, _ => exact Or.inl rfl
  | 12, _ => exact Or.inl rfl
  | 13, _ => exact Or.inl rfl
  | 14, _ => exact Or.inl rfl
  | 15, _ => exact Or.inl rfl
  | 16, _ => exact Or.inl rfl
  | 17, _ => exact Or.inl rfl
  | 18, _ => exact Or.inl rfl
  | 19, _ => exact Or.inl rfl
  | 20, _ => exact Or.inl rfl
  | 21, _ => exact Or.inl rfl
  | 22, _ => exact Or.inl rfl
  | 23, _ => exact Or.inl rfl
  | 24, _ => exact Or.inr ⟨7, 21, _, _, rfl, rfl, fun i i0 i1 => by show (24 : Int) + 1 + i = 25 + i; omega⟩
  | 25, _ => exact Or.inl rfl
  | 26, _ => exact Or.inl rfl
  | 27, _ => exact Or.inl rfl
  | 28, _ => exact Or.inl rfl
  | 29, _ => exact Or.inl rfl
  | 30, _ => exact Or.inl rfl
  | 31, _ => exact Or.inl rfl
  | 32, _ => exact Or.inl rfl
  | 33, _ => exact Or.inl rfl
  | 34, _ => exact Or.inl rfl
  | 35, _ => exact Or.inl rfl
  | 36, _ => exact Or.inl rfl
  | 37, _ => exact Or.inl rfl
  | 38, _ => exact Or.inl rfl
  | 39, _ => exact Or.inl rfl
  | 40, _ => exact Or.inl rfl
  | 41, _ => exact Or.inl rfl
  | 42, _ => exact Or.inl rfl
  | 43, _ => exact Or.inl rfl
  | 44, _ => exact Or.inl rfl
  | 45, _ => exact Or.inl rfl
  | 46, _ => exact Or.inl rfl
  | 47, _ => exact Or.inl rfl
  | 48, _ => exact Or.inl rfl
  | 49, _ => exact Or.inl rfl
  | 50, _ => exact Or.inl rfl
  | 51, _ => exact Or.inl rfl
  | 52, _ => exact Or.inl rfl
  | 53, _ => exact Or.inl rfl
  | 54, _ => exact Or.inl rfl
  | 55, _ => exact Or.inl rfl
  | 56, _ => exact Or.inl rfl
  | 57, _ => exact Or.inl rfl
  | 58, _ => exact Or.inl rfl
  | 59, _ => exact Or.inl rfl
  | 60, _ => exact Or.inl rfl
  | 61, _ => exact Or.inl rfl
  | 62, _ => exact Or.inl rfl
  | 63, _ => exact Or.inl rfl
  | 64, _ => exact Or.inl rfl
  | 65, _ => exact Or.inl rfl
  | 66, _ => exact Or.inl rfl
  | 67, _ => exact Or.inl rfl
  | 68, _ => exact Or.inl rfl
  | 69, _ => exact Or.inl rfl
  | 70, _ => exact Or.inl rfl
  | 71, _ => exact Or.inl rfl
  | 72, _ => exact Or.inl rfl
  | 73, _ => exact Or.inl rfl
  | 74, _ => exact Or.inl rfl
  | 75, _ => exact Or.inl rfl
  | k + 76, hk => exact absurd hk (by omega)
