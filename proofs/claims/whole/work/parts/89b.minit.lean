/-! part 89b: the reference's constructor -/
theorem ev_M_init {h : AH} (h1 : h 76 = cO 12 [Vi 0, .null, Vi 0, Vj 0, Vj 0, .null, .null, .null, .null, .null, .null, Vi 0, Vi 0, .null, Vi 0, .null, Vi 0, Vi 0, Vi 0, Vi 0, Vi 0, .null, .null, .null, .null, .null, .null, .null, Vi 0, .null, .null, .null, .null, .null, .null, Vj 0, .null, .null, .null, Vj 0]) : Ev y_M_init b_M_init 2 none 3 25 [Vr 76] 77 h (fun v h' => v = none ∧ (∀ k : Nat, k < 26 → agr (h' ((k + 76 : Nat) : Int)) (hp w0 ((k + 76 : Nat) : Int))) ∧ ∀ k : Nat, k < 76 → h' k = h k) := by
  refine Ev.mk (isI := true) (by decide +kernel) (fun _ => rfl) (Nat.le_of_ble_eq_true rfl) (fun G hG => ?_)
  show G 0 [some (Vr 76), none] [] 77 h
  refine gx_aload0 (q := 1) hG d_M_init_0 rfl ?_
  refine gx_objinit (q := 4) hG l_M_1 (by decide) w_ob (by decide) (by decide) d_M_init_1 rfl ?_
  refine gx_aload0 (q := 5) hG d_M_init_4 rfl ?_
  refine gx_bipush (q := 7) hG d_M_init_5 rfl rfl ?_
  refine gx_newa (q := 9) (t := 0) (N := 6) hG (by decide) rfl ac_int (by decide) (Nat.le_of_ble_eq_true rfl) d_M_init_7 rfl ?_
  refine gx_put (q := 12) (k := 1) (fs := [Vi 0, .null, Vi 0, Vj 0, Vj 0, .null, .null, .null, .null, .null, .null, Vi 0, Vi 0, .null, Vi 0, .null, Vi 0, Vi 0, Vi 0, Vi 0, Vi 0, .null, .null, .null, .null, .null, .null, .null, Vi 0, .null, .null, .null, .null, .null, .null, Vj 0, .null, .null, .null, Vj 0]) hG f_M_7 (by rw [hset_ne (by decide)]; exact h1) (Nat.le_of_ble_eq_true rfl) vfit_a (Or.inr rfl) d_M_init_9 rfl ?_
  refine gx_aload0 (q := 13) hG d_M_init_12 rfl ?_
  refine gx_bipush (q := 15) hG d_M_init_13 rfl rfl ?_
  refine gx_newa (q := 17) (t := 0) (N := 6) hG (by decide) rfl ac_int (by decide) (Nat.le_of_ble_eq_true rfl) d_M_init_15 rfl ?_
  refine gx_put (q := 20) (k := 5) (fs := [Vi 0, Vr 77, Vi 0, Vj 0, Vj 0, .null, .null, .null, .null, .null, .null, Vi 0, Vi 0, .null, Vi 0, .null, Vi 0, Vi 0, Vi 0, Vi 0, Vi 0, .null, .null, .null, .null, .null, .null, .null, Vi 0, .null, .null, .null, .null, .null, .null, Vj 0, .null, .null, .null, Vj 0]) hG f_M_13 rfl (Nat.le_of_ble_eq_true rfl) vfit_a (Or.inr rfl) d_M_init_17 rfl ?_
  refine gx_aload0 (q := 21) hG d_M_init_20 rfl ?_
  refine gx_sipush (q := 24) hG d_M_init_21 rfl rfl ?_
  refine gx_newa (q := 26) (t := 0) (N := 360) hG (by decide) rfl ac_int (by decide) (Nat.le_of_ble_eq_true rfl) d_M_init_24 rfl ?_
  refine gx_put (q := 29) (k := 6) (fs := [Vi 0, Vr 77, Vi 0, Vj 0, Vj 0, Vr 78, .null, .null, .null, .null, .null, Vi 0, Vi 0, .null, Vi 0, .null, Vi 0, Vi 0, Vi 0, Vi 0, Vi 0, .null, .null, .null, .null, .null, .null, .null, Vi 0, .null, .null, .null, .null, .null, .null, Vj 0, .null, .null, .null, Vj 0]) hG f_M_16 rfl (Nat.le_of_ble_eq_true rfl) vfit_a (Or.inr rfl) d_M_init_26 rfl ?_
  refine gx_aload0 (q := 30) hG d_M_init_29 rfl ?_
  refine gx_bipush (q := 32) hG d_M_init_30 rfl rfl ?_
  refine gx_newa (q := 34) (t := 0) (N := 60) hG (by decide) rfl ac_int (by decide) (Nat.le_of_ble_eq_true rfl) d_M_init_32 rfl ?_
  refine gx_put (q := 37) (k := 7) (fs := [Vi 0, Vr 77, Vi 0, Vj 0, Vj 0, Vr 78, Vr 79, .null, .null, .null, .null, Vi 0, Vi 0, .null, Vi 0, .null, Vi 0, Vi 0, Vi 0, Vi 0, Vi 0, .null, .null, .null, .null, .null, .null, .null, Vi 0, .null, .null, .null, .null, .null, .null, Vj 0, .null, .null, .null, Vj 0]) hG f_M_19 rfl (Nat.le_of_ble_eq_true rfl) vfit_a (Or.inr rfl) d_M_init_34 rfl ?_
  refine gx_aload0 (q := 38) hG d_M_init_37 rfl ?_
  refine gx_iconst (q := 39) hG d_M_init_38 rfl ?_
  refine gx_newa (q := 41) (t := 0) (N := 4) hG (by decide) rfl ac_int (by decide) (Nat.le_of_ble_eq_true rfl) d_M_init_39 rfl ?_
  refine gx_put (q := 44) (k := 8) (fs := [Vi 0, Vr 77, Vi 0, Vj 0, Vj 0, Vr 78, Vr 79, Vr 80, .null, .null, .null, Vi 0, Vi 0, .null, Vi 0, .null, Vi 0, Vi 0, Vi 0, Vi 0, Vi 0, .null, .null, .null, .null, .null, .null, .null, Vi 0, .null, .null, .null, .null, .null, .null, Vj 0, .null, .null, .null, Vj 0]) hG f_M_22 rfl (Nat.le_of_ble_eq_true rfl) vfit_a (Or.inr rfl) d_M_init_41 rfl ?_
  refine gx_aload0 (q := 45) hG d_M_init_44 rfl ?_
  refine gx_sipush (q := 48) hG d_M_init_45 rfl rfl ?_
  refine gx_newa (q := 50) (t := 2) (N := 240) hG (by decide) rfl ac_byte (by decide) (Nat.le_of_ble_eq_true rfl) d_M_init_48 rfl ?_
  refine gx_put (q := 53) (k := 9) (fs := [Vi 0, Vr 77, Vi 0, Vj 0, Vj 0, Vr 78, Vr 79, Vr 80, Vr 81, .null, .null, Vi 0, Vi 0, .null, Vi 0, .null, Vi 0, Vi 0, Vi 0, Vi 0, Vi 0, .null, .null, .null, .null, .null, .null, .null, Vi 0, .null, .null, .null, .null, .null, .null, Vj 0, .null, .null, .null, Vj 0]) hG f_M_25 rfl (Nat.le_of_ble_eq_true rfl) vfit_a (Or.inr rfl) d_M_init_50 rfl ?_
  refine gx_aload0 (q := 54) hG d_M_init_53 rfl ?_
  refine gx_sipush (q := 57) hG d_M_init_54 rfl rfl ?_
  refine gx_newa (q := 59) (t := 0) (N := 4001) hG (by decide) rfl ac_int (by decide) (Nat.le_of_ble_eq_true rfl) d_M_init_57 rfl ?_
  refine gx_put (q := 62) (k := 10) (fs := [Vi 0, Vr 77, Vi 0, Vj 0, Vj 0, Vr 78, Vr 79, Vr 80, Vr 81, Vr 82, .null, Vi 0, Vi 0, .null, Vi 0, .null, Vi 0, Vi 0, Vi 0, Vi 0, Vi 0, .null, .null, .null, .null, .null, .null, .null, Vi 0, .null, .null, .null, .null, .null, .null, Vj 0, .null, .null, .null, Vj 0]) hG f_M_29 rfl (Nat.le_of_ble_eq_true rfl) vfit_a (Or.inr rfl) d_M_init_59 rfl ?_
  refine gx_aload0 (q := 63) hG d_M_init_62 rfl ?_
  refine gx_iconst (q := 64) hG d_M_init_63 rfl ?_
  refine gx_newa (q := 66) (t := 0) (N := 2) hG (by decide) rfl ac_int (by decide) (Nat.le_of_ble_eq_true rfl) d_M_init_64 rfl ?_
  refine gx_put (q := 69) (k := 13) (fs := [Vi 0, Vr 77, Vi 0, Vj 0, Vj 0, Vr 78, Vr 79, Vr 80, Vr 81, Vr 82, Vr 83, Vi 0, Vi 0, .null, Vi 0, .null, Vi 0, Vi 0, Vi 0, Vi 0, Vi 0, .null, .null, .null, .null, .null, .null, .null, Vi 0, .null, .null, .null, .null, .null, .null, Vj 0, .null, .null, .null, Vj 0]) hG f_M_32 rfl (Nat.le_of_ble_eq_true rfl) vfit_a (Or.inr rfl) d_M_init_66 rfl ?_
  refine gx_aload0 (q := 70) hG d_M_init_69 rfl ?_
  refine gx_bipush (q := 72) hG d_M_init_70 rfl rfl ?_
  refine gx_newa (q := 74) (t := 0) (N := 14) hG (by decide) rfl ac_int (by decide) (Nat.le_of_ble_eq_true rfl) d_M_init_72 rfl ?_
  refine gx_put (q := 77) (k := 15) (fs := [Vi 0, Vr 77, Vi 0, Vj 0, Vj 0, Vr 78, Vr 79, Vr 80, Vr 81, Vr 82, Vr 83, Vi 0, Vi 0, Vr 84, Vi 0, .null, Vi 0, Vi 0, Vi 0, Vi 0, Vi 0, .null, .null, .null, .null, .null, .null, .null, Vi 0, .null, .null, .null, .null, .null, .null, Vj 0, .null, .null, .null, Vj 0]) hG f_M_35 rfl (Nat.le_of_ble_eq_true rfl) vfit_a (Or.inr rfl) d_M_init_74 rfl ?_
  refine gx_aload0 (q := 78) hG d_M_init_77 rfl ?_
  refine gx_iconst (q := 79) hG d_M_init_78 rfl ?_
  refine gx_newa (q := 81) (t := 0) (N := 2) hG (by decide) rfl ac_int (by decide) (Nat.le_of_ble_eq_true rfl) d_M_init_79 rfl ?_
  refine gx_put (q := 84) (k := 21) (fs := [Vi 0, Vr 77, Vi 0, Vj 0, Vj 0, Vr 78, Vr 79, Vr 80, Vr 81, Vr 82, Vr 83, Vi 0, Vi 0, Vr 84, Vi 0, Vr 85, Vi 0, Vi 0, Vi 0, Vi 0, Vi 0, .null, .null, .null, .null, .null, .null, .null, Vi 0, .null, .null, .null, .null, .null, .null, Vj 0, .null, .null, .null, Vj 0]) hG f_M_38 rfl (Nat.le_of_ble_eq_true rfl) vfit_a (Or.inr rfl) d_M_init_81 rfl ?_
  refine gx_aload0 (q := 85) hG d_M_init_84 rfl ?_
  refine gx_bipush (q := 87) hG d_M_init_85 rfl rfl ?_
  refine gx_newa (q := 89) (t := 0) (N := 14) hG (by decide) rfl ac_int (by decide) (Nat.le_of_ble_eq_true rfl) d_M_init_87 rfl ?_
  refine gx_put (q := 92) (k := 22) (fs := [Vi 0, Vr 77, Vi 0, Vj 0, Vj 0, Vr 78, Vr 79, Vr 80, Vr 81, Vr 82, Vr 83, Vi 0, Vi 0, Vr 84, Vi 0, Vr 85, Vi 0, Vi 0, Vi 0, Vi 0, Vi 0, Vr 86, .null, .null, .null, .null, .null, .null, Vi 0, .null, .null, .null, .null, .null, .null, Vj 0, .null, .null, .null, Vj 0]) hG f_M_41 rfl (Nat.le_of_ble_eq_true rfl) vfit_a (Or.inr rfl) d_M_init_89 rfl ?_
  refine gx_aload0 (q := 93) hG d_M_init_92 rfl ?_
  refine gx_iconst (q := 94) hG d_M_init_93 rfl ?_
  refine gx_newa (q := 96) (t := 0) (N := 3) hG (by decide) rfl ac_int (by decide) (Nat.le_of_ble_eq_true rfl) d_M_init_94 rfl ?_
  refine gx_put (q := 99) (k := 23) (fs := [Vi 0, Vr 77, Vi 0, Vj 0, Vj 0, Vr 78, Vr 79, Vr 80, Vr 81, Vr 82, Vr 83, Vi 0, Vi 0, Vr 84, Vi 0, Vr 85, Vi 0, Vi 0, Vi 0, Vi 0, Vi 0, Vr 86, Vr 87, .null, .null, .null, .null, .null, Vi 0, .null, .null, .null, .null, .null, .null, Vj 0, .null, .null, .null, Vj 0]) hG f_M_44 rfl (Nat.le_of_ble_eq_true rfl) vfit_a (Or.inr rfl) d_M_init_96 rfl ?_
  refine gx_aload0 (q := 100) hG d_M_init_99 rfl ?_
  refine gx_iconst (q := 101) hG d_M_init_100 rfl ?_
  refine gx_newa (q := 103) (t := 0) (N := 3) hG (by decide) rfl ac_int (by decide) (Nat.le_of_ble_eq_true rfl) d_M_init_101 rfl ?_
  refine gx_put (q := 106) (k := 24) (fs := [Vi 0, Vr 77, Vi 0, Vj 0, Vj 0, Vr 78, Vr 79, Vr 80, Vr 81, Vr 82, Vr 83, Vi 0, Vi 0, Vr 84, Vi 0, Vr 85, Vi 0, Vi 0, Vi 0, Vi 0, Vi 0, Vr 86, Vr 87, Vr 88, .null, .null, .null, .null, Vi 0, .null, .null, .null, .null, .null, .null, Vj 0, .null, .null, .null, Vj 0]) hG f_M_47 rfl (Nat.le_of_ble_eq_true rfl) vfit_a (Or.inr rfl) d_M_init_103 rfl ?_
  refine gx_aload0 (q := 107) hG d_M_init_106 rfl ?_
  refine gx_bipush (q := 109) hG d_M_init_107 rfl rfl ?_
  refine gx_newa (q := 111) (t := 0) (N := 42) hG (by decide) rfl ac_int (by decide) (Nat.le_of_ble_eq_true rfl) d_M_init_109 rfl ?_
  refine gx_put (q := 114) (k := 25) (fs := [Vi 0, Vr 77, Vi 0, Vj 0, Vj 0, Vr 78, Vr 79, Vr 80, Vr 81, Vr 82, Vr 83, Vi 0, Vi 0, Vr 84, Vi 0, Vr 85, Vi 0, Vi 0, Vi 0, Vi 0, Vi 0, Vr 86, Vr 87, Vr 88, Vr 89, .null, .null, .null, Vi 0, .null, .null, .null, .null, .null, .null, Vj 0, .null, .null, .null, Vj 0]) hG f_M_50 rfl (Nat.le_of_ble_eq_true rfl) vfit_a (Or.inr rfl) d_M_init_111 rfl ?_
  refine gx_aload0 (q := 115) hG d_M_init_114 rfl ?_
  refine gx_sipush (q := 118) hG d_M_init_115 rfl rfl ?_
  refine gx_newa (q := 120) (t := 1) (N := 401) hG (by decide) rfl ac_long (by decide) (Nat.le_of_ble_eq_true rfl) d_M_init_118 rfl ?_
  refine gx_put (q := 123) (k := 26) (fs := [Vi 0, Vr 77, Vi 0, Vj 0, Vj 0, Vr 78, Vr 79, Vr 80, Vr 81, Vr 82, Vr 83, Vi 0, Vi 0, Vr 84, Vi 0, Vr 85, Vi 0, Vi 0, Vi 0, Vi 0, Vi 0, Vr 86, Vr 87, Vr 88, Vr 89, Vr 90, .null, .null, Vi 0, .null, .null, .null, .null, .null, .null, Vj 0, .null, .null, .null, Vj 0]) hG f_M_53 rfl (Nat.le_of_ble_eq_true rfl) vfit_a (Or.inr rfl) d_M_init_120 rfl ?_
  refine gx_aload0 (q := 124) hG d_M_init_123 rfl ?_
  refine gx_sipush (q := 127) hG d_M_init_124 rfl rfl ?_
  refine gx_newa (q := 129) (t := 1) (N := 8421) hG (by decide) rfl ac_long (by decide) (Nat.le_of_ble_eq_true rfl) d_M_init_127 rfl ?_
  refine gx_put (q := 132) (k := 27) (fs := [Vi 0, Vr 77, Vi 0, Vj 0, Vj 0, Vr 78, Vr 79, Vr 80, Vr 81, Vr 82, Vr 83, Vi 0, Vi 0, Vr 84, Vi 0, Vr 85, Vi 0, Vi 0, Vi 0, Vi 0, Vi 0, Vr 86, Vr 87, Vr 88, Vr 89, Vr 90, Vr 91, .null, Vi 0, .null, .null, .null, .null, .null, .null, Vj 0, .null, .null, .null, Vj 0]) hG f_M_57 rfl (Nat.le_of_ble_eq_true rfl) vfit_a (Or.inr rfl) d_M_init_129 rfl ?_
  refine gx_aload0 (q := 133) hG d_M_init_132 rfl ?_
  refine gx_bipush (q := 135) hG d_M_init_133 rfl rfl ?_
  refine gx_newa (q := 137) (t := 0) (N := 14) hG (by decide) rfl ac_int (by decide) (Nat.le_of_ble_eq_true rfl) d_M_init_135 rfl ?_
  refine gx_put (q := 140) (k := 29) (fs := [Vi 0, Vr 77, Vi 0, Vj 0, Vj 0, Vr 78, Vr 79, Vr 80, Vr 81, Vr 82, Vr 83, Vi 0, Vi 0, Vr 84, Vi 0, Vr 85, Vi 0, Vi 0, Vi 0, Vi 0, Vi 0, Vr 86, Vr 87, Vr 88, Vr 89, Vr 90, Vr 91, Vr 92, Vi 0, .null, .null, .null, .null, .null, .null, Vj 0, .null, .null, .null, Vj 0]) hG f_M_60 rfl (Nat.le_of_ble_eq_true rfl) vfit_a (Or.inr rfl) d_M_init_137 rfl ?_
  refine gx_aload0 (q := 141) hG d_M_init_140 rfl ?_
  refine gx_bipush (q := 143) hG d_M_init_141 rfl rfl ?_
  refine gx_newa (q := 145) (t := 0) (N := 14) hG (by decide) rfl ac_int (by decide) (Nat.le_of_ble_eq_true rfl) d_M_init_143 rfl ?_
  refine gx_put (q := 148) (k := 30) (fs := [Vi 0, Vr 77, Vi 0, Vj 0, Vj 0, Vr 78, Vr 79, Vr 80, Vr 81, Vr 82, Vr 83, Vi 0, Vi 0, Vr 84, Vi 0, Vr 85, Vi 0, Vi 0, Vi 0, Vi 0, Vi 0, Vr 86, Vr 87, Vr 88, Vr 89, Vr 90, Vr 91, Vr 92, Vi 0, Vr 93, .null, .null, .null, .null, .null, Vj 0, .null, .null, .null, Vj 0]) hG f_M_63 rfl (Nat.le_of_ble_eq_true rfl) vfit_a (Or.inr rfl) d_M_init_145 rfl ?_
  refine gx_aload0 (q := 149) hG d_M_init_148 rfl ?_
  refine gx_bipush (q := 151) hG d_M_init_149 rfl rfl ?_
  refine gx_newa (q := 153) (t := 0) (N := 61) hG (by decide) rfl ac_int (by decide) (Nat.le_of_ble_eq_true rfl) d_M_init_151 rfl ?_
  refine gx_put (q := 156) (k := 31) (fs := [Vi 0, Vr 77, Vi 0, Vj 0, Vj 0, Vr 78, Vr 79, Vr 80, Vr 81, Vr 82, Vr 83, Vi 0, Vi 0, Vr 84, Vi 0, Vr 85, Vi 0, Vi 0, Vi 0, Vi 0, Vi 0, Vr 86, Vr 87, Vr 88, Vr 89, Vr 90, Vr 91, Vr 92, Vi 0, Vr 93, Vr 94, .null, .null, .null, .null, Vj 0, .null, .null, .null, Vj 0]) hG f_M_66 rfl (Nat.le_of_ble_eq_true rfl) vfit_a (Or.inr rfl) d_M_init_153 rfl ?_
  refine gx_aload0 (q := 157) hG d_M_init_156 rfl ?_
  refine gx_sipush (q := 160) hG d_M_init_157 rfl rfl ?_
  refine gx_newa (q := 162) (t := 3) (N := 16384) hG (by decide) rfl ac_boolean (by decide) (Nat.le_of_ble_eq_true rfl) d_M_init_160 rfl ?_
  refine gx_put (q := 165) (k := 32) (fs := [Vi 0, Vr 77, Vi 0, Vj 0, Vj 0, Vr 78, Vr 79, Vr 80, Vr 81, Vr 82, Vr 83, Vi 0, Vi 0, Vr 84, Vi 0, Vr 85, Vi 0, Vi 0, Vi 0, Vi 0, Vi 0, Vr 86, Vr 87, Vr 88, Vr 89, Vr 90, Vr 91, Vr 92, Vi 0, Vr 93, Vr 94, Vr 95, .null, .null, .null, Vj 0, .null, .null, .null, Vj 0]) hG f_M_69 rfl (Nat.le_of_ble_eq_true rfl) vfit_a (Or.inr rfl) d_M_init_162 rfl ?_
  refine gx_aload0 (q := 166) hG d_M_init_165 rfl ?_
  refine gx_sipush (q := 169) hG d_M_init_166 rfl rfl ?_
  refine gx_newa (q := 171) (t := 0) (N := 16384) hG (by decide) rfl ac_int (by decide) (Nat.le_of_ble_eq_true rfl) d_M_init_169 rfl ?_
  refine gx_put (q := 174) (k := 33) (fs := [Vi 0, Vr 77, Vi 0, Vj 0, Vj 0, Vr 78, Vr 79, Vr 80, Vr 81, Vr 82, Vr 83, Vi 0, Vi 0, Vr 84, Vi 0, Vr 85, Vi 0, Vi 0, Vi 0, Vi 0, Vi 0, Vr 86, Vr 87, Vr 88, Vr 89, Vr 90, Vr 91, Vr 92, Vi 0, Vr 93, Vr 94, Vr 95, Vr 96, .null, .null, Vj 0, .null, .null, .null, Vj 0]) hG f_M_73 rfl (Nat.le_of_ble_eq_true rfl) vfit_a (Or.inr rfl) d_M_init_171 rfl ?_
  refine gx_aload0 (q := 175) hG d_M_init_174 rfl ?_
  refine gx_sipush (q := 178) hG d_M_init_175 rfl rfl ?_
  refine gx_newa (q := 180) (t := 0) (N := 16384) hG (by decide) rfl ac_int (by decide) (Nat.le_of_ble_eq_true rfl) d_M_init_178 rfl ?_
  refine gx_put (q := 183) (k := 34) (fs := [Vi 0, Vr 77, Vi 0, Vj 0, Vj 0, Vr 78, Vr 79, Vr 80, Vr 81, Vr 82, Vr 83, Vi 0, Vi 0, Vr 84, Vi 0, Vr 85, Vi 0, Vi 0, Vi 0, Vi 0, Vi 0, Vr 86, Vr 87, Vr 88, Vr 89, Vr 90, Vr 91, Vr 92, Vi 0, Vr 93, Vr 94, Vr 95, Vr 96, Vr 97, .null, Vj 0, .null, .null, .null, Vj 0]) hG f_M_76 rfl (Nat.le_of_ble_eq_true rfl) vfit_a (Or.inr rfl) d_M_init_180 rfl ?_
  refine gx_aload0 (q := 184) hG d_M_init_183 rfl ?_
  refine gx_bipush (q := 186) hG d_M_init_184 rfl rfl ?_
  refine gx_newa (q := 188) (t := 3) (N := 122) hG (by decide) rfl ac_boolean (by decide) (Nat.le_of_ble_eq_true rfl) d_M_init_186 rfl ?_
  refine gx_put (q := 191) (k := 36) (fs := [Vi 0, Vr 77, Vi 0, Vj 0, Vj 0, Vr 78, Vr 79, Vr 80, Vr 81, Vr 82, Vr 83, Vi 0, Vi 0, Vr 84, Vi 0, Vr 85, Vi 0, Vi 0, Vi 0, Vi 0, Vi 0, Vr 86, Vr 87, Vr 88, Vr 89, Vr 90, Vr 91, Vr 92, Vi 0, Vr 93, Vr 94, Vr 95, Vr 96, Vr 97, Vr 98, Vj 0, .null, .null, .null, Vj 0]) hG f_M_79 rfl (Nat.le_of_ble_eq_true rfl) vfit_a (Or.inr rfl) d_M_init_188 rfl ?_
  refine gx_aload0 (q := 192) hG d_M_init_191 rfl ?_
  refine gx_sipush (q := 195) hG d_M_init_192 rfl rfl ?_
  refine gx_newa (q := 197) (t := 0) (N := 200) hG (by decide) rfl ac_int (by decide) (Nat.le_of_ble_eq_true rfl) d_M_init_195 rfl ?_
  refine gx_put (q := 200) (k := 37) (fs := [Vi 0, Vr 77, Vi 0, Vj 0, Vj 0, Vr 78, Vr 79, Vr 80, Vr 81, Vr 82, Vr 83, Vi 0, Vi 0, Vr 84, Vi 0, Vr 85, Vi 0, Vi 0, Vi 0, Vi 0, Vi 0, Vr 86, Vr 87, Vr 88, Vr 89, Vr 90, Vr 91, Vr 92, Vi 0, Vr 93, Vr 94, Vr 95, Vr 96, Vr 97, Vr 98, Vj 0, Vr 99, .null, .null, Vj 0]) hG f_M_82 rfl (Nat.le_of_ble_eq_true rfl) vfit_a (Or.inr rfl) d_M_init_197 rfl ?_
  refine gx_aload0 (q := 201) hG d_M_init_200 rfl ?_
  refine gx_sipush (q := 204) hG d_M_init_201 rfl rfl ?_
  refine gx_newa (q := 206) (t := 0) (N := 200) hG (by decide) rfl ac_int (by decide) (Nat.le_of_ble_eq_true rfl) d_M_init_204 rfl ?_
  refine gx_put (q := 209) (k := 38) (fs := [Vi 0, Vr 77, Vi 0, Vj 0, Vj 0, Vr 78, Vr 79, Vr 80, Vr 81, Vr 82, Vr 83, Vi 0, Vi 0, Vr 84, Vi 0, Vr 85, Vi 0, Vi 0, Vi 0, Vi 0, Vi 0, Vr 86, Vr 87, Vr 88, Vr 89, Vr 90, Vr 91, Vr 92, Vi 0, Vr 93, Vr 94, Vr 95, Vr 96, Vr 97, Vr 98, Vj 0, Vr 99, Vr 100, .null, Vj 0]) hG f_M_85 rfl (Nat.le_of_ble_eq_true rfl) vfit_a (Or.inr rfl) d_M_init_206 rfl ?_
  refine gx_aload0 (q := 210) hG d_M_init_209 rfl ?_
  refine gx_lconst (q := 211) hG 1 d_M_init_210 rfl rfl ?_
  refine gx_put (q := 214) (k := 4) (fs := [Vi 0, Vr 77, Vi 0, Vj 0, Vj 0, Vr 78, Vr 79, Vr 80, Vr 81, Vr 82, Vr 83, Vi 0, Vi 0, Vr 84, Vi 0, Vr 85, Vi 0, Vi 0, Vi 0, Vi 0, Vi 0, Vr 86, Vr 87, Vr 88, Vr 89, Vr 90, Vr 91, Vr 92, Vi 0, Vr 93, Vr 94, Vr 95, Vr 96, Vr 97, Vr 98, Vj 0, Vr 99, Vr 100, Vr 101, Vj 0]) hG f_M_88 rfl (Nat.le_of_ble_eq_true rfl) vfit_l (Or.inr rfl) d_M_init_211 rfl ?_
  refine gx_iconst (q := 215) hG d_M_init_214 rfl ?_
  refine gx_istore1 (q := 216) hG d_M_init_215 rfl rfl ?_
  refine gx_iload1 (q := 217) hG d_M_init_216 rfl ?_
  refine gx_bipush (q := 219) hG d_M_init_217 rfl rfl ?_
  refine gx_icmp_ge (tgt := 235) (q := 222) hG d_M_init_219 rfl rfl (by decide) (by decide) (fun c => absurd c (by decide)) (fun _ => ?_)
  refine gx_aload0 (q := 223) hG d_M_init_222 rfl ?_
  refine gx_get (q := 226) (fs := [Vi 0, Vr 77, Vi 0, Vj 0, Vj 1, Vr 78, Vr 79, Vr 80, Vr 81, Vr 82, Vr 83, Vi 0, Vi 0, Vr 84, Vi 0, Vr 85, Vi 0, Vi 0, Vi 0, Vi 0, Vi 0, Vr 86, Vr 87, Vr 88, Vr 89, Vr 90, Vr 91, Vr 92, Vi 0, Vr 93, Vr 94, Vr 95, Vr 96, Vr 97, Vr 98, Vj 0, Vr 99, Vr 100, Vr 101, Vj 0]) hG f_M_13 rfl rfl d_M_init_223 rfl ?_
  refine gx_iload1 (q := 227) hG d_M_init_226 rfl ?_
  refine gx_iconst (q := 228) hG d_M_init_227 rfl ?_
  refine gx_iast (q := 229) (N := 6) (F := (fun _ => 0)) hG rfl (by decide) (by decide) (by decide) d_M_init_228 rfl ?_
  refine gx_iinc1 (q := 232) hG d_M_init_229 rfl rfl ?_
  refine gx_goto (tgt := 216) hG d_M_init_232 rfl ?_
  refine gx_iload1 (q := 217) hG d_M_init_216 rfl ?_
  refine gx_bipush (q := 219) hG d_M_init_217 rfl rfl ?_
  refine gx_icmp_ge (tgt := 235) (q := 222) hG d_M_init_219 rfl rfl (by decide) (by decide) (fun c => absurd c (by decide)) (fun _ => ?_)
  refine gx_aload0 (q := 223) hG d_M_init_222 rfl ?_
  refine gx_get (q := 226) (fs := [Vi 0, Vr 77, Vi 0, Vj 0, Vj 1, Vr 78, Vr 79, Vr 80, Vr 81, Vr 82, Vr 83, Vi 0, Vi 0, Vr 84, Vi 0, Vr 85, Vi 0, Vi 0, Vi 0, Vi 0, Vi 0, Vr 86, Vr 87, Vr 88, Vr 89, Vr 90, Vr 91, Vr 92, Vi 0, Vr 93, Vr 94, Vr 95, Vr 96, Vr 97, Vr 98, Vj 0, Vr 99, Vr 100, Vr 101, Vj 0]) hG f_M_13 rfl rfl d_M_init_223 rfl ?_
  refine gx_iload1 (q := 227) hG d_M_init_226 rfl ?_
  refine gx_iconst (q := 228) hG d_M_init_227 rfl ?_
  refine gx_iast (q := 229) (N := 6) (F := (up (fun _ => 0) 0 (-1))) hG rfl (by decide) (by decide) (by decide) d_M_init_228 rfl ?_
  refine gx_iinc1 (q := 232) hG d_M_init_229 rfl rfl ?_
  refine gx_goto (tgt := 216) hG d_M_init_232 rfl ?_
  refine gx_iload1 (q := 217) hG d_M_init_216 rfl ?_
  refine gx_bipush (q := 219) hG d_M_init_217 rfl rfl ?_
  refine gx_icmp_ge (tgt := 235) (q := 222) hG d_M_init_219 rfl rfl (by decide) (by decide) (fun c => absurd c (by decide)) (fun _ => ?_)
  refine gx_aload0 (q := 223) hG d_M_init_222 rfl ?_
  refine gx_get (q := 226) (fs := [Vi 0, Vr 77, Vi 0, Vj 0, Vj 1, Vr 78, Vr 79, Vr 80, Vr 81, Vr 82, Vr 83, Vi 0, Vi 0, Vr 84, Vi 0, Vr 85, Vi 0, Vi 0, Vi 0, Vi 0, Vi 0, Vr 86, Vr 87, Vr 88, Vr 89, Vr 90, Vr 91, Vr 92, Vi 0, Vr 93, Vr 94, Vr 95, Vr 96, Vr 97, Vr 98, Vj 0, Vr 99, Vr 100, Vr 101, Vj 0]) hG f_M_13 rfl rfl d_M_init_223 rfl ?_
  refine gx_iload1 (q := 227) hG d_M_init_226 rfl ?_
  refine gx_iconst (q := 228) hG d_M_init_227 rfl ?_
  refine gx_iast (q := 229) (N := 6) (F := (up (up (fun _ => 0) 0 (-1)) 1 (-1))) hG rfl (by decide) (by decide) (by decide) d_M_init_228 rfl ?_
  refine gx_iinc1 (q := 232) hG d_M_init_229 rfl rfl ?_
  refine gx_goto (tgt := 216) hG d_M_init_232 rfl ?_
  refine gx_iload1 (q := 217) hG d_M_init_216 rfl ?_
  refine gx_bipush (q := 219) hG d_M_init_217 rfl rfl ?_
  refine gx_icmp_ge (tgt := 235) (q := 222) hG d_M_init_219 rfl rfl (by decide) (by decide) (fun c => absurd c (by decide)) (fun _ => ?_)
  refine gx_aload0 (q := 223) hG d_M_init_222 rfl ?_
  refine gx_get (q := 226) (fs := [Vi 0, Vr 77, Vi 0, Vj 0, Vj 1, Vr 78, Vr 79, Vr 80, Vr 81, Vr 82, Vr 83, Vi 0, Vi 0, Vr 84, Vi 0, Vr 85, Vi 0, Vi 0, Vi 0, Vi 0, Vi 0, Vr 86, Vr 87, Vr 88, Vr 89, Vr 90, Vr 91, Vr 92, Vi 0, Vr 93, Vr 94, Vr 95, Vr 96, Vr 97, Vr 98, Vj 0, Vr 99, Vr 100, Vr 101, Vj 0]) hG f_M_13 rfl rfl d_M_init_223 rfl ?_
  refine gx_iload1 (q := 227) hG d_M_init_226 rfl ?_
  refine gx_iconst (q := 228) hG d_M_init_227 rfl ?_
  refine gx_iast (q := 229) (N := 6) (F := (up (up (up (fun _ => 0) 0 (-1)) 1 (-1)) 2 (-1))) hG rfl (by decide) (by decide) (by decide) d_M_init_228 rfl ?_
  refine gx_iinc1 (q := 232) hG d_M_init_229 rfl rfl ?_
  refine gx_goto (tgt := 216) hG d_M_init_232 rfl ?_
  refine gx_iload1 (q := 217) hG d_M_init_216 rfl ?_
  refine gx_bipush (q := 219) hG d_M_init_217 rfl rfl ?_
  refine gx_icmp_ge (tgt := 235) (q := 222) hG d_M_init_219 rfl rfl (by decide) (by decide) (fun c => absurd c (by decide)) (fun _ => ?_)
  refine gx_aload0 (q := 223) hG d_M_init_222 rfl ?_
  refine gx_get (q := 226) (fs := [Vi 0, Vr 77, Vi 0, Vj 0, Vj 1, Vr 78, Vr 79, Vr 80, Vr 81, Vr 82, Vr 83, Vi 0, Vi 0, Vr 84, Vi 0, Vr 85, Vi 0, Vi 0, Vi 0, Vi 0, Vi 0, Vr 86, Vr 87, Vr 88, Vr 89, Vr 90, Vr 91, Vr 92, Vi 0, Vr 93, Vr 94, Vr 95, Vr 96, Vr 97, Vr 98, Vj 0, Vr 99, Vr 100, Vr 101, Vj 0]) hG f_M_13 rfl rfl d_M_init_223 rfl ?_
  refine gx_iload1 (q := 227) hG d_M_init_226 rfl ?_
  refine gx_iconst (q := 228) hG d_M_init_227 rfl ?_
  refine gx_iast (q := 229) (N := 6) (F := (up (up (up (up (fun _ => 0) 0 (-1)) 1 (-1)) 2 (-1)) 3 (-1))) hG rfl (by decide) (by decide) (by decide) d_M_init_228 rfl ?_
  refine gx_iinc1 (q := 232) hG d_M_init_229 rfl rfl ?_
  refine gx_goto (tgt := 216) hG d_M_init_232 rfl ?_
  refine gx_iload1 (q := 217) hG d_M_init_216 rfl ?_
  refine gx_bipush (q := 219) hG d_M_init_217 rfl rfl ?_
  refine gx_icmp_ge (tgt := 235) (q := 222) hG d_M_init_219 rfl rfl (by decide) (by decide) (fun c => absurd c (by decide)) (fun _ => ?_)
  refine gx_aload0 (q := 223) hG d_M_init_222 rfl ?_
  refine gx_get (q := 226) (fs := [Vi 0, Vr 77, Vi 0, Vj 0, Vj 1, Vr 78, Vr 79, Vr 80, Vr 81, Vr 82, Vr 83, Vi 0, Vi 0, Vr 84, Vi 0, Vr 85, Vi 0, Vi 0, Vi 0, Vi 0, Vi 0, Vr 86, Vr 87, Vr 88, Vr 89, Vr 90, Vr 91, Vr 92, Vi 0, Vr 93, Vr 94, Vr 95, Vr 96, Vr 97, Vr 98, Vj 0, Vr 99, Vr 100, Vr 101, Vj 0]) hG f_M_13 rfl rfl d_M_init_223 rfl ?_
  refine gx_iload1 (q := 227) hG d_M_init_226 rfl ?_
  refine gx_iconst (q := 228) hG d_M_init_227 rfl ?_
  refine gx_iast (q := 229) (N := 6) (F := (up (up (up (up (up (fun _ => 0) 0 (-1)) 1 (-1)) 2 (-1)) 3 (-1)) 4 (-1))) hG rfl (by decide) (by decide) (by decide) d_M_init_228 rfl ?_
  refine gx_iinc1 (q := 232) hG d_M_init_229 rfl rfl ?_
  refine gx_goto (tgt := 216) hG d_M_init_232 rfl ?_
  refine gx_iload1 (q := 217) hG d_M_init_216 rfl ?_
  refine gx_bipush (q := 219) hG d_M_init_217 rfl rfl ?_
  refine gx_icmp_ge (tgt := 235) (q := 222) hG d_M_init_219 rfl rfl (by decide) (by decide) (fun _ => ?_) (fun c => absurd c (by decide))
  refine gx_iconst (q := 236) hG d_M_init_235 rfl ?_
  refine gx_istore1 (q := 237) hG d_M_init_236 rfl rfl ?_
  refine gx_iload1 (q := 238) hG d_M_init_237 rfl ?_
  refine gx_iconst (q := 239) hG d_M_init_238 rfl ?_
  refine gx_icmp_ge (tgt := 255) (q := 242) hG d_M_init_239 rfl rfl (by decide) (by decide) (fun c => absurd c (by decide)) (fun _ => ?_)
  refine gx_aload0 (q := 243) hG d_M_init_242 rfl ?_
  refine gx_get (q := 246) (fs := [Vi 0, Vr 77, Vi 0, Vj 0, Vj 1, Vr 78, Vr 79, Vr 80, Vr 81, Vr 82, Vr 83, Vi 0, Vi 0, Vr 84, Vi 0, Vr 85, Vi 0, Vi 0, Vi 0, Vi 0, Vi 0, Vr 86, Vr 87, Vr 88, Vr 89, Vr 90, Vr 91, Vr 92, Vi 0, Vr 93, Vr 94, Vr 95, Vr 96, Vr 97, Vr 98, Vj 0, Vr 99, Vr 100, Vr 101, Vj 0]) hG f_M_22 rfl rfl d_M_init_243 rfl ?_
  refine gx_iload1 (q := 247) hG d_M_init_246 rfl ?_
  refine gx_iconst (q := 248) hG d_M_init_247 rfl ?_
  refine gx_iast (q := 249) (N := 4) (F := (fun _ => 0)) hG rfl (by decide) (by decide) (by decide) d_M_init_248 rfl ?_
  refine gx_iinc1 (q := 252) hG d_M_init_249 rfl rfl ?_
  refine gx_goto (tgt := 237) hG d_M_init_252 rfl ?_
  refine gx_iload1 (q := 238) hG d_M_init_237 rfl ?_
  refine gx_iconst (q := 239) hG d_M_init_238 rfl ?_
  refine gx_icmp_ge (tgt := 255) (q := 242) hG d_M_init_239 rfl rfl (by decide) (by decide) (fun c => absurd c (by decide)) (fun _ => ?_)
  refine gx_aload0 (q := 243) hG d_M_init_242 rfl ?_
  refine gx_get (q := 246) (fs := [Vi 0, Vr 77, Vi 0, Vj 0, Vj 1, Vr 78, Vr 79, Vr 80, Vr 81, Vr 82, Vr 83, Vi 0, Vi 0, Vr 84, Vi 0, Vr 85, Vi 0, Vi 0, Vi 0, Vi 0, Vi 0, Vr 86, Vr 87, Vr 88, Vr 89, Vr 90, Vr 91, Vr 92, Vi 0, Vr 93, Vr 94, Vr 95, Vr 96, Vr 97, Vr 98, Vj 0, Vr 99, Vr 100, Vr 101, Vj 0]) hG f_M_22 rfl rfl d_M_init_243 rfl ?_
  refine gx_iload1 (q := 247) hG d_M_init_246 rfl ?_
  refine gx_iconst (q := 248) hG d_M_init_247 rfl ?_
  refine gx_iast (q := 249) (N := 4) (F := (up (fun _ => 0) 0 (-1))) hG rfl (by decide) (by decide) (by decide) d_M_init_248 rfl ?_
  refine gx_iinc1 (q := 252) hG d_M_init_249 rfl rfl ?_
  refine gx_goto (tgt := 237) hG d_M_init_252 rfl ?_
  refine gx_iload1 (q := 238) hG d_M_init_237 rfl ?_
  refine gx_iconst (q := 239) hG d_M_init_238 rfl ?_
  refine gx_icmp_ge (tgt := 255) (q := 242) hG d_M_init_239 rfl rfl (by decide) (by decide) (fun c => absurd c (by decide)) (fun _ => ?_)
  refine gx_aload0 (q := 243) hG d_M_init_242 rfl ?_
  refine gx_get (q := 246) (fs := [Vi 0, Vr 77, Vi 0, Vj 0, Vj 1, Vr 78, Vr 79, Vr 80, Vr 81, Vr 82, Vr 83, Vi 0, Vi 0, Vr 84, Vi 0, Vr 85, Vi 0, Vi 0, Vi 0, Vi 0, Vi 0, Vr 86, Vr 87, Vr 88, Vr 89, Vr 90, Vr 91, Vr 92, Vi 0, Vr 93, Vr 94, Vr 95, Vr 96, Vr 97, Vr 98, Vj 0, Vr 99, Vr 100, Vr 101, Vj 0]) hG f_M_22 rfl rfl d_M_init_243 rfl ?_
  refine gx_iload1 (q := 247) hG d_M_init_246 rfl ?_
  refine gx_iconst (q := 248) hG d_M_init_247 rfl ?_
  refine gx_iast (q := 249) (N := 4) (F := (up (up (fun _ => 0) 0 (-1)) 1 (-1))) hG rfl (by decide) (by decide) (by decide) d_M_init_248 rfl ?_
  refine gx_iinc1 (q := 252) hG d_M_init_249 rfl rfl ?_
  refine gx_goto (tgt := 237) hG d_M_init_252 rfl ?_
  refine gx_iload1 (q := 238) hG d_M_init_237 rfl ?_
  refine gx_iconst (q := 239) hG d_M_init_238 rfl ?_
  refine gx_icmp_ge (tgt := 255) (q := 242) hG d_M_init_239 rfl rfl (by decide) (by decide) (fun c => absurd c (by decide)) (fun _ => ?_)
  refine gx_aload0 (q := 243) hG d_M_init_242 rfl ?_
  refine gx_get (q := 246) (fs := [Vi 0, Vr 77, Vi 0, Vj 0, Vj 1, Vr 78, Vr 79, Vr 80, Vr 81, Vr 82, Vr 83, Vi 0, Vi 0, Vr 84, Vi 0, Vr 85, Vi 0, Vi 0, Vi 0, Vi 0, Vi 0, Vr 86, Vr 87, Vr 88, Vr 89, Vr 90, Vr 91, Vr 92, Vi 0, Vr 93, Vr 94, Vr 95, Vr 96, Vr 97, Vr 98, Vj 0, Vr 99, Vr 100, Vr 101, Vj 0]) hG f_M_22 rfl rfl d_M_init_243 rfl ?_
  refine gx_iload1 (q := 247) hG d_M_init_246 rfl ?_
  refine gx_iconst (q := 248) hG d_M_init_247 rfl ?_
  refine gx_iast (q := 249) (N := 4) (F := (up (up (up (fun _ => 0) 0 (-1)) 1 (-1)) 2 (-1))) hG rfl (by decide) (by decide) (by decide) d_M_init_248 rfl ?_
  refine gx_iinc1 (q := 252) hG d_M_init_249 rfl rfl ?_
  refine gx_goto (tgt := 237) hG d_M_init_252 rfl ?_
  refine gx_iload1 (q := 238) hG d_M_init_237 rfl ?_
  refine gx_iconst (q := 239) hG d_M_init_238 rfl ?_
  refine gx_icmp_ge (tgt := 255) (q := 242) hG d_M_init_239 rfl rfl (by decide) (by decide) (fun _ => ?_) (fun c => absurd c (by decide))
  refine gx_iconst (q := 256) hG d_M_init_255 rfl ?_
  refine gx_istore1 (q := 257) hG d_M_init_256 rfl rfl ?_
  refine gx_iload1 (q := 258) hG d_M_init_257 rfl ?_
  refine gx_iconst (q := 259) hG d_M_init_258 rfl ?_
  refine gx_icmp_ge (tgt := 275) (q := 262) hG d_M_init_259 rfl rfl (by decide) (by decide) (fun c => absurd c (by decide)) (fun _ => ?_)
  refine gx_aload0 (q := 263) hG d_M_init_262 rfl ?_
  refine gx_get (q := 266) (fs := [Vi 0, Vr 77, Vi 0, Vj 0, Vj 1, Vr 78, Vr 79, Vr 80, Vr 81, Vr 82, Vr 83, Vi 0, Vi 0, Vr 84, Vi 0, Vr 85, Vi 0, Vi 0, Vi 0, Vi 0, Vi 0, Vr 86, Vr 87, Vr 88, Vr 89, Vr 90, Vr 91, Vr 92, Vi 0, Vr 93, Vr 94, Vr 95, Vr 96, Vr 97, Vr 98, Vj 0, Vr 99, Vr 100, Vr 101, Vj 0]) hG f_M_44 rfl rfl d_M_init_263 rfl ?_
  refine gx_iload1 (q := 267) hG d_M_init_266 rfl ?_
  refine gx_iconst (q := 268) hG d_M_init_267 rfl ?_
  refine gx_iast (q := 269) (N := 3) (F := (fun _ => 0)) hG rfl (by decide) (by decide) (by decide) d_M_init_268 rfl ?_
  refine gx_iinc1 (q := 272) hG d_M_init_269 rfl rfl ?_
  refine gx_goto (tgt := 257) hG d_M_init_272 rfl ?_
  refine gx_iload1 (q := 258) hG d_M_init_257 rfl ?_
  refine gx_iconst (q := 259) hG d_M_init_258 rfl ?_
  refine gx_icmp_ge (tgt := 275) (q := 262) hG d_M_init_259 rfl rfl (by decide) (by decide) (fun c => absurd c (by decide)) (fun _ => ?_)
  refine gx_aload0 (q := 263) hG d_M_init_262 rfl ?_
  refine gx_get (q := 266) (fs := [Vi 0, Vr 77, Vi 0, Vj 0, Vj 1, Vr 78, Vr 79, Vr 80, Vr 81, Vr 82, Vr 83, Vi 0, Vi 0, Vr 84, Vi 0, Vr 85, Vi 0, Vi 0, Vi 0, Vi 0, Vi 0, Vr 86, Vr 87, Vr 88, Vr 89, Vr 90, Vr 91, Vr 92, Vi 0, Vr 93, Vr 94, Vr 95, Vr 96, Vr 97, Vr 98, Vj 0, Vr 99, Vr 100, Vr 101, Vj 0]) hG f_M_44 rfl rfl d_M_init_263 rfl ?_
  refine gx_iload1 (q := 267) hG d_M_init_266 rfl ?_
  refine gx_iconst (q := 268) hG d_M_init_267 rfl ?_
  refine gx_iast (q := 269) (N := 3) (F := (up (fun _ => 0) 0 (-1))) hG rfl (by decide) (by decide) (by decide) d_M_init_268 rfl ?_
  refine gx_iinc1 (q := 272) hG d_M_init_269 rfl rfl ?_
  refine gx_goto (tgt := 257) hG d_M_init_272 rfl ?_
  refine gx_iload1 (q := 258) hG d_M_init_257 rfl ?_
  refine gx_iconst (q := 259) hG d_M_init_258 rfl ?_
  refine gx_icmp_ge (tgt := 275) (q := 262) hG d_M_init_259 rfl rfl (by decide) (by decide) (fun c => absurd c (by decide)) (fun _ => ?_)
  refine gx_aload0 (q := 263) hG d_M_init_262 rfl ?_
  refine gx_get (q := 266) (fs := [Vi 0, Vr 77, Vi 0, Vj 0, Vj 1, Vr 78, Vr 79, Vr 80, Vr 81, Vr 82, Vr 83, Vi 0, Vi 0, Vr 84, Vi 0, Vr 85, Vi 0, Vi 0, Vi 0, Vi 0, Vi 0, Vr 86, Vr 87, Vr 88, Vr 89, Vr 90, Vr 91, Vr 92, Vi 0, Vr 93, Vr 94, Vr 95, Vr 96, Vr 97, Vr 98, Vj 0, Vr 99, Vr 100, Vr 101, Vj 0]) hG f_M_44 rfl rfl d_M_init_263 rfl ?_
  refine gx_iload1 (q := 267) hG d_M_init_266 rfl ?_
  refine gx_iconst (q := 268) hG d_M_init_267 rfl ?_
  refine gx_iast (q := 269) (N := 3) (F := (up (up (fun _ => 0) 0 (-1)) 1 (-1))) hG rfl (by decide) (by decide) (by decide) d_M_init_268 rfl ?_
  refine gx_iinc1 (q := 272) hG d_M_init_269 rfl rfl ?_
  refine gx_goto (tgt := 257) hG d_M_init_272 rfl ?_
  refine gx_iload1 (q := 258) hG d_M_init_257 rfl ?_
  refine gx_iconst (q := 259) hG d_M_init_258 rfl ?_
  refine gx_icmp_ge (tgt := 275) (q := 262) hG d_M_init_259 rfl rfl (by decide) (by decide) (fun _ => ?_) (fun c => absurd c (by decide))
  refine gx_return hG d_M_init_275 rfl rfl ⟨rfl, fun k hk => ?_, fun k hk => ?_⟩
  · match k, hk with
    | 0, _ => exact Or.inl rfl
    | 1, _ => exact Or.inl rfl
    | 2, _ => exact Or.inr ⟨0, 6, _, _, rfl, rfl, fun i i0 i1 => by rcases (show i = 0 ∨ i = 1 ∨ i = 2 ∨ i = 3 ∨ i = 4 ∨ i = 5 by omega) with rfl | rfl | rfl | rfl | rfl | rfl <;> rfl⟩
    | 3, _ => exact Or.inl rfl
    | 4, _ => exact Or.inl rfl
    | 5, _ => exact Or.inr ⟨0, 4, _, _, rfl, rfl, fun i i0 i1 => by rcases (show i = 0 ∨ i = 1 ∨ i = 2 ∨ i = 3 by omega) with rfl | rfl | rfl | rfl <;> rfl⟩
    | 6, _ => exact Or.inl rfl
    | 7, _ => exact Or.inl rfl
    | 8, _ => exact Or.inl rfl
    | 9, _ => exact Or.inl rfl
    | 10, _ => exact Or.inl rfl
    | 11, _ => exact Or.inl rfl
    | 12, _ => exact Or.inr ⟨0, 3, _, _, rfl, rfl, fun i i0 i1 => by rcases (show i = 0 ∨ i = 1 ∨ i = 2 by omega) with rfl | rfl | rfl <;> rfl⟩
    | 13, _ => exact Or.inl rfl
    | 14, _ => exact Or.inl rfl
    | 15, _ => exact Or.inl rfl
    | 16, _ => exact Or.inl rfl
    | 17, _ => exact Or.inl rfl
    | 18, _ => exact Or.inl rfl
    | 19, _ => exact Or.inl rfl
    | 20, _ => exact Or.inl rfl
    | 21, _ => exact Or.inl rfl
    | 22, _ => exact Or.inl rfl
    | 23, _ => exact Or.inl rfl
    | 24, _ => exact Or.inl rfl
    | 25, _ => exact Or.inl rfl
    | k + 26, hk => exact absurd hk (by omega)
  · match k, hk with
    | 0, _ => rfl
    | 1, _ => rfl
    | 2, _ => rfl
    | 3, _ => rfl
    | 4, _ => rfl
    | 5, _ => rfl
    | 6, _ => rfl
    | 7, _ => rfl
    | 8, _ => rfl
    | 9, _ => rfl
    | 10, _ => rfl
    | 11, _ => rfl
    | 12, _ => rfl
    | 13, _ => rfl
    | 14, _ => rfl
    | 15, _ => rfl
    | 16, _ => rfl
    | 17, _ => rfl
    | 18, _ => rfl
    | 19, _ => rfl
    | 20, _ => rfl
    | 21, _ => rfl
    | 22, _ => rfl
    | 23, _ => rfl
    | 24, _ => rfl
    | 25, _ => rfl
    | 26, _ => rfl
    | 27, _ => rfl
    | 28, _ => rfl
    | 29, _ => rfl
    | 30, _ => rfl
    | 31, _ => rfl
    | 32, _ => rfl
    | 33, _ => rfl
    | 34, _ => rfl
    | 35, _ => rfl
    | 36, _ => rfl
    | 37, _ => rfl
    | 38, _ => rfl
    | 39, _ => rfl
    | 40, _ => rfl
    | 41, _ => rfl
    | 42, _ => rfl
    | 43, _ => rfl
    | 44, _ => rfl
    | 45, _ => rfl
    | 46, _ => rfl
    | 47, _ => rfl
    | 48, _ => rfl
    | 49, _ => rfl
    | 50, _ => rfl
    | 51, _ => rfl
    | 52, _ => rfl
    | 53, _ => rfl
    | 54, _ => rfl
    | 55, _ => rfl
    | 56, _ => rfl
    | 57, _ => rfl
    | 58, _ => rfl
    | 59, _ => rfl
    | 60, _ => rfl
    | 61, _ => rfl
    | 62, _ => rfl
    | 63, _ => rfl
    | 64, _ => rfl
    | 65, _ => rfl
    | 66, _ => rfl
    | 67, _ => rfl
    | 68, _ => rfl
    | 69, _ => rfl
    | 70, _ => rfl
    | 71, _ => rfl
    | 72, _ => rfl
    | 73, _ => rfl
    | 74, _ => rfl
    | 75, _ => rfl
    | k + 76, hk => exact absurd hk (by omega)
