theorem d_X_init_0 : decode b_X_init 0 = .ok (.aload_n 0, 1) := by decide +kernel
theorem d_X_init_1 : decode b_X_init 1 = .ok (.invokespecial 1, 3) := by decide +kernel
theorem d_X_init_4 : decode b_X_init 4 = .ok (.aload_n 0, 1) := by decide +kernel
theorem d_X_init_5 : decode b_X_init 5 = .ok (.bipush 6, 2) := by decide +kernel
theorem d_X_init_7 : decode b_X_init 7 = .ok (.anewarray 9, 3) := by decide +kernel
theorem d_X_init_10 : decode b_X_init 10 = .ok (.putfield 11, 3) := by decide +kernel
theorem d_X_init_13 : decode b_X_init 13 = .ok (.aload_n 0, 1) := by decide +kernel
theorem d_X_init_14 : decode b_X_init 14 = .ok (.iconst 4, 1) := by decide +kernel
theorem d_X_init_15 : decode b_X_init 15 = .ok (.anewarray 9, 3) := by decide +kernel
theorem d_X_init_18 : decode b_X_init 18 = .ok (.putfield 15, 3) := by decide +kernel
theorem d_X_init_21 : decode b_X_init 21 = .ok (.aload_n 0, 1) := by decide +kernel
theorem d_X_init_22 : decode b_X_init 22 = .ok (.new 18, 3) := by decide +kernel
theorem d_X_init_25 : decode b_X_init 25 = .ok (.dup, 1) := by decide +kernel
theorem d_X_init_26 : decode b_X_init 26 = .ok (.invokespecial 20, 3) := by decide +kernel
theorem d_X_init_29 : decode b_X_init 29 = .ok (.putfield 21, 3) := by decide +kernel
theorem d_X_init_32 : decode b_X_init 32 = .ok (.aload_n 0, 1) := by decide +kernel
theorem d_X_init_33 : decode b_X_init 33 = .ok (.iconst 3, 1) := by decide +kernel
theorem d_X_init_34 : decode b_X_init 34 = .ok (.anewarray 18, 3) := by decide +kernel
theorem d_X_init_37 : decode b_X_init 37 = .ok (.putfield 25, 3) := by decide +kernel
theorem d_X_init_40 : decode b_X_init 40 = .ok (.aload_n 0, 1) := by decide +kernel
theorem d_X_init_41 : decode b_X_init 41 = .ok (.iconst 3, 1) := by decide +kernel
theorem d_X_init_42 : decode b_X_init 42 = .ok (.newarray .boolean, 2) := by decide +kernel
theorem d_X_init_44 : decode b_X_init 44 = .ok (.putfield 29, 3) := by decide +kernel
theorem d_X_init_47 : decode b_X_init 47 = .ok (.aload_n 0, 1) := by decide +kernel
theorem d_X_init_48 : decode b_X_init 48 = .ok (.bipush 6, 2) := by decide +kernel
theorem d_X_init_50 : decode b_X_init 50 = .ok (.anewarray 33, 3) := by decide +kernel
theorem d_X_init_53 : decode b_X_init 53 = .ok (.dup, 1) := by decide +kernel
theorem d_X_init_54 : decode b_X_init 54 = .ok (.iconst 0, 1) := by decide +kernel
theorem d_X_init_55 : decode b_X_init 55 = .ok (.new 33, 3) := by decide +kernel
theorem d_X_init_58 : decode b_X_init 58 = .ok (.dup, 1) := by decide +kernel
theorem d_X_init_59 : decode b_X_init 59 = .ok (.invokespecial 35, 3) := by decide +kernel
theorem d_X_init_62 : decode b_X_init 62 = .ok (.aastore, 1) := by decide +kernel
theorem d_X_init_63 : decode b_X_init 63 = .ok (.dup, 1) := by decide +kernel
theorem d_X_init_64 : decode b_X_init 64 = .ok (.iconst 1, 1) := by decide +kernel
theorem d_X_init_65 : decode b_X_init 65 = .ok (.new 36, 3) := by decide +kernel
theorem d_X_init_68 : decode b_X_init 68 = .ok (.dup, 1) := by decide +kernel
theorem d_X_init_69 : decode b_X_init 69 = .ok (.invokespecial 38, 3) := by decide +kernel
theorem d_X_init_72 : decode b_X_init 72 = .ok (.aastore, 1) := by decide +kernel
theorem d_X_init_73 : decode b_X_init 73 = .ok (.dup, 1) := by decide +kernel
theorem d_X_init_74 : decode b_X_init 74 = .ok (.iconst 2, 1) := by decide +kernel
theorem d_X_init_75 : decode b_X_init 75 = .ok (.new 39, 3) := by decide +kernel
theorem d_X_init_78 : decode b_X_init 78 = .ok (.dup, 1) := by decide +kernel
theorem d_X_init_79 : decode b_X_init 79 = .ok (.invokespecial 41, 3) := by decide +kernel
theorem d_X_init_82 : decode b_X_init 82 = .ok (.aastore, 1) := by decide +kernel
theorem d_X_init_83 : decode b_X_init 83 = .ok (.dup, 1) := by decide +kernel
theorem d_X_init_84 : decode b_X_init 84 = .ok (.iconst 3, 1) := by decide +kernel
theorem d_X_init_85 : decode b_X_init 85 = .ok (.new 42, 3) := by decide +kernel
theorem d_X_init_88 : decode b_X_init 88 = .ok (.dup, 1) := by decide +kernel
theorem d_X_init_89 : decode b_X_init 89 = .ok (.invokespecial 44, 3) := by decide +kernel
theorem d_X_init_92 : decode b_X_init 92 = .ok (.aastore, 1) := by decide +kernel
theorem d_X_init_93 : decode b_X_init 93 = .ok (.dup, 1) := by decide +kernel
theorem d_X_init_94 : decode b_X_init 94 = .ok (.iconst 4, 1) := by decide +kernel
theorem d_X_init_95 : decode b_X_init 95 = .ok (.new 45, 3) := by decide +kernel
theorem d_X_init_98 : decode b_X_init 98 = .ok (.dup, 1) := by decide +kernel
theorem d_X_init_99 : decode b_X_init 99 = .ok (.invokespecial 47, 3) := by decide +kernel
theorem d_X_init_102 : decode b_X_init 102 = .ok (.aastore, 1) := by decide +kernel
theorem d_X_init_103 : decode b_X_init 103 = .ok (.dup, 1) := by decide +kernel
theorem d_X_init_104 : decode b_X_init 104 = .ok (.iconst 5, 1) := by decide +kernel
theorem d_X_init_105 : decode b_X_init 105 = .ok (.new 48, 3) := by decide +kernel
theorem d_X_init_108 : decode b_X_init 108 = .ok (.dup, 1) := by decide +kernel
theorem d_X_init_109 : decode b_X_init 109 = .ok (.invokespecial 50, 3) := by decide +kernel
theorem d_X_init_112 : decode b_X_init 112 = .ok (.aastore, 1) := by decide +kernel
theorem d_X_init_113 : decode b_X_init 113 = .ok (.putfield 51, 3) := by decide +kernel
theorem d_X_init_116 : decode b_X_init 116 = .ok (.aload_n 0, 1) := by decide +kernel
theorem d_X_init_117 : decode b_X_init 117 = .ok (.iconst 2, 1) := by decide +kernel
theorem d_X_init_118 : decode b_X_init 118 = .ok (.newarray .int, 2) := by decide +kernel
theorem d_X_init_120 : decode b_X_init 120 = .ok (.putfield 55, 3) := by decide +kernel
theorem d_X_init_123 : decode b_X_init 123 = .ok (.aload_n 0, 1) := by decide +kernel
theorem d_X_init_124 : decode b_X_init 124 = .ok (.new 59, 3) := by decide +kernel
theorem d_X_init_127 : decode b_X_init 127 = .ok (.dup, 1) := by decide +kernel
theorem d_X_init_128 : decode b_X_init 128 = .ok (.invokespecial 61, 3) := by decide +kernel
theorem d_X_init_131 : decode b_X_init 131 = .ok (.putfield 62, 3) := by decide +kernel
theorem d_X_init_134 : decode b_X_init 134 = .ok (.aload_n 0, 1) := by decide +kernel
theorem d_X_init_135 : decode b_X_init 135 = .ok (.new 66, 3) := by decide +kernel
theorem d_X_init_138 : decode b_X_init 138 = .ok (.dup, 1) := by decide +kernel
theorem d_X_init_139 : decode b_X_init 139 = .ok (.invokespecial 68, 3) := by decide +kernel
theorem d_X_init_142 : decode b_X_init 142 = .ok (.putfield 69, 3) := by decide +kernel
theorem d_X_init_145 : decode b_X_init 145 = .ok (.aload_n 0, 1) := by decide +kernel
theorem d_X_init_146 : decode b_X_init 146 = .ok (.new 73, 3) := by decide +kernel
theorem d_X_init_149 : decode b_X_init 149 = .ok (.dup, 1) := by decide +kernel
theorem d_X_init_150 : decode b_X_init 150 = .ok (.invokespecial 75, 3) := by decide +kernel
theorem d_X_init_153 : decode b_X_init 153 = .ok (.putfield 76, 3) := by decide +kernel
theorem d_X_init_156 : decode b_X_init 156 = .ok (.aload_n 0, 1) := by decide +kernel
theorem d_X_init_157 : decode b_X_init 157 = .ok (.lconst 1, 1) := by decide +kernel
theorem d_X_init_158 : decode b_X_init 158 = .ok (.putfield 80, 3) := by decide +kernel
theorem d_X_init_161 : decode b_X_init 161 = .ok (.aload_n 0, 1) := by decide +kernel
theorem d_X_init_162 : decode b_X_init 162 = .ok (.bipush 6, 2) := by decide +kernel
theorem d_X_init_164 : decode b_X_init 164 = .ok (.newarray .int, 2) := by decide +kernel
theorem d_X_init_166 : decode b_X_init 166 = .ok (.putfield 84, 3) := by decide +kernel
theorem d_X_init_169 : decode b_X_init 169 = .ok (.iconst 0, 1) := by decide +kernel
theorem d_X_init_170 : decode b_X_init 170 = .ok (.istore_n 1, 1) := by decide +kernel
theorem d_X_init_171 : decode b_X_init 171 = .ok (.iload_n 1, 1) := by decide +kernel
theorem d_X_init_172 : decode b_X_init 172 = .ok (.bipush 6, 2) := by decide +kernel
theorem d_X_init_174 : decode b_X_init 174 = .ok (.if_icmp .ge 22, 3) := by decide +kernel
theorem d_X_init_177 : decode b_X_init 177 = .ok (.aload_n 0, 1) := by decide +kernel
theorem d_X_init_178 : decode b_X_init 178 = .ok (.getfield 11, 3) := by decide +kernel
theorem d_X_init_181 : decode b_X_init 181 = .ok (.iload_n 1, 1) := by decide +kernel
theorem d_X_init_182 : decode b_X_init 182 = .ok (.new 9, 3) := by decide +kernel
theorem d_X_init_185 : decode b_X_init 185 = .ok (.dup, 1) := by decide +kernel
theorem d_X_init_186 : decode b_X_init 186 = .ok (.invokespecial 87, 3) := by decide +kernel
theorem d_X_init_189 : decode b_X_init 189 = .ok (.aastore, 1) := by decide +kernel
theorem d_X_init_190 : decode b_X_init 190 = .ok (.iinc 1 1, 3) := by decide +kernel
theorem d_X_init_193 : decode b_X_init 193 = .ok (.goto (-22), 3) := by decide +kernel
theorem d_X_init_196 : decode b_X_init 196 = .ok (.iconst 0, 1) := by decide +kernel
theorem d_X_init_197 : decode b_X_init 197 = .ok (.istore_n 1, 1) := by decide +kernel
theorem d_X_init_198 : decode b_X_init 198 = .ok (.iload_n 1, 1) := by decide +kernel
theorem d_X_init_199 : decode b_X_init 199 = .ok (.iconst 4, 1) := by decide +kernel
theorem d_X_init_200 : decode b_X_init 200 = .ok (.if_icmp .ge 22, 3) := by decide +kernel
theorem d_X_init_203 : decode b_X_init 203 = .ok (.aload_n 0, 1) := by decide +kernel
theorem d_X_init_204 : decode b_X_init 204 = .ok (.getfield 15, 3) := by decide +kernel
theorem d_X_init_207 : decode b_X_init 207 = .ok (.iload_n 1, 1) := by decide +kernel
theorem d_X_init_208 : decode b_X_init 208 = .ok (.new 9, 3) := by decide +kernel
theorem d_X_init_211 : decode b_X_init 211 = .ok (.dup, 1) := by decide +kernel
theorem d_X_init_212 : decode b_X_init 212 = .ok (.invokespecial 87, 3) := by decide +kernel
theorem d_X_init_215 : decode b_X_init 215 = .ok (.aastore, 1) := by decide +kernel
theorem d_X_init_216 : decode b_X_init 216 = .ok (.iinc 1 1, 3) := by decide +kernel
theorem d_X_init_219 : decode b_X_init 219 = .ok (.goto (-21), 3) := by decide +kernel
theorem d_X_init_222 : decode b_X_init 222 = .ok (.iconst 0, 1) := by decide +kernel
theorem d_X_init_223 : decode b_X_init 223 = .ok (.istore_n 1, 1) := by decide +kernel
theorem d_X_init_224 : decode b_X_init 224 = .ok (.iload_n 1, 1) := by decide +kernel
theorem d_X_init_225 : decode b_X_init 225 = .ok (.iconst 3, 1) := by decide +kernel
theorem d_X_init_226 : decode b_X_init 226 = .ok (.if_icmp .ge 22, 3) := by decide +kernel
theorem d_X_init_229 : decode b_X_init 229 = .ok (.aload_n 0, 1) := by decide +kernel
theorem d_X_init_230 : decode b_X_init 230 = .ok (.getfield 25, 3) := by decide +kernel
theorem d_X_init_233 : decode b_X_init 233 = .ok (.iload_n 1, 1) := by decide +kernel
theorem d_X_init_234 : decode b_X_init 234 = .ok (.new 18, 3) := by decide +kernel
theorem d_X_init_237 : decode b_X_init 237 = .ok (.dup, 1) := by decide +kernel
theorem d_X_init_238 : decode b_X_init 238 = .ok (.invokespecial 20, 3) := by decide +kernel
theorem d_X_init_241 : decode b_X_init 241 = .ok (.aastore, 1) := by decide +kernel
theorem d_X_init_242 : decode b_X_init 242 = .ok (.iinc 1 1, 3) := by decide +kernel
theorem d_X_init_245 : decode b_X_init 245 = .ok (.goto (-21), 3) := by decide +kernel
theorem d_X_init_248 : decode b_X_init 248 = .ok (.return_, 1) := by decide +kernel
theorem d_Gm_init_0 : decode b_Gm_init 0 = .ok (.aload_n 0, 1) := by decide +kernel
theorem d_Gm_init_1 : decode b_Gm_init 1 = .ok (.invokespecial 3, 3) := by decide +kernel
theorem d_Gm_init_4 : decode b_Gm_init 4 = .ok (.aload_n 0, 1) := by decide +kernel
theorem d_Gm_init_5 : decode b_Gm_init 5 = .ok (.bipush 13, 2) := by decide +kernel
theorem d_Gm_init_7 : decode b_Gm_init 7 = .ok (.newarray .int, 2) := by decide +kernel
theorem d_Gm_init_9 : decode b_Gm_init 9 = .ok (.putfield 9, 3) := by decide +kernel
theorem d_Gm_init_12 : decode b_Gm_init 12 = .ok (.aload_n 0, 1) := by decide +kernel
theorem d_Gm_init_13 : decode b_Gm_init 13 = .ok (.lconst 1, 1) := by decide +kernel
theorem d_Gm_init_14 : decode b_Gm_init 14 = .ok (.putfield 15, 3) := by decide +kernel
theorem d_Gm_init_17 : decode b_Gm_init 17 = .ok (.return_, 1) := by decide +kernel
theorem d_Pl_init_0 : decode b_Pl_init 0 = .ok (.aload_n 0, 1) := by decide +kernel
theorem d_Pl_init_1 : decode b_Pl_init 1 = .ok (.invokespecial 1, 3) := by decide +kernel
theorem d_Pl_init_4 : decode b_Pl_init 4 = .ok (.return_, 1) := by decide +kernel
theorem d_Sm_init_0 : decode b_Sm_init 0 = .ok (.aload_n 0, 1) := by decide +kernel
theorem d_Sm_init_1 : decode b_Sm_init 1 = .ok (.invokespecial 3, 3) := by decide +kernel
theorem d_Sm_init_4 : decode b_Sm_init 4 = .ok (.return_, 1) := by decide +kernel
theorem d_Pr_init_0 : decode b_Pr_init 0 = .ok (.aload_n 0, 1) := by decide +kernel
theorem d_Pr_init_1 : decode b_Pr_init 1 = .ok (.invokespecial 1, 3) := by decide +kernel
theorem d_Pr_init_4 : decode b_Pr_init 4 = .ok (.return_, 1) := by decide +kernel
theorem d_Bs_init_0 : decode b_Bs_init 0 = .ok (.aload_n 0, 1) := by decide +kernel
theorem d_Bs_init_1 : decode b_Bs_init 1 = .ok (.invokespecial 1, 3) := by decide +kernel
theorem d_Bs_init_4 : decode b_Bs_init 4 = .ok (.return_, 1) := by decide +kernel
theorem d_Lo_init_0 : decode b_Lo_init 0 = .ok (.aload_n 0, 1) := by decide +kernel
theorem d_Lo_init_1 : decode b_Lo_init 1 = .ok (.invokespecial 1, 3) := by decide +kernel
theorem d_Lo_init_4 : decode b_Lo_init 4 = .ok (.return_, 1) := by decide +kernel
theorem d_Ch_init_0 : decode b_Ch_init 0 = .ok (.aload_n 0, 1) := by decide +kernel
theorem d_Ch_init_1 : decode b_Ch_init 1 = .ok (.invokespecial 1, 3) := by decide +kernel
theorem d_Ch_init_4 : decode b_Ch_init 4 = .ok (.return_, 1) := by decide +kernel
theorem d_Rd_init_0 : decode b_Rd_init 0 = .ok (.aload_n 0, 1) := by decide +kernel
theorem d_Rd_init_1 : decode b_Rd_init 1 = .ok (.invokespecial 3, 3) := by decide +kernel
theorem d_Rd_init_4 : decode b_Rd_init 4 = .ok (.aload_n 0, 1) := by decide +kernel
theorem d_Rd_init_5 : decode b_Rd_init 5 = .ok (.new 9, 3) := by decide +kernel
theorem d_Rd_init_8 : decode b_Rd_init 8 = .ok (.dup, 1) := by decide +kernel
theorem d_Rd_init_9 : decode b_Rd_init 9 = .ok (.invokespecial 11, 3) := by decide +kernel
theorem d_Rd_init_12 : decode b_Rd_init 12 = .ok (.putfield 12, 3) := by decide +kernel
theorem d_Rd_init_15 : decode b_Rd_init 15 = .ok (.aload_n 0, 1) := by decide +kernel
theorem d_Rd_init_16 : decode b_Rd_init 16 = .ok (.iconst 2, 1) := by decide +kernel
theorem d_Rd_init_17 : decode b_Rd_init 17 = .ok (.newarray .int, 2) := by decide +kernel
theorem d_Rd_init_19 : decode b_Rd_init 19 = .ok (.putfield 18, 3) := by decide +kernel
theorem d_Rd_init_22 : decode b_Rd_init 22 = .ok (.return_, 1) := by decide +kernel
theorem d_Su_init_0 : decode b_Su_init 0 = .ok (.aload_n 0, 1) := by decide +kernel
theorem d_Su_init_1 : decode b_Su_init 1 = .ok (.invokespecial 3, 3) := by decide +kernel
theorem d_Su_init_4 : decode b_Su_init 4 = .ok (.aload_n 0, 1) := by decide +kernel
theorem d_Su_init_5 : decode b_Su_init 5 = .ok (.bipush 60, 2) := by decide +kernel
theorem d_Su_init_7 : decode b_Su_init 7 = .ok (.newarray .int, 2) := by decide +kernel
theorem d_Su_init_9 : decode b_Su_init 9 = .ok (.putfield 9, 3) := by decide +kernel
theorem d_Su_init_12 : decode b_Su_init 12 = .ok (.aload_n 0, 1) := by decide +kernel
theorem d_Su_init_13 : decode b_Su_init 13 = .ok (.bipush 60, 2) := by decide +kernel
theorem d_Su_init_15 : decode b_Su_init 15 = .ok (.newarray .int, 2) := by decide +kernel
theorem d_Su_init_17 : decode b_Su_init 17 = .ok (.putfield 15, 3) := by decide +kernel
theorem d_Su_init_20 : decode b_Su_init 20 = .ok (.aload_n 0, 1) := by decide +kernel
theorem d_Su_init_21 : decode b_Su_init 21 = .ok (.sipush 4001, 3) := by decide +kernel
theorem d_Su_init_24 : decode b_Su_init 24 = .ok (.newarray .int, 2) := by decide +kernel
theorem d_Su_init_26 : decode b_Su_init 26 = .ok (.putfield 18, 3) := by decide +kernel
theorem d_Su_init_29 : decode b_Su_init 29 = .ok (.aload_n 0, 1) := by decide +kernel
theorem d_Su_init_30 : decode b_Su_init 30 = .ok (.sipush 401, 3) := by decide +kernel
theorem d_Su_init_33 : decode b_Su_init 33 = .ok (.newarray .long, 2) := by decide +kernel
theorem d_Su_init_35 : decode b_Su_init 35 = .ok (.putfield 21, 3) := by decide +kernel
theorem d_Su_init_38 : decode b_Su_init 38 = .ok (.aload_n 0, 1) := by decide +kernel
theorem d_Su_init_39 : decode b_Su_init 39 = .ok (.bipush 21, 2) := by decide +kernel
theorem d_Su_init_41 : decode b_Su_init 41 = .ok (.sipush 401, 3) := by decide +kernel
theorem d_Su_init_44 : decode b_Su_init 44 = .ok (.multianewarray 25 2, 4) := by decide +kernel
theorem d_Su_init_48 : decode b_Su_init 48 = .ok (.putfield 27, 3) := by decide +kernel
theorem d_Su_init_51 : decode b_Su_init 51 = .ok (.return_, 1) := by decide +kernel
theorem d_So_init_0 : decode b_So_init 0 = .ok (.aload_n 0, 1) := by decide +kernel
theorem d_So_init_1 : decode b_So_init 1 = .ok (.invokespecial 3, 3) := by decide +kernel
theorem d_So_init_4 : decode b_So_init 4 = .ok (.aload_n 0, 1) := by decide +kernel
theorem d_So_init_5 : decode b_So_init 5 = .ok (.sipush 1024, 3) := by decide +kernel
theorem d_So_init_8 : decode b_So_init 8 = .ok (.newarray .int, 2) := by decide +kernel
theorem d_So_init_10 : decode b_So_init 10 = .ok (.putfield 11, 3) := by decide +kernel
theorem d_So_init_13 : decode b_So_init 13 = .ok (.aload_n 0, 1) := by decide +kernel
theorem d_So_init_14 : decode b_So_init 14 = .ok (.sipush 1024, 3) := by decide +kernel
theorem d_So_init_17 : decode b_So_init 17 = .ok (.newarray .int, 2) := by decide +kernel
theorem d_So_init_19 : decode b_So_init 19 = .ok (.putfield 15, 3) := by decide +kernel
theorem d_So_init_22 : decode b_So_init 22 = .ok (.return_, 1) := by decide +kernel
theorem d_Rw_init_0 : decode b_Rw_init 0 = .ok (.aload_n 0, 1) := by decide +kernel
theorem d_Rw_init_1 : decode b_Rw_init 1 = .ok (.invokespecial 3, 3) := by decide +kernel
theorem d_Rw_init_4 : decode b_Rw_init 4 = .ok (.aload_n 0, 1) := by decide +kernel
theorem d_Rw_init_5 : decode b_Rw_init 5 = .ok (.bipush 60, 2) := by decide +kernel
theorem d_Rw_init_7 : decode b_Rw_init 7 = .ok (.newarray .int, 2) := by decide +kernel
theorem d_Rw_init_9 : decode b_Rw_init 9 = .ok (.putfield 9, 3) := by decide +kernel
theorem d_Rw_init_12 : decode b_Rw_init 12 = .ok (.aload_n 0, 1) := by decide +kernel
theorem d_Rw_init_13 : decode b_Rw_init 13 = .ok (.iconst (-1), 1) := by decide +kernel
theorem d_Rw_init_14 : decode b_Rw_init 14 = .ok (.putfield 15, 3) := by decide +kernel
theorem d_Rw_init_17 : decode b_Rw_init 17 = .ok (.return_, 1) := by decide +kernel
theorem d_X_row_0 : decode b_X_row 0 = .ok (.aload_n 0, 1) := by decide +kernel
theorem d_X_row_1 : decode b_X_row 1 = .ok (.aload_n 0, 1) := by decide +kernel
theorem d_X_row_2 : decode b_X_row 2 = .ok (.getfield 11, 3) := by decide +kernel
theorem d_X_row_5 : decode b_X_row 5 = .ok (.iload_n 1, 1) := by decide +kernel
theorem d_X_row_6 : decode b_X_row 6 = .ok (.iload_n 2, 1) := by decide +kernel
theorem d_X_row_7 : decode b_X_row 7 = .ok (.iconst 0, 1) := by decide +kernel
theorem d_X_row_8 : decode b_X_row 8 = .ok (.invokevirtual 88, 3) := by decide +kernel
theorem d_X_row_11 : decode b_X_row 11 = .ok (.ireturn, 1) := by decide +kernel
theorem d_X_begin_0 : decode b_X_begin 0 = .ok (.iload_n 2, 1) := by decide +kernel
theorem d_X_begin_1 : decode b_X_begin 1 = .ok (.aload_n 1, 1) := by decide +kernel
theorem d_X_begin_2 : decode b_X_begin 2 = .ok (.arraylength, 1) := by decide +kernel
theorem d_X_begin_3 : decode b_X_begin 3 = .ok (.invokestatic 110, 3) := by decide +kernel
theorem d_X_begin_6 : decode b_X_begin 6 = .ok (.ifCond .eq 9, 3) := by decide +kernel
theorem d_X_begin_9 : decode b_X_begin 9 = .ok (.iload_n 3, 1) := by decide +kernel
theorem d_X_begin_10 : decode b_X_begin 10 = .ok (.bipush 60, 2) := by decide +kernel
theorem d_X_begin_12 : decode b_X_begin 12 = .ok (.if_icmp .le 5, 3) := by decide +kernel
theorem d_X_begin_15 : decode b_X_begin 15 = .ok (.iconst (-1), 1) := by decide +kernel
theorem d_X_begin_16 : decode b_X_begin 16 = .ok (.ireturn, 1) := by decide +kernel
theorem d_X_begin_17 : decode b_X_begin 17 = .ok (.iload_n 3, 1) := by decide +kernel
theorem d_X_begin_18 : decode b_X_begin 18 = .ok (.ifCond .ge 9, 3) := by decide +kernel
theorem d_X_begin_21 : decode b_X_begin 21 = .ok (.aload_n 0, 1) := by decide +kernel
theorem d_X_begin_22 : decode b_X_begin 22 = .ok (.iconst 5, 1) := by decide +kernel
theorem d_X_begin_23 : decode b_X_begin 23 = .ok (.invokevirtual 114, 3) := by decide +kernel
theorem d_X_begin_26 : decode b_X_begin 26 = .ok (.ireturn, 1) := by decide +kernel
theorem d_X_begin_27 : decode b_X_begin 27 = .ok (.aload_n 1, 1) := by decide +kernel
theorem d_X_begin_28 : decode b_X_begin 28 = .ok (.iload_n 2, 1) := by decide +kernel
theorem d_X_begin_29 : decode b_X_begin 29 = .ok (.aaload, 1) := by decide +kernel
theorem d_X_begin_30 : decode b_X_begin 30 = .ok (.iload_n 3, 1) := by decide +kernel
theorem d_X_begin_31 : decode b_X_begin 31 = .ok (.iload 4, 2) := by decide +kernel
theorem d_X_begin_33 : decode b_X_begin 33 = .ok (.invokevirtual 238, 3) := by decide +kernel
theorem d_X_begin_36 : decode b_X_begin 36 = .ok (.iload_n 3, 1) := by decide +kernel
theorem d_X_begin_37 : decode b_X_begin 37 = .ok (.ireturn, 1) := by decide +kernel
theorem d_X_isIn_0 : decode b_X_isIn 0 = .ok (.iload_n 0, 1) := by decide +kernel
theorem d_X_isIn_1 : decode b_X_isIn 1 = .ok (.ifCond .lt 12, 3) := by decide +kernel
theorem d_X_isIn_4 : decode b_X_isIn 4 = .ok (.iload_n 0, 1) := by decide +kernel
theorem d_X_isIn_5 : decode b_X_isIn 5 = .ok (.iload_n 1, 1) := by decide +kernel
theorem d_X_isIn_6 : decode b_X_isIn 6 = .ok (.if_icmp .ge 7, 3) := by decide +kernel
theorem d_X_isIn_9 : decode b_X_isIn 9 = .ok (.iconst 1, 1) := by decide +kernel
theorem d_X_isIn_10 : decode b_X_isIn 10 = .ok (.goto 4, 3) := by decide +kernel
theorem d_X_isIn_13 : decode b_X_isIn 13 = .ok (.iconst 0, 1) := by decide +kernel
theorem d_X_isIn_14 : decode b_X_isIn 14 = .ok (.ireturn, 1) := by decide +kernel
theorem d_X_found_0 : decode b_X_found 0 = .ok (.aload_n 0, 1) := by decide +kernel
theorem d_X_found_1 : decode b_X_found 1 = .ok (.iload_n 1, 1) := by decide +kernel
theorem d_X_found_2 : decode b_X_found 2 = .ok (.putfield 302, 3) := by decide +kernel
theorem d_X_found_5 : decode b_X_found 5 = .ok (.aload_n 0, 1) := by decide +kernel
theorem d_X_found_6 : decode b_X_found 6 = .ok (.getfield 84, 3) := by decide +kernel
theorem d_X_found_9 : decode b_X_found 9 = .ok (.iload_n 1, 1) := by decide +kernel
theorem d_X_found_10 : decode b_X_found 10 = .ok (.dup2, 1) := by decide +kernel
theorem d_X_found_11 : decode b_X_found 11 = .ok (.iaload, 1) := by decide +kernel
theorem d_X_found_12 : decode b_X_found 12 = .ok (.iconst 1, 1) := by decide +kernel
theorem d_X_found_13 : decode b_X_found 13 = .ok (.iadd, 1) := by decide +kernel
theorem d_X_found_14 : decode b_X_found 14 = .ok (.iastore, 1) := by decide +kernel
theorem d_X_found_15 : decode b_X_found 15 = .ok (.bipush (-3), 2) := by decide +kernel
theorem d_X_found_17 : decode b_X_found 17 = .ok (.ireturn, 1) := by decide +kernel
theorem d_Rw_begin_0 : decode b_Rw_begin 0 = .ok (.aload_n 0, 1) := by decide +kernel
theorem d_Rw_begin_1 : decode b_Rw_begin 1 = .ok (.getfield 9, 3) := by decide +kernel
theorem d_Rw_begin_4 : decode b_Rw_begin 4 = .ok (.iload_n 2, 1) := by decide +kernel
theorem d_Rw_begin_5 : decode b_Rw_begin 5 = .ok (.invokestatic 19, 3) := by decide +kernel
theorem d_Rw_begin_8 : decode b_Rw_begin 8 = .ok (.aload_n 0, 1) := by decide +kernel
theorem d_Rw_begin_9 : decode b_Rw_begin 9 = .ok (.iload_n 1, 1) := by decide +kernel
theorem d_Rw_begin_10 : decode b_Rw_begin 10 = .ok (.putfield 15, 3) := by decide +kernel
theorem d_Rw_begin_13 : decode b_Rw_begin 13 = .ok (.return_, 1) := by decide +kernel
theorem d_Ar_fillI_0 : decode b_Ar_fillI 0 = .ok (.iconst 0, 1) := by decide +kernel
theorem d_Ar_fillI_1 : decode b_Ar_fillI 1 = .ok (.istore_n 2, 1) := by decide +kernel
theorem d_Ar_fillI_2 : decode b_Ar_fillI 2 = .ok (.aload_n 0, 1) := by decide +kernel
theorem d_Ar_fillI_3 : decode b_Ar_fillI 3 = .ok (.arraylength, 1) := by decide +kernel
theorem d_Ar_fillI_4 : decode b_Ar_fillI 4 = .ok (.istore_n 3, 1) := by decide +kernel
theorem d_Ar_fillI_5 : decode b_Ar_fillI 5 = .ok (.iload_n 2, 1) := by decide +kernel
theorem d_Ar_fillI_6 : decode b_Ar_fillI 6 = .ok (.iload_n 3, 1) := by decide +kernel
theorem d_Ar_fillI_7 : decode b_Ar_fillI 7 = .ok (.if_icmp .ge 13, 3) := by decide +kernel
theorem d_Ar_fillI_10 : decode b_Ar_fillI 10 = .ok (.aload_n 0, 1) := by decide +kernel
theorem d_Ar_fillI_11 : decode b_Ar_fillI 11 = .ok (.iload_n 2, 1) := by decide +kernel
theorem d_Ar_fillI_12 : decode b_Ar_fillI 12 = .ok (.iload_n 1, 1) := by decide +kernel
theorem d_Ar_fillI_13 : decode b_Ar_fillI 13 = .ok (.iastore, 1) := by decide +kernel
theorem d_Ar_fillI_14 : decode b_Ar_fillI 14 = .ok (.iinc 2 1, 3) := by decide +kernel
theorem d_Ar_fillI_17 : decode b_Ar_fillI 17 = .ok (.goto (-12), 3) := by decide +kernel
theorem d_Ar_fillI_20 : decode b_Ar_fillI 20 = .ok (.return_, 1) := by decide +kernel
theorem d_X_lay_0 : decode b_X_lay 0 = .ok (.aload_n 0, 1) := by decide +kernel
theorem d_X_lay_1 : decode b_X_lay 1 = .ok (.aload_n 0, 1) := by decide +kernel
theorem d_X_lay_2 : decode b_X_lay 2 = .ok (.getfield 11, 3) := by decide +kernel
theorem d_X_lay_5 : decode b_X_lay 5 = .ok (.iload_n 1, 1) := by decide +kernel
theorem d_X_lay_6 : decode b_X_lay 6 = .ok (.iload_n 2, 1) := by decide +kernel
theorem d_X_lay_7 : decode b_X_lay 7 = .ok (.invokevirtual 92, 3) := by decide +kernel
theorem d_X_lay_10 : decode b_X_lay 10 = .ok (.istore 4, 2) := by decide +kernel
theorem d_X_lay_12 : decode b_X_lay 12 = .ok (.iload 4, 2) := by decide +kernel
theorem d_X_lay_14 : decode b_X_lay 14 = .ok (.ifCond .eq 6, 3) := by decide +kernel
theorem d_X_lay_17 : decode b_X_lay 17 = .ok (.iload 4, 2) := by decide +kernel
theorem d_X_lay_19 : decode b_X_lay 19 = .ok (.ireturn, 1) := by decide +kernel
theorem d_X_lay_20 : decode b_X_lay 20 = .ok (.aload_n 0, 1) := by decide +kernel
theorem d_X_lay_21 : decode b_X_lay 21 = .ok (.aload_n 0, 1) := by decide +kernel
theorem d_X_lay_22 : decode b_X_lay 22 = .ok (.getfield 11, 3) := by decide +kernel
theorem d_X_lay_25 : decode b_X_lay 25 = .ok (.iload_n 1, 1) := by decide +kernel
theorem d_X_lay_26 : decode b_X_lay 26 = .ok (.aaload, 1) := by decide +kernel
theorem d_X_lay_27 : decode b_X_lay 27 = .ok (.getfield 96, 3) := by decide +kernel
theorem d_X_lay_30 : decode b_X_lay 30 = .ok (.iload_n 2, 1) := by decide +kernel
theorem d_X_lay_31 : decode b_X_lay 31 = .ok (.iaload, 1) := by decide +kernel
theorem d_X_lay_32 : decode b_X_lay 32 = .ok (.putfield 99, 3) := by decide +kernel
theorem d_X_lay_35 : decode b_X_lay 35 = .ok (.aload_n 0, 1) := by decide +kernel
theorem d_X_lay_36 : decode b_X_lay 36 = .ok (.getfield 11, 3) := by decide +kernel
theorem d_X_lay_39 : decode b_X_lay 39 = .ok (.iload_n 1, 1) := by decide +kernel
theorem d_X_lay_40 : decode b_X_lay 40 = .ok (.aaload, 1) := by decide +kernel
theorem d_X_lay_41 : decode b_X_lay 41 = .ok (.getfield 96, 3) := by decide +kernel
theorem d_X_lay_44 : decode b_X_lay 44 = .ok (.iload_n 2, 1) := by decide +kernel
theorem d_X_lay_45 : decode b_X_lay 45 = .ok (.iload_n 3, 1) := by decide +kernel
theorem d_X_lay_46 : decode b_X_lay 46 = .ok (.iastore, 1) := by decide +kernel
theorem d_X_lay_47 : decode b_X_lay 47 = .ok (.iconst 1, 1) := by decide +kernel
theorem d_X_lay_48 : decode b_X_lay 48 = .ok (.ireturn, 1) := by decide +kernel
theorem d_X_refusedPlace_0 : decode b_X_refusedPlace 0 = .ok (.aload_n 0, 1) := by decide +kernel
theorem d_X_refusedPlace_1 : decode b_X_refusedPlace 1 = .ok (.aload_n 1, 1) := by decide +kernel
theorem d_X_refusedPlace_2 : decode b_X_refusedPlace 2 = .ok (.iload_n 2, 1) := by decide +kernel
theorem d_X_refusedPlace_3 : decode b_X_refusedPlace 3 = .ok (.invokevirtual 103, 3) := by decide +kernel
theorem d_X_refusedPlace_6 : decode b_X_refusedPlace 6 = .ok (.istore 4, 2) := by decide +kernel
theorem d_X_refusedPlace_8 : decode b_X_refusedPlace 8 = .ok (.iload 4, 2) := by decide +kernel
theorem d_X_refusedPlace_10 : decode b_X_refusedPlace 10 = .ok (.ifCond .eq 6, 3) := by decide +kernel
theorem d_X_refusedPlace_13 : decode b_X_refusedPlace 13 = .ok (.iload 4, 2) := by decide +kernel
theorem d_X_refusedPlace_15 : decode b_X_refusedPlace 15 = .ok (.ireturn, 1) := by decide +kernel
theorem d_X_refusedPlace_16 : decode b_X_refusedPlace 16 = .ok (.iload_n 3, 1) := by decide +kernel
theorem d_X_refusedPlace_17 : decode b_X_refusedPlace 17 = .ok (.aload_n 1, 1) := by decide +kernel
theorem d_X_refusedPlace_18 : decode b_X_refusedPlace 18 = .ok (.iload_n 2, 1) := by decide +kernel
theorem d_X_refusedPlace_19 : decode b_X_refusedPlace 19 = .ok (.aaload, 1) := by decide +kernel
theorem d_X_refusedPlace_20 : decode b_X_refusedPlace 20 = .ok (.getfield 107, 3) := by decide +kernel
theorem d_X_refusedPlace_23 : decode b_X_refusedPlace 23 = .ok (.invokestatic 110, 3) := by decide +kernel
theorem d_X_refusedPlace_26 : decode b_X_refusedPlace 26 = .ok (.ifCond .eq 7, 3) := by decide +kernel
theorem d_X_refusedPlace_29 : decode b_X_refusedPlace 29 = .ok (.iconst 0, 1) := by decide +kernel
theorem d_X_refusedPlace_30 : decode b_X_refusedPlace 30 = .ok (.goto 8, 3) := by decide +kernel
theorem d_X_refusedPlace_33 : decode b_X_refusedPlace 33 = .ok (.aload_n 0, 1) := by decide +kernel
theorem d_X_refusedPlace_34 : decode b_X_refusedPlace 34 = .ok (.iconst 2, 1) := by decide +kernel
theorem d_X_refusedPlace_35 : decode b_X_refusedPlace 35 = .ok (.invokevirtual 114, 3) := by decide +kernel
theorem d_X_refusedPlace_38 : decode b_X_refusedPlace 38 = .ok (.ireturn, 1) := by decide +kernel
theorem d_X_refusedRow_0 : decode b_X_refusedRow 0 = .ok (.iload_n 2, 1) := by decide +kernel
theorem d_X_refusedRow_1 : decode b_X_refusedRow 1 = .ok (.aload_n 1, 1) := by decide +kernel
theorem d_X_refusedRow_2 : decode b_X_refusedRow 2 = .ok (.arraylength, 1) := by decide +kernel
theorem d_X_refusedRow_3 : decode b_X_refusedRow 3 = .ok (.invokestatic 110, 3) := by decide +kernel
theorem d_X_refusedRow_6 : decode b_X_refusedRow 6 = .ok (.ifCond .ne 5, 3) := by decide +kernel
theorem d_X_refusedRow_9 : decode b_X_refusedRow 9 = .ok (.iconst (-1), 1) := by decide +kernel
theorem d_X_refusedRow_10 : decode b_X_refusedRow 10 = .ok (.ireturn, 1) := by decide +kernel
theorem d_X_refusedRow_11 : decode b_X_refusedRow 11 = .ok (.aload_n 1, 1) := by decide +kernel
theorem d_X_refusedRow_12 : decode b_X_refusedRow 12 = .ok (.iload_n 2, 1) := by decide +kernel
theorem d_X_refusedRow_13 : decode b_X_refusedRow 13 = .ok (.aaload, 1) := by decide +kernel
theorem d_X_refusedRow_14 : decode b_X_refusedRow 14 = .ok (.invokevirtual 118, 3) := by decide +kernel
theorem d_X_refusedRow_17 : decode b_X_refusedRow 17 = .ok (.ifCond .eq 7, 3) := by decide +kernel
theorem d_X_refusedRow_20 : decode b_X_refusedRow 20 = .ok (.iconst 0, 1) := by decide +kernel
theorem d_X_refusedRow_21 : decode b_X_refusedRow 21 = .ok (.goto 8, 3) := by decide +kernel
theorem d_X_refusedRow_24 : decode b_X_refusedRow 24 = .ok (.aload_n 0, 1) := by decide +kernel
theorem d_X_refusedRow_25 : decode b_X_refusedRow 25 = .ok (.iconst 1, 1) := by decide +kernel
theorem d_X_refusedRow_26 : decode b_X_refusedRow 26 = .ok (.invokevirtual 114, 3) := by decide +kernel
theorem d_X_refusedRow_29 : decode b_X_refusedRow 29 = .ok (.ireturn, 1) := by decide +kernel
theorem d_Rw_isThere_0 : decode b_Rw_isThere 0 = .ok (.aload_n 0, 1) := by decide +kernel
theorem d_Rw_isThere_1 : decode b_Rw_isThere 1 = .ok (.getfield 15, 3) := by decide +kernel
theorem d_Rw_isThere_4 : decode b_Rw_isThere 4 = .ok (.ifCond .lt 7, 3) := by decide +kernel
theorem d_Rw_isThere_7 : decode b_Rw_isThere 7 = .ok (.iconst 1, 1) := by decide +kernel
theorem d_Rw_isThere_8 : decode b_Rw_isThere 8 = .ok (.goto 4, 3) := by decide +kernel
theorem d_Rw_isThere_11 : decode b_Rw_isThere 11 = .ok (.iconst 0, 1) := by decide +kernel
theorem d_Rw_isThere_12 : decode b_Rw_isThere 12 = .ok (.ireturn, 1) := by decide +kernel
theorem d_X_at_0 : decode b_X_at 0 = .ok (.aload_n 0, 1) := by decide +kernel
theorem d_X_at_1 : decode b_X_at 1 = .ok (.aload_n 0, 1) := by decide +kernel
theorem d_X_at_2 : decode b_X_at 2 = .ok (.getfield 11, 3) := by decide +kernel
theorem d_X_at_5 : decode b_X_at 5 = .ok (.iload_n 1, 1) := by decide +kernel
theorem d_X_at_6 : decode b_X_at 6 = .ok (.iload_n 2, 1) := by decide +kernel
theorem d_X_at_7 : decode b_X_at 7 = .ok (.invokevirtual 92, 3) := by decide +kernel
theorem d_X_at_10 : decode b_X_at 10 = .ok (.istore_n 3, 1) := by decide +kernel
theorem d_X_at_11 : decode b_X_at 11 = .ok (.iload_n 3, 1) := by decide +kernel
theorem d_X_at_12 : decode b_X_at 12 = .ok (.ifCond .eq 5, 3) := by decide +kernel
theorem d_X_at_15 : decode b_X_at 15 = .ok (.iload_n 3, 1) := by decide +kernel
theorem d_X_at_16 : decode b_X_at 16 = .ok (.ireturn, 1) := by decide +kernel
theorem d_X_at_17 : decode b_X_at 17 = .ok (.aload_n 0, 1) := by decide +kernel
theorem d_X_at_18 : decode b_X_at 18 = .ok (.aload_n 0, 1) := by decide +kernel
theorem d_X_at_19 : decode b_X_at 19 = .ok (.getfield 11, 3) := by decide +kernel
theorem d_X_at_22 : decode b_X_at 22 = .ok (.iload_n 1, 1) := by decide +kernel
theorem d_X_at_23 : decode b_X_at 23 = .ok (.aaload, 1) := by decide +kernel
theorem d_X_at_24 : decode b_X_at 24 = .ok (.getfield 96, 3) := by decide +kernel
theorem d_X_at_27 : decode b_X_at 27 = .ok (.iload_n 2, 1) := by decide +kernel
theorem d_X_at_28 : decode b_X_at 28 = .ok (.iaload, 1) := by decide +kernel
theorem d_X_at_29 : decode b_X_at 29 = .ok (.putfield 99, 3) := by decide +kernel
theorem d_X_at_32 : decode b_X_at 32 = .ok (.iconst 1, 1) := by decide +kernel
theorem d_X_at_33 : decode b_X_at 33 = .ok (.ireturn, 1) := by decide +kernel
theorem d_X_tear_0 : decode b_X_tear 0 = .ok (.aload_n 0, 1) := by decide +kernel
theorem d_X_tear_1 : decode b_X_tear 1 = .ok (.aload_n 0, 1) := by decide +kernel
theorem d_X_tear_2 : decode b_X_tear 2 = .ok (.getfield 11, 3) := by decide +kernel
theorem d_X_tear_5 : decode b_X_tear 5 = .ok (.iload_n 1, 1) := by decide +kernel
theorem d_X_tear_6 : decode b_X_tear 6 = .ok (.invokevirtual 103, 3) := by decide +kernel
theorem d_X_tear_9 : decode b_X_tear 9 = .ok (.istore_n 2, 1) := by decide +kernel
theorem d_X_tear_10 : decode b_X_tear 10 = .ok (.iload_n 2, 1) := by decide +kernel
theorem d_X_tear_11 : decode b_X_tear 11 = .ok (.ifCond .eq 5, 3) := by decide +kernel
theorem d_X_tear_14 : decode b_X_tear 14 = .ok (.iload_n 2, 1) := by decide +kernel
theorem d_X_tear_15 : decode b_X_tear 15 = .ok (.ireturn, 1) := by decide +kernel
theorem d_X_tear_16 : decode b_X_tear 16 = .ok (.aload_n 0, 1) := by decide +kernel
theorem d_X_tear_17 : decode b_X_tear 17 = .ok (.getfield 11, 3) := by decide +kernel
theorem d_X_tear_20 : decode b_X_tear 20 = .ok (.iload_n 1, 1) := by decide +kernel
theorem d_X_tear_21 : decode b_X_tear 21 = .ok (.aaload, 1) := by decide +kernel
theorem d_X_tear_22 : decode b_X_tear 22 = .ok (.iconst (-1), 1) := by decide +kernel
theorem d_X_tear_23 : decode b_X_tear 23 = .ok (.putfield 107, 3) := by decide +kernel
theorem d_X_tear_26 : decode b_X_tear 26 = .ok (.iconst 1, 1) := by decide +kernel
theorem d_X_tear_27 : decode b_X_tear 27 = .ok (.ireturn, 1) := by decide +kernel
theorem d_X_copy_0 : decode b_X_copy 0 = .ok (.iload_n 1, 1) := by decide +kernel
theorem d_X_copy_1 : decode b_X_copy 1 = .ok (.aload_n 0, 1) := by decide +kernel
theorem d_X_copy_2 : decode b_X_copy 2 = .ok (.getfield 11, 3) := by decide +kernel
theorem d_X_copy_5 : decode b_X_copy 5 = .ok (.arraylength, 1) := by decide +kernel
theorem d_X_copy_6 : decode b_X_copy 6 = .ok (.invokestatic 110, 3) := by decide +kernel
theorem d_X_copy_9 : decode b_X_copy 9 = .ok (.ifCond .eq 15, 3) := by decide +kernel
theorem d_X_copy_12 : decode b_X_copy 12 = .ok (.iload_n 3, 1) := by decide +kernel
theorem d_X_copy_13 : decode b_X_copy 13 = .ok (.aload_n 0, 1) := by decide +kernel
theorem d_X_copy_14 : decode b_X_copy 14 = .ok (.getfield 11, 3) := by decide +kernel
theorem d_X_copy_17 : decode b_X_copy 17 = .ok (.arraylength, 1) := by decide +kernel
theorem d_X_copy_18 : decode b_X_copy 18 = .ok (.invokestatic 110, 3) := by decide +kernel
theorem d_X_copy_21 : decode b_X_copy 21 = .ok (.ifCond .ne 5, 3) := by decide +kernel
theorem d_X_copy_24 : decode b_X_copy 24 = .ok (.iconst (-1), 1) := by decide +kernel
theorem d_X_copy_25 : decode b_X_copy 25 = .ok (.ireturn, 1) := by decide +kernel
theorem d_X_copy_26 : decode b_X_copy 26 = .ok (.iload 5, 2) := by decide +kernel
theorem d_X_copy_28 : decode b_X_copy 28 = .ok (.ifCond .ge 9, 3) := by decide +kernel
theorem d_X_copy_31 : decode b_X_copy 31 = .ok (.aload_n 0, 1) := by decide +kernel
theorem d_X_copy_32 : decode b_X_copy 32 = .ok (.iconst 5, 1) := by decide +kernel
theorem d_X_copy_33 : decode b_X_copy 33 = .ok (.invokevirtual 114, 3) := by decide +kernel
theorem d_X_copy_36 : decode b_X_copy 36 = .ok (.ireturn, 1) := by decide +kernel
theorem d_X_copy_37 : decode b_X_copy 37 = .ok (.aload_n 0, 1) := by decide +kernel
theorem d_X_copy_38 : decode b_X_copy 38 = .ok (.getfield 11, 3) := by decide +kernel
theorem d_X_copy_41 : decode b_X_copy 41 = .ok (.iload_n 1, 1) := by decide +kernel
theorem d_X_copy_42 : decode b_X_copy 42 = .ok (.aaload, 1) := by decide +kernel
theorem d_X_copy_43 : decode b_X_copy 43 = .ok (.invokevirtual 118, 3) := by decide +kernel
theorem d_X_copy_46 : decode b_X_copy 46 = .ok (.ifCond .eq 15, 3) := by decide +kernel
theorem d_X_copy_49 : decode b_X_copy 49 = .ok (.aload_n 0, 1) := by decide +kernel
theorem d_X_copy_50 : decode b_X_copy 50 = .ok (.getfield 11, 3) := by decide +kernel
theorem d_X_copy_53 : decode b_X_copy 53 = .ok (.iload_n 3, 1) := by decide +kernel
theorem d_X_copy_54 : decode b_X_copy 54 = .ok (.aaload, 1) := by decide +kernel
theorem d_X_copy_55 : decode b_X_copy 55 = .ok (.invokevirtual 118, 3) := by decide +kernel
theorem d_X_copy_58 : decode b_X_copy 58 = .ok (.ifCond .ne 9, 3) := by decide +kernel
theorem d_X_copy_61 : decode b_X_copy 61 = .ok (.aload_n 0, 1) := by decide +kernel
theorem d_X_copy_62 : decode b_X_copy 62 = .ok (.iconst 1, 1) := by decide +kernel
theorem d_X_copy_63 : decode b_X_copy 63 = .ok (.invokevirtual 114, 3) := by decide +kernel
theorem d_X_copy_66 : decode b_X_copy 66 = .ok (.ireturn, 1) := by decide +kernel
theorem d_X_copy_67 : decode b_X_copy 67 = .ok (.aload_n 0, 1) := by decide +kernel
theorem d_X_copy_68 : decode b_X_copy 68 = .ok (.getfield 11, 3) := by decide +kernel
theorem d_X_copy_71 : decode b_X_copy 71 = .ok (.iload_n 1, 1) := by decide +kernel
theorem d_X_copy_72 : decode b_X_copy 72 = .ok (.aaload, 1) := by decide +kernel
theorem d_X_copy_73 : decode b_X_copy 73 = .ok (.iload_n 2, 1) := by decide +kernel
theorem d_X_copy_74 : decode b_X_copy 74 = .ok (.iload 5, 2) := by decide +kernel
theorem d_X_copy_76 : decode b_X_copy 76 = .ok (.invokevirtual 122, 3) := by decide +kernel
theorem d_X_copy_79 : decode b_X_copy 79 = .ok (.ifCond .eq 19, 3) := by decide +kernel
theorem d_X_copy_82 : decode b_X_copy 82 = .ok (.aload_n 0, 1) := by decide +kernel
theorem d_X_copy_83 : decode b_X_copy 83 = .ok (.getfield 11, 3) := by decide +kernel
theorem d_X_copy_86 : decode b_X_copy 86 = .ok (.iload_n 3, 1) := by decide +kernel
theorem d_X_copy_87 : decode b_X_copy 87 = .ok (.aaload, 1) := by decide +kernel
theorem d_X_copy_88 : decode b_X_copy 88 = .ok (.iload 4, 2) := by decide +kernel
theorem d_X_copy_90 : decode b_X_copy 90 = .ok (.iload 5, 2) := by decide +kernel
theorem d_X_copy_92 : decode b_X_copy 92 = .ok (.invokevirtual 122, 3) := by decide +kernel
theorem d_X_copy_95 : decode b_X_copy 95 = .ok (.ifCond .ne 9, 3) := by decide +kernel
theorem d_X_copy_98 : decode b_X_copy 98 = .ok (.aload_n 0, 1) := by decide +kernel
theorem d_X_copy_99 : decode b_X_copy 99 = .ok (.iconst 2, 1) := by decide +kernel
theorem d_X_copy_100 : decode b_X_copy 100 = .ok (.invokevirtual 114, 3) := by decide +kernel
theorem d_X_copy_103 : decode b_X_copy 103 = .ok (.ireturn, 1) := by decide +kernel
theorem d_X_copy_104 : decode b_X_copy 104 = .ok (.aload_n 0, 1) := by decide +kernel
theorem d_X_copy_105 : decode b_X_copy 105 = .ok (.getfield 11, 3) := by decide +kernel
theorem d_X_copy_108 : decode b_X_copy 108 = .ok (.iload_n 1, 1) := by decide +kernel
theorem d_X_copy_109 : decode b_X_copy 109 = .ok (.aaload, 1) := by decide +kernel
theorem d_X_copy_110 : decode b_X_copy 110 = .ok (.getfield 96, 3) := by decide +kernel
theorem d_X_copy_113 : decode b_X_copy 113 = .ok (.iload_n 2, 1) := by decide +kernel
theorem d_X_copy_114 : decode b_X_copy 114 = .ok (.aload_n 0, 1) := by decide +kernel
theorem d_X_copy_115 : decode b_X_copy 115 = .ok (.getfield 11, 3) := by decide +kernel
theorem d_X_copy_118 : decode b_X_copy 118 = .ok (.iload_n 3, 1) := by decide +kernel
theorem d_X_copy_119 : decode b_X_copy 119 = .ok (.aaload, 1) := by decide +kernel
theorem d_X_copy_120 : decode b_X_copy 120 = .ok (.getfield 96, 3) := by decide +kernel
theorem d_X_copy_123 : decode b_X_copy 123 = .ok (.iload 4, 2) := by decide +kernel
theorem d_X_copy_125 : decode b_X_copy 125 = .ok (.iload 5, 2) := by decide +kernel
theorem d_X_copy_127 : decode b_X_copy 127 = .ok (.invokestatic 125, 3) := by decide +kernel
theorem d_X_copy_130 : decode b_X_copy 130 = .ok (.iconst 1, 1) := by decide +kernel
theorem d_X_copy_131 : decode b_X_copy 131 = .ok (.ireturn, 1) := by decide +kernel
theorem d_Rw_holdsRun_0 : decode b_Rw_holdsRun 0 = .ok (.iload_n 1, 1) := by decide +kernel
theorem d_Rw_holdsRun_1 : decode b_Rw_holdsRun 1 = .ok (.ifCond .lt 25, 3) := by decide +kernel
theorem d_Rw_holdsRun_4 : decode b_Rw_holdsRun 4 = .ok (.iload_n 1, 1) := by decide +kernel
theorem d_Rw_holdsRun_5 : decode b_Rw_holdsRun 5 = .ok (.aload_n 0, 1) := by decide +kernel
theorem d_Rw_holdsRun_6 : decode b_Rw_holdsRun 6 = .ok (.getfield 15, 3) := by decide +kernel
theorem d_Rw_holdsRun_9 : decode b_Rw_holdsRun 9 = .ok (.if_icmp .gt 17, 3) := by decide +kernel
theorem d_Rw_holdsRun_12 : decode b_Rw_holdsRun 12 = .ok (.iload_n 2, 1) := by decide +kernel
theorem d_Rw_holdsRun_13 : decode b_Rw_holdsRun 13 = .ok (.aload_n 0, 1) := by decide +kernel
theorem d_Rw_holdsRun_14 : decode b_Rw_holdsRun 14 = .ok (.getfield 15, 3) := by decide +kernel
theorem d_Rw_holdsRun_17 : decode b_Rw_holdsRun 17 = .ok (.iload_n 1, 1) := by decide +kernel
theorem d_Rw_holdsRun_18 : decode b_Rw_holdsRun 18 = .ok (.isub, 1) := by decide +kernel
theorem d_Rw_holdsRun_19 : decode b_Rw_holdsRun 19 = .ok (.if_icmp .gt 7, 3) := by decide +kernel
theorem d_Rw_holdsRun_22 : decode b_Rw_holdsRun 22 = .ok (.iconst 1, 1) := by decide +kernel
theorem d_Rw_holdsRun_23 : decode b_Rw_holdsRun 23 = .ok (.goto 4, 3) := by decide +kernel
theorem d_Rw_holdsRun_26 : decode b_Rw_holdsRun 26 = .ok (.iconst 0, 1) := by decide +kernel
theorem d_Rw_holdsRun_27 : decode b_Rw_holdsRun 27 = .ok (.ireturn, 1) := by decide +kernel
theorem d_X_mean_0 : decode b_X_mean 0 = .ok (.aload_n 0, 1) := by decide +kernel
theorem d_X_mean_1 : decode b_X_mean 1 = .ok (.aload_n 0, 1) := by decide +kernel
theorem d_X_mean_2 : decode b_X_mean 2 = .ok (.getfield 11, 3) := by decide +kernel
theorem d_X_mean_5 : decode b_X_mean 5 = .ok (.iload_n 1, 1) := by decide +kernel
theorem d_X_mean_6 : decode b_X_mean 6 = .ok (.invokevirtual 103, 3) := by decide +kernel
theorem d_X_mean_9 : decode b_X_mean 9 = .ok (.istore_n 2, 1) := by decide +kernel
theorem d_X_mean_10 : decode b_X_mean 10 = .ok (.iload_n 2, 1) := by decide +kernel
theorem d_X_mean_11 : decode b_X_mean 11 = .ok (.ifCond .eq 5, 3) := by decide +kernel
theorem d_X_mean_14 : decode b_X_mean 14 = .ok (.iload_n 2, 1) := by decide +kernel
theorem d_X_mean_15 : decode b_X_mean 15 = .ok (.ireturn, 1) := by decide +kernel
theorem d_X_mean_16 : decode b_X_mean 16 = .ok (.aload_n 0, 1) := by decide +kernel
theorem d_X_mean_17 : decode b_X_mean 17 = .ok (.getfield 11, 3) := by decide +kernel
theorem d_X_mean_20 : decode b_X_mean 20 = .ok (.iload_n 1, 1) := by decide +kernel
theorem d_X_mean_21 : decode b_X_mean 21 = .ok (.aaload, 1) := by decide +kernel
theorem d_X_mean_22 : decode b_X_mean 22 = .ok (.getfield 107, 3) := by decide +kernel
theorem d_X_mean_25 : decode b_X_mean 25 = .ok (.istore_n 3, 1) := by decide +kernel
theorem d_X_mean_26 : decode b_X_mean 26 = .ok (.iload_n 3, 1) := by decide +kernel
theorem d_X_mean_27 : decode b_X_mean 27 = .ok (.ifCond .gt 9, 3) := by decide +kernel
theorem d_X_mean_30 : decode b_X_mean 30 = .ok (.aload_n 0, 1) := by decide +kernel
theorem d_X_mean_31 : decode b_X_mean 31 = .ok (.iconst 4, 1) := by decide +kernel
theorem d_X_mean_32 : decode b_X_mean 32 = .ok (.invokevirtual 114, 3) := by decide +kernel
theorem d_X_mean_35 : decode b_X_mean 35 = .ok (.ireturn, 1) := by decide +kernel
theorem d_X_mean_36 : decode b_X_mean 36 = .ok (.lconst 0, 1) := by decide +kernel
theorem d_X_mean_37 : decode b_X_mean 37 = .ok (.lstore 4, 2) := by decide +kernel
theorem d_X_mean_39 : decode b_X_mean 39 = .ok (.iconst 0, 1) := by decide +kernel
theorem d_X_mean_40 : decode b_X_mean 40 = .ok (.istore 6, 2) := by decide +kernel
theorem d_X_mean_42 : decode b_X_mean 42 = .ok (.iload 6, 2) := by decide +kernel
theorem d_X_mean_44 : decode b_X_mean 44 = .ok (.iload_n 3, 1) := by decide +kernel
theorem d_X_mean_45 : decode b_X_mean 45 = .ok (.if_icmp .ge 27, 3) := by decide +kernel
theorem d_X_mean_48 : decode b_X_mean 48 = .ok (.lload 4, 2) := by decide +kernel
theorem d_X_mean_50 : decode b_X_mean 50 = .ok (.aload_n 0, 1) := by decide +kernel
theorem d_X_mean_51 : decode b_X_mean 51 = .ok (.getfield 11, 3) := by decide +kernel
theorem d_X_mean_54 : decode b_X_mean 54 = .ok (.iload_n 1, 1) := by decide +kernel
theorem d_X_mean_55 : decode b_X_mean 55 = .ok (.aaload, 1) := by decide +kernel
theorem d_X_mean_56 : decode b_X_mean 56 = .ok (.getfield 96, 3) := by decide +kernel
theorem d_X_mean_59 : decode b_X_mean 59 = .ok (.iload 6, 2) := by decide +kernel
theorem d_X_mean_61 : decode b_X_mean 61 = .ok (.iaload, 1) := by decide +kernel
theorem d_X_mean_62 : decode b_X_mean 62 = .ok (.i2l, 1) := by decide +kernel
theorem d_X_mean_63 : decode b_X_mean 63 = .ok (.ladd, 1) := by decide +kernel
theorem d_X_mean_64 : decode b_X_mean 64 = .ok (.lstore 4, 2) := by decide +kernel
theorem d_X_mean_66 : decode b_X_mean 66 = .ok (.iinc 6 1, 3) := by decide +kernel
theorem d_X_mean_69 : decode b_X_mean 69 = .ok (.goto (-27), 3) := by decide +kernel
theorem d_X_mean_72 : decode b_X_mean 72 = .ok (.aload_n 0, 1) := by decide +kernel
theorem d_X_mean_73 : decode b_X_mean 73 = .ok (.lload 4, 2) := by decide +kernel
theorem d_X_mean_75 : decode b_X_mean 75 = .ok (.iload_n 3, 1) := by decide +kernel
theorem d_X_mean_76 : decode b_X_mean 76 = .ok (.i2l, 1) := by decide +kernel
theorem d_X_mean_77 : decode b_X_mean 77 = .ok (.ldiv, 1) := by decide +kernel
theorem d_X_mean_78 : decode b_X_mean 78 = .ok (.l2i, 1) := by decide +kernel
theorem d_X_mean_79 : decode b_X_mean 79 = .ok (.putfield 99, 3) := by decide +kernel
theorem d_X_mean_82 : decode b_X_mean 82 = .ok (.iconst 1, 1) := by decide +kernel
theorem d_X_mean_83 : decode b_X_mean 83 = .ok (.ireturn, 1) := by decide +kernel
theorem d_X_text_0 : decode b_X_text 0 = .ok (.aload_n 0, 1) := by decide +kernel
theorem d_X_text_1 : decode b_X_text 1 = .ok (.aload_n 0, 1) := by decide +kernel
theorem d_X_text_2 : decode b_X_text 2 = .ok (.getfield 15, 3) := by decide +kernel
theorem d_X_text_5 : decode b_X_text 5 = .ok (.iload_n 1, 1) := by decide +kernel
theorem d_X_text_6 : decode b_X_text 6 = .ok (.iload_n 2, 1) := by decide +kernel
theorem d_X_text_7 : decode b_X_text 7 = .ok (.bipush 32, 2) := by decide +kernel
theorem d_X_text_9 : decode b_X_text 9 = .ok (.invokevirtual 88, 3) := by decide +kernel
theorem d_X_text_12 : decode b_X_text 12 = .ok (.ireturn, 1) := by decide +kernel
theorem d_X_put_0 : decode b_X_put 0 = .ok (.aload_n 0, 1) := by decide +kernel
theorem d_X_put_1 : decode b_X_put 1 = .ok (.aload_n 0, 1) := by decide +kernel
theorem d_X_put_2 : decode b_X_put 2 = .ok (.getfield 15, 3) := by decide +kernel
theorem d_X_put_5 : decode b_X_put 5 = .ok (.iload_n 1, 1) := by decide +kernel
theorem d_X_put_6 : decode b_X_put 6 = .ok (.iload_n 2, 1) := by decide +kernel
theorem d_X_put_7 : decode b_X_put 7 = .ok (.invokevirtual 92, 3) := by decide +kernel
theorem d_X_put_10 : decode b_X_put 10 = .ok (.istore 4, 2) := by decide +kernel
theorem d_X_put_12 : decode b_X_put 12 = .ok (.iload 4, 2) := by decide +kernel
theorem d_X_put_14 : decode b_X_put 14 = .ok (.ifCond .eq 6, 3) := by decide +kernel
theorem d_X_put_17 : decode b_X_put 17 = .ok (.iload 4, 2) := by decide +kernel
theorem d_X_put_19 : decode b_X_put 19 = .ok (.ireturn, 1) := by decide +kernel
theorem d_X_put_20 : decode b_X_put 20 = .ok (.aload_n 0, 1) := by decide +kernel
theorem d_X_put_21 : decode b_X_put 21 = .ok (.getfield 15, 3) := by decide +kernel
theorem d_X_put_24 : decode b_X_put 24 = .ok (.iload_n 1, 1) := by decide +kernel
theorem d_X_put_25 : decode b_X_put 25 = .ok (.aaload, 1) := by decide +kernel
theorem d_X_put_26 : decode b_X_put 26 = .ok (.getfield 96, 3) := by decide +kernel
theorem d_X_put_29 : decode b_X_put 29 = .ok (.iload_n 2, 1) := by decide +kernel
theorem d_X_put_30 : decode b_X_put 30 = .ok (.iaload, 1) := by decide +kernel
theorem d_X_put_31 : decode b_X_put 31 = .ok (.istore 5, 2) := by decide +kernel
theorem d_X_put_33 : decode b_X_put 33 = .ok (.aload_n 0, 1) := by decide +kernel
theorem d_X_put_34 : decode b_X_put 34 = .ok (.getfield 15, 3) := by decide +kernel
theorem d_X_put_37 : decode b_X_put 37 = .ok (.iload_n 1, 1) := by decide +kernel
theorem d_X_put_38 : decode b_X_put 38 = .ok (.aaload, 1) := by decide +kernel
theorem d_X_put_39 : decode b_X_put 39 = .ok (.getfield 96, 3) := by decide +kernel
theorem d_X_put_42 : decode b_X_put 42 = .ok (.iload_n 2, 1) := by decide +kernel
theorem d_X_put_43 : decode b_X_put 43 = .ok (.iload_n 3, 1) := by decide +kernel
theorem d_X_put_44 : decode b_X_put 44 = .ok (.i2b, 1) := by decide +kernel
theorem d_X_put_45 : decode b_X_put 45 = .ok (.iastore, 1) := by decide +kernel
theorem d_X_put_46 : decode b_X_put 46 = .ok (.iload 5, 2) := by decide +kernel
theorem d_X_put_48 : decode b_X_put 48 = .ok (.sipush 1000, 3) := by decide +kernel
theorem d_X_put_51 : decode b_X_put 51 = .ok (.iadd, 1) := by decide +kernel
theorem d_X_put_52 : decode b_X_put 52 = .ok (.ireturn, 1) := by decide +kernel
theorem d_X_fault_0 : decode b_X_fault 0 = .ok (.aload_n 0, 1) := by decide +kernel
theorem d_X_fault_1 : decode b_X_fault 1 = .ok (.aload_n 0, 1) := by decide +kernel
theorem d_X_fault_2 : decode b_X_fault 2 = .ok (.getfield 15, 3) := by decide +kernel
theorem d_X_fault_5 : decode b_X_fault 5 = .ok (.iload_n 1, 1) := by decide +kernel
theorem d_X_fault_6 : decode b_X_fault 6 = .ok (.invokevirtual 103, 3) := by decide +kernel
theorem d_X_fault_9 : decode b_X_fault 9 = .ok (.istore_n 2, 1) := by decide +kernel
theorem d_X_fault_10 : decode b_X_fault 10 = .ok (.iload_n 2, 1) := by decide +kernel
theorem d_X_fault_11 : decode b_X_fault 11 = .ok (.ifCond .eq 5, 3) := by decide +kernel
theorem d_X_fault_14 : decode b_X_fault 14 = .ok (.iload_n 2, 1) := by decide +kernel
theorem d_X_fault_15 : decode b_X_fault 15 = .ok (.ireturn, 1) := by decide +kernel
theorem d_X_fault_16 : decode b_X_fault 16 = .ok (.aload_n 0, 1) := by decide +kernel
theorem d_X_fault_17 : decode b_X_fault 17 = .ok (.getfield 62, 3) := by decide +kernel
theorem d_X_fault_20 : decode b_X_fault 20 = .ok (.aload_n 0, 1) := by decide +kernel
theorem d_X_fault_21 : decode b_X_fault 21 = .ok (.getfield 15, 3) := by decide +kernel
theorem d_X_fault_24 : decode b_X_fault 24 = .ok (.iload_n 1, 1) := by decide +kernel
theorem d_X_fault_25 : decode b_X_fault 25 = .ok (.aaload, 1) := by decide +kernel
theorem d_X_fault_26 : decode b_X_fault 26 = .ok (.invokevirtual 131, 3) := by decide +kernel
theorem d_X_fault_29 : decode b_X_fault 29 = .ok (.ireturn, 1) := by decide +kernel
theorem d_Rd_faultOf_0 : decode b_Rd_faultOf 0 = .ok (.aload_n 0, 1) := by decide +kernel
theorem d_Rd_faultOf_1 : decode b_Rd_faultOf 1 = .ok (.getfield 12, 3) := by decide +kernel
theorem d_Rd_faultOf_4 : decode b_Rd_faultOf 4 = .ok (.iconst 0, 1) := by decide +kernel
theorem d_Rd_faultOf_5 : decode b_Rd_faultOf 5 = .ok (.invokevirtual 22, 3) := by decide +kernel
theorem d_Rd_faultOf_8 : decode b_Rd_faultOf 8 = .ok (.aload_n 0, 1) := by decide +kernel
theorem d_Rd_faultOf_9 : decode b_Rd_faultOf 9 = .ok (.iconst 0, 1) := by decide +kernel
theorem d_Rd_faultOf_10 : decode b_Rd_faultOf 10 = .ok (.putfield 26, 3) := by decide +kernel
theorem d_Rd_faultOf_13 : decode b_Rd_faultOf 13 = .ok (.aload_n 0, 1) := by decide +kernel
theorem d_Rd_faultOf_14 : decode b_Rd_faultOf 14 = .ok (.iconst 0, 1) := by decide +kernel
theorem d_Rd_faultOf_15 : decode b_Rd_faultOf 15 = .ok (.putfield 30, 3) := by decide +kernel
theorem d_Rd_faultOf_18 : decode b_Rd_faultOf 18 = .ok (.iconst 1, 1) := by decide +kernel
theorem d_Rd_faultOf_19 : decode b_Rd_faultOf 19 = .ok (.istore_n 2, 1) := by decide +kernel
theorem d_Rd_faultOf_20 : decode b_Rd_faultOf 20 = .ok (.iconst 0, 1) := by decide +kernel
theorem d_Rd_faultOf_21 : decode b_Rd_faultOf 21 = .ok (.istore_n 3, 1) := by decide +kernel
theorem d_Rd_faultOf_22 : decode b_Rd_faultOf 22 = .ok (.iload_n 3, 1) := by decide +kernel
theorem d_Rd_faultOf_23 : decode b_Rd_faultOf 23 = .ok (.bipush 60, 2) := by decide +kernel
theorem d_Rd_faultOf_25 : decode b_Rd_faultOf 25 = .ok (.if_icmp .ge 66, 3) := by decide +kernel
theorem d_Rd_faultOf_28 : decode b_Rd_faultOf 28 = .ok (.aload_n 0, 1) := by decide +kernel
theorem d_Rd_faultOf_29 : decode b_Rd_faultOf 29 = .ok (.getfield 30, 3) := by decide +kernel
theorem d_Rd_faultOf_32 : decode b_Rd_faultOf 32 = .ok (.aload_n 1, 1) := by decide +kernel
theorem d_Rd_faultOf_33 : decode b_Rd_faultOf 33 = .ok (.getfield 33, 3) := by decide +kernel
theorem d_Rd_faultOf_36 : decode b_Rd_faultOf 36 = .ok (.if_icmp .ge 55, 3) := by decide +kernel
theorem d_Rd_faultOf_39 : decode b_Rd_faultOf 39 = .ok (.aload_n 1, 1) := by decide +kernel
theorem d_Rd_faultOf_40 : decode b_Rd_faultOf 40 = .ok (.getfield 38, 3) := by decide +kernel
theorem d_Rd_faultOf_43 : decode b_Rd_faultOf 43 = .ok (.aload_n 0, 1) := by decide +kernel
theorem d_Rd_faultOf_44 : decode b_Rd_faultOf 44 = .ok (.getfield 30, 3) := by decide +kernel
theorem d_Rd_faultOf_47 : decode b_Rd_faultOf 47 = .ok (.iaload, 1) := by decide +kernel
theorem d_Rd_faultOf_48 : decode b_Rd_faultOf 48 = .ok (.bipush 32, 2) := by decide +kernel
theorem d_Rd_faultOf_50 : decode b_Rd_faultOf 50 = .ok (.if_icmp .ne 16, 3) := by decide +kernel
theorem d_Rd_faultOf_53 : decode b_Rd_faultOf 53 = .ok (.aload_n 0, 1) := by decide +kernel
theorem d_Rd_faultOf_54 : decode b_Rd_faultOf 54 = .ok (.dup, 1) := by decide +kernel
theorem d_Rd_faultOf_55 : decode b_Rd_faultOf 55 = .ok (.getfield 30, 3) := by decide +kernel
theorem d_Rd_faultOf_58 : decode b_Rd_faultOf 58 = .ok (.iconst 1, 1) := by decide +kernel
theorem d_Rd_faultOf_59 : decode b_Rd_faultOf 59 = .ok (.iadd, 1) := by decide +kernel
theorem d_Rd_faultOf_60 : decode b_Rd_faultOf 60 = .ok (.putfield 30, 3) := by decide +kernel
theorem d_Rd_faultOf_63 : decode b_Rd_faultOf 63 = .ok (.goto 22, 3) := by decide +kernel
theorem d_Rd_faultOf_66 : decode b_Rd_faultOf 66 = .ok (.aload_n 0, 1) := by decide +kernel
theorem d_Rd_faultOf_67 : decode b_Rd_faultOf 67 = .ok (.aload_n 1, 1) := by decide +kernel
theorem d_Rd_faultOf_68 : decode b_Rd_faultOf 68 = .ok (.iload_n 2, 1) := by decide +kernel
theorem d_Rd_faultOf_69 : decode b_Rd_faultOf 69 = .ok (.invokevirtual 41, 3) := by decide +kernel
theorem d_Rd_faultOf_72 : decode b_Rd_faultOf 72 = .ok (.ifCond .eq 8, 3) := by decide +kernel
theorem d_Rd_faultOf_75 : decode b_Rd_faultOf 75 = .ok (.iconst 0, 1) := by decide +kernel
theorem d_Rd_faultOf_76 : decode b_Rd_faultOf 76 = .ok (.istore_n 2, 1) := by decide +kernel
theorem d_Rd_faultOf_77 : decode b_Rd_faultOf 77 = .ok (.goto 8, 3) := by decide +kernel
theorem d_Rd_faultOf_80 : decode b_Rd_faultOf 80 = .ok (.aload_n 0, 1) := by decide +kernel
theorem d_Rd_faultOf_81 : decode b_Rd_faultOf 81 = .ok (.getfield 30, 3) := by decide +kernel
theorem d_Rd_faultOf_84 : decode b_Rd_faultOf 84 = .ok (.ireturn, 1) := by decide +kernel
theorem d_Rd_faultOf_85 : decode b_Rd_faultOf 85 = .ok (.iinc 3 1, 3) := by decide +kernel
theorem d_Rd_faultOf_88 : decode b_Rd_faultOf 88 = .ok (.goto (-66), 3) := by decide +kernel
theorem d_Rd_faultOf_91 : decode b_Rd_faultOf 91 = .ok (.bipush (-9), 2) := by decide +kernel
theorem d_Rd_faultOf_93 : decode b_Rd_faultOf 93 = .ok (.ireturn, 1) := by decide +kernel
theorem d_Gm_begin_0 : decode b_Gm_begin 0 = .ok (.aload_n 0, 1) := by decide +kernel
theorem d_Gm_begin_1 : decode b_Gm_begin 1 = .ok (.iload_n 1, 1) := by decide +kernel
theorem d_Gm_begin_2 : decode b_Gm_begin 2 = .ok (.putfield 19, 3) := by decide +kernel
theorem d_Gm_begin_5 : decode b_Gm_begin 5 = .ok (.aload_n 0, 1) := by decide +kernel
theorem d_Gm_begin_6 : decode b_Gm_begin 6 = .ok (.iconst 0, 1) := by decide +kernel
theorem d_Gm_begin_7 : decode b_Gm_begin 7 = .ok (.putfield 23, 3) := by decide +kernel
theorem d_Gm_begin_10 : decode b_Gm_begin 10 = .ok (.aload_n 0, 1) := by decide +kernel
theorem d_Gm_begin_11 : decode b_Gm_begin 11 = .ok (.lconst 1, 1) := by decide +kernel
theorem d_Gm_begin_12 : decode b_Gm_begin 12 = .ok (.putfield 15, 3) := by decide +kernel
theorem d_Gm_begin_15 : decode b_Gm_begin 15 = .ok (.return_, 1) := by decide +kernel
theorem d_Rd_takesItem_0 : decode b_Rd_takesItem 0 = .ok (.aload_n 1, 1) := by decide +kernel
theorem d_Rd_takesItem_1 : decode b_Rd_takesItem 1 = .ok (.getfield 38, 3) := by decide +kernel
theorem d_Rd_takesItem_4 : decode b_Rd_takesItem 4 = .ok (.aload_n 0, 1) := by decide +kernel
theorem d_Rd_takesItem_5 : decode b_Rd_takesItem 5 = .ok (.getfield 30, 3) := by decide +kernel
theorem d_Rd_takesItem_8 : decode b_Rd_takesItem 8 = .ok (.iaload, 1) := by decide +kernel
theorem d_Rd_takesItem_9 : decode b_Rd_takesItem 9 = .ok (.tableswitch 151 97 115 #[127, 133, 145, 151, 151, 151, 139, 151, 151, 151, 151, 91, 151, 109, 151, 115, 151, 151, 121], 91) := by decide +kernel
theorem d_Rd_takesItem_100 : decode b_Rd_takesItem 100 = .ok (.iload_n 2, 1) := by decide +kernel
theorem d_Rd_takesItem_101 : decode b_Rd_takesItem 101 = .ok (.ifCond .eq 15, 3) := by decide +kernel
theorem d_Rd_takesItem_104 : decode b_Rd_takesItem 104 = .ok (.aload_n 0, 1) := by decide +kernel
theorem d_Rd_takesItem_105 : decode b_Rd_takesItem 105 = .ok (.aload_n 1, 1) := by decide +kernel
theorem d_Rd_takesItem_106 : decode b_Rd_takesItem 106 = .ok (.invokevirtual 45, 3) := by decide +kernel
theorem d_Rd_takesItem_109 : decode b_Rd_takesItem 109 = .ok (.ifCond .eq 7, 3) := by decide +kernel
theorem d_Rd_takesItem_112 : decode b_Rd_takesItem 112 = .ok (.iconst 1, 1) := by decide +kernel
theorem d_Rd_takesItem_113 : decode b_Rd_takesItem 113 = .ok (.goto 4, 3) := by decide +kernel
theorem d_Rd_takesItem_116 : decode b_Rd_takesItem 116 = .ok (.iconst 0, 1) := by decide +kernel
theorem d_Rd_takesItem_117 : decode b_Rd_takesItem 117 = .ok (.ireturn, 1) := by decide +kernel
theorem d_Rd_takesItem_118 : decode b_Rd_takesItem 118 = .ok (.aload_n 0, 1) := by decide +kernel
theorem d_Rd_takesItem_119 : decode b_Rd_takesItem 119 = .ok (.aload_n 1, 1) := by decide +kernel
theorem d_Rd_takesItem_120 : decode b_Rd_takesItem 120 = .ok (.invokevirtual 49, 3) := by decide +kernel
theorem d_Rd_takesItem_123 : decode b_Rd_takesItem 123 = .ok (.ireturn, 1) := by decide +kernel
theorem d_Rd_takesItem_124 : decode b_Rd_takesItem 124 = .ok (.aload_n 0, 1) := by decide +kernel
theorem d_Rd_takesItem_125 : decode b_Rd_takesItem 125 = .ok (.iconst 0, 1) := by decide +kernel
theorem d_Rd_takesItem_126 : decode b_Rd_takesItem 126 = .ok (.invokevirtual 52, 3) := by decide +kernel
theorem d_Rd_takesItem_129 : decode b_Rd_takesItem 129 = .ok (.ireturn, 1) := by decide +kernel
theorem d_Rd_takesItem_130 : decode b_Rd_takesItem 130 = .ok (.aload_n 0, 1) := by decide +kernel
theorem d_Rd_takesItem_131 : decode b_Rd_takesItem 131 = .ok (.iconst 1, 1) := by decide +kernel
theorem d_Rd_takesItem_132 : decode b_Rd_takesItem 132 = .ok (.invokevirtual 52, 3) := by decide +kernel
theorem d_Rd_takesItem_135 : decode b_Rd_takesItem 135 = .ok (.ireturn, 1) := by decide +kernel
theorem d_Rd_takesItem_136 : decode b_Rd_takesItem 136 = .ok (.aload_n 0, 1) := by decide +kernel
theorem d_Rd_takesItem_137 : decode b_Rd_takesItem 137 = .ok (.iconst 2, 1) := by decide +kernel
theorem d_Rd_takesItem_138 : decode b_Rd_takesItem 138 = .ok (.invokevirtual 52, 3) := by decide +kernel
theorem d_Rd_takesItem_141 : decode b_Rd_takesItem 141 = .ok (.ireturn, 1) := by decide +kernel
theorem d_Rd_takesItem_142 : decode b_Rd_takesItem 142 = .ok (.aload_n 0, 1) := by decide +kernel
theorem d_Rd_takesItem_143 : decode b_Rd_takesItem 143 = .ok (.iconst 3, 1) := by decide +kernel
theorem d_Rd_takesItem_144 : decode b_Rd_takesItem 144 = .ok (.invokevirtual 52, 3) := by decide +kernel
theorem d_Rd_takesItem_147 : decode b_Rd_takesItem 147 = .ok (.ireturn, 1) := by decide +kernel
theorem d_Rd_takesItem_148 : decode b_Rd_takesItem 148 = .ok (.aload_n 0, 1) := by decide +kernel
theorem d_Rd_takesItem_149 : decode b_Rd_takesItem 149 = .ok (.iconst 4, 1) := by decide +kernel
theorem d_Rd_takesItem_150 : decode b_Rd_takesItem 150 = .ok (.invokevirtual 52, 3) := by decide +kernel
theorem d_Rd_takesItem_153 : decode b_Rd_takesItem 153 = .ok (.ireturn, 1) := by decide +kernel
theorem d_Rd_takesItem_154 : decode b_Rd_takesItem 154 = .ok (.aload_n 0, 1) := by decide +kernel
theorem d_Rd_takesItem_155 : decode b_Rd_takesItem 155 = .ok (.iconst 5, 1) := by decide +kernel
theorem d_Rd_takesItem_156 : decode b_Rd_takesItem 156 = .ok (.invokevirtual 52, 3) := by decide +kernel
theorem d_Rd_takesItem_159 : decode b_Rd_takesItem 159 = .ok (.ireturn, 1) := by decide +kernel
theorem d_Rd_takesItem_160 : decode b_Rd_takesItem 160 = .ok (.iconst 0, 1) := by decide +kernel
theorem d_Rd_takesItem_161 : decode b_Rd_takesItem 161 = .ok (.ireturn, 1) := by decide +kernel
theorem d_Rd_takesLaw_0 : decode b_Rd_takesLaw 0 = .ok (.aload_n 0, 1) := by decide +kernel
theorem d_Rd_takesLaw_1 : decode b_Rd_takesLaw 1 = .ok (.dup, 1) := by decide +kernel
theorem d_Rd_takesLaw_2 : decode b_Rd_takesLaw 2 = .ok (.getfield 30, 3) := by decide +kernel
theorem d_Rd_takesLaw_5 : decode b_Rd_takesLaw 5 = .ok (.iconst 1, 1) := by decide +kernel
theorem d_Rd_takesLaw_6 : decode b_Rd_takesLaw 6 = .ok (.iadd, 1) := by decide +kernel
theorem d_Rd_takesLaw_7 : decode b_Rd_takesLaw 7 = .ok (.putfield 30, 3) := by decide +kernel
theorem d_Rd_takesLaw_10 : decode b_Rd_takesLaw 10 = .ok (.aload_n 0, 1) := by decide +kernel
theorem d_Rd_takesLaw_11 : decode b_Rd_takesLaw 11 = .ok (.aload_n 1, 1) := by decide +kernel
theorem d_Rd_takesLaw_12 : decode b_Rd_takesLaw 12 = .ok (.invokevirtual 56, 3) := by decide +kernel
theorem d_Rd_takesLaw_15 : decode b_Rd_takesLaw 15 = .ok (.istore_n 2, 1) := by decide +kernel
theorem d_Rd_takesLaw_16 : decode b_Rd_takesLaw 16 = .ok (.iload_n 2, 1) := by decide +kernel
theorem d_Rd_takesLaw_17 : decode b_Rd_takesLaw 17 = .ok (.ifCond .lt 8, 3) := by decide +kernel
theorem d_Rd_takesLaw_20 : decode b_Rd_takesLaw 20 = .ok (.iload_n 2, 1) := by decide +kernel
theorem d_Rd_takesLaw_21 : decode b_Rd_takesLaw 21 = .ok (.iconst 2, 1) := by decide +kernel
theorem d_Rd_takesLaw_22 : decode b_Rd_takesLaw 22 = .ok (.if_icmp .le 5, 3) := by decide +kernel
theorem d_Rd_takesLaw_25 : decode b_Rd_takesLaw 25 = .ok (.iconst 0, 1) := by decide +kernel
theorem d_Rd_takesLaw_26 : decode b_Rd_takesLaw 26 = .ok (.ireturn, 1) := by decide +kernel
theorem d_Rd_takesLaw_27 : decode b_Rd_takesLaw 27 = .ok (.aload_n 0, 1) := by decide +kernel
theorem d_Rd_takesLaw_28 : decode b_Rd_takesLaw 28 = .ok (.getfield 12, 3) := by decide +kernel
theorem d_Rd_takesLaw_31 : decode b_Rd_takesLaw 31 = .ok (.iload_n 2, 1) := by decide +kernel
theorem d_Rd_takesLaw_32 : decode b_Rd_takesLaw 32 = .ok (.invokevirtual 22, 3) := by decide +kernel
theorem d_Rd_takesLaw_35 : decode b_Rd_takesLaw 35 = .ok (.aload_n 0, 1) := by decide +kernel
theorem d_Rd_takesLaw_36 : decode b_Rd_takesLaw 36 = .ok (.dup, 1) := by decide +kernel
theorem d_Rd_takesLaw_37 : decode b_Rd_takesLaw 37 = .ok (.getfield 30, 3) := by decide +kernel
theorem d_Rd_takesLaw_40 : decode b_Rd_takesLaw 40 = .ok (.iconst 1, 1) := by decide +kernel
theorem d_Rd_takesLaw_41 : decode b_Rd_takesLaw 41 = .ok (.iadd, 1) := by decide +kernel
theorem d_Rd_takesLaw_42 : decode b_Rd_takesLaw 42 = .ok (.putfield 30, 3) := by decide +kernel
theorem d_Rd_takesLaw_45 : decode b_Rd_takesLaw 45 = .ok (.iconst 1, 1) := by decide +kernel
theorem d_Rd_takesLaw_46 : decode b_Rd_takesLaw 46 = .ok (.ireturn, 1) := by decide +kernel
theorem d_Rd_figureHere_0 : decode b_Rd_figureHere 0 = .ok (.aload_n 0, 1) := by decide +kernel
theorem d_Rd_figureHere_1 : decode b_Rd_figureHere 1 = .ok (.getfield 30, 3) := by decide +kernel
theorem d_Rd_figureHere_4 : decode b_Rd_figureHere 4 = .ok (.aload_n 1, 1) := by decide +kernel
theorem d_Rd_figureHere_5 : decode b_Rd_figureHere 5 = .ok (.getfield 33, 3) := by decide +kernel
theorem d_Rd_figureHere_8 : decode b_Rd_figureHere 8 = .ok (.invokestatic 60, 3) := by decide +kernel
theorem d_Rd_figureHere_11 : decode b_Rd_figureHere 11 = .ok (.ifCond .ne 5, 3) := by decide +kernel
theorem d_Rd_figureHere_14 : decode b_Rd_figureHere 14 = .ok (.iconst (-1), 1) := by decide +kernel
theorem d_Rd_figureHere_15 : decode b_Rd_figureHere 15 = .ok (.ireturn, 1) := by decide +kernel
theorem d_Rd_figureHere_16 : decode b_Rd_figureHere 16 = .ok (.aload_n 1, 1) := by decide +kernel
theorem d_Rd_figureHere_17 : decode b_Rd_figureHere 17 = .ok (.getfield 38, 3) := by decide +kernel
theorem d_Rd_figureHere_20 : decode b_Rd_figureHere 20 = .ok (.aload_n 0, 1) := by decide +kernel
theorem d_Rd_figureHere_21 : decode b_Rd_figureHere 21 = .ok (.getfield 30, 3) := by decide +kernel
theorem d_Rd_figureHere_24 : decode b_Rd_figureHere 24 = .ok (.iaload, 1) := by decide +kernel
theorem d_Rd_figureHere_25 : decode b_Rd_figureHere 25 = .ok (.bipush 48, 2) := by decide +kernel
theorem d_Rd_figureHere_27 : decode b_Rd_figureHere 27 = .ok (.isub, 1) := by decide +kernel
theorem d_Rd_figureHere_28 : decode b_Rd_figureHere 28 = .ok (.istore_n 2, 1) := by decide +kernel
theorem d_Rd_figureHere_29 : decode b_Rd_figureHere 29 = .ok (.iload_n 2, 1) := by decide +kernel
theorem d_Rd_figureHere_30 : decode b_Rd_figureHere 30 = .ok (.bipush 9, 2) := by decide +kernel
theorem d_Rd_figureHere_32 : decode b_Rd_figureHere 32 = .ok (.if_icmp .gt 7, 3) := by decide +kernel
theorem d_Rd_figureHere_35 : decode b_Rd_figureHere 35 = .ok (.iload_n 2, 1) := by decide +kernel
theorem d_Rd_figureHere_36 : decode b_Rd_figureHere 36 = .ok (.goto 4, 3) := by decide +kernel
theorem d_Rd_figureHere_39 : decode b_Rd_figureHere 39 = .ok (.iconst (-1), 1) := by decide +kernel
theorem d_Rd_figureHere_40 : decode b_Rd_figureHere 40 = .ok (.ireturn, 1) := by decide +kernel
theorem d_Rd_takesNumber_0 : decode b_Rd_takesNumber 0 = .ok (.aload_n 0, 1) := by decide +kernel
theorem d_Rd_takesNumber_1 : decode b_Rd_takesNumber 1 = .ok (.getfield 12, 3) := by decide +kernel
theorem d_Rd_takesNumber_4 : decode b_Rd_takesNumber 4 = .ok (.getfield 64, 3) := by decide +kernel
theorem d_Rd_takesNumber_7 : decode b_Rd_takesNumber 7 = .ok (.bipush 12, 2) := by decide +kernel
theorem d_Rd_takesNumber_9 : decode b_Rd_takesNumber 9 = .ok (.if_icmp .lt 5, 3) := by decide +kernel
theorem d_Rd_takesNumber_12 : decode b_Rd_takesNumber 12 = .ok (.iconst 0, 1) := by decide +kernel
theorem d_Rd_takesNumber_13 : decode b_Rd_takesNumber 13 = .ok (.ireturn, 1) := by decide +kernel
theorem d_Rd_takesNumber_14 : decode b_Rd_takesNumber 14 = .ok (.aload_n 0, 1) := by decide +kernel
theorem d_Rd_takesNumber_15 : decode b_Rd_takesNumber 15 = .ok (.dup, 1) := by decide +kernel
theorem d_Rd_takesNumber_16 : decode b_Rd_takesNumber 16 = .ok (.getfield 30, 3) := by decide +kernel
theorem d_Rd_takesNumber_19 : decode b_Rd_takesNumber 19 = .ok (.iconst 1, 1) := by decide +kernel
theorem d_Rd_takesNumber_20 : decode b_Rd_takesNumber 20 = .ok (.iadd, 1) := by decide +kernel
theorem d_Rd_takesNumber_21 : decode b_Rd_takesNumber 21 = .ok (.putfield 30, 3) := by decide +kernel
theorem d_Rd_takesNumber_24 : decode b_Rd_takesNumber 24 = .ok (.aload_n 0, 1) := by decide +kernel
theorem d_Rd_takesNumber_25 : decode b_Rd_takesNumber 25 = .ok (.aload_n 1, 1) := by decide +kernel
theorem d_Rd_takesNumber_26 : decode b_Rd_takesNumber 26 = .ok (.invokevirtual 56, 3) := by decide +kernel
theorem d_Rd_takesNumber_29 : decode b_Rd_takesNumber 29 = .ok (.istore_n 2, 1) := by decide +kernel
theorem d_Rd_takesNumber_30 : decode b_Rd_takesNumber 30 = .ok (.iload_n 2, 1) := by decide +kernel
theorem d_Rd_takesNumber_31 : decode b_Rd_takesNumber 31 = .ok (.ifCond .ge 5, 3) := by decide +kernel
theorem d_Rd_takesNumber_34 : decode b_Rd_takesNumber 34 = .ok (.iconst 0, 1) := by decide +kernel
theorem d_Rd_takesNumber_35 : decode b_Rd_takesNumber 35 = .ok (.ireturn, 1) := by decide +kernel
theorem d_Rd_takesNumber_36 : decode b_Rd_takesNumber 36 = .ok (.aload_n 0, 1) := by decide +kernel
theorem d_Rd_takesNumber_37 : decode b_Rd_takesNumber 37 = .ok (.dup, 1) := by decide +kernel
theorem d_Rd_takesNumber_38 : decode b_Rd_takesNumber 38 = .ok (.getfield 30, 3) := by decide +kernel
theorem d_Rd_takesNumber_41 : decode b_Rd_takesNumber 41 = .ok (.iconst 1, 1) := by decide +kernel
theorem d_Rd_takesNumber_42 : decode b_Rd_takesNumber 42 = .ok (.iadd, 1) := by decide +kernel
theorem d_Rd_takesNumber_43 : decode b_Rd_takesNumber 43 = .ok (.putfield 30, 3) := by decide +kernel
theorem d_Rd_takesNumber_46 : decode b_Rd_takesNumber 46 = .ok (.aload_n 0, 1) := by decide +kernel
theorem d_Rd_takesNumber_47 : decode b_Rd_takesNumber 47 = .ok (.aload_n 1, 1) := by decide +kernel
theorem d_Rd_takesNumber_48 : decode b_Rd_takesNumber 48 = .ok (.invokevirtual 56, 3) := by decide +kernel
theorem d_Rd_takesNumber_51 : decode b_Rd_takesNumber 51 = .ok (.istore_n 3, 1) := by decide +kernel
theorem d_Rd_takesNumber_52 : decode b_Rd_takesNumber 52 = .ok (.iload_n 3, 1) := by decide +kernel
theorem d_Rd_takesNumber_53 : decode b_Rd_takesNumber 53 = .ok (.ifCond .lt 20, 3) := by decide +kernel
theorem d_Rd_takesNumber_56 : decode b_Rd_takesNumber 56 = .ok (.bipush 10, 2) := by decide +kernel
theorem d_Rd_takesNumber_58 : decode b_Rd_takesNumber 58 = .ok (.iload_n 2, 1) := by decide +kernel
theorem d_Rd_takesNumber_59 : decode b_Rd_takesNumber 59 = .ok (.imul, 1) := by decide +kernel
theorem d_Rd_takesNumber_60 : decode b_Rd_takesNumber 60 = .ok (.iload_n 3, 1) := by decide +kernel
theorem d_Rd_takesNumber_61 : decode b_Rd_takesNumber 61 = .ok (.iadd, 1) := by decide +kernel
theorem d_Rd_takesNumber_62 : decode b_Rd_takesNumber 62 = .ok (.istore_n 2, 1) := by decide +kernel
theorem d_Rd_takesNumber_63 : decode b_Rd_takesNumber 63 = .ok (.aload_n 0, 1) := by decide +kernel
theorem d_Rd_takesNumber_64 : decode b_Rd_takesNumber 64 = .ok (.dup, 1) := by decide +kernel
theorem d_Rd_takesNumber_65 : decode b_Rd_takesNumber 65 = .ok (.getfield 30, 3) := by decide +kernel
theorem d_Rd_takesNumber_68 : decode b_Rd_takesNumber 68 = .ok (.iconst 1, 1) := by decide +kernel
theorem d_Rd_takesNumber_69 : decode b_Rd_takesNumber 69 = .ok (.iadd, 1) := by decide +kernel
theorem d_Rd_takesNumber_70 : decode b_Rd_takesNumber 70 = .ok (.putfield 30, 3) := by decide +kernel
theorem d_Rd_takesNumber_73 : decode b_Rd_takesNumber 73 = .ok (.iload_n 2, 1) := by decide +kernel
theorem d_Rd_takesNumber_74 : decode b_Rd_takesNumber 74 = .ok (.iconst 2, 1) := by decide +kernel
theorem d_Rd_takesNumber_75 : decode b_Rd_takesNumber 75 = .ok (.if_icmp .lt 14, 3) := by decide +kernel
theorem d_Rd_takesNumber_78 : decode b_Rd_takesNumber 78 = .ok (.aload_n 0, 1) := by decide +kernel
theorem d_Rd_takesNumber_79 : decode b_Rd_takesNumber 79 = .ok (.getfield 12, 3) := by decide +kernel
theorem d_Rd_takesNumber_82 : decode b_Rd_takesNumber 82 = .ok (.iload_n 2, 1) := by decide +kernel
theorem d_Rd_takesNumber_83 : decode b_Rd_takesNumber 83 = .ok (.invokevirtual 65, 3) := by decide +kernel
theorem d_Rd_takesNumber_86 : decode b_Rd_takesNumber 86 = .ok (.ifCond .ne 5, 3) := by decide +kernel
theorem d_Rd_takesNumber_89 : decode b_Rd_takesNumber 89 = .ok (.iconst 0, 1) := by decide +kernel
theorem d_Rd_takesNumber_90 : decode b_Rd_takesNumber 90 = .ok (.ireturn, 1) := by decide +kernel
theorem d_Rd_takesNumber_91 : decode b_Rd_takesNumber 91 = .ok (.aload_n 0, 1) := by decide +kernel
theorem d_Rd_takesNumber_92 : decode b_Rd_takesNumber 92 = .ok (.getfield 12, 3) := by decide +kernel
theorem d_Rd_takesNumber_95 : decode b_Rd_takesNumber 95 = .ok (.iload_n 2, 1) := by decide +kernel
theorem d_Rd_takesNumber_96 : decode b_Rd_takesNumber 96 = .ok (.invokevirtual 68, 3) := by decide +kernel
theorem d_Rd_takesNumber_99 : decode b_Rd_takesNumber 99 = .ok (.iconst 1, 1) := by decide +kernel
theorem d_Rd_takesNumber_100 : decode b_Rd_takesNumber 100 = .ok (.ireturn, 1) := by decide +kernel
theorem d_Gm_isOpen_0 : decode b_Gm_isOpen 0 = .ok (.iload_n 1, 1) := by decide +kernel
theorem d_Gm_isOpen_1 : decode b_Gm_isOpen 1 = .ok (.iconst 1, 1) := by decide +kernel
theorem d_Gm_isOpen_2 : decode b_Gm_isOpen 2 = .ok (.if_icmp .lt 26, 3) := by decide +kernel
theorem d_Gm_isOpen_5 : decode b_Gm_isOpen 5 = .ok (.iload_n 1, 1) := by decide +kernel
theorem d_Gm_isOpen_6 : decode b_Gm_isOpen 6 = .ok (.bipush 60, 2) := by decide +kernel
theorem d_Gm_isOpen_8 : decode b_Gm_isOpen 8 = .ok (.if_icmp .gt 20, 3) := by decide +kernel
theorem d_Gm_isOpen_11 : decode b_Gm_isOpen 11 = .ok (.aload_n 0, 1) := by decide +kernel
theorem d_Gm_isOpen_12 : decode b_Gm_isOpen 12 = .ok (.invokevirtual 51, 3) := by decide +kernel
theorem d_Gm_isOpen_15 : decode b_Gm_isOpen 15 = .ok (.iload_n 1, 1) := by decide +kernel
theorem d_Gm_isOpen_16 : decode b_Gm_isOpen 16 = .ok (.lshr, 1) := by decide +kernel
theorem d_Gm_isOpen_17 : decode b_Gm_isOpen 17 = .ok (.lconst 1, 1) := by decide +kernel
theorem d_Gm_isOpen_18 : decode b_Gm_isOpen 18 = .ok (.land, 1) := by decide +kernel
theorem d_Gm_isOpen_19 : decode b_Gm_isOpen 19 = .ok (.lconst 1, 1) := by decide +kernel
theorem d_Gm_isOpen_20 : decode b_Gm_isOpen 20 = .ok (.lcmp, 1) := by decide +kernel
theorem d_Gm_isOpen_21 : decode b_Gm_isOpen 21 = .ok (.ifCond .ne 7, 3) := by decide +kernel
theorem d_Gm_isOpen_24 : decode b_Gm_isOpen 24 = .ok (.iconst 1, 1) := by decide +kernel
theorem d_Gm_isOpen_25 : decode b_Gm_isOpen 25 = .ok (.goto 4, 3) := by decide +kernel
theorem d_Gm_isOpen_28 : decode b_Gm_isOpen 28 = .ok (.iconst 0, 1) := by decide +kernel
theorem d_Gm_isOpen_29 : decode b_Gm_isOpen 29 = .ok (.ireturn, 1) := by decide +kernel
theorem d_Gm_open_0 : decode b_Gm_open 0 = .ok (.aload_n 0, 1) := by decide +kernel
theorem d_Gm_open_1 : decode b_Gm_open 1 = .ok (.getfield 15, 3) := by decide +kernel
theorem d_Gm_open_4 : decode b_Gm_open 4 = .ok (.ldc2_w 47, 3) := by decide +kernel
theorem d_Gm_open_7 : decode b_Gm_open 7 = .ok (.lxor, 1) := by decide +kernel
theorem d_Gm_open_8 : decode b_Gm_open 8 = .ok (.ldc2_w 49, 3) := by decide +kernel
theorem d_Gm_open_11 : decode b_Gm_open 11 = .ok (.land, 1) := by decide +kernel
theorem d_Gm_open_12 : decode b_Gm_open 12 = .ok (.lreturn, 1) := by decide +kernel
theorem d_Gm_add_0 : decode b_Gm_add 0 = .ok (.aload_n 0, 1) := by decide +kernel
theorem d_Gm_add_1 : decode b_Gm_add 1 = .ok (.getfield 23, 3) := by decide +kernel
theorem d_Gm_add_4 : decode b_Gm_add 4 = .ok (.aload_n 0, 1) := by decide +kernel
theorem d_Gm_add_5 : decode b_Gm_add 5 = .ok (.getfield 9, 3) := by decide +kernel
theorem d_Gm_add_8 : decode b_Gm_add 8 = .ok (.arraylength, 1) := by decide +kernel
theorem d_Gm_add_9 : decode b_Gm_add 9 = .ok (.invokestatic 26, 3) := by decide +kernel
theorem d_Gm_add_12 : decode b_Gm_add 12 = .ok (.ifCond .eq 32, 3) := by decide +kernel
theorem d_Gm_add_15 : decode b_Gm_add 15 = .ok (.aload_n 0, 1) := by decide +kernel
theorem d_Gm_add_16 : decode b_Gm_add 16 = .ok (.getfield 9, 3) := by decide +kernel
theorem d_Gm_add_19 : decode b_Gm_add 19 = .ok (.aload_n 0, 1) := by decide +kernel
theorem d_Gm_add_20 : decode b_Gm_add 20 = .ok (.getfield 23, 3) := by decide +kernel
theorem d_Gm_add_23 : decode b_Gm_add 23 = .ok (.iload_n 1, 1) := by decide +kernel
theorem d_Gm_add_24 : decode b_Gm_add 24 = .ok (.iastore, 1) := by decide +kernel
theorem d_Gm_add_25 : decode b_Gm_add 25 = .ok (.aload_n 0, 1) := by decide +kernel
theorem d_Gm_add_26 : decode b_Gm_add 26 = .ok (.dup, 1) := by decide +kernel
theorem d_Gm_add_27 : decode b_Gm_add 27 = .ok (.getfield 23, 3) := by decide +kernel
theorem d_Gm_add_30 : decode b_Gm_add 30 = .ok (.iconst 1, 1) := by decide +kernel
theorem d_Gm_add_31 : decode b_Gm_add 31 = .ok (.iadd, 1) := by decide +kernel
theorem d_Gm_add_32 : decode b_Gm_add 32 = .ok (.putfield 23, 3) := by decide +kernel
theorem d_Gm_add_35 : decode b_Gm_add 35 = .ok (.aload_n 0, 1) := by decide +kernel
theorem d_Gm_add_36 : decode b_Gm_add 36 = .ok (.aload_n 0, 1) := by decide +kernel
theorem d_Gm_add_37 : decode b_Gm_add 37 = .ok (.iload_n 1, 1) := by decide +kernel
theorem d_Gm_add_38 : decode b_Gm_add 38 = .ok (.invokevirtual 30, 3) := by decide +kernel
theorem d_Gm_add_41 : decode b_Gm_add 41 = .ok (.putfield 15, 3) := by decide +kernel
theorem d_Gm_add_44 : decode b_Gm_add 44 = .ok (.return_, 1) := by decide +kernel
theorem d_Gm_reachedWith_0 : decode b_Gm_reachedWith 0 = .ok (.aload_n 0, 1) := by decide +kernel
theorem d_Gm_reachedWith_1 : decode b_Gm_reachedWith 1 = .ok (.getfield 19, 3) := by decide +kernel
theorem d_Gm_reachedWith_4 : decode b_Gm_reachedWith 4 = .ok (.aload_n 0, 1) := by decide +kernel
theorem d_Gm_reachedWith_5 : decode b_Gm_reachedWith 5 = .ok (.getfield 15, 3) := by decide +kernel
theorem d_Gm_reachedWith_8 : decode b_Gm_reachedWith 8 = .ok (.iload_n 1, 1) := by decide +kernel
theorem d_Gm_reachedWith_9 : decode b_Gm_reachedWith 9 = .ok (.invokestatic 82, 3) := by decide +kernel
theorem d_Gm_reachedWith_12 : decode b_Gm_reachedWith 12 = .ok (.lreturn, 1) := by decide +kernel
theorem d_Gm_widened_0 : decode b_Gm_widened 0 = .ok (.iload_n 3, 1) := by decide +kernel
theorem d_Gm_widened_1 : decode b_Gm_widened 1 = .ok (.istore 4, 2) := by decide +kernel
theorem d_Gm_widened_3 : decode b_Gm_widened 3 = .ok (.iload_n 0, 1) := by decide +kernel
theorem d_Gm_widened_4 : decode b_Gm_widened 4 = .ok (.iconst 1, 1) := by decide +kernel
theorem d_Gm_widened_5 : decode b_Gm_widened 5 = .ok (.if_icmp .ne 23, 3) := by decide +kernel
theorem d_Gm_widened_8 : decode b_Gm_widened 8 = .ok (.lload_n 1, 1) := by decide +kernel
theorem d_Gm_widened_9 : decode b_Gm_widened 9 = .ok (.lconst 1, 1) := by decide +kernel
theorem d_Gm_widened_10 : decode b_Gm_widened 10 = .ok (.lcmp, 1) := by decide +kernel
theorem d_Gm_widened_11 : decode b_Gm_widened 11 = .ok (.ifCond .le 17, 3) := by decide +kernel
theorem d_Gm_widened_14 : decode b_Gm_widened 14 = .ok (.lload_n 1, 1) := by decide +kernel
theorem d_Gm_widened_15 : decode b_Gm_widened 15 = .ok (.ldc2_w 86, 3) := by decide +kernel
theorem d_Gm_widened_18 : decode b_Gm_widened 18 = .ok (.land, 1) := by decide +kernel
theorem d_Gm_widened_19 : decode b_Gm_widened 19 = .ok (.invokestatic 66, 3) := by decide +kernel
theorem d_Gm_widened_22 : decode b_Gm_widened 22 = .ok (.iload_n 3, 1) := by decide +kernel
theorem d_Gm_widened_23 : decode b_Gm_widened 23 = .ok (.invokestatic 43, 3) := by decide +kernel
theorem d_Gm_widened_26 : decode b_Gm_widened 26 = .ok (.istore 4, 2) := by decide +kernel
theorem d_Gm_widened_28 : decode b_Gm_widened 28 = .ok (.iload 4, 2) := by decide +kernel
theorem d_Gm_widened_30 : decode b_Gm_widened 30 = .ok (.iconst 1, 1) := by decide +kernel
theorem d_Gm_widened_31 : decode b_Gm_widened 31 = .ok (.if_icmp .lt 10, 3) := by decide +kernel
theorem d_Gm_widened_34 : decode b_Gm_widened 34 = .ok (.iload 4, 2) := by decide +kernel
theorem d_Gm_widened_36 : decode b_Gm_widened 36 = .ok (.bipush 60, 2) := by decide +kernel
theorem d_Gm_widened_38 : decode b_Gm_widened 38 = .ok (.if_icmp .le 5, 3) := by decide +kernel
theorem d_Gm_widened_41 : decode b_Gm_widened 41 = .ok (.lload_n 1, 1) := by decide +kernel
theorem d_Gm_widened_42 : decode b_Gm_widened 42 = .ok (.lreturn, 1) := by decide +kernel
theorem d_Gm_widened_43 : decode b_Gm_widened 43 = .ok (.iload_n 0, 1) := by decide +kernel
theorem d_Gm_widened_44 : decode b_Gm_widened 44 = .ok (.iconst 2, 1) := by decide +kernel
theorem d_Gm_widened_45 : decode b_Gm_widened 45 = .ok (.if_icmp .ne 7, 3) := by decide +kernel
theorem d_Gm_widened_48 : decode b_Gm_widened 48 = .ok (.iconst 3, 1) := by decide +kernel
theorem d_Gm_widened_49 : decode b_Gm_widened 49 = .ok (.goto 8, 3) := by decide +kernel
theorem d_Gm_widened_52 : decode b_Gm_widened 52 = .ok (.bipush 60, 2) := by decide +kernel
theorem d_Gm_widened_54 : decode b_Gm_widened 54 = .ok (.iload 4, 2) := by decide +kernel
theorem d_Gm_widened_56 : decode b_Gm_widened 56 = .ok (.idiv, 1) := by decide +kernel
theorem d_Gm_widened_57 : decode b_Gm_widened 57 = .ok (.istore 5, 2) := by decide +kernel
theorem d_Gm_widened_59 : decode b_Gm_widened 59 = .ok (.lload_n 1, 1) := by decide +kernel
theorem d_Gm_widened_60 : decode b_Gm_widened 60 = .ok (.lstore 6, 2) := by decide +kernel
theorem d_Gm_widened_62 : decode b_Gm_widened 62 = .ok (.iconst 0, 1) := by decide +kernel
theorem d_Gm_widened_63 : decode b_Gm_widened 63 = .ok (.istore 8, 2) := by decide +kernel
theorem d_Gm_widened_65 : decode b_Gm_widened 65 = .ok (.iload 8, 2) := by decide +kernel
theorem d_Gm_widened_67 : decode b_Gm_widened 67 = .ok (.iload 5, 2) := by decide +kernel
theorem d_Gm_widened_69 : decode b_Gm_widened 69 = .ok (.if_icmp .ge 23, 3) := by decide +kernel
theorem d_Gm_widened_72 : decode b_Gm_widened 72 = .ok (.lload 6, 2) := by decide +kernel
theorem d_Gm_widened_74 : decode b_Gm_widened 74 = .ok (.lload 6, 2) := by decide +kernel
theorem d_Gm_widened_76 : decode b_Gm_widened 76 = .ok (.iload 4, 2) := by decide +kernel
theorem d_Gm_widened_78 : decode b_Gm_widened 78 = .ok (.lshl, 1) := by decide +kernel
theorem d_Gm_widened_79 : decode b_Gm_widened 79 = .ok (.ldc2_w 49, 3) := by decide +kernel
theorem d_Gm_widened_82 : decode b_Gm_widened 82 = .ok (.land, 1) := by decide +kernel
theorem d_Gm_widened_83 : decode b_Gm_widened 83 = .ok (.lor, 1) := by decide +kernel
theorem d_Gm_widened_84 : decode b_Gm_widened 84 = .ok (.lstore 6, 2) := by decide +kernel
theorem d_Gm_widened_86 : decode b_Gm_widened 86 = .ok (.iinc 8 1, 3) := by decide +kernel
theorem d_Gm_widened_89 : decode b_Gm_widened 89 = .ok (.goto (-24), 3) := by decide +kernel
theorem d_Gm_widened_92 : decode b_Gm_widened 92 = .ok (.lload 6, 2) := by decide +kernel
theorem d_Gm_widened_94 : decode b_Gm_widened 94 = .ok (.lreturn, 1) := by decide +kernel
theorem d_X_lowestOf_0 : decode b_X_lowestOf 0 = .ok (.iconst 0, 1) := by decide +kernel
theorem d_X_lowestOf_1 : decode b_X_lowestOf 1 = .ok (.istore_n 2, 1) := by decide +kernel
theorem d_X_lowestOf_2 : decode b_X_lowestOf 2 = .ok (.iload_n 2, 1) := by decide +kernel
theorem d_X_lowestOf_3 : decode b_X_lowestOf 3 = .ok (.bipush 60, 2) := by decide +kernel
theorem d_X_lowestOf_5 : decode b_X_lowestOf 5 = .ok (.if_icmp .gt 21, 3) := by decide +kernel
theorem d_X_lowestOf_8 : decode b_X_lowestOf 8 = .ok (.lload_n 0, 1) := by decide +kernel
theorem d_X_lowestOf_9 : decode b_X_lowestOf 9 = .ok (.iload_n 2, 1) := by decide +kernel
theorem d_X_lowestOf_10 : decode b_X_lowestOf 10 = .ok (.lshr, 1) := by decide +kernel
theorem d_X_lowestOf_11 : decode b_X_lowestOf 11 = .ok (.lconst 1, 1) := by decide +kernel
theorem d_X_lowestOf_12 : decode b_X_lowestOf 12 = .ok (.land, 1) := by decide +kernel
theorem d_X_lowestOf_13 : decode b_X_lowestOf 13 = .ok (.lconst 1, 1) := by decide +kernel
theorem d_X_lowestOf_14 : decode b_X_lowestOf 14 = .ok (.lcmp, 1) := by decide +kernel
theorem d_X_lowestOf_15 : decode b_X_lowestOf 15 = .ok (.ifCond .ne 5, 3) := by decide +kernel
theorem d_X_lowestOf_18 : decode b_X_lowestOf 18 = .ok (.iload_n 2, 1) := by decide +kernel
theorem d_X_lowestOf_19 : decode b_X_lowestOf 19 = .ok (.ireturn, 1) := by decide +kernel
theorem d_X_lowestOf_20 : decode b_X_lowestOf 20 = .ok (.iinc 2 1, 3) := by decide +kernel
theorem d_X_lowestOf_23 : decode b_X_lowestOf 23 = .ok (.goto (-21), 3) := by decide +kernel
theorem d_X_lowestOf_26 : decode b_X_lowestOf 26 = .ok (.iconst 0, 1) := by decide +kernel
theorem d_X_lowestOf_27 : decode b_X_lowestOf 27 = .ok (.ireturn, 1) := by decide +kernel
theorem d_X_divisorOf_0 : decode b_X_divisorOf 0 = .ok (.iload_n 0, 1) := by decide +kernel
theorem d_X_divisorOf_1 : decode b_X_divisorOf 1 = .ok (.istore_n 2, 1) := by decide +kernel
theorem d_X_divisorOf_2 : decode b_X_divisorOf 2 = .ok (.iload_n 1, 1) := by decide +kernel
theorem d_X_divisorOf_3 : decode b_X_divisorOf 3 = .ok (.istore_n 3, 1) := by decide +kernel
theorem d_X_divisorOf_4 : decode b_X_divisorOf 4 = .ok (.iconst 0, 1) := by decide +kernel
theorem d_X_divisorOf_5 : decode b_X_divisorOf 5 = .ok (.istore 4, 2) := by decide +kernel
theorem d_X_divisorOf_7 : decode b_X_divisorOf 7 = .ok (.iload 4, 2) := by decide +kernel
theorem d_X_divisorOf_9 : decode b_X_divisorOf 9 = .ok (.bipush 64, 2) := by decide +kernel
theorem d_X_divisorOf_11 : decode b_X_divisorOf 11 = .ok (.if_icmp .ge 23, 3) := by decide +kernel
theorem d_X_divisorOf_14 : decode b_X_divisorOf 14 = .ok (.iload_n 3, 1) := by decide +kernel
theorem d_X_divisorOf_15 : decode b_X_divisorOf 15 = .ok (.ifCond .eq 19, 3) := by decide +kernel
theorem d_X_divisorOf_18 : decode b_X_divisorOf 18 = .ok (.iload_n 2, 1) := by decide +kernel
theorem d_X_divisorOf_19 : decode b_X_divisorOf 19 = .ok (.iload_n 3, 1) := by decide +kernel
theorem d_X_divisorOf_20 : decode b_X_divisorOf 20 = .ok (.irem, 1) := by decide +kernel
theorem d_X_divisorOf_21 : decode b_X_divisorOf 21 = .ok (.istore 5, 2) := by decide +kernel
theorem d_X_divisorOf_23 : decode b_X_divisorOf 23 = .ok (.iload_n 3, 1) := by decide +kernel
theorem d_X_divisorOf_24 : decode b_X_divisorOf 24 = .ok (.istore_n 2, 1) := by decide +kernel
theorem d_X_divisorOf_25 : decode b_X_divisorOf 25 = .ok (.iload 5, 2) := by decide +kernel
theorem d_X_divisorOf_27 : decode b_X_divisorOf 27 = .ok (.istore_n 3, 1) := by decide +kernel
theorem d_X_divisorOf_28 : decode b_X_divisorOf 28 = .ok (.iinc 4 1, 3) := by decide +kernel
theorem d_X_divisorOf_31 : decode b_X_divisorOf 31 = .ok (.goto (-24), 3) := by decide +kernel
theorem d_X_divisorOf_34 : decode b_X_divisorOf 34 = .ok (.iload_n 2, 1) := by decide +kernel
theorem d_X_divisorOf_35 : decode b_X_divisorOf 35 = .ok (.ireturn, 1) := by decide +kernel
theorem d_Rd_takesPlayer_0 : decode b_Rd_takesPlayer 0 = .ok (.aload_n 0, 1) := by decide +kernel
theorem d_Rd_takesPlayer_1 : decode b_Rd_takesPlayer 1 = .ok (.getfield 26, 3) := by decide +kernel
theorem d_Rd_takesPlayer_4 : decode b_Rd_takesPlayer 4 = .ok (.iconst 2, 1) := by decide +kernel
theorem d_Rd_takesPlayer_5 : decode b_Rd_takesPlayer 5 = .ok (.invokestatic 60, 3) := by decide +kernel
theorem d_Rd_takesPlayer_8 : decode b_Rd_takesPlayer 8 = .ok (.ifCond .ne 5, 3) := by decide +kernel
theorem d_Rd_takesPlayer_11 : decode b_Rd_takesPlayer 11 = .ok (.iconst 0, 1) := by decide +kernel
theorem d_Rd_takesPlayer_12 : decode b_Rd_takesPlayer 12 = .ok (.ireturn, 1) := by decide +kernel
theorem d_Rd_takesPlayer_13 : decode b_Rd_takesPlayer 13 = .ok (.aload_n 0, 1) := by decide +kernel
theorem d_Rd_takesPlayer_14 : decode b_Rd_takesPlayer 14 = .ok (.getfield 18, 3) := by decide +kernel
theorem d_Rd_takesPlayer_17 : decode b_Rd_takesPlayer 17 = .ok (.aload_n 0, 1) := by decide +kernel
theorem d_Rd_takesPlayer_18 : decode b_Rd_takesPlayer 18 = .ok (.getfield 26, 3) := by decide +kernel
theorem d_Rd_takesPlayer_21 : decode b_Rd_takesPlayer 21 = .ok (.iload_n 1, 1) := by decide +kernel
theorem d_Rd_takesPlayer_22 : decode b_Rd_takesPlayer 22 = .ok (.iastore, 1) := by decide +kernel
theorem d_Rd_takesPlayer_23 : decode b_Rd_takesPlayer 23 = .ok (.aload_n 0, 1) := by decide +kernel
theorem d_Rd_takesPlayer_24 : decode b_Rd_takesPlayer 24 = .ok (.dup, 1) := by decide +kernel
theorem d_Rd_takesPlayer_25 : decode b_Rd_takesPlayer 25 = .ok (.getfield 26, 3) := by decide +kernel
theorem d_Rd_takesPlayer_28 : decode b_Rd_takesPlayer 28 = .ok (.iconst 1, 1) := by decide +kernel
theorem d_Rd_takesPlayer_29 : decode b_Rd_takesPlayer 29 = .ok (.iadd, 1) := by decide +kernel
theorem d_Rd_takesPlayer_30 : decode b_Rd_takesPlayer 30 = .ok (.putfield 26, 3) := by decide +kernel
theorem d_Rd_takesPlayer_33 : decode b_Rd_takesPlayer 33 = .ok (.aload_n 0, 1) := by decide +kernel
theorem d_Rd_takesPlayer_34 : decode b_Rd_takesPlayer 34 = .ok (.dup, 1) := by decide +kernel
theorem d_Rd_takesPlayer_35 : decode b_Rd_takesPlayer 35 = .ok (.getfield 30, 3) := by decide +kernel
theorem d_Rd_takesPlayer_38 : decode b_Rd_takesPlayer 38 = .ok (.iconst 1, 1) := by decide +kernel
theorem d_Rd_takesPlayer_39 : decode b_Rd_takesPlayer 39 = .ok (.iadd, 1) := by decide +kernel
theorem d_Rd_takesPlayer_40 : decode b_Rd_takesPlayer 40 = .ok (.putfield 30, 3) := by decide +kernel
theorem d_Rd_takesPlayer_43 : decode b_Rd_takesPlayer 43 = .ok (.iconst 1, 1) := by decide +kernel
theorem d_Rd_takesPlayer_44 : decode b_Rd_takesPlayer 44 = .ok (.ireturn, 1) := by decide +kernel
theorem d_X_game_0 : decode b_X_game 0 = .ok (.aload_n 0, 1) := by decide +kernel
theorem d_X_game_1 : decode b_X_game 1 = .ok (.aload_n 0, 1) := by decide +kernel
theorem d_X_game_2 : decode b_X_game 2 = .ok (.getfield 15, 3) := by decide +kernel
theorem d_X_game_5 : decode b_X_game 5 = .ok (.iload_n 1, 1) := by decide +kernel
theorem d_X_game_6 : decode b_X_game 6 = .ok (.invokevirtual 103, 3) := by decide +kernel
theorem d_X_game_9 : decode b_X_game 9 = .ok (.istore_n 2, 1) := by decide +kernel
theorem d_X_game_10 : decode b_X_game 10 = .ok (.iload_n 2, 1) := by decide +kernel
theorem d_X_game_11 : decode b_X_game 11 = .ok (.ifCond .eq 5, 3) := by decide +kernel
theorem d_X_game_14 : decode b_X_game 14 = .ok (.iload_n 2, 1) := by decide +kernel
theorem d_X_game_15 : decode b_X_game 15 = .ok (.ireturn, 1) := by decide +kernel
theorem d_X_game_16 : decode b_X_game 16 = .ok (.aload_n 0, 1) := by decide +kernel
theorem d_X_game_17 : decode b_X_game 17 = .ok (.getfield 62, 3) := by decide +kernel
theorem d_X_game_20 : decode b_X_game 20 = .ok (.aload_n 0, 1) := by decide +kernel
theorem d_X_game_21 : decode b_X_game 21 = .ok (.getfield 15, 3) := by decide +kernel
theorem d_X_game_24 : decode b_X_game 24 = .ok (.iload_n 1, 1) := by decide +kernel
theorem d_X_game_25 : decode b_X_game 25 = .ok (.aaload, 1) := by decide +kernel
theorem d_X_game_26 : decode b_X_game 26 = .ok (.invokevirtual 131, 3) := by decide +kernel
theorem d_X_game_29 : decode b_X_game 29 = .ok (.bipush (-9), 2) := by decide +kernel
theorem d_X_game_31 : decode b_X_game 31 = .ok (.if_icmp .eq 6, 3) := by decide +kernel
theorem d_X_game_34 : decode b_X_game 34 = .ok (.bipush (-4), 2) := by decide +kernel
theorem d_X_game_36 : decode b_X_game 36 = .ok (.ireturn, 1) := by decide +kernel
theorem d_X_game_37 : decode b_X_game 37 = .ok (.aload_n 0, 1) := by decide +kernel
theorem d_X_game_38 : decode b_X_game 38 = .ok (.getfield 21, 3) := by decide +kernel
theorem d_X_game_41 : decode b_X_game 41 = .ok (.aload_n 0, 1) := by decide +kernel
theorem d_X_game_42 : decode b_X_game 42 = .ok (.getfield 62, 3) := by decide +kernel
theorem d_X_game_45 : decode b_X_game 45 = .ok (.getfield 135, 3) := by decide +kernel
theorem d_X_game_48 : decode b_X_game 48 = .ok (.invokevirtual 138, 3) := by decide +kernel
theorem d_X_game_51 : decode b_X_game 51 = .ok (.aload_n 0, 1) := by decide +kernel
theorem d_X_game_52 : decode b_X_game 52 = .ok (.aload_n 0, 1) := by decide +kernel
theorem d_X_game_53 : decode b_X_game 53 = .ok (.getfield 62, 3) := by decide +kernel
theorem d_X_game_56 : decode b_X_game 56 = .ok (.getfield 142, 3) := by decide +kernel
theorem d_X_game_59 : decode b_X_game 59 = .ok (.putfield 145, 3) := by decide +kernel
theorem d_X_game_62 : decode b_X_game 62 = .ok (.aload_n 0, 1) := by decide +kernel
theorem d_X_game_63 : decode b_X_game 63 = .ok (.getfield 62, 3) := by decide +kernel
theorem d_X_game_66 : decode b_X_game 66 = .ok (.getfield 146, 3) := by decide +kernel
theorem d_X_game_69 : decode b_X_game 69 = .ok (.iconst 0, 1) := by decide +kernel
theorem d_X_game_70 : decode b_X_game 70 = .ok (.aload_n 0, 1) := by decide +kernel
theorem d_X_game_71 : decode b_X_game 71 = .ok (.getfield 55, 3) := by decide +kernel
theorem d_X_game_74 : decode b_X_game 74 = .ok (.iconst 0, 1) := by decide +kernel
theorem d_X_game_75 : decode b_X_game 75 = .ok (.iconst 2, 1) := by decide +kernel
theorem d_X_game_76 : decode b_X_game 76 = .ok (.invokestatic 125, 3) := by decide +kernel
theorem d_X_game_79 : decode b_X_game 79 = .ok (.iconst 0, 1) := by decide +kernel
theorem d_X_game_80 : decode b_X_game 80 = .ok (.istore_n 3, 1) := by decide +kernel
theorem d_X_game_81 : decode b_X_game 81 = .ok (.iload_n 3, 1) := by decide +kernel
theorem d_X_game_82 : decode b_X_game 82 = .ok (.iconst 3, 1) := by decide +kernel
theorem d_X_game_83 : decode b_X_game 83 = .ok (.if_icmp .ge 16, 3) := by decide +kernel
theorem d_X_game_86 : decode b_X_game 86 = .ok (.aload_n 0, 1) := by decide +kernel
theorem d_X_game_87 : decode b_X_game 87 = .ok (.getfield 29, 3) := by decide +kernel
theorem d_X_game_90 : decode b_X_game 90 = .ok (.iload_n 3, 1) := by decide +kernel
theorem d_X_game_91 : decode b_X_game 91 = .ok (.iconst 0, 1) := by decide +kernel
theorem d_X_game_92 : decode b_X_game 92 = .ok (.bastore, 1) := by decide +kernel
theorem d_X_game_93 : decode b_X_game 93 = .ok (.iinc 3 1, 3) := by decide +kernel
theorem d_X_game_96 : decode b_X_game 96 = .ok (.goto (-15), 3) := by decide +kernel
theorem d_X_game_99 : decode b_X_game 99 = .ok (.aload_n 0, 1) := by decide +kernel
theorem d_X_game_100 : decode b_X_game 100 = .ok (.getfield 21, 3) := by decide +kernel
theorem d_X_game_103 : decode b_X_game 103 = .ok (.getfield 147, 3) := by decide +kernel
theorem d_X_game_106 : decode b_X_game 106 = .ok (.ireturn, 1) := by decide +kernel
theorem d_Gm_become_0 : decode b_Gm_become 0 = .ok (.aload_n 1, 1) := by decide +kernel
theorem d_Gm_become_1 : decode b_Gm_become 1 = .ok (.getfield 9, 3) := by decide +kernel
theorem d_Gm_become_4 : decode b_Gm_become 4 = .ok (.iconst 0, 1) := by decide +kernel
theorem d_Gm_become_5 : decode b_Gm_become 5 = .ok (.aload_n 0, 1) := by decide +kernel
theorem d_Gm_become_6 : decode b_Gm_become 6 = .ok (.getfield 9, 3) := by decide +kernel
theorem d_Gm_become_9 : decode b_Gm_become 9 = .ok (.iconst 0, 1) := by decide +kernel
theorem d_Gm_become_10 : decode b_Gm_become 10 = .ok (.aload_n 0, 1) := by decide +kernel
theorem d_Gm_become_11 : decode b_Gm_become 11 = .ok (.getfield 9, 3) := by decide +kernel
theorem d_Gm_become_14 : decode b_Gm_become 14 = .ok (.arraylength, 1) := by decide +kernel
theorem d_Gm_become_15 : decode b_Gm_become 15 = .ok (.invokestatic 37, 3) := by decide +kernel
theorem d_Gm_become_18 : decode b_Gm_become 18 = .ok (.aload_n 0, 1) := by decide +kernel
theorem d_Gm_become_19 : decode b_Gm_become 19 = .ok (.aload_n 1, 1) := by decide +kernel
theorem d_Gm_become_20 : decode b_Gm_become 20 = .ok (.getfield 23, 3) := by decide +kernel
theorem d_Gm_become_23 : decode b_Gm_become 23 = .ok (.putfield 23, 3) := by decide +kernel
theorem d_Gm_become_26 : decode b_Gm_become 26 = .ok (.aload_n 0, 1) := by decide +kernel
theorem d_Gm_become_27 : decode b_Gm_become 27 = .ok (.aload_n 1, 1) := by decide +kernel
theorem d_Gm_become_28 : decode b_Gm_become 28 = .ok (.getfield 19, 3) := by decide +kernel
theorem d_Gm_become_31 : decode b_Gm_become 31 = .ok (.putfield 19, 3) := by decide +kernel
theorem d_Gm_become_34 : decode b_Gm_become 34 = .ok (.aload_n 0, 1) := by decide +kernel
theorem d_Gm_become_35 : decode b_Gm_become 35 = .ok (.aload_n 1, 1) := by decide +kernel
theorem d_Gm_become_36 : decode b_Gm_become 36 = .ok (.getfield 15, 3) := by decide +kernel
theorem d_Gm_become_39 : decode b_Gm_become 39 = .ok (.putfield 15, 3) := by decide +kernel
theorem d_Gm_become_42 : decode b_Gm_become 42 = .ok (.return_, 1) := by decide +kernel
theorem d_X_law_0 : decode b_X_law 0 = .ok (.aload_n 0, 1) := by decide +kernel
theorem d_X_law_1 : decode b_X_law 1 = .ok (.getfield 21, 3) := by decide +kernel
theorem d_X_law_4 : decode b_X_law 4 = .ok (.getfield 148, 3) := by decide +kernel
theorem d_X_law_7 : decode b_X_law 7 = .ok (.ireturn, 1) := by decide +kernel
theorem d_X_player_0 : decode b_X_player 0 = .ok (.iload_n 1, 1) := by decide +kernel
theorem d_X_player_1 : decode b_X_player 1 = .ok (.aload_n 0, 1) := by decide +kernel
theorem d_X_player_2 : decode b_X_player 2 = .ok (.getfield 145, 3) := by decide +kernel
theorem d_X_player_5 : decode b_X_player 5 = .ok (.invokestatic 110, 3) := by decide +kernel
theorem d_X_player_8 : decode b_X_player 8 = .ok (.ifCond .eq 12, 3) := by decide +kernel
theorem d_X_player_11 : decode b_X_player 11 = .ok (.aload_n 0, 1) := by decide +kernel
theorem d_X_player_12 : decode b_X_player 12 = .ok (.getfield 55, 3) := by decide +kernel
theorem d_X_player_15 : decode b_X_player 15 = .ok (.iload_n 1, 1) := by decide +kernel
theorem d_X_player_16 : decode b_X_player 16 = .ok (.iaload, 1) := by decide +kernel
theorem d_X_player_17 : decode b_X_player 17 = .ok (.goto 4, 3) := by decide +kernel
theorem d_X_player_20 : decode b_X_player 20 = .ok (.iconst (-1), 1) := by decide +kernel
theorem d_X_player_21 : decode b_X_player 21 = .ok (.ireturn, 1) := by decide +kernel
theorem d_X_mark_0 : decode b_X_mark 0 = .ok (.iload_n 1, 1) := by decide +kernel
theorem d_X_mark_1 : decode b_X_mark 1 = .ok (.aload_n 0, 1) := by decide +kernel
theorem d_X_mark_2 : decode b_X_mark 2 = .ok (.getfield 145, 3) := by decide +kernel
theorem d_X_mark_5 : decode b_X_mark 5 = .ok (.invokestatic 110, 3) := by decide +kernel
theorem d_X_mark_8 : decode b_X_mark 8 = .ok (.ifCond .eq 13, 3) := by decide +kernel
theorem d_X_mark_11 : decode b_X_mark 11 = .ok (.iload_n 2, 1) := by decide +kernel
theorem d_X_mark_12 : decode b_X_mark 12 = .ok (.iconst 1, 1) := by decide +kernel
theorem d_X_mark_13 : decode b_X_mark 13 = .ok (.if_icmp .lt 8, 3) := by decide +kernel
theorem d_X_mark_16 : decode b_X_mark 16 = .ok (.iload_n 2, 1) := by decide +kernel
theorem d_X_mark_17 : decode b_X_mark 17 = .ok (.iconst 5, 1) := by decide +kernel
theorem d_X_mark_18 : decode b_X_mark 18 = .ok (.if_icmp .le 5, 3) := by decide +kernel
theorem d_X_mark_21 : decode b_X_mark 21 = .ok (.iconst (-1), 1) := by decide +kernel
theorem d_X_mark_22 : decode b_X_mark 22 = .ok (.ireturn, 1) := by decide +kernel
theorem d_X_mark_23 : decode b_X_mark 23 = .ok (.aload_n 0, 1) := by decide +kernel
theorem d_X_mark_24 : decode b_X_mark 24 = .ok (.iload_n 1, 1) := by decide +kernel
theorem d_X_mark_25 : decode b_X_mark 25 = .ok (.invokevirtual 151, 3) := by decide +kernel
theorem d_X_mark_28 : decode b_X_mark 28 = .ok (.astore_n 3, 1) := by decide +kernel
theorem d_X_mark_29 : decode b_X_mark 29 = .ok (.aload_n 3, 1) := by decide +kernel
theorem d_X_mark_30 : decode b_X_mark 30 = .ok (.iload_n 2, 1) := by decide +kernel
theorem d_X_mark_31 : decode b_X_mark 31 = .ok (.invokestatic 155, 3) := by decide +kernel
theorem d_X_mark_34 : decode b_X_mark 34 = .ok (.ifCond .ne 9, 3) := by decide +kernel
theorem d_X_mark_37 : decode b_X_mark 37 = .ok (.aload_n 0, 1) := by decide +kernel
theorem d_X_mark_38 : decode b_X_mark 38 = .ok (.iconst 3, 1) := by decide +kernel
theorem d_X_mark_39 : decode b_X_mark 39 = .ok (.invokevirtual 114, 3) := by decide +kernel
theorem d_X_mark_42 : decode b_X_mark 42 = .ok (.ireturn, 1) := by decide +kernel
theorem d_X_mark_43 : decode b_X_mark 43 = .ok (.iload_n 2, 1) := by decide +kernel
theorem d_X_mark_44 : decode b_X_mark 44 = .ok (.iconst 1, 1) := by decide +kernel
theorem d_X_mark_45 : decode b_X_mark 45 = .ok (.if_icmp .ne 16, 3) := by decide +kernel
theorem d_X_mark_48 : decode b_X_mark 48 = .ok (.aload_n 0, 1) := by decide +kernel
theorem d_X_mark_49 : decode b_X_mark 49 = .ok (.getfield 21, 3) := by decide +kernel
theorem d_X_mark_52 : decode b_X_mark 52 = .ok (.invokevirtual 159, 3) := by decide +kernel
theorem d_X_mark_55 : decode b_X_mark 55 = .ok (.ifCond .eq 6, 3) := by decide +kernel
theorem d_X_mark_58 : decode b_X_mark 58 = .ok (.bipush (-4), 2) := by decide +kernel
theorem d_X_mark_60 : decode b_X_mark 60 = .ok (.ireturn, 1) := by decide +kernel
theorem d_X_mark_61 : decode b_X_mark 61 = .ok (.iload_n 2, 1) := by decide +kernel
theorem d_X_mark_62 : decode b_X_mark 62 = .ok (.tableswitch 111 1 4 #[30, 51, 76, 103], 30) := by decide +kernel
theorem d_X_mark_92 : decode b_X_mark 92 = .ok (.aload_n 0, 1) := by decide +kernel
theorem d_X_mark_93 : decode b_X_mark 93 = .ok (.getfield 21, 3) := by decide +kernel
theorem d_X_mark_96 : decode b_X_mark 96 = .ok (.aload_n 3, 1) := by decide +kernel
theorem d_X_mark_97 : decode b_X_mark 97 = .ok (.aload_n 0, 1) := by decide +kernel
theorem d_X_mark_98 : decode b_X_mark 98 = .ok (.getfield 21, 3) := by decide +kernel
theorem d_X_mark_101 : decode b_X_mark 101 = .ok (.aload_n 0, 1) := by decide +kernel
theorem d_X_mark_102 : decode b_X_mark 102 = .ok (.getfield 76, 3) := by decide +kernel
theorem d_X_mark_105 : decode b_X_mark 105 = .ok (.iconst 0, 1) := by decide +kernel
theorem d_X_mark_106 : decode b_X_mark 106 = .ok (.invokevirtual 162, 3) := by decide +kernel
theorem d_X_mark_109 : decode b_X_mark 109 = .ok (.invokevirtual 166, 3) := by decide +kernel
theorem d_X_mark_112 : decode b_X_mark 112 = .ok (.ireturn, 1) := by decide +kernel
theorem d_X_mark_113 : decode b_X_mark 113 = .ok (.aload_n 0, 1) := by decide +kernel
theorem d_X_mark_114 : decode b_X_mark 114 = .ok (.getfield 21, 3) := by decide +kernel
theorem d_X_mark_117 : decode b_X_mark 117 = .ok (.invokevirtual 169, 3) := by decide +kernel
theorem d_X_mark_120 : decode b_X_mark 120 = .ok (.lconst 0, 1) := by decide +kernel
theorem d_X_mark_121 : decode b_X_mark 121 = .ok (.lcmp, 1) := by decide +kernel
theorem d_X_mark_122 : decode b_X_mark 122 = .ok (.ifCond .ne 8, 3) := by decide +kernel
theorem d_X_mark_125 : decode b_X_mark 125 = .ok (.bipush (-9), 2) := by decide +kernel
theorem d_X_mark_127 : decode b_X_mark 127 = .ok (.goto 10, 3) := by decide +kernel
theorem d_X_mark_130 : decode b_X_mark 130 = .ok (.aload_n 0, 1) := by decide +kernel
theorem d_X_mark_131 : decode b_X_mark 131 = .ok (.getfield 21, 3) := by decide +kernel
theorem d_X_mark_134 : decode b_X_mark 134 = .ok (.invokevirtual 173, 3) := by decide +kernel
theorem d_X_mark_137 : decode b_X_mark 137 = .ok (.ireturn, 1) := by decide +kernel
theorem d_X_mark_138 : decode b_X_mark 138 = .ok (.aload_n 0, 1) := by decide +kernel
theorem d_X_mark_139 : decode b_X_mark 139 = .ok (.getfield 76, 3) := by decide +kernel
theorem d_X_mark_142 : decode b_X_mark 142 = .ok (.aload_n 0, 1) := by decide +kernel
theorem d_X_mark_143 : decode b_X_mark 143 = .ok (.getfield 21, 3) := by decide +kernel
theorem d_X_mark_146 : decode b_X_mark 146 = .ok (.invokevirtual 177, 3) := by decide +kernel
theorem d_X_mark_149 : decode b_X_mark 149 = .ok (.ifCond .eq 13, 3) := by decide +kernel
theorem d_X_mark_152 : decode b_X_mark 152 = .ok (.aload_n 0, 1) := by decide +kernel
theorem d_X_mark_153 : decode b_X_mark 153 = .ok (.getfield 76, 3) := by decide +kernel
theorem d_X_mark_156 : decode b_X_mark 156 = .ok (.invokevirtual 181, 3) := by decide +kernel
theorem d_X_mark_159 : decode b_X_mark 159 = .ok (.goto 5, 3) := by decide +kernel
theorem d_X_mark_162 : decode b_X_mark 162 = .ok (.bipush (-9), 2) := by decide +kernel
theorem d_X_mark_164 : decode b_X_mark 164 = .ok (.ireturn, 1) := by decide +kernel
theorem d_X_mark_165 : decode b_X_mark 165 = .ok (.aload_n 0, 1) := by decide +kernel
theorem d_X_mark_166 : decode b_X_mark 166 = .ok (.getfield 21, 3) := by decide +kernel
theorem d_X_mark_169 : decode b_X_mark 169 = .ok (.invokevirtual 184, 3) := by decide +kernel
theorem d_X_mark_172 : decode b_X_mark 172 = .ok (.ireturn, 1) := by decide +kernel
theorem d_X_mark_173 : decode b_X_mark 173 = .ok (.aload_n 0, 1) := by decide +kernel
theorem d_X_mark_174 : decode b_X_mark 174 = .ok (.getfield 21, 3) := by decide +kernel
theorem d_X_mark_177 : decode b_X_mark 177 = .ok (.invokevirtual 187, 3) := by decide +kernel
theorem d_X_mark_180 : decode b_X_mark 180 = .ok (.invokestatic 190, 3) := by decide +kernel
theorem d_X_mark_183 : decode b_X_mark 183 = .ok (.ireturn, 1) := by decide +kernel
theorem d_X_playerAt_0 : decode b_X_playerAt 0 = .ok (.aload_n 0, 1) := by decide +kernel
theorem d_X_playerAt_1 : decode b_X_playerAt 1 = .ok (.getfield 51, 3) := by decide +kernel
theorem d_X_playerAt_4 : decode b_X_playerAt 4 = .ok (.aload_n 0, 1) := by decide +kernel
theorem d_X_playerAt_5 : decode b_X_playerAt 5 = .ok (.getfield 55, 3) := by decide +kernel
theorem d_X_playerAt_8 : decode b_X_playerAt 8 = .ok (.iload_n 1, 1) := by decide +kernel
theorem d_X_playerAt_9 : decode b_X_playerAt 9 = .ok (.iaload, 1) := by decide +kernel
theorem d_X_playerAt_10 : decode b_X_playerAt 10 = .ok (.aaload, 1) := by decide +kernel
theorem d_X_playerAt_11 : decode b_X_playerAt 11 = .ok (.areturn, 1) := by decide +kernel
theorem d_X_isOf_0 : decode b_X_isOf 0 = .ok (.iload_n 1, 1) := by decide +kernel
theorem d_X_isOf_1 : decode b_X_isOf 1 = .ok (.tableswitch 51 1 4 #[31, 36, 41, 46], 31) := by decide +kernel
theorem d_X_isOf_32 : decode b_X_isOf 32 = .ok (.aload_n 0, 1) := by decide +kernel
theorem d_X_isOf_33 : decode b_X_isOf 33 = .ok (.instanceof 36, 3) := by decide +kernel
theorem d_X_isOf_36 : decode b_X_isOf 36 = .ok (.ireturn, 1) := by decide +kernel
theorem d_X_isOf_37 : decode b_X_isOf 37 = .ok (.aload_n 0, 1) := by decide +kernel
theorem d_X_isOf_38 : decode b_X_isOf 38 = .ok (.instanceof 39, 3) := by decide +kernel
theorem d_X_isOf_41 : decode b_X_isOf 41 = .ok (.ireturn, 1) := by decide +kernel
theorem d_X_isOf_42 : decode b_X_isOf 42 = .ok (.aload_n 0, 1) := by decide +kernel
theorem d_X_isOf_43 : decode b_X_isOf 43 = .ok (.instanceof 42, 3) := by decide +kernel
theorem d_X_isOf_46 : decode b_X_isOf 46 = .ok (.ireturn, 1) := by decide +kernel
theorem d_X_isOf_47 : decode b_X_isOf 47 = .ok (.aload_n 0, 1) := by decide +kernel
theorem d_X_isOf_48 : decode b_X_isOf 48 = .ok (.instanceof 45, 3) := by decide +kernel
theorem d_X_isOf_51 : decode b_X_isOf 51 = .ok (.ireturn, 1) := by decide +kernel
theorem d_X_isOf_52 : decode b_X_isOf 52 = .ok (.aload_n 0, 1) := by decide +kernel
theorem d_X_isOf_53 : decode b_X_isOf 53 = .ok (.instanceof 48, 3) := by decide +kernel
theorem d_X_isOf_56 : decode b_X_isOf 56 = .ok (.ireturn, 1) := by decide +kernel
theorem d_Gm_isOver_0 : decode b_Gm_isOver 0 = .ok (.aload_n 0, 1) := by decide +kernel
theorem d_Gm_isOver_1 : decode b_Gm_isOver 1 = .ok (.invokevirtual 72, 3) := by decide +kernel
theorem d_Gm_isOver_4 : decode b_Gm_isOver 4 = .ok (.iconst 1, 1) := by decide +kernel
theorem d_Gm_isOver_5 : decode b_Gm_isOver 5 = .ok (.if_icmp .eq 12, 3) := by decide +kernel
theorem d_Gm_isOver_8 : decode b_Gm_isOver 8 = .ok (.aload_n 0, 1) := by decide +kernel
theorem d_Gm_isOver_9 : decode b_Gm_isOver 9 = .ok (.invokevirtual 51, 3) := by decide +kernel
theorem d_Gm_isOver_12 : decode b_Gm_isOver 12 = .ok (.lconst 0, 1) := by decide +kernel
theorem d_Gm_isOver_13 : decode b_Gm_isOver 13 = .ok (.lcmp, 1) := by decide +kernel
theorem d_Gm_isOver_14 : decode b_Gm_isOver 14 = .ok (.ifCond .ne 7, 3) := by decide +kernel
theorem d_Gm_isOver_17 : decode b_Gm_isOver 17 = .ok (.iconst 1, 1) := by decide +kernel
theorem d_Gm_isOver_18 : decode b_Gm_isOver 18 = .ok (.goto 4, 3) := by decide +kernel
theorem d_Gm_isOver_21 : decode b_Gm_isOver 21 = .ok (.iconst 0, 1) := by decide +kernel
theorem d_Gm_isOver_22 : decode b_Gm_isOver 22 = .ok (.ireturn, 1) := by decide +kernel
theorem d_Gm_last_0 : decode b_Gm_last 0 = .ok (.aload_n 0, 1) := by decide +kernel
theorem d_Gm_last_1 : decode b_Gm_last 1 = .ok (.getfield 23, 3) := by decide +kernel
theorem d_Gm_last_4 : decode b_Gm_last 4 = .ok (.iconst 1, 1) := by decide +kernel
theorem d_Gm_last_5 : decode b_Gm_last 5 = .ok (.isub, 1) := by decide +kernel
theorem d_Gm_last_6 : decode b_Gm_last 6 = .ok (.aload_n 0, 1) := by decide +kernel
theorem d_Gm_last_7 : decode b_Gm_last 7 = .ok (.getfield 9, 3) := by decide +kernel
theorem d_Gm_last_10 : decode b_Gm_last 10 = .ok (.arraylength, 1) := by decide +kernel
theorem d_Gm_last_11 : decode b_Gm_last 11 = .ok (.invokestatic 26, 3) := by decide +kernel
theorem d_Gm_last_14 : decode b_Gm_last 14 = .ok (.ifCond .eq 17, 3) := by decide +kernel
theorem d_Gm_last_17 : decode b_Gm_last 17 = .ok (.aload_n 0, 1) := by decide +kernel
theorem d_Gm_last_18 : decode b_Gm_last 18 = .ok (.getfield 9, 3) := by decide +kernel
theorem d_Gm_last_21 : decode b_Gm_last 21 = .ok (.aload_n 0, 1) := by decide +kernel
theorem d_Gm_last_22 : decode b_Gm_last 22 = .ok (.getfield 23, 3) := by decide +kernel
theorem d_Gm_last_25 : decode b_Gm_last 25 = .ok (.iconst 1, 1) := by decide +kernel
theorem d_Gm_last_26 : decode b_Gm_last 26 = .ok (.isub, 1) := by decide +kernel
theorem d_Gm_last_27 : decode b_Gm_last 27 = .ok (.iaload, 1) := by decide +kernel
theorem d_Gm_last_28 : decode b_Gm_last 28 = .ok (.goto 4, 3) := by decide +kernel
theorem d_Gm_last_31 : decode b_Gm_last 31 = .ok (.iconst 0, 1) := by decide +kernel
theorem d_Gm_last_32 : decode b_Gm_last 32 = .ok (.ireturn, 1) := by decide +kernel
theorem d_Bs_choice_0 : decode b_Bs_choice 0 = .ok (.aload_n 2, 1) := by decide +kernel
theorem d_Bs_choice_1 : decode b_Bs_choice 1 = .ok (.aload_n 1, 1) := by decide +kernel
theorem d_Bs_choice_2 : decode b_Bs_choice 2 = .ok (.invokevirtual 7, 3) := by decide +kernel
theorem d_Bs_choice_5 : decode b_Bs_choice 5 = .ok (.ifCond .eq 10, 3) := by decide +kernel
theorem d_Bs_choice_8 : decode b_Bs_choice 8 = .ok (.aload_n 2, 1) := by decide +kernel
theorem d_Bs_choice_9 : decode b_Bs_choice 9 = .ok (.invokevirtual 13, 3) := by decide +kernel
theorem d_Bs_choice_12 : decode b_Bs_choice 12 = .ok (.goto 4, 3) := by decide +kernel
theorem d_Bs_choice_15 : decode b_Bs_choice 15 = .ok (.iconst 0, 1) := by decide +kernel
theorem d_Bs_choice_16 : decode b_Bs_choice 16 = .ok (.istore 4, 2) := by decide +kernel
theorem d_Bs_choice_18 : decode b_Bs_choice 18 = .ok (.iload 4, 2) := by decide +kernel
theorem d_Bs_choice_20 : decode b_Bs_choice 20 = .ok (.iconst 1, 1) := by decide +kernel
theorem d_Bs_choice_21 : decode b_Bs_choice 21 = .ok (.if_icmp .le 8, 3) := by decide +kernel
theorem d_Bs_choice_24 : decode b_Bs_choice 24 = .ok (.iload 4, 2) := by decide +kernel
theorem d_Bs_choice_26 : decode b_Bs_choice 26 = .ok (.goto 7, 3) := by decide +kernel
theorem d_Bs_choice_29 : decode b_Bs_choice 29 = .ok (.aload_n 1, 1) := by decide +kernel
theorem d_Bs_choice_30 : decode b_Bs_choice 30 = .ok (.invokevirtual 17, 3) := by decide +kernel
theorem d_Bs_choice_33 : decode b_Bs_choice 33 = .ok (.ireturn, 1) := by decide +kernel
theorem d_So_load_0 : decode b_So_load 0 = .ok (.aload_n 1, 1) := by decide +kernel
theorem d_So_load_1 : decode b_So_load 1 = .ok (.invokevirtual 18, 3) := by decide +kernel
theorem d_So_load_4 : decode b_So_load 4 = .ok (.lstore_n 2, 1) := by decide +kernel
theorem d_So_load_5 : decode b_So_load 5 = .ok (.aload_n 1, 1) := by decide +kernel
theorem d_So_load_6 : decode b_So_load 6 = .ok (.getfield 24, 3) := by decide +kernel
theorem d_So_load_9 : decode b_So_load 9 = .ok (.ifCond .ne 21, 3) := by decide +kernel
theorem d_So_load_12 : decode b_So_load 12 = .ok (.lload_n 2, 1) := by decide +kernel
theorem d_So_load_13 : decode b_So_load 13 = .ok (.bipush 28, 2) := by decide +kernel
theorem d_So_load_15 : decode b_So_load 15 = .ok (.lshr, 1) := by decide +kernel
theorem d_So_load_16 : decode b_So_load 16 = .ok (.lconst 0, 1) := by decide +kernel
theorem d_So_load_17 : decode b_So_load 17 = .ok (.lcmp, 1) := by decide +kernel
theorem d_So_load_18 : decode b_So_load 18 = .ok (.ifCond .ne 12, 3) := by decide +kernel
theorem d_So_load_21 : decode b_So_load 21 = .ok (.lload_n 2, 1) := by decide +kernel
theorem d_So_load_22 : decode b_So_load 22 = .ok (.invokestatic 28, 3) := by decide +kernel
theorem d_So_load_25 : decode b_So_load 25 = .ok (.bipush 14, 2) := by decide +kernel
theorem d_So_load_27 : decode b_So_load 27 = .ok (.if_icmp .le 5, 3) := by decide +kernel
theorem d_So_load_30 : decode b_So_load 30 = .ok (.iconst 0, 1) := by decide +kernel
theorem d_So_load_31 : decode b_So_load 31 = .ok (.ireturn, 1) := by decide +kernel
theorem d_So_load_32 : decode b_So_load 32 = .ok (.aload_n 0, 1) := by decide +kernel
theorem d_So_load_33 : decode b_So_load 33 = .ok (.lload_n 2, 1) := by decide +kernel
theorem d_So_load_34 : decode b_So_load 34 = .ok (.l2i, 1) := by decide +kernel
theorem d_So_load_35 : decode b_So_load 35 = .ok (.putfield 34, 3) := by decide +kernel
theorem d_So_load_38 : decode b_So_load 38 = .ok (.aload_n 0, 1) := by decide +kernel
theorem d_So_load_39 : decode b_So_load 39 = .ok (.getfield 37, 3) := by decide +kernel
theorem d_So_load_42 : decode b_So_load 42 = .ok (.sipush 512, 3) := by decide +kernel
theorem d_So_load_45 : decode b_So_load 45 = .ok (.if_icmp .le 16, 3) := by decide +kernel
theorem d_So_load_48 : decode b_So_load 48 = .ok (.aload_n 0, 1) := by decide +kernel
theorem d_So_load_49 : decode b_So_load 49 = .ok (.getfield 11, 3) := by decide +kernel
theorem d_So_load_52 : decode b_So_load 52 = .ok (.iconst 0, 1) := by decide +kernel
theorem d_So_load_53 : decode b_So_load 53 = .ok (.invokestatic 40, 3) := by decide +kernel
theorem d_So_load_56 : decode b_So_load 56 = .ok (.aload_n 0, 1) := by decide +kernel
theorem d_So_load_57 : decode b_So_load 57 = .ok (.iconst 0, 1) := by decide +kernel
theorem d_So_load_58 : decode b_So_load 58 = .ok (.putfield 37, 3) := by decide +kernel
theorem d_So_load_61 : decode b_So_load 61 = .ok (.iconst 1, 1) := by decide +kernel
theorem d_So_load_62 : decode b_So_load 62 = .ok (.ireturn, 1) := by decide +kernel
theorem d_Lg_bitCount_0 : decode b_Lg_bitCount 0 = .ok (.lload_n 0, 1) := by decide +kernel
theorem d_Lg_bitCount_1 : decode b_Lg_bitCount 1 = .ok (.lload_n 0, 1) := by decide +kernel
theorem d_Lg_bitCount_2 : decode b_Lg_bitCount 2 = .ok (.iconst 1, 1) := by decide +kernel
theorem d_Lg_bitCount_3 : decode b_Lg_bitCount 3 = .ok (.lushr, 1) := by decide +kernel
theorem d_Lg_bitCount_4 : decode b_Lg_bitCount 4 = .ok (.ldc2_w 314, 3) := by decide +kernel
theorem d_Lg_bitCount_7 : decode b_Lg_bitCount 7 = .ok (.land, 1) := by decide +kernel
theorem d_Lg_bitCount_8 : decode b_Lg_bitCount 8 = .ok (.lsub, 1) := by decide +kernel
theorem d_Lg_bitCount_9 : decode b_Lg_bitCount 9 = .ok (.lstore_n 0, 1) := by decide +kernel
theorem d_Lg_bitCount_10 : decode b_Lg_bitCount 10 = .ok (.lload_n 0, 1) := by decide +kernel
theorem d_Lg_bitCount_11 : decode b_Lg_bitCount 11 = .ok (.ldc2_w 316, 3) := by decide +kernel
theorem d_Lg_bitCount_14 : decode b_Lg_bitCount 14 = .ok (.land, 1) := by decide +kernel
theorem d_Lg_bitCount_15 : decode b_Lg_bitCount 15 = .ok (.lload_n 0, 1) := by decide +kernel
theorem d_Lg_bitCount_16 : decode b_Lg_bitCount 16 = .ok (.iconst 2, 1) := by decide +kernel
theorem d_Lg_bitCount_17 : decode b_Lg_bitCount 17 = .ok (.lushr, 1) := by decide +kernel
theorem d_Lg_bitCount_18 : decode b_Lg_bitCount 18 = .ok (.ldc2_w 316, 3) := by decide +kernel
theorem d_Lg_bitCount_21 : decode b_Lg_bitCount 21 = .ok (.land, 1) := by decide +kernel
theorem d_Lg_bitCount_22 : decode b_Lg_bitCount 22 = .ok (.ladd, 1) := by decide +kernel
theorem d_Lg_bitCount_23 : decode b_Lg_bitCount 23 = .ok (.lstore_n 0, 1) := by decide +kernel
theorem d_Lg_bitCount_24 : decode b_Lg_bitCount 24 = .ok (.lload_n 0, 1) := by decide +kernel
theorem d_Lg_bitCount_25 : decode b_Lg_bitCount 25 = .ok (.lload_n 0, 1) := by decide +kernel
theorem d_Lg_bitCount_26 : decode b_Lg_bitCount 26 = .ok (.iconst 4, 1) := by decide +kernel
theorem d_Lg_bitCount_27 : decode b_Lg_bitCount 27 = .ok (.lushr, 1) := by decide +kernel
theorem d_Lg_bitCount_28 : decode b_Lg_bitCount 28 = .ok (.ladd, 1) := by decide +kernel
theorem d_Lg_bitCount_29 : decode b_Lg_bitCount 29 = .ok (.ldc2_w 318, 3) := by decide +kernel
theorem d_Lg_bitCount_32 : decode b_Lg_bitCount 32 = .ok (.land, 1) := by decide +kernel
theorem d_Lg_bitCount_33 : decode b_Lg_bitCount 33 = .ok (.lstore_n 0, 1) := by decide +kernel
theorem d_Lg_bitCount_34 : decode b_Lg_bitCount 34 = .ok (.lload_n 0, 1) := by decide +kernel
theorem d_Lg_bitCount_35 : decode b_Lg_bitCount 35 = .ok (.lload_n 0, 1) := by decide +kernel
theorem d_Lg_bitCount_36 : decode b_Lg_bitCount 36 = .ok (.bipush 8, 2) := by decide +kernel
theorem d_Lg_bitCount_38 : decode b_Lg_bitCount 38 = .ok (.lushr, 1) := by decide +kernel
theorem d_Lg_bitCount_39 : decode b_Lg_bitCount 39 = .ok (.ladd, 1) := by decide +kernel
theorem d_Lg_bitCount_40 : decode b_Lg_bitCount 40 = .ok (.lstore_n 0, 1) := by decide +kernel
theorem d_Lg_bitCount_41 : decode b_Lg_bitCount 41 = .ok (.lload_n 0, 1) := by decide +kernel
theorem d_Lg_bitCount_42 : decode b_Lg_bitCount 42 = .ok (.lload_n 0, 1) := by decide +kernel
theorem d_Lg_bitCount_43 : decode b_Lg_bitCount 43 = .ok (.bipush 16, 2) := by decide +kernel
theorem d_Lg_bitCount_45 : decode b_Lg_bitCount 45 = .ok (.lushr, 1) := by decide +kernel
theorem d_Lg_bitCount_46 : decode b_Lg_bitCount 46 = .ok (.ladd, 1) := by decide +kernel
theorem d_Lg_bitCount_47 : decode b_Lg_bitCount 47 = .ok (.lstore_n 0, 1) := by decide +kernel
theorem d_Lg_bitCount_48 : decode b_Lg_bitCount 48 = .ok (.lload_n 0, 1) := by decide +kernel
theorem d_Lg_bitCount_49 : decode b_Lg_bitCount 49 = .ok (.lload_n 0, 1) := by decide +kernel
theorem d_Lg_bitCount_50 : decode b_Lg_bitCount 50 = .ok (.bipush 32, 2) := by decide +kernel
theorem d_Lg_bitCount_52 : decode b_Lg_bitCount 52 = .ok (.lushr, 1) := by decide +kernel
theorem d_Lg_bitCount_53 : decode b_Lg_bitCount 53 = .ok (.ladd, 1) := by decide +kernel
theorem d_Lg_bitCount_54 : decode b_Lg_bitCount 54 = .ok (.lstore_n 0, 1) := by decide +kernel
theorem d_Lg_bitCount_55 : decode b_Lg_bitCount 55 = .ok (.lload_n 0, 1) := by decide +kernel
theorem d_Lg_bitCount_56 : decode b_Lg_bitCount 56 = .ok (.l2i, 1) := by decide +kernel
theorem d_Lg_bitCount_57 : decode b_Lg_bitCount 57 = .ok (.bipush 127, 2) := by decide +kernel
theorem d_Lg_bitCount_59 : decode b_Lg_bitCount 59 = .ok (.iand, 1) := by decide +kernel
theorem d_Lg_bitCount_60 : decode b_Lg_bitCount 60 = .ok (.ireturn, 1) := by decide +kernel
theorem d_So_leastWin_0 : decode b_So_leastWin 0 = .ok (.iconst 2, 1) := by decide +kernel
theorem d_So_leastWin_1 : decode b_So_leastWin 1 = .ok (.istore_n 1, 1) := by decide +kernel
theorem d_So_leastWin_2 : decode b_So_leastWin 2 = .ok (.iload_n 1, 1) := by decide +kernel
theorem d_So_leastWin_3 : decode b_So_leastWin 3 = .ok (.bipush 28, 2) := by decide +kernel
theorem d_So_leastWin_5 : decode b_So_leastWin 5 = .ok (.if_icmp .ge 19, 3) := by decide +kernel
theorem d_So_leastWin_8 : decode b_So_leastWin 8 = .ok (.aload_n 0, 1) := by decide +kernel
theorem d_So_leastWin_9 : decode b_So_leastWin 9 = .ok (.iload_n 1, 1) := by decide +kernel
theorem d_So_leastWin_10 : decode b_So_leastWin 10 = .ok (.invokevirtual 63, 3) := by decide +kernel
theorem d_So_leastWin_13 : decode b_So_leastWin 13 = .ok (.ifCond .eq 5, 3) := by decide +kernel
theorem d_So_leastWin_16 : decode b_So_leastWin 16 = .ok (.iload_n 1, 1) := by decide +kernel
theorem d_So_leastWin_17 : decode b_So_leastWin 17 = .ok (.ireturn, 1) := by decide +kernel
theorem d_So_leastWin_18 : decode b_So_leastWin 18 = .ok (.iinc 1 1, 3) := by decide +kernel
theorem d_So_leastWin_21 : decode b_So_leastWin 21 = .ok (.goto (-19), 3) := by decide +kernel
theorem d_So_leastWin_24 : decode b_So_leastWin 24 = .ok (.iconst 0, 1) := by decide +kernel
theorem d_So_leastWin_25 : decode b_So_leastWin 25 = .ok (.ireturn, 1) := by decide +kernel
theorem d_So_winsBy_0 : decode b_So_winsBy 0 = .ok (.iload_n 1, 1) := by decide +kernel
theorem d_So_winsBy_1 : decode b_So_winsBy 1 = .ok (.iconst 1, 1) := by decide +kernel
theorem d_So_winsBy_2 : decode b_So_winsBy 2 = .ok (.if_icmp .le 44, 3) := by decide +kernel
theorem d_So_winsBy_5 : decode b_So_winsBy 5 = .ok (.iload_n 1, 1) := by decide +kernel
theorem d_So_winsBy_6 : decode b_So_winsBy 6 = .ok (.bipush 28, 2) := by decide +kernel
theorem d_So_winsBy_8 : decode b_So_winsBy 8 = .ok (.if_icmp .ge 38, 3) := by decide +kernel
theorem d_So_winsBy_11 : decode b_So_winsBy 11 = .ok (.aload_n 0, 1) := by decide +kernel
theorem d_So_winsBy_12 : decode b_So_winsBy 12 = .ok (.getfield 34, 3) := by decide +kernel
theorem d_So_winsBy_15 : decode b_So_winsBy 15 = .ok (.iload_n 1, 1) := by decide +kernel
theorem d_So_winsBy_16 : decode b_So_winsBy 16 = .ok (.ishr, 1) := by decide +kernel
theorem d_So_winsBy_17 : decode b_So_winsBy 17 = .ok (.iconst 1, 1) := by decide +kernel
theorem d_So_winsBy_18 : decode b_So_winsBy 18 = .ok (.iand, 1) := by decide +kernel
theorem d_So_winsBy_19 : decode b_So_winsBy 19 = .ok (.iconst 1, 1) := by decide +kernel
theorem d_So_winsBy_20 : decode b_So_winsBy 20 = .ok (.if_icmp .ne 26, 3) := by decide +kernel
theorem d_So_winsBy_23 : decode b_So_winsBy 23 = .ok (.aload_n 0, 1) := by decide +kernel
theorem d_So_winsBy_24 : decode b_So_winsBy 24 = .ok (.aload_n 0, 1) := by decide +kernel
theorem d_So_winsBy_25 : decode b_So_winsBy 25 = .ok (.getfield 34, 3) := by decide +kernel
theorem d_So_winsBy_28 : decode b_So_winsBy 28 = .ok (.iload_n 1, 1) := by decide +kernel
theorem d_So_winsBy_29 : decode b_So_winsBy 29 = .ok (.invokestatic 51, 3) := by decide +kernel
theorem d_So_winsBy_32 : decode b_So_winsBy 32 = .ok (.iconst 0, 1) := by decide +kernel
theorem d_So_winsBy_33 : decode b_So_winsBy 33 = .ok (.invokestatic 55, 3) := by decide +kernel
theorem d_So_winsBy_36 : decode b_So_winsBy 36 = .ok (.invokestatic 59, 3) := by decide +kernel
theorem d_So_winsBy_39 : decode b_So_winsBy 39 = .ok (.ifCond .ne 7, 3) := by decide +kernel
theorem d_So_winsBy_42 : decode b_So_winsBy 42 = .ok (.iconst 1, 1) := by decide +kernel
theorem d_So_winsBy_43 : decode b_So_winsBy 43 = .ok (.goto 4, 3) := by decide +kernel
theorem d_So_winsBy_46 : decode b_So_winsBy 46 = .ok (.iconst 0, 1) := by decide +kernel
theorem d_So_winsBy_47 : decode b_So_winsBy 47 = .ok (.ireturn, 1) := by decide +kernel
theorem d_So_gapsBehind_0 : decode b_So_gapsBehind 0 = .ok (.iload_n 0, 1) := by decide +kernel
theorem d_So_gapsBehind_1 : decode b_So_gapsBehind 1 = .ok (.iconst (-1), 1) := by decide +kernel
theorem d_So_gapsBehind_2 : decode b_So_gapsBehind 2 = .ok (.ixor, 1) := by decide +kernel
theorem d_So_gapsBehind_3 : decode b_So_gapsBehind 3 = .ok (.ldc 66, 2) := by decide +kernel
theorem d_So_gapsBehind_5 : decode b_So_gapsBehind 5 = .ok (.iand, 1) := by decide +kernel
theorem d_So_gapsBehind_6 : decode b_So_gapsBehind 6 = .ok (.istore_n 2, 1) := by decide +kernel
theorem d_So_gapsBehind_7 : decode b_So_gapsBehind 7 = .ok (.iconst 1, 1) := by decide +kernel
theorem d_So_gapsBehind_8 : decode b_So_gapsBehind 8 = .ok (.istore_n 3, 1) := by decide +kernel
theorem d_So_gapsBehind_9 : decode b_So_gapsBehind 9 = .ok (.iload_n 3, 1) := by decide +kernel
theorem d_So_gapsBehind_10 : decode b_So_gapsBehind 10 = .ok (.iload_n 1, 1) := by decide +kernel
theorem d_So_gapsBehind_11 : decode b_So_gapsBehind 11 = .ok (.imul, 1) := by decide +kernel
theorem d_So_gapsBehind_12 : decode b_So_gapsBehind 12 = .ok (.bipush 28, 2) := by decide +kernel
theorem d_So_gapsBehind_14 : decode b_So_gapsBehind 14 = .ok (.if_icmp .ge 24, 3) := by decide +kernel
theorem d_So_gapsBehind_17 : decode b_So_gapsBehind 17 = .ok (.iload_n 3, 1) := by decide +kernel
theorem d_So_gapsBehind_18 : decode b_So_gapsBehind 18 = .ok (.bipush 28, 2) := by decide +kernel
theorem d_So_gapsBehind_20 : decode b_So_gapsBehind 20 = .ok (.if_icmp .ge 18, 3) := by decide +kernel
theorem d_So_gapsBehind_23 : decode b_So_gapsBehind 23 = .ok (.iload_n 2, 1) := by decide +kernel
