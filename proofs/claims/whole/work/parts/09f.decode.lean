theorem d_M_topOf_19 : decode b_M_topOf 19 = .ok (.goto 4, 3) := by decide +kernel
theorem d_M_topOf_22 : decode b_M_topOf 22 = .ok (.iload_n 1, 1) := by decide +kernel
theorem d_M_topOf_23 : decode b_M_topOf 23 = .ok (.istore_n 1, 1) := by decide +kernel
theorem d_M_topOf_24 : decode b_M_topOf 24 = .ok (.iinc 2 1, 3) := by decide +kernel
theorem d_M_topOf_27 : decode b_M_topOf 27 = .ok (.goto (-23), 3) := by decide +kernel
theorem d_M_topOf_30 : decode b_M_topOf 30 = .ok (.iload_n 1, 1) := by decide +kernel
theorem d_M_topOf_31 : decode b_M_topOf 31 = .ok (.ireturn, 1) := by decide +kernel
theorem d_M_makesIt_0 : decode b_M_makesIt 0 = .ok (.iload_n 0, 1) := by decide +kernel
theorem d_M_makesIt_1 : decode b_M_makesIt 1 = .ok (.iload_n 1, 1) := by decide +kernel
theorem d_M_makesIt_2 : decode b_M_makesIt 2 = .ok (.invokestatic 229, 3) := by decide +kernel
theorem d_M_makesIt_5 : decode b_M_makesIt 5 = .ok (.ifCond .ne 7, 3) := by decide +kernel
theorem d_M_makesIt_8 : decode b_M_makesIt 8 = .ok (.iconst 1, 1) := by decide +kernel
theorem d_M_makesIt_9 : decode b_M_makesIt 9 = .ok (.goto 4, 3) := by decide +kernel
theorem d_M_makesIt_12 : decode b_M_makesIt 12 = .ok (.iconst 0, 1) := by decide +kernel
theorem d_M_makesIt_13 : decode b_M_makesIt 13 = .ok (.istore_n 2, 1) := by decide +kernel
theorem d_M_makesIt_14 : decode b_M_makesIt 14 = .ok (.iconst 1, 1) := by decide +kernel
theorem d_M_makesIt_15 : decode b_M_makesIt 15 = .ok (.istore_n 3, 1) := by decide +kernel
theorem d_M_makesIt_16 : decode b_M_makesIt 16 = .ok (.iconst 2, 1) := by decide +kernel
theorem d_M_makesIt_17 : decode b_M_makesIt 17 = .ok (.iload_n 3, 1) := by decide +kernel
theorem d_M_makesIt_18 : decode b_M_makesIt 18 = .ok (.imul, 1) := by decide +kernel
theorem d_M_makesIt_19 : decode b_M_makesIt 19 = .ok (.iload_n 1, 1) := by decide +kernel
theorem d_M_makesIt_20 : decode b_M_makesIt 20 = .ok (.if_icmp .gt 37, 3) := by decide +kernel
theorem d_M_makesIt_23 : decode b_M_makesIt 23 = .ok (.iload_n 2, 1) := by decide +kernel
theorem d_M_makesIt_24 : decode b_M_makesIt 24 = .ok (.ifCond .eq 25, 3) := by decide +kernel
theorem d_M_makesIt_27 : decode b_M_makesIt 27 = .ok (.iload_n 0, 1) := by decide +kernel
theorem d_M_makesIt_28 : decode b_M_makesIt 28 = .ok (.iload_n 3, 1) := by decide +kernel
theorem d_M_makesIt_29 : decode b_M_makesIt 29 = .ok (.invokestatic 229, 3) := by decide +kernel
theorem d_M_makesIt_32 : decode b_M_makesIt 32 = .ok (.ifCond .ne 13, 3) := by decide +kernel
theorem d_M_makesIt_35 : decode b_M_makesIt 35 = .ok (.iload_n 0, 1) := by decide +kernel
theorem d_M_makesIt_36 : decode b_M_makesIt 36 = .ok (.iload_n 1, 1) := by decide +kernel
theorem d_M_makesIt_37 : decode b_M_makesIt 37 = .ok (.iload_n 3, 1) := by decide +kernel
theorem d_M_makesIt_38 : decode b_M_makesIt 38 = .ok (.isub, 1) := by decide +kernel
theorem d_M_makesIt_39 : decode b_M_makesIt 39 = .ok (.invokestatic 229, 3) := by decide +kernel
theorem d_M_makesIt_42 : decode b_M_makesIt 42 = .ok (.ifCond .eq 7, 3) := by decide +kernel
theorem d_M_makesIt_45 : decode b_M_makesIt 45 = .ok (.iconst 1, 1) := by decide +kernel
theorem d_M_makesIt_46 : decode b_M_makesIt 46 = .ok (.goto 4, 3) := by decide +kernel
theorem d_M_makesIt_49 : decode b_M_makesIt 49 = .ok (.iconst 0, 1) := by decide +kernel
theorem d_M_makesIt_50 : decode b_M_makesIt 50 = .ok (.istore_n 2, 1) := by decide +kernel
theorem d_M_makesIt_51 : decode b_M_makesIt 51 = .ok (.iinc 3 1, 3) := by decide +kernel
theorem d_M_makesIt_54 : decode b_M_makesIt 54 = .ok (.goto (-38), 3) := by decide +kernel
theorem d_M_makesIt_57 : decode b_M_makesIt 57 = .ok (.iload_n 2, 1) := by decide +kernel
theorem d_M_makesIt_58 : decode b_M_makesIt 58 = .ok (.ireturn, 1) := by decide +kernel
theorem d_M_count_0 : decode b_M_count 0 = .ok (.iload_n 1, 1) := by decide +kernel
theorem d_M_count_1 : decode b_M_count 1 = .ok (.iconst 0, 1) := by decide +kernel
theorem d_M_count_2 : decode b_M_count 2 = .ok (.bipush 7, 2) := by decide +kernel
theorem d_M_count_4 : decode b_M_count 4 = .ok (.invokestatic 96, 3) := by decide +kernel
theorem d_M_count_7 : decode b_M_count 7 = .ok (.ifCond .eq 11, 3) := by decide +kernel
theorem d_M_count_10 : decode b_M_count 10 = .ok (.aload_n 0, 1) := by decide +kernel
theorem d_M_count_11 : decode b_M_count 11 = .ok (.iload_n 1, 1) := by decide +kernel
theorem d_M_count_12 : decode b_M_count 12 = .ok (.invokevirtual 313, 3) := by decide +kernel
theorem d_M_count_15 : decode b_M_count 15 = .ok (.goto 4, 3) := by decide +kernel
theorem d_M_count_18 : decode b_M_count 18 = .ok (.iconst (-1), 1) := by decide +kernel
theorem d_M_count_19 : decode b_M_count 19 = .ok (.ireturn, 1) := by decide +kernel
theorem d_M_counted_0 : decode b_M_counted 0 = .ok (.iconst 0, 1) := by decide +kernel
theorem d_M_counted_1 : decode b_M_counted 1 = .ok (.istore_n 2, 1) := by decide +kernel
theorem d_M_counted_2 : decode b_M_counted 2 = .ok (.iconst 0, 1) := by decide +kernel
theorem d_M_counted_3 : decode b_M_counted 3 = .ok (.istore_n 3, 1) := by decide +kernel
theorem d_M_counted_4 : decode b_M_counted 4 = .ok (.iload_n 3, 1) := by decide +kernel
theorem d_M_counted_5 : decode b_M_counted 5 = .ok (.aload_n 0, 1) := by decide +kernel
theorem d_M_counted_6 : decode b_M_counted 6 = .ok (.getfield 175, 3) := by decide +kernel
theorem d_M_counted_9 : decode b_M_counted 9 = .ok (.if_icmp .ge 67, 3) := by decide +kernel
theorem d_M_counted_12 : decode b_M_counted 12 = .ok (.iload_n 2, 1) := by decide +kernel
theorem d_M_counted_13 : decode b_M_counted 13 = .ok (.iload_n 1, 1) := by decide +kernel
theorem d_M_counted_14 : decode b_M_counted 14 = .ok (.iconst 3, 1) := by decide +kernel
theorem d_M_counted_15 : decode b_M_counted 15 = .ok (.if_icmp .ne 23, 3) := by decide +kernel
theorem d_M_counted_18 : decode b_M_counted 18 = .ok (.aload_n 0, 1) := by decide +kernel
theorem d_M_counted_19 : decode b_M_counted 19 = .ok (.getfield 32, 3) := by decide +kernel
theorem d_M_counted_22 : decode b_M_counted 22 = .ok (.iload_n 3, 1) := by decide +kernel
theorem d_M_counted_23 : decode b_M_counted 23 = .ok (.iaload, 1) := by decide +kernel
theorem d_M_counted_24 : decode b_M_counted 24 = .ok (.iconst 1, 1) := by decide +kernel
theorem d_M_counted_25 : decode b_M_counted 25 = .ok (.if_icmp .eq 38, 3) := by decide +kernel
theorem d_M_counted_28 : decode b_M_counted 28 = .ok (.aload_n 0, 1) := by decide +kernel
theorem d_M_counted_29 : decode b_M_counted 29 = .ok (.getfield 32, 3) := by decide +kernel
theorem d_M_counted_32 : decode b_M_counted 32 = .ok (.iload_n 3, 1) := by decide +kernel
theorem d_M_counted_33 : decode b_M_counted 33 = .ok (.iaload, 1) := by decide +kernel
theorem d_M_counted_34 : decode b_M_counted 34 = .ok (.iconst 4, 1) := by decide +kernel
theorem d_M_counted_35 : decode b_M_counted 35 = .ok (.if_icmp .eq 28, 3) := by decide +kernel
theorem d_M_counted_38 : decode b_M_counted 38 = .ok (.iload_n 1, 1) := by decide +kernel
theorem d_M_counted_39 : decode b_M_counted 39 = .ok (.iconst 4, 1) := by decide +kernel
theorem d_M_counted_40 : decode b_M_counted 40 = .ok (.if_icmp .ne 27, 3) := by decide +kernel
theorem d_M_counted_43 : decode b_M_counted 43 = .ok (.aload_n 0, 1) := by decide +kernel
theorem d_M_counted_44 : decode b_M_counted 44 = .ok (.getfield 32, 3) := by decide +kernel
theorem d_M_counted_47 : decode b_M_counted 47 = .ok (.iload_n 3, 1) := by decide +kernel
theorem d_M_counted_48 : decode b_M_counted 48 = .ok (.iaload, 1) := by decide +kernel
theorem d_M_counted_49 : decode b_M_counted 49 = .ok (.iconst 2, 1) := by decide +kernel
theorem d_M_counted_50 : decode b_M_counted 50 = .ok (.if_icmp .eq 13, 3) := by decide +kernel
theorem d_M_counted_53 : decode b_M_counted 53 = .ok (.aload_n 0, 1) := by decide +kernel
theorem d_M_counted_54 : decode b_M_counted 54 = .ok (.getfield 32, 3) := by decide +kernel
theorem d_M_counted_57 : decode b_M_counted 57 = .ok (.iload_n 3, 1) := by decide +kernel
theorem d_M_counted_58 : decode b_M_counted 58 = .ok (.iaload, 1) := by decide +kernel
theorem d_M_counted_59 : decode b_M_counted 59 = .ok (.iconst 5, 1) := by decide +kernel
theorem d_M_counted_60 : decode b_M_counted 60 = .ok (.if_icmp .ne 7, 3) := by decide +kernel
theorem d_M_counted_63 : decode b_M_counted 63 = .ok (.iconst 1, 1) := by decide +kernel
theorem d_M_counted_64 : decode b_M_counted 64 = .ok (.goto 4, 3) := by decide +kernel
theorem d_M_counted_67 : decode b_M_counted 67 = .ok (.iconst 0, 1) := by decide +kernel
theorem d_M_counted_68 : decode b_M_counted 68 = .ok (.iadd, 1) := by decide +kernel
theorem d_M_counted_69 : decode b_M_counted 69 = .ok (.istore_n 2, 1) := by decide +kernel
theorem d_M_counted_70 : decode b_M_counted 70 = .ok (.iinc 3 1, 3) := by decide +kernel
theorem d_M_counted_73 : decode b_M_counted 73 = .ok (.goto (-69), 3) := by decide +kernel
theorem d_M_counted_76 : decode b_M_counted 76 = .ok (.iconst 0, 1) := by decide +kernel
theorem d_M_counted_77 : decode b_M_counted 77 = .ok (.istore_n 3, 1) := by decide +kernel
theorem d_M_counted_78 : decode b_M_counted 78 = .ok (.iload_n 3, 1) := by decide +kernel
theorem d_M_counted_79 : decode b_M_counted 79 = .ok (.iconst 3, 1) := by decide +kernel
theorem d_M_counted_80 : decode b_M_counted 80 = .ok (.if_icmp .ge 31, 3) := by decide +kernel
theorem d_M_counted_83 : decode b_M_counted 83 = .ok (.iload_n 2, 1) := by decide +kernel
theorem d_M_counted_84 : decode b_M_counted 84 = .ok (.iload_n 1, 1) := by decide +kernel
theorem d_M_counted_85 : decode b_M_counted 85 = .ok (.iconst 5, 1) := by decide +kernel
theorem d_M_counted_86 : decode b_M_counted 86 = .ok (.if_icmp .ne 16, 3) := by decide +kernel
theorem d_M_counted_89 : decode b_M_counted 89 = .ok (.aload_n 0, 1) := by decide +kernel
theorem d_M_counted_90 : decode b_M_counted 90 = .ok (.getfield 44, 3) := by decide +kernel
theorem d_M_counted_93 : decode b_M_counted 93 = .ok (.iload_n 3, 1) := by decide +kernel
theorem d_M_counted_94 : decode b_M_counted 94 = .ok (.iaload, 1) := by decide +kernel
theorem d_M_counted_95 : decode b_M_counted 95 = .ok (.ifCond .lt 7, 3) := by decide +kernel
theorem d_M_counted_98 : decode b_M_counted 98 = .ok (.iconst 1, 1) := by decide +kernel
theorem d_M_counted_99 : decode b_M_counted 99 = .ok (.goto 4, 3) := by decide +kernel
theorem d_M_counted_102 : decode b_M_counted 102 = .ok (.iconst 0, 1) := by decide +kernel
theorem d_M_counted_103 : decode b_M_counted 103 = .ok (.iadd, 1) := by decide +kernel
theorem d_M_counted_104 : decode b_M_counted 104 = .ok (.istore_n 2, 1) := by decide +kernel
theorem d_M_counted_105 : decode b_M_counted 105 = .ok (.iinc 3 1, 3) := by decide +kernel
theorem d_M_counted_108 : decode b_M_counted 108 = .ok (.goto (-30), 3) := by decide +kernel
theorem d_M_counted_111 : decode b_M_counted 111 = .ok (.iconst 0, 1) := by decide +kernel
theorem d_M_counted_112 : decode b_M_counted 112 = .ok (.istore_n 3, 1) := by decide +kernel
theorem d_M_counted_113 : decode b_M_counted 113 = .ok (.iload_n 3, 1) := by decide +kernel
theorem d_M_counted_114 : decode b_M_counted 114 = .ok (.bipush 6, 2) := by decide +kernel
theorem d_M_counted_116 : decode b_M_counted 116 = .ok (.if_icmp .ge 32, 3) := by decide +kernel
theorem d_M_counted_119 : decode b_M_counted 119 = .ok (.iload_n 2, 1) := by decide +kernel
theorem d_M_counted_120 : decode b_M_counted 120 = .ok (.iload_n 1, 1) := by decide +kernel
theorem d_M_counted_121 : decode b_M_counted 121 = .ok (.bipush 6, 2) := by decide +kernel
theorem d_M_counted_123 : decode b_M_counted 123 = .ok (.if_icmp .ne 16, 3) := by decide +kernel
theorem d_M_counted_126 : decode b_M_counted 126 = .ok (.aload_n 0, 1) := by decide +kernel
theorem d_M_counted_127 : decode b_M_counted 127 = .ok (.getfield 13, 3) := by decide +kernel
theorem d_M_counted_130 : decode b_M_counted 130 = .ok (.iload_n 3, 1) := by decide +kernel
theorem d_M_counted_131 : decode b_M_counted 131 = .ok (.iaload, 1) := by decide +kernel
theorem d_M_counted_132 : decode b_M_counted 132 = .ok (.ifCond .lt 7, 3) := by decide +kernel
theorem d_M_counted_135 : decode b_M_counted 135 = .ok (.iconst 1, 1) := by decide +kernel
theorem d_M_counted_136 : decode b_M_counted 136 = .ok (.goto 4, 3) := by decide +kernel
theorem d_M_counted_139 : decode b_M_counted 139 = .ok (.iconst 0, 1) := by decide +kernel
theorem d_M_counted_140 : decode b_M_counted 140 = .ok (.iadd, 1) := by decide +kernel
theorem d_M_counted_141 : decode b_M_counted 141 = .ok (.istore_n 2, 1) := by decide +kernel
theorem d_M_counted_142 : decode b_M_counted 142 = .ok (.iinc 3 1, 3) := by decide +kernel
theorem d_M_counted_145 : decode b_M_counted 145 = .ok (.goto (-32), 3) := by decide +kernel
theorem d_M_counted_148 : decode b_M_counted 148 = .ok (.iconst 0, 1) := by decide +kernel
theorem d_M_counted_149 : decode b_M_counted 149 = .ok (.istore_n 3, 1) := by decide +kernel
theorem d_M_counted_150 : decode b_M_counted 150 = .ok (.iload_n 3, 1) := by decide +kernel
theorem d_M_counted_151 : decode b_M_counted 151 = .ok (.iconst 4, 1) := by decide +kernel
theorem d_M_counted_152 : decode b_M_counted 152 = .ok (.if_icmp .ge 32, 3) := by decide +kernel
theorem d_M_counted_155 : decode b_M_counted 155 = .ok (.iload_n 2, 1) := by decide +kernel
theorem d_M_counted_156 : decode b_M_counted 156 = .ok (.iload_n 1, 1) := by decide +kernel
theorem d_M_counted_157 : decode b_M_counted 157 = .ok (.bipush 7, 2) := by decide +kernel
theorem d_M_counted_159 : decode b_M_counted 159 = .ok (.if_icmp .ne 16, 3) := by decide +kernel
theorem d_M_counted_162 : decode b_M_counted 162 = .ok (.aload_n 0, 1) := by decide +kernel
theorem d_M_counted_163 : decode b_M_counted 163 = .ok (.getfield 22, 3) := by decide +kernel
theorem d_M_counted_166 : decode b_M_counted 166 = .ok (.iload_n 3, 1) := by decide +kernel
theorem d_M_counted_167 : decode b_M_counted 167 = .ok (.iaload, 1) := by decide +kernel
theorem d_M_counted_168 : decode b_M_counted 168 = .ok (.ifCond .lt 7, 3) := by decide +kernel
theorem d_M_counted_171 : decode b_M_counted 171 = .ok (.iconst 1, 1) := by decide +kernel
theorem d_M_counted_172 : decode b_M_counted 172 = .ok (.goto 4, 3) := by decide +kernel
theorem d_M_counted_175 : decode b_M_counted 175 = .ok (.iconst 0, 1) := by decide +kernel
theorem d_M_counted_176 : decode b_M_counted 176 = .ok (.iadd, 1) := by decide +kernel
theorem d_M_counted_177 : decode b_M_counted 177 = .ok (.istore_n 2, 1) := by decide +kernel
theorem d_M_counted_178 : decode b_M_counted 178 = .ok (.iinc 3 1, 3) := by decide +kernel
theorem d_M_counted_181 : decode b_M_counted 181 = .ok (.goto (-31), 3) := by decide +kernel
theorem d_M_counted_184 : decode b_M_counted 184 = .ok (.iload_n 1, 1) := by decide +kernel
theorem d_M_counted_185 : decode b_M_counted 185 = .ok (.tableswitch 42 0 2 #[27, 32, 37], 27) := by decide +kernel
theorem d_M_counted_212 : decode b_M_counted 212 = .ok (.aload_n 0, 1) := by decide +kernel
theorem d_M_counted_213 : decode b_M_counted 213 = .ok (.getfield 175, 3) := by decide +kernel
theorem d_M_counted_216 : decode b_M_counted 216 = .ok (.ireturn, 1) := by decide +kernel
theorem d_M_counted_217 : decode b_M_counted 217 = .ok (.aload_n 0, 1) := by decide +kernel
theorem d_M_counted_218 : decode b_M_counted 218 = .ok (.getfield 178, 3) := by decide +kernel
theorem d_M_counted_221 : decode b_M_counted 221 = .ok (.ireturn, 1) := by decide +kernel
theorem d_M_counted_222 : decode b_M_counted 222 = .ok (.aload_n 0, 1) := by decide +kernel
theorem d_M_counted_223 : decode b_M_counted 223 = .ok (.invokevirtual 192, 3) := by decide +kernel
theorem d_M_counted_226 : decode b_M_counted 226 = .ok (.ireturn, 1) := by decide +kernel
theorem d_M_counted_227 : decode b_M_counted 227 = .ok (.iload_n 2, 1) := by decide +kernel
theorem d_M_counted_228 : decode b_M_counted 228 = .ok (.ireturn, 1) := by decide +kernel
theorem d_M_digest_0 : decode b_M_digest 0 = .ok (.aload_n 0, 1) := by decide +kernel
theorem d_M_digest_1 : decode b_M_digest 1 = .ok (.ldc2_w 327, 3) := by decide +kernel
theorem d_M_digest_4 : decode b_M_digest 4 = .ok (.putfield 318, 3) := by decide +kernel
theorem d_M_digest_7 : decode b_M_digest 7 = .ok (.iconst 0, 1) := by decide +kernel
theorem d_M_digest_8 : decode b_M_digest 8 = .ok (.istore_n 1, 1) := by decide +kernel
theorem d_M_digest_9 : decode b_M_digest 9 = .ok (.iload_n 1, 1) := by decide +kernel
theorem d_M_digest_10 : decode b_M_digest 10 = .ok (.bipush 8, 2) := by decide +kernel
theorem d_M_digest_12 : decode b_M_digest 12 = .ok (.if_icmp .ge 19, 3) := by decide +kernel
theorem d_M_digest_15 : decode b_M_digest 15 = .ok (.aload_n 0, 1) := by decide +kernel
theorem d_M_digest_16 : decode b_M_digest 16 = .ok (.aload_n 0, 1) := by decide +kernel
theorem d_M_digest_17 : decode b_M_digest 17 = .ok (.iload_n 1, 1) := by decide +kernel
theorem d_M_digest_18 : decode b_M_digest 18 = .ok (.invokevirtual 313, 3) := by decide +kernel
theorem d_M_digest_21 : decode b_M_digest 21 = .ok (.i2l, 1) := by decide +kernel
theorem d_M_digest_22 : decode b_M_digest 22 = .ok (.invokevirtual 321, 3) := by decide +kernel
theorem d_M_digest_25 : decode b_M_digest 25 = .ok (.iinc 1 1, 3) := by decide +kernel
theorem d_M_digest_28 : decode b_M_digest 28 = .ok (.goto (-19), 3) := by decide +kernel
theorem d_M_digest_31 : decode b_M_digest 31 = .ok (.aload_n 0, 1) := by decide +kernel
theorem d_M_digest_32 : decode b_M_digest 32 = .ok (.invokevirtual 329, 3) := by decide +kernel
theorem d_M_digest_35 : decode b_M_digest 35 = .ok (.iconst 0, 1) := by decide +kernel
theorem d_M_digest_36 : decode b_M_digest 36 = .ok (.istore_n 1, 1) := by decide +kernel
theorem d_M_digest_37 : decode b_M_digest 37 = .ok (.iload_n 1, 1) := by decide +kernel
theorem d_M_digest_38 : decode b_M_digest 38 = .ok (.bipush 6, 2) := by decide +kernel
theorem d_M_digest_40 : decode b_M_digest 40 = .ok (.if_icmp .ge 49, 3) := by decide +kernel
theorem d_M_digest_43 : decode b_M_digest 43 = .ok (.aload_n 0, 1) := by decide +kernel
theorem d_M_digest_44 : decode b_M_digest 44 = .ok (.aload_n 0, 1) := by decide +kernel
theorem d_M_digest_45 : decode b_M_digest 45 = .ok (.getfield 13, 3) := by decide +kernel
theorem d_M_digest_48 : decode b_M_digest 48 = .ok (.iload_n 1, 1) := by decide +kernel
theorem d_M_digest_49 : decode b_M_digest 49 = .ok (.iaload, 1) := by decide +kernel
theorem d_M_digest_50 : decode b_M_digest 50 = .ok (.i2l, 1) := by decide +kernel
theorem d_M_digest_51 : decode b_M_digest 51 = .ok (.invokevirtual 321, 3) := by decide +kernel
theorem d_M_digest_54 : decode b_M_digest 54 = .ok (.iconst 0, 1) := by decide +kernel
theorem d_M_digest_55 : decode b_M_digest 55 = .ok (.istore_n 2, 1) := by decide +kernel
theorem d_M_digest_56 : decode b_M_digest 56 = .ok (.iload_n 2, 1) := by decide +kernel
theorem d_M_digest_57 : decode b_M_digest 57 = .ok (.aload_n 0, 1) := by decide +kernel
theorem d_M_digest_58 : decode b_M_digest 58 = .ok (.getfield 13, 3) := by decide +kernel
theorem d_M_digest_61 : decode b_M_digest 61 = .ok (.iload_n 1, 1) := by decide +kernel
theorem d_M_digest_62 : decode b_M_digest 62 = .ok (.iaload, 1) := by decide +kernel
theorem d_M_digest_63 : decode b_M_digest 63 = .ok (.if_icmp .ge 20, 3) := by decide +kernel
theorem d_M_digest_66 : decode b_M_digest 66 = .ok (.aload_n 0, 1) := by decide +kernel
theorem d_M_digest_67 : decode b_M_digest 67 = .ok (.aload_n 0, 1) := by decide +kernel
theorem d_M_digest_68 : decode b_M_digest 68 = .ok (.iload_n 1, 1) := by decide +kernel
theorem d_M_digest_69 : decode b_M_digest 69 = .ok (.iload_n 2, 1) := by decide +kernel
theorem d_M_digest_70 : decode b_M_digest 70 = .ok (.invokevirtual 118, 3) := by decide +kernel
theorem d_M_digest_73 : decode b_M_digest 73 = .ok (.i2l, 1) := by decide +kernel
theorem d_M_digest_74 : decode b_M_digest 74 = .ok (.invokevirtual 321, 3) := by decide +kernel
theorem d_M_digest_77 : decode b_M_digest 77 = .ok (.iinc 2 1, 3) := by decide +kernel
theorem d_M_digest_80 : decode b_M_digest 80 = .ok (.goto (-24), 3) := by decide +kernel
theorem d_M_digest_83 : decode b_M_digest 83 = .ok (.iinc 1 1, 3) := by decide +kernel
theorem d_M_digest_86 : decode b_M_digest 86 = .ok (.goto (-49), 3) := by decide +kernel
theorem d_M_digest_89 : decode b_M_digest 89 = .ok (.iconst 0, 1) := by decide +kernel
theorem d_M_digest_90 : decode b_M_digest 90 = .ok (.istore_n 1, 1) := by decide +kernel
theorem d_M_digest_91 : decode b_M_digest 91 = .ok (.iload_n 1, 1) := by decide +kernel
theorem d_M_digest_92 : decode b_M_digest 92 = .ok (.iconst 4, 1) := by decide +kernel
theorem d_M_digest_93 : decode b_M_digest 93 = .ok (.if_icmp .ge 49, 3) := by decide +kernel
theorem d_M_digest_96 : decode b_M_digest 96 = .ok (.aload_n 0, 1) := by decide +kernel
theorem d_M_digest_97 : decode b_M_digest 97 = .ok (.aload_n 0, 1) := by decide +kernel
theorem d_M_digest_98 : decode b_M_digest 98 = .ok (.getfield 22, 3) := by decide +kernel
theorem d_M_digest_101 : decode b_M_digest 101 = .ok (.iload_n 1, 1) := by decide +kernel
theorem d_M_digest_102 : decode b_M_digest 102 = .ok (.iaload, 1) := by decide +kernel
theorem d_M_digest_103 : decode b_M_digest 103 = .ok (.i2l, 1) := by decide +kernel
theorem d_M_digest_104 : decode b_M_digest 104 = .ok (.invokevirtual 321, 3) := by decide +kernel
theorem d_M_digest_107 : decode b_M_digest 107 = .ok (.iconst 0, 1) := by decide +kernel
theorem d_M_digest_108 : decode b_M_digest 108 = .ok (.istore_n 2, 1) := by decide +kernel
theorem d_M_digest_109 : decode b_M_digest 109 = .ok (.iload_n 2, 1) := by decide +kernel
theorem d_M_digest_110 : decode b_M_digest 110 = .ok (.aload_n 0, 1) := by decide +kernel
theorem d_M_digest_111 : decode b_M_digest 111 = .ok (.getfield 22, 3) := by decide +kernel
theorem d_M_digest_114 : decode b_M_digest 114 = .ok (.iload_n 1, 1) := by decide +kernel
theorem d_M_digest_115 : decode b_M_digest 115 = .ok (.iaload, 1) := by decide +kernel
theorem d_M_digest_116 : decode b_M_digest 116 = .ok (.if_icmp .ge 20, 3) := by decide +kernel
theorem d_M_digest_119 : decode b_M_digest 119 = .ok (.aload_n 0, 1) := by decide +kernel
theorem d_M_digest_120 : decode b_M_digest 120 = .ok (.aload_n 0, 1) := by decide +kernel
theorem d_M_digest_121 : decode b_M_digest 121 = .ok (.iload_n 1, 1) := by decide +kernel
theorem d_M_digest_122 : decode b_M_digest 122 = .ok (.iload_n 2, 1) := by decide +kernel
theorem d_M_digest_123 : decode b_M_digest 123 = .ok (.invokevirtual 141, 3) := by decide +kernel
theorem d_M_digest_126 : decode b_M_digest 126 = .ok (.i2l, 1) := by decide +kernel
theorem d_M_digest_127 : decode b_M_digest 127 = .ok (.invokevirtual 321, 3) := by decide +kernel
theorem d_M_digest_130 : decode b_M_digest 130 = .ok (.iinc 2 1, 3) := by decide +kernel
theorem d_M_digest_133 : decode b_M_digest 133 = .ok (.goto (-24), 3) := by decide +kernel
theorem d_M_digest_136 : decode b_M_digest 136 = .ok (.iinc 1 1, 3) := by decide +kernel
theorem d_M_digest_139 : decode b_M_digest 139 = .ok (.goto (-48), 3) := by decide +kernel
theorem d_M_digest_142 : decode b_M_digest 142 = .ok (.aload_n 0, 1) := by decide +kernel
theorem d_M_digest_143 : decode b_M_digest 143 = .ok (.getfield 318, 3) := by decide +kernel
theorem d_M_digest_146 : decode b_M_digest 146 = .ok (.lreturn, 1) := by decide +kernel
theorem d_M_mix_0 : decode b_M_mix 0 = .ok (.aload_n 0, 1) := by decide +kernel
theorem d_M_mix_1 : decode b_M_mix 1 = .ok (.ldc2_w 316, 3) := by decide +kernel
theorem d_M_mix_4 : decode b_M_mix 4 = .ok (.aload_n 0, 1) := by decide +kernel
theorem d_M_mix_5 : decode b_M_mix 5 = .ok (.getfield 318, 3) := by decide +kernel
theorem d_M_mix_8 : decode b_M_mix 8 = .ok (.lmul, 1) := by decide +kernel
theorem d_M_mix_9 : decode b_M_mix 9 = .ok (.lload_n 1, 1) := by decide +kernel
theorem d_M_mix_10 : decode b_M_mix 10 = .ok (.ladd, 1) := by decide +kernel
theorem d_M_mix_11 : decode b_M_mix 11 = .ok (.putfield 318, 3) := by decide +kernel
theorem d_M_mix_14 : decode b_M_mix 14 = .ok (.return_, 1) := by decide +kernel
theorem d_M_mixGame_0 : decode b_M_mixGame 0 = .ok (.aload_n 0, 1) := by decide +kernel
theorem d_M_mixGame_1 : decode b_M_mixGame 1 = .ok (.aload_n 0, 1) := by decide +kernel
theorem d_M_mixGame_2 : decode b_M_mixGame 2 = .ok (.getfield 172, 3) := by decide +kernel
theorem d_M_mixGame_5 : decode b_M_mixGame 5 = .ok (.i2l, 1) := by decide +kernel
theorem d_M_mixGame_6 : decode b_M_mixGame 6 = .ok (.invokevirtual 321, 3) := by decide +kernel
theorem d_M_mixGame_9 : decode b_M_mixGame 9 = .ok (.iconst 0, 1) := by decide +kernel
theorem d_M_mixGame_10 : decode b_M_mixGame 10 = .ok (.istore_n 1, 1) := by decide +kernel
theorem d_M_mixGame_11 : decode b_M_mixGame 11 = .ok (.iload_n 1, 1) := by decide +kernel
theorem d_M_mixGame_12 : decode b_M_mixGame 12 = .ok (.aload_n 0, 1) := by decide +kernel
theorem d_M_mixGame_13 : decode b_M_mixGame 13 = .ok (.getfield 175, 3) := by decide +kernel
theorem d_M_mixGame_16 : decode b_M_mixGame 16 = .ok (.if_icmp .ge 20, 3) := by decide +kernel
theorem d_M_mixGame_19 : decode b_M_mixGame 19 = .ok (.aload_n 0, 1) := by decide +kernel
theorem d_M_mixGame_20 : decode b_M_mixGame 20 = .ok (.aload_n 0, 1) := by decide +kernel
theorem d_M_mixGame_21 : decode b_M_mixGame 21 = .ok (.getfield 32, 3) := by decide +kernel
theorem d_M_mixGame_24 : decode b_M_mixGame 24 = .ok (.iload_n 1, 1) := by decide +kernel
theorem d_M_mixGame_25 : decode b_M_mixGame 25 = .ok (.iaload, 1) := by decide +kernel
theorem d_M_mixGame_26 : decode b_M_mixGame 26 = .ok (.i2l, 1) := by decide +kernel
theorem d_M_mixGame_27 : decode b_M_mixGame 27 = .ok (.invokevirtual 321, 3) := by decide +kernel
theorem d_M_mixGame_30 : decode b_M_mixGame 30 = .ok (.iinc 1 1, 3) := by decide +kernel
theorem d_M_mixGame_33 : decode b_M_mixGame 33 = .ok (.goto (-22), 3) := by decide +kernel
theorem d_M_mixGame_36 : decode b_M_mixGame 36 = .ok (.iconst 0, 1) := by decide +kernel
theorem d_M_mixGame_37 : decode b_M_mixGame 37 = .ok (.istore_n 1, 1) := by decide +kernel
theorem d_M_mixGame_38 : decode b_M_mixGame 38 = .ok (.iload_n 1, 1) := by decide +kernel
theorem d_M_mixGame_39 : decode b_M_mixGame 39 = .ok (.aload_n 0, 1) := by decide +kernel
theorem d_M_mixGame_40 : decode b_M_mixGame 40 = .ok (.getfield 178, 3) := by decide +kernel
theorem d_M_mixGame_43 : decode b_M_mixGame 43 = .ok (.if_icmp .ge 20, 3) := by decide +kernel
theorem d_M_mixGame_46 : decode b_M_mixGame 46 = .ok (.aload_n 0, 1) := by decide +kernel
theorem d_M_mixGame_47 : decode b_M_mixGame 47 = .ok (.aload_n 0, 1) := by decide +kernel
theorem d_M_mixGame_48 : decode b_M_mixGame 48 = .ok (.getfield 35, 3) := by decide +kernel
theorem d_M_mixGame_51 : decode b_M_mixGame 51 = .ok (.iload_n 1, 1) := by decide +kernel
theorem d_M_mixGame_52 : decode b_M_mixGame 52 = .ok (.iaload, 1) := by decide +kernel
theorem d_M_mixGame_53 : decode b_M_mixGame 53 = .ok (.i2l, 1) := by decide +kernel
theorem d_M_mixGame_54 : decode b_M_mixGame 54 = .ok (.invokevirtual 321, 3) := by decide +kernel
theorem d_M_mixGame_57 : decode b_M_mixGame 57 = .ok (.iinc 1 1, 3) := by decide +kernel
theorem d_M_mixGame_60 : decode b_M_mixGame 60 = .ok (.goto (-22), 3) := by decide +kernel
theorem d_M_mixGame_63 : decode b_M_mixGame 63 = .ok (.iconst 0, 1) := by decide +kernel
theorem d_M_mixGame_64 : decode b_M_mixGame 64 = .ok (.istore_n 1, 1) := by decide +kernel
theorem d_M_mixGame_65 : decode b_M_mixGame 65 = .ok (.iload_n 1, 1) := by decide +kernel
theorem d_M_mixGame_66 : decode b_M_mixGame 66 = .ok (.iconst 3, 1) := by decide +kernel
theorem d_M_mixGame_67 : decode b_M_mixGame 67 = .ok (.if_icmp .ge 69, 3) := by decide +kernel
theorem d_M_mixGame_70 : decode b_M_mixGame 70 = .ok (.aload_n 0, 1) := by decide +kernel
theorem d_M_mixGame_71 : decode b_M_mixGame 71 = .ok (.aload_n 0, 1) := by decide +kernel
theorem d_M_mixGame_72 : decode b_M_mixGame 72 = .ok (.getfield 44, 3) := by decide +kernel
theorem d_M_mixGame_75 : decode b_M_mixGame 75 = .ok (.iload_n 1, 1) := by decide +kernel
theorem d_M_mixGame_76 : decode b_M_mixGame 76 = .ok (.iaload, 1) := by decide +kernel
theorem d_M_mixGame_77 : decode b_M_mixGame 77 = .ok (.ifCond .ge 9, 3) := by decide +kernel
theorem d_M_mixGame_80 : decode b_M_mixGame 80 = .ok (.ldc2_w 325, 3) := by decide +kernel
theorem d_M_mixGame_83 : decode b_M_mixGame 83 = .ok (.goto 10, 3) := by decide +kernel
theorem d_M_mixGame_86 : decode b_M_mixGame 86 = .ok (.aload_n 0, 1) := by decide +kernel
theorem d_M_mixGame_87 : decode b_M_mixGame 87 = .ok (.getfield 47, 3) := by decide +kernel
theorem d_M_mixGame_90 : decode b_M_mixGame 90 = .ok (.iload_n 1, 1) := by decide +kernel
theorem d_M_mixGame_91 : decode b_M_mixGame 91 = .ok (.iaload, 1) := by decide +kernel
theorem d_M_mixGame_92 : decode b_M_mixGame 92 = .ok (.i2l, 1) := by decide +kernel
theorem d_M_mixGame_93 : decode b_M_mixGame 93 = .ok (.invokevirtual 321, 3) := by decide +kernel
theorem d_M_mixGame_96 : decode b_M_mixGame 96 = .ok (.iconst 0, 1) := by decide +kernel
theorem d_M_mixGame_97 : decode b_M_mixGame 97 = .ok (.istore_n 2, 1) := by decide +kernel
theorem d_M_mixGame_98 : decode b_M_mixGame 98 = .ok (.iload_n 2, 1) := by decide +kernel
theorem d_M_mixGame_99 : decode b_M_mixGame 99 = .ok (.aload_n 0, 1) := by decide +kernel
theorem d_M_mixGame_100 : decode b_M_mixGame 100 = .ok (.getfield 44, 3) := by decide +kernel
theorem d_M_mixGame_103 : decode b_M_mixGame 103 = .ok (.iload_n 1, 1) := by decide +kernel
theorem d_M_mixGame_104 : decode b_M_mixGame 104 = .ok (.iaload, 1) := by decide +kernel
theorem d_M_mixGame_105 : decode b_M_mixGame 105 = .ok (.if_icmp .ge 25, 3) := by decide +kernel
theorem d_M_mixGame_108 : decode b_M_mixGame 108 = .ok (.aload_n 0, 1) := by decide +kernel
theorem d_M_mixGame_109 : decode b_M_mixGame 109 = .ok (.aload_n 0, 1) := by decide +kernel
theorem d_M_mixGame_110 : decode b_M_mixGame 110 = .ok (.getfield 50, 3) := by decide +kernel
theorem d_M_mixGame_113 : decode b_M_mixGame 113 = .ok (.bipush 14, 2) := by decide +kernel
theorem d_M_mixGame_115 : decode b_M_mixGame 115 = .ok (.iload_n 1, 1) := by decide +kernel
theorem d_M_mixGame_116 : decode b_M_mixGame 116 = .ok (.imul, 1) := by decide +kernel
theorem d_M_mixGame_117 : decode b_M_mixGame 117 = .ok (.iload_n 2, 1) := by decide +kernel
theorem d_M_mixGame_118 : decode b_M_mixGame 118 = .ok (.iadd, 1) := by decide +kernel
theorem d_M_mixGame_119 : decode b_M_mixGame 119 = .ok (.iaload, 1) := by decide +kernel
theorem d_M_mixGame_120 : decode b_M_mixGame 120 = .ok (.i2l, 1) := by decide +kernel
theorem d_M_mixGame_121 : decode b_M_mixGame 121 = .ok (.invokevirtual 321, 3) := by decide +kernel
theorem d_M_mixGame_124 : decode b_M_mixGame 124 = .ok (.iinc 2 1, 3) := by decide +kernel
theorem d_M_mixGame_127 : decode b_M_mixGame 127 = .ok (.goto (-29), 3) := by decide +kernel
theorem d_M_mixGame_130 : decode b_M_mixGame 130 = .ok (.iinc 1 1, 3) := by decide +kernel
theorem d_M_mixGame_133 : decode b_M_mixGame 133 = .ok (.goto (-68), 3) := by decide +kernel
theorem d_M_mixGame_136 : decode b_M_mixGame 136 = .ok (.return_, 1) := by decide +kernel
theorem d_L_law_0 : decode code 0 = .ok (.new 7, 3) := by decide +kernel
theorem d_L_law_3 : decode code 3 = .ok (.dup, 1) := by decide +kernel
theorem d_L_law_4 : decode code 4 = .ok (.invokespecial 9, 3) := by decide +kernel
theorem d_L_law_7 : decode code 7 = .ok (.astore_n 1, 1) := by decide +kernel
theorem d_L_law_8 : decode code 8 = .ok (.new 10, 3) := by decide +kernel
theorem d_L_law_11 : decode code 11 = .ok (.dup, 1) := by decide +kernel
theorem d_L_law_12 : decode code 12 = .ok (.invokespecial 12, 3) := by decide +kernel
theorem d_L_law_15 : decode code 15 = .ok (.astore_n 2, 1) := by decide +kernel
theorem d_L_law_16 : decode code 16 = .ok (.iconst 0, 1) := by decide +kernel
theorem d_L_law_17 : decode code 17 = .ok (.istore_n 3, 1) := by decide +kernel
theorem d_L_law_18 : decode code 18 = .ok (.iload_n 3, 1) := by decide +kernel
theorem d_L_law_19 : decode code 19 = .ok (.aload_n 0, 1) := by decide +kernel
theorem d_L_law_20 : decode code 20 = .ok (.arraylength, 1) := by decide +kernel
theorem d_L_law_21 : decode code 21 = .ok (.bipush 6, 2) := by decide +kernel
theorem d_L_law_23 : decode code 23 = .ok (.isub, 1) := by decide +kernel
theorem d_L_law_24 : decode code 24 = .ok (.if_icmp .gt 1305, 3) := by decide +kernel
theorem d_L_law_27 : decode code 27 = .ok (.aload_n 0, 1) := by decide +kernel
theorem d_L_law_28 : decode code 28 = .ok (.iload_n 3, 1) := by decide +kernel
theorem d_L_law_29 : decode code 29 = .ok (.iaload, 1) := by decide +kernel
theorem d_L_law_30 : decode code 30 = .ok (.bipush 63, 2) := by decide +kernel
theorem d_L_law_32 : decode code 32 = .ok (.iand, 1) := by decide +kernel
theorem d_L_law_33 : decode code 33 = .ok (.tableswitch 1290 0 45 #[199, 232, 275, 308, 331, 394, 417, 450, 493, 516, 539, 552, 575, 608, 631, 654, 677, 700, 713, 736, 759, 782, 805, 838, 861, 874, 907, 920, 933, 946, 969, 982, 1005, 1018, 1031, 1054, 1087, 1110, 1143, 1176, 1189, 1203, 1217, 1240, 1253, 1276], 199) := by decide +kernel
theorem d_L_law_232 : decode code 232 = .ok (.aload_n 1, 1) := by decide +kernel
theorem d_L_law_233 : decode code 233 = .ok (.aload_n 0, 1) := by decide +kernel
theorem d_L_law_234 : decode code 234 = .ok (.iload_n 3, 1) := by decide +kernel
theorem d_L_law_235 : decode code 235 = .ok (.iconst 1, 1) := by decide +kernel
theorem d_L_law_236 : decode code 236 = .ok (.iadd, 1) := by decide +kernel
theorem d_L_law_237 : decode code 237 = .ok (.iaload, 1) := by decide +kernel
theorem d_L_law_238 : decode code 238 = .ok (.aload_n 0, 1) := by decide +kernel
theorem d_L_law_239 : decode code 239 = .ok (.iload_n 3, 1) := by decide +kernel
theorem d_L_law_240 : decode code 240 = .ok (.iconst 2, 1) := by decide +kernel
theorem d_L_law_241 : decode code 241 = .ok (.iadd, 1) := by decide +kernel
theorem d_L_law_242 : decode code 242 = .ok (.iaload, 1) := by decide +kernel
theorem d_L_law_243 : decode code 243 = .ok (.invokevirtual 13, 3) := by decide +kernel
theorem d_L_law_246 : decode code 246 = .ok (.aload_n 2, 1) := by decide +kernel
theorem d_L_law_247 : decode code 247 = .ok (.aload_n 0, 1) := by decide +kernel
theorem d_L_law_248 : decode code 248 = .ok (.iload_n 3, 1) := by decide +kernel
theorem d_L_law_249 : decode code 249 = .ok (.iconst 1, 1) := by decide +kernel
theorem d_L_law_250 : decode code 250 = .ok (.iadd, 1) := by decide +kernel
theorem d_L_law_251 : decode code 251 = .ok (.iaload, 1) := by decide +kernel
theorem d_L_law_252 : decode code 252 = .ok (.aload_n 0, 1) := by decide +kernel
theorem d_L_law_253 : decode code 253 = .ok (.iload_n 3, 1) := by decide +kernel
theorem d_L_law_254 : decode code 254 = .ok (.iconst 2, 1) := by decide +kernel
theorem d_L_law_255 : decode code 255 = .ok (.iadd, 1) := by decide +kernel
theorem d_L_law_256 : decode code 256 = .ok (.iaload, 1) := by decide +kernel
theorem d_L_law_257 : decode code 257 = .ok (.invokevirtual 17, 3) := by decide +kernel
theorem d_L_law_260 : decode code 260 = .ok (.if_icmp .eq 1063, 3) := by decide +kernel
theorem d_L_law_263 : decode code 263 = .ok (.iconst 0, 1) := by decide +kernel
theorem d_L_law_264 : decode code 264 = .ok (.ireturn, 1) := by decide +kernel
theorem d_L_law_265 : decode code 265 = .ok (.aload_n 1, 1) := by decide +kernel
theorem d_L_law_266 : decode code 266 = .ok (.aload_n 0, 1) := by decide +kernel
theorem d_L_law_267 : decode code 267 = .ok (.iload_n 3, 1) := by decide +kernel
theorem d_L_law_268 : decode code 268 = .ok (.iconst 1, 1) := by decide +kernel
theorem d_L_law_269 : decode code 269 = .ok (.iadd, 1) := by decide +kernel
theorem d_L_law_270 : decode code 270 = .ok (.iaload, 1) := by decide +kernel
theorem d_L_law_271 : decode code 271 = .ok (.aload_n 0, 1) := by decide +kernel
theorem d_L_law_272 : decode code 272 = .ok (.iload_n 3, 1) := by decide +kernel
theorem d_L_law_273 : decode code 273 = .ok (.iconst 2, 1) := by decide +kernel
theorem d_L_law_274 : decode code 274 = .ok (.iadd, 1) := by decide +kernel
theorem d_L_law_275 : decode code 275 = .ok (.iaload, 1) := by decide +kernel
theorem d_L_law_276 : decode code 276 = .ok (.aload_n 0, 1) := by decide +kernel
theorem d_L_law_277 : decode code 277 = .ok (.iload_n 3, 1) := by decide +kernel
theorem d_L_law_278 : decode code 278 = .ok (.iconst 3, 1) := by decide +kernel
theorem d_L_law_279 : decode code 279 = .ok (.iadd, 1) := by decide +kernel
theorem d_L_law_280 : decode code 280 = .ok (.iaload, 1) := by decide +kernel
theorem d_L_law_281 : decode code 281 = .ok (.invokevirtual 18, 3) := by decide +kernel
theorem d_L_law_284 : decode code 284 = .ok (.aload_n 2, 1) := by decide +kernel
theorem d_L_law_285 : decode code 285 = .ok (.aload_n 0, 1) := by decide +kernel
theorem d_L_law_286 : decode code 286 = .ok (.iload_n 3, 1) := by decide +kernel
theorem d_L_law_287 : decode code 287 = .ok (.iconst 1, 1) := by decide +kernel
theorem d_L_law_288 : decode code 288 = .ok (.iadd, 1) := by decide +kernel
theorem d_L_law_289 : decode code 289 = .ok (.iaload, 1) := by decide +kernel
theorem d_L_law_290 : decode code 290 = .ok (.aload_n 0, 1) := by decide +kernel
theorem d_L_law_291 : decode code 291 = .ok (.iload_n 3, 1) := by decide +kernel
theorem d_L_law_292 : decode code 292 = .ok (.iconst 2, 1) := by decide +kernel
theorem d_L_law_293 : decode code 293 = .ok (.iadd, 1) := by decide +kernel
theorem d_L_law_294 : decode code 294 = .ok (.iaload, 1) := by decide +kernel
theorem d_L_law_295 : decode code 295 = .ok (.aload_n 0, 1) := by decide +kernel
theorem d_L_law_296 : decode code 296 = .ok (.iload_n 3, 1) := by decide +kernel
theorem d_L_law_297 : decode code 297 = .ok (.iconst 3, 1) := by decide +kernel
theorem d_L_law_298 : decode code 298 = .ok (.iadd, 1) := by decide +kernel
theorem d_L_law_299 : decode code 299 = .ok (.iaload, 1) := by decide +kernel
theorem d_L_law_300 : decode code 300 = .ok (.invokevirtual 22, 3) := by decide +kernel
theorem d_L_law_303 : decode code 303 = .ok (.if_icmp .eq 1020, 3) := by decide +kernel
theorem d_L_law_306 : decode code 306 = .ok (.iconst 0, 1) := by decide +kernel
theorem d_L_law_307 : decode code 307 = .ok (.ireturn, 1) := by decide +kernel
theorem d_L_law_308 : decode code 308 = .ok (.aload_n 1, 1) := by decide +kernel
theorem d_L_law_309 : decode code 309 = .ok (.aload_n 0, 1) := by decide +kernel
theorem d_L_law_310 : decode code 310 = .ok (.iload_n 3, 1) := by decide +kernel
theorem d_L_law_311 : decode code 311 = .ok (.iconst 1, 1) := by decide +kernel
theorem d_L_law_312 : decode code 312 = .ok (.iadd, 1) := by decide +kernel
theorem d_L_law_313 : decode code 313 = .ok (.iaload, 1) := by decide +kernel
theorem d_L_law_314 : decode code 314 = .ok (.aload_n 0, 1) := by decide +kernel
theorem d_L_law_315 : decode code 315 = .ok (.iload_n 3, 1) := by decide +kernel
theorem d_L_law_316 : decode code 316 = .ok (.iconst 2, 1) := by decide +kernel
theorem d_L_law_317 : decode code 317 = .ok (.iadd, 1) := by decide +kernel
theorem d_L_law_318 : decode code 318 = .ok (.iaload, 1) := by decide +kernel
theorem d_L_law_319 : decode code 319 = .ok (.invokevirtual 23, 3) := by decide +kernel
theorem d_L_law_322 : decode code 322 = .ok (.aload_n 2, 1) := by decide +kernel
theorem d_L_law_323 : decode code 323 = .ok (.aload_n 0, 1) := by decide +kernel
theorem d_L_law_324 : decode code 324 = .ok (.iload_n 3, 1) := by decide +kernel
theorem d_L_law_325 : decode code 325 = .ok (.iconst 1, 1) := by decide +kernel
theorem d_L_law_326 : decode code 326 = .ok (.iadd, 1) := by decide +kernel
theorem d_L_law_327 : decode code 327 = .ok (.iaload, 1) := by decide +kernel
theorem d_L_law_328 : decode code 328 = .ok (.aload_n 0, 1) := by decide +kernel
theorem d_L_law_329 : decode code 329 = .ok (.iload_n 3, 1) := by decide +kernel
theorem d_L_law_330 : decode code 330 = .ok (.iconst 2, 1) := by decide +kernel
theorem d_L_law_331 : decode code 331 = .ok (.iadd, 1) := by decide +kernel
theorem d_L_law_332 : decode code 332 = .ok (.iaload, 1) := by decide +kernel
theorem d_L_law_333 : decode code 333 = .ok (.invokevirtual 26, 3) := by decide +kernel
theorem d_L_law_336 : decode code 336 = .ok (.if_icmp .eq 987, 3) := by decide +kernel
theorem d_L_law_339 : decode code 339 = .ok (.iconst 0, 1) := by decide +kernel
theorem d_L_law_340 : decode code 340 = .ok (.ireturn, 1) := by decide +kernel
theorem d_L_law_341 : decode code 341 = .ok (.aload_n 1, 1) := by decide +kernel
theorem d_L_law_342 : decode code 342 = .ok (.aload_n 0, 1) := by decide +kernel
theorem d_L_law_343 : decode code 343 = .ok (.iload_n 3, 1) := by decide +kernel
theorem d_L_law_344 : decode code 344 = .ok (.iconst 1, 1) := by decide +kernel
theorem d_L_law_345 : decode code 345 = .ok (.iadd, 1) := by decide +kernel
theorem d_L_law_346 : decode code 346 = .ok (.iaload, 1) := by decide +kernel
theorem d_L_law_347 : decode code 347 = .ok (.invokevirtual 27, 3) := by decide +kernel
theorem d_L_law_350 : decode code 350 = .ok (.aload_n 2, 1) := by decide +kernel
theorem d_L_law_351 : decode code 351 = .ok (.aload_n 0, 1) := by decide +kernel
theorem d_L_law_352 : decode code 352 = .ok (.iload_n 3, 1) := by decide +kernel
theorem d_L_law_353 : decode code 353 = .ok (.iconst 1, 1) := by decide +kernel
theorem d_L_law_354 : decode code 354 = .ok (.iadd, 1) := by decide +kernel
theorem d_L_law_355 : decode code 355 = .ok (.iaload, 1) := by decide +kernel
theorem d_L_law_356 : decode code 356 = .ok (.invokevirtual 31, 3) := by decide +kernel
theorem d_L_law_359 : decode code 359 = .ok (.if_icmp .eq 964, 3) := by decide +kernel
theorem d_L_law_362 : decode code 362 = .ok (.iconst 0, 1) := by decide +kernel
theorem d_L_law_363 : decode code 363 = .ok (.ireturn, 1) := by decide +kernel
theorem d_L_law_364 : decode code 364 = .ok (.aload_n 1, 1) := by decide +kernel
theorem d_L_law_365 : decode code 365 = .ok (.aload_n 0, 1) := by decide +kernel
theorem d_L_law_366 : decode code 366 = .ok (.iload_n 3, 1) := by decide +kernel
theorem d_L_law_367 : decode code 367 = .ok (.iconst 1, 1) := by decide +kernel
theorem d_L_law_368 : decode code 368 = .ok (.iadd, 1) := by decide +kernel
theorem d_L_law_369 : decode code 369 = .ok (.iaload, 1) := by decide +kernel
theorem d_L_law_370 : decode code 370 = .ok (.aload_n 0, 1) := by decide +kernel
theorem d_L_law_371 : decode code 371 = .ok (.iload_n 3, 1) := by decide +kernel
theorem d_L_law_372 : decode code 372 = .ok (.iconst 2, 1) := by decide +kernel
theorem d_L_law_373 : decode code 373 = .ok (.iadd, 1) := by decide +kernel
theorem d_L_law_374 : decode code 374 = .ok (.iaload, 1) := by decide +kernel
theorem d_L_law_375 : decode code 375 = .ok (.aload_n 0, 1) := by decide +kernel
theorem d_L_law_376 : decode code 376 = .ok (.iload_n 3, 1) := by decide +kernel
theorem d_L_law_377 : decode code 377 = .ok (.iconst 3, 1) := by decide +kernel
theorem d_L_law_378 : decode code 378 = .ok (.iadd, 1) := by decide +kernel
theorem d_L_law_379 : decode code 379 = .ok (.iaload, 1) := by decide +kernel
theorem d_L_law_380 : decode code 380 = .ok (.aload_n 0, 1) := by decide +kernel
theorem d_L_law_381 : decode code 381 = .ok (.iload_n 3, 1) := by decide +kernel
theorem d_L_law_382 : decode code 382 = .ok (.iconst 4, 1) := by decide +kernel
theorem d_L_law_383 : decode code 383 = .ok (.iadd, 1) := by decide +kernel
theorem d_L_law_384 : decode code 384 = .ok (.iaload, 1) := by decide +kernel
theorem d_L_law_385 : decode code 385 = .ok (.aload_n 0, 1) := by decide +kernel
theorem d_L_law_386 : decode code 386 = .ok (.iload_n 3, 1) := by decide +kernel
theorem d_L_law_387 : decode code 387 = .ok (.iconst 5, 1) := by decide +kernel
theorem d_L_law_388 : decode code 388 = .ok (.iadd, 1) := by decide +kernel
theorem d_L_law_389 : decode code 389 = .ok (.iaload, 1) := by decide +kernel
theorem d_L_law_390 : decode code 390 = .ok (.invokevirtual 32, 3) := by decide +kernel
theorem d_L_law_393 : decode code 393 = .ok (.aload_n 2, 1) := by decide +kernel
theorem d_L_law_394 : decode code 394 = .ok (.aload_n 0, 1) := by decide +kernel
theorem d_L_law_395 : decode code 395 = .ok (.iload_n 3, 1) := by decide +kernel
theorem d_L_law_396 : decode code 396 = .ok (.iconst 1, 1) := by decide +kernel
theorem d_L_law_397 : decode code 397 = .ok (.iadd, 1) := by decide +kernel
theorem d_L_law_398 : decode code 398 = .ok (.iaload, 1) := by decide +kernel
theorem d_L_law_399 : decode code 399 = .ok (.aload_n 0, 1) := by decide +kernel
theorem d_L_law_400 : decode code 400 = .ok (.iload_n 3, 1) := by decide +kernel
theorem d_L_law_401 : decode code 401 = .ok (.iconst 2, 1) := by decide +kernel
theorem d_L_law_402 : decode code 402 = .ok (.iadd, 1) := by decide +kernel
theorem d_L_law_403 : decode code 403 = .ok (.iaload, 1) := by decide +kernel
theorem d_L_law_404 : decode code 404 = .ok (.aload_n 0, 1) := by decide +kernel
theorem d_L_law_405 : decode code 405 = .ok (.iload_n 3, 1) := by decide +kernel
theorem d_L_law_406 : decode code 406 = .ok (.iconst 3, 1) := by decide +kernel
theorem d_L_law_407 : decode code 407 = .ok (.iadd, 1) := by decide +kernel
theorem d_L_law_408 : decode code 408 = .ok (.iaload, 1) := by decide +kernel
theorem d_L_law_409 : decode code 409 = .ok (.aload_n 0, 1) := by decide +kernel
theorem d_L_law_410 : decode code 410 = .ok (.iload_n 3, 1) := by decide +kernel
theorem d_L_law_411 : decode code 411 = .ok (.iconst 4, 1) := by decide +kernel
theorem d_L_law_412 : decode code 412 = .ok (.iadd, 1) := by decide +kernel
theorem d_L_law_413 : decode code 413 = .ok (.iaload, 1) := by decide +kernel
theorem d_L_law_414 : decode code 414 = .ok (.aload_n 0, 1) := by decide +kernel
theorem d_L_law_415 : decode code 415 = .ok (.iload_n 3, 1) := by decide +kernel
theorem d_L_law_416 : decode code 416 = .ok (.iconst 5, 1) := by decide +kernel
theorem d_L_law_417 : decode code 417 = .ok (.iadd, 1) := by decide +kernel
theorem d_L_law_418 : decode code 418 = .ok (.iaload, 1) := by decide +kernel
theorem d_L_law_419 : decode code 419 = .ok (.invokevirtual 36, 3) := by decide +kernel
theorem d_L_law_422 : decode code 422 = .ok (.if_icmp .eq 901, 3) := by decide +kernel
theorem d_L_law_425 : decode code 425 = .ok (.iconst 0, 1) := by decide +kernel
theorem d_L_law_426 : decode code 426 = .ok (.ireturn, 1) := by decide +kernel
theorem d_L_law_427 : decode code 427 = .ok (.aload_n 1, 1) := by decide +kernel
theorem d_L_law_428 : decode code 428 = .ok (.aload_n 0, 1) := by decide +kernel
theorem d_L_law_429 : decode code 429 = .ok (.iload_n 3, 1) := by decide +kernel
theorem d_L_law_430 : decode code 430 = .ok (.iconst 1, 1) := by decide +kernel
theorem d_L_law_431 : decode code 431 = .ok (.iadd, 1) := by decide +kernel
theorem d_L_law_432 : decode code 432 = .ok (.iaload, 1) := by decide +kernel
theorem d_L_law_433 : decode code 433 = .ok (.invokevirtual 37, 3) := by decide +kernel
theorem d_L_law_436 : decode code 436 = .ok (.aload_n 2, 1) := by decide +kernel
theorem d_L_law_437 : decode code 437 = .ok (.aload_n 0, 1) := by decide +kernel
theorem d_L_law_438 : decode code 438 = .ok (.iload_n 3, 1) := by decide +kernel
theorem d_L_law_439 : decode code 439 = .ok (.iconst 1, 1) := by decide +kernel
theorem d_L_law_440 : decode code 440 = .ok (.iadd, 1) := by decide +kernel
theorem d_L_law_441 : decode code 441 = .ok (.iaload, 1) := by decide +kernel
theorem d_L_law_442 : decode code 442 = .ok (.invokevirtual 40, 3) := by decide +kernel
theorem d_L_law_445 : decode code 445 = .ok (.if_icmp .eq 878, 3) := by decide +kernel
theorem d_L_law_448 : decode code 448 = .ok (.iconst 0, 1) := by decide +kernel
theorem d_L_law_449 : decode code 449 = .ok (.ireturn, 1) := by decide +kernel
theorem d_L_law_450 : decode code 450 = .ok (.aload_n 1, 1) := by decide +kernel
theorem d_L_law_451 : decode code 451 = .ok (.aload_n 0, 1) := by decide +kernel
theorem d_L_law_452 : decode code 452 = .ok (.iload_n 3, 1) := by decide +kernel
theorem d_L_law_453 : decode code 453 = .ok (.iconst 1, 1) := by decide +kernel
theorem d_L_law_454 : decode code 454 = .ok (.iadd, 1) := by decide +kernel
theorem d_L_law_455 : decode code 455 = .ok (.iaload, 1) := by decide +kernel
theorem d_L_law_456 : decode code 456 = .ok (.aload_n 0, 1) := by decide +kernel
theorem d_L_law_457 : decode code 457 = .ok (.iload_n 3, 1) := by decide +kernel
theorem d_L_law_458 : decode code 458 = .ok (.iconst 2, 1) := by decide +kernel
theorem d_L_law_459 : decode code 459 = .ok (.iadd, 1) := by decide +kernel
theorem d_L_law_460 : decode code 460 = .ok (.iaload, 1) := by decide +kernel
theorem d_L_law_461 : decode code 461 = .ok (.invokevirtual 41, 3) := by decide +kernel
theorem d_L_law_464 : decode code 464 = .ok (.aload_n 2, 1) := by decide +kernel
theorem d_L_law_465 : decode code 465 = .ok (.aload_n 0, 1) := by decide +kernel
theorem d_L_law_466 : decode code 466 = .ok (.iload_n 3, 1) := by decide +kernel
theorem d_L_law_467 : decode code 467 = .ok (.iconst 1, 1) := by decide +kernel
theorem d_L_law_468 : decode code 468 = .ok (.iadd, 1) := by decide +kernel
theorem d_L_law_469 : decode code 469 = .ok (.iaload, 1) := by decide +kernel
theorem d_L_law_470 : decode code 470 = .ok (.aload_n 0, 1) := by decide +kernel
theorem d_L_law_471 : decode code 471 = .ok (.iload_n 3, 1) := by decide +kernel
theorem d_L_law_472 : decode code 472 = .ok (.iconst 2, 1) := by decide +kernel
theorem d_L_law_473 : decode code 473 = .ok (.iadd, 1) := by decide +kernel
theorem d_L_law_474 : decode code 474 = .ok (.iaload, 1) := by decide +kernel
theorem d_L_law_475 : decode code 475 = .ok (.invokevirtual 44, 3) := by decide +kernel
theorem d_L_law_478 : decode code 478 = .ok (.if_icmp .eq 845, 3) := by decide +kernel
theorem d_L_law_481 : decode code 481 = .ok (.iconst 0, 1) := by decide +kernel
theorem d_L_law_482 : decode code 482 = .ok (.ireturn, 1) := by decide +kernel
theorem d_L_law_483 : decode code 483 = .ok (.aload_n 1, 1) := by decide +kernel
theorem d_L_law_484 : decode code 484 = .ok (.aload_n 0, 1) := by decide +kernel
theorem d_L_law_485 : decode code 485 = .ok (.iload_n 3, 1) := by decide +kernel
theorem d_L_law_486 : decode code 486 = .ok (.iconst 1, 1) := by decide +kernel
theorem d_L_law_487 : decode code 487 = .ok (.iadd, 1) := by decide +kernel
theorem d_L_law_488 : decode code 488 = .ok (.iaload, 1) := by decide +kernel
theorem d_L_law_489 : decode code 489 = .ok (.aload_n 0, 1) := by decide +kernel
theorem d_L_law_490 : decode code 490 = .ok (.iload_n 3, 1) := by decide +kernel
theorem d_L_law_491 : decode code 491 = .ok (.iconst 2, 1) := by decide +kernel
theorem d_L_law_492 : decode code 492 = .ok (.iadd, 1) := by decide +kernel
theorem d_L_law_493 : decode code 493 = .ok (.iaload, 1) := by decide +kernel
theorem d_L_law_494 : decode code 494 = .ok (.aload_n 0, 1) := by decide +kernel
theorem d_L_law_495 : decode code 495 = .ok (.iload_n 3, 1) := by decide +kernel
theorem d_L_law_496 : decode code 496 = .ok (.iconst 3, 1) := by decide +kernel
theorem d_L_law_497 : decode code 497 = .ok (.iadd, 1) := by decide +kernel
theorem d_L_law_498 : decode code 498 = .ok (.iaload, 1) := by decide +kernel
theorem d_L_law_499 : decode code 499 = .ok (.invokevirtual 45, 3) := by decide +kernel
theorem d_L_law_502 : decode code 502 = .ok (.aload_n 2, 1) := by decide +kernel
theorem d_L_law_503 : decode code 503 = .ok (.aload_n 0, 1) := by decide +kernel
theorem d_L_law_504 : decode code 504 = .ok (.iload_n 3, 1) := by decide +kernel
theorem d_L_law_505 : decode code 505 = .ok (.iconst 1, 1) := by decide +kernel
theorem d_L_law_506 : decode code 506 = .ok (.iadd, 1) := by decide +kernel
theorem d_L_law_507 : decode code 507 = .ok (.iaload, 1) := by decide +kernel
theorem d_L_law_508 : decode code 508 = .ok (.aload_n 0, 1) := by decide +kernel
theorem d_L_law_509 : decode code 509 = .ok (.iload_n 3, 1) := by decide +kernel
theorem d_L_law_510 : decode code 510 = .ok (.iconst 2, 1) := by decide +kernel
theorem d_L_law_511 : decode code 511 = .ok (.iadd, 1) := by decide +kernel
theorem d_L_law_512 : decode code 512 = .ok (.iaload, 1) := by decide +kernel
theorem d_L_law_513 : decode code 513 = .ok (.aload_n 0, 1) := by decide +kernel
theorem d_L_law_514 : decode code 514 = .ok (.iload_n 3, 1) := by decide +kernel
theorem d_L_law_515 : decode code 515 = .ok (.iconst 3, 1) := by decide +kernel
theorem d_L_law_516 : decode code 516 = .ok (.iadd, 1) := by decide +kernel
theorem d_L_law_517 : decode code 517 = .ok (.iaload, 1) := by decide +kernel
theorem d_L_law_518 : decode code 518 = .ok (.invokevirtual 48, 3) := by decide +kernel
theorem d_L_law_521 : decode code 521 = .ok (.if_icmp .eq 802, 3) := by decide +kernel
theorem d_L_law_524 : decode code 524 = .ok (.iconst 0, 1) := by decide +kernel
theorem d_L_law_525 : decode code 525 = .ok (.ireturn, 1) := by decide +kernel
theorem d_L_law_526 : decode code 526 = .ok (.aload_n 1, 1) := by decide +kernel
theorem d_L_law_527 : decode code 527 = .ok (.aload_n 0, 1) := by decide +kernel
theorem d_L_law_528 : decode code 528 = .ok (.iload_n 3, 1) := by decide +kernel
theorem d_L_law_529 : decode code 529 = .ok (.iconst 1, 1) := by decide +kernel
theorem d_L_law_530 : decode code 530 = .ok (.iadd, 1) := by decide +kernel
theorem d_L_law_531 : decode code 531 = .ok (.iaload, 1) := by decide +kernel
theorem d_L_law_532 : decode code 532 = .ok (.invokevirtual 49, 3) := by decide +kernel
theorem d_L_law_535 : decode code 535 = .ok (.aload_n 2, 1) := by decide +kernel
theorem d_L_law_536 : decode code 536 = .ok (.aload_n 0, 1) := by decide +kernel
theorem d_L_law_537 : decode code 537 = .ok (.iload_n 3, 1) := by decide +kernel
theorem d_L_law_538 : decode code 538 = .ok (.iconst 1, 1) := by decide +kernel
theorem d_L_law_539 : decode code 539 = .ok (.iadd, 1) := by decide +kernel
theorem d_L_law_540 : decode code 540 = .ok (.iaload, 1) := by decide +kernel
theorem d_L_law_541 : decode code 541 = .ok (.invokevirtual 52, 3) := by decide +kernel
theorem d_L_law_544 : decode code 544 = .ok (.if_icmp .eq 779, 3) := by decide +kernel
theorem d_L_law_547 : decode code 547 = .ok (.iconst 0, 1) := by decide +kernel
theorem d_L_law_548 : decode code 548 = .ok (.ireturn, 1) := by decide +kernel
theorem d_L_law_549 : decode code 549 = .ok (.aload_n 1, 1) := by decide +kernel
theorem d_L_law_550 : decode code 550 = .ok (.aload_n 0, 1) := by decide +kernel
theorem d_L_law_551 : decode code 551 = .ok (.iload_n 3, 1) := by decide +kernel
theorem d_L_law_552 : decode code 552 = .ok (.iconst 1, 1) := by decide +kernel
theorem d_L_law_553 : decode code 553 = .ok (.iadd, 1) := by decide +kernel
theorem d_L_law_554 : decode code 554 = .ok (.iaload, 1) := by decide +kernel
theorem d_L_law_555 : decode code 555 = .ok (.invokevirtual 53, 3) := by decide +kernel
theorem d_L_law_558 : decode code 558 = .ok (.aload_n 2, 1) := by decide +kernel
theorem d_L_law_559 : decode code 559 = .ok (.aload_n 0, 1) := by decide +kernel
theorem d_L_law_560 : decode code 560 = .ok (.iload_n 3, 1) := by decide +kernel
theorem d_L_law_561 : decode code 561 = .ok (.iconst 1, 1) := by decide +kernel
theorem d_L_law_562 : decode code 562 = .ok (.iadd, 1) := by decide +kernel
theorem d_L_law_563 : decode code 563 = .ok (.iaload, 1) := by decide +kernel
theorem d_L_law_564 : decode code 564 = .ok (.invokevirtual 56, 3) := by decide +kernel
theorem d_L_law_567 : decode code 567 = .ok (.if_icmp .eq 756, 3) := by decide +kernel
theorem d_L_law_570 : decode code 570 = .ok (.iconst 0, 1) := by decide +kernel
theorem d_L_law_571 : decode code 571 = .ok (.ireturn, 1) := by decide +kernel
theorem d_L_law_572 : decode code 572 = .ok (.aload_n 1, 1) := by decide +kernel
theorem d_L_law_573 : decode code 573 = .ok (.invokevirtual 57, 3) := by decide +kernel
theorem d_L_law_576 : decode code 576 = .ok (.aload_n 2, 1) := by decide +kernel
theorem d_L_law_577 : decode code 577 = .ok (.invokevirtual 61, 3) := by decide +kernel
theorem d_L_law_580 : decode code 580 = .ok (.if_icmp .eq 743, 3) := by decide +kernel
theorem d_L_law_583 : decode code 583 = .ok (.iconst 0, 1) := by decide +kernel
theorem d_L_law_584 : decode code 584 = .ok (.ireturn, 1) := by decide +kernel
theorem d_L_law_585 : decode code 585 = .ok (.aload_n 1, 1) := by decide +kernel
theorem d_L_law_586 : decode code 586 = .ok (.aload_n 0, 1) := by decide +kernel
theorem d_L_law_587 : decode code 587 = .ok (.iload_n 3, 1) := by decide +kernel
theorem d_L_law_588 : decode code 588 = .ok (.iconst 1, 1) := by decide +kernel
theorem d_L_law_589 : decode code 589 = .ok (.iadd, 1) := by decide +kernel
theorem d_L_law_590 : decode code 590 = .ok (.iaload, 1) := by decide +kernel
theorem d_L_law_591 : decode code 591 = .ok (.invokevirtual 62, 3) := by decide +kernel
theorem d_L_law_594 : decode code 594 = .ok (.aload_n 2, 1) := by decide +kernel
theorem d_L_law_595 : decode code 595 = .ok (.aload_n 0, 1) := by decide +kernel
theorem d_L_law_596 : decode code 596 = .ok (.iload_n 3, 1) := by decide +kernel
theorem d_L_law_597 : decode code 597 = .ok (.iconst 1, 1) := by decide +kernel
theorem d_L_law_598 : decode code 598 = .ok (.iadd, 1) := by decide +kernel
theorem d_L_law_599 : decode code 599 = .ok (.iaload, 1) := by decide +kernel
theorem d_L_law_600 : decode code 600 = .ok (.invokevirtual 65, 3) := by decide +kernel
theorem d_L_law_603 : decode code 603 = .ok (.if_icmp .eq 720, 3) := by decide +kernel
theorem d_L_law_606 : decode code 606 = .ok (.iconst 0, 1) := by decide +kernel
theorem d_L_law_607 : decode code 607 = .ok (.ireturn, 1) := by decide +kernel
theorem d_L_law_608 : decode code 608 = .ok (.aload_n 1, 1) := by decide +kernel
theorem d_L_law_609 : decode code 609 = .ok (.aload_n 0, 1) := by decide +kernel
theorem d_L_law_610 : decode code 610 = .ok (.iload_n 3, 1) := by decide +kernel
theorem d_L_law_611 : decode code 611 = .ok (.iconst 1, 1) := by decide +kernel
theorem d_L_law_612 : decode code 612 = .ok (.iadd, 1) := by decide +kernel
theorem d_L_law_613 : decode code 613 = .ok (.iaload, 1) := by decide +kernel
theorem d_L_law_614 : decode code 614 = .ok (.aload_n 0, 1) := by decide +kernel
theorem d_L_law_615 : decode code 615 = .ok (.iload_n 3, 1) := by decide +kernel
theorem d_L_law_616 : decode code 616 = .ok (.iconst 2, 1) := by decide +kernel
theorem d_L_law_617 : decode code 617 = .ok (.iadd, 1) := by decide +kernel
theorem d_L_law_618 : decode code 618 = .ok (.iaload, 1) := by decide +kernel
theorem d_L_law_619 : decode code 619 = .ok (.invokevirtual 66, 3) := by decide +kernel
theorem d_L_law_622 : decode code 622 = .ok (.aload_n 2, 1) := by decide +kernel
theorem d_L_law_623 : decode code 623 = .ok (.aload_n 0, 1) := by decide +kernel
theorem d_L_law_624 : decode code 624 = .ok (.iload_n 3, 1) := by decide +kernel
theorem d_L_law_625 : decode code 625 = .ok (.iconst 1, 1) := by decide +kernel
theorem d_L_law_626 : decode code 626 = .ok (.iadd, 1) := by decide +kernel
theorem d_L_law_627 : decode code 627 = .ok (.iaload, 1) := by decide +kernel
theorem d_L_law_628 : decode code 628 = .ok (.aload_n 0, 1) := by decide +kernel
theorem d_L_law_629 : decode code 629 = .ok (.iload_n 3, 1) := by decide +kernel
theorem d_L_law_630 : decode code 630 = .ok (.iconst 2, 1) := by decide +kernel
theorem d_L_law_631 : decode code 631 = .ok (.iadd, 1) := by decide +kernel
theorem d_L_law_632 : decode code 632 = .ok (.iaload, 1) := by decide +kernel
theorem d_L_law_633 : decode code 633 = .ok (.invokevirtual 69, 3) := by decide +kernel
theorem d_L_law_636 : decode code 636 = .ok (.if_icmp .eq 687, 3) := by decide +kernel
theorem d_L_law_639 : decode code 639 = .ok (.iconst 0, 1) := by decide +kernel
theorem d_L_law_640 : decode code 640 = .ok (.ireturn, 1) := by decide +kernel
theorem d_L_law_641 : decode code 641 = .ok (.aload_n 1, 1) := by decide +kernel
theorem d_L_law_642 : decode code 642 = .ok (.aload_n 0, 1) := by decide +kernel
theorem d_L_law_643 : decode code 643 = .ok (.iload_n 3, 1) := by decide +kernel
theorem d_L_law_644 : decode code 644 = .ok (.iconst 1, 1) := by decide +kernel
theorem d_L_law_645 : decode code 645 = .ok (.iadd, 1) := by decide +kernel
theorem d_L_law_646 : decode code 646 = .ok (.iaload, 1) := by decide +kernel
theorem d_L_law_647 : decode code 647 = .ok (.invokevirtual 70, 3) := by decide +kernel
theorem d_L_law_650 : decode code 650 = .ok (.aload_n 2, 1) := by decide +kernel
theorem d_L_law_651 : decode code 651 = .ok (.aload_n 0, 1) := by decide +kernel
theorem d_L_law_652 : decode code 652 = .ok (.iload_n 3, 1) := by decide +kernel
theorem d_L_law_653 : decode code 653 = .ok (.iconst 1, 1) := by decide +kernel
theorem d_L_law_654 : decode code 654 = .ok (.iadd, 1) := by decide +kernel
theorem d_L_law_655 : decode code 655 = .ok (.iaload, 1) := by decide +kernel
theorem d_L_law_656 : decode code 656 = .ok (.invokevirtual 73, 3) := by decide +kernel
theorem d_L_law_659 : decode code 659 = .ok (.if_icmp .eq 664, 3) := by decide +kernel
theorem d_L_law_662 : decode code 662 = .ok (.iconst 0, 1) := by decide +kernel
theorem d_L_law_663 : decode code 663 = .ok (.ireturn, 1) := by decide +kernel
theorem d_L_law_664 : decode code 664 = .ok (.aload_n 1, 1) := by decide +kernel
theorem d_L_law_665 : decode code 665 = .ok (.aload_n 0, 1) := by decide +kernel
theorem d_L_law_666 : decode code 666 = .ok (.iload_n 3, 1) := by decide +kernel
theorem d_L_law_667 : decode code 667 = .ok (.iconst 1, 1) := by decide +kernel
theorem d_L_law_668 : decode code 668 = .ok (.iadd, 1) := by decide +kernel
theorem d_L_law_669 : decode code 669 = .ok (.iaload, 1) := by decide +kernel
theorem d_L_law_670 : decode code 670 = .ok (.invokevirtual 74, 3) := by decide +kernel
theorem d_L_law_673 : decode code 673 = .ok (.aload_n 2, 1) := by decide +kernel
theorem d_L_law_674 : decode code 674 = .ok (.aload_n 0, 1) := by decide +kernel
theorem d_L_law_675 : decode code 675 = .ok (.iload_n 3, 1) := by decide +kernel
theorem d_L_law_676 : decode code 676 = .ok (.iconst 1, 1) := by decide +kernel
theorem d_L_law_677 : decode code 677 = .ok (.iadd, 1) := by decide +kernel
theorem d_L_law_678 : decode code 678 = .ok (.iaload, 1) := by decide +kernel
theorem d_L_law_679 : decode code 679 = .ok (.invokevirtual 77, 3) := by decide +kernel
theorem d_L_law_682 : decode code 682 = .ok (.if_icmp .eq 641, 3) := by decide +kernel
theorem d_L_law_685 : decode code 685 = .ok (.iconst 0, 1) := by decide +kernel
theorem d_L_law_686 : decode code 686 = .ok (.ireturn, 1) := by decide +kernel
theorem d_L_law_687 : decode code 687 = .ok (.aload_n 1, 1) := by decide +kernel
theorem d_L_law_688 : decode code 688 = .ok (.aload_n 0, 1) := by decide +kernel
theorem d_L_law_689 : decode code 689 = .ok (.iload_n 3, 1) := by decide +kernel
theorem d_L_law_690 : decode code 690 = .ok (.iconst 1, 1) := by decide +kernel
theorem d_L_law_691 : decode code 691 = .ok (.iadd, 1) := by decide +kernel
theorem d_L_law_692 : decode code 692 = .ok (.iaload, 1) := by decide +kernel
theorem d_L_law_693 : decode code 693 = .ok (.invokevirtual 78, 3) := by decide +kernel
theorem d_L_law_696 : decode code 696 = .ok (.aload_n 2, 1) := by decide +kernel
theorem d_L_law_697 : decode code 697 = .ok (.aload_n 0, 1) := by decide +kernel
theorem d_L_law_698 : decode code 698 = .ok (.iload_n 3, 1) := by decide +kernel
theorem d_L_law_699 : decode code 699 = .ok (.iconst 1, 1) := by decide +kernel
theorem d_L_law_700 : decode code 700 = .ok (.iadd, 1) := by decide +kernel
theorem d_L_law_701 : decode code 701 = .ok (.iaload, 1) := by decide +kernel
theorem d_L_law_702 : decode code 702 = .ok (.invokevirtual 81, 3) := by decide +kernel
theorem d_L_law_705 : decode code 705 = .ok (.if_icmp .eq 618, 3) := by decide +kernel
theorem d_L_law_708 : decode code 708 = .ok (.iconst 0, 1) := by decide +kernel
theorem d_L_law_709 : decode code 709 = .ok (.ireturn, 1) := by decide +kernel
theorem d_L_law_710 : decode code 710 = .ok (.aload_n 1, 1) := by decide +kernel
theorem d_L_law_711 : decode code 711 = .ok (.aload_n 0, 1) := by decide +kernel
theorem d_L_law_712 : decode code 712 = .ok (.iload_n 3, 1) := by decide +kernel
theorem d_L_law_713 : decode code 713 = .ok (.iconst 1, 1) := by decide +kernel
theorem d_L_law_714 : decode code 714 = .ok (.iadd, 1) := by decide +kernel
theorem d_L_law_715 : decode code 715 = .ok (.iaload, 1) := by decide +kernel
theorem d_L_law_716 : decode code 716 = .ok (.invokevirtual 82, 3) := by decide +kernel
theorem d_L_law_719 : decode code 719 = .ok (.aload_n 2, 1) := by decide +kernel
theorem d_L_law_720 : decode code 720 = .ok (.aload_n 0, 1) := by decide +kernel
theorem d_L_law_721 : decode code 721 = .ok (.iload_n 3, 1) := by decide +kernel
theorem d_L_law_722 : decode code 722 = .ok (.iconst 1, 1) := by decide +kernel
theorem d_L_law_723 : decode code 723 = .ok (.iadd, 1) := by decide +kernel
theorem d_L_law_724 : decode code 724 = .ok (.iaload, 1) := by decide +kernel
theorem d_L_law_725 : decode code 725 = .ok (.invokevirtual 85, 3) := by decide +kernel
theorem d_L_law_728 : decode code 728 = .ok (.if_icmp .eq 595, 3) := by decide +kernel
theorem d_L_law_731 : decode code 731 = .ok (.iconst 0, 1) := by decide +kernel
theorem d_L_law_732 : decode code 732 = .ok (.ireturn, 1) := by decide +kernel
theorem d_L_law_733 : decode code 733 = .ok (.aload_n 1, 1) := by decide +kernel
theorem d_L_law_734 : decode code 734 = .ok (.invokevirtual 86, 3) := by decide +kernel
theorem d_L_law_737 : decode code 737 = .ok (.aload_n 2, 1) := by decide +kernel
theorem d_L_law_738 : decode code 738 = .ok (.invokevirtual 89, 3) := by decide +kernel
theorem d_L_law_741 : decode code 741 = .ok (.if_icmp .eq 582, 3) := by decide +kernel
theorem d_L_law_744 : decode code 744 = .ok (.iconst 0, 1) := by decide +kernel
theorem d_L_law_745 : decode code 745 = .ok (.ireturn, 1) := by decide +kernel
theorem d_L_law_746 : decode code 746 = .ok (.aload_n 1, 1) := by decide +kernel
theorem d_L_law_747 : decode code 747 = .ok (.aload_n 0, 1) := by decide +kernel
theorem d_L_law_748 : decode code 748 = .ok (.iload_n 3, 1) := by decide +kernel
theorem d_L_law_749 : decode code 749 = .ok (.iconst 1, 1) := by decide +kernel
theorem d_L_law_750 : decode code 750 = .ok (.iadd, 1) := by decide +kernel
theorem d_L_law_751 : decode code 751 = .ok (.iaload, 1) := by decide +kernel
theorem d_L_law_752 : decode code 752 = .ok (.invokevirtual 90, 3) := by decide +kernel
theorem d_L_law_755 : decode code 755 = .ok (.aload_n 2, 1) := by decide +kernel
theorem d_L_law_756 : decode code 756 = .ok (.aload_n 0, 1) := by decide +kernel
theorem d_L_law_757 : decode code 757 = .ok (.iload_n 3, 1) := by decide +kernel
theorem d_L_law_758 : decode code 758 = .ok (.iconst 1, 1) := by decide +kernel
theorem d_L_law_759 : decode code 759 = .ok (.iadd, 1) := by decide +kernel
theorem d_L_law_760 : decode code 760 = .ok (.iaload, 1) := by decide +kernel
theorem d_L_law_761 : decode code 761 = .ok (.invokevirtual 93, 3) := by decide +kernel
theorem d_L_law_764 : decode code 764 = .ok (.if_icmp .eq 559, 3) := by decide +kernel
theorem d_L_law_767 : decode code 767 = .ok (.iconst 0, 1) := by decide +kernel
theorem d_L_law_768 : decode code 768 = .ok (.ireturn, 1) := by decide +kernel
theorem d_L_law_769 : decode code 769 = .ok (.aload_n 1, 1) := by decide +kernel
theorem d_L_law_770 : decode code 770 = .ok (.aload_n 0, 1) := by decide +kernel
theorem d_L_law_771 : decode code 771 = .ok (.iload_n 3, 1) := by decide +kernel
theorem d_L_law_772 : decode code 772 = .ok (.iconst 1, 1) := by decide +kernel
theorem d_L_law_773 : decode code 773 = .ok (.iadd, 1) := by decide +kernel
theorem d_L_law_774 : decode code 774 = .ok (.iaload, 1) := by decide +kernel
theorem d_L_law_775 : decode code 775 = .ok (.invokevirtual 94, 3) := by decide +kernel
theorem d_L_law_778 : decode code 778 = .ok (.aload_n 2, 1) := by decide +kernel
theorem d_L_law_779 : decode code 779 = .ok (.aload_n 0, 1) := by decide +kernel
theorem d_L_law_780 : decode code 780 = .ok (.iload_n 3, 1) := by decide +kernel
theorem d_L_law_781 : decode code 781 = .ok (.iconst 1, 1) := by decide +kernel
theorem d_L_law_782 : decode code 782 = .ok (.iadd, 1) := by decide +kernel
theorem d_L_law_783 : decode code 783 = .ok (.iaload, 1) := by decide +kernel
theorem d_L_law_784 : decode code 784 = .ok (.invokevirtual 97, 3) := by decide +kernel
theorem d_L_law_787 : decode code 787 = .ok (.if_icmp .eq 536, 3) := by decide +kernel
theorem d_L_law_790 : decode code 790 = .ok (.iconst 0, 1) := by decide +kernel
theorem d_L_law_791 : decode code 791 = .ok (.ireturn, 1) := by decide +kernel
theorem d_L_law_792 : decode code 792 = .ok (.aload_n 1, 1) := by decide +kernel
theorem d_L_law_793 : decode code 793 = .ok (.aload_n 0, 1) := by decide +kernel
theorem d_L_law_794 : decode code 794 = .ok (.iload_n 3, 1) := by decide +kernel
theorem d_L_law_795 : decode code 795 = .ok (.iconst 1, 1) := by decide +kernel
theorem d_L_law_796 : decode code 796 = .ok (.iadd, 1) := by decide +kernel
theorem d_L_law_797 : decode code 797 = .ok (.iaload, 1) := by decide +kernel
theorem d_L_law_798 : decode code 798 = .ok (.invokevirtual 98, 3) := by decide +kernel
theorem d_L_law_801 : decode code 801 = .ok (.aload_n 2, 1) := by decide +kernel
theorem d_L_law_802 : decode code 802 = .ok (.aload_n 0, 1) := by decide +kernel
theorem d_L_law_803 : decode code 803 = .ok (.iload_n 3, 1) := by decide +kernel
theorem d_L_law_804 : decode code 804 = .ok (.iconst 1, 1) := by decide +kernel
theorem d_L_law_805 : decode code 805 = .ok (.iadd, 1) := by decide +kernel
theorem d_L_law_806 : decode code 806 = .ok (.iaload, 1) := by decide +kernel
theorem d_L_law_807 : decode code 807 = .ok (.invokevirtual 101, 3) := by decide +kernel
theorem d_L_law_810 : decode code 810 = .ok (.if_icmp .eq 513, 3) := by decide +kernel
theorem d_L_law_813 : decode code 813 = .ok (.iconst 0, 1) := by decide +kernel
theorem d_L_law_814 : decode code 814 = .ok (.ireturn, 1) := by decide +kernel
theorem d_L_law_815 : decode code 815 = .ok (.aload_n 1, 1) := by decide +kernel
theorem d_L_law_816 : decode code 816 = .ok (.aload_n 0, 1) := by decide +kernel
theorem d_L_law_817 : decode code 817 = .ok (.iload_n 3, 1) := by decide +kernel
theorem d_L_law_818 : decode code 818 = .ok (.iconst 1, 1) := by decide +kernel
theorem d_L_law_819 : decode code 819 = .ok (.iadd, 1) := by decide +kernel
theorem d_L_law_820 : decode code 820 = .ok (.iaload, 1) := by decide +kernel
theorem d_L_law_821 : decode code 821 = .ok (.invokevirtual 102, 3) := by decide +kernel
theorem d_L_law_824 : decode code 824 = .ok (.aload_n 2, 1) := by decide +kernel
theorem d_L_law_825 : decode code 825 = .ok (.aload_n 0, 1) := by decide +kernel
theorem d_L_law_826 : decode code 826 = .ok (.iload_n 3, 1) := by decide +kernel
theorem d_L_law_827 : decode code 827 = .ok (.iconst 1, 1) := by decide +kernel
theorem d_L_law_828 : decode code 828 = .ok (.iadd, 1) := by decide +kernel
theorem d_L_law_829 : decode code 829 = .ok (.iaload, 1) := by decide +kernel
theorem d_L_law_830 : decode code 830 = .ok (.invokevirtual 105, 3) := by decide +kernel
theorem d_L_law_833 : decode code 833 = .ok (.if_icmp .eq 490, 3) := by decide +kernel
theorem d_L_law_836 : decode code 836 = .ok (.iconst 0, 1) := by decide +kernel
theorem d_L_law_837 : decode code 837 = .ok (.ireturn, 1) := by decide +kernel
theorem d_L_law_838 : decode code 838 = .ok (.aload_n 1, 1) := by decide +kernel
theorem d_L_law_839 : decode code 839 = .ok (.aload_n 0, 1) := by decide +kernel
theorem d_L_law_840 : decode code 840 = .ok (.iload_n 3, 1) := by decide +kernel
theorem d_L_law_841 : decode code 841 = .ok (.iconst 1, 1) := by decide +kernel
theorem d_L_law_842 : decode code 842 = .ok (.iadd, 1) := by decide +kernel
theorem d_L_law_843 : decode code 843 = .ok (.iaload, 1) := by decide +kernel
theorem d_L_law_844 : decode code 844 = .ok (.aload_n 0, 1) := by decide +kernel
theorem d_L_law_845 : decode code 845 = .ok (.iload_n 3, 1) := by decide +kernel
theorem d_L_law_846 : decode code 846 = .ok (.iconst 2, 1) := by decide +kernel
theorem d_L_law_847 : decode code 847 = .ok (.iadd, 1) := by decide +kernel
theorem d_L_law_848 : decode code 848 = .ok (.iaload, 1) := by decide +kernel
theorem d_L_law_849 : decode code 849 = .ok (.invokevirtual 106, 3) := by decide +kernel
theorem d_L_law_852 : decode code 852 = .ok (.aload_n 2, 1) := by decide +kernel
theorem d_L_law_853 : decode code 853 = .ok (.aload_n 0, 1) := by decide +kernel
theorem d_L_law_854 : decode code 854 = .ok (.iload_n 3, 1) := by decide +kernel
theorem d_L_law_855 : decode code 855 = .ok (.iconst 1, 1) := by decide +kernel
theorem d_L_law_856 : decode code 856 = .ok (.iadd, 1) := by decide +kernel
theorem d_L_law_857 : decode code 857 = .ok (.iaload, 1) := by decide +kernel
theorem d_L_law_858 : decode code 858 = .ok (.aload_n 0, 1) := by decide +kernel
theorem d_L_law_859 : decode code 859 = .ok (.iload_n 3, 1) := by decide +kernel
theorem d_L_law_860 : decode code 860 = .ok (.iconst 2, 1) := by decide +kernel
theorem d_L_law_861 : decode code 861 = .ok (.iadd, 1) := by decide +kernel
theorem d_L_law_862 : decode code 862 = .ok (.iaload, 1) := by decide +kernel
theorem d_L_law_863 : decode code 863 = .ok (.invokevirtual 109, 3) := by decide +kernel
theorem d_L_law_866 : decode code 866 = .ok (.if_icmp .eq 457, 3) := by decide +kernel
theorem d_L_law_869 : decode code 869 = .ok (.iconst 0, 1) := by decide +kernel
theorem d_L_law_870 : decode code 870 = .ok (.ireturn, 1) := by decide +kernel
theorem d_L_law_871 : decode code 871 = .ok (.aload_n 1, 1) := by decide +kernel
theorem d_L_law_872 : decode code 872 = .ok (.aload_n 0, 1) := by decide +kernel
theorem d_L_law_873 : decode code 873 = .ok (.iload_n 3, 1) := by decide +kernel
theorem d_L_law_874 : decode code 874 = .ok (.iconst 1, 1) := by decide +kernel
theorem d_L_law_875 : decode code 875 = .ok (.iadd, 1) := by decide +kernel
theorem d_L_law_876 : decode code 876 = .ok (.iaload, 1) := by decide +kernel
theorem d_L_law_877 : decode code 877 = .ok (.invokevirtual 110, 3) := by decide +kernel
theorem d_L_law_880 : decode code 880 = .ok (.aload_n 2, 1) := by decide +kernel
theorem d_L_law_881 : decode code 881 = .ok (.aload_n 0, 1) := by decide +kernel
theorem d_L_law_882 : decode code 882 = .ok (.iload_n 3, 1) := by decide +kernel
theorem d_L_law_883 : decode code 883 = .ok (.iconst 1, 1) := by decide +kernel
theorem d_L_law_884 : decode code 884 = .ok (.iadd, 1) := by decide +kernel
theorem d_L_law_885 : decode code 885 = .ok (.iaload, 1) := by decide +kernel
theorem d_L_law_886 : decode code 886 = .ok (.invokevirtual 113, 3) := by decide +kernel
theorem d_L_law_889 : decode code 889 = .ok (.if_icmp .eq 434, 3) := by decide +kernel
theorem d_L_law_892 : decode code 892 = .ok (.iconst 0, 1) := by decide +kernel
theorem d_L_law_893 : decode code 893 = .ok (.ireturn, 1) := by decide +kernel
theorem d_L_law_894 : decode code 894 = .ok (.aload_n 1, 1) := by decide +kernel
theorem d_L_law_895 : decode code 895 = .ok (.invokevirtual 114, 3) := by decide +kernel
theorem d_L_law_898 : decode code 898 = .ok (.aload_n 2, 1) := by decide +kernel
theorem d_L_law_899 : decode code 899 = .ok (.invokevirtual 117, 3) := by decide +kernel
theorem d_L_law_902 : decode code 902 = .ok (.if_icmp .eq 421, 3) := by decide +kernel
theorem d_L_law_905 : decode code 905 = .ok (.iconst 0, 1) := by decide +kernel
theorem d_L_law_906 : decode code 906 = .ok (.ireturn, 1) := by decide +kernel
theorem d_L_law_907 : decode code 907 = .ok (.aload_n 1, 1) := by decide +kernel
theorem d_L_law_908 : decode code 908 = .ok (.aload_n 0, 1) := by decide +kernel
theorem d_L_law_909 : decode code 909 = .ok (.iload_n 3, 1) := by decide +kernel
theorem d_L_law_910 : decode code 910 = .ok (.iconst 1, 1) := by decide +kernel
theorem d_L_law_911 : decode code 911 = .ok (.iadd, 1) := by decide +kernel
theorem d_L_law_912 : decode code 912 = .ok (.iaload, 1) := by decide +kernel
theorem d_L_law_913 : decode code 913 = .ok (.aload_n 0, 1) := by decide +kernel
theorem d_L_law_914 : decode code 914 = .ok (.iload_n 3, 1) := by decide +kernel
theorem d_L_law_915 : decode code 915 = .ok (.iconst 2, 1) := by decide +kernel
theorem d_L_law_916 : decode code 916 = .ok (.iadd, 1) := by decide +kernel
theorem d_L_law_917 : decode code 917 = .ok (.iaload, 1) := by decide +kernel
theorem d_L_law_918 : decode code 918 = .ok (.invokevirtual 118, 3) := by decide +kernel
theorem d_L_law_921 : decode code 921 = .ok (.aload_n 2, 1) := by decide +kernel
theorem d_L_law_922 : decode code 922 = .ok (.aload_n 0, 1) := by decide +kernel
theorem d_L_law_923 : decode code 923 = .ok (.iload_n 3, 1) := by decide +kernel
theorem d_L_law_924 : decode code 924 = .ok (.iconst 1, 1) := by decide +kernel
theorem d_L_law_925 : decode code 925 = .ok (.iadd, 1) := by decide +kernel
theorem d_L_law_926 : decode code 926 = .ok (.iaload, 1) := by decide +kernel
theorem d_L_law_927 : decode code 927 = .ok (.aload_n 0, 1) := by decide +kernel
theorem d_L_law_928 : decode code 928 = .ok (.iload_n 3, 1) := by decide +kernel
theorem d_L_law_929 : decode code 929 = .ok (.iconst 2, 1) := by decide +kernel
theorem d_L_law_930 : decode code 930 = .ok (.iadd, 1) := by decide +kernel
theorem d_L_law_931 : decode code 931 = .ok (.iaload, 1) := by decide +kernel
theorem d_L_law_932 : decode code 932 = .ok (.invokevirtual 121, 3) := by decide +kernel
theorem d_L_law_935 : decode code 935 = .ok (.if_icmp .eq 388, 3) := by decide +kernel
theorem d_L_law_938 : decode code 938 = .ok (.iconst 0, 1) := by decide +kernel
theorem d_L_law_939 : decode code 939 = .ok (.ireturn, 1) := by decide +kernel
theorem d_L_law_940 : decode code 940 = .ok (.aload_n 1, 1) := by decide +kernel
theorem d_L_law_941 : decode code 941 = .ok (.invokevirtual 122, 3) := by decide +kernel
theorem d_L_law_944 : decode code 944 = .ok (.aload_n 2, 1) := by decide +kernel
theorem d_L_law_945 : decode code 945 = .ok (.invokevirtual 125, 3) := by decide +kernel
theorem d_L_law_948 : decode code 948 = .ok (.if_icmp .eq 375, 3) := by decide +kernel
theorem d_L_law_951 : decode code 951 = .ok (.iconst 0, 1) := by decide +kernel
theorem d_L_law_952 : decode code 952 = .ok (.ireturn, 1) := by decide +kernel
theorem d_L_law_953 : decode code 953 = .ok (.aload_n 1, 1) := by decide +kernel
theorem d_L_law_954 : decode code 954 = .ok (.invokevirtual 126, 3) := by decide +kernel
theorem d_L_law_957 : decode code 957 = .ok (.aload_n 2, 1) := by decide +kernel
theorem d_L_law_958 : decode code 958 = .ok (.invokevirtual 129, 3) := by decide +kernel
theorem d_L_law_961 : decode code 961 = .ok (.if_icmp .eq 362, 3) := by decide +kernel
theorem d_L_law_964 : decode code 964 = .ok (.iconst 0, 1) := by decide +kernel
theorem d_L_law_965 : decode code 965 = .ok (.ireturn, 1) := by decide +kernel
theorem d_L_law_966 : decode code 966 = .ok (.aload_n 1, 1) := by decide +kernel
theorem d_L_law_967 : decode code 967 = .ok (.invokevirtual 130, 3) := by decide +kernel
theorem d_L_law_970 : decode code 970 = .ok (.aload_n 2, 1) := by decide +kernel
theorem d_L_law_971 : decode code 971 = .ok (.invokevirtual 133, 3) := by decide +kernel
theorem d_L_law_974 : decode code 974 = .ok (.if_icmp .eq 349, 3) := by decide +kernel
theorem d_L_law_977 : decode code 977 = .ok (.iconst 0, 1) := by decide +kernel
theorem d_L_law_978 : decode code 978 = .ok (.ireturn, 1) := by decide +kernel
theorem d_L_law_979 : decode code 979 = .ok (.aload_n 1, 1) := by decide +kernel
theorem d_L_law_980 : decode code 980 = .ok (.aload_n 0, 1) := by decide +kernel
theorem d_L_law_981 : decode code 981 = .ok (.iload_n 3, 1) := by decide +kernel
theorem d_L_law_982 : decode code 982 = .ok (.iconst 1, 1) := by decide +kernel
theorem d_L_law_983 : decode code 983 = .ok (.iadd, 1) := by decide +kernel
theorem d_L_law_984 : decode code 984 = .ok (.iaload, 1) := by decide +kernel
theorem d_L_law_985 : decode code 985 = .ok (.invokevirtual 134, 3) := by decide +kernel
theorem d_L_law_988 : decode code 988 = .ok (.aload_n 2, 1) := by decide +kernel
theorem d_L_law_989 : decode code 989 = .ok (.aload_n 0, 1) := by decide +kernel
theorem d_L_law_990 : decode code 990 = .ok (.iload_n 3, 1) := by decide +kernel
theorem d_L_law_991 : decode code 991 = .ok (.iconst 1, 1) := by decide +kernel
theorem d_L_law_992 : decode code 992 = .ok (.iadd, 1) := by decide +kernel
theorem d_L_law_993 : decode code 993 = .ok (.iaload, 1) := by decide +kernel
theorem d_L_law_994 : decode code 994 = .ok (.invokevirtual 137, 3) := by decide +kernel
theorem d_L_law_997 : decode code 997 = .ok (.if_icmp .eq 326, 3) := by decide +kernel
theorem d_L_law_1000 : decode code 1000 = .ok (.iconst 0, 1) := by decide +kernel
theorem d_L_law_1001 : decode code 1001 = .ok (.ireturn, 1) := by decide +kernel
theorem d_L_law_1002 : decode code 1002 = .ok (.aload_n 1, 1) := by decide +kernel
theorem d_L_law_1003 : decode code 1003 = .ok (.invokevirtual 138, 3) := by decide +kernel
theorem d_L_law_1006 : decode code 1006 = .ok (.aload_n 2, 1) := by decide +kernel
theorem d_L_law_1007 : decode code 1007 = .ok (.invokevirtual 141, 3) := by decide +kernel
theorem d_L_law_1010 : decode code 1010 = .ok (.if_icmp .eq 313, 3) := by decide +kernel
theorem d_L_law_1013 : decode code 1013 = .ok (.iconst 0, 1) := by decide +kernel
theorem d_L_law_1014 : decode code 1014 = .ok (.ireturn, 1) := by decide +kernel
theorem d_L_law_1015 : decode code 1015 = .ok (.aload_n 1, 1) := by decide +kernel
theorem d_L_law_1016 : decode code 1016 = .ok (.aload_n 0, 1) := by decide +kernel
theorem d_L_law_1017 : decode code 1017 = .ok (.iload_n 3, 1) := by decide +kernel
theorem d_L_law_1018 : decode code 1018 = .ok (.iconst 1, 1) := by decide +kernel
theorem d_L_law_1019 : decode code 1019 = .ok (.iadd, 1) := by decide +kernel
theorem d_L_law_1020 : decode code 1020 = .ok (.iaload, 1) := by decide +kernel
theorem d_L_law_1021 : decode code 1021 = .ok (.invokevirtual 142, 3) := by decide +kernel
theorem d_L_law_1024 : decode code 1024 = .ok (.aload_n 2, 1) := by decide +kernel
theorem d_L_law_1025 : decode code 1025 = .ok (.aload_n 0, 1) := by decide +kernel
theorem d_L_law_1026 : decode code 1026 = .ok (.iload_n 3, 1) := by decide +kernel
theorem d_L_law_1027 : decode code 1027 = .ok (.iconst 1, 1) := by decide +kernel
theorem d_L_law_1028 : decode code 1028 = .ok (.iadd, 1) := by decide +kernel
theorem d_L_law_1029 : decode code 1029 = .ok (.iaload, 1) := by decide +kernel
theorem d_L_law_1030 : decode code 1030 = .ok (.invokevirtual 145, 3) := by decide +kernel
theorem d_L_law_1033 : decode code 1033 = .ok (.if_icmp .eq 290, 3) := by decide +kernel
theorem d_L_law_1036 : decode code 1036 = .ok (.iconst 0, 1) := by decide +kernel
theorem d_L_law_1037 : decode code 1037 = .ok (.ireturn, 1) := by decide +kernel
theorem d_L_law_1038 : decode code 1038 = .ok (.aload_n 1, 1) := by decide +kernel
theorem d_L_law_1039 : decode code 1039 = .ok (.invokevirtual 146, 3) := by decide +kernel
theorem d_L_law_1042 : decode code 1042 = .ok (.aload_n 2, 1) := by decide +kernel
theorem d_L_law_1043 : decode code 1043 = .ok (.invokevirtual 149, 3) := by decide +kernel
theorem d_L_law_1046 : decode code 1046 = .ok (.if_icmp .eq 277, 3) := by decide +kernel
theorem d_L_law_1049 : decode code 1049 = .ok (.iconst 0, 1) := by decide +kernel
theorem d_L_law_1050 : decode code 1050 = .ok (.ireturn, 1) := by decide +kernel
theorem d_L_law_1051 : decode code 1051 = .ok (.aload_n 1, 1) := by decide +kernel
theorem d_L_law_1052 : decode code 1052 = .ok (.invokevirtual 150, 3) := by decide +kernel
theorem d_L_law_1055 : decode code 1055 = .ok (.aload_n 2, 1) := by decide +kernel
theorem d_L_law_1056 : decode code 1056 = .ok (.invokevirtual 153, 3) := by decide +kernel
theorem d_L_law_1059 : decode code 1059 = .ok (.if_icmp .eq 264, 3) := by decide +kernel
theorem d_L_law_1062 : decode code 1062 = .ok (.iconst 0, 1) := by decide +kernel
theorem d_L_law_1063 : decode code 1063 = .ok (.ireturn, 1) := by decide +kernel
theorem d_L_law_1064 : decode code 1064 = .ok (.aload_n 1, 1) := by decide +kernel
theorem d_L_law_1065 : decode code 1065 = .ok (.aload_n 0, 1) := by decide +kernel
theorem d_L_law_1066 : decode code 1066 = .ok (.iload_n 3, 1) := by decide +kernel
theorem d_L_law_1067 : decode code 1067 = .ok (.iconst 1, 1) := by decide +kernel
theorem d_L_law_1068 : decode code 1068 = .ok (.iadd, 1) := by decide +kernel
theorem d_L_law_1069 : decode code 1069 = .ok (.iaload, 1) := by decide +kernel
theorem d_L_law_1070 : decode code 1070 = .ok (.invokevirtual 154, 3) := by decide +kernel
theorem d_L_law_1073 : decode code 1073 = .ok (.aload_n 2, 1) := by decide +kernel
theorem d_L_law_1074 : decode code 1074 = .ok (.aload_n 0, 1) := by decide +kernel
theorem d_L_law_1075 : decode code 1075 = .ok (.iload_n 3, 1) := by decide +kernel
theorem d_L_law_1076 : decode code 1076 = .ok (.iconst 1, 1) := by decide +kernel
theorem d_L_law_1077 : decode code 1077 = .ok (.iadd, 1) := by decide +kernel
theorem d_L_law_1078 : decode code 1078 = .ok (.iaload, 1) := by decide +kernel
theorem d_L_law_1079 : decode code 1079 = .ok (.invokevirtual 157, 3) := by decide +kernel
theorem d_L_law_1082 : decode code 1082 = .ok (.if_icmp .eq 241, 3) := by decide +kernel
theorem d_L_law_1085 : decode code 1085 = .ok (.iconst 0, 1) := by decide +kernel
theorem d_L_law_1086 : decode code 1086 = .ok (.ireturn, 1) := by decide +kernel
theorem d_L_law_1087 : decode code 1087 = .ok (.aload_n 1, 1) := by decide +kernel
theorem d_L_law_1088 : decode code 1088 = .ok (.aload_n 0, 1) := by decide +kernel
theorem d_L_law_1089 : decode code 1089 = .ok (.iload_n 3, 1) := by decide +kernel
theorem d_L_law_1090 : decode code 1090 = .ok (.iconst 1, 1) := by decide +kernel
theorem d_L_law_1091 : decode code 1091 = .ok (.iadd, 1) := by decide +kernel
theorem d_L_law_1092 : decode code 1092 = .ok (.iaload, 1) := by decide +kernel
theorem d_L_law_1093 : decode code 1093 = .ok (.aload_n 0, 1) := by decide +kernel
theorem d_L_law_1094 : decode code 1094 = .ok (.iload_n 3, 1) := by decide +kernel
theorem d_L_law_1095 : decode code 1095 = .ok (.iconst 2, 1) := by decide +kernel
theorem d_L_law_1096 : decode code 1096 = .ok (.iadd, 1) := by decide +kernel
theorem d_L_law_1097 : decode code 1097 = .ok (.iaload, 1) := by decide +kernel
theorem d_L_law_1098 : decode code 1098 = .ok (.invokevirtual 158, 3) := by decide +kernel
theorem d_L_law_1101 : decode code 1101 = .ok (.aload_n 2, 1) := by decide +kernel
theorem d_L_law_1102 : decode code 1102 = .ok (.aload_n 0, 1) := by decide +kernel
theorem d_L_law_1103 : decode code 1103 = .ok (.iload_n 3, 1) := by decide +kernel
theorem d_L_law_1104 : decode code 1104 = .ok (.iconst 1, 1) := by decide +kernel
theorem d_L_law_1105 : decode code 1105 = .ok (.iadd, 1) := by decide +kernel
theorem d_L_law_1106 : decode code 1106 = .ok (.iaload, 1) := by decide +kernel
theorem d_L_law_1107 : decode code 1107 = .ok (.aload_n 0, 1) := by decide +kernel
theorem d_L_law_1108 : decode code 1108 = .ok (.iload_n 3, 1) := by decide +kernel
theorem d_L_law_1109 : decode code 1109 = .ok (.iconst 2, 1) := by decide +kernel
theorem d_L_law_1110 : decode code 1110 = .ok (.iadd, 1) := by decide +kernel
theorem d_L_law_1111 : decode code 1111 = .ok (.iaload, 1) := by decide +kernel
theorem d_L_law_1112 : decode code 1112 = .ok (.invokevirtual 161, 3) := by decide +kernel
theorem d_L_law_1115 : decode code 1115 = .ok (.if_icmp .eq 208, 3) := by decide +kernel
theorem d_L_law_1118 : decode code 1118 = .ok (.iconst 0, 1) := by decide +kernel
theorem d_L_law_1119 : decode code 1119 = .ok (.ireturn, 1) := by decide +kernel
theorem d_L_law_1120 : decode code 1120 = .ok (.aload_n 1, 1) := by decide +kernel
theorem d_L_law_1121 : decode code 1121 = .ok (.aload_n 0, 1) := by decide +kernel
theorem d_L_law_1122 : decode code 1122 = .ok (.iload_n 3, 1) := by decide +kernel
theorem d_L_law_1123 : decode code 1123 = .ok (.iconst 1, 1) := by decide +kernel
theorem d_L_law_1124 : decode code 1124 = .ok (.iadd, 1) := by decide +kernel
theorem d_L_law_1125 : decode code 1125 = .ok (.iaload, 1) := by decide +kernel
theorem d_L_law_1126 : decode code 1126 = .ok (.invokevirtual 162, 3) := by decide +kernel
theorem d_L_law_1129 : decode code 1129 = .ok (.aload_n 2, 1) := by decide +kernel
theorem d_L_law_1130 : decode code 1130 = .ok (.aload_n 0, 1) := by decide +kernel
theorem d_L_law_1131 : decode code 1131 = .ok (.iload_n 3, 1) := by decide +kernel
theorem d_L_law_1132 : decode code 1132 = .ok (.iconst 1, 1) := by decide +kernel
theorem d_L_law_1133 : decode code 1133 = .ok (.iadd, 1) := by decide +kernel
theorem d_L_law_1134 : decode code 1134 = .ok (.iaload, 1) := by decide +kernel
theorem d_L_law_1135 : decode code 1135 = .ok (.invokevirtual 165, 3) := by decide +kernel
theorem d_L_law_1138 : decode code 1138 = .ok (.if_icmp .eq 185, 3) := by decide +kernel
theorem d_L_law_1141 : decode code 1141 = .ok (.iconst 0, 1) := by decide +kernel
theorem d_L_law_1142 : decode code 1142 = .ok (.ireturn, 1) := by decide +kernel
theorem d_L_law_1143 : decode code 1143 = .ok (.aload_n 1, 1) := by decide +kernel
theorem d_L_law_1144 : decode code 1144 = .ok (.aload_n 0, 1) := by decide +kernel
theorem d_L_law_1145 : decode code 1145 = .ok (.iload_n 3, 1) := by decide +kernel
theorem d_L_law_1146 : decode code 1146 = .ok (.iconst 1, 1) := by decide +kernel
theorem d_L_law_1147 : decode code 1147 = .ok (.iadd, 1) := by decide +kernel
theorem d_L_law_1148 : decode code 1148 = .ok (.iaload, 1) := by decide +kernel
theorem d_L_law_1149 : decode code 1149 = .ok (.aload_n 0, 1) := by decide +kernel
theorem d_L_law_1150 : decode code 1150 = .ok (.iload_n 3, 1) := by decide +kernel
theorem d_L_law_1151 : decode code 1151 = .ok (.iconst 2, 1) := by decide +kernel
theorem d_L_law_1152 : decode code 1152 = .ok (.iadd, 1) := by decide +kernel
theorem d_L_law_1153 : decode code 1153 = .ok (.iaload, 1) := by decide +kernel
theorem d_L_law_1154 : decode code 1154 = .ok (.invokevirtual 166, 3) := by decide +kernel
theorem d_L_law_1157 : decode code 1157 = .ok (.aload_n 2, 1) := by decide +kernel
theorem d_L_law_1158 : decode code 1158 = .ok (.aload_n 0, 1) := by decide +kernel
theorem d_L_law_1159 : decode code 1159 = .ok (.iload_n 3, 1) := by decide +kernel
theorem d_L_law_1160 : decode code 1160 = .ok (.iconst 1, 1) := by decide +kernel
theorem d_L_law_1161 : decode code 1161 = .ok (.iadd, 1) := by decide +kernel
theorem d_L_law_1162 : decode code 1162 = .ok (.iaload, 1) := by decide +kernel
theorem d_L_law_1163 : decode code 1163 = .ok (.aload_n 0, 1) := by decide +kernel
theorem d_L_law_1164 : decode code 1164 = .ok (.iload_n 3, 1) := by decide +kernel
theorem d_L_law_1165 : decode code 1165 = .ok (.iconst 2, 1) := by decide +kernel
theorem d_L_law_1166 : decode code 1166 = .ok (.iadd, 1) := by decide +kernel
theorem d_L_law_1167 : decode code 1167 = .ok (.iaload, 1) := by decide +kernel
theorem d_L_law_1168 : decode code 1168 = .ok (.invokevirtual 169, 3) := by decide +kernel
theorem d_L_law_1171 : decode code 1171 = .ok (.if_icmp .eq 152, 3) := by decide +kernel
theorem d_L_law_1174 : decode code 1174 = .ok (.iconst 0, 1) := by decide +kernel
theorem d_L_law_1175 : decode code 1175 = .ok (.ireturn, 1) := by decide +kernel
theorem d_L_law_1176 : decode code 1176 = .ok (.aload_n 1, 1) := by decide +kernel
theorem d_L_law_1177 : decode code 1177 = .ok (.aload_n 0, 1) := by decide +kernel
theorem d_L_law_1178 : decode code 1178 = .ok (.iload_n 3, 1) := by decide +kernel
theorem d_L_law_1179 : decode code 1179 = .ok (.iconst 1, 1) := by decide +kernel
theorem d_L_law_1180 : decode code 1180 = .ok (.iadd, 1) := by decide +kernel
theorem d_L_law_1181 : decode code 1181 = .ok (.iaload, 1) := by decide +kernel
theorem d_L_law_1182 : decode code 1182 = .ok (.aload_n 0, 1) := by decide +kernel
theorem d_L_law_1183 : decode code 1183 = .ok (.iload_n 3, 1) := by decide +kernel
theorem d_L_law_1184 : decode code 1184 = .ok (.iconst 2, 1) := by decide +kernel
theorem d_L_law_1185 : decode code 1185 = .ok (.iadd, 1) := by decide +kernel
theorem d_L_law_1186 : decode code 1186 = .ok (.iaload, 1) := by decide +kernel
theorem d_L_law_1187 : decode code 1187 = .ok (.invokevirtual 170, 3) := by decide +kernel
theorem d_L_law_1190 : decode code 1190 = .ok (.aload_n 2, 1) := by decide +kernel
theorem d_L_law_1191 : decode code 1191 = .ok (.aload_n 0, 1) := by decide +kernel
theorem d_L_law_1192 : decode code 1192 = .ok (.iload_n 3, 1) := by decide +kernel
theorem d_L_law_1193 : decode code 1193 = .ok (.iconst 1, 1) := by decide +kernel
theorem d_L_law_1194 : decode code 1194 = .ok (.iadd, 1) := by decide +kernel
theorem d_L_law_1195 : decode code 1195 = .ok (.iaload, 1) := by decide +kernel
theorem d_L_law_1196 : decode code 1196 = .ok (.aload_n 0, 1) := by decide +kernel
theorem d_L_law_1197 : decode code 1197 = .ok (.iload_n 3, 1) := by decide +kernel
theorem d_L_law_1198 : decode code 1198 = .ok (.iconst 2, 1) := by decide +kernel
theorem d_L_law_1199 : decode code 1199 = .ok (.iadd, 1) := by decide +kernel
theorem d_L_law_1200 : decode code 1200 = .ok (.iaload, 1) := by decide +kernel
theorem d_L_law_1201 : decode code 1201 = .ok (.invokevirtual 173, 3) := by decide +kernel
theorem d_L_law_1204 : decode code 1204 = .ok (.if_icmp .eq 119, 3) := by decide +kernel
theorem d_L_law_1207 : decode code 1207 = .ok (.iconst 0, 1) := by decide +kernel
theorem d_L_law_1208 : decode code 1208 = .ok (.ireturn, 1) := by decide +kernel
theorem d_L_law_1209 : decode code 1209 = .ok (.aload_n 1, 1) := by decide +kernel
theorem d_L_law_1210 : decode code 1210 = .ok (.invokevirtual 174, 3) := by decide +kernel
theorem d_L_law_1213 : decode code 1213 = .ok (.aload_n 2, 1) := by decide +kernel
theorem d_L_law_1214 : decode code 1214 = .ok (.invokevirtual 177, 3) := by decide +kernel
theorem d_L_law_1217 : decode code 1217 = .ok (.if_icmp .eq 106, 3) := by decide +kernel
theorem d_L_law_1220 : decode code 1220 = .ok (.iconst 0, 1) := by decide +kernel
theorem d_L_law_1221 : decode code 1221 = .ok (.ireturn, 1) := by decide +kernel
theorem d_L_law_1222 : decode code 1222 = .ok (.aload_n 1, 1) := by decide +kernel
theorem d_L_law_1223 : decode code 1223 = .ok (.invokevirtual 178, 3) := by decide +kernel
theorem d_L_law_1226 : decode code 1226 = .ok (.aload_n 2, 1) := by decide +kernel
theorem d_L_law_1227 : decode code 1227 = .ok (.invokevirtual 182, 3) := by decide +kernel
theorem d_L_law_1230 : decode code 1230 = .ok (.lcmp, 1) := by decide +kernel
theorem d_L_law_1231 : decode code 1231 = .ok (.ifCond .eq 92, 3) := by decide +kernel
theorem d_L_law_1234 : decode code 1234 = .ok (.iconst 0, 1) := by decide +kernel
theorem d_L_law_1235 : decode code 1235 = .ok (.ireturn, 1) := by decide +kernel
theorem d_L_law_1236 : decode code 1236 = .ok (.aload_n 1, 1) := by decide +kernel
theorem d_L_law_1237 : decode code 1237 = .ok (.invokevirtual 183, 3) := by decide +kernel
theorem d_L_law_1240 : decode code 1240 = .ok (.aload_n 2, 1) := by decide +kernel
theorem d_L_law_1241 : decode code 1241 = .ok (.invokevirtual 186, 3) := by decide +kernel
theorem d_L_law_1244 : decode code 1244 = .ok (.lcmp, 1) := by decide +kernel
theorem d_L_law_1245 : decode code 1245 = .ok (.ifCond .eq 78, 3) := by decide +kernel
theorem d_L_law_1248 : decode code 1248 = .ok (.iconst 0, 1) := by decide +kernel
theorem d_L_law_1249 : decode code 1249 = .ok (.ireturn, 1) := by decide +kernel
theorem d_L_law_1250 : decode code 1250 = .ok (.aload_n 1, 1) := by decide +kernel
theorem d_L_law_1251 : decode code 1251 = .ok (.aload_n 0, 1) := by decide +kernel
theorem d_L_law_1252 : decode code 1252 = .ok (.iload_n 3, 1) := by decide +kernel
theorem d_L_law_1253 : decode code 1253 = .ok (.iconst 1, 1) := by decide +kernel
theorem d_L_law_1254 : decode code 1254 = .ok (.iadd, 1) := by decide +kernel
theorem d_L_law_1255 : decode code 1255 = .ok (.iaload, 1) := by decide +kernel
theorem d_L_law_1256 : decode code 1256 = .ok (.invokevirtual 187, 3) := by decide +kernel
theorem d_L_law_1259 : decode code 1259 = .ok (.aload_n 2, 1) := by decide +kernel
theorem d_L_law_1260 : decode code 1260 = .ok (.aload_n 0, 1) := by decide +kernel
theorem d_L_law_1261 : decode code 1261 = .ok (.iload_n 3, 1) := by decide +kernel
theorem d_L_law_1262 : decode code 1262 = .ok (.iconst 1, 1) := by decide +kernel
theorem d_L_law_1263 : decode code 1263 = .ok (.iadd, 1) := by decide +kernel
theorem d_L_law_1264 : decode code 1264 = .ok (.iaload, 1) := by decide +kernel
theorem d_L_law_1265 : decode code 1265 = .ok (.invokevirtual 190, 3) := by decide +kernel
theorem d_L_law_1268 : decode code 1268 = .ok (.if_icmp .eq 55, 3) := by decide +kernel
theorem d_L_law_1271 : decode code 1271 = .ok (.iconst 0, 1) := by decide +kernel
theorem d_L_law_1272 : decode code 1272 = .ok (.ireturn, 1) := by decide +kernel
theorem d_L_law_1273 : decode code 1273 = .ok (.aload_n 1, 1) := by decide +kernel
theorem d_L_law_1274 : decode code 1274 = .ok (.invokevirtual 191, 3) := by decide +kernel
theorem d_L_law_1277 : decode code 1277 = .ok (.aload_n 2, 1) := by decide +kernel
theorem d_L_law_1278 : decode code 1278 = .ok (.invokevirtual 194, 3) := by decide +kernel
theorem d_L_law_1281 : decode code 1281 = .ok (.if_icmp .eq 42, 3) := by decide +kernel
theorem d_L_law_1284 : decode code 1284 = .ok (.iconst 0, 1) := by decide +kernel
theorem d_L_law_1285 : decode code 1285 = .ok (.ireturn, 1) := by decide +kernel
theorem d_L_law_1286 : decode code 1286 = .ok (.aload_n 1, 1) := by decide +kernel
theorem d_L_law_1287 : decode code 1287 = .ok (.aload_n 0, 1) := by decide +kernel
theorem d_L_law_1288 : decode code 1288 = .ok (.iload_n 3, 1) := by decide +kernel
theorem d_L_law_1289 : decode code 1289 = .ok (.iconst 1, 1) := by decide +kernel
theorem d_L_law_1290 : decode code 1290 = .ok (.iadd, 1) := by decide +kernel
theorem d_L_law_1291 : decode code 1291 = .ok (.iaload, 1) := by decide +kernel
theorem d_L_law_1292 : decode code 1292 = .ok (.invokevirtual 195, 3) := by decide +kernel
theorem d_L_law_1295 : decode code 1295 = .ok (.aload_n 2, 1) := by decide +kernel
theorem d_L_law_1296 : decode code 1296 = .ok (.aload_n 0, 1) := by decide +kernel
theorem d_L_law_1297 : decode code 1297 = .ok (.iload_n 3, 1) := by decide +kernel
theorem d_L_law_1298 : decode code 1298 = .ok (.iconst 1, 1) := by decide +kernel
theorem d_L_law_1299 : decode code 1299 = .ok (.iadd, 1) := by decide +kernel
theorem d_L_law_1300 : decode code 1300 = .ok (.iaload, 1) := by decide +kernel
theorem d_L_law_1301 : decode code 1301 = .ok (.invokevirtual 198, 3) := by decide +kernel
theorem d_L_law_1304 : decode code 1304 = .ok (.if_icmp .eq 19, 3) := by decide +kernel
theorem d_L_law_1307 : decode code 1307 = .ok (.iconst 0, 1) := by decide +kernel
theorem d_L_law_1308 : decode code 1308 = .ok (.ireturn, 1) := by decide +kernel
theorem d_L_law_1309 : decode code 1309 = .ok (.aload_n 1, 1) := by decide +kernel
theorem d_L_law_1310 : decode code 1310 = .ok (.invokevirtual 199, 3) := by decide +kernel
theorem d_L_law_1313 : decode code 1313 = .ok (.aload_n 2, 1) := by decide +kernel
theorem d_L_law_1314 : decode code 1314 = .ok (.invokevirtual 202, 3) := by decide +kernel
theorem d_L_law_1317 : decode code 1317 = .ok (.lcmp, 1) := by decide +kernel
theorem d_L_law_1318 : decode code 1318 = .ok (.ifCond .eq 5, 3) := by decide +kernel
theorem d_L_law_1321 : decode code 1321 = .ok (.iconst 0, 1) := by decide +kernel
theorem d_L_law_1322 : decode code 1322 = .ok (.ireturn, 1) := by decide +kernel
theorem d_L_law_1323 : decode code 1323 = .ok (.iinc 3 6, 3) := by decide +kernel
theorem d_L_law_1326 : decode code 1326 = .ok (.goto (-1308), 3) := by decide +kernel
theorem d_L_law_1329 : decode code 1329 = .ok (.iconst 1, 1) := by decide +kernel
theorem d_L_law_1330 : decode code 1330 = .ok (.ireturn, 1) := by decide +kernel
