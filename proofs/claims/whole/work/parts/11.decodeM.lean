theorem d_M_init_0 : decode b_M_init 0 = .ok (.aload_n 0, 1) := by decide +kernel
theorem d_M_init_1 : decode b_M_init 1 = .ok (.invokespecial 1, 3) := by decide +kernel
theorem d_M_init_4 : decode b_M_init 4 = .ok (.aload_n 0, 1) := by decide +kernel
theorem d_M_init_5 : decode b_M_init 5 = .ok (.bipush 6, 2) := by decide +kernel
theorem d_M_init_7 : decode b_M_init 7 = .ok (.newarray .int, 2) := by decide +kernel
theorem d_M_init_9 : decode b_M_init 9 = .ok (.putfield 7, 3) := by decide +kernel
theorem d_M_init_12 : decode b_M_init 12 = .ok (.aload_n 0, 1) := by decide +kernel
theorem d_M_init_13 : decode b_M_init 13 = .ok (.bipush 6, 2) := by decide +kernel
theorem d_M_init_15 : decode b_M_init 15 = .ok (.newarray .int, 2) := by decide +kernel
theorem d_M_init_17 : decode b_M_init 17 = .ok (.putfield 13, 3) := by decide +kernel
theorem d_M_init_20 : decode b_M_init 20 = .ok (.aload_n 0, 1) := by decide +kernel
theorem d_M_init_21 : decode b_M_init 21 = .ok (.bipush 6, 2) := by decide +kernel
theorem d_M_init_23 : decode b_M_init 23 = .ok (.newarray .int, 2) := by decide +kernel
theorem d_M_init_25 : decode b_M_init 25 = .ok (.putfield 16, 3) := by decide +kernel
theorem d_M_init_28 : decode b_M_init 28 = .ok (.aload_n 0, 1) := by decide +kernel
theorem d_M_init_29 : decode b_M_init 29 = .ok (.bipush 6, 2) := by decide +kernel
theorem d_M_init_31 : decode b_M_init 31 = .ok (.newarray .int, 2) := by decide +kernel
theorem d_M_init_33 : decode b_M_init 33 = .ok (.putfield 19, 3) := by decide +kernel
theorem d_M_init_36 : decode b_M_init 36 = .ok (.aload_n 0, 1) := by decide +kernel
theorem d_M_init_37 : decode b_M_init 37 = .ok (.bipush 6, 2) := by decide +kernel
theorem d_M_init_39 : decode b_M_init 39 = .ok (.newarray .int, 2) := by decide +kernel
theorem d_M_init_41 : decode b_M_init 41 = .ok (.putfield 22, 3) := by decide +kernel
theorem d_M_init_44 : decode b_M_init 44 = .ok (.aload_n 0, 1) := by decide +kernel
theorem d_M_init_45 : decode b_M_init 45 = .ok (.bipush 6, 2) := by decide +kernel
theorem d_M_init_47 : decode b_M_init 47 = .ok (.newarray .int, 2) := by decide +kernel
theorem d_M_init_49 : decode b_M_init 49 = .ok (.putfield 25, 3) := by decide +kernel
theorem d_M_init_52 : decode b_M_init 52 = .ok (.aload_n 0, 1) := by decide +kernel
theorem d_M_init_53 : decode b_M_init 53 = .ok (.bipush 6, 2) := by decide +kernel
theorem d_M_init_55 : decode b_M_init 55 = .ok (.newarray .boolean, 2) := by decide +kernel
theorem d_M_init_57 : decode b_M_init 57 = .ok (.putfield 28, 3) := by decide +kernel
theorem d_M_init_60 : decode b_M_init 60 = .ok (.aload_n 0, 1) := by decide +kernel
theorem d_M_init_61 : decode b_M_init 61 = .ok (.bipush 6, 2) := by decide +kernel
theorem d_M_init_63 : decode b_M_init 63 = .ok (.newarray .int, 2) := by decide +kernel
theorem d_M_init_65 : decode b_M_init 65 = .ok (.putfield 32, 3) := by decide +kernel
theorem d_M_init_68 : decode b_M_init 68 = .ok (.aload_n 0, 1) := by decide +kernel
theorem d_M_init_69 : decode b_M_init 69 = .ok (.bipush 6, 2) := by decide +kernel
theorem d_M_init_71 : decode b_M_init 71 = .ok (.newarray .int, 2) := by decide +kernel
theorem d_M_init_73 : decode b_M_init 73 = .ok (.putfield 35, 3) := by decide +kernel
theorem d_M_init_76 : decode b_M_init 76 = .ok (.aload_n 0, 1) := by decide +kernel
theorem d_M_init_77 : decode b_M_init 77 = .ok (.bipush 12, 2) := by decide +kernel
theorem d_M_init_79 : decode b_M_init 79 = .ok (.newarray .int, 2) := by decide +kernel
theorem d_M_init_81 : decode b_M_init 81 = .ok (.putfield 38, 3) := by decide +kernel
theorem d_M_init_84 : decode b_M_init 84 = .ok (.aload_n 0, 1) := by decide +kernel
theorem d_M_init_85 : decode b_M_init 85 = .ok (.bipush 12, 2) := by decide +kernel
theorem d_M_init_87 : decode b_M_init 87 = .ok (.newarray .int, 2) := by decide +kernel
theorem d_M_init_89 : decode b_M_init 89 = .ok (.putfield 41, 3) := by decide +kernel
theorem d_M_init_92 : decode b_M_init 92 = .ok (.aload_n 0, 1) := by decide +kernel
theorem d_M_init_93 : decode b_M_init 93 = .ok (.bipush 12, 2) := by decide +kernel
theorem d_M_init_95 : decode b_M_init 95 = .ok (.newarray .int, 2) := by decide +kernel
theorem d_M_init_97 : decode b_M_init 97 = .ok (.putfield 44, 3) := by decide +kernel
theorem d_M_init_100 : decode b_M_init 100 = .ok (.aload_n 0, 1) := by decide +kernel
theorem d_M_init_101 : decode b_M_init 101 = .ok (.bipush 12, 2) := by decide +kernel
theorem d_M_init_103 : decode b_M_init 103 = .ok (.newarray .int, 2) := by decide +kernel
theorem d_M_init_105 : decode b_M_init 105 = .ok (.putfield 47, 3) := by decide +kernel
theorem d_M_init_108 : decode b_M_init 108 = .ok (.aload_n 0, 1) := by decide +kernel
theorem d_M_init_109 : decode b_M_init 109 = .ok (.bipush 12, 2) := by decide +kernel
theorem d_M_init_111 : decode b_M_init 111 = .ok (.newarray .int, 2) := by decide +kernel
theorem d_M_init_113 : decode b_M_init 113 = .ok (.putfield 50, 3) := by decide +kernel
theorem d_M_init_116 : decode b_M_init 116 = .ok (.aload_n 0, 1) := by decide +kernel
theorem d_M_init_117 : decode b_M_init 117 = .ok (.bipush 100, 2) := by decide +kernel
theorem d_M_init_119 : decode b_M_init 119 = .ok (.newarray .int, 2) := by decide +kernel
theorem d_M_init_121 : decode b_M_init 121 = .ok (.putfield 53, 3) := by decide +kernel
theorem d_M_init_124 : decode b_M_init 124 = .ok (.aload_n 0, 1) := by decide +kernel
theorem d_M_init_125 : decode b_M_init 125 = .ok (.bipush 100, 2) := by decide +kernel
theorem d_M_init_127 : decode b_M_init 127 = .ok (.newarray .int, 2) := by decide +kernel
theorem d_M_init_129 : decode b_M_init 129 = .ok (.putfield 56, 3) := by decide +kernel
theorem d_M_init_132 : decode b_M_init 132 = .ok (.aload_n 0, 1) := by decide +kernel
theorem d_M_init_133 : decode b_M_init 133 = .ok (.iconst 4, 1) := by decide +kernel
theorem d_M_init_134 : decode b_M_init 134 = .ok (.newarray .int, 2) := by decide +kernel
theorem d_M_init_136 : decode b_M_init 136 = .ok (.putfield 59, 3) := by decide +kernel
theorem d_M_init_139 : decode b_M_init 139 = .ok (.aload_n 0, 1) := by decide +kernel
theorem d_M_init_140 : decode b_M_init 140 = .ok (.iconst 4, 1) := by decide +kernel
theorem d_M_init_141 : decode b_M_init 141 = .ok (.newarray .int, 2) := by decide +kernel
theorem d_M_init_143 : decode b_M_init 143 = .ok (.putfield 62, 3) := by decide +kernel
theorem d_M_init_146 : decode b_M_init 146 = .ok (.aload_n 0, 1) := by decide +kernel
theorem d_M_init_147 : decode b_M_init 147 = .ok (.bipush 30, 2) := by decide +kernel
theorem d_M_init_149 : decode b_M_init 149 = .ok (.newarray .int, 2) := by decide +kernel
theorem d_M_init_151 : decode b_M_init 151 = .ok (.putfield 65, 3) := by decide +kernel
theorem d_M_init_154 : decode b_M_init 154 = .ok (.aload_n 0, 1) := by decide +kernel
theorem d_M_init_155 : decode b_M_init 155 = .ok (.bipush 30, 2) := by decide +kernel
theorem d_M_init_157 : decode b_M_init 157 = .ok (.newarray .int, 2) := by decide +kernel
theorem d_M_init_159 : decode b_M_init 159 = .ok (.putfield 68, 3) := by decide +kernel
theorem d_M_init_162 : decode b_M_init 162 = .ok (.aload_n 0, 1) := by decide +kernel
theorem d_M_init_163 : decode b_M_init 163 = .ok (.bipush 30, 2) := by decide +kernel
theorem d_M_init_165 : decode b_M_init 165 = .ok (.newarray .int, 2) := by decide +kernel
theorem d_M_init_167 : decode b_M_init 167 = .ok (.putfield 71, 3) := by decide +kernel
theorem d_M_init_170 : decode b_M_init 170 = .ok (.aload_n 0, 1) := by decide +kernel
theorem d_M_init_171 : decode b_M_init 171 = .ok (.bipush 30, 2) := by decide +kernel
theorem d_M_init_173 : decode b_M_init 173 = .ok (.newarray .int, 2) := by decide +kernel
theorem d_M_init_175 : decode b_M_init 175 = .ok (.putfield 74, 3) := by decide +kernel
theorem d_M_init_178 : decode b_M_init 178 = .ok (.aload_n 0, 1) := by decide +kernel
theorem d_M_init_179 : decode b_M_init 179 = .ok (.bipush 30, 2) := by decide +kernel
theorem d_M_init_181 : decode b_M_init 181 = .ok (.newarray .int, 2) := by decide +kernel
theorem d_M_init_183 : decode b_M_init 183 = .ok (.putfield 77, 3) := by decide +kernel
theorem d_M_init_186 : decode b_M_init 186 = .ok (.aload_n 0, 1) := by decide +kernel
theorem d_M_init_187 : decode b_M_init 187 = .ok (.bipush 30, 2) := by decide +kernel
theorem d_M_init_189 : decode b_M_init 189 = .ok (.newarray .boolean, 2) := by decide +kernel
theorem d_M_init_191 : decode b_M_init 191 = .ok (.putfield 80, 3) := by decide +kernel
theorem d_M_init_194 : decode b_M_init 194 = .ok (.iconst 0, 1) := by decide +kernel
theorem d_M_init_195 : decode b_M_init 195 = .ok (.istore_n 1, 1) := by decide +kernel
theorem d_M_init_196 : decode b_M_init 196 = .ok (.iload_n 1, 1) := by decide +kernel
theorem d_M_init_197 : decode b_M_init 197 = .ok (.bipush 12, 2) := by decide +kernel
theorem d_M_init_199 : decode b_M_init 199 = .ok (.if_icmp .ge 23, 3) := by decide +kernel
theorem d_M_init_202 : decode b_M_init 202 = .ok (.aload_n 0, 1) := by decide +kernel
theorem d_M_init_203 : decode b_M_init 203 = .ok (.getfield 38, 3) := by decide +kernel
theorem d_M_init_206 : decode b_M_init 206 = .ok (.iload_n 1, 1) := by decide +kernel
theorem d_M_init_207 : decode b_M_init 207 = .ok (.iconst 1, 1) := by decide +kernel
theorem d_M_init_208 : decode b_M_init 208 = .ok (.iastore, 1) := by decide +kernel
theorem d_M_init_209 : decode b_M_init 209 = .ok (.aload_n 0, 1) := by decide +kernel
theorem d_M_init_210 : decode b_M_init 210 = .ok (.getfield 50, 3) := by decide +kernel
theorem d_M_init_213 : decode b_M_init 213 = .ok (.iload_n 1, 1) := by decide +kernel
theorem d_M_init_214 : decode b_M_init 214 = .ok (.iconst (-1), 1) := by decide +kernel
theorem d_M_init_215 : decode b_M_init 215 = .ok (.iastore, 1) := by decide +kernel
theorem d_M_init_216 : decode b_M_init 216 = .ok (.iinc 1 1, 3) := by decide +kernel
theorem d_M_init_219 : decode b_M_init 219 = .ok (.goto (-23), 3) := by decide +kernel
theorem d_M_init_222 : decode b_M_init 222 = .ok (.return_, 1) := by decide +kernel
theorem d_M_within_0 : decode b_M_within 0 = .ok (.iload_n 0, 1) := by decide +kernel
theorem d_M_within_1 : decode b_M_within 1 = .ok (.iload_n 1, 1) := by decide +kernel
theorem d_M_within_2 : decode b_M_within 2 = .ok (.if_icmp .lt 12, 3) := by decide +kernel
theorem d_M_within_5 : decode b_M_within 5 = .ok (.iload_n 0, 1) := by decide +kernel
theorem d_M_within_6 : decode b_M_within 6 = .ok (.iload_n 2, 1) := by decide +kernel
theorem d_M_within_7 : decode b_M_within 7 = .ok (.if_icmp .gt 7, 3) := by decide +kernel
theorem d_M_within_10 : decode b_M_within 10 = .ok (.iconst 1, 1) := by decide +kernel
theorem d_M_within_11 : decode b_M_within 11 = .ok (.goto 4, 3) := by decide +kernel
theorem d_M_within_14 : decode b_M_within 14 = .ok (.iconst 0, 1) := by decide +kernel
theorem d_M_within_15 : decode b_M_within 15 = .ok (.ireturn, 1) := by decide +kernel
theorem d_M_isException_0 : decode b_M_isException 0 = .ok (.iload_n 0, 1) := by decide +kernel
theorem d_M_isException_1 : decode b_M_isException 1 = .ok (.iconst 1, 1) := by decide +kernel
theorem d_M_isException_2 : decode b_M_isException 2 = .ok (.bipush 15, 2) := by decide +kernel
theorem d_M_isException_4 : decode b_M_isException 4 = .ok (.invokestatic 83, 3) := by decide +kernel
theorem d_M_isException_7 : decode b_M_isException 7 = .ok (.ireturn, 1) := by decide +kernel
theorem d_M_fits_0 : decode b_M_fits 0 = .ok (.iload_n 0, 1) := by decide +kernel
theorem d_M_fits_1 : decode b_M_fits 1 = .ok (.ifCond .eq 14, 3) := by decide +kernel
theorem d_M_fits_4 : decode b_M_fits 4 = .ok (.iload_n 0, 1) := by decide +kernel
theorem d_M_fits_5 : decode b_M_fits 5 = .ok (.iconst 4, 1) := by decide +kernel
theorem d_M_fits_6 : decode b_M_fits 6 = .ok (.if_icmp .eq 9, 3) := by decide +kernel
theorem d_M_fits_9 : decode b_M_fits 9 = .ok (.iload_n 0, 1) := by decide +kernel
theorem d_M_fits_10 : decode b_M_fits 10 = .ok (.bipush 6, 2) := by decide +kernel
theorem d_M_fits_12 : decode b_M_fits 12 = .ok (.if_icmp .ne 8, 3) := by decide +kernel
theorem d_M_fits_15 : decode b_M_fits 15 = .ok (.iload_n 2, 1) := by decide +kernel
theorem d_M_fits_16 : decode b_M_fits 16 = .ok (.invokestatic 87, 3) := by decide +kernel
theorem d_M_fits_19 : decode b_M_fits 19 = .ok (.ireturn, 1) := by decide +kernel
theorem d_M_fits_20 : decode b_M_fits 20 = .ok (.iload_n 0, 1) := by decide +kernel
theorem d_M_fits_21 : decode b_M_fits 21 = .ok (.iconst 5, 1) := by decide +kernel
theorem d_M_fits_22 : decode b_M_fits 22 = .ok (.if_icmp .ne 26, 3) := by decide +kernel
theorem d_M_fits_25 : decode b_M_fits 25 = .ok (.iload_n 1, 1) := by decide +kernel
theorem d_M_fits_26 : decode b_M_fits 26 = .ok (.invokestatic 87, 3) := by decide +kernel
theorem d_M_fits_29 : decode b_M_fits 29 = .ok (.ifCond .eq 17, 3) := by decide +kernel
theorem d_M_fits_32 : decode b_M_fits 32 = .ok (.iload_n 2, 1) := by decide +kernel
theorem d_M_fits_33 : decode b_M_fits 33 = .ok (.iconst 0, 1) := by decide +kernel
theorem d_M_fits_34 : decode b_M_fits 34 = .ok (.bipush 15, 2) := by decide +kernel
theorem d_M_fits_36 : decode b_M_fits 36 = .ok (.invokestatic 83, 3) := by decide +kernel
theorem d_M_fits_39 : decode b_M_fits 39 = .ok (.ifCond .eq 7, 3) := by decide +kernel
theorem d_M_fits_42 : decode b_M_fits 42 = .ok (.iconst 1, 1) := by decide +kernel
theorem d_M_fits_43 : decode b_M_fits 43 = .ok (.goto 4, 3) := by decide +kernel
theorem d_M_fits_46 : decode b_M_fits 46 = .ok (.iconst 0, 1) := by decide +kernel
theorem d_M_fits_47 : decode b_M_fits 47 = .ok (.ireturn, 1) := by decide +kernel
theorem d_M_fits_48 : decode b_M_fits 48 = .ok (.iload_n 0, 1) := by decide +kernel
theorem d_M_fits_49 : decode b_M_fits 49 = .ok (.bipush 7, 2) := by decide +kernel
theorem d_M_fits_51 : decode b_M_fits 51 = .ok (.if_icmp .ne 10, 3) := by decide +kernel
theorem d_M_fits_54 : decode b_M_fits 54 = .ok (.iload_n 1, 1) := by decide +kernel
theorem d_M_fits_55 : decode b_M_fits 55 = .ok (.invokestatic 87, 3) := by decide +kernel
theorem d_M_fits_58 : decode b_M_fits 58 = .ok (.ifCond .eq 7, 3) := by decide +kernel
theorem d_M_fits_61 : decode b_M_fits 61 = .ok (.iconst 1, 1) := by decide +kernel
theorem d_M_fits_62 : decode b_M_fits 62 = .ok (.goto 4, 3) := by decide +kernel
theorem d_M_fits_65 : decode b_M_fits 65 = .ok (.iconst 0, 1) := by decide +kernel
theorem d_M_fits_66 : decode b_M_fits 66 = .ok (.ireturn, 1) := by decide +kernel
theorem d_M_advise_0 : decode b_M_advise 0 = .ok (.aload_n 0, 1) := by decide +kernel
theorem d_M_advise_1 : decode b_M_advise 1 = .ok (.getfield 91, 3) := by decide +kernel
theorem d_M_advise_4 : decode b_M_advise 4 = .ok (.ifCond .ne 43, 3) := by decide +kernel
theorem d_M_advise_7 : decode b_M_advise 7 = .ok (.aload_n 0, 1) := by decide +kernel
theorem d_M_advise_8 : decode b_M_advise 8 = .ok (.getfield 95, 3) := by decide +kernel
theorem d_M_advise_11 : decode b_M_advise 11 = .ok (.bipush 6, 2) := by decide +kernel
theorem d_M_advise_13 : decode b_M_advise 13 = .ok (.if_icmp .eq 34, 3) := by decide +kernel
theorem d_M_advise_16 : decode b_M_advise 16 = .ok (.iload_n 1, 1) := by decide +kernel
theorem d_M_advise_17 : decode b_M_advise 17 = .ok (.iconst 0, 1) := by decide +kernel
theorem d_M_advise_18 : decode b_M_advise 18 = .ok (.bipush 7, 2) := by decide +kernel
theorem d_M_advise_20 : decode b_M_advise 20 = .ok (.invokestatic 83, 3) := by decide +kernel
theorem d_M_advise_23 : decode b_M_advise 23 = .ok (.ifCond .eq 24, 3) := by decide +kernel
theorem d_M_advise_26 : decode b_M_advise 26 = .ok (.iload_n 3, 1) := by decide +kernel
theorem d_M_advise_27 : decode b_M_advise 27 = .ok (.iconst 1, 1) := by decide +kernel
theorem d_M_advise_28 : decode b_M_advise 28 = .ok (.bipush 63, 2) := by decide +kernel
theorem d_M_advise_30 : decode b_M_advise 30 = .ok (.invokestatic 83, 3) := by decide +kernel
theorem d_M_advise_33 : decode b_M_advise 33 = .ok (.ifCond .eq 14, 3) := by decide +kernel
theorem d_M_advise_36 : decode b_M_advise 36 = .ok (.iload_n 1, 1) := by decide +kernel
theorem d_M_advise_37 : decode b_M_advise 37 = .ok (.iload 4, 2) := by decide +kernel
theorem d_M_advise_39 : decode b_M_advise 39 = .ok (.iload 5, 2) := by decide +kernel
theorem d_M_advise_41 : decode b_M_advise 41 = .ok (.invokestatic 99, 3) := by decide +kernel
theorem d_M_advise_44 : decode b_M_advise 44 = .ok (.ifCond .ne 5, 3) := by decide +kernel
theorem d_M_advise_47 : decode b_M_advise 47 = .ok (.iconst (-1), 1) := by decide +kernel
theorem d_M_advise_48 : decode b_M_advise 48 = .ok (.ireturn, 1) := by decide +kernel
theorem d_M_advise_49 : decode b_M_advise 49 = .ok (.aload_n 0, 1) := by decide +kernel
theorem d_M_advise_50 : decode b_M_advise 50 = .ok (.getfield 7, 3) := by decide +kernel
theorem d_M_advise_53 : decode b_M_advise 53 = .ok (.aload_n 0, 1) := by decide +kernel
theorem d_M_advise_54 : decode b_M_advise 54 = .ok (.getfield 95, 3) := by decide +kernel
theorem d_M_advise_57 : decode b_M_advise 57 = .ok (.aload_n 0, 1) := by decide +kernel
theorem d_M_advise_58 : decode b_M_advise 58 = .ok (.getfield 102, 3) := by decide +kernel
theorem d_M_advise_61 : decode b_M_advise 61 = .ok (.iastore, 1) := by decide +kernel
theorem d_M_advise_62 : decode b_M_advise 62 = .ok (.aload_n 0, 1) := by decide +kernel
theorem d_M_advise_63 : decode b_M_advise 63 = .ok (.getfield 13, 3) := by decide +kernel
theorem d_M_advise_66 : decode b_M_advise 66 = .ok (.aload_n 0, 1) := by decide +kernel
theorem d_M_advise_67 : decode b_M_advise 67 = .ok (.getfield 95, 3) := by decide +kernel
theorem d_M_advise_70 : decode b_M_advise 70 = .ok (.iload_n 1, 1) := by decide +kernel
theorem d_M_advise_71 : decode b_M_advise 71 = .ok (.iastore, 1) := by decide +kernel
theorem d_M_advise_72 : decode b_M_advise 72 = .ok (.aload_n 0, 1) := by decide +kernel
theorem d_M_advise_73 : decode b_M_advise 73 = .ok (.getfield 16, 3) := by decide +kernel
theorem d_M_advise_76 : decode b_M_advise 76 = .ok (.aload_n 0, 1) := by decide +kernel
theorem d_M_advise_77 : decode b_M_advise 77 = .ok (.getfield 95, 3) := by decide +kernel
theorem d_M_advise_80 : decode b_M_advise 80 = .ok (.iload_n 2, 1) := by decide +kernel
theorem d_M_advise_81 : decode b_M_advise 81 = .ok (.iastore, 1) := by decide +kernel
theorem d_M_advise_82 : decode b_M_advise 82 = .ok (.aload_n 0, 1) := by decide +kernel
theorem d_M_advise_83 : decode b_M_advise 83 = .ok (.getfield 19, 3) := by decide +kernel
theorem d_M_advise_86 : decode b_M_advise 86 = .ok (.aload_n 0, 1) := by decide +kernel
theorem d_M_advise_87 : decode b_M_advise 87 = .ok (.getfield 95, 3) := by decide +kernel
theorem d_M_advise_90 : decode b_M_advise 90 = .ok (.iload_n 3, 1) := by decide +kernel
theorem d_M_advise_91 : decode b_M_advise 91 = .ok (.iastore, 1) := by decide +kernel
theorem d_M_advise_92 : decode b_M_advise 92 = .ok (.aload_n 0, 1) := by decide +kernel
theorem d_M_advise_93 : decode b_M_advise 93 = .ok (.getfield 22, 3) := by decide +kernel
theorem d_M_advise_96 : decode b_M_advise 96 = .ok (.aload_n 0, 1) := by decide +kernel
theorem d_M_advise_97 : decode b_M_advise 97 = .ok (.getfield 95, 3) := by decide +kernel
theorem d_M_advise_100 : decode b_M_advise 100 = .ok (.iload 4, 2) := by decide +kernel
theorem d_M_advise_102 : decode b_M_advise 102 = .ok (.iastore, 1) := by decide +kernel
theorem d_M_advise_103 : decode b_M_advise 103 = .ok (.aload_n 0, 1) := by decide +kernel
theorem d_M_advise_104 : decode b_M_advise 104 = .ok (.getfield 25, 3) := by decide +kernel
theorem d_M_advise_107 : decode b_M_advise 107 = .ok (.aload_n 0, 1) := by decide +kernel
theorem d_M_advise_108 : decode b_M_advise 108 = .ok (.getfield 95, 3) := by decide +kernel
theorem d_M_advise_111 : decode b_M_advise 111 = .ok (.iload 5, 2) := by decide +kernel
theorem d_M_advise_113 : decode b_M_advise 113 = .ok (.iastore, 1) := by decide +kernel
theorem d_M_advise_114 : decode b_M_advise 114 = .ok (.aload_n 0, 1) := by decide +kernel
theorem d_M_advise_115 : decode b_M_advise 115 = .ok (.getfield 28, 3) := by decide +kernel
theorem d_M_advise_118 : decode b_M_advise 118 = .ok (.aload_n 0, 1) := by decide +kernel
theorem d_M_advise_119 : decode b_M_advise 119 = .ok (.getfield 95, 3) := by decide +kernel
theorem d_M_advise_122 : decode b_M_advise 122 = .ok (.iconst 0, 1) := by decide +kernel
theorem d_M_advise_123 : decode b_M_advise 123 = .ok (.bastore, 1) := by decide +kernel
theorem d_M_advise_124 : decode b_M_advise 124 = .ok (.aload_n 0, 1) := by decide +kernel
theorem d_M_advise_125 : decode b_M_advise 125 = .ok (.dup, 1) := by decide +kernel
theorem d_M_advise_126 : decode b_M_advise 126 = .ok (.getfield 95, 3) := by decide +kernel
theorem d_M_advise_129 : decode b_M_advise 129 = .ok (.iconst 1, 1) := by decide +kernel
theorem d_M_advise_130 : decode b_M_advise 130 = .ok (.iadd, 1) := by decide +kernel
theorem d_M_advise_131 : decode b_M_advise 131 = .ok (.putfield 95, 3) := by decide +kernel
theorem d_M_advise_134 : decode b_M_advise 134 = .ok (.aload_n 0, 1) := by decide +kernel
theorem d_M_advise_135 : decode b_M_advise 135 = .ok (.dup, 1) := by decide +kernel
theorem d_M_advise_136 : decode b_M_advise 136 = .ok (.getfield 102, 3) := by decide +kernel
theorem d_M_advise_139 : decode b_M_advise 139 = .ok (.iconst 1, 1) := by decide +kernel
theorem d_M_advise_140 : decode b_M_advise 140 = .ok (.iadd, 1) := by decide +kernel
theorem d_M_advise_141 : decode b_M_advise 141 = .ok (.putfield 102, 3) := by decide +kernel
theorem d_M_advise_144 : decode b_M_advise 144 = .ok (.aload_n 0, 1) := by decide +kernel
theorem d_M_advise_145 : decode b_M_advise 145 = .ok (.getfield 102, 3) := by decide +kernel
theorem d_M_advise_148 : decode b_M_advise 148 = .ok (.iconst 1, 1) := by decide +kernel
theorem d_M_advise_149 : decode b_M_advise 149 = .ok (.isub, 1) := by decide +kernel
theorem d_M_advise_150 : decode b_M_advise 150 = .ok (.ireturn, 1) := by decide +kernel
theorem d_M_find_0 : decode b_M_find 0 = .ok (.iconst (-1), 1) := by decide +kernel
theorem d_M_find_1 : decode b_M_find 1 = .ok (.istore_n 2, 1) := by decide +kernel
theorem d_M_find_2 : decode b_M_find 2 = .ok (.iconst 0, 1) := by decide +kernel
theorem d_M_find_3 : decode b_M_find 3 = .ok (.istore_n 3, 1) := by decide +kernel
theorem d_M_find_4 : decode b_M_find 4 = .ok (.iload_n 3, 1) := by decide +kernel
theorem d_M_find_5 : decode b_M_find 5 = .ok (.aload_n 0, 1) := by decide +kernel
theorem d_M_find_6 : decode b_M_find 6 = .ok (.getfield 95, 3) := by decide +kernel
theorem d_M_find_9 : decode b_M_find 9 = .ok (.if_icmp .ge 25, 3) := by decide +kernel
theorem d_M_find_12 : decode b_M_find 12 = .ok (.aload_n 0, 1) := by decide +kernel
theorem d_M_find_13 : decode b_M_find 13 = .ok (.getfield 7, 3) := by decide +kernel
theorem d_M_find_16 : decode b_M_find 16 = .ok (.iload_n 3, 1) := by decide +kernel
theorem d_M_find_17 : decode b_M_find 17 = .ok (.iaload, 1) := by decide +kernel
theorem d_M_find_18 : decode b_M_find 18 = .ok (.iload_n 1, 1) := by decide +kernel
theorem d_M_find_19 : decode b_M_find 19 = .ok (.if_icmp .ne 7, 3) := by decide +kernel
theorem d_M_find_22 : decode b_M_find 22 = .ok (.iload_n 3, 1) := by decide +kernel
theorem d_M_find_23 : decode b_M_find 23 = .ok (.goto 4, 3) := by decide +kernel
theorem d_M_find_26 : decode b_M_find 26 = .ok (.iload_n 2, 1) := by decide +kernel
theorem d_M_find_27 : decode b_M_find 27 = .ok (.istore_n 2, 1) := by decide +kernel
theorem d_M_find_28 : decode b_M_find 28 = .ok (.iinc 3 1, 3) := by decide +kernel
theorem d_M_find_31 : decode b_M_find 31 = .ok (.goto (-27), 3) := by decide +kernel
theorem d_M_find_34 : decode b_M_find 34 = .ok (.iload_n 2, 1) := by decide +kernel
theorem d_M_find_35 : decode b_M_find 35 = .ok (.ireturn, 1) := by decide +kernel
theorem d_M_when_0 : decode b_M_when 0 = .ok (.aload_n 0, 1) := by decide +kernel
theorem d_M_when_1 : decode b_M_when 1 = .ok (.iload_n 1, 1) := by decide +kernel
theorem d_M_when_2 : decode b_M_when 2 = .ok (.invokevirtual 105, 3) := by decide +kernel
theorem d_M_when_5 : decode b_M_when 5 = .ok (.istore 4, 2) := by decide +kernel
theorem d_M_when_7 : decode b_M_when 7 = .ok (.aload_n 0, 1) := by decide +kernel
theorem d_M_when_8 : decode b_M_when 8 = .ok (.getfield 91, 3) := by decide +kernel
theorem d_M_when_11 : decode b_M_when 11 = .ok (.ifCond .ne 13, 3) := by decide +kernel
theorem d_M_when_14 : decode b_M_when 14 = .ok (.iload 4, 2) := by decide +kernel
theorem d_M_when_16 : decode b_M_when 16 = .ok (.ifCond .lt 8, 3) := by decide +kernel
theorem d_M_when_19 : decode b_M_when 19 = .ok (.iload_n 2, 1) := by decide +kernel
theorem d_M_when_20 : decode b_M_when 20 = .ok (.iload_n 3, 1) := by decide +kernel
theorem d_M_when_21 : decode b_M_when 21 = .ok (.if_icmp .le 5, 3) := by decide +kernel
theorem d_M_when_24 : decode b_M_when 24 = .ok (.iconst 0, 1) := by decide +kernel
theorem d_M_when_25 : decode b_M_when 25 = .ok (.ireturn, 1) := by decide +kernel
theorem d_M_when_26 : decode b_M_when 26 = .ok (.aload_n 0, 1) := by decide +kernel
theorem d_M_when_27 : decode b_M_when 27 = .ok (.getfield 28, 3) := by decide +kernel
theorem d_M_when_30 : decode b_M_when 30 = .ok (.iload 4, 2) := by decide +kernel
theorem d_M_when_32 : decode b_M_when 32 = .ok (.iconst 1, 1) := by decide +kernel
theorem d_M_when_33 : decode b_M_when 33 = .ok (.bastore, 1) := by decide +kernel
theorem d_M_when_34 : decode b_M_when 34 = .ok (.aload_n 0, 1) := by decide +kernel
theorem d_M_when_35 : decode b_M_when 35 = .ok (.getfield 32, 3) := by decide +kernel
theorem d_M_when_38 : decode b_M_when 38 = .ok (.iload 4, 2) := by decide +kernel
theorem d_M_when_40 : decode b_M_when 40 = .ok (.iload_n 2, 1) := by decide +kernel
theorem d_M_when_41 : decode b_M_when 41 = .ok (.iastore, 1) := by decide +kernel
theorem d_M_when_42 : decode b_M_when 42 = .ok (.aload_n 0, 1) := by decide +kernel
theorem d_M_when_43 : decode b_M_when 43 = .ok (.getfield 35, 3) := by decide +kernel
theorem d_M_when_46 : decode b_M_when 46 = .ok (.iload 4, 2) := by decide +kernel
theorem d_M_when_48 : decode b_M_when 48 = .ok (.iload_n 3, 1) := by decide +kernel
theorem d_M_when_49 : decode b_M_when 49 = .ok (.iastore, 1) := by decide +kernel
theorem d_M_when_50 : decode b_M_when 50 = .ok (.iconst 1, 1) := by decide +kernel
theorem d_M_when_51 : decode b_M_when 51 = .ok (.ireturn, 1) := by decide +kernel
theorem d_M_reorder_0 : decode b_M_reorder 0 = .ok (.aload_n 0, 1) := by decide +kernel
theorem d_M_reorder_1 : decode b_M_reorder 1 = .ok (.iload_n 1, 1) := by decide +kernel
theorem d_M_reorder_2 : decode b_M_reorder 2 = .ok (.invokevirtual 105, 3) := by decide +kernel
theorem d_M_reorder_5 : decode b_M_reorder 5 = .ok (.istore_n 3, 1) := by decide +kernel
theorem d_M_reorder_6 : decode b_M_reorder 6 = .ok (.aload_n 0, 1) := by decide +kernel
theorem d_M_reorder_7 : decode b_M_reorder 7 = .ok (.getfield 91, 3) := by decide +kernel
theorem d_M_reorder_10 : decode b_M_reorder 10 = .ok (.ifCond .ne 7, 3) := by decide +kernel
theorem d_M_reorder_13 : decode b_M_reorder 13 = .ok (.iload_n 3, 1) := by decide +kernel
theorem d_M_reorder_14 : decode b_M_reorder 14 = .ok (.ifCond .ge 5, 3) := by decide +kernel
theorem d_M_reorder_17 : decode b_M_reorder 17 = .ok (.iconst 0, 1) := by decide +kernel
theorem d_M_reorder_18 : decode b_M_reorder 18 = .ok (.ireturn, 1) := by decide +kernel
theorem d_M_reorder_19 : decode b_M_reorder 19 = .ok (.aload_n 0, 1) := by decide +kernel
theorem d_M_reorder_20 : decode b_M_reorder 20 = .ok (.getfield 16, 3) := by decide +kernel
theorem d_M_reorder_23 : decode b_M_reorder 23 = .ok (.iload_n 3, 1) := by decide +kernel
theorem d_M_reorder_24 : decode b_M_reorder 24 = .ok (.iload_n 2, 1) := by decide +kernel
theorem d_M_reorder_25 : decode b_M_reorder 25 = .ok (.iastore, 1) := by decide +kernel
theorem d_M_reorder_26 : decode b_M_reorder 26 = .ok (.iconst 1, 1) := by decide +kernel
theorem d_M_reorder_27 : decode b_M_reorder 27 = .ok (.ireturn, 1) := by decide +kernel
theorem d_M_remove_0 : decode b_M_remove 0 = .ok (.aload_n 0, 1) := by decide +kernel
theorem d_M_remove_1 : decode b_M_remove 1 = .ok (.iload_n 1, 1) := by decide +kernel
theorem d_M_remove_2 : decode b_M_remove 2 = .ok (.invokevirtual 105, 3) := by decide +kernel
theorem d_M_remove_5 : decode b_M_remove 5 = .ok (.istore_n 2, 1) := by decide +kernel
theorem d_M_remove_6 : decode b_M_remove 6 = .ok (.aload_n 0, 1) := by decide +kernel
theorem d_M_remove_7 : decode b_M_remove 7 = .ok (.getfield 91, 3) := by decide +kernel
theorem d_M_remove_10 : decode b_M_remove 10 = .ok (.ifCond .ne 7, 3) := by decide +kernel
theorem d_M_remove_13 : decode b_M_remove 13 = .ok (.iload_n 2, 1) := by decide +kernel
theorem d_M_remove_14 : decode b_M_remove 14 = .ok (.ifCond .ge 5, 3) := by decide +kernel
theorem d_M_remove_17 : decode b_M_remove 17 = .ok (.iconst 0, 1) := by decide +kernel
theorem d_M_remove_18 : decode b_M_remove 18 = .ok (.ireturn, 1) := by decide +kernel
theorem d_M_remove_19 : decode b_M_remove 19 = .ok (.aload_n 0, 1) := by decide +kernel
theorem d_M_remove_20 : decode b_M_remove 20 = .ok (.dup, 1) := by decide +kernel
theorem d_M_remove_21 : decode b_M_remove 21 = .ok (.getfield 95, 3) := by decide +kernel
theorem d_M_remove_24 : decode b_M_remove 24 = .ok (.iconst 1, 1) := by decide +kernel
theorem d_M_remove_25 : decode b_M_remove 25 = .ok (.isub, 1) := by decide +kernel
theorem d_M_remove_26 : decode b_M_remove 26 = .ok (.putfield 95, 3) := by decide +kernel
theorem d_M_remove_29 : decode b_M_remove 29 = .ok (.iload_n 2, 1) := by decide +kernel
theorem d_M_remove_30 : decode b_M_remove 30 = .ok (.istore_n 3, 1) := by decide +kernel
theorem d_M_remove_31 : decode b_M_remove 31 = .ok (.iload_n 3, 1) := by decide +kernel
theorem d_M_remove_32 : decode b_M_remove 32 = .ok (.aload_n 0, 1) := by decide +kernel
theorem d_M_remove_33 : decode b_M_remove 33 = .ok (.getfield 95, 3) := by decide +kernel
theorem d_M_remove_36 : decode b_M_remove 36 = .ok (.if_icmp .ge 135, 3) := by decide +kernel
theorem d_M_remove_39 : decode b_M_remove 39 = .ok (.aload_n 0, 1) := by decide +kernel
theorem d_M_remove_40 : decode b_M_remove 40 = .ok (.getfield 7, 3) := by decide +kernel
theorem d_M_remove_43 : decode b_M_remove 43 = .ok (.iload_n 3, 1) := by decide +kernel
theorem d_M_remove_44 : decode b_M_remove 44 = .ok (.aload_n 0, 1) := by decide +kernel
theorem d_M_remove_45 : decode b_M_remove 45 = .ok (.getfield 7, 3) := by decide +kernel
theorem d_M_remove_48 : decode b_M_remove 48 = .ok (.iload_n 3, 1) := by decide +kernel
theorem d_M_remove_49 : decode b_M_remove 49 = .ok (.iconst 1, 1) := by decide +kernel
theorem d_M_remove_50 : decode b_M_remove 50 = .ok (.iadd, 1) := by decide +kernel
theorem d_M_remove_51 : decode b_M_remove 51 = .ok (.iaload, 1) := by decide +kernel
theorem d_M_remove_52 : decode b_M_remove 52 = .ok (.iastore, 1) := by decide +kernel
theorem d_M_remove_53 : decode b_M_remove 53 = .ok (.aload_n 0, 1) := by decide +kernel
theorem d_M_remove_54 : decode b_M_remove 54 = .ok (.getfield 13, 3) := by decide +kernel
theorem d_M_remove_57 : decode b_M_remove 57 = .ok (.iload_n 3, 1) := by decide +kernel
theorem d_M_remove_58 : decode b_M_remove 58 = .ok (.aload_n 0, 1) := by decide +kernel
theorem d_M_remove_59 : decode b_M_remove 59 = .ok (.getfield 13, 3) := by decide +kernel
theorem d_M_remove_62 : decode b_M_remove 62 = .ok (.iload_n 3, 1) := by decide +kernel
theorem d_M_remove_63 : decode b_M_remove 63 = .ok (.iconst 1, 1) := by decide +kernel
theorem d_M_remove_64 : decode b_M_remove 64 = .ok (.iadd, 1) := by decide +kernel
theorem d_M_remove_65 : decode b_M_remove 65 = .ok (.iaload, 1) := by decide +kernel
theorem d_M_remove_66 : decode b_M_remove 66 = .ok (.iastore, 1) := by decide +kernel
theorem d_M_remove_67 : decode b_M_remove 67 = .ok (.aload_n 0, 1) := by decide +kernel
theorem d_M_remove_68 : decode b_M_remove 68 = .ok (.getfield 16, 3) := by decide +kernel
theorem d_M_remove_71 : decode b_M_remove 71 = .ok (.iload_n 3, 1) := by decide +kernel
theorem d_M_remove_72 : decode b_M_remove 72 = .ok (.aload_n 0, 1) := by decide +kernel
theorem d_M_remove_73 : decode b_M_remove 73 = .ok (.getfield 16, 3) := by decide +kernel
theorem d_M_remove_76 : decode b_M_remove 76 = .ok (.iload_n 3, 1) := by decide +kernel
theorem d_M_remove_77 : decode b_M_remove 77 = .ok (.iconst 1, 1) := by decide +kernel
theorem d_M_remove_78 : decode b_M_remove 78 = .ok (.iadd, 1) := by decide +kernel
theorem d_M_remove_79 : decode b_M_remove 79 = .ok (.iaload, 1) := by decide +kernel
theorem d_M_remove_80 : decode b_M_remove 80 = .ok (.iastore, 1) := by decide +kernel
theorem d_M_remove_81 : decode b_M_remove 81 = .ok (.aload_n 0, 1) := by decide +kernel
theorem d_M_remove_82 : decode b_M_remove 82 = .ok (.getfield 19, 3) := by decide +kernel
theorem d_M_remove_85 : decode b_M_remove 85 = .ok (.iload_n 3, 1) := by decide +kernel
theorem d_M_remove_86 : decode b_M_remove 86 = .ok (.aload_n 0, 1) := by decide +kernel
theorem d_M_remove_87 : decode b_M_remove 87 = .ok (.getfield 19, 3) := by decide +kernel
theorem d_M_remove_90 : decode b_M_remove 90 = .ok (.iload_n 3, 1) := by decide +kernel
theorem d_M_remove_91 : decode b_M_remove 91 = .ok (.iconst 1, 1) := by decide +kernel
theorem d_M_remove_92 : decode b_M_remove 92 = .ok (.iadd, 1) := by decide +kernel
theorem d_M_remove_93 : decode b_M_remove 93 = .ok (.iaload, 1) := by decide +kernel
theorem d_M_remove_94 : decode b_M_remove 94 = .ok (.iastore, 1) := by decide +kernel
theorem d_M_remove_95 : decode b_M_remove 95 = .ok (.aload_n 0, 1) := by decide +kernel
theorem d_M_remove_96 : decode b_M_remove 96 = .ok (.getfield 22, 3) := by decide +kernel
theorem d_M_remove_99 : decode b_M_remove 99 = .ok (.iload_n 3, 1) := by decide +kernel
theorem d_M_remove_100 : decode b_M_remove 100 = .ok (.aload_n 0, 1) := by decide +kernel
theorem d_M_remove_101 : decode b_M_remove 101 = .ok (.getfield 22, 3) := by decide +kernel
theorem d_M_remove_104 : decode b_M_remove 104 = .ok (.iload_n 3, 1) := by decide +kernel
theorem d_M_remove_105 : decode b_M_remove 105 = .ok (.iconst 1, 1) := by decide +kernel
theorem d_M_remove_106 : decode b_M_remove 106 = .ok (.iadd, 1) := by decide +kernel
theorem d_M_remove_107 : decode b_M_remove 107 = .ok (.iaload, 1) := by decide +kernel
theorem d_M_remove_108 : decode b_M_remove 108 = .ok (.iastore, 1) := by decide +kernel
theorem d_M_remove_109 : decode b_M_remove 109 = .ok (.aload_n 0, 1) := by decide +kernel
theorem d_M_remove_110 : decode b_M_remove 110 = .ok (.getfield 25, 3) := by decide +kernel
theorem d_M_remove_113 : decode b_M_remove 113 = .ok (.iload_n 3, 1) := by decide +kernel
theorem d_M_remove_114 : decode b_M_remove 114 = .ok (.aload_n 0, 1) := by decide +kernel
theorem d_M_remove_115 : decode b_M_remove 115 = .ok (.getfield 25, 3) := by decide +kernel
theorem d_M_remove_118 : decode b_M_remove 118 = .ok (.iload_n 3, 1) := by decide +kernel
theorem d_M_remove_119 : decode b_M_remove 119 = .ok (.iconst 1, 1) := by decide +kernel
theorem d_M_remove_120 : decode b_M_remove 120 = .ok (.iadd, 1) := by decide +kernel
theorem d_M_remove_121 : decode b_M_remove 121 = .ok (.iaload, 1) := by decide +kernel
theorem d_M_remove_122 : decode b_M_remove 122 = .ok (.iastore, 1) := by decide +kernel
theorem d_M_remove_123 : decode b_M_remove 123 = .ok (.aload_n 0, 1) := by decide +kernel
theorem d_M_remove_124 : decode b_M_remove 124 = .ok (.getfield 28, 3) := by decide +kernel
theorem d_M_remove_127 : decode b_M_remove 127 = .ok (.iload_n 3, 1) := by decide +kernel
theorem d_M_remove_128 : decode b_M_remove 128 = .ok (.aload_n 0, 1) := by decide +kernel
theorem d_M_remove_129 : decode b_M_remove 129 = .ok (.getfield 28, 3) := by decide +kernel
theorem d_M_remove_132 : decode b_M_remove 132 = .ok (.iload_n 3, 1) := by decide +kernel
theorem d_M_remove_133 : decode b_M_remove 133 = .ok (.iconst 1, 1) := by decide +kernel
theorem d_M_remove_134 : decode b_M_remove 134 = .ok (.iadd, 1) := by decide +kernel
theorem d_M_remove_135 : decode b_M_remove 135 = .ok (.baload, 1) := by decide +kernel
theorem d_M_remove_136 : decode b_M_remove 136 = .ok (.bastore, 1) := by decide +kernel
theorem d_M_remove_137 : decode b_M_remove 137 = .ok (.aload_n 0, 1) := by decide +kernel
theorem d_M_remove_138 : decode b_M_remove 138 = .ok (.getfield 32, 3) := by decide +kernel
theorem d_M_remove_141 : decode b_M_remove 141 = .ok (.iload_n 3, 1) := by decide +kernel
theorem d_M_remove_142 : decode b_M_remove 142 = .ok (.aload_n 0, 1) := by decide +kernel
theorem d_M_remove_143 : decode b_M_remove 143 = .ok (.getfield 32, 3) := by decide +kernel
theorem d_M_remove_146 : decode b_M_remove 146 = .ok (.iload_n 3, 1) := by decide +kernel
theorem d_M_remove_147 : decode b_M_remove 147 = .ok (.iconst 1, 1) := by decide +kernel
theorem d_M_remove_148 : decode b_M_remove 148 = .ok (.iadd, 1) := by decide +kernel
theorem d_M_remove_149 : decode b_M_remove 149 = .ok (.iaload, 1) := by decide +kernel
theorem d_M_remove_150 : decode b_M_remove 150 = .ok (.iastore, 1) := by decide +kernel
theorem d_M_remove_151 : decode b_M_remove 151 = .ok (.aload_n 0, 1) := by decide +kernel
theorem d_M_remove_152 : decode b_M_remove 152 = .ok (.getfield 35, 3) := by decide +kernel
theorem d_M_remove_155 : decode b_M_remove 155 = .ok (.iload_n 3, 1) := by decide +kernel
theorem d_M_remove_156 : decode b_M_remove 156 = .ok (.aload_n 0, 1) := by decide +kernel
theorem d_M_remove_157 : decode b_M_remove 157 = .ok (.getfield 35, 3) := by decide +kernel
theorem d_M_remove_160 : decode b_M_remove 160 = .ok (.iload_n 3, 1) := by decide +kernel
theorem d_M_remove_161 : decode b_M_remove 161 = .ok (.iconst 1, 1) := by decide +kernel
theorem d_M_remove_162 : decode b_M_remove 162 = .ok (.iadd, 1) := by decide +kernel
theorem d_M_remove_163 : decode b_M_remove 163 = .ok (.iaload, 1) := by decide +kernel
theorem d_M_remove_164 : decode b_M_remove 164 = .ok (.iastore, 1) := by decide +kernel
theorem d_M_remove_165 : decode b_M_remove 165 = .ok (.iinc 3 1, 3) := by decide +kernel
theorem d_M_remove_168 : decode b_M_remove 168 = .ok (.goto (-137), 3) := by decide +kernel
theorem d_M_remove_171 : decode b_M_remove 171 = .ok (.iconst 1, 1) := by decide +kernel
theorem d_M_remove_172 : decode b_M_remove 172 = .ok (.ireturn, 1) := by decide +kernel
theorem d_M_freeze_0 : decode b_M_freeze 0 = .ok (.aload_n 0, 1) := by decide +kernel
theorem d_M_freeze_1 : decode b_M_freeze 1 = .ok (.iload_n 1, 1) := by decide +kernel
theorem d_M_freeze_2 : decode b_M_freeze 2 = .ok (.putfield 91, 3) := by decide +kernel
theorem d_M_freeze_5 : decode b_M_freeze 5 = .ok (.return_, 1) := by decide +kernel
theorem d_M_linked_0 : decode b_M_linked 0 = .ok (.iconst 0, 1) := by decide +kernel
theorem d_M_linked_1 : decode b_M_linked 1 = .ok (.istore_n 3, 1) := by decide +kernel
theorem d_M_linked_2 : decode b_M_linked 2 = .ok (.iload_n 3, 1) := by decide +kernel
theorem d_M_linked_3 : decode b_M_linked 3 = .ok (.aload_n 0, 1) := by decide +kernel
theorem d_M_linked_4 : decode b_M_linked 4 = .ok (.getfield 95, 3) := by decide +kernel
theorem d_M_linked_7 : decode b_M_linked 7 = .ok (.if_icmp .ge 128, 3) := by decide +kernel
theorem d_M_linked_10 : decode b_M_linked 10 = .ok (.iconst 0, 1) := by decide +kernel
theorem d_M_linked_11 : decode b_M_linked 11 = .ok (.istore 4, 2) := by decide +kernel
theorem d_M_linked_13 : decode b_M_linked 13 = .ok (.iconst 0, 1) := by decide +kernel
theorem d_M_linked_14 : decode b_M_linked 14 = .ok (.istore 5, 2) := by decide +kernel
theorem d_M_linked_16 : decode b_M_linked 16 = .ok (.iload 5, 2) := by decide +kernel
theorem d_M_linked_18 : decode b_M_linked 18 = .ok (.aload_n 0, 1) := by decide +kernel
theorem d_M_linked_19 : decode b_M_linked 19 = .ok (.getfield 95, 3) := by decide +kernel
theorem d_M_linked_22 : decode b_M_linked 22 = .ok (.if_icmp .ge 85, 3) := by decide +kernel
theorem d_M_linked_25 : decode b_M_linked 25 = .ok (.aload_n 0, 1) := by decide +kernel
theorem d_M_linked_26 : decode b_M_linked 26 = .ok (.getfield 16, 3) := by decide +kernel
theorem d_M_linked_29 : decode b_M_linked 29 = .ok (.iload 5, 2) := by decide +kernel
theorem d_M_linked_31 : decode b_M_linked 31 = .ok (.iaload, 1) := by decide +kernel
theorem d_M_linked_32 : decode b_M_linked 32 = .ok (.aload_n 0, 1) := by decide +kernel
theorem d_M_linked_33 : decode b_M_linked 33 = .ok (.getfield 16, 3) := by decide +kernel
theorem d_M_linked_36 : decode b_M_linked 36 = .ok (.iload_n 3, 1) := by decide +kernel
theorem d_M_linked_37 : decode b_M_linked 37 = .ok (.iaload, 1) := by decide +kernel
theorem d_M_linked_38 : decode b_M_linked 38 = .ok (.if_icmp .lt 25, 3) := by decide +kernel
theorem d_M_linked_41 : decode b_M_linked 41 = .ok (.aload_n 0, 1) := by decide +kernel
theorem d_M_linked_42 : decode b_M_linked 42 = .ok (.getfield 16, 3) := by decide +kernel
theorem d_M_linked_45 : decode b_M_linked 45 = .ok (.iload 5, 2) := by decide +kernel
theorem d_M_linked_47 : decode b_M_linked 47 = .ok (.iaload, 1) := by decide +kernel
theorem d_M_linked_48 : decode b_M_linked 48 = .ok (.aload_n 0, 1) := by decide +kernel
theorem d_M_linked_49 : decode b_M_linked 49 = .ok (.getfield 16, 3) := by decide +kernel
theorem d_M_linked_52 : decode b_M_linked 52 = .ok (.iload_n 3, 1) := by decide +kernel
theorem d_M_linked_53 : decode b_M_linked 53 = .ok (.iaload, 1) := by decide +kernel
theorem d_M_linked_54 : decode b_M_linked 54 = .ok (.if_icmp .ne 13, 3) := by decide +kernel
theorem d_M_linked_57 : decode b_M_linked 57 = .ok (.iload 5, 2) := by decide +kernel
theorem d_M_linked_59 : decode b_M_linked 59 = .ok (.iload_n 3, 1) := by decide +kernel
theorem d_M_linked_60 : decode b_M_linked 60 = .ok (.if_icmp .ge 7, 3) := by decide +kernel
theorem d_M_linked_63 : decode b_M_linked 63 = .ok (.iconst 1, 1) := by decide +kernel
theorem d_M_linked_64 : decode b_M_linked 64 = .ok (.goto 4, 3) := by decide +kernel
theorem d_M_linked_67 : decode b_M_linked 67 = .ok (.iconst 0, 1) := by decide +kernel
theorem d_M_linked_68 : decode b_M_linked 68 = .ok (.istore 6, 2) := by decide +kernel
theorem d_M_linked_70 : decode b_M_linked 70 = .ok (.iload 6, 2) := by decide +kernel
theorem d_M_linked_72 : decode b_M_linked 72 = .ok (.ifCond .eq 25, 3) := by decide +kernel
theorem d_M_linked_75 : decode b_M_linked 75 = .ok (.aload_n 0, 1) := by decide +kernel
theorem d_M_linked_76 : decode b_M_linked 76 = .ok (.getfield 19, 3) := by decide +kernel
theorem d_M_linked_79 : decode b_M_linked 79 = .ok (.iload 5, 2) := by decide +kernel
theorem d_M_linked_81 : decode b_M_linked 81 = .ok (.iaload, 1) := by decide +kernel
theorem d_M_linked_82 : decode b_M_linked 82 = .ok (.iload_n 1, 1) := by decide +kernel
theorem d_M_linked_83 : decode b_M_linked 83 = .ok (.ishr, 1) := by decide +kernel
theorem d_M_linked_84 : decode b_M_linked 84 = .ok (.iconst 1, 1) := by decide +kernel
theorem d_M_linked_85 : decode b_M_linked 85 = .ok (.iand, 1) := by decide +kernel
theorem d_M_linked_86 : decode b_M_linked 86 = .ok (.iconst 1, 1) := by decide +kernel
theorem d_M_linked_87 : decode b_M_linked 87 = .ok (.if_icmp .ne 10, 3) := by decide +kernel
theorem d_M_linked_90 : decode b_M_linked 90 = .ok (.iload 4, 2) := by decide +kernel
theorem d_M_linked_92 : decode b_M_linked 92 = .ok (.iconst 1, 1) := by decide +kernel
theorem d_M_linked_93 : decode b_M_linked 93 = .ok (.iadd, 1) := by decide +kernel
theorem d_M_linked_94 : decode b_M_linked 94 = .ok (.goto 5, 3) := by decide +kernel
theorem d_M_linked_97 : decode b_M_linked 97 = .ok (.iload 4, 2) := by decide +kernel
theorem d_M_linked_99 : decode b_M_linked 99 = .ok (.istore 4, 2) := by decide +kernel
theorem d_M_linked_101 : decode b_M_linked 101 = .ok (.iinc 5 1, 3) := by decide +kernel
theorem d_M_linked_104 : decode b_M_linked 104 = .ok (.goto (-88), 3) := by decide +kernel
theorem d_M_linked_107 : decode b_M_linked 107 = .ok (.aload_n 0, 1) := by decide +kernel
theorem d_M_linked_108 : decode b_M_linked 108 = .ok (.getfield 19, 3) := by decide +kernel
theorem d_M_linked_111 : decode b_M_linked 111 = .ok (.iload_n 3, 1) := by decide +kernel
theorem d_M_linked_112 : decode b_M_linked 112 = .ok (.iaload, 1) := by decide +kernel
theorem d_M_linked_113 : decode b_M_linked 113 = .ok (.iload_n 1, 1) := by decide +kernel
theorem d_M_linked_114 : decode b_M_linked 114 = .ok (.ishr, 1) := by decide +kernel
theorem d_M_linked_115 : decode b_M_linked 115 = .ok (.iconst 1, 1) := by decide +kernel
theorem d_M_linked_116 : decode b_M_linked 116 = .ok (.iand, 1) := by decide +kernel
theorem d_M_linked_117 : decode b_M_linked 117 = .ok (.iconst 1, 1) := by decide +kernel
theorem d_M_linked_118 : decode b_M_linked 118 = .ok (.if_icmp .ne 11, 3) := by decide +kernel
theorem d_M_linked_121 : decode b_M_linked 121 = .ok (.iload 4, 2) := by decide +kernel
theorem d_M_linked_123 : decode b_M_linked 123 = .ok (.iload_n 2, 1) := by decide +kernel
theorem d_M_linked_124 : decode b_M_linked 124 = .ok (.if_icmp .ne 5, 3) := by decide +kernel
theorem d_M_linked_127 : decode b_M_linked 127 = .ok (.iload_n 3, 1) := by decide +kernel
theorem d_M_linked_128 : decode b_M_linked 128 = .ok (.ireturn, 1) := by decide +kernel
theorem d_M_linked_129 : decode b_M_linked 129 = .ok (.iinc 3 1, 3) := by decide +kernel
theorem d_M_linked_132 : decode b_M_linked 132 = .ok (.goto (-130), 3) := by decide +kernel
theorem d_M_linked_135 : decode b_M_linked 135 = .ok (.iconst (-1), 1) := by decide +kernel
theorem d_M_linked_136 : decode b_M_linked 136 = .ok (.ireturn, 1) := by decide +kernel
theorem d_M_chain_0 : decode b_M_chain 0 = .ok (.iload_n 1, 1) := by decide +kernel
theorem d_M_chain_1 : decode b_M_chain 1 = .ok (.iconst 0, 1) := by decide +kernel
theorem d_M_chain_2 : decode b_M_chain 2 = .ok (.iconst 5, 1) := by decide +kernel
theorem d_M_chain_3 : decode b_M_chain 3 = .ok (.invokestatic 83, 3) := by decide +kernel
theorem d_M_chain_6 : decode b_M_chain 6 = .ok (.ifCond .eq 12, 3) := by decide +kernel
theorem d_M_chain_9 : decode b_M_chain 9 = .ok (.aload_n 0, 1) := by decide +kernel
theorem d_M_chain_10 : decode b_M_chain 10 = .ok (.iload_n 1, 1) := by decide +kernel
theorem d_M_chain_11 : decode b_M_chain 11 = .ok (.iload_n 2, 1) := by decide +kernel
theorem d_M_chain_12 : decode b_M_chain 12 = .ok (.invokevirtual 109, 3) := by decide +kernel
theorem d_M_chain_15 : decode b_M_chain 15 = .ok (.goto 4, 3) := by decide +kernel
theorem d_M_chain_18 : decode b_M_chain 18 = .ok (.iconst (-1), 1) := by decide +kernel
theorem d_M_chain_19 : decode b_M_chain 19 = .ok (.istore_n 3, 1) := by decide +kernel
theorem d_M_chain_20 : decode b_M_chain 20 = .ok (.iload_n 3, 1) := by decide +kernel
theorem d_M_chain_21 : decode b_M_chain 21 = .ok (.ifCond .ge 7, 3) := by decide +kernel
theorem d_M_chain_24 : decode b_M_chain 24 = .ok (.iconst (-1), 1) := by decide +kernel
theorem d_M_chain_25 : decode b_M_chain 25 = .ok (.goto 9, 3) := by decide +kernel
theorem d_M_chain_28 : decode b_M_chain 28 = .ok (.aload_n 0, 1) := by decide +kernel
theorem d_M_chain_29 : decode b_M_chain 29 = .ok (.getfield 7, 3) := by decide +kernel
theorem d_M_chain_32 : decode b_M_chain 32 = .ok (.iload_n 3, 1) := by decide +kernel
theorem d_M_chain_33 : decode b_M_chain 33 = .ok (.iaload, 1) := by decide +kernel
theorem d_M_chain_34 : decode b_M_chain 34 = .ok (.ireturn, 1) := by decide +kernel
theorem d_M_isCell_0 : decode b_M_isCell 0 = .ok (.iload_n 0, 1) := by decide +kernel
theorem d_M_isCell_1 : decode b_M_isCell 1 = .ok (.iconst 0, 1) := by decide +kernel
theorem d_M_isCell_2 : decode b_M_isCell 2 = .ok (.iconst 1, 1) := by decide +kernel
theorem d_M_isCell_3 : decode b_M_isCell 3 = .ok (.invokestatic 83, 3) := by decide +kernel
theorem d_M_isCell_6 : decode b_M_isCell 6 = .ok (.ifCond .eq 16, 3) := by decide +kernel
theorem d_M_isCell_9 : decode b_M_isCell 9 = .ok (.iload_n 1, 1) := by decide +kernel
theorem d_M_isCell_10 : decode b_M_isCell 10 = .ok (.iconst 0, 1) := by decide +kernel
theorem d_M_isCell_11 : decode b_M_isCell 11 = .ok (.iconst 5, 1) := by decide +kernel
theorem d_M_isCell_12 : decode b_M_isCell 12 = .ok (.invokestatic 83, 3) := by decide +kernel
theorem d_M_isCell_15 : decode b_M_isCell 15 = .ok (.ifCond .eq 7, 3) := by decide +kernel
theorem d_M_isCell_18 : decode b_M_isCell 18 = .ok (.iconst 1, 1) := by decide +kernel
theorem d_M_isCell_19 : decode b_M_isCell 19 = .ok (.goto 4, 3) := by decide +kernel
theorem d_M_isCell_22 : decode b_M_isCell 22 = .ok (.iconst 0, 1) := by decide +kernel
theorem d_M_isCell_23 : decode b_M_isCell 23 = .ok (.ireturn, 1) := by decide +kernel
theorem d_M_plan_0 : decode b_M_plan 0 = .ok (.iload_n 1, 1) := by decide +kernel
theorem d_M_plan_1 : decode b_M_plan 1 = .ok (.iload_n 2, 1) := by decide +kernel
theorem d_M_plan_2 : decode b_M_plan 2 = .ok (.invokestatic 113, 3) := by decide +kernel
theorem d_M_plan_5 : decode b_M_plan 5 = .ok (.ifCond .ne 5, 3) := by decide +kernel
theorem d_M_plan_8 : decode b_M_plan 8 = .ok (.iconst 0, 1) := by decide +kernel
theorem d_M_plan_9 : decode b_M_plan 9 = .ok (.ireturn, 1) := by decide +kernel
theorem d_M_plan_10 : decode b_M_plan 10 = .ok (.aload_n 0, 1) := by decide +kernel
theorem d_M_plan_11 : decode b_M_plan 11 = .ok (.getfield 38, 3) := by decide +kernel
theorem d_M_plan_14 : decode b_M_plan 14 = .ok (.bipush 6, 2) := by decide +kernel
theorem d_M_plan_16 : decode b_M_plan 16 = .ok (.iload_n 1, 1) := by decide +kernel
theorem d_M_plan_17 : decode b_M_plan 17 = .ok (.imul, 1) := by decide +kernel
theorem d_M_plan_18 : decode b_M_plan 18 = .ok (.iload_n 2, 1) := by decide +kernel
theorem d_M_plan_19 : decode b_M_plan 19 = .ok (.iadd, 1) := by decide +kernel
theorem d_M_plan_20 : decode b_M_plan 20 = .ok (.iload_n 3, 1) := by decide +kernel
theorem d_M_plan_21 : decode b_M_plan 21 = .ok (.iastore, 1) := by decide +kernel
theorem d_M_plan_22 : decode b_M_plan 22 = .ok (.aload_n 0, 1) := by decide +kernel
theorem d_M_plan_23 : decode b_M_plan 23 = .ok (.getfield 41, 3) := by decide +kernel
theorem d_M_plan_26 : decode b_M_plan 26 = .ok (.bipush 6, 2) := by decide +kernel
theorem d_M_plan_28 : decode b_M_plan 28 = .ok (.iload_n 1, 1) := by decide +kernel
theorem d_M_plan_29 : decode b_M_plan 29 = .ok (.imul, 1) := by decide +kernel
theorem d_M_plan_30 : decode b_M_plan 30 = .ok (.iload_n 2, 1) := by decide +kernel
theorem d_M_plan_31 : decode b_M_plan 31 = .ok (.iadd, 1) := by decide +kernel
theorem d_M_plan_32 : decode b_M_plan 32 = .ok (.iload 4, 2) := by decide +kernel
theorem d_M_plan_34 : decode b_M_plan 34 = .ok (.iastore, 1) := by decide +kernel
theorem d_M_plan_35 : decode b_M_plan 35 = .ok (.iconst 1, 1) := by decide +kernel
theorem d_M_plan_36 : decode b_M_plan 36 = .ok (.ireturn, 1) := by decide +kernel
theorem d_M_fail_0 : decode b_M_fail 0 = .ok (.iload_n 1, 1) := by decide +kernel
theorem d_M_fail_1 : decode b_M_fail 1 = .ok (.iload_n 2, 1) := by decide +kernel
theorem d_M_fail_2 : decode b_M_fail 2 = .ok (.invokestatic 113, 3) := by decide +kernel
theorem d_M_fail_5 : decode b_M_fail 5 = .ok (.ifCond .eq 14, 3) := by decide +kernel
theorem d_M_fail_8 : decode b_M_fail 8 = .ok (.iload 4, 2) := by decide +kernel
theorem d_M_fail_10 : decode b_M_fail 10 = .ok (.iconst 0, 1) := by decide +kernel
theorem d_M_fail_11 : decode b_M_fail 11 = .ok (.bipush 15, 2) := by decide +kernel
theorem d_M_fail_13 : decode b_M_fail 13 = .ok (.invokestatic 83, 3) := by decide +kernel
theorem d_M_fail_16 : decode b_M_fail 16 = .ok (.ifCond .ne 5, 3) := by decide +kernel
theorem d_M_fail_19 : decode b_M_fail 19 = .ok (.iconst 0, 1) := by decide +kernel
theorem d_M_fail_20 : decode b_M_fail 20 = .ok (.ireturn, 1) := by decide +kernel
theorem d_M_fail_21 : decode b_M_fail 21 = .ok (.aload_n 0, 1) := by decide +kernel
theorem d_M_fail_22 : decode b_M_fail 22 = .ok (.getfield 44, 3) := by decide +kernel
theorem d_M_fail_25 : decode b_M_fail 25 = .ok (.bipush 6, 2) := by decide +kernel
theorem d_M_fail_27 : decode b_M_fail 27 = .ok (.iload_n 1, 1) := by decide +kernel
theorem d_M_fail_28 : decode b_M_fail 28 = .ok (.imul, 1) := by decide +kernel
theorem d_M_fail_29 : decode b_M_fail 29 = .ok (.iload_n 2, 1) := by decide +kernel
theorem d_M_fail_30 : decode b_M_fail 30 = .ok (.iadd, 1) := by decide +kernel
theorem d_M_fail_31 : decode b_M_fail 31 = .ok (.iload_n 3, 1) := by decide +kernel
theorem d_M_fail_32 : decode b_M_fail 32 = .ok (.iastore, 1) := by decide +kernel
theorem d_M_fail_33 : decode b_M_fail 33 = .ok (.aload_n 0, 1) := by decide +kernel
theorem d_M_fail_34 : decode b_M_fail 34 = .ok (.getfield 47, 3) := by decide +kernel
theorem d_M_fail_37 : decode b_M_fail 37 = .ok (.bipush 6, 2) := by decide +kernel
theorem d_M_fail_39 : decode b_M_fail 39 = .ok (.iload_n 1, 1) := by decide +kernel
theorem d_M_fail_40 : decode b_M_fail 40 = .ok (.imul, 1) := by decide +kernel
theorem d_M_fail_41 : decode b_M_fail 41 = .ok (.iload_n 2, 1) := by decide +kernel
theorem d_M_fail_42 : decode b_M_fail 42 = .ok (.iadd, 1) := by decide +kernel
theorem d_M_fail_43 : decode b_M_fail 43 = .ok (.iload 4, 2) := by decide +kernel
theorem d_M_fail_45 : decode b_M_fail 45 = .ok (.iastore, 1) := by decide +kernel
theorem d_M_fail_46 : decode b_M_fail 46 = .ok (.iconst 1, 1) := by decide +kernel
theorem d_M_fail_47 : decode b_M_fail 47 = .ok (.ireturn, 1) := by decide +kernel
theorem d_M_calls_0 : decode b_M_calls 0 = .ok (.iload_n 1, 1) := by decide +kernel
theorem d_M_calls_1 : decode b_M_calls 1 = .ok (.iload_n 2, 1) := by decide +kernel
theorem d_M_calls_2 : decode b_M_calls 2 = .ok (.invokestatic 113, 3) := by decide +kernel
theorem d_M_calls_5 : decode b_M_calls 5 = .ok (.ifCond .eq 12, 3) := by decide +kernel
theorem d_M_calls_8 : decode b_M_calls 8 = .ok (.iload_n 3, 1) := by decide +kernel
theorem d_M_calls_9 : decode b_M_calls 9 = .ok (.iconst (-1), 1) := by decide +kernel
theorem d_M_calls_10 : decode b_M_calls 10 = .ok (.iconst 5, 1) := by decide +kernel
theorem d_M_calls_11 : decode b_M_calls 11 = .ok (.invokestatic 83, 3) := by decide +kernel
theorem d_M_calls_14 : decode b_M_calls 14 = .ok (.ifCond .ne 5, 3) := by decide +kernel
theorem d_M_calls_17 : decode b_M_calls 17 = .ok (.iconst 0, 1) := by decide +kernel
theorem d_M_calls_18 : decode b_M_calls 18 = .ok (.ireturn, 1) := by decide +kernel
theorem d_M_calls_19 : decode b_M_calls 19 = .ok (.aload_n 0, 1) := by decide +kernel
theorem d_M_calls_20 : decode b_M_calls 20 = .ok (.getfield 50, 3) := by decide +kernel
theorem d_M_calls_23 : decode b_M_calls 23 = .ok (.bipush 6, 2) := by decide +kernel
theorem d_M_calls_25 : decode b_M_calls 25 = .ok (.iload_n 1, 1) := by decide +kernel
theorem d_M_calls_26 : decode b_M_calls 26 = .ok (.imul, 1) := by decide +kernel
theorem d_M_calls_27 : decode b_M_calls 27 = .ok (.iload_n 2, 1) := by decide +kernel
theorem d_M_calls_28 : decode b_M_calls 28 = .ok (.iadd, 1) := by decide +kernel
theorem d_M_calls_29 : decode b_M_calls 29 = .ok (.iload_n 3, 1) := by decide +kernel
theorem d_M_calls_30 : decode b_M_calls 30 = .ok (.iastore, 1) := by decide +kernel
theorem d_M_calls_31 : decode b_M_calls 31 = .ok (.iconst 1, 1) := by decide +kernel
theorem d_M_calls_32 : decode b_M_calls 32 = .ok (.ireturn, 1) := by decide +kernel
theorem d_M_source_0 : decode b_M_source 0 = .ok (.iload_n 1, 1) := by decide +kernel
theorem d_M_source_1 : decode b_M_source 1 = .ok (.iconst 0, 1) := by decide +kernel
theorem d_M_source_2 : decode b_M_source 2 = .ok (.iconst 2, 1) := by decide +kernel
theorem d_M_source_3 : decode b_M_source 3 = .ok (.invokestatic 83, 3) := by decide +kernel
theorem d_M_source_6 : decode b_M_source 6 = .ok (.ifCond .ne 5, 3) := by decide +kernel
theorem d_M_source_9 : decode b_M_source 9 = .ok (.iconst 0, 1) := by decide +kernel
theorem d_M_source_10 : decode b_M_source 10 = .ok (.ireturn, 1) := by decide +kernel
theorem d_M_source_11 : decode b_M_source 11 = .ok (.aload_n 0, 1) := by decide +kernel
theorem d_M_source_12 : decode b_M_source 12 = .ok (.iload_n 1, 1) := by decide +kernel
theorem d_M_source_13 : decode b_M_source 13 = .ok (.putfield 117, 3) := by decide +kernel
theorem d_M_source_16 : decode b_M_source 16 = .ok (.aload_n 0, 1) := by decide +kernel
theorem d_M_source_17 : decode b_M_source 17 = .ok (.iconst 0, 1) := by decide +kernel
theorem d_M_source_18 : decode b_M_source 18 = .ok (.putfield 120, 3) := by decide +kernel
theorem d_M_source_21 : decode b_M_source 21 = .ok (.iconst 1, 1) := by decide +kernel
theorem d_M_source_22 : decode b_M_source 22 = .ok (.ireturn, 1) := by decide +kernel
theorem d_M_note_0 : decode b_M_note 0 = .ok (.aload_n 0, 1) := by decide +kernel
theorem d_M_note_1 : decode b_M_note 1 = .ok (.getfield 123, 3) := by decide +kernel
theorem d_M_note_4 : decode b_M_note 4 = .ok (.bipush 100, 2) := by decide +kernel
theorem d_M_note_6 : decode b_M_note 6 = .ok (.if_icmp .ne 9, 3) := by decide +kernel
theorem d_M_note_9 : decode b_M_note 9 = .ok (.aload_n 0, 1) := by decide +kernel
theorem d_M_note_10 : decode b_M_note 10 = .ok (.iconst 1, 1) := by decide +kernel
theorem d_M_note_11 : decode b_M_note 11 = .ok (.putfield 126, 3) := by decide +kernel
theorem d_M_note_14 : decode b_M_note 14 = .ok (.return_, 1) := by decide +kernel
theorem d_M_note_15 : decode b_M_note 15 = .ok (.aload_n 0, 1) := by decide +kernel
theorem d_M_note_16 : decode b_M_note 16 = .ok (.getfield 53, 3) := by decide +kernel
theorem d_M_note_19 : decode b_M_note 19 = .ok (.aload_n 0, 1) := by decide +kernel
theorem d_M_note_20 : decode b_M_note 20 = .ok (.getfield 123, 3) := by decide +kernel
theorem d_M_note_23 : decode b_M_note 23 = .ok (.iload_n 1, 1) := by decide +kernel
theorem d_M_note_24 : decode b_M_note 24 = .ok (.iastore, 1) := by decide +kernel
theorem d_M_note_25 : decode b_M_note 25 = .ok (.aload_n 0, 1) := by decide +kernel
theorem d_M_note_26 : decode b_M_note 26 = .ok (.getfield 56, 3) := by decide +kernel
theorem d_M_note_29 : decode b_M_note 29 = .ok (.aload_n 0, 1) := by decide +kernel
theorem d_M_note_30 : decode b_M_note 30 = .ok (.getfield 123, 3) := by decide +kernel
theorem d_M_note_33 : decode b_M_note 33 = .ok (.iload_n 2, 1) := by decide +kernel
theorem d_M_note_34 : decode b_M_note 34 = .ok (.iastore, 1) := by decide +kernel
theorem d_M_note_35 : decode b_M_note 35 = .ok (.aload_n 0, 1) := by decide +kernel
theorem d_M_note_36 : decode b_M_note 36 = .ok (.dup, 1) := by decide +kernel
theorem d_M_note_37 : decode b_M_note 37 = .ok (.getfield 123, 3) := by decide +kernel
theorem d_M_note_40 : decode b_M_note 40 = .ok (.iconst 1, 1) := by decide +kernel
theorem d_M_note_41 : decode b_M_note 41 = .ok (.iadd, 1) := by decide +kernel
theorem d_M_note_42 : decode b_M_note 42 = .ok (.putfield 123, 3) := by decide +kernel
theorem d_M_note_45 : decode b_M_note 45 = .ok (.return_, 1) := by decide +kernel
theorem d_M_isOne_0 : decode b_M_isOne 0 = .ok (.iload_n 0, 1) := by decide +kernel
theorem d_M_isOne_1 : decode b_M_isOne 1 = .ok (.istore_n 2, 1) := by decide +kernel
theorem d_M_isOne_2 : decode b_M_isOne 2 = .ok (.iload_n 2, 1) := by decide +kernel
theorem d_M_isOne_3 : decode b_M_isOne 3 = .ok (.iload_n 1, 1) := by decide +kernel
theorem d_M_isOne_4 : decode b_M_isOne 4 = .ok (.if_icmp .le 10, 3) := by decide +kernel
theorem d_M_isOne_7 : decode b_M_isOne 7 = .ok (.iload_n 2, 1) := by decide +kernel
theorem d_M_isOne_8 : decode b_M_isOne 8 = .ok (.iconst 2, 1) := by decide +kernel
theorem d_M_isOne_9 : decode b_M_isOne 9 = .ok (.idiv, 1) := by decide +kernel
theorem d_M_isOne_10 : decode b_M_isOne 10 = .ok (.istore_n 2, 1) := by decide +kernel
theorem d_M_isOne_11 : decode b_M_isOne 11 = .ok (.goto (-9), 3) := by decide +kernel
theorem d_M_isOne_14 : decode b_M_isOne 14 = .ok (.iload_n 2, 1) := by decide +kernel
theorem d_M_isOne_15 : decode b_M_isOne 15 = .ok (.iload_n 1, 1) := by decide +kernel
theorem d_M_isOne_16 : decode b_M_isOne 16 = .ok (.if_icmp .ne 7, 3) := by decide +kernel
theorem d_M_isOne_19 : decode b_M_isOne 19 = .ok (.iconst 1, 1) := by decide +kernel
theorem d_M_isOne_20 : decode b_M_isOne 20 = .ok (.goto 4, 3) := by decide +kernel
theorem d_M_isOne_23 : decode b_M_isOne 23 = .ok (.iconst 0, 1) := by decide +kernel
theorem d_M_isOne_24 : decode b_M_isOne 24 = .ok (.ireturn, 1) := by decide +kernel
theorem d_M_go_0 : decode b_M_go 0 = .ok (.aload_n 0, 1) := by decide +kernel
theorem d_M_go_1 : decode b_M_go 1 = .ok (.iconst 1, 1) := by decide +kernel
theorem d_M_go_2 : decode b_M_go 2 = .ok (.putfield 129, 3) := by decide +kernel
theorem d_M_go_5 : decode b_M_go 5 = .ok (.aload_n 0, 1) := by decide +kernel
theorem d_M_go_6 : decode b_M_go 6 = .ok (.iload_n 1, 1) := by decide +kernel
theorem d_M_go_7 : decode b_M_go 7 = .ok (.putfield 132, 3) := by decide +kernel
theorem d_M_go_10 : decode b_M_go 10 = .ok (.aload_n 0, 1) := by decide +kernel
theorem d_M_go_11 : decode b_M_go 11 = .ok (.iload_n 2, 1) := by decide +kernel
theorem d_M_go_12 : decode b_M_go 12 = .ok (.putfield 135, 3) := by decide +kernel
theorem d_M_go_15 : decode b_M_go 15 = .ok (.return_, 1) := by decide +kernel
theorem d_M_comes_0 : decode b_M_comes 0 = .ok (.aload_n 0, 1) := by decide +kernel
theorem d_M_comes_1 : decode b_M_comes 1 = .ok (.iconst 0, 1) := by decide +kernel
theorem d_M_comes_2 : decode b_M_comes 2 = .ok (.putfield 129, 3) := by decide +kernel
theorem d_M_comes_5 : decode b_M_comes 5 = .ok (.aload_n 0, 1) := by decide +kernel
theorem d_M_comes_6 : decode b_M_comes 6 = .ok (.iload_n 1, 1) := by decide +kernel
theorem d_M_comes_7 : decode b_M_comes 7 = .ok (.putfield 138, 3) := by decide +kernel
theorem d_M_comes_10 : decode b_M_comes 10 = .ok (.aload_n 0, 1) := by decide +kernel
theorem d_M_comes_11 : decode b_M_comes 11 = .ok (.iload_n 2, 1) := by decide +kernel
theorem d_M_comes_12 : decode b_M_comes 12 = .ok (.putfield 141, 3) := by decide +kernel
theorem d_M_comes_15 : decode b_M_comes 15 = .ok (.return_, 1) := by decide +kernel
theorem d_M_await_0 : decode b_M_await 0 = .ok (.aload_n 0, 1) := by decide +kernel
theorem d_M_await_1 : decode b_M_await 1 = .ok (.getfield 65, 3) := by decide +kernel
theorem d_M_await_4 : decode b_M_await 4 = .ok (.aload_n 0, 1) := by decide +kernel
theorem d_M_await_5 : decode b_M_await 5 = .ok (.getfield 144, 3) := by decide +kernel
theorem d_M_await_8 : decode b_M_await 8 = .ok (.iload_n 1, 1) := by decide +kernel
theorem d_M_await_9 : decode b_M_await 9 = .ok (.iastore, 1) := by decide +kernel
theorem d_M_await_10 : decode b_M_await 10 = .ok (.aload_n 0, 1) := by decide +kernel
theorem d_M_await_11 : decode b_M_await 11 = .ok (.getfield 68, 3) := by decide +kernel
theorem d_M_await_14 : decode b_M_await 14 = .ok (.aload_n 0, 1) := by decide +kernel
theorem d_M_await_15 : decode b_M_await 15 = .ok (.getfield 144, 3) := by decide +kernel
theorem d_M_await_18 : decode b_M_await 18 = .ok (.aload_n 0, 1) := by decide +kernel
theorem d_M_await_19 : decode b_M_await 19 = .ok (.getfield 132, 3) := by decide +kernel
theorem d_M_await_22 : decode b_M_await 22 = .ok (.iastore, 1) := by decide +kernel
theorem d_M_await_23 : decode b_M_await 23 = .ok (.aload_n 0, 1) := by decide +kernel
theorem d_M_await_24 : decode b_M_await 24 = .ok (.getfield 71, 3) := by decide +kernel
theorem d_M_await_27 : decode b_M_await 27 = .ok (.aload_n 0, 1) := by decide +kernel
theorem d_M_await_28 : decode b_M_await 28 = .ok (.getfield 144, 3) := by decide +kernel
theorem d_M_await_31 : decode b_M_await 31 = .ok (.iload_n 2, 1) := by decide +kernel
theorem d_M_await_32 : decode b_M_await 32 = .ok (.iastore, 1) := by decide +kernel
theorem d_M_await_33 : decode b_M_await 33 = .ok (.aload_n 0, 1) := by decide +kernel
theorem d_M_await_34 : decode b_M_await 34 = .ok (.getfield 74, 3) := by decide +kernel
theorem d_M_await_37 : decode b_M_await 37 = .ok (.aload_n 0, 1) := by decide +kernel
theorem d_M_await_38 : decode b_M_await 38 = .ok (.getfield 144, 3) := by decide +kernel
theorem d_M_await_41 : decode b_M_await 41 = .ok (.aload_n 0, 1) := by decide +kernel
theorem d_M_await_42 : decode b_M_await 42 = .ok (.getfield 135, 3) := by decide +kernel
theorem d_M_await_45 : decode b_M_await 45 = .ok (.iastore, 1) := by decide +kernel
theorem d_M_await_46 : decode b_M_await 46 = .ok (.aload_n 0, 1) := by decide +kernel
theorem d_M_await_47 : decode b_M_await 47 = .ok (.getfield 80, 3) := by decide +kernel
theorem d_M_await_50 : decode b_M_await 50 = .ok (.aload_n 0, 1) := by decide +kernel
theorem d_M_await_51 : decode b_M_await 51 = .ok (.getfield 144, 3) := by decide +kernel
theorem d_M_await_54 : decode b_M_await 54 = .ok (.iconst 0, 1) := by decide +kernel
theorem d_M_await_55 : decode b_M_await 55 = .ok (.bastore, 1) := by decide +kernel
theorem d_M_await_56 : decode b_M_await 56 = .ok (.aload_n 0, 1) := by decide +kernel
theorem d_M_await_57 : decode b_M_await 57 = .ok (.dup, 1) := by decide +kernel
theorem d_M_await_58 : decode b_M_await 58 = .ok (.getfield 144, 3) := by decide +kernel
theorem d_M_await_61 : decode b_M_await 61 = .ok (.iconst 1, 1) := by decide +kernel
theorem d_M_await_62 : decode b_M_await 62 = .ok (.iadd, 1) := by decide +kernel
theorem d_M_await_63 : decode b_M_await 63 = .ok (.putfield 144, 3) := by decide +kernel
theorem d_M_await_66 : decode b_M_await 66 = .ok (.return_, 1) := by decide +kernel
theorem d_M_enter_0 : decode b_M_enter 0 = .ok (.aload_n 0, 1) := by decide +kernel
theorem d_M_enter_1 : decode b_M_enter 1 = .ok (.getfield 147, 3) := by decide +kernel
theorem d_M_enter_4 : decode b_M_enter 4 = .ok (.iconst 3, 1) := by decide +kernel
theorem d_M_enter_5 : decode b_M_enter 5 = .ok (.if_icmp .ne 11, 3) := by decide +kernel
theorem d_M_enter_8 : decode b_M_enter 8 = .ok (.aload_n 0, 1) := by decide +kernel
theorem d_M_enter_9 : decode b_M_enter 9 = .ok (.iconst 1, 1) := by decide +kernel
theorem d_M_enter_10 : decode b_M_enter 10 = .ok (.bipush 15, 2) := by decide +kernel
theorem d_M_enter_12 : decode b_M_enter 12 = .ok (.invokevirtual 150, 3) := by decide +kernel
theorem d_M_enter_15 : decode b_M_enter 15 = .ok (.return_, 1) := by decide +kernel
theorem d_M_enter_16 : decode b_M_enter 16 = .ok (.aload_n 0, 1) := by decide +kernel
theorem d_M_enter_17 : decode b_M_enter 17 = .ok (.dup, 1) := by decide +kernel
theorem d_M_enter_18 : decode b_M_enter 18 = .ok (.getfield 147, 3) := by decide +kernel
theorem d_M_enter_21 : decode b_M_enter 21 = .ok (.iconst 1, 1) := by decide +kernel
theorem d_M_enter_22 : decode b_M_enter 22 = .ok (.iadd, 1) := by decide +kernel
theorem d_M_enter_23 : decode b_M_enter 23 = .ok (.putfield 147, 3) := by decide +kernel
theorem d_M_enter_26 : decode b_M_enter 26 = .ok (.aload_n 0, 1) := by decide +kernel
theorem d_M_enter_27 : decode b_M_enter 27 = .ok (.dup, 1) := by decide +kernel
theorem d_M_enter_28 : decode b_M_enter 28 = .ok (.getfield 154, 3) := by decide +kernel
theorem d_M_enter_31 : decode b_M_enter 31 = .ok (.iconst 1, 1) := by decide +kernel
theorem d_M_enter_32 : decode b_M_enter 32 = .ok (.iadd, 1) := by decide +kernel
theorem d_M_enter_33 : decode b_M_enter 33 = .ok (.putfield 154, 3) := by decide +kernel
theorem d_M_enter_36 : decode b_M_enter 36 = .ok (.aload_n 0, 1) := by decide +kernel
theorem d_M_enter_37 : decode b_M_enter 37 = .ok (.getfield 59, 3) := by decide +kernel
theorem d_M_enter_40 : decode b_M_enter 40 = .ok (.aload_n 0, 1) := by decide +kernel
theorem d_M_enter_41 : decode b_M_enter 41 = .ok (.getfield 147, 3) := by decide +kernel
theorem d_M_enter_44 : decode b_M_enter 44 = .ok (.iload_n 1, 1) := by decide +kernel
theorem d_M_enter_45 : decode b_M_enter 45 = .ok (.iastore, 1) := by decide +kernel
theorem d_M_enter_46 : decode b_M_enter 46 = .ok (.aload_n 0, 1) := by decide +kernel
theorem d_M_enter_47 : decode b_M_enter 47 = .ok (.getfield 62, 3) := by decide +kernel
theorem d_M_enter_50 : decode b_M_enter 50 = .ok (.aload_n 0, 1) := by decide +kernel
theorem d_M_enter_51 : decode b_M_enter 51 = .ok (.getfield 147, 3) := by decide +kernel
theorem d_M_enter_54 : decode b_M_enter 54 = .ok (.aload_n 0, 1) := by decide +kernel
theorem d_M_enter_55 : decode b_M_enter 55 = .ok (.getfield 117, 3) := by decide +kernel
theorem d_M_enter_58 : decode b_M_enter 58 = .ok (.iconst 2, 1) := by decide +kernel
theorem d_M_enter_59 : decode b_M_enter 59 = .ok (.if_icmp .ne 10, 3) := by decide +kernel
theorem d_M_enter_62 : decode b_M_enter 62 = .ok (.aload_n 0, 1) := by decide +kernel
theorem d_M_enter_63 : decode b_M_enter 63 = .ok (.getfield 120, 3) := by decide +kernel
theorem d_M_enter_66 : decode b_M_enter 66 = .ok (.goto 7, 3) := by decide +kernel
theorem d_M_enter_69 : decode b_M_enter 69 = .ok (.aload_n 0, 1) := by decide +kernel
theorem d_M_enter_70 : decode b_M_enter 70 = .ok (.getfield 117, 3) := by decide +kernel
theorem d_M_enter_73 : decode b_M_enter 73 = .ok (.iastore, 1) := by decide +kernel
theorem d_M_enter_74 : decode b_M_enter 74 = .ok (.aload_n 0, 1) := by decide +kernel
theorem d_M_enter_75 : decode b_M_enter 75 = .ok (.aload_n 0, 1) := by decide +kernel
theorem d_M_enter_76 : decode b_M_enter 76 = .ok (.getfield 117, 3) := by decide +kernel
theorem d_M_enter_79 : decode b_M_enter 79 = .ok (.iconst 2, 1) := by decide +kernel
theorem d_M_enter_80 : decode b_M_enter 80 = .ok (.if_icmp .ne 12, 3) := by decide +kernel
theorem d_M_enter_83 : decode b_M_enter 83 = .ok (.iconst 1, 1) := by decide +kernel
theorem d_M_enter_84 : decode b_M_enter 84 = .ok (.aload_n 0, 1) := by decide +kernel
theorem d_M_enter_85 : decode b_M_enter 85 = .ok (.getfield 120, 3) := by decide +kernel
theorem d_M_enter_88 : decode b_M_enter 88 = .ok (.isub, 1) := by decide +kernel
theorem d_M_enter_89 : decode b_M_enter 89 = .ok (.goto 7, 3) := by decide +kernel
theorem d_M_enter_92 : decode b_M_enter 92 = .ok (.aload_n 0, 1) := by decide +kernel
theorem d_M_enter_93 : decode b_M_enter 93 = .ok (.getfield 120, 3) := by decide +kernel
theorem d_M_enter_96 : decode b_M_enter 96 = .ok (.putfield 120, 3) := by decide +kernel
theorem d_M_enter_99 : decode b_M_enter 99 = .ok (.aload_n 0, 1) := by decide +kernel
theorem d_M_enter_100 : decode b_M_enter 100 = .ok (.bipush 9, 2) := by decide +kernel
theorem d_M_enter_102 : decode b_M_enter 102 = .ok (.iconst (-1), 1) := by decide +kernel
theorem d_M_enter_103 : decode b_M_enter 103 = .ok (.invokevirtual 157, 3) := by decide +kernel
theorem d_M_enter_106 : decode b_M_enter 106 = .ok (.aload_n 0, 1) := by decide +kernel
theorem d_M_enter_107 : decode b_M_enter 107 = .ok (.iconst 0, 1) := by decide +kernel
theorem d_M_enter_108 : decode b_M_enter 108 = .ok (.iload_n 2, 1) := by decide +kernel
theorem d_M_enter_109 : decode b_M_enter 109 = .ok (.invokevirtual 161, 3) := by decide +kernel
theorem d_M_enter_112 : decode b_M_enter 112 = .ok (.return_, 1) := by decide +kernel
theorem d_M_work_0 : decode b_M_work 0 = .ok (.bipush 6, 2) := by decide +kernel
theorem d_M_work_2 : decode b_M_work 2 = .ok (.aload_n 0, 1) := by decide +kernel
theorem d_M_work_3 : decode b_M_work 3 = .ok (.getfield 62, 3) := by decide +kernel
theorem d_M_work_6 : decode b_M_work 6 = .ok (.aload_n 0, 1) := by decide +kernel
theorem d_M_work_7 : decode b_M_work 7 = .ok (.getfield 147, 3) := by decide +kernel
theorem d_M_work_10 : decode b_M_work 10 = .ok (.iaload, 1) := by decide +kernel
theorem d_M_work_11 : decode b_M_work 11 = .ok (.imul, 1) := by decide +kernel
theorem d_M_work_12 : decode b_M_work 12 = .ok (.aload_n 0, 1) := by decide +kernel
theorem d_M_work_13 : decode b_M_work 13 = .ok (.getfield 59, 3) := by decide +kernel
theorem d_M_work_16 : decode b_M_work 16 = .ok (.aload_n 0, 1) := by decide +kernel
theorem d_M_work_17 : decode b_M_work 17 = .ok (.getfield 147, 3) := by decide +kernel
theorem d_M_work_20 : decode b_M_work 20 = .ok (.iaload, 1) := by decide +kernel
theorem d_M_work_21 : decode b_M_work 21 = .ok (.iadd, 1) := by decide +kernel
theorem d_M_work_22 : decode b_M_work 22 = .ok (.istore_n 1, 1) := by decide +kernel
theorem d_M_work_23 : decode b_M_work 23 = .ok (.aload_n 0, 1) := by decide +kernel
theorem d_M_work_24 : decode b_M_work 24 = .ok (.bipush 100, 2) := by decide +kernel
theorem d_M_work_26 : decode b_M_work 26 = .ok (.aload_n 0, 1) := by decide +kernel
theorem d_M_work_27 : decode b_M_work 27 = .ok (.getfield 59, 3) := by decide +kernel
theorem d_M_work_30 : decode b_M_work 30 = .ok (.aload_n 0, 1) := by decide +kernel
theorem d_M_work_31 : decode b_M_work 31 = .ok (.getfield 147, 3) := by decide +kernel
theorem d_M_work_34 : decode b_M_work 34 = .ok (.iaload, 1) := by decide +kernel
theorem d_M_work_35 : decode b_M_work 35 = .ok (.iadd, 1) := by decide +kernel
theorem d_M_work_36 : decode b_M_work 36 = .ok (.aload_n 0, 1) := by decide +kernel
theorem d_M_work_37 : decode b_M_work 37 = .ok (.getfield 135, 3) := by decide +kernel
theorem d_M_work_40 : decode b_M_work 40 = .ok (.invokevirtual 164, 3) := by decide +kernel
theorem d_M_work_43 : decode b_M_work 43 = .ok (.aload_n 0, 1) := by decide +kernel
theorem d_M_work_44 : decode b_M_work 44 = .ok (.getfield 126, 3) := by decide +kernel
theorem d_M_work_47 : decode b_M_work 47 = .ok (.ifCond .eq 4, 3) := by decide +kernel
theorem d_M_work_50 : decode b_M_work 50 = .ok (.return_, 1) := by decide +kernel
theorem d_M_work_51 : decode b_M_work 51 = .ok (.aload_n 0, 1) := by decide +kernel
theorem d_M_work_52 : decode b_M_work 52 = .ok (.getfield 47, 3) := by decide +kernel
theorem d_M_work_55 : decode b_M_work 55 = .ok (.iload_n 1, 1) := by decide +kernel
theorem d_M_work_56 : decode b_M_work 56 = .ok (.iaload, 1) := by decide +kernel
theorem d_M_work_57 : decode b_M_work 57 = .ok (.ifCond .le 30, 3) := by decide +kernel
theorem d_M_work_60 : decode b_M_work 60 = .ok (.aload_n 0, 1) := by decide +kernel
theorem d_M_work_61 : decode b_M_work 61 = .ok (.getfield 44, 3) := by decide +kernel
theorem d_M_work_64 : decode b_M_work 64 = .ok (.iload_n 1, 1) := by decide +kernel
theorem d_M_work_65 : decode b_M_work 65 = .ok (.iaload, 1) := by decide +kernel
theorem d_M_work_66 : decode b_M_work 66 = .ok (.aload_n 0, 1) := by decide +kernel
theorem d_M_work_67 : decode b_M_work 67 = .ok (.getfield 135, 3) := by decide +kernel
theorem d_M_work_70 : decode b_M_work 70 = .ok (.if_icmp .ne 17, 3) := by decide +kernel
theorem d_M_work_73 : decode b_M_work 73 = .ok (.aload_n 0, 1) := by decide +kernel
theorem d_M_work_74 : decode b_M_work 74 = .ok (.iconst 1, 1) := by decide +kernel
theorem d_M_work_75 : decode b_M_work 75 = .ok (.aload_n 0, 1) := by decide +kernel
theorem d_M_work_76 : decode b_M_work 76 = .ok (.getfield 47, 3) := by decide +kernel
theorem d_M_work_79 : decode b_M_work 79 = .ok (.iload_n 1, 1) := by decide +kernel
theorem d_M_work_80 : decode b_M_work 80 = .ok (.iaload, 1) := by decide +kernel
theorem d_M_work_81 : decode b_M_work 81 = .ok (.invokevirtual 150, 3) := by decide +kernel
theorem d_M_work_84 : decode b_M_work 84 = .ok (.goto 69, 3) := by decide +kernel
theorem d_M_work_87 : decode b_M_work 87 = .ok (.aload_n 0, 1) := by decide +kernel
theorem d_M_work_88 : decode b_M_work 88 = .ok (.getfield 50, 3) := by decide +kernel
theorem d_M_work_91 : decode b_M_work 91 = .ok (.iload_n 1, 1) := by decide +kernel
theorem d_M_work_92 : decode b_M_work 92 = .ok (.iaload, 1) := by decide +kernel
theorem d_M_work_93 : decode b_M_work 93 = .ok (.iconst (-1), 1) := by decide +kernel
theorem d_M_work_94 : decode b_M_work 94 = .ok (.if_icmp .eq 36, 3) := by decide +kernel
theorem d_M_work_97 : decode b_M_work 97 = .ok (.aload_n 0, 1) := by decide +kernel
theorem d_M_work_98 : decode b_M_work 98 = .ok (.getfield 135, 3) := by decide +kernel
theorem d_M_work_101 : decode b_M_work 101 = .ok (.ifCond .le 29, 3) := by decide +kernel
theorem d_M_work_104 : decode b_M_work 104 = .ok (.aload_n 0, 1) := by decide +kernel
theorem d_M_work_105 : decode b_M_work 105 = .ok (.bipush 8, 2) := by decide +kernel
theorem d_M_work_107 : decode b_M_work 107 = .ok (.iload_n 1, 1) := by decide +kernel
theorem d_M_work_108 : decode b_M_work 108 = .ok (.invokevirtual 157, 3) := by decide +kernel
theorem d_M_work_111 : decode b_M_work 111 = .ok (.aload_n 0, 1) := by decide +kernel
theorem d_M_work_112 : decode b_M_work 112 = .ok (.aload_n 0, 1) := by decide +kernel
theorem d_M_work_113 : decode b_M_work 113 = .ok (.getfield 50, 3) := by decide +kernel
theorem d_M_work_116 : decode b_M_work 116 = .ok (.iload_n 1, 1) := by decide +kernel
theorem d_M_work_117 : decode b_M_work 117 = .ok (.iaload, 1) := by decide +kernel
theorem d_M_work_118 : decode b_M_work 118 = .ok (.aload_n 0, 1) := by decide +kernel
theorem d_M_work_119 : decode b_M_work 119 = .ok (.getfield 135, 3) := by decide +kernel
theorem d_M_work_122 : decode b_M_work 122 = .ok (.iconst 1, 1) := by decide +kernel
theorem d_M_work_123 : decode b_M_work 123 = .ok (.isub, 1) := by decide +kernel
theorem d_M_work_124 : decode b_M_work 124 = .ok (.invokevirtual 167, 3) := by decide +kernel
theorem d_M_work_127 : decode b_M_work 127 = .ok (.goto 26, 3) := by decide +kernel
theorem d_M_work_130 : decode b_M_work 130 = .ok (.aload_n 0, 1) := by decide +kernel
theorem d_M_work_131 : decode b_M_work 131 = .ok (.iconst 0, 1) := by decide +kernel
theorem d_M_work_132 : decode b_M_work 132 = .ok (.aload_n 0, 1) := by decide +kernel
theorem d_M_work_133 : decode b_M_work 133 = .ok (.getfield 38, 3) := by decide +kernel
theorem d_M_work_136 : decode b_M_work 136 = .ok (.iload_n 1, 1) := by decide +kernel
theorem d_M_work_137 : decode b_M_work 137 = .ok (.iaload, 1) := by decide +kernel
theorem d_M_work_138 : decode b_M_work 138 = .ok (.aload_n 0, 1) := by decide +kernel
theorem d_M_work_139 : decode b_M_work 139 = .ok (.getfield 135, 3) := by decide +kernel
theorem d_M_work_142 : decode b_M_work 142 = .ok (.imul, 1) := by decide +kernel
theorem d_M_work_143 : decode b_M_work 143 = .ok (.aload_n 0, 1) := by decide +kernel
theorem d_M_work_144 : decode b_M_work 144 = .ok (.getfield 41, 3) := by decide +kernel
theorem d_M_work_147 : decode b_M_work 147 = .ok (.iload_n 1, 1) := by decide +kernel
theorem d_M_work_148 : decode b_M_work 148 = .ok (.iaload, 1) := by decide +kernel
theorem d_M_work_149 : decode b_M_work 149 = .ok (.iadd, 1) := by decide +kernel
theorem d_M_work_150 : decode b_M_work 150 = .ok (.invokevirtual 150, 3) := by decide +kernel
theorem d_M_work_153 : decode b_M_work 153 = .ok (.return_, 1) := by decide +kernel
theorem d_M_step_0 : decode b_M_step 0 = .ok (.aload_n 0, 1) := by decide +kernel
theorem d_M_step_1 : decode b_M_step 1 = .ok (.aload_n 0, 1) := by decide +kernel
theorem d_M_step_2 : decode b_M_step 2 = .ok (.getfield 59, 3) := by decide +kernel
theorem d_M_step_5 : decode b_M_step 5 = .ok (.aload_n 0, 1) := by decide +kernel
theorem d_M_step_6 : decode b_M_step 6 = .ok (.getfield 147, 3) := by decide +kernel
theorem d_M_step_9 : decode b_M_step 9 = .ok (.iaload, 1) := by decide +kernel
theorem d_M_step_10 : decode b_M_step 10 = .ok (.aload_n 0, 1) := by decide +kernel
theorem d_M_step_11 : decode b_M_step 11 = .ok (.getfield 132, 3) := by decide +kernel
theorem d_M_step_14 : decode b_M_step 14 = .ok (.invokevirtual 109, 3) := by decide +kernel
theorem d_M_step_17 : decode b_M_step 17 = .ok (.istore_n 1, 1) := by decide +kernel
theorem d_M_step_18 : decode b_M_step 18 = .ok (.iload_n 1, 1) := by decide +kernel
theorem d_M_step_19 : decode b_M_step 19 = .ok (.ifCond .ge 8, 3) := by decide +kernel
theorem d_M_step_22 : decode b_M_step 22 = .ok (.aload_n 0, 1) := by decide +kernel
theorem d_M_step_23 : decode b_M_step 23 = .ok (.invokevirtual 170, 3) := by decide +kernel
theorem d_M_step_26 : decode b_M_step 26 = .ok (.return_, 1) := by decide +kernel
theorem d_M_step_27 : decode b_M_step 27 = .ok (.aload_n 0, 1) := by decide +kernel
theorem d_M_step_28 : decode b_M_step 28 = .ok (.getfield 28, 3) := by decide +kernel
theorem d_M_step_31 : decode b_M_step 31 = .ok (.iload_n 1, 1) := by decide +kernel
theorem d_M_step_32 : decode b_M_step 32 = .ok (.baload, 1) := by decide +kernel
theorem d_M_step_33 : decode b_M_step 33 = .ok (.ifCond .eq 46, 3) := by decide +kernel
theorem d_M_step_36 : decode b_M_step 36 = .ok (.aload_n 0, 1) := by decide +kernel
theorem d_M_step_37 : decode b_M_step 37 = .ok (.dup, 1) := by decide +kernel
theorem d_M_step_38 : decode b_M_step 38 = .ok (.getfield 173, 3) := by decide +kernel
theorem d_M_step_41 : decode b_M_step 41 = .ok (.iconst 1, 1) := by decide +kernel
theorem d_M_step_42 : decode b_M_step 42 = .ok (.iadd, 1) := by decide +kernel
theorem d_M_step_43 : decode b_M_step 43 = .ok (.putfield 173, 3) := by decide +kernel
theorem d_M_step_46 : decode b_M_step 46 = .ok (.aload_n 0, 1) := by decide +kernel
theorem d_M_step_47 : decode b_M_step 47 = .ok (.getfield 135, 3) := by decide +kernel
theorem d_M_step_50 : decode b_M_step 50 = .ok (.aload_n 0, 1) := by decide +kernel
theorem d_M_step_51 : decode b_M_step 51 = .ok (.getfield 32, 3) := by decide +kernel
theorem d_M_step_54 : decode b_M_step 54 = .ok (.iload_n 1, 1) := by decide +kernel
theorem d_M_step_55 : decode b_M_step 55 = .ok (.iaload, 1) := by decide +kernel
theorem d_M_step_56 : decode b_M_step 56 = .ok (.aload_n 0, 1) := by decide +kernel
theorem d_M_step_57 : decode b_M_step 57 = .ok (.getfield 35, 3) := by decide +kernel
theorem d_M_step_60 : decode b_M_step 60 = .ok (.iload_n 1, 1) := by decide +kernel
theorem d_M_step_61 : decode b_M_step 61 = .ok (.iaload, 1) := by decide +kernel
theorem d_M_step_62 : decode b_M_step 62 = .ok (.invokestatic 83, 3) := by decide +kernel
theorem d_M_step_65 : decode b_M_step 65 = .ok (.ifCond .ne 14, 3) := by decide +kernel
theorem d_M_step_68 : decode b_M_step 68 = .ok (.aload_n 0, 1) := by decide +kernel
theorem d_M_step_69 : decode b_M_step 69 = .ok (.dup, 1) := by decide +kernel
theorem d_M_step_70 : decode b_M_step 70 = .ok (.getfield 132, 3) := by decide +kernel
theorem d_M_step_73 : decode b_M_step 73 = .ok (.iconst 1, 1) := by decide +kernel
theorem d_M_step_74 : decode b_M_step 74 = .ok (.iadd, 1) := by decide +kernel
theorem d_M_step_75 : decode b_M_step 75 = .ok (.putfield 132, 3) := by decide +kernel
theorem d_M_step_78 : decode b_M_step 78 = .ok (.return_, 1) := by decide +kernel
theorem d_M_step_79 : decode b_M_step 79 = .ok (.aload_n 0, 1) := by decide +kernel
theorem d_M_step_80 : decode b_M_step 80 = .ok (.getfield 13, 3) := by decide +kernel
theorem d_M_step_83 : decode b_M_step 83 = .ok (.iload_n 1, 1) := by decide +kernel
theorem d_M_step_84 : decode b_M_step 84 = .ok (.iaload, 1) := by decide +kernel
theorem d_M_step_85 : decode b_M_step 85 = .ok (.iconst 3, 1) := by decide +kernel
theorem d_M_step_86 : decode b_M_step 86 = .ok (.if_icmp .gt 17, 3) := by decide +kernel
theorem d_M_step_89 : decode b_M_step 89 = .ok (.aload_n 0, 1) := by decide +kernel
theorem d_M_step_90 : decode b_M_step 90 = .ok (.aload_n 0, 1) := by decide +kernel
theorem d_M_step_91 : decode b_M_step 91 = .ok (.getfield 7, 3) := by decide +kernel
theorem d_M_step_94 : decode b_M_step 94 = .ok (.iload_n 1, 1) := by decide +kernel
theorem d_M_step_95 : decode b_M_step 95 = .ok (.iaload, 1) := by decide +kernel
theorem d_M_step_96 : decode b_M_step 96 = .ok (.aload_n 0, 1) := by decide +kernel
theorem d_M_step_97 : decode b_M_step 97 = .ok (.getfield 135, 3) := by decide +kernel
theorem d_M_step_100 : decode b_M_step 100 = .ok (.invokevirtual 164, 3) := by decide +kernel
theorem d_M_step_103 : decode b_M_step 103 = .ok (.aload_n 0, 1) := by decide +kernel
theorem d_M_step_104 : decode b_M_step 104 = .ok (.getfield 126, 3) := by decide +kernel
theorem d_M_step_107 : decode b_M_step 107 = .ok (.ifCond .eq 4, 3) := by decide +kernel
theorem d_M_step_110 : decode b_M_step 110 = .ok (.return_, 1) := by decide +kernel
theorem d_M_step_111 : decode b_M_step 111 = .ok (.aload_n 0, 1) := by decide +kernel
theorem d_M_step_112 : decode b_M_step 112 = .ok (.getfield 13, 3) := by decide +kernel
theorem d_M_step_115 : decode b_M_step 115 = .ok (.iload_n 1, 1) := by decide +kernel
theorem d_M_step_116 : decode b_M_step 116 = .ok (.iaload, 1) := by decide +kernel
theorem d_M_step_117 : decode b_M_step 117 = .ok (.ifCond .ne 30, 3) := by decide +kernel
theorem d_M_step_120 : decode b_M_step 120 = .ok (.aload_n 0, 1) := by decide +kernel
theorem d_M_step_121 : decode b_M_step 121 = .ok (.getfield 135, 3) := by decide +kernel
theorem d_M_step_124 : decode b_M_step 124 = .ok (.aload_n 0, 1) := by decide +kernel
theorem d_M_step_125 : decode b_M_step 125 = .ok (.getfield 22, 3) := by decide +kernel
theorem d_M_step_128 : decode b_M_step 128 = .ok (.iload_n 1, 1) := by decide +kernel
theorem d_M_step_129 : decode b_M_step 129 = .ok (.iaload, 1) := by decide +kernel
theorem d_M_step_130 : decode b_M_step 130 = .ok (.if_icmp .ne 17, 3) := by decide +kernel
theorem d_M_step_133 : decode b_M_step 133 = .ok (.aload_n 0, 1) := by decide +kernel
theorem d_M_step_134 : decode b_M_step 134 = .ok (.iconst 1, 1) := by decide +kernel
theorem d_M_step_135 : decode b_M_step 135 = .ok (.aload_n 0, 1) := by decide +kernel
theorem d_M_step_136 : decode b_M_step 136 = .ok (.getfield 25, 3) := by decide +kernel
theorem d_M_step_139 : decode b_M_step 139 = .ok (.iload_n 1, 1) := by decide +kernel
theorem d_M_step_140 : decode b_M_step 140 = .ok (.iaload, 1) := by decide +kernel
theorem d_M_step_141 : decode b_M_step 141 = .ok (.invokevirtual 150, 3) := by decide +kernel
theorem d_M_step_144 : decode b_M_step 144 = .ok (.goto 121, 3) := by decide +kernel
theorem d_M_step_147 : decode b_M_step 147 = .ok (.aload_n 0, 1) := by decide +kernel
theorem d_M_step_148 : decode b_M_step 148 = .ok (.getfield 13, 3) := by decide +kernel
theorem d_M_step_151 : decode b_M_step 151 = .ok (.iload_n 1, 1) := by decide +kernel
theorem d_M_step_152 : decode b_M_step 152 = .ok (.iaload, 1) := by decide +kernel
theorem d_M_step_153 : decode b_M_step 153 = .ok (.iconst 2, 1) := by decide +kernel
theorem d_M_step_154 : decode b_M_step 154 = .ok (.if_icmp .ne 30, 3) := by decide +kernel
theorem d_M_step_157 : decode b_M_step 157 = .ok (.aload_n 0, 1) := by decide +kernel
theorem d_M_step_158 : decode b_M_step 158 = .ok (.getfield 135, 3) := by decide +kernel
theorem d_M_step_161 : decode b_M_step 161 = .ok (.aload_n 0, 1) := by decide +kernel
theorem d_M_step_162 : decode b_M_step 162 = .ok (.getfield 22, 3) := by decide +kernel
theorem d_M_step_165 : decode b_M_step 165 = .ok (.iload_n 1, 1) := by decide +kernel
theorem d_M_step_166 : decode b_M_step 166 = .ok (.iaload, 1) := by decide +kernel
theorem d_M_step_167 : decode b_M_step 167 = .ok (.if_icmp .ge 17, 3) := by decide +kernel
theorem d_M_step_170 : decode b_M_step 170 = .ok (.aload_n 0, 1) := by decide +kernel
theorem d_M_step_171 : decode b_M_step 171 = .ok (.iconst 0, 1) := by decide +kernel
theorem d_M_step_172 : decode b_M_step 172 = .ok (.aload_n 0, 1) := by decide +kernel
theorem d_M_step_173 : decode b_M_step 173 = .ok (.getfield 25, 3) := by decide +kernel
theorem d_M_step_176 : decode b_M_step 176 = .ok (.iload_n 1, 1) := by decide +kernel
theorem d_M_step_177 : decode b_M_step 177 = .ok (.iaload, 1) := by decide +kernel
theorem d_M_step_178 : decode b_M_step 178 = .ok (.invokevirtual 150, 3) := by decide +kernel
theorem d_M_step_181 : decode b_M_step 181 = .ok (.goto 84, 3) := by decide +kernel
theorem d_M_step_184 : decode b_M_step 184 = .ok (.aload_n 0, 1) := by decide +kernel
theorem d_M_step_185 : decode b_M_step 185 = .ok (.getfield 13, 3) := by decide +kernel
theorem d_M_step_188 : decode b_M_step 188 = .ok (.iload_n 1, 1) := by decide +kernel
theorem d_M_step_189 : decode b_M_step 189 = .ok (.iaload, 1) := by decide +kernel
theorem d_M_step_190 : decode b_M_step 190 = .ok (.ifCond .eq 13, 3) := by decide +kernel
theorem d_M_step_193 : decode b_M_step 193 = .ok (.aload_n 0, 1) := by decide +kernel
theorem d_M_step_194 : decode b_M_step 194 = .ok (.getfield 13, 3) := by decide +kernel
theorem d_M_step_197 : decode b_M_step 197 = .ok (.iload_n 1, 1) := by decide +kernel
theorem d_M_step_198 : decode b_M_step 198 = .ok (.iaload, 1) := by decide +kernel
theorem d_M_step_199 : decode b_M_step 199 = .ok (.iconst 2, 1) := by decide +kernel
theorem d_M_step_200 : decode b_M_step 200 = .ok (.if_icmp .ne 16, 3) := by decide +kernel
theorem d_M_step_203 : decode b_M_step 203 = .ok (.aload_n 0, 1) := by decide +kernel
theorem d_M_step_204 : decode b_M_step 204 = .ok (.dup, 1) := by decide +kernel
theorem d_M_step_205 : decode b_M_step 205 = .ok (.getfield 132, 3) := by decide +kernel
theorem d_M_step_208 : decode b_M_step 208 = .ok (.iconst 1, 1) := by decide +kernel
theorem d_M_step_209 : decode b_M_step 209 = .ok (.iadd, 1) := by decide +kernel
theorem d_M_step_210 : decode b_M_step 210 = .ok (.putfield 132, 3) := by decide +kernel
theorem d_M_step_213 : decode b_M_step 213 = .ok (.goto 52, 3) := by decide +kernel
theorem d_M_step_216 : decode b_M_step 216 = .ok (.aload_n 0, 1) := by decide +kernel
theorem d_M_step_217 : decode b_M_step 217 = .ok (.aload_n 0, 1) := by decide +kernel
theorem d_M_step_218 : decode b_M_step 218 = .ok (.getfield 13, 3) := by decide +kernel
theorem d_M_step_221 : decode b_M_step 221 = .ok (.iload_n 1, 1) := by decide +kernel
theorem d_M_step_222 : decode b_M_step 222 = .ok (.iaload, 1) := by decide +kernel
theorem d_M_step_223 : decode b_M_step 223 = .ok (.iload_n 1, 1) := by decide +kernel
theorem d_M_step_224 : decode b_M_step 224 = .ok (.invokevirtual 157, 3) := by decide +kernel
theorem d_M_step_227 : decode b_M_step 227 = .ok (.aload_n 0, 1) := by decide +kernel
theorem d_M_step_228 : decode b_M_step 228 = .ok (.aload_n 0, 1) := by decide +kernel
theorem d_M_step_229 : decode b_M_step 229 = .ok (.getfield 132, 3) := by decide +kernel
theorem d_M_step_232 : decode b_M_step 232 = .ok (.iconst 1, 1) := by decide +kernel
theorem d_M_step_233 : decode b_M_step 233 = .ok (.iadd, 1) := by decide +kernel
theorem d_M_step_234 : decode b_M_step 234 = .ok (.aload_n 0, 1) := by decide +kernel
theorem d_M_step_235 : decode b_M_step 235 = .ok (.getfield 13, 3) := by decide +kernel
theorem d_M_step_238 : decode b_M_step 238 = .ok (.iload_n 1, 1) := by decide +kernel
theorem d_M_step_239 : decode b_M_step 239 = .ok (.iaload, 1) := by decide +kernel
theorem d_M_step_240 : decode b_M_step 240 = .ok (.iconst 1, 1) := by decide +kernel
theorem d_M_step_241 : decode b_M_step 241 = .ok (.if_icmp .ne 17, 3) := by decide +kernel
theorem d_M_step_244 : decode b_M_step 244 = .ok (.aload_n 0, 1) := by decide +kernel
theorem d_M_step_245 : decode b_M_step 245 = .ok (.getfield 135, 3) := by decide +kernel
theorem d_M_step_248 : decode b_M_step 248 = .ok (.aload_n 0, 1) := by decide +kernel
theorem d_M_step_249 : decode b_M_step 249 = .ok (.getfield 22, 3) := by decide +kernel
theorem d_M_step_252 : decode b_M_step 252 = .ok (.iload_n 1, 1) := by decide +kernel
theorem d_M_step_253 : decode b_M_step 253 = .ok (.iaload, 1) := by decide +kernel
theorem d_M_step_254 : decode b_M_step 254 = .ok (.iadd, 1) := by decide +kernel
theorem d_M_step_255 : decode b_M_step 255 = .ok (.goto 7, 3) := by decide +kernel
theorem d_M_step_258 : decode b_M_step 258 = .ok (.aload_n 0, 1) := by decide +kernel
theorem d_M_step_259 : decode b_M_step 259 = .ok (.getfield 135, 3) := by decide +kernel
theorem d_M_step_262 : decode b_M_step 262 = .ok (.invokevirtual 161, 3) := by decide +kernel
theorem d_M_step_265 : decode b_M_step 265 = .ok (.return_, 1) := by decide +kernel
theorem d_M_back_0 : decode b_M_back 0 = .ok (.aload_n 0, 1) := by decide +kernel
theorem d_M_back_1 : decode b_M_back 1 = .ok (.dup, 1) := by decide +kernel
theorem d_M_back_2 : decode b_M_back 2 = .ok (.getfield 144, 3) := by decide +kernel
theorem d_M_back_5 : decode b_M_back 5 = .ok (.iconst 1, 1) := by decide +kernel
theorem d_M_back_6 : decode b_M_back 6 = .ok (.isub, 1) := by decide +kernel
theorem d_M_back_7 : decode b_M_back 7 = .ok (.putfield 144, 3) := by decide +kernel
theorem d_M_back_10 : decode b_M_back 10 = .ok (.aload_n 0, 1) := by decide +kernel
theorem d_M_back_11 : decode b_M_back 11 = .ok (.getfield 65, 3) := by decide +kernel
theorem d_M_back_14 : decode b_M_back 14 = .ok (.aload_n 0, 1) := by decide +kernel
theorem d_M_back_15 : decode b_M_back 15 = .ok (.getfield 144, 3) := by decide +kernel
theorem d_M_back_18 : decode b_M_back 18 = .ok (.iaload, 1) := by decide +kernel
theorem d_M_back_19 : decode b_M_back 19 = .ok (.istore_n 1, 1) := by decide +kernel
theorem d_M_back_20 : decode b_M_back 20 = .ok (.aload_n 0, 1) := by decide +kernel
theorem d_M_back_21 : decode b_M_back 21 = .ok (.getfield 71, 3) := by decide +kernel
theorem d_M_back_24 : decode b_M_back 24 = .ok (.aload_n 0, 1) := by decide +kernel
theorem d_M_back_25 : decode b_M_back 25 = .ok (.getfield 144, 3) := by decide +kernel
theorem d_M_back_28 : decode b_M_back 28 = .ok (.iaload, 1) := by decide +kernel
theorem d_M_back_29 : decode b_M_back 29 = .ok (.istore_n 2, 1) := by decide +kernel
theorem d_M_back_30 : decode b_M_back 30 = .ok (.iload_n 1, 1) := by decide +kernel
theorem d_M_back_31 : decode b_M_back 31 = .ok (.bipush 9, 2) := by decide +kernel
theorem d_M_back_33 : decode b_M_back 33 = .ok (.if_icmp .ne 16, 3) := by decide +kernel
theorem d_M_back_36 : decode b_M_back 36 = .ok (.aload_n 0, 1) := by decide +kernel
theorem d_M_back_37 : decode b_M_back 37 = .ok (.dup, 1) := by decide +kernel
theorem d_M_back_38 : decode b_M_back 38 = .ok (.getfield 147, 3) := by decide +kernel
theorem d_M_back_41 : decode b_M_back 41 = .ok (.iconst 1, 1) := by decide +kernel
theorem d_M_back_42 : decode b_M_back 42 = .ok (.isub, 1) := by decide +kernel
theorem d_M_back_43 : decode b_M_back 43 = .ok (.putfield 147, 3) := by decide +kernel
theorem d_M_back_46 : decode b_M_back 46 = .ok (.goto 291, 3) := by decide +kernel
theorem d_M_back_49 : decode b_M_back 49 = .ok (.iload_n 1, 1) := by decide +kernel
theorem d_M_back_50 : decode b_M_back 50 = .ok (.bipush 8, 2) := by decide +kernel
theorem d_M_back_52 : decode b_M_back 52 = .ok (.if_icmp .ne 42, 3) := by decide +kernel
theorem d_M_back_55 : decode b_M_back 55 = .ok (.aload_n 0, 1) := by decide +kernel
theorem d_M_back_56 : decode b_M_back 56 = .ok (.aload_n 0, 1) := by decide +kernel
theorem d_M_back_57 : decode b_M_back 57 = .ok (.getfield 138, 3) := by decide +kernel
theorem d_M_back_60 : decode b_M_back 60 = .ok (.ifCond .eq 10, 3) := by decide +kernel
theorem d_M_back_63 : decode b_M_back 63 = .ok (.aload_n 0, 1) := by decide +kernel
theorem d_M_back_64 : decode b_M_back 64 = .ok (.getfield 141, 3) := by decide +kernel
theorem d_M_back_67 : decode b_M_back 67 = .ok (.goto 21, 3) := by decide +kernel
theorem d_M_back_70 : decode b_M_back 70 = .ok (.aload_n 0, 1) := by decide +kernel
theorem d_M_back_71 : decode b_M_back 71 = .ok (.getfield 38, 3) := by decide +kernel
theorem d_M_back_74 : decode b_M_back 74 = .ok (.iload_n 2, 1) := by decide +kernel
theorem d_M_back_75 : decode b_M_back 75 = .ok (.iaload, 1) := by decide +kernel
theorem d_M_back_76 : decode b_M_back 76 = .ok (.aload_n 0, 1) := by decide +kernel
theorem d_M_back_77 : decode b_M_back 77 = .ok (.getfield 141, 3) := by decide +kernel
theorem d_M_back_80 : decode b_M_back 80 = .ok (.imul, 1) := by decide +kernel
theorem d_M_back_81 : decode b_M_back 81 = .ok (.aload_n 0, 1) := by decide +kernel
theorem d_M_back_82 : decode b_M_back 82 = .ok (.getfield 41, 3) := by decide +kernel
theorem d_M_back_85 : decode b_M_back 85 = .ok (.iload_n 2, 1) := by decide +kernel
theorem d_M_back_86 : decode b_M_back 86 = .ok (.iaload, 1) := by decide +kernel
theorem d_M_back_87 : decode b_M_back 87 = .ok (.iadd, 1) := by decide +kernel
theorem d_M_back_88 : decode b_M_back 88 = .ok (.putfield 141, 3) := by decide +kernel
theorem d_M_back_91 : decode b_M_back 91 = .ok (.goto 246, 3) := by decide +kernel
theorem d_M_back_94 : decode b_M_back 94 = .ok (.iload_n 1, 1) := by decide +kernel
theorem d_M_back_95 : decode b_M_back 95 = .ok (.iconst 1, 1) := by decide +kernel
theorem d_M_back_96 : decode b_M_back 96 = .ok (.if_icmp .ne 35, 3) := by decide +kernel
theorem d_M_back_99 : decode b_M_back 99 = .ok (.aload_n 0, 1) := by decide +kernel
theorem d_M_back_100 : decode b_M_back 100 = .ok (.aload_n 0, 1) := by decide +kernel
theorem d_M_back_101 : decode b_M_back 101 = .ok (.getfield 138, 3) := by decide +kernel
theorem d_M_back_104 : decode b_M_back 104 = .ok (.ifCond .eq 10, 3) := by decide +kernel
theorem d_M_back_107 : decode b_M_back 107 = .ok (.aload_n 0, 1) := by decide +kernel
theorem d_M_back_108 : decode b_M_back 108 = .ok (.getfield 141, 3) := by decide +kernel
theorem d_M_back_111 : decode b_M_back 111 = .ok (.goto 14, 3) := by decide +kernel
theorem d_M_back_114 : decode b_M_back 114 = .ok (.aload_n 0, 1) := by decide +kernel
theorem d_M_back_115 : decode b_M_back 115 = .ok (.getfield 141, 3) := by decide +kernel
theorem d_M_back_118 : decode b_M_back 118 = .ok (.aload_n 0, 1) := by decide +kernel
theorem d_M_back_119 : decode b_M_back 119 = .ok (.getfield 25, 3) := by decide +kernel
theorem d_M_back_122 : decode b_M_back 122 = .ok (.iload_n 2, 1) := by decide +kernel
theorem d_M_back_123 : decode b_M_back 123 = .ok (.iaload, 1) := by decide +kernel
theorem d_M_back_124 : decode b_M_back 124 = .ok (.iadd, 1) := by decide +kernel
theorem d_M_back_125 : decode b_M_back 125 = .ok (.putfield 141, 3) := by decide +kernel
theorem d_M_back_128 : decode b_M_back 128 = .ok (.goto 209, 3) := by decide +kernel
theorem d_M_back_131 : decode b_M_back 131 = .ok (.iload_n 1, 1) := by decide +kernel
theorem d_M_back_132 : decode b_M_back 132 = .ok (.iconst 3, 1) := by decide +kernel
theorem d_M_back_133 : decode b_M_back 133 = .ok (.if_icmp .ne 11, 3) := by decide +kernel
theorem d_M_back_136 : decode b_M_back 136 = .ok (.aload_n 0, 1) := by decide +kernel
theorem d_M_back_137 : decode b_M_back 137 = .ok (.iload_n 2, 1) := by decide +kernel
theorem d_M_back_138 : decode b_M_back 138 = .ok (.invokevirtual 176, 3) := by decide +kernel
theorem d_M_back_141 : decode b_M_back 141 = .ok (.goto 196, 3) := by decide +kernel
theorem d_M_back_144 : decode b_M_back 144 = .ok (.iload_n 1, 1) := by decide +kernel
theorem d_M_back_145 : decode b_M_back 145 = .ok (.bipush 6, 2) := by decide +kernel
theorem d_M_back_147 : decode b_M_back 147 = .ok (.if_icmp .ne 54, 3) := by decide +kernel
theorem d_M_back_150 : decode b_M_back 150 = .ok (.aload_n 0, 1) := by decide +kernel
theorem d_M_back_151 : decode b_M_back 151 = .ok (.aload_n 0, 1) := by decide +kernel
theorem d_M_back_152 : decode b_M_back 152 = .ok (.getfield 7, 3) := by decide +kernel
theorem d_M_back_155 : decode b_M_back 155 = .ok (.iload_n 2, 1) := by decide +kernel
theorem d_M_back_156 : decode b_M_back 156 = .ok (.iaload, 1) := by decide +kernel
theorem d_M_back_157 : decode b_M_back 157 = .ok (.aload_n 0, 1) := by decide +kernel
theorem d_M_back_158 : decode b_M_back 158 = .ok (.getfield 74, 3) := by decide +kernel
theorem d_M_back_161 : decode b_M_back 161 = .ok (.aload_n 0, 1) := by decide +kernel
theorem d_M_back_162 : decode b_M_back 162 = .ok (.getfield 144, 3) := by decide +kernel
theorem d_M_back_165 : decode b_M_back 165 = .ok (.iaload, 1) := by decide +kernel
theorem d_M_back_166 : decode b_M_back 166 = .ok (.invokevirtual 164, 3) := by decide +kernel
theorem d_M_back_169 : decode b_M_back 169 = .ok (.aload_n 0, 1) := by decide +kernel
theorem d_M_back_170 : decode b_M_back 170 = .ok (.getfield 74, 3) := by decide +kernel
theorem d_M_back_173 : decode b_M_back 173 = .ok (.aload_n 0, 1) := by decide +kernel
theorem d_M_back_174 : decode b_M_back 174 = .ok (.getfield 144, 3) := by decide +kernel
theorem d_M_back_177 : decode b_M_back 177 = .ok (.iaload, 1) := by decide +kernel
theorem d_M_back_178 : decode b_M_back 178 = .ok (.aload_n 0, 1) := by decide +kernel
theorem d_M_back_179 : decode b_M_back 179 = .ok (.getfield 22, 3) := by decide +kernel
theorem d_M_back_182 : decode b_M_back 182 = .ok (.iload_n 2, 1) := by decide +kernel
theorem d_M_back_183 : decode b_M_back 183 = .ok (.iaload, 1) := by decide +kernel
theorem d_M_back_184 : decode b_M_back 184 = .ok (.if_icmp .ne 153, 3) := by decide +kernel
theorem d_M_back_187 : decode b_M_back 187 = .ok (.aload_n 0, 1) := by decide +kernel
theorem d_M_back_188 : decode b_M_back 188 = .ok (.iconst 1, 1) := by decide +kernel
theorem d_M_back_189 : decode b_M_back 189 = .ok (.aload_n 0, 1) := by decide +kernel
theorem d_M_back_190 : decode b_M_back 190 = .ok (.getfield 25, 3) := by decide +kernel
theorem d_M_back_193 : decode b_M_back 193 = .ok (.iload_n 2, 1) := by decide +kernel
theorem d_M_back_194 : decode b_M_back 194 = .ok (.iaload, 1) := by decide +kernel
theorem d_M_back_195 : decode b_M_back 195 = .ok (.invokevirtual 150, 3) := by decide +kernel
theorem d_M_back_198 : decode b_M_back 198 = .ok (.goto 139, 3) := by decide +kernel
theorem d_M_back_201 : decode b_M_back 201 = .ok (.iload_n 1, 1) := by decide +kernel
theorem d_M_back_202 : decode b_M_back 202 = .ok (.iconst 4, 1) := by decide +kernel
theorem d_M_back_203 : decode b_M_back 203 = .ok (.if_icmp .ne 51, 3) := by decide +kernel
theorem d_M_back_206 : decode b_M_back 206 = .ok (.aload_n 0, 1) := by decide +kernel
theorem d_M_back_207 : decode b_M_back 207 = .ok (.getfield 138, 3) := by decide +kernel
theorem d_M_back_210 : decode b_M_back 210 = .ok (.ifCond .ne 44, 3) := by decide +kernel
theorem d_M_back_213 : decode b_M_back 213 = .ok (.aload_n 0, 1) := by decide +kernel
theorem d_M_back_214 : decode b_M_back 214 = .ok (.aload_n 0, 1) := by decide +kernel
theorem d_M_back_215 : decode b_M_back 215 = .ok (.getfield 7, 3) := by decide +kernel
theorem d_M_back_218 : decode b_M_back 218 = .ok (.iload_n 2, 1) := by decide +kernel
theorem d_M_back_219 : decode b_M_back 219 = .ok (.iaload, 1) := by decide +kernel
theorem d_M_back_220 : decode b_M_back 220 = .ok (.aload_n 0, 1) := by decide +kernel
theorem d_M_back_221 : decode b_M_back 221 = .ok (.getfield 141, 3) := by decide +kernel
theorem d_M_back_224 : decode b_M_back 224 = .ok (.invokevirtual 164, 3) := by decide +kernel
theorem d_M_back_227 : decode b_M_back 227 = .ok (.aload_n 0, 1) := by decide +kernel
theorem d_M_back_228 : decode b_M_back 228 = .ok (.getfield 141, 3) := by decide +kernel
theorem d_M_back_231 : decode b_M_back 231 = .ok (.aload_n 0, 1) := by decide +kernel
theorem d_M_back_232 : decode b_M_back 232 = .ok (.getfield 22, 3) := by decide +kernel
theorem d_M_back_235 : decode b_M_back 235 = .ok (.iload_n 2, 1) := by decide +kernel
theorem d_M_back_236 : decode b_M_back 236 = .ok (.iaload, 1) := by decide +kernel
theorem d_M_back_237 : decode b_M_back 237 = .ok (.if_icmp .ne 100, 3) := by decide +kernel
theorem d_M_back_240 : decode b_M_back 240 = .ok (.aload_n 0, 1) := by decide +kernel
theorem d_M_back_241 : decode b_M_back 241 = .ok (.iconst 1, 1) := by decide +kernel
theorem d_M_back_242 : decode b_M_back 242 = .ok (.aload_n 0, 1) := by decide +kernel
theorem d_M_back_243 : decode b_M_back 243 = .ok (.getfield 25, 3) := by decide +kernel
theorem d_M_back_246 : decode b_M_back 246 = .ok (.iload_n 2, 1) := by decide +kernel
theorem d_M_back_247 : decode b_M_back 247 = .ok (.iaload, 1) := by decide +kernel
theorem d_M_back_248 : decode b_M_back 248 = .ok (.invokevirtual 150, 3) := by decide +kernel
theorem d_M_back_251 : decode b_M_back 251 = .ok (.goto 86, 3) := by decide +kernel
theorem d_M_back_254 : decode b_M_back 254 = .ok (.iload_n 1, 1) := by decide +kernel
theorem d_M_back_255 : decode b_M_back 255 = .ok (.iconst 5, 1) := by decide +kernel
theorem d_M_back_256 : decode b_M_back 256 = .ok (.if_icmp .lt 81, 3) := by decide +kernel
theorem d_M_back_259 : decode b_M_back 259 = .ok (.aload_n 0, 1) := by decide +kernel
theorem d_M_back_260 : decode b_M_back 260 = .ok (.getfield 138, 3) := by decide +kernel
theorem d_M_back_263 : decode b_M_back 263 = .ok (.ifCond .eq 74, 3) := by decide +kernel
theorem d_M_back_266 : decode b_M_back 266 = .ok (.aload_n 0, 1) := by decide +kernel
theorem d_M_back_267 : decode b_M_back 267 = .ok (.getfield 141, 3) := by decide +kernel
theorem d_M_back_270 : decode b_M_back 270 = .ok (.aload_n 0, 1) := by decide +kernel
theorem d_M_back_271 : decode b_M_back 271 = .ok (.getfield 22, 3) := by decide +kernel
theorem d_M_back_274 : decode b_M_back 274 = .ok (.iload_n 2, 1) := by decide +kernel
theorem d_M_back_275 : decode b_M_back 275 = .ok (.iaload, 1) := by decide +kernel
theorem d_M_back_276 : decode b_M_back 276 = .ok (.invokestatic 180, 3) := by decide +kernel
theorem d_M_back_279 : decode b_M_back 279 = .ok (.ifCond .eq 58, 3) := by decide +kernel
theorem d_M_back_282 : decode b_M_back 282 = .ok (.aload_n 0, 1) := by decide +kernel
theorem d_M_back_283 : decode b_M_back 283 = .ok (.aload_n 0, 1) := by decide +kernel
theorem d_M_back_284 : decode b_M_back 284 = .ok (.getfield 7, 3) := by decide +kernel
theorem d_M_back_287 : decode b_M_back 287 = .ok (.iload_n 2, 1) := by decide +kernel
theorem d_M_back_288 : decode b_M_back 288 = .ok (.iaload, 1) := by decide +kernel
theorem d_M_back_289 : decode b_M_back 289 = .ok (.aload_n 0, 1) := by decide +kernel
theorem d_M_back_290 : decode b_M_back 290 = .ok (.getfield 141, 3) := by decide +kernel
theorem d_M_back_293 : decode b_M_back 293 = .ok (.invokevirtual 164, 3) := by decide +kernel
theorem d_M_back_296 : decode b_M_back 296 = .ok (.aload_n 0, 1) := by decide +kernel
theorem d_M_back_297 : decode b_M_back 297 = .ok (.iload_n 1, 1) := by decide +kernel
theorem d_M_back_298 : decode b_M_back 298 = .ok (.iconst 5, 1) := by decide +kernel
theorem d_M_back_299 : decode b_M_back 299 = .ok (.if_icmp .ne 7, 3) := by decide +kernel
theorem d_M_back_302 : decode b_M_back 302 = .ok (.iconst 1, 1) := by decide +kernel
theorem d_M_back_303 : decode b_M_back 303 = .ok (.goto 4, 3) := by decide +kernel
theorem d_M_back_306 : decode b_M_back 306 = .ok (.iconst 0, 1) := by decide +kernel
theorem d_M_back_307 : decode b_M_back 307 = .ok (.iload_n 1, 1) := by decide +kernel
theorem d_M_back_308 : decode b_M_back 308 = .ok (.iconst 5, 1) := by decide +kernel
theorem d_M_back_309 : decode b_M_back 309 = .ok (.if_icmp .ne 19, 3) := by decide +kernel
theorem d_M_back_312 : decode b_M_back 312 = .ok (.aload_n 0, 1) := by decide +kernel
theorem d_M_back_313 : decode b_M_back 313 = .ok (.getfield 25, 3) := by decide +kernel
theorem d_M_back_316 : decode b_M_back 316 = .ok (.iload_n 2, 1) := by decide +kernel
theorem d_M_back_317 : decode b_M_back 317 = .ok (.iaload, 1) := by decide +kernel
theorem d_M_back_318 : decode b_M_back 318 = .ok (.ifCond .ne 10, 3) := by decide +kernel
theorem d_M_back_321 : decode b_M_back 321 = .ok (.aload_n 0, 1) := by decide +kernel
theorem d_M_back_322 : decode b_M_back 322 = .ok (.getfield 141, 3) := by decide +kernel
theorem d_M_back_325 : decode b_M_back 325 = .ok (.goto 9, 3) := by decide +kernel
theorem d_M_back_328 : decode b_M_back 328 = .ok (.aload_n 0, 1) := by decide +kernel
theorem d_M_back_329 : decode b_M_back 329 = .ok (.getfield 25, 3) := by decide +kernel
theorem d_M_back_332 : decode b_M_back 332 = .ok (.iload_n 2, 1) := by decide +kernel
theorem d_M_back_333 : decode b_M_back 333 = .ok (.iaload, 1) := by decide +kernel
theorem d_M_back_334 : decode b_M_back 334 = .ok (.invokevirtual 150, 3) := by decide +kernel
theorem d_M_back_337 : decode b_M_back 337 = .ok (.return_, 1) := by decide +kernel
theorem d_M_twice_0 : decode b_M_twice 0 = .ok (.aload_n 0, 1) := by decide +kernel
theorem d_M_twice_1 : decode b_M_twice 1 = .ok (.getfield 138, 3) := by decide +kernel
theorem d_M_twice_4 : decode b_M_twice 4 = .ok (.ifCond .eq 4, 3) := by decide +kernel
theorem d_M_twice_7 : decode b_M_twice 7 = .ok (.return_, 1) := by decide +kernel
theorem d_M_twice_8 : decode b_M_twice 8 = .ok (.aload_n 0, 1) := by decide +kernel
theorem d_M_twice_9 : decode b_M_twice 9 = .ok (.getfield 80, 3) := by decide +kernel
theorem d_M_twice_12 : decode b_M_twice 12 = .ok (.aload_n 0, 1) := by decide +kernel
theorem d_M_twice_13 : decode b_M_twice 13 = .ok (.getfield 144, 3) := by decide +kernel
theorem d_M_twice_16 : decode b_M_twice 16 = .ok (.baload, 1) := by decide +kernel
theorem d_M_twice_17 : decode b_M_twice 17 = .ok (.ifCond .eq 29, 3) := by decide +kernel
theorem d_M_twice_20 : decode b_M_twice 20 = .ok (.aload_n 0, 1) := by decide +kernel
theorem d_M_twice_21 : decode b_M_twice 21 = .ok (.aload_n 0, 1) := by decide +kernel
theorem d_M_twice_22 : decode b_M_twice 22 = .ok (.getfield 77, 3) := by decide +kernel
theorem d_M_twice_25 : decode b_M_twice 25 = .ok (.aload_n 0, 1) := by decide +kernel
theorem d_M_twice_26 : decode b_M_twice 26 = .ok (.getfield 144, 3) := by decide +kernel
theorem d_M_twice_29 : decode b_M_twice 29 = .ok (.iaload, 1) := by decide +kernel
theorem d_M_twice_30 : decode b_M_twice 30 = .ok (.aload_n 0, 1) := by decide +kernel
theorem d_M_twice_31 : decode b_M_twice 31 = .ok (.getfield 141, 3) := by decide +kernel
theorem d_M_twice_34 : decode b_M_twice 34 = .ok (.iadd, 1) := by decide +kernel
theorem d_M_twice_35 : decode b_M_twice 35 = .ok (.aload_n 0, 1) := by decide +kernel
theorem d_M_twice_36 : decode b_M_twice 36 = .ok (.getfield 25, 3) := by decide +kernel
theorem d_M_twice_39 : decode b_M_twice 39 = .ok (.iload_n 1, 1) := by decide +kernel
theorem d_M_twice_40 : decode b_M_twice 40 = .ok (.iaload, 1) := by decide +kernel
theorem d_M_twice_41 : decode b_M_twice 41 = .ok (.iadd, 1) := by decide +kernel
theorem d_M_twice_42 : decode b_M_twice 42 = .ok (.putfield 141, 3) := by decide +kernel
theorem d_M_twice_45 : decode b_M_twice 45 = .ok (.return_, 1) := by decide +kernel
theorem d_M_twice_46 : decode b_M_twice 46 = .ok (.aload_n 0, 1) := by decide +kernel
theorem d_M_twice_47 : decode b_M_twice 47 = .ok (.getfield 80, 3) := by decide +kernel
theorem d_M_twice_50 : decode b_M_twice 50 = .ok (.aload_n 0, 1) := by decide +kernel
theorem d_M_twice_51 : decode b_M_twice 51 = .ok (.getfield 144, 3) := by decide +kernel
theorem d_M_twice_54 : decode b_M_twice 54 = .ok (.iconst 1, 1) := by decide +kernel
theorem d_M_twice_55 : decode b_M_twice 55 = .ok (.bastore, 1) := by decide +kernel
theorem d_M_twice_56 : decode b_M_twice 56 = .ok (.aload_n 0, 1) := by decide +kernel
theorem d_M_twice_57 : decode b_M_twice 57 = .ok (.getfield 77, 3) := by decide +kernel
theorem d_M_twice_60 : decode b_M_twice 60 = .ok (.aload_n 0, 1) := by decide +kernel
theorem d_M_twice_61 : decode b_M_twice 61 = .ok (.getfield 144, 3) := by decide +kernel
theorem d_M_twice_64 : decode b_M_twice 64 = .ok (.aload_n 0, 1) := by decide +kernel
theorem d_M_twice_65 : decode b_M_twice 65 = .ok (.getfield 141, 3) := by decide +kernel
theorem d_M_twice_68 : decode b_M_twice 68 = .ok (.iastore, 1) := by decide +kernel
theorem d_M_twice_69 : decode b_M_twice 69 = .ok (.aload_n 0, 1) := by decide +kernel
theorem d_M_twice_70 : decode b_M_twice 70 = .ok (.aload_n 0, 1) := by decide +kernel
theorem d_M_twice_71 : decode b_M_twice 71 = .ok (.getfield 68, 3) := by decide +kernel
theorem d_M_twice_74 : decode b_M_twice 74 = .ok (.aload_n 0, 1) := by decide +kernel
theorem d_M_twice_75 : decode b_M_twice 75 = .ok (.getfield 144, 3) := by decide +kernel
theorem d_M_twice_78 : decode b_M_twice 78 = .ok (.iaload, 1) := by decide +kernel
theorem d_M_twice_79 : decode b_M_twice 79 = .ok (.iconst 1, 1) := by decide +kernel
theorem d_M_twice_80 : decode b_M_twice 80 = .ok (.iadd, 1) := by decide +kernel
theorem d_M_twice_81 : decode b_M_twice 81 = .ok (.aload_n 0, 1) := by decide +kernel
theorem d_M_twice_82 : decode b_M_twice 82 = .ok (.getfield 74, 3) := by decide +kernel
theorem d_M_twice_85 : decode b_M_twice 85 = .ok (.aload_n 0, 1) := by decide +kernel
theorem d_M_twice_86 : decode b_M_twice 86 = .ok (.getfield 144, 3) := by decide +kernel
theorem d_M_twice_89 : decode b_M_twice 89 = .ok (.iaload, 1) := by decide +kernel
theorem d_M_twice_90 : decode b_M_twice 90 = .ok (.aload_n 0, 1) := by decide +kernel
theorem d_M_twice_91 : decode b_M_twice 91 = .ok (.getfield 22, 3) := by decide +kernel
theorem d_M_twice_94 : decode b_M_twice 94 = .ok (.iload_n 1, 1) := by decide +kernel
theorem d_M_twice_95 : decode b_M_twice 95 = .ok (.iaload, 1) := by decide +kernel
theorem d_M_twice_96 : decode b_M_twice 96 = .ok (.iadd, 1) := by decide +kernel
theorem d_M_twice_97 : decode b_M_twice 97 = .ok (.invokevirtual 161, 3) := by decide +kernel
theorem d_M_twice_100 : decode b_M_twice 100 = .ok (.aload_n 0, 1) := by decide +kernel
theorem d_M_twice_101 : decode b_M_twice 101 = .ok (.dup, 1) := by decide +kernel
theorem d_M_twice_102 : decode b_M_twice 102 = .ok (.getfield 144, 3) := by decide +kernel
theorem d_M_twice_105 : decode b_M_twice 105 = .ok (.iconst 1, 1) := by decide +kernel
theorem d_M_twice_106 : decode b_M_twice 106 = .ok (.iadd, 1) := by decide +kernel
theorem d_M_twice_107 : decode b_M_twice 107 = .ok (.putfield 144, 3) := by decide +kernel
theorem d_M_twice_110 : decode b_M_twice 110 = .ok (.return_, 1) := by decide +kernel
theorem d_M_invoke_0 : decode b_M_invoke 0 = .ok (.iload_n 1, 1) := by decide +kernel
theorem d_M_invoke_1 : decode b_M_invoke 1 = .ok (.iconst 0, 1) := by decide +kernel
theorem d_M_invoke_2 : decode b_M_invoke 2 = .ok (.iconst 5, 1) := by decide +kernel
theorem d_M_invoke_3 : decode b_M_invoke 3 = .ok (.invokestatic 83, 3) := by decide +kernel
theorem d_M_invoke_6 : decode b_M_invoke 6 = .ok (.ifCond .ne 5, 3) := by decide +kernel
theorem d_M_invoke_9 : decode b_M_invoke 9 = .ok (.iconst (-1), 1) := by decide +kernel
theorem d_M_invoke_10 : decode b_M_invoke 10 = .ok (.ireturn, 1) := by decide +kernel
theorem d_M_invoke_11 : decode b_M_invoke 11 = .ok (.aload_n 0, 1) := by decide +kernel
theorem d_M_invoke_12 : decode b_M_invoke 12 = .ok (.iconst 0, 1) := by decide +kernel
theorem d_M_invoke_13 : decode b_M_invoke 13 = .ok (.putfield 123, 3) := by decide +kernel
theorem d_M_invoke_16 : decode b_M_invoke 16 = .ok (.aload_n 0, 1) := by decide +kernel
theorem d_M_invoke_17 : decode b_M_invoke 17 = .ok (.iconst 0, 1) := by decide +kernel
theorem d_M_invoke_18 : decode b_M_invoke 18 = .ok (.putfield 173, 3) := by decide +kernel
theorem d_M_invoke_21 : decode b_M_invoke 21 = .ok (.aload_n 0, 1) := by decide +kernel
theorem d_M_invoke_22 : decode b_M_invoke 22 = .ok (.iconst 0, 1) := by decide +kernel
theorem d_M_invoke_23 : decode b_M_invoke 23 = .ok (.putfield 154, 3) := by decide +kernel
theorem d_M_invoke_26 : decode b_M_invoke 26 = .ok (.aload_n 0, 1) := by decide +kernel
theorem d_M_invoke_27 : decode b_M_invoke 27 = .ok (.iconst 0, 1) := by decide +kernel
theorem d_M_invoke_28 : decode b_M_invoke 28 = .ok (.putfield 126, 3) := by decide +kernel
theorem d_M_invoke_31 : decode b_M_invoke 31 = .ok (.aload_n 0, 1) := by decide +kernel
theorem d_M_invoke_32 : decode b_M_invoke 32 = .ok (.iconst 0, 1) := by decide +kernel
theorem d_M_invoke_33 : decode b_M_invoke 33 = .ok (.putfield 147, 3) := by decide +kernel
theorem d_M_invoke_36 : decode b_M_invoke 36 = .ok (.aload_n 0, 1) := by decide +kernel
theorem d_M_invoke_37 : decode b_M_invoke 37 = .ok (.iconst 0, 1) := by decide +kernel
theorem d_M_invoke_38 : decode b_M_invoke 38 = .ok (.putfield 144, 3) := by decide +kernel
theorem d_M_invoke_41 : decode b_M_invoke 41 = .ok (.aload_n 0, 1) := by decide +kernel
theorem d_M_invoke_42 : decode b_M_invoke 42 = .ok (.iload_n 1, 1) := by decide +kernel
theorem d_M_invoke_43 : decode b_M_invoke 43 = .ok (.iload_n 2, 1) := by decide +kernel
theorem d_M_invoke_44 : decode b_M_invoke 44 = .ok (.invokevirtual 167, 3) := by decide +kernel
theorem d_M_invoke_47 : decode b_M_invoke 47 = .ok (.aload_n 0, 1) := by decide +kernel
theorem d_M_invoke_48 : decode b_M_invoke 48 = .ok (.getfield 126, 3) := by decide +kernel
theorem d_M_invoke_51 : decode b_M_invoke 51 = .ok (.ifCond .ne 38, 3) := by decide +kernel
theorem d_M_invoke_54 : decode b_M_invoke 54 = .ok (.aload_n 0, 1) := by decide +kernel
theorem d_M_invoke_55 : decode b_M_invoke 55 = .ok (.getfield 129, 3) := by decide +kernel
theorem d_M_invoke_58 : decode b_M_invoke 58 = .ok (.ifCond .ne 10, 3) := by decide +kernel
theorem d_M_invoke_61 : decode b_M_invoke 61 = .ok (.aload_n 0, 1) := by decide +kernel
theorem d_M_invoke_62 : decode b_M_invoke 62 = .ok (.getfield 144, 3) := by decide +kernel
theorem d_M_invoke_65 : decode b_M_invoke 65 = .ok (.ifCond .le 24, 3) := by decide +kernel
theorem d_M_invoke_68 : decode b_M_invoke 68 = .ok (.aload_n 0, 1) := by decide +kernel
theorem d_M_invoke_69 : decode b_M_invoke 69 = .ok (.getfield 129, 3) := by decide +kernel
theorem d_M_invoke_72 : decode b_M_invoke 72 = .ok (.ifCond .eq 10, 3) := by decide +kernel
theorem d_M_invoke_75 : decode b_M_invoke 75 = .ok (.aload_n 0, 1) := by decide +kernel
theorem d_M_invoke_76 : decode b_M_invoke 76 = .ok (.invokevirtual 183, 3) := by decide +kernel
theorem d_M_invoke_79 : decode b_M_invoke 79 = .ok (.goto (-32), 3) := by decide +kernel
theorem d_M_invoke_82 : decode b_M_invoke 82 = .ok (.aload_n 0, 1) := by decide +kernel
theorem d_M_invoke_83 : decode b_M_invoke 83 = .ok (.invokevirtual 186, 3) := by decide +kernel
theorem d_M_invoke_86 : decode b_M_invoke 86 = .ok (.goto (-39), 3) := by decide +kernel
theorem d_M_invoke_89 : decode b_M_invoke 89 = .ok (.aload_n 0, 1) := by decide +kernel
theorem d_M_invoke_90 : decode b_M_invoke 90 = .ok (.aload_n 0, 1) := by decide +kernel
theorem d_M_invoke_91 : decode b_M_invoke 91 = .ok (.getfield 126, 3) := by decide +kernel
theorem d_M_invoke_94 : decode b_M_invoke 94 = .ok (.ifCond .eq 7, 3) := by decide +kernel
theorem d_M_invoke_97 : decode b_M_invoke 97 = .ok (.iconst 0, 1) := by decide +kernel
theorem d_M_invoke_98 : decode b_M_invoke 98 = .ok (.goto 7, 3) := by decide +kernel
theorem d_M_invoke_101 : decode b_M_invoke 101 = .ok (.aload_n 0, 1) := by decide +kernel
theorem d_M_invoke_102 : decode b_M_invoke 102 = .ok (.getfield 141, 3) := by decide +kernel
theorem d_M_invoke_105 : decode b_M_invoke 105 = .ok (.putfield 189, 3) := by decide +kernel
theorem d_M_invoke_108 : decode b_M_invoke 108 = .ok (.aload_n 0, 1) := by decide +kernel
theorem d_M_invoke_109 : decode b_M_invoke 109 = .ok (.getfield 126, 3) := by decide +kernel
theorem d_M_invoke_112 : decode b_M_invoke 112 = .ok (.ifCond .eq 7, 3) := by decide +kernel
theorem d_M_invoke_115 : decode b_M_invoke 115 = .ok (.iconst 2, 1) := by decide +kernel
theorem d_M_invoke_116 : decode b_M_invoke 116 = .ok (.goto 15, 3) := by decide +kernel
theorem d_M_invoke_119 : decode b_M_invoke 119 = .ok (.aload_n 0, 1) := by decide +kernel
theorem d_M_invoke_120 : decode b_M_invoke 120 = .ok (.getfield 138, 3) := by decide +kernel
theorem d_M_invoke_123 : decode b_M_invoke 123 = .ok (.ifCond .eq 7, 3) := by decide +kernel
theorem d_M_invoke_126 : decode b_M_invoke 126 = .ok (.iconst 1, 1) := by decide +kernel
theorem d_M_invoke_127 : decode b_M_invoke 127 = .ok (.goto 4, 3) := by decide +kernel
theorem d_M_invoke_130 : decode b_M_invoke 130 = .ok (.iconst 0, 1) := by decide +kernel
theorem d_M_invoke_131 : decode b_M_invoke 131 = .ok (.ireturn, 1) := by decide +kernel
theorem d_M_result_0 : decode b_M_result 0 = .ok (.aload_n 0, 1) := by decide +kernel
theorem d_M_result_1 : decode b_M_result 1 = .ok (.getfield 189, 3) := by decide +kernel
theorem d_M_result_4 : decode b_M_result 4 = .ok (.ireturn, 1) := by decide +kernel
theorem d_M_events_0 : decode b_M_events 0 = .ok (.aload_n 0, 1) := by decide +kernel
theorem d_M_events_1 : decode b_M_events 1 = .ok (.getfield 123, 3) := by decide +kernel
theorem d_M_events_4 : decode b_M_events 4 = .ok (.ireturn, 1) := by decide +kernel
theorem d_M_who_0 : decode b_M_who 0 = .ok (.iload_n 1, 1) := by decide +kernel
theorem d_M_who_1 : decode b_M_who 1 = .ok (.iconst 0, 1) := by decide +kernel
theorem d_M_who_2 : decode b_M_who 2 = .ok (.aload_n 0, 1) := by decide +kernel
theorem d_M_who_3 : decode b_M_who 3 = .ok (.getfield 123, 3) := by decide +kernel
theorem d_M_who_6 : decode b_M_who 6 = .ok (.iconst 1, 1) := by decide +kernel
theorem d_M_who_7 : decode b_M_who 7 = .ok (.isub, 1) := by decide +kernel
theorem d_M_who_8 : decode b_M_who 8 = .ok (.invokestatic 83, 3) := by decide +kernel
theorem d_M_who_11 : decode b_M_who 11 = .ok (.ifCond .eq 12, 3) := by decide +kernel
theorem d_M_who_14 : decode b_M_who 14 = .ok (.aload_n 0, 1) := by decide +kernel
theorem d_M_who_15 : decode b_M_who 15 = .ok (.getfield 53, 3) := by decide +kernel
theorem d_M_who_18 : decode b_M_who 18 = .ok (.iload_n 1, 1) := by decide +kernel
theorem d_M_who_19 : decode b_M_who 19 = .ok (.iaload, 1) := by decide +kernel
theorem d_M_who_20 : decode b_M_who 20 = .ok (.goto 4, 3) := by decide +kernel
theorem d_M_who_23 : decode b_M_who 23 = .ok (.iconst (-1), 1) := by decide +kernel
theorem d_M_who_24 : decode b_M_who 24 = .ok (.ireturn, 1) := by decide +kernel
theorem d_M_what_0 : decode b_M_what 0 = .ok (.iload_n 1, 1) := by decide +kernel
theorem d_M_what_1 : decode b_M_what 1 = .ok (.iconst 0, 1) := by decide +kernel
theorem d_M_what_2 : decode b_M_what 2 = .ok (.aload_n 0, 1) := by decide +kernel
theorem d_M_what_3 : decode b_M_what 3 = .ok (.getfield 123, 3) := by decide +kernel
theorem d_M_what_6 : decode b_M_what 6 = .ok (.iconst 1, 1) := by decide +kernel
theorem d_M_what_7 : decode b_M_what 7 = .ok (.isub, 1) := by decide +kernel
theorem d_M_what_8 : decode b_M_what 8 = .ok (.invokestatic 83, 3) := by decide +kernel
theorem d_M_what_11 : decode b_M_what 11 = .ok (.ifCond .eq 12, 3) := by decide +kernel
theorem d_M_what_14 : decode b_M_what 14 = .ok (.aload_n 0, 1) := by decide +kernel
theorem d_M_what_15 : decode b_M_what 15 = .ok (.getfield 56, 3) := by decide +kernel
theorem d_M_what_18 : decode b_M_what 18 = .ok (.iload_n 1, 1) := by decide +kernel
theorem d_M_what_19 : decode b_M_what 19 = .ok (.iaload, 1) := by decide +kernel
theorem d_M_what_20 : decode b_M_what 20 = .ok (.goto 4, 3) := by decide +kernel
theorem d_M_what_23 : decode b_M_what 23 = .ok (.iconst 0, 1) := by decide +kernel
theorem d_M_what_24 : decode b_M_what 24 = .ok (.ireturn, 1) := by decide +kernel
theorem d_M_asked_0 : decode b_M_asked 0 = .ok (.aload_n 0, 1) := by decide +kernel
theorem d_M_asked_1 : decode b_M_asked 1 = .ok (.getfield 173, 3) := by decide +kernel
theorem d_M_asked_4 : decode b_M_asked 4 = .ok (.ireturn, 1) := by decide +kernel
theorem d_M_taken_0 : decode b_M_taken 0 = .ok (.aload_n 0, 1) := by decide +kernel
theorem d_M_taken_1 : decode b_M_taken 1 = .ok (.getfield 154, 3) := by decide +kernel
theorem d_M_taken_4 : decode b_M_taken 4 = .ok (.ireturn, 1) := by decide +kernel
