/-! decode rows 2800 .. (printed) -/
theorem d_Mo_reckon_124 : decode c_Mo_reckon 124 = .ok (.getfield 38, 3) := by decide +kernel
theorem d_Mo_reckon_127 : decode c_Mo_reckon 127 = .ok (.iload_n 2, 1) := by decide +kernel
theorem d_Mo_reckon_128 : decode c_Mo_reckon 128 = .ok (.iaload, 1) := by decide +kernel
theorem d_Mo_reckon_129 : decode c_Mo_reckon 129 = .ok (.invokestatic 130, 3) := by decide +kernel
theorem d_Mo_reckon_132 : decode c_Mo_reckon 132 = .ok (.iadd, 1) := by decide +kernel
theorem d_Mo_reckon_133 : decode c_Mo_reckon 133 = .ok (.istore 7, 2) := by decide +kernel
theorem d_Mo_reckon_135 : decode c_Mo_reckon 135 = .ok (.iload 6, 2) := by decide +kernel
theorem d_Mo_reckon_137 : decode c_Mo_reckon 137 = .ok (.iload 7, 2) := by decide +kernel
theorem d_Mo_reckon_139 : decode c_Mo_reckon 139 = .ok (.invokestatic 120, 3) := by decide +kernel
theorem d_Mo_reckon_142 : decode c_Mo_reckon 142 = .ok (.aload_n 0, 1) := by decide +kernel
theorem d_Mo_reckon_143 : decode c_Mo_reckon 143 = .ok (.getfield 35, 3) := by decide +kernel
theorem d_Mo_reckon_146 : decode c_Mo_reckon 146 = .ok (.iload_n 2, 1) := by decide +kernel
theorem d_Mo_reckon_147 : decode c_Mo_reckon 147 = .ok (.iaload, 1) := by decide +kernel
theorem d_Mo_reckon_148 : decode c_Mo_reckon 148 = .ok (.aload_n 0, 1) := by decide +kernel
theorem d_Mo_reckon_149 : decode c_Mo_reckon 149 = .ok (.getfield 35, 3) := by decide +kernel
theorem d_Mo_reckon_152 : decode c_Mo_reckon 152 = .ok (.iload_n 3, 1) := by decide +kernel
theorem d_Mo_reckon_153 : decode c_Mo_reckon 153 = .ok (.iaload, 1) := by decide +kernel
theorem d_Mo_reckon_154 : decode c_Mo_reckon 154 = .ok (.iadd, 1) := by decide +kernel
theorem d_Mo_reckon_155 : decode c_Mo_reckon 155 = .ok (.invokestatic 120, 3) := by decide +kernel
theorem d_Mo_reckon_158 : decode c_Mo_reckon 158 = .ok (.istore 8, 2) := by decide +kernel
theorem d_Mo_reckon_160 : decode c_Mo_reckon 160 = .ok (.aload_n 0, 1) := by decide +kernel
theorem d_Mo_reckon_161 : decode c_Mo_reckon 161 = .ok (.iload 8, 2) := by decide +kernel
theorem d_Mo_reckon_163 : decode c_Mo_reckon 163 = .ok (.bipush 31, 2) := by decide +kernel
theorem d_Mo_reckon_165 : decode c_Mo_reckon 165 = .ok (.if_icmp .le 8, 3) := by decide +kernel
theorem d_Mo_reckon_168 : decode c_Mo_reckon 168 = .ok (.bipush 32, 2) := by decide +kernel
theorem d_Mo_reckon_170 : decode c_Mo_reckon 170 = .ok (.goto 17, 3) := by decide +kernel
theorem d_Mo_reckon_173 : decode c_Mo_reckon 173 = .ok (.iload 8, 2) := by decide +kernel
theorem d_Mo_reckon_175 : decode c_Mo_reckon 175 = .ok (.bipush 16, 2) := by decide +kernel
theorem d_Mo_reckon_177 : decode c_Mo_reckon 177 = .ok (.if_icmp .le 8, 3) := by decide +kernel
theorem d_Mo_reckon_180 : decode c_Mo_reckon 180 = .ok (.bipush 16, 2) := by decide +kernel
theorem d_Mo_reckon_182 : decode c_Mo_reckon 182 = .ok (.goto 5, 3) := by decide +kernel
theorem d_Mo_reckon_185 : decode c_Mo_reckon 185 = .ok (.iload 8, 2) := by decide +kernel
theorem d_Mo_reckon_187 : decode c_Mo_reckon 187 = .ok (.aload_n 0, 1) := by decide +kernel
theorem d_Mo_reckon_188 : decode c_Mo_reckon 188 = .ok (.getfield 38, 3) := by decide +kernel
theorem d_Mo_reckon_191 : decode c_Mo_reckon 191 = .ok (.iload_n 2, 1) := by decide +kernel
theorem d_Mo_reckon_192 : decode c_Mo_reckon 192 = .ok (.iaload, 1) := by decide +kernel
theorem d_Mo_reckon_193 : decode c_Mo_reckon 193 = .ok (.aload_n 0, 1) := by decide +kernel
theorem d_Mo_reckon_194 : decode c_Mo_reckon 194 = .ok (.getfield 38, 3) := by decide +kernel
theorem d_Mo_reckon_197 : decode c_Mo_reckon 197 = .ok (.iload_n 3, 1) := by decide +kernel
theorem d_Mo_reckon_198 : decode c_Mo_reckon 198 = .ok (.iaload, 1) := by decide +kernel
theorem d_Mo_reckon_199 : decode c_Mo_reckon 199 = .ok (.imul, 1) := by decide +kernel
theorem d_Mo_reckon_200 : decode c_Mo_reckon 200 = .ok (.iload 5, 2) := by decide +kernel
theorem d_Mo_reckon_202 : decode c_Mo_reckon 202 = .ok (.invokevirtual 126, 3) := by decide +kernel
theorem d_Mo_reckon_205 : decode c_Mo_reckon 205 = .ok (.goto 67, 3) := by decide +kernel
theorem d_Mo_reckon_208 : decode c_Mo_reckon 208 = .ok (.iload 4, 2) := by decide +kernel
theorem d_Mo_reckon_210 : decode c_Mo_reckon 210 = .ok (.bipush 32, 2) := by decide +kernel
theorem d_Mo_reckon_212 : decode c_Mo_reckon 212 = .ok (.if_icmp .ne 16, 3) := by decide +kernel
theorem d_Mo_reckon_215 : decode c_Mo_reckon 215 = .ok (.aload_n 0, 1) := by decide +kernel
theorem d_Mo_reckon_216 : decode c_Mo_reckon 216 = .ok (.getfield 38, 3) := by decide +kernel
theorem d_Mo_reckon_219 : decode c_Mo_reckon 219 = .ok (.iload_n 3, 1) := by decide +kernel
theorem d_Mo_reckon_220 : decode c_Mo_reckon 220 = .ok (.iaload, 1) := by decide +kernel
theorem d_Mo_reckon_221 : decode c_Mo_reckon 221 = .ok (.ifCond .eq 7, 3) := by decide +kernel
theorem d_Mo_reckon_224 : decode c_Mo_reckon 224 = .ok (.iconst 1, 1) := by decide +kernel
theorem d_Mo_reckon_225 : decode c_Mo_reckon 225 = .ok (.goto 4, 3) := by decide +kernel
theorem d_Mo_reckon_228 : decode c_Mo_reckon 228 = .ok (.iconst 0, 1) := by decide +kernel
theorem d_Mo_reckon_229 : decode c_Mo_reckon 229 = .ok (.istore 6, 2) := by decide +kernel
theorem d_Mo_reckon_231 : decode c_Mo_reckon 231 = .ok (.aload_n 0, 1) := by decide +kernel
theorem d_Mo_reckon_232 : decode c_Mo_reckon 232 = .ok (.iload 6, 2) := by decide +kernel
theorem d_Mo_reckon_234 : decode c_Mo_reckon 234 = .ok (.ifCond .eq 8, 3) := by decide +kernel
theorem d_Mo_reckon_237 : decode c_Mo_reckon 237 = .ok (.bipush 32, 2) := by decide +kernel
theorem d_Mo_reckon_239 : decode c_Mo_reckon 239 = .ok (.goto 4, 3) := by decide +kernel
theorem d_Mo_reckon_242 : decode c_Mo_reckon 242 = .ok (.iconst 0, 1) := by decide +kernel
theorem d_Mo_reckon_243 : decode c_Mo_reckon 243 = .ok (.iload 6, 2) := by decide +kernel
theorem d_Mo_reckon_245 : decode c_Mo_reckon 245 = .ok (.ifCond .eq 21, 3) := by decide +kernel
theorem d_Mo_reckon_248 : decode c_Mo_reckon 248 = .ok (.aload_n 0, 1) := by decide +kernel
theorem d_Mo_reckon_249 : decode c_Mo_reckon 249 = .ok (.getfield 38, 3) := by decide +kernel
theorem d_Mo_reckon_252 : decode c_Mo_reckon 252 = .ok (.iload_n 2, 1) := by decide +kernel
theorem d_Mo_reckon_253 : decode c_Mo_reckon 253 = .ok (.iaload, 1) := by decide +kernel
theorem d_Mo_reckon_254 : decode c_Mo_reckon 254 = .ok (.aload_n 0, 1) := by decide +kernel
theorem d_Mo_reckon_255 : decode c_Mo_reckon 255 = .ok (.getfield 38, 3) := by decide +kernel
theorem d_Mo_reckon_258 : decode c_Mo_reckon 258 = .ok (.iload_n 3, 1) := by decide +kernel
theorem d_Mo_reckon_259 : decode c_Mo_reckon 259 = .ok (.iaload, 1) := by decide +kernel
theorem d_Mo_reckon_260 : decode c_Mo_reckon 260 = .ok (.invokestatic 133, 3) := by decide +kernel
theorem d_Mo_reckon_263 : decode c_Mo_reckon 263 = .ok (.goto 4, 3) := by decide +kernel
theorem d_Mo_reckon_266 : decode c_Mo_reckon 266 = .ok (.iconst 0, 1) := by decide +kernel
theorem d_Mo_reckon_267 : decode c_Mo_reckon 267 = .ok (.iload 5, 2) := by decide +kernel
theorem d_Mo_reckon_269 : decode c_Mo_reckon 269 = .ok (.invokevirtual 126, 3) := by decide +kernel
theorem d_Mo_reckon_272 : decode c_Mo_reckon 272 = .ok (.aload_n 0, 1) := by decide +kernel
theorem d_Mo_reckon_273 : decode c_Mo_reckon 273 = .ok (.invokevirtual 136, 3) := by decide +kernel
theorem d_Mo_reckon_276 : decode c_Mo_reckon 276 = .ok (.ireturn, 1) := by decide +kernel
theorem d_Mo_signsBy_0 : decode c_Mo_signsBy 0 = .ok (.iconst 0, 1) := by decide +kernel
theorem d_Mo_signsBy_1 : decode c_Mo_signsBy 1 = .ok (.istore 4, 2) := by decide +kernel
theorem d_Mo_signsBy_3 : decode c_Mo_signsBy 3 = .ok (.iconst 0, 1) := by decide +kernel
theorem d_Mo_signsBy_4 : decode c_Mo_signsBy 4 = .ok (.istore 5, 2) := by decide +kernel
theorem d_Mo_signsBy_6 : decode c_Mo_signsBy 6 = .ok (.iload 5, 2) := by decide +kernel
theorem d_Mo_signsBy_8 : decode c_Mo_signsBy 8 = .ok (.iconst 3, 1) := by decide +kernel
theorem d_Mo_signsBy_9 : decode c_Mo_signsBy 9 = .ok (.if_icmp .ge 78, 3) := by decide +kernel
theorem d_Mo_signsBy_12 : decode c_Mo_signsBy 12 = .ok (.iconst 0, 1) := by decide +kernel
theorem d_Mo_signsBy_13 : decode c_Mo_signsBy 13 = .ok (.istore 6, 2) := by decide +kernel
theorem d_Mo_signsBy_15 : decode c_Mo_signsBy 15 = .ok (.iload 6, 2) := by decide +kernel
theorem d_Mo_signsBy_17 : decode c_Mo_signsBy 17 = .ok (.iconst 3, 1) := by decide +kernel
theorem d_Mo_signsBy_18 : decode c_Mo_signsBy 18 = .ok (.if_icmp .ge 63, 3) := by decide +kernel
theorem d_Mo_signsBy_21 : decode c_Mo_signsBy 21 = .ok (.iload_n 2, 1) := by decide +kernel
theorem d_Mo_signsBy_22 : decode c_Mo_signsBy 22 = .ok (.iload 5, 2) := by decide +kernel
theorem d_Mo_signsBy_24 : decode c_Mo_signsBy 24 = .ok (.ishr, 1) := by decide +kernel
theorem d_Mo_signsBy_25 : decode c_Mo_signsBy 25 = .ok (.iconst 1, 1) := by decide +kernel
theorem d_Mo_signsBy_26 : decode c_Mo_signsBy 26 = .ok (.iand, 1) := by decide +kernel
theorem d_Mo_signsBy_27 : decode c_Mo_signsBy 27 = .ok (.iconst 1, 1) := by decide +kernel
theorem d_Mo_signsBy_28 : decode c_Mo_signsBy 28 = .ok (.if_icmp .ne 17, 3) := by decide +kernel
theorem d_Mo_signsBy_31 : decode c_Mo_signsBy 31 = .ok (.iload_n 3, 1) := by decide +kernel
theorem d_Mo_signsBy_32 : decode c_Mo_signsBy 32 = .ok (.iload 6, 2) := by decide +kernel
theorem d_Mo_signsBy_34 : decode c_Mo_signsBy 34 = .ok (.ishr, 1) := by decide +kernel
theorem d_Mo_signsBy_35 : decode c_Mo_signsBy 35 = .ok (.iconst 1, 1) := by decide +kernel
theorem d_Mo_signsBy_36 : decode c_Mo_signsBy 36 = .ok (.iand, 1) := by decide +kernel
theorem d_Mo_signsBy_37 : decode c_Mo_signsBy 37 = .ok (.iconst 1, 1) := by decide +kernel
theorem d_Mo_signsBy_38 : decode c_Mo_signsBy 38 = .ok (.if_icmp .ne 7, 3) := by decide +kernel
theorem d_Mo_signsBy_41 : decode c_Mo_signsBy 41 = .ok (.iconst 1, 1) := by decide +kernel
theorem d_Mo_signsBy_42 : decode c_Mo_signsBy 42 = .ok (.goto 4, 3) := by decide +kernel
theorem d_Mo_signsBy_45 : decode c_Mo_signsBy 45 = .ok (.iconst 0, 1) := by decide +kernel
theorem d_Mo_signsBy_46 : decode c_Mo_signsBy 46 = .ok (.istore 7, 2) := by decide +kernel
theorem d_Mo_signsBy_48 : decode c_Mo_signsBy 48 = .ok (.iload 7, 2) := by decide +kernel
theorem d_Mo_signsBy_50 : decode c_Mo_signsBy 50 = .ok (.ifCond .eq 21, 3) := by decide +kernel
theorem d_Mo_signsBy_53 : decode c_Mo_signsBy 53 = .ok (.iload 4, 2) := by decide +kernel
theorem d_Mo_signsBy_55 : decode c_Mo_signsBy 55 = .ok (.iload_n 1, 1) := by decide +kernel
theorem d_Mo_signsBy_56 : decode c_Mo_signsBy 56 = .ok (.iconst 1, 1) := by decide +kernel
theorem d_Mo_signsBy_57 : decode c_Mo_signsBy 57 = .ok (.iload 5, 2) := by decide +kernel
theorem d_Mo_signsBy_59 : decode c_Mo_signsBy 59 = .ok (.ishl, 1) := by decide +kernel
theorem d_Mo_signsBy_60 : decode c_Mo_signsBy 60 = .ok (.iconst 1, 1) := by decide +kernel
theorem d_Mo_signsBy_61 : decode c_Mo_signsBy 61 = .ok (.iload 6, 2) := by decide +kernel
theorem d_Mo_signsBy_63 : decode c_Mo_signsBy 63 = .ok (.ishl, 1) := by decide +kernel
theorem d_Mo_signsBy_64 : decode c_Mo_signsBy 64 = .ok (.invokestatic 116, 3) := by decide +kernel
theorem d_Mo_signsBy_67 : decode c_Mo_signsBy 67 = .ok (.ior, 1) := by decide +kernel
theorem d_Mo_signsBy_68 : decode c_Mo_signsBy 68 = .ok (.goto 5, 3) := by decide +kernel
theorem d_Mo_signsBy_71 : decode c_Mo_signsBy 71 = .ok (.iload 4, 2) := by decide +kernel
theorem d_Mo_signsBy_73 : decode c_Mo_signsBy 73 = .ok (.istore 4, 2) := by decide +kernel
theorem d_Mo_signsBy_75 : decode c_Mo_signsBy 75 = .ok (.iinc 6 1, 3) := by decide +kernel
theorem d_Mo_signsBy_78 : decode c_Mo_signsBy 78 = .ok (.goto (-63), 3) := by decide +kernel
theorem d_Mo_signsBy_81 : decode c_Mo_signsBy 81 = .ok (.iinc 5 1, 3) := by decide +kernel
theorem d_Mo_signsBy_84 : decode c_Mo_signsBy 84 = .ok (.goto (-78), 3) := by decide +kernel
theorem d_Mo_signsBy_87 : decode c_Mo_signsBy 87 = .ok (.iload 4, 2) := by decide +kernel
theorem d_Mo_signsBy_89 : decode c_Mo_signsBy 89 = .ok (.ireturn, 1) := by decide +kernel
theorem d_Mo_pairSigns_0 : decode c_Mo_pairSigns 0 = .ok (.iload_n 0, 1) := by decide +kernel
theorem d_Mo_pairSigns_1 : decode c_Mo_pairSigns 1 = .ok (.tableswitch 56 2 4 #[27, 33, 39], 27) := by decide +kernel
theorem d_Mo_pairSigns_28 : decode c_Mo_pairSigns 28 = .ok (.iload_n 1, 1) := by decide +kernel
theorem d_Mo_pairSigns_29 : decode c_Mo_pairSigns 29 = .ok (.iload_n 2, 1) := by decide +kernel
theorem d_Mo_pairSigns_30 : decode c_Mo_pairSigns 30 = .ok (.invokestatic 107, 3) := by decide +kernel
theorem d_Mo_pairSigns_33 : decode c_Mo_pairSigns 33 = .ok (.ireturn, 1) := by decide +kernel
theorem d_Mo_pairSigns_34 : decode c_Mo_pairSigns 34 = .ok (.iload_n 1, 1) := by decide +kernel
theorem d_Mo_pairSigns_35 : decode c_Mo_pairSigns 35 = .ok (.iload_n 2, 1) := by decide +kernel
theorem d_Mo_pairSigns_36 : decode c_Mo_pairSigns 36 = .ok (.invokestatic 110, 3) := by decide +kernel
theorem d_Mo_pairSigns_39 : decode c_Mo_pairSigns 39 = .ok (.ireturn, 1) := by decide +kernel
theorem d_Mo_pairSigns_40 : decode c_Mo_pairSigns 40 = .ok (.iload_n 1, 1) := by decide +kernel
theorem d_Mo_pairSigns_41 : decode c_Mo_pairSigns 41 = .ok (.iconst 2, 1) := by decide +kernel
theorem d_Mo_pairSigns_42 : decode c_Mo_pairSigns 42 = .ok (.if_icmp .eq 8, 3) := by decide +kernel
theorem d_Mo_pairSigns_45 : decode c_Mo_pairSigns 45 = .ok (.iload_n 2, 1) := by decide +kernel
theorem d_Mo_pairSigns_46 : decode c_Mo_pairSigns 46 = .ok (.iconst 2, 1) := by decide +kernel
theorem d_Mo_pairSigns_47 : decode c_Mo_pairSigns 47 = .ok (.if_icmp .ne 7, 3) := by decide +kernel
theorem d_Mo_pairSigns_50 : decode c_Mo_pairSigns 50 = .ok (.iconst 2, 1) := by decide +kernel
theorem d_Mo_pairSigns_51 : decode c_Mo_pairSigns 51 = .ok (.goto 5, 3) := by decide +kernel
theorem d_Mo_pairSigns_54 : decode c_Mo_pairSigns 54 = .ok (.bipush 7, 2) := by decide +kernel
theorem d_Mo_pairSigns_56 : decode c_Mo_pairSigns 56 = .ok (.ireturn, 1) := by decide +kernel
theorem d_Mo_pairSigns_57 : decode c_Mo_pairSigns 57 = .ok (.iload_n 2, 1) := by decide +kernel
theorem d_Mo_pairSigns_58 : decode c_Mo_pairSigns 58 = .ok (.iconst 2, 1) := by decide +kernel
theorem d_Mo_pairSigns_59 : decode c_Mo_pairSigns 59 = .ok (.if_icmp .ne 7, 3) := by decide +kernel
theorem d_Mo_pairSigns_62 : decode c_Mo_pairSigns 62 = .ok (.iconst 0, 1) := by decide +kernel
theorem d_Mo_pairSigns_63 : decode c_Mo_pairSigns 63 = .ok (.goto 8, 3) := by decide +kernel
theorem d_Mo_pairSigns_66 : decode c_Mo_pairSigns 66 = .ok (.iload_n 1, 1) := by decide +kernel
theorem d_Mo_pairSigns_67 : decode c_Mo_pairSigns 67 = .ok (.iload_n 2, 1) := by decide +kernel
theorem d_Mo_pairSigns_68 : decode c_Mo_pairSigns 68 = .ok (.invokestatic 113, 3) := by decide +kernel
theorem d_Mo_pairSigns_71 : decode c_Mo_pairSigns 71 = .ok (.ireturn, 1) := by decide +kernel
theorem d_Mo_sumSigns_0 : decode c_Mo_sumSigns 0 = .ok (.iload_n 0, 1) := by decide +kernel
theorem d_Mo_sumSigns_1 : decode c_Mo_sumSigns 1 = .ok (.iconst 2, 1) := by decide +kernel
theorem d_Mo_sumSigns_2 : decode c_Mo_sumSigns 2 = .ok (.if_icmp .ne 5, 3) := by decide +kernel
theorem d_Mo_sumSigns_5 : decode c_Mo_sumSigns 5 = .ok (.iload_n 1, 1) := by decide +kernel
theorem d_Mo_sumSigns_6 : decode c_Mo_sumSigns 6 = .ok (.ireturn, 1) := by decide +kernel
theorem d_Mo_sumSigns_7 : decode c_Mo_sumSigns 7 = .ok (.iload_n 1, 1) := by decide +kernel
theorem d_Mo_sumSigns_8 : decode c_Mo_sumSigns 8 = .ok (.iconst 2, 1) := by decide +kernel
theorem d_Mo_sumSigns_9 : decode c_Mo_sumSigns 9 = .ok (.if_icmp .ne 5, 3) := by decide +kernel
theorem d_Mo_sumSigns_12 : decode c_Mo_sumSigns 12 = .ok (.iload_n 0, 1) := by decide +kernel
theorem d_Mo_sumSigns_13 : decode c_Mo_sumSigns 13 = .ok (.ireturn, 1) := by decide +kernel
theorem d_Mo_sumSigns_14 : decode c_Mo_sumSigns 14 = .ok (.iload_n 0, 1) := by decide +kernel
theorem d_Mo_sumSigns_15 : decode c_Mo_sumSigns 15 = .ok (.iconst 4, 1) := by decide +kernel
theorem d_Mo_sumSigns_16 : decode c_Mo_sumSigns 16 = .ok (.if_icmp .ne 12, 3) := by decide +kernel
theorem d_Mo_sumSigns_19 : decode c_Mo_sumSigns 19 = .ok (.iload_n 1, 1) := by decide +kernel
theorem d_Mo_sumSigns_20 : decode c_Mo_sumSigns 20 = .ok (.iconst 4, 1) := by decide +kernel
theorem d_Mo_sumSigns_21 : decode c_Mo_sumSigns 21 = .ok (.if_icmp .ne 7, 3) := by decide +kernel
theorem d_Mo_sumSigns_24 : decode c_Mo_sumSigns 24 = .ok (.iconst 5, 1) := by decide +kernel
theorem d_Mo_sumSigns_25 : decode c_Mo_sumSigns 25 = .ok (.goto 5, 3) := by decide +kernel
theorem d_Mo_sumSigns_28 : decode c_Mo_sumSigns 28 = .ok (.bipush 7, 2) := by decide +kernel
theorem d_Mo_sumSigns_30 : decode c_Mo_sumSigns 30 = .ok (.ireturn, 1) := by decide +kernel
theorem d_Mo_lessSigns_0 : decode c_Mo_lessSigns 0 = .ok (.iload_n 1, 1) := by decide +kernel
theorem d_Mo_lessSigns_1 : decode c_Mo_lessSigns 1 = .ok (.iconst 2, 1) := by decide +kernel
theorem d_Mo_lessSigns_2 : decode c_Mo_lessSigns 2 = .ok (.if_icmp .ne 5, 3) := by decide +kernel
theorem d_Mo_lessSigns_5 : decode c_Mo_lessSigns 5 = .ok (.iload_n 0, 1) := by decide +kernel
theorem d_Mo_lessSigns_6 : decode c_Mo_lessSigns 6 = .ok (.ireturn, 1) := by decide +kernel
theorem d_Mo_lessSigns_7 : decode c_Mo_lessSigns 7 = .ok (.iload_n 0, 1) := by decide +kernel
theorem d_Mo_lessSigns_8 : decode c_Mo_lessSigns 8 = .ok (.iconst 2, 1) := by decide +kernel
theorem d_Mo_lessSigns_9 : decode c_Mo_lessSigns 9 = .ok (.if_icmp .ne 14, 3) := by decide +kernel
theorem d_Mo_lessSigns_12 : decode c_Mo_lessSigns 12 = .ok (.iload_n 1, 1) := by decide +kernel
theorem d_Mo_lessSigns_13 : decode c_Mo_lessSigns 13 = .ok (.iconst 1, 1) := by decide +kernel
theorem d_Mo_lessSigns_14 : decode c_Mo_lessSigns 14 = .ok (.if_icmp .ne 7, 3) := by decide +kernel
theorem d_Mo_lessSigns_17 : decode c_Mo_lessSigns 17 = .ok (.iconst 5, 1) := by decide +kernel
theorem d_Mo_lessSigns_18 : decode c_Mo_lessSigns 18 = .ok (.goto 4, 3) := by decide +kernel
theorem d_Mo_lessSigns_21 : decode c_Mo_lessSigns 21 = .ok (.iconst 1, 1) := by decide +kernel
theorem d_Mo_lessSigns_22 : decode c_Mo_lessSigns 22 = .ok (.ireturn, 1) := by decide +kernel
theorem d_Mo_lessSigns_23 : decode c_Mo_lessSigns 23 = .ok (.iload_n 0, 1) := by decide +kernel
theorem d_Mo_lessSigns_24 : decode c_Mo_lessSigns 24 = .ok (.iload_n 1, 1) := by decide +kernel
theorem d_Mo_lessSigns_25 : decode c_Mo_lessSigns 25 = .ok (.if_icmp .ne 8, 3) := by decide +kernel
theorem d_Mo_lessSigns_28 : decode c_Mo_lessSigns 28 = .ok (.bipush 7, 2) := by decide +kernel
theorem d_Mo_lessSigns_30 : decode c_Mo_lessSigns 30 = .ok (.goto 4, 3) := by decide +kernel
theorem d_Mo_lessSigns_33 : decode c_Mo_lessSigns 33 = .ok (.iconst 5, 1) := by decide +kernel
theorem d_Mo_lessSigns_34 : decode c_Mo_lessSigns 34 = .ok (.ireturn, 1) := by decide +kernel
theorem d_Mo_partSigns_0 : decode c_Mo_partSigns 0 = .ok (.iload_n 0, 1) := by decide +kernel
theorem d_Mo_partSigns_1 : decode c_Mo_partSigns 1 = .ok (.iconst 2, 1) := by decide +kernel
theorem d_Mo_partSigns_2 : decode c_Mo_partSigns 2 = .ok (.if_icmp .ne 5, 3) := by decide +kernel
theorem d_Mo_partSigns_5 : decode c_Mo_partSigns 5 = .ok (.iconst 2, 1) := by decide +kernel
theorem d_Mo_partSigns_6 : decode c_Mo_partSigns 6 = .ok (.ireturn, 1) := by decide +kernel
theorem d_Mo_partSigns_7 : decode c_Mo_partSigns 7 = .ok (.iload_n 0, 1) := by decide +kernel
theorem d_Mo_partSigns_8 : decode c_Mo_partSigns 8 = .ok (.iconst 4, 1) := by decide +kernel
theorem d_Mo_partSigns_9 : decode c_Mo_partSigns 9 = .ok (.if_icmp .ne 11, 3) := by decide +kernel
theorem d_Mo_partSigns_12 : decode c_Mo_partSigns 12 = .ok (.iload_n 1, 1) := by decide +kernel
theorem d_Mo_partSigns_13 : decode c_Mo_partSigns 13 = .ok (.iconst 4, 1) := by decide +kernel
theorem d_Mo_partSigns_14 : decode c_Mo_partSigns 14 = .ok (.if_icmp .ne 6, 3) := by decide +kernel
theorem d_Mo_partSigns_17 : decode c_Mo_partSigns 17 = .ok (.bipush 6, 2) := by decide +kernel
theorem d_Mo_partSigns_19 : decode c_Mo_partSigns 19 = .ok (.ireturn, 1) := by decide +kernel
theorem d_Mo_partSigns_20 : decode c_Mo_partSigns 20 = .ok (.iload_n 0, 1) := by decide +kernel
theorem d_Mo_partSigns_21 : decode c_Mo_partSigns 21 = .ok (.iload_n 1, 1) := by decide +kernel
theorem d_Mo_partSigns_22 : decode c_Mo_partSigns 22 = .ok (.if_icmp .ne 8, 3) := by decide +kernel
theorem d_Mo_partSigns_25 : decode c_Mo_partSigns 25 = .ok (.bipush 7, 2) := by decide +kernel
theorem d_Mo_partSigns_27 : decode c_Mo_partSigns 27 = .ok (.goto 4, 3) := by decide +kernel
theorem d_Mo_partSigns_30 : decode c_Mo_partSigns 30 = .ok (.iconst 3, 1) := by decide +kernel
theorem d_Mo_partSigns_31 : decode c_Mo_partSigns 31 = .ok (.ireturn, 1) := by decide +kernel
theorem d_Mo_divided_0 : decode c_Mo_divided 0 = .ok (.iload_n 1, 1) := by decide +kernel
theorem d_Mo_divided_1 : decode c_Mo_divided 1 = .ok (.iconst (-1), 1) := by decide +kernel
theorem d_Mo_divided_2 : decode c_Mo_divided 2 = .ok (.if_icmp .ne 8, 3) := by decide +kernel
theorem d_Mo_divided_5 : decode c_Mo_divided 5 = .ok (.iload_n 0, 1) := by decide +kernel
theorem d_Mo_divided_6 : decode c_Mo_divided 6 = .ok (.ineg, 1) := by decide +kernel
theorem d_Mo_divided_7 : decode c_Mo_divided 7 = .ok (.goto 6, 3) := by decide +kernel
theorem d_Mo_divided_10 : decode c_Mo_divided 10 = .ok (.iload_n 0, 1) := by decide +kernel
theorem d_Mo_divided_11 : decode c_Mo_divided 11 = .ok (.iload_n 1, 1) := by decide +kernel
theorem d_Mo_divided_12 : decode c_Mo_divided 12 = .ok (.idiv, 1) := by decide +kernel
theorem d_Mo_divided_13 : decode c_Mo_divided 13 = .ok (.ireturn, 1) := by decide +kernel
theorem d_Mo_bits_0 : decode c_Mo_bits 0 = .ok (.aload_n 0, 1) := by decide +kernel
theorem d_Mo_bits_1 : decode c_Mo_bits 1 = .ok (.iload_n 1, 1) := by decide +kernel
theorem d_Mo_bits_2 : decode c_Mo_bits 2 = .ok (.iload_n 2, 1) := by decide +kernel
theorem d_Mo_bits_3 : decode c_Mo_bits 3 = .ok (.invokevirtual 174, 3) := by decide +kernel
theorem d_Mo_bits_6 : decode c_Mo_bits 6 = .ok (.ifCond .eq 7, 3) := by decide +kernel
theorem d_Mo_bits_9 : decode c_Mo_bits 9 = .ok (.iconst (-1), 1) := by decide +kernel
theorem d_Mo_bits_10 : decode c_Mo_bits 10 = .ok (.goto 13, 3) := by decide +kernel
theorem d_Mo_bits_13 : decode c_Mo_bits 13 = .ok (.aload_n 0, 1) := by decide +kernel
theorem d_Mo_bits_14 : decode c_Mo_bits 14 = .ok (.getfield 26, 3) := by decide +kernel
theorem d_Mo_bits_17 : decode c_Mo_bits 17 = .ok (.iconst 4, 1) := by decide +kernel
theorem d_Mo_bits_18 : decode c_Mo_bits 18 = .ok (.iload_n 1, 1) := by decide +kernel
theorem d_Mo_bits_19 : decode c_Mo_bits 19 = .ok (.imul, 1) := by decide +kernel
theorem d_Mo_bits_20 : decode c_Mo_bits 20 = .ok (.iload_n 2, 1) := by decide +kernel
theorem d_Mo_bits_21 : decode c_Mo_bits 21 = .ok (.iadd, 1) := by decide +kernel
theorem d_Mo_bits_22 : decode c_Mo_bits 22 = .ok (.iaload, 1) := by decide +kernel
theorem d_Mo_bits_23 : decode c_Mo_bits 23 = .ok (.ireturn, 1) := by decide +kernel
theorem d_Mo_untold_0 : decode c_Mo_untold 0 = .ok (.aload_n 0, 1) := by decide +kernel
theorem d_Mo_untold_1 : decode c_Mo_untold 1 = .ok (.invokevirtual 171, 3) := by decide +kernel
theorem d_Mo_untold_4 : decode c_Mo_untold 4 = .ok (.aload_n 0, 1) := by decide +kernel
theorem d_Mo_untold_5 : decode c_Mo_untold 5 = .ok (.iload_n 1, 1) := by decide +kernel
theorem d_Mo_untold_6 : decode c_Mo_untold 6 = .ok (.invokevirtual 87, 3) := by decide +kernel
theorem d_Mo_untold_9 : decode c_Mo_untold 9 = .ok (.ifCond .ne 19, 3) := by decide +kernel
theorem d_Mo_untold_12 : decode c_Mo_untold 12 = .ok (.aload_n 0, 1) := by decide +kernel
theorem d_Mo_untold_13 : decode c_Mo_untold 13 = .ok (.getfield 22, 3) := by decide +kernel
theorem d_Mo_untold_16 : decode c_Mo_untold 16 = .ok (.iload_n 1, 1) := by decide +kernel
theorem d_Mo_untold_17 : decode c_Mo_untold 17 = .ok (.baload, 1) := by decide +kernel
theorem d_Mo_untold_18 : decode c_Mo_untold 18 = .ok (.ifCond .eq 10, 3) := by decide +kernel
theorem d_Mo_untold_21 : decode c_Mo_untold 21 = .ok (.iload_n 2, 1) := by decide +kernel
theorem d_Mo_untold_22 : decode c_Mo_untold 22 = .ok (.invokestatic 61, 3) := by decide +kernel
theorem d_Mo_untold_25 : decode c_Mo_untold 25 = .ok (.ifCond .ne 7, 3) := by decide +kernel
theorem d_Mo_untold_28 : decode c_Mo_untold 28 = .ok (.iconst 1, 1) := by decide +kernel
theorem d_Mo_untold_29 : decode c_Mo_untold 29 = .ok (.goto 4, 3) := by decide +kernel
theorem d_Mo_untold_32 : decode c_Mo_untold 32 = .ok (.iconst 0, 1) := by decide +kernel
theorem d_Mo_untold_33 : decode c_Mo_untold 33 = .ok (.ireturn, 1) := by decide +kernel
theorem d_Mo_rest_0 : decode c_Mo_rest 0 = .ok (.aload_n 0, 1) := by decide +kernel
theorem d_Mo_rest_1 : decode c_Mo_rest 1 = .ok (.iload_n 1, 1) := by decide +kernel
theorem d_Mo_rest_2 : decode c_Mo_rest 2 = .ok (.iload_n 2, 1) := by decide +kernel
theorem d_Mo_rest_3 : decode c_Mo_rest 3 = .ok (.invokevirtual 174, 3) := by decide +kernel
theorem d_Mo_rest_6 : decode c_Mo_rest 6 = .ok (.ifCond .eq 7, 3) := by decide +kernel
theorem d_Mo_rest_9 : decode c_Mo_rest 9 = .ok (.iconst 0, 1) := by decide +kernel
theorem d_Mo_rest_10 : decode c_Mo_rest 10 = .ok (.goto 13, 3) := by decide +kernel
theorem d_Mo_rest_13 : decode c_Mo_rest 13 = .ok (.aload_n 0, 1) := by decide +kernel
theorem d_Mo_rest_14 : decode c_Mo_rest 14 = .ok (.getfield 29, 3) := by decide +kernel
theorem d_Mo_rest_17 : decode c_Mo_rest 17 = .ok (.iconst 4, 1) := by decide +kernel
theorem d_Mo_rest_18 : decode c_Mo_rest 18 = .ok (.iload_n 1, 1) := by decide +kernel
theorem d_Mo_rest_19 : decode c_Mo_rest 19 = .ok (.imul, 1) := by decide +kernel
theorem d_Mo_rest_20 : decode c_Mo_rest 20 = .ok (.iload_n 2, 1) := by decide +kernel
theorem d_Mo_rest_21 : decode c_Mo_rest 21 = .ok (.iadd, 1) := by decide +kernel
theorem d_Mo_rest_22 : decode c_Mo_rest 22 = .ok (.iaload, 1) := by decide +kernel
theorem d_Mo_rest_23 : decode c_Mo_rest 23 = .ok (.ireturn, 1) := by decide +kernel
theorem d_Mo_signs_0 : decode c_Mo_signs 0 = .ok (.aload_n 0, 1) := by decide +kernel
theorem d_Mo_signs_1 : decode c_Mo_signs 1 = .ok (.iload_n 1, 1) := by decide +kernel
theorem d_Mo_signs_2 : decode c_Mo_signs 2 = .ok (.iload_n 2, 1) := by decide +kernel
theorem d_Mo_signs_3 : decode c_Mo_signs 3 = .ok (.invokevirtual 174, 3) := by decide +kernel
theorem d_Mo_signs_6 : decode c_Mo_signs 6 = .ok (.ifCond .eq 7, 3) := by decide +kernel
theorem d_Mo_signs_9 : decode c_Mo_signs 9 = .ok (.iconst 0, 1) := by decide +kernel
theorem d_Mo_signs_10 : decode c_Mo_signs 10 = .ok (.goto 13, 3) := by decide +kernel
theorem d_Mo_signs_13 : decode c_Mo_signs 13 = .ok (.aload_n 0, 1) := by decide +kernel
theorem d_Mo_signs_14 : decode c_Mo_signs 14 = .ok (.getfield 32, 3) := by decide +kernel
theorem d_Mo_signs_17 : decode c_Mo_signs 17 = .ok (.iconst 4, 1) := by decide +kernel
theorem d_Mo_signs_18 : decode c_Mo_signs 18 = .ok (.iload_n 1, 1) := by decide +kernel
theorem d_Mo_signs_19 : decode c_Mo_signs 19 = .ok (.imul, 1) := by decide +kernel
theorem d_Mo_signs_20 : decode c_Mo_signs 20 = .ok (.iload_n 2, 1) := by decide +kernel
theorem d_Mo_signs_21 : decode c_Mo_signs 21 = .ok (.iadd, 1) := by decide +kernel
theorem d_Mo_signs_22 : decode c_Mo_signs 22 = .ok (.iaload, 1) := by decide +kernel
theorem d_Mo_signs_23 : decode c_Mo_signs 23 = .ok (.ireturn, 1) := by decide +kernel
theorem d_Mo_rewrite_0 : decode c_Mo_rewrite 0 = .ok (.aload_n 0, 1) := by decide +kernel
theorem d_Mo_rewrite_1 : decode c_Mo_rewrite 1 = .ok (.invokevirtual 171, 3) := by decide +kernel
theorem d_Mo_rewrite_4 : decode c_Mo_rewrite 4 = .ok (.iconst 0, 1) := by decide +kernel
theorem d_Mo_rewrite_5 : decode c_Mo_rewrite 5 = .ok (.istore_n 1, 1) := by decide +kernel
theorem d_Mo_rewrite_6 : decode c_Mo_rewrite 6 = .ok (.iconst 0, 1) := by decide +kernel
theorem d_Mo_rewrite_7 : decode c_Mo_rewrite 7 = .ok (.istore_n 2, 1) := by decide +kernel
theorem d_Mo_rewrite_8 : decode c_Mo_rewrite 8 = .ok (.iload_n 2, 1) := by decide +kernel
theorem d_Mo_rewrite_9 : decode c_Mo_rewrite 9 = .ok (.aload_n 0, 1) := by decide +kernel
theorem d_Mo_rewrite_10 : decode c_Mo_rewrite 10 = .ok (.getfield 77, 3) := by decide +kernel
theorem d_Mo_rewrite_13 : decode c_Mo_rewrite 13 = .ok (.if_icmp .ge 25, 3) := by decide +kernel
theorem d_Mo_rewrite_16 : decode c_Mo_rewrite 16 = .ok (.aload_n 0, 1) := by decide +kernel
theorem d_Mo_rewrite_17 : decode c_Mo_rewrite 17 = .ok (.iload_n 2, 1) := by decide +kernel
theorem d_Mo_rewrite_18 : decode c_Mo_rewrite 18 = .ok (.invokevirtual 177, 3) := by decide +kernel
theorem d_Mo_rewrite_21 : decode c_Mo_rewrite 21 = .ok (.ifCond .eq 9, 3) := by decide +kernel
theorem d_Mo_rewrite_24 : decode c_Mo_rewrite 24 = .ok (.iload_n 1, 1) := by decide +kernel
theorem d_Mo_rewrite_25 : decode c_Mo_rewrite 25 = .ok (.iconst 1, 1) := by decide +kernel
theorem d_Mo_rewrite_26 : decode c_Mo_rewrite 26 = .ok (.iadd, 1) := by decide +kernel
theorem d_Mo_rewrite_27 : decode c_Mo_rewrite 27 = .ok (.goto 4, 3) := by decide +kernel
theorem d_Mo_rewrite_30 : decode c_Mo_rewrite 30 = .ok (.iload_n 1, 1) := by decide +kernel
theorem d_Mo_rewrite_31 : decode c_Mo_rewrite 31 = .ok (.istore_n 1, 1) := by decide +kernel
theorem d_Mo_rewrite_32 : decode c_Mo_rewrite 32 = .ok (.iinc 2 1, 3) := by decide +kernel
theorem d_Mo_rewrite_35 : decode c_Mo_rewrite 35 = .ok (.goto (-27), 3) := by decide +kernel
theorem d_Mo_rewrite_38 : decode c_Mo_rewrite 38 = .ok (.aload_n 0, 1) := by decide +kernel
theorem d_Mo_rewrite_39 : decode c_Mo_rewrite 39 = .ok (.iconst 0, 1) := by decide +kernel
theorem d_Mo_rewrite_40 : decode c_Mo_rewrite 40 = .ok (.putfield 83, 3) := by decide +kernel
theorem d_Mo_rewrite_43 : decode c_Mo_rewrite 43 = .ok (.iload_n 1, 1) := by decide +kernel
theorem d_Mo_rewrite_44 : decode c_Mo_rewrite 44 = .ok (.ireturn, 1) := by decide +kernel
theorem d_Mo_written_0 : decode c_Mo_written 0 = .ok (.aload_n 0, 1) := by decide +kernel
theorem d_Mo_written_1 : decode c_Mo_written 1 = .ok (.getfield 7, 3) := by decide +kernel
theorem d_Mo_written_4 : decode c_Mo_written 4 = .ok (.iload_n 1, 1) := by decide +kernel
theorem d_Mo_written_5 : decode c_Mo_written 5 = .ok (.iaload, 1) := by decide +kernel
theorem d_Mo_written_6 : decode c_Mo_written 6 = .ok (.istore_n 2, 1) := by decide +kernel
theorem d_Mo_written_7 : decode c_Mo_written 7 = .ok (.aload_n 0, 1) := by decide +kernel
theorem d_Mo_written_8 : decode c_Mo_written 8 = .ok (.getfield 22, 3) := by decide +kernel
theorem d_Mo_written_11 : decode c_Mo_written 11 = .ok (.iload_n 1, 1) := by decide +kernel
theorem d_Mo_written_12 : decode c_Mo_written 12 = .ok (.baload, 1) := by decide +kernel
theorem d_Mo_written_13 : decode c_Mo_written 13 = .ok (.ifCond .ne 14, 3) := by decide +kernel
theorem d_Mo_written_16 : decode c_Mo_written 16 = .ok (.aload_n 0, 1) := by decide +kernel
theorem d_Mo_written_17 : decode c_Mo_written 17 = .ok (.iload_n 1, 1) := by decide +kernel
theorem d_Mo_written_18 : decode c_Mo_written 18 = .ok (.bipush 11, 2) := by decide +kernel
theorem d_Mo_written_20 : decode c_Mo_written 20 = .ok (.iconst 0, 1) := by decide +kernel
theorem d_Mo_written_21 : decode c_Mo_written 21 = .ok (.iconst 0, 1) := by decide +kernel
theorem d_Mo_written_22 : decode c_Mo_written 22 = .ok (.iconst 0, 1) := by decide +kernel
theorem d_Mo_written_23 : decode c_Mo_written 23 = .ok (.invokevirtual 80, 3) := by decide +kernel
theorem d_Mo_written_26 : decode c_Mo_written 26 = .ok (.ireturn, 1) := by decide +kernel
theorem d_Mo_written_27 : decode c_Mo_written 27 = .ok (.aload_n 0, 1) := by decide +kernel
theorem d_Mo_written_28 : decode c_Mo_written 28 = .ok (.iload_n 1, 1) := by decide +kernel
theorem d_Mo_written_29 : decode c_Mo_written 29 = .ok (.invokevirtual 159, 3) := by decide +kernel
theorem d_Mo_written_32 : decode c_Mo_written 32 = .ok (.iload_n 2, 1) := by decide +kernel
theorem d_Mo_written_33 : decode c_Mo_written 33 = .ok (.bipush 7, 2) := by decide +kernel
theorem d_Mo_written_35 : decode c_Mo_written 35 = .ok (.if_icmp .eq 9, 3) := by decide +kernel
theorem d_Mo_written_38 : decode c_Mo_written 38 = .ok (.iload_n 2, 1) := by decide +kernel
theorem d_Mo_written_39 : decode c_Mo_written 39 = .ok (.bipush 8, 2) := by decide +kernel
theorem d_Mo_written_41 : decode c_Mo_written 41 = .ok (.if_icmp .ne 78, 3) := by decide +kernel
theorem d_Mo_written_44 : decode c_Mo_written 44 = .ok (.iload_n 2, 1) := by decide +kernel
theorem d_Mo_written_45 : decode c_Mo_written 45 = .ok (.bipush 7, 2) := by decide +kernel
theorem d_Mo_written_47 : decode c_Mo_written 47 = .ok (.if_icmp .ne 7, 3) := by decide +kernel
theorem d_Mo_written_50 : decode c_Mo_written 50 = .ok (.iconst 2, 1) := by decide +kernel
theorem d_Mo_written_51 : decode c_Mo_written 51 = .ok (.goto 4, 3) := by decide +kernel
theorem d_Mo_written_54 : decode c_Mo_written 54 = .ok (.iconst 1, 1) := by decide +kernel
theorem d_Mo_written_55 : decode c_Mo_written 55 = .ok (.istore_n 3, 1) := by decide +kernel
theorem d_Mo_written_56 : decode c_Mo_written 56 = .ok (.aload_n 0, 1) := by decide +kernel
theorem d_Mo_written_57 : decode c_Mo_written 57 = .ok (.getfield 41, 3) := by decide +kernel
theorem d_Mo_written_60 : decode c_Mo_written 60 = .ok (.aload_n 0, 1) := by decide +kernel
theorem d_Mo_written_61 : decode c_Mo_written 61 = .ok (.getfield 13, 3) := by decide +kernel
theorem d_Mo_written_64 : decode c_Mo_written 64 = .ok (.iload_n 1, 1) := by decide +kernel
theorem d_Mo_written_65 : decode c_Mo_written 65 = .ok (.iaload, 1) := by decide +kernel
theorem d_Mo_written_66 : decode c_Mo_written 66 = .ok (.iaload, 1) := by decide +kernel
theorem d_Mo_written_67 : decode c_Mo_written 67 = .ok (.istore 4, 2) := by decide +kernel
theorem d_Mo_written_69 : decode c_Mo_written 69 = .ok (.iload 4, 2) := by decide +kernel
theorem d_Mo_written_71 : decode c_Mo_written 71 = .ok (.iload_n 3, 1) := by decide +kernel
theorem d_Mo_written_72 : decode c_Mo_written 72 = .ok (.iand, 1) := by decide +kernel
theorem d_Mo_written_73 : decode c_Mo_written 73 = .ok (.ifCond .ne 16, 3) := by decide +kernel
theorem d_Mo_written_76 : decode c_Mo_written 76 = .ok (.aload_n 0, 1) := by decide +kernel
theorem d_Mo_written_77 : decode c_Mo_written 77 = .ok (.iload_n 1, 1) := by decide +kernel
theorem d_Mo_written_78 : decode c_Mo_written 78 = .ok (.bipush 9, 2) := by decide +kernel
theorem d_Mo_written_80 : decode c_Mo_written 80 = .ok (.iconst 0, 1) := by decide +kernel
theorem d_Mo_written_81 : decode c_Mo_written 81 = .ok (.iconst 0, 1) := by decide +kernel
theorem d_Mo_written_82 : decode c_Mo_written 82 = .ok (.iload_n 1, 1) := by decide +kernel
theorem d_Mo_written_83 : decode c_Mo_written 83 = .ok (.iconst 1, 1) := by decide +kernel
theorem d_Mo_written_84 : decode c_Mo_written 84 = .ok (.iadd, 1) := by decide +kernel
theorem d_Mo_written_85 : decode c_Mo_written 85 = .ok (.invokevirtual 80, 3) := by decide +kernel
theorem d_Mo_written_88 : decode c_Mo_written 88 = .ok (.ireturn, 1) := by decide +kernel
theorem d_Mo_written_89 : decode c_Mo_written 89 = .ok (.iload 4, 2) := by decide +kernel
theorem d_Mo_written_91 : decode c_Mo_written 91 = .ok (.iload_n 3, 1) := by decide +kernel
theorem d_Mo_written_92 : decode c_Mo_written 92 = .ok (.if_icmp .ne 25, 3) := by decide +kernel
theorem d_Mo_written_95 : decode c_Mo_written 95 = .ok (.aload_n 0, 1) := by decide +kernel
theorem d_Mo_written_96 : decode c_Mo_written 96 = .ok (.iload_n 1, 1) := by decide +kernel
theorem d_Mo_written_97 : decode c_Mo_written 97 = .ok (.bipush 9, 2) := by decide +kernel
theorem d_Mo_written_99 : decode c_Mo_written 99 = .ok (.iconst 0, 1) := by decide +kernel
theorem d_Mo_written_100 : decode c_Mo_written 100 = .ok (.iconst 0, 1) := by decide +kernel
theorem d_Mo_written_101 : decode c_Mo_written 101 = .ok (.aload_n 0, 1) := by decide +kernel
theorem d_Mo_written_102 : decode c_Mo_written 102 = .ok (.getfield 19, 3) := by decide +kernel
theorem d_Mo_written_105 : decode c_Mo_written 105 = .ok (.iload_n 1, 1) := by decide +kernel
theorem d_Mo_written_106 : decode c_Mo_written 106 = .ok (.iaload, 1) := by decide +kernel
theorem d_Mo_written_107 : decode c_Mo_written 107 = .ok (.invokevirtual 80, 3) := by decide +kernel
theorem d_Mo_written_110 : decode c_Mo_written 110 = .ok (.ifCond .eq 7, 3) := by decide +kernel
theorem d_Mo_written_113 : decode c_Mo_written 113 = .ok (.iconst 1, 1) := by decide +kernel
theorem d_Mo_written_114 : decode c_Mo_written 114 = .ok (.goto 4, 3) := by decide +kernel
theorem d_Mo_written_117 : decode c_Mo_written 117 = .ok (.iconst 0, 1) := by decide +kernel
theorem d_Mo_written_118 : decode c_Mo_written 118 = .ok (.ireturn, 1) := by decide +kernel
theorem d_Mo_written_119 : decode c_Mo_written 119 = .ok (.iload_n 2, 1) := by decide +kernel
theorem d_Mo_written_120 : decode c_Mo_written 120 = .ok (.ifCond .le 8, 3) := by decide +kernel
theorem d_Mo_written_123 : decode c_Mo_written 123 = .ok (.iload_n 2, 1) := by decide +kernel
theorem d_Mo_written_124 : decode c_Mo_written 124 = .ok (.iconst 5, 1) := by decide +kernel
theorem d_Mo_written_125 : decode c_Mo_written 125 = .ok (.if_icmp .lt 24, 3) := by decide +kernel
theorem d_Mo_written_128 : decode c_Mo_written 128 = .ok (.iload_n 2, 1) := by decide +kernel
theorem d_Mo_written_129 : decode c_Mo_written 129 = .ok (.iconst 5, 1) := by decide +kernel
theorem d_Mo_written_130 : decode c_Mo_written 130 = .ok (.if_icmp .ne 23, 3) := by decide +kernel
theorem d_Mo_written_133 : decode c_Mo_written 133 = .ok (.aload_n 0, 1) := by decide +kernel
theorem d_Mo_written_134 : decode c_Mo_written 134 = .ok (.getfield 41, 3) := by decide +kernel
theorem d_Mo_written_137 : decode c_Mo_written 137 = .ok (.aload_n 0, 1) := by decide +kernel
theorem d_Mo_written_138 : decode c_Mo_written 138 = .ok (.getfield 19, 3) := by decide +kernel
theorem d_Mo_written_141 : decode c_Mo_written 141 = .ok (.iload_n 1, 1) := by decide +kernel
theorem d_Mo_written_142 : decode c_Mo_written 142 = .ok (.iaload, 1) := by decide +kernel
theorem d_Mo_written_143 : decode c_Mo_written 143 = .ok (.iaload, 1) := by decide +kernel
theorem d_Mo_written_144 : decode c_Mo_written 144 = .ok (.iconst 2, 1) := by decide +kernel
theorem d_Mo_written_145 : decode c_Mo_written 145 = .ok (.iand, 1) := by decide +kernel
theorem d_Mo_written_146 : decode c_Mo_written 146 = .ok (.ifCond .ne 7, 3) := by decide +kernel
theorem d_Mo_written_149 : decode c_Mo_written 149 = .ok (.iconst 1, 1) := by decide +kernel
theorem d_Mo_written_150 : decode c_Mo_written 150 = .ok (.goto 4, 3) := by decide +kernel
theorem d_Mo_written_153 : decode c_Mo_written 153 = .ok (.iconst 0, 1) := by decide +kernel
theorem d_Mo_written_154 : decode c_Mo_written 154 = .ok (.istore_n 3, 1) := by decide +kernel
theorem d_Mo_written_155 : decode c_Mo_written 155 = .ok (.iload_n 3, 1) := by decide +kernel
theorem d_Mo_written_156 : decode c_Mo_written 156 = .ok (.ifCond .eq 27, 3) := by decide +kernel
theorem d_Mo_written_159 : decode c_Mo_written 159 = .ok (.aload_n 0, 1) := by decide +kernel
theorem d_Mo_written_160 : decode c_Mo_written 160 = .ok (.iload_n 1, 1) := by decide +kernel
theorem d_Mo_written_161 : decode c_Mo_written 161 = .ok (.invokevirtual 165, 3) := by decide +kernel
theorem d_Mo_written_164 : decode c_Mo_written 164 = .ok (.ifCond .eq 19, 3) := by decide +kernel
theorem d_Mo_written_167 : decode c_Mo_written 167 = .ok (.aload_n 0, 1) := by decide +kernel
theorem d_Mo_written_168 : decode c_Mo_written 168 = .ok (.getfield 35, 3) := by decide +kernel
theorem d_Mo_written_171 : decode c_Mo_written 171 = .ok (.aload_n 0, 1) := by decide +kernel
theorem d_Mo_written_172 : decode c_Mo_written 172 = .ok (.getfield 13, 3) := by decide +kernel
theorem d_Mo_written_175 : decode c_Mo_written 175 = .ok (.iload_n 1, 1) := by decide +kernel
theorem d_Mo_written_176 : decode c_Mo_written 176 = .ok (.iaload, 1) := by decide +kernel
theorem d_Mo_written_177 : decode c_Mo_written 177 = .ok (.iaload, 1) := by decide +kernel
theorem d_Mo_written_178 : decode c_Mo_written 178 = .ok (.bipush 32, 2) := by decide +kernel
theorem d_Mo_written_180 : decode c_Mo_written 180 = .ok (.if_icmp .eq 5, 3) := by decide +kernel
theorem d_Mo_written_183 : decode c_Mo_written 183 = .ok (.iconst 0, 1) := by decide +kernel
theorem d_Mo_written_184 : decode c_Mo_written 184 = .ok (.ireturn, 1) := by decide +kernel
theorem d_Mo_written_185 : decode c_Mo_written 185 = .ok (.aload_n 0, 1) := by decide +kernel
theorem d_Mo_written_186 : decode c_Mo_written 186 = .ok (.iload_n 1, 1) := by decide +kernel
theorem d_Mo_written_187 : decode c_Mo_written 187 = .ok (.iconst 0, 1) := by decide +kernel
theorem d_Mo_written_188 : decode c_Mo_written 188 = .ok (.aload_n 0, 1) := by decide +kernel
theorem d_Mo_written_189 : decode c_Mo_written 189 = .ok (.getfield 13, 3) := by decide +kernel
theorem d_Mo_written_192 : decode c_Mo_written 192 = .ok (.iload_n 1, 1) := by decide +kernel
theorem d_Mo_written_193 : decode c_Mo_written 193 = .ok (.iaload, 1) := by decide +kernel
theorem d_Mo_written_194 : decode c_Mo_written 194 = .ok (.iconst 0, 1) := by decide +kernel
theorem d_Mo_written_195 : decode c_Mo_written 195 = .ok (.aload_n 0, 1) := by decide +kernel
theorem d_Mo_written_196 : decode c_Mo_written 196 = .ok (.getfield 38, 3) := by decide +kernel
theorem d_Mo_written_199 : decode c_Mo_written 199 = .ok (.aload_n 0, 1) := by decide +kernel
theorem d_Mo_written_200 : decode c_Mo_written 200 = .ok (.getfield 13, 3) := by decide +kernel
theorem d_Mo_written_203 : decode c_Mo_written 203 = .ok (.iload_n 1, 1) := by decide +kernel
theorem d_Mo_written_204 : decode c_Mo_written 204 = .ok (.iaload, 1) := by decide +kernel
theorem d_Mo_written_205 : decode c_Mo_written 205 = .ok (.iaload, 1) := by decide +kernel
theorem d_Mo_written_206 : decode c_Mo_written 206 = .ok (.invokevirtual 80, 3) := by decide +kernel
theorem d_Mo_written_209 : decode c_Mo_written 209 = .ok (.ireturn, 1) := by decide +kernel
theorem d_Mo_input_0 : decode c_Mo_input 0 = .ok (.aload_n 0, 1) := by decide +kernel
theorem d_Mo_input_1 : decode c_Mo_input 1 = .ok (.getfield 180, 3) := by decide +kernel
theorem d_Mo_input_4 : decode c_Mo_input 4 = .ok (.bipush 16, 2) := by decide +kernel
theorem d_Mo_input_6 : decode c_Mo_input 6 = .ok (.if_icmp .ne 5, 3) := by decide +kernel
theorem d_Mo_input_9 : decode c_Mo_input 9 = .ok (.iconst 0, 1) := by decide +kernel
theorem d_Mo_input_10 : decode c_Mo_input 10 = .ok (.ireturn, 1) := by decide +kernel
theorem d_Mo_input_11 : decode c_Mo_input 11 = .ok (.aload_n 0, 1) := by decide +kernel
theorem d_Mo_input_12 : decode c_Mo_input 12 = .ok (.getfield 44, 3) := by decide +kernel
theorem d_Mo_input_15 : decode c_Mo_input 15 = .ok (.aload_n 0, 1) := by decide +kernel
theorem d_Mo_input_16 : decode c_Mo_input 16 = .ok (.getfield 180, 3) := by decide +kernel
theorem d_Mo_input_19 : decode c_Mo_input 19 = .ok (.iload_n 1, 1) := by decide +kernel
theorem d_Mo_input_20 : decode c_Mo_input 20 = .ok (.iastore, 1) := by decide +kernel
theorem d_Mo_input_21 : decode c_Mo_input 21 = .ok (.aload_n 0, 1) := by decide +kernel
theorem d_Mo_input_22 : decode c_Mo_input 22 = .ok (.dup, 1) := by decide +kernel
theorem d_Mo_input_23 : decode c_Mo_input 23 = .ok (.getfield 180, 3) := by decide +kernel
theorem d_Mo_input_26 : decode c_Mo_input 26 = .ok (.iconst 1, 1) := by decide +kernel
theorem d_Mo_input_27 : decode c_Mo_input 27 = .ok (.iadd, 1) := by decide +kernel
theorem d_Mo_input_28 : decode c_Mo_input 28 = .ok (.putfield 180, 3) := by decide +kernel
theorem d_Mo_input_31 : decode c_Mo_input 31 = .ok (.iconst 1, 1) := by decide +kernel
theorem d_Mo_input_32 : decode c_Mo_input 32 = .ok (.ireturn, 1) := by decide +kernel
theorem d_Mo_dry_0 : decode c_Mo_dry 0 = .ok (.aload_n 0, 1) := by decide +kernel
theorem d_Mo_dry_1 : decode c_Mo_dry 1 = .ok (.iconst 0, 1) := by decide +kernel
theorem d_Mo_dry_2 : decode c_Mo_dry 2 = .ok (.putfield 180, 3) := by decide +kernel
theorem d_Mo_dry_5 : decode c_Mo_dry 5 = .ok (.return_, 1) := by decide +kernel
theorem d_Mo_run_0 : decode c_Mo_run 0 = .ok (.iload_n 1, 1) := by decide +kernel
theorem d_Mo_run_1 : decode c_Mo_run 1 = .ok (.ifCond .lt 10, 3) := by decide +kernel
theorem d_Mo_run_4 : decode c_Mo_run 4 = .ok (.iload_n 1, 1) := by decide +kernel
theorem d_Mo_run_5 : decode c_Mo_run 5 = .ok (.sipush 2000, 3) := by decide +kernel
theorem d_Mo_run_8 : decode c_Mo_run 8 = .ok (.if_icmp .le 5, 3) := by decide +kernel
theorem d_Mo_run_11 : decode c_Mo_run 11 = .ok (.iconst (-1), 1) := by decide +kernel
theorem d_Mo_run_12 : decode c_Mo_run 12 = .ok (.ireturn, 1) := by decide +kernel
theorem d_Mo_run_13 : decode c_Mo_run 13 = .ok (.aload_n 0, 1) := by decide +kernel
theorem d_Mo_run_14 : decode c_Mo_run 14 = .ok (.iconst 0, 1) := by decide +kernel
theorem d_Mo_run_15 : decode c_Mo_run 15 = .ok (.putfield 198, 3) := by decide +kernel
theorem d_Mo_run_18 : decode c_Mo_run 18 = .ok (.aload_n 0, 1) := by decide +kernel
theorem d_Mo_run_19 : decode c_Mo_run 19 = .ok (.iconst 0, 1) := by decide +kernel
theorem d_Mo_run_20 : decode c_Mo_run 20 = .ok (.putfield 47, 3) := by decide +kernel
theorem d_Mo_run_23 : decode c_Mo_run 23 = .ok (.aload_n 0, 1) := by decide +kernel
theorem d_Mo_run_24 : decode c_Mo_run 24 = .ok (.iconst 0, 1) := by decide +kernel
theorem d_Mo_run_25 : decode c_Mo_run 25 = .ok (.putfield 183, 3) := by decide +kernel
theorem d_Mo_run_28 : decode c_Mo_run 28 = .ok (.aload_n 0, 1) := by decide +kernel
theorem d_Mo_run_29 : decode c_Mo_run 29 = .ok (.iconst 0, 1) := by decide +kernel
theorem d_Mo_run_30 : decode c_Mo_run 30 = .ok (.putfield 186, 3) := by decide +kernel
theorem d_Mo_run_33 : decode c_Mo_run 33 = .ok (.iconst 0, 1) := by decide +kernel
theorem d_Mo_run_34 : decode c_Mo_run 34 = .ok (.istore_n 2, 1) := by decide +kernel
theorem d_Mo_run_35 : decode c_Mo_run 35 = .ok (.iload_n 2, 1) := by decide +kernel
theorem d_Mo_run_36 : decode c_Mo_run 36 = .ok (.iconst 4, 1) := by decide +kernel
theorem d_Mo_run_37 : decode c_Mo_run 37 = .ok (.if_icmp .ge 16, 3) := by decide +kernel
theorem d_Mo_run_40 : decode c_Mo_run 40 = .ok (.aload_n 0, 1) := by decide +kernel
theorem d_Mo_run_41 : decode c_Mo_run 41 = .ok (.getfield 51, 3) := by decide +kernel
theorem d_Mo_run_44 : decode c_Mo_run 44 = .ok (.iload_n 2, 1) := by decide +kernel
theorem d_Mo_run_45 : decode c_Mo_run 45 = .ok (.iconst 0, 1) := by decide +kernel
theorem d_Mo_run_46 : decode c_Mo_run 46 = .ok (.iastore, 1) := by decide +kernel
theorem d_Mo_run_47 : decode c_Mo_run 47 = .ok (.iinc 2 1, 3) := by decide +kernel
theorem d_Mo_run_50 : decode c_Mo_run 50 = .ok (.goto (-15), 3) := by decide +kernel
theorem d_Mo_run_53 : decode c_Mo_run 53 = .ok (.iconst 0, 1) := by decide +kernel
theorem d_Mo_run_54 : decode c_Mo_run 54 = .ok (.istore_n 2, 1) := by decide +kernel
theorem d_Mo_run_55 : decode c_Mo_run 55 = .ok (.iload_n 2, 1) := by decide +kernel
theorem d_Mo_run_56 : decode c_Mo_run 56 = .ok (.bipush 40, 2) := by decide +kernel
theorem d_Mo_run_58 : decode c_Mo_run 58 = .ok (.if_icmp .ge 16, 3) := by decide +kernel
theorem d_Mo_run_61 : decode c_Mo_run 61 = .ok (.aload_n 0, 1) := by decide +kernel
theorem d_Mo_run_62 : decode c_Mo_run 62 = .ok (.getfield 54, 3) := by decide +kernel
theorem d_Mo_run_65 : decode c_Mo_run 65 = .ok (.iload_n 2, 1) := by decide +kernel
theorem d_Mo_run_66 : decode c_Mo_run 66 = .ok (.iconst 0, 1) := by decide +kernel
theorem d_Mo_run_67 : decode c_Mo_run 67 = .ok (.iastore, 1) := by decide +kernel
theorem d_Mo_run_68 : decode c_Mo_run 68 = .ok (.iinc 2 1, 3) := by decide +kernel
theorem d_Mo_run_71 : decode c_Mo_run 71 = .ok (.goto (-16), 3) := by decide +kernel
theorem d_Mo_run_74 : decode c_Mo_run 74 = .ok (.iconst 0, 1) := by decide +kernel
theorem d_Mo_run_75 : decode c_Mo_run 75 = .ok (.istore_n 2, 1) := by decide +kernel
theorem d_Mo_run_76 : decode c_Mo_run 76 = .ok (.iload_n 2, 1) := by decide +kernel
theorem d_Mo_run_77 : decode c_Mo_run 77 = .ok (.ifCond .ne 40, 3) := by decide +kernel
theorem d_Mo_run_80 : decode c_Mo_run 80 = .ok (.aload_n 0, 1) := by decide +kernel
theorem d_Mo_run_81 : decode c_Mo_run 81 = .ok (.getfield 47, 3) := by decide +kernel
theorem d_Mo_run_84 : decode c_Mo_run 84 = .ok (.aload_n 0, 1) := by decide +kernel
theorem d_Mo_run_85 : decode c_Mo_run 85 = .ok (.getfield 77, 3) := by decide +kernel
theorem d_Mo_run_88 : decode c_Mo_run 88 = .ok (.if_icmp .ge 29, 3) := by decide +kernel
theorem d_Mo_run_91 : decode c_Mo_run 91 = .ok (.aload_n 0, 1) := by decide +kernel
theorem d_Mo_run_92 : decode c_Mo_run 92 = .ok (.getfield 198, 3) := by decide +kernel
theorem d_Mo_run_95 : decode c_Mo_run 95 = .ok (.iload_n 1, 1) := by decide +kernel
theorem d_Mo_run_96 : decode c_Mo_run 96 = .ok (.if_icmp .ge 21, 3) := by decide +kernel
theorem d_Mo_run_99 : decode c_Mo_run 99 = .ok (.aload_n 0, 1) := by decide +kernel
theorem d_Mo_run_100 : decode c_Mo_run 100 = .ok (.invokevirtual 201, 3) := by decide +kernel
theorem d_Mo_run_103 : decode c_Mo_run 103 = .ok (.istore_n 2, 1) := by decide +kernel
theorem d_Mo_run_104 : decode c_Mo_run 104 = .ok (.aload_n 0, 1) := by decide +kernel
theorem d_Mo_run_105 : decode c_Mo_run 105 = .ok (.dup, 1) := by decide +kernel
theorem d_Mo_run_106 : decode c_Mo_run 106 = .ok (.getfield 198, 3) := by decide +kernel
theorem d_Mo_run_109 : decode c_Mo_run 109 = .ok (.iconst 1, 1) := by decide +kernel
theorem d_Mo_run_110 : decode c_Mo_run 110 = .ok (.iadd, 1) := by decide +kernel
theorem d_Mo_run_111 : decode c_Mo_run 111 = .ok (.putfield 198, 3) := by decide +kernel
theorem d_Mo_run_114 : decode c_Mo_run 114 = .ok (.goto (-38), 3) := by decide +kernel
theorem d_Mo_run_117 : decode c_Mo_run 117 = .ok (.iload_n 2, 1) := by decide +kernel
theorem d_Mo_run_118 : decode c_Mo_run 118 = .ok (.ifCond .ne 18, 3) := by decide +kernel
theorem d_Mo_run_121 : decode c_Mo_run 121 = .ok (.aload_n 0, 1) := by decide +kernel
theorem d_Mo_run_122 : decode c_Mo_run 122 = .ok (.getfield 47, 3) := by decide +kernel
theorem d_Mo_run_125 : decode c_Mo_run 125 = .ok (.aload_n 0, 1) := by decide +kernel
theorem d_Mo_run_126 : decode c_Mo_run 126 = .ok (.getfield 77, 3) := by decide +kernel
theorem d_Mo_run_129 : decode c_Mo_run 129 = .ok (.if_icmp .lt 7, 3) := by decide +kernel
theorem d_Mo_run_132 : decode c_Mo_run 132 = .ok (.iconst 1, 1) := by decide +kernel
theorem d_Mo_run_133 : decode c_Mo_run 133 = .ok (.goto 4, 3) := by decide +kernel
theorem d_Mo_run_136 : decode c_Mo_run 136 = .ok (.iload_n 2, 1) := by decide +kernel
theorem d_Mo_run_137 : decode c_Mo_run 137 = .ok (.istore_n 2, 1) := by decide +kernel
theorem d_Mo_run_138 : decode c_Mo_run 138 = .ok (.aload_n 0, 1) := by decide +kernel
theorem d_Mo_run_139 : decode c_Mo_run 139 = .ok (.iload_n 2, 1) := by decide +kernel
theorem d_Mo_run_140 : decode c_Mo_run 140 = .ok (.iconst 1, 1) := by decide +kernel
theorem d_Mo_run_141 : decode c_Mo_run 141 = .ok (.if_icmp .ne 7, 3) := by decide +kernel
theorem d_Mo_run_144 : decode c_Mo_run 144 = .ok (.iconst (-1), 1) := by decide +kernel
theorem d_Mo_run_145 : decode c_Mo_run 145 = .ok (.goto 7, 3) := by decide +kernel
theorem d_Mo_run_148 : decode c_Mo_run 148 = .ok (.aload_n 0, 1) := by decide +kernel
theorem d_Mo_run_149 : decode c_Mo_run 149 = .ok (.getfield 47, 3) := by decide +kernel
theorem d_Mo_run_152 : decode c_Mo_run 152 = .ok (.putfield 47, 3) := by decide +kernel
theorem d_Mo_run_155 : decode c_Mo_run 155 = .ok (.iload_n 2, 1) := by decide +kernel
theorem d_Mo_run_156 : decode c_Mo_run 156 = .ok (.ireturn, 1) := by decide +kernel
theorem d_Mo_step_0 : decode c_Mo_step 0 = .ok (.aload_n 0, 1) := by decide +kernel
theorem d_Mo_step_1 : decode c_Mo_step 1 = .ok (.getfield 47, 3) := by decide +kernel
theorem d_Mo_step_4 : decode c_Mo_step 4 = .ok (.istore_n 1, 1) := by decide +kernel
theorem d_Mo_step_5 : decode c_Mo_step 5 = .ok (.aload_n 0, 1) := by decide +kernel
theorem d_Mo_step_6 : decode c_Mo_step 6 = .ok (.getfield 7, 3) := by decide +kernel
theorem d_Mo_step_9 : decode c_Mo_step 9 = .ok (.iload_n 1, 1) := by decide +kernel
theorem d_Mo_step_10 : decode c_Mo_step 10 = .ok (.iaload, 1) := by decide +kernel
theorem d_Mo_step_11 : decode c_Mo_step 11 = .ok (.istore_n 2, 1) := by decide +kernel
theorem d_Mo_step_12 : decode c_Mo_step 12 = .ok (.aload_n 0, 1) := by decide +kernel
theorem d_Mo_step_13 : decode c_Mo_step 13 = .ok (.getfield 13, 3) := by decide +kernel
theorem d_Mo_step_16 : decode c_Mo_step 16 = .ok (.iload_n 1, 1) := by decide +kernel
theorem d_Mo_step_17 : decode c_Mo_step 17 = .ok (.iaload, 1) := by decide +kernel
theorem d_Mo_step_18 : decode c_Mo_step 18 = .ok (.istore_n 3, 1) := by decide +kernel
theorem d_Mo_step_19 : decode c_Mo_step 19 = .ok (.aload_n 0, 1) := by decide +kernel
theorem d_Mo_step_20 : decode c_Mo_step 20 = .ok (.getfield 19, 3) := by decide +kernel
theorem d_Mo_step_23 : decode c_Mo_step 23 = .ok (.iload_n 1, 1) := by decide +kernel
theorem d_Mo_step_24 : decode c_Mo_step 24 = .ok (.iaload, 1) := by decide +kernel
theorem d_Mo_step_25 : decode c_Mo_step 25 = .ok (.istore 4, 2) := by decide +kernel
theorem d_Mo_step_27 : decode c_Mo_step 27 = .ok (.iload_n 2, 1) := by decide +kernel
theorem d_Mo_step_28 : decode c_Mo_step 28 = .ok (.iconst 5, 1) := by decide +kernel
theorem d_Mo_step_29 : decode c_Mo_step 29 = .ok (.if_icmp .ne 15, 3) := by decide +kernel
theorem d_Mo_step_32 : decode c_Mo_step 32 = .ok (.aload_n 0, 1) := by decide +kernel
theorem d_Mo_step_33 : decode c_Mo_step 33 = .ok (.getfield 51, 3) := by decide +kernel
theorem d_Mo_step_36 : decode c_Mo_step 36 = .ok (.iload 4, 2) := by decide +kernel
theorem d_Mo_step_38 : decode c_Mo_step 38 = .ok (.iaload, 1) := by decide +kernel
theorem d_Mo_step_39 : decode c_Mo_step 39 = .ok (.ifCond .ne 5, 3) := by decide +kernel
theorem d_Mo_step_42 : decode c_Mo_step 42 = .ok (.iconst 2, 1) := by decide +kernel
theorem d_Mo_step_43 : decode c_Mo_step 43 = .ok (.ireturn, 1) := by decide +kernel
theorem d_Mo_step_44 : decode c_Mo_step 44 = .ok (.iload_n 2, 1) := by decide +kernel
theorem d_Mo_step_45 : decode c_Mo_step 45 = .ok (.bipush 9, 2) := by decide +kernel
theorem d_Mo_step_47 : decode c_Mo_step 47 = .ok (.if_icmp .eq 33, 3) := by decide +kernel
theorem d_Mo_step_50 : decode c_Mo_step 50 = .ok (.iload_n 2, 1) := by decide +kernel
theorem d_Mo_step_51 : decode c_Mo_step 51 = .ok (.bipush 7, 2) := by decide +kernel
theorem d_Mo_step_53 : decode c_Mo_step 53 = .ok (.if_icmp .ne 12, 3) := by decide +kernel
theorem d_Mo_step_56 : decode c_Mo_step 56 = .ok (.aload_n 0, 1) := by decide +kernel
theorem d_Mo_step_57 : decode c_Mo_step 57 = .ok (.getfield 51, 3) := by decide +kernel
theorem d_Mo_step_60 : decode c_Mo_step 60 = .ok (.iload_n 3, 1) := by decide +kernel
theorem d_Mo_step_61 : decode c_Mo_step 61 = .ok (.iaload, 1) := by decide +kernel
theorem d_Mo_step_62 : decode c_Mo_step 62 = .ok (.ifCond .eq 18, 3) := by decide +kernel
theorem d_Mo_step_65 : decode c_Mo_step 65 = .ok (.iload_n 2, 1) := by decide +kernel
theorem d_Mo_step_66 : decode c_Mo_step 66 = .ok (.bipush 8, 2) := by decide +kernel
theorem d_Mo_step_68 : decode c_Mo_step 68 = .ok (.if_icmp .ne 16, 3) := by decide +kernel
theorem d_Mo_step_71 : decode c_Mo_step 71 = .ok (.aload_n 0, 1) := by decide +kernel
theorem d_Mo_step_72 : decode c_Mo_step 72 = .ok (.getfield 51, 3) := by decide +kernel
theorem d_Mo_step_75 : decode c_Mo_step 75 = .ok (.iload_n 3, 1) := by decide +kernel
theorem d_Mo_step_76 : decode c_Mo_step 76 = .ok (.iaload, 1) := by decide +kernel
theorem d_Mo_step_77 : decode c_Mo_step 77 = .ok (.ifCond .ge 7, 3) := by decide +kernel
theorem d_Mo_step_80 : decode c_Mo_step 80 = .ok (.iconst 1, 1) := by decide +kernel
theorem d_Mo_step_81 : decode c_Mo_step 81 = .ok (.goto 4, 3) := by decide +kernel
theorem d_Mo_step_84 : decode c_Mo_step 84 = .ok (.iconst 0, 1) := by decide +kernel
theorem d_Mo_step_85 : decode c_Mo_step 85 = .ok (.istore 5, 2) := by decide +kernel
theorem d_Mo_step_87 : decode c_Mo_step 87 = .ok (.iload_n 2, 1) := by decide +kernel
theorem d_Mo_step_88 : decode c_Mo_step 88 = .ok (.ifCond .ne 14, 3) := by decide +kernel
theorem d_Mo_step_91 : decode c_Mo_step 91 = .ok (.aload_n 0, 1) := by decide +kernel
theorem d_Mo_step_92 : decode c_Mo_step 92 = .ok (.getfield 51, 3) := by decide +kernel
theorem d_Mo_step_95 : decode c_Mo_step 95 = .ok (.iload_n 3, 1) := by decide +kernel
theorem d_Mo_step_96 : decode c_Mo_step 96 = .ok (.iload 4, 2) := by decide +kernel
theorem d_Mo_step_98 : decode c_Mo_step 98 = .ok (.iastore, 1) := by decide +kernel
theorem d_Mo_step_99 : decode c_Mo_step 99 = .ok (.goto 101, 3) := by decide +kernel
theorem d_Mo_step_102 : decode c_Mo_step 102 = .ok (.iload_n 2, 1) := by decide +kernel
theorem d_Mo_step_103 : decode c_Mo_step 103 = .ok (.iconst 1, 1) := by decide +kernel
theorem d_Mo_step_104 : decode c_Mo_step 104 = .ok (.if_icmp .ne 23, 3) := by decide +kernel
theorem d_Mo_step_107 : decode c_Mo_step 107 = .ok (.aload_n 0, 1) := by decide +kernel
theorem d_Mo_step_108 : decode c_Mo_step 108 = .ok (.getfield 51, 3) := by decide +kernel
theorem d_Mo_step_111 : decode c_Mo_step 111 = .ok (.iload_n 3, 1) := by decide +kernel
theorem d_Mo_step_112 : decode c_Mo_step 112 = .ok (.aload_n 0, 1) := by decide +kernel
theorem d_Mo_step_113 : decode c_Mo_step 113 = .ok (.getfield 51, 3) := by decide +kernel
theorem d_Mo_step_116 : decode c_Mo_step 116 = .ok (.aload_n 0, 1) := by decide +kernel
theorem d_Mo_step_117 : decode c_Mo_step 117 = .ok (.getfield 16, 3) := by decide +kernel
theorem d_Mo_step_120 : decode c_Mo_step 120 = .ok (.iload_n 1, 1) := by decide +kernel
theorem d_Mo_step_121 : decode c_Mo_step 121 = .ok (.iaload, 1) := by decide +kernel
theorem d_Mo_step_122 : decode c_Mo_step 122 = .ok (.iaload, 1) := by decide +kernel
theorem d_Mo_step_123 : decode c_Mo_step 123 = .ok (.iastore, 1) := by decide +kernel
theorem d_Mo_step_124 : decode c_Mo_step 124 = .ok (.goto 76, 3) := by decide +kernel
theorem d_Mo_step_127 : decode c_Mo_step 127 = .ok (.iload_n 2, 1) := by decide +kernel
theorem d_Mo_step_128 : decode c_Mo_step 128 = .ok (.iconst 1, 1) := by decide +kernel
theorem d_Mo_step_129 : decode c_Mo_step 129 = .ok (.if_icmp .le 41, 3) := by decide +kernel
theorem d_Mo_step_132 : decode c_Mo_step 132 = .ok (.iload_n 2, 1) := by decide +kernel
theorem d_Mo_step_133 : decode c_Mo_step 133 = .ok (.bipush 6, 2) := by decide +kernel
theorem d_Mo_step_135 : decode c_Mo_step 135 = .ok (.if_icmp .ge 35, 3) := by decide +kernel
theorem d_Mo_step_138 : decode c_Mo_step 138 = .ok (.aload_n 0, 1) := by decide +kernel
theorem d_Mo_step_139 : decode c_Mo_step 139 = .ok (.getfield 51, 3) := by decide +kernel
theorem d_Mo_step_142 : decode c_Mo_step 142 = .ok (.iload_n 3, 1) := by decide +kernel
theorem d_Mo_step_143 : decode c_Mo_step 143 = .ok (.aload_n 0, 1) := by decide +kernel
theorem d_Mo_step_144 : decode c_Mo_step 144 = .ok (.iload_n 2, 1) := by decide +kernel
theorem d_Mo_step_145 : decode c_Mo_step 145 = .ok (.aload_n 0, 1) := by decide +kernel
theorem d_Mo_step_146 : decode c_Mo_step 146 = .ok (.getfield 51, 3) := by decide +kernel
theorem d_Mo_step_149 : decode c_Mo_step 149 = .ok (.aload_n 0, 1) := by decide +kernel
theorem d_Mo_step_150 : decode c_Mo_step 150 = .ok (.getfield 16, 3) := by decide +kernel
theorem d_Mo_step_153 : decode c_Mo_step 153 = .ok (.iload_n 1, 1) := by decide +kernel
theorem d_Mo_step_154 : decode c_Mo_step 154 = .ok (.iaload, 1) := by decide +kernel
theorem d_Mo_step_155 : decode c_Mo_step 155 = .ok (.iaload, 1) := by decide +kernel
theorem d_Mo_step_156 : decode c_Mo_step 156 = .ok (.aload_n 0, 1) := by decide +kernel
theorem d_Mo_step_157 : decode c_Mo_step 157 = .ok (.getfield 51, 3) := by decide +kernel
theorem d_Mo_step_160 : decode c_Mo_step 160 = .ok (.iload 4, 2) := by decide +kernel
theorem d_Mo_step_162 : decode c_Mo_step 162 = .ok (.iaload, 1) := by decide +kernel
theorem d_Mo_step_163 : decode c_Mo_step 163 = .ok (.invokevirtual 189, 3) := by decide +kernel
theorem d_Mo_step_166 : decode c_Mo_step 166 = .ok (.iastore, 1) := by decide +kernel
theorem d_Mo_step_167 : decode c_Mo_step 167 = .ok (.goto 33, 3) := by decide +kernel
theorem d_Mo_step_170 : decode c_Mo_step 170 = .ok (.iload_n 2, 1) := by decide +kernel
theorem d_Mo_step_171 : decode c_Mo_step 171 = .ok (.bipush 6, 2) := by decide +kernel
theorem d_Mo_step_173 : decode c_Mo_step 173 = .ok (.if_icmp .ne 11, 3) := by decide +kernel
theorem d_Mo_step_176 : decode c_Mo_step 176 = .ok (.aload_n 0, 1) := by decide +kernel
theorem d_Mo_step_177 : decode c_Mo_step 177 = .ok (.iload_n 3, 1) := by decide +kernel
theorem d_Mo_step_178 : decode c_Mo_step 178 = .ok (.invokevirtual 192, 3) := by decide +kernel
theorem d_Mo_step_181 : decode c_Mo_step 181 = .ok (.goto 19, 3) := by decide +kernel
theorem d_Mo_step_184 : decode c_Mo_step 184 = .ok (.iload_n 2, 1) := by decide +kernel
theorem d_Mo_step_185 : decode c_Mo_step 185 = .ok (.bipush 10, 2) := by decide +kernel
theorem d_Mo_step_187 : decode c_Mo_step 187 = .ok (.if_icmp .ne 13, 3) := by decide +kernel
theorem d_Mo_step_190 : decode c_Mo_step 190 = .ok (.aload_n 0, 1) := by decide +kernel
theorem d_Mo_step_191 : decode c_Mo_step 191 = .ok (.aload_n 0, 1) := by decide +kernel
theorem d_Mo_step_192 : decode c_Mo_step 192 = .ok (.getfield 51, 3) := by decide +kernel
theorem d_Mo_step_195 : decode c_Mo_step 195 = .ok (.iload_n 3, 1) := by decide +kernel
theorem d_Mo_step_196 : decode c_Mo_step 196 = .ok (.iaload, 1) := by decide +kernel
theorem d_Mo_step_197 : decode c_Mo_step 197 = .ok (.invokevirtual 195, 3) := by decide +kernel
theorem d_Mo_step_200 : decode c_Mo_step 200 = .ok (.aload_n 0, 1) := by decide +kernel
theorem d_Mo_step_201 : decode c_Mo_step 201 = .ok (.iload 5, 2) := by decide +kernel
theorem d_Mo_step_203 : decode c_Mo_step 203 = .ok (.ifCond .eq 8, 3) := by decide +kernel
theorem d_Mo_step_206 : decode c_Mo_step 206 = .ok (.iload 4, 2) := by decide +kernel
theorem d_Mo_step_208 : decode c_Mo_step 208 = .ok (.goto 6, 3) := by decide +kernel
theorem d_Mo_step_211 : decode c_Mo_step 211 = .ok (.iload_n 1, 1) := by decide +kernel
theorem d_Mo_step_212 : decode c_Mo_step 212 = .ok (.iconst 1, 1) := by decide +kernel
theorem d_Mo_step_213 : decode c_Mo_step 213 = .ok (.iadd, 1) := by decide +kernel
theorem d_Mo_step_214 : decode c_Mo_step 214 = .ok (.putfield 47, 3) := by decide +kernel
theorem d_Mo_step_217 : decode c_Mo_step 217 = .ok (.iload_n 2, 1) := by decide +kernel
theorem d_Mo_step_218 : decode c_Mo_step 218 = .ok (.bipush 11, 2) := by decide +kernel
theorem d_Mo_step_220 : decode c_Mo_step 220 = .ok (.if_icmp .ne 7, 3) := by decide +kernel
theorem d_Mo_step_223 : decode c_Mo_step 223 = .ok (.iconst 1, 1) := by decide +kernel
theorem d_Mo_step_224 : decode c_Mo_step 224 = .ok (.goto 4, 3) := by decide +kernel
theorem d_Mo_step_227 : decode c_Mo_step 227 = .ok (.iconst 0, 1) := by decide +kernel
theorem d_Mo_step_228 : decode c_Mo_step 228 = .ok (.ireturn, 1) := by decide +kernel
theorem d_Mo_worth_0 : decode c_Mo_worth 0 = .ok (.iload_n 1, 1) := by decide +kernel
theorem d_Mo_worth_1 : decode c_Mo_worth 1 = .ok (.tableswitch 39 2 4 #[27, 31, 35], 27) := by decide +kernel
